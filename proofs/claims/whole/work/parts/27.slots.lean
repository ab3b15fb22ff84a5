set_option maxRecDepth 20000 in
theorem ggX9_keep_X9_isSlot : GoodIn wsX9_keep wsX9_isSlot := goodIn_r _ [9] (by decide +kernel) (by decide +kernel)
set_option maxRecDepth 20000 in
theorem gX9_keep_X9_isSlot : GoodIn wsX9_keep (va_wsS RX9 259 yX9_isSlot wsX9_isSlot) := goodIn_app (goodIn_of _ (by decide +kernel)) ggX9_keep_X9_isSlot
set_option maxRecDepth 20000 in
theorem ggX9_keep_X1_init : GoodIn wsX9_keep wsX1_init := goodIn_r _ [12, 13, 14, 15, 16, 17, 18, 4, 19, 20, 21, 22, 23, 24, 25, 26, 46, 47, 48, 49, 50, 51, 52] (by decide +kernel) (by decide +kernel)
set_option maxRecDepth 20000 in
theorem gX9_keep_X1_init : GoodIn wsX9_keep (wsX1_init) := ggX9_keep_X1_init
set_option maxRecDepth 20000 in
theorem ggX9_keep_X1_copyFrom : GoodIn wsX9_keep wsX1_copyFrom := goodIn_r _ [30, 20, 21, 25, 26, 22, 23, 24, 46, 47, 48, 49, 50, 51, 52] (by decide +kernel) (by decide +kernel)
set_option maxRecDepth 20000 in
theorem gX9_keep_X1_copyFrom : GoodIn wsX9_keep (wsV RX9 256 RX1 yX1_copyFrom wsX1_copyFrom) := goodIn_app (goodIn_of _ (by decide +kernel)) ggX9_keep_X1_copyFrom
set_option maxRecDepth 20000 in
theorem ggX9_keep_X1_size : GoodIn wsX9_keep wsX1_size := goodIn_r _ [34, 20, 21, 46, 47, 48, 49, 50, 51, 52] (by decide +kernel) (by decide +kernel)
set_option maxRecDepth 20000 in
theorem gX9_keep_X1_size : GoodIn wsX9_keep (wsV RX9 96 RX1 yX1_size wsX1_size) := goodIn_app (goodIn_of _ (by decide +kernel)) ggX9_keep_X1_size
theorem dX9_keep_0 : decode cX9_keep 0 = .ok (.iload_n 1, 1) := by decide +kernel
theorem dX9_keep_1 : decode cX9_keep 1 = .ok (.invokestatic 259, 3) := by decide +kernel
theorem dX9_keep_4 : decode cX9_keep 4 = .ok (.ifCond .ne 5, 3) := by decide +kernel
theorem dX9_keep_7 : decode cX9_keep 7 = .ok (.iconst (-1), 1) := by decide +kernel
theorem dX9_keep_8 : decode cX9_keep 8 = .ok (.ireturn, 1) := by decide +kernel
theorem dX9_keep_9 : decode cX9_keep 9 = .ok (.aload_n 0, 1) := by decide +kernel
theorem dX9_keep_10 : decode cX9_keep 10 = .ok (.getfield 26, 3) := by decide +kernel
theorem dX9_keep_13 : decode cX9_keep 13 = .ok (.iload_n 1, 1) := by decide +kernel
theorem dX9_keep_14 : decode cX9_keep 14 = .ok (.aaload, 1) := by decide +kernel
theorem dX9_keep_15 : decode cX9_keep 15 = .ok (.astore_n 2, 1) := by decide +kernel
theorem dX9_keep_16 : decode cX9_keep 16 = .ok (.aload_n 2, 1) := by decide +kernel
theorem dX9_keep_17 : decode cX9_keep 17 = .ok (.ifnonnull 18, 3) := by decide +kernel
theorem dX9_keep_20 : decode cX9_keep 20 = .ok (.new 16, 3) := by decide +kernel
theorem dX9_keep_23 : decode cX9_keep 23 = .ok (.dup, 1) := by decide +kernel
theorem dX9_keep_24 : decode cX9_keep 24 = .ok (.invokespecial 18, 3) := by decide +kernel
theorem dX9_keep_27 : decode cX9_keep 27 = .ok (.astore_n 2, 1) := by decide +kernel
theorem dX9_keep_28 : decode cX9_keep 28 = .ok (.aload_n 0, 1) := by decide +kernel
theorem dX9_keep_29 : decode cX9_keep 29 = .ok (.getfield 26, 3) := by decide +kernel
theorem dX9_keep_32 : decode cX9_keep 32 = .ok (.iload_n 1, 1) := by decide +kernel
theorem dX9_keep_33 : decode cX9_keep 33 = .ok (.aload_n 2, 1) := by decide +kernel
theorem dX9_keep_34 : decode cX9_keep 34 = .ok (.aastore, 1) := by decide +kernel
theorem dX9_keep_35 : decode cX9_keep 35 = .ok (.aload_n 2, 1) := by decide +kernel
theorem dX9_keep_36 : decode cX9_keep 36 = .ok (.aload_n 0, 1) := by decide +kernel
theorem dX9_keep_37 : decode cX9_keep 37 = .ok (.getfield 19, 3) := by decide +kernel
theorem dX9_keep_40 : decode cX9_keep 40 = .ok (.invokevirtual 256, 3) := by decide +kernel
theorem dX9_keep_43 : decode cX9_keep 43 = .ok (.aload_n 0, 1) := by decide +kernel
theorem dX9_keep_44 : decode cX9_keep 44 = .ok (.getfield 19, 3) := by decide +kernel
theorem dX9_keep_47 : decode cX9_keep 47 = .ok (.invokevirtual 96, 3) := by decide +kernel
theorem dX9_keep_50 : decode cX9_keep 50 = .ok (.ireturn, 1) := by decide +kernel
set_option maxRecDepth 20000 in
theorem ggX9_again_X9_isSlot : GoodIn wsX9_again wsX9_isSlot := goodIn_r _ [6] (by decide +kernel) (by decide +kernel)
set_option maxRecDepth 20000 in
theorem gX9_again_X9_isSlot : GoodIn wsX9_again (va_wsS RX9 259 yX9_isSlot wsX9_isSlot) := goodIn_app (goodIn_of _ (by decide +kernel)) ggX9_again_X9_isSlot
set_option maxRecDepth 20000 in
theorem ggX9_again_X1_copyFrom : GoodIn wsX9_again wsX1_copyFrom := goodIn_r _ [11, 12, 13, 14, 15, 16, 17, 18, 34, 35, 36, 37, 38, 39, 40] (by decide +kernel) (by decide +kernel)
set_option maxRecDepth 20000 in
theorem gX9_again_X1_copyFrom : GoodIn wsX9_again (wsV RX9 256 RX1 yX1_copyFrom wsX1_copyFrom) := goodIn_app (goodIn_of _ (by decide +kernel)) ggX9_again_X1_copyFrom
set_option maxRecDepth 20000 in
theorem ggX9_again_X1_size : GoodIn wsX9_again wsX1_size := goodIn_r _ [22, 12, 13, 34, 35, 36, 37, 38, 39, 40] (by decide +kernel) (by decide +kernel)
set_option maxRecDepth 20000 in
theorem gX9_again_X1_size : GoodIn wsX9_again (wsV RX9 96 RX1 yX1_size wsX1_size) := goodIn_app (goodIn_of _ (by decide +kernel)) ggX9_again_X1_size
theorem dX9_again_0 : decode cX9_again 0 = .ok (.iload_n 1, 1) := by decide +kernel
theorem dX9_again_1 : decode cX9_again 1 = .ok (.invokestatic 259, 3) := by decide +kernel
theorem dX9_again_4 : decode cX9_again 4 = .ok (.ifCond .ne 5, 3) := by decide +kernel
theorem dX9_again_7 : decode cX9_again 7 = .ok (.iconst (-1), 1) := by decide +kernel
theorem dX9_again_8 : decode cX9_again 8 = .ok (.ireturn, 1) := by decide +kernel
theorem dX9_again_9 : decode cX9_again 9 = .ok (.aload_n 0, 1) := by decide +kernel
theorem dX9_again_10 : decode cX9_again 10 = .ok (.getfield 26, 3) := by decide +kernel
theorem dX9_again_13 : decode cX9_again 13 = .ok (.iload_n 1, 1) := by decide +kernel
theorem dX9_again_14 : decode cX9_again 14 = .ok (.aaload, 1) := by decide +kernel
theorem dX9_again_15 : decode cX9_again 15 = .ok (.astore_n 2, 1) := by decide +kernel
theorem dX9_again_16 : decode cX9_again 16 = .ok (.aload_n 2, 1) := by decide +kernel
theorem dX9_again_17 : decode cX9_again 17 = .ok (.ifnonnull 6, 3) := by decide +kernel
theorem dX9_again_20 : decode cX9_again 20 = .ok (.bipush (-3), 2) := by decide +kernel
theorem dX9_again_22 : decode cX9_again 22 = .ok (.ireturn, 1) := by decide +kernel
theorem dX9_again_23 : decode cX9_again 23 = .ok (.aload_n 0, 1) := by decide +kernel
theorem dX9_again_24 : decode cX9_again 24 = .ok (.getfield 19, 3) := by decide +kernel
theorem dX9_again_27 : decode cX9_again 27 = .ok (.aload_n 2, 1) := by decide +kernel
theorem dX9_again_28 : decode cX9_again 28 = .ok (.invokevirtual 256, 3) := by decide +kernel
theorem dX9_again_31 : decode cX9_again 31 = .ok (.aload_n 0, 1) := by decide +kernel
theorem dX9_again_32 : decode cX9_again 32 = .ok (.getfield 19, 3) := by decide +kernel
theorem dX9_again_35 : decode cX9_again 35 = .ok (.invokevirtual 96, 3) := by decide +kernel
theorem dX9_again_38 : decode cX9_again 38 = .ok (.ireturn, 1) := by decide +kernel
theorem slot_in {x : Int32} (h : ¬ fX9_isSlot x = 0) : vp_in x 2 := by
  unfold fX9_isSlot at h
  by_cases h1 : x < 0
  · rw [if_pos h1] at h; exact absurd rfl h
  · rw [if_neg h1] at h
    by_cases h2 : (2 : Int32) ≤ x
    · rw [if_pos h2] at h; exact absurd rfl h
    · rw [vp_in_iff]
      rw [Int32.lt_iff_toInt_lt] at h1
      rw [Int32.le_iff_toInt_le] at h2
      have e0 : (0 : Int32).toInt = 0 := rfl
      have e2 : (2 : Int32).toInt = 2 := rfl
      omega
theorem inwX9_keep_X1 : ∀ w ∈ wsX10, w ∈ wsX9_keep := fun _ h => List.mem_cons_of_mem _ (List.mem_append_right _ h)
theorem inwX9_keep_X9 : ∀ w ∈ wsX90, w ∈ wsX9_keep := fun _ h => List.mem_cons_of_mem _ (List.mem_append_left _ (List.mem_append_right _ h))
abbrev rmX9_keep_b : Room := { frames := 1, cells := 0, slots := 0, locals := 21 }
abbrev rmX9_keep : Room := { frames := 3, cells := 0, slots := 0, locals := 60 }
theorem hdX9_keep : yX9_keep.cls = RX9 ∧ yX9_keep.cls ≠ "java/lang/invoke/MethodHandle" ∧ yX9_keep.cls ≠ "java/lang/invoke/VarHandle" ∧ (parseMethodDescriptor yX9_keep.desc).map (fun d => d.parameters.length) = some 1 := by decide +kernel
set_option maxHeartbeats 4000000 in
set_option maxRecDepth 100000 in
theorem KX9_keep_bad {l : Launch} {D : va_G} {cy : Nat → ClassId} {hw : Nat} {p1 : Int32} (h0 : fX9_isSlot p1 = 0) : CtI l yX9_keep wsX9_keep rmX9_keep_b D cy [.ref hw, .int p1] ([]) [] (-1) := by
  refine CtI.of (cc := cX9_keep) (maxL := 3) (ret := some .int) (own := RX9) (by decide) rfl rfl (Nat.le_of_ble_eq_true rfl) ?_
  intro p e s m args below meth c A Q X hQ hK hP hD hS ls hl
  obtain ⟨hx, hb, hml, hown, hts, hr, hlocks, hA, hZ⟩ := id X
  have hl : lv_has ls 3 [(0, .ref hw), (1, .int p1)] := hl
  refine lv_iload_n hx hb dX9_keep_0 rfl (lv_at hl 1 rfl) ?_
  refine ctS_i0 (r := (fX9_isSlot p1)) (wc := []) (As := [.int p1]) (rest := []) X hK hP hD hS [] rfl rfl rfl (KX9_isSlot rfl _) (va_cwS 1 hts gX9_keep_X9_isSlot rfl rfl rfl hdX9_isSlot ⟨Nat.le_of_ble_eq_true rfl, Nat.le_of_ble_eq_true rfl⟩) rfl hl rfl (Nat.le_of_ble_eq_true rfl) dX9_keep_1 (Nat.zero_le _) (Nat.zero_le _) (fun H locs hP hS => ?_)
  refine lv_if_ne (tgt := 9) hx hb dX9_keep_4 (by decide) (fun c1 => absurd h0 c1) (fun c1 => ?_)
  refine lv_iconst (v := (-1)) hx hb dX9_keep_7 (by decide) ?_
  exact ct_iret X hQ hK hP hD hS rfl dX9_keep_8
theorem inwX9_again_X1 : ∀ w ∈ wsX10, w ∈ wsX9_again := fun _ h => List.mem_cons_of_mem _ (List.mem_append_right _ h)
theorem inwX9_again_X9 : ∀ w ∈ wsX90, w ∈ wsX9_again := fun _ h => List.mem_cons_of_mem _ (List.mem_append_left _ (List.mem_append_right _ h))
abbrev rmX9_again_b : Room := { frames := 1, cells := 0, slots := 0, locals := 21 }
abbrev rmX9_again : Room := { frames := 3, cells := 0, slots := 0, locals := 60 }
theorem hdX9_again : yX9_again.cls = RX9 ∧ yX9_again.cls ≠ "java/lang/invoke/MethodHandle" ∧ yX9_again.cls ≠ "java/lang/invoke/VarHandle" ∧ (parseMethodDescriptor yX9_again.desc).map (fun d => d.parameters.length) = some 1 := by decide +kernel
set_option maxHeartbeats 4000000 in
set_option maxRecDepth 100000 in
theorem KX9_again_bad {l : Launch} {D : va_G} {cy : Nat → ClassId} {hw : Nat} {p1 : Int32} (h0 : fX9_isSlot p1 = 0) : CtI l yX9_again wsX9_again rmX9_again_b D cy [.ref hw, .int p1] ([]) [] (-1) := by
  refine CtI.of (cc := cX9_again) (maxL := 3) (ret := some .int) (own := RX9) (by decide) rfl rfl (Nat.le_of_ble_eq_true rfl) ?_
  intro p e s m args below meth c A Q X hQ hK hP hD hS ls hl
  obtain ⟨hx, hb, hml, hown, hts, hr, hlocks, hA, hZ⟩ := id X
  have hl : lv_has ls 3 [(0, .ref hw), (1, .int p1)] := hl
  refine lv_iload_n hx hb dX9_again_0 rfl (lv_at hl 1 rfl) ?_
  refine ctS_i0 (r := (fX9_isSlot p1)) (wc := []) (As := [.int p1]) (rest := []) X hK hP hD hS [] rfl rfl rfl (KX9_isSlot rfl _) (va_cwS 1 hts gX9_again_X9_isSlot rfl rfl rfl hdX9_isSlot ⟨Nat.le_of_ble_eq_true rfl, Nat.le_of_ble_eq_true rfl⟩) rfl hl rfl (Nat.le_of_ble_eq_true rfl) dX9_again_1 (Nat.zero_le _) (Nat.zero_le _) (fun H locs hP hS => ?_)
  refine lv_if_ne (tgt := 9) hx hb dX9_again_4 (by decide) (fun c1 => absurd h0 c1) (fun c1 => ?_)
  refine lv_iconst (v := (-1)) hx hb dX9_again_7 (by decide) ?_
  exact ct_iret X hQ hK hP hD hS rfl dX9_again_8
abbrev rmX9_keep_n : Room := { frames := 3, cells := 1, slots := 7, locals := 60 }
set_option maxHeartbeats 4000000 in
set_option maxRecDepth 100000 in
theorem KX9_again_none {l : Launch} {D : va_G} {cy : Nat → ClassId} {hw sc g tn sl mk sv ro wk su ch hu kp : Nat} {sl_f : Nat → Option Nat} {g_rows : Int32} {g_columns : Int32} {g_a : Int32} {g_b : Int32} {g_cells : Int64} {g_right : Int64} {g_down : Int64} {p1 : Int32} (hv : ¬ fX9_isSlot p1 = 0) (hk : sl_f p1.toNatClampNeg = none) : CtI l yX9_again wsX9_again rmX9_again D cy [.ref hw, .int p1] ([oX9 hw sc g tn sl mk sv ro wk su ch hu, aG cy sl 2 sl_f]) [oX9 hw sc g tn sl mk sv ro wk su ch hu, aG cy sl 2 sl_f] (-3) := by
  refine CtI.of (cc := cX9_again) (maxL := 3) (ret := some .int) (own := RX9) (by decide) rfl rfl (Nat.le_of_ble_eq_true rfl) ?_
  intro p e s m args below meth c A Q X hQ hK hP hD hS ls hl
  obtain ⟨hx, hb, hml, hown, hts, hr, hlocks, hA, hZ⟩ := id X
  have hl : lv_has ls 3 [(0, .ref hw), (1, .int p1)] := hl
  refine lv_iload_n hx hb dX9_again_0 rfl (lv_at hl 1 rfl) ?_
  refine ctS_i0 (r := (fX9_isSlot p1)) (wc := []) (As := [.int p1]) (rest := []) X hK hP hD hS [] rfl rfl rfl (KX9_isSlot rfl _) (va_cwS 1 hts gX9_again_X9_isSlot rfl rfl rfl hdX9_isSlot ⟨Nat.le_of_ble_eq_true rfl, Nat.le_of_ble_eq_true rfl⟩) rfl hl rfl (Nat.le_of_ble_eq_true rfl) dX9_again_1 (Nat.zero_le _) (Nat.zero_le _) (fun H locs hP hS => ?_)
  refine lv_if_ne (tgt := 9) hx hb dX9_again_4 (by decide) (fun c1 => ?_) (fun c1 => absurd c1 hv)
  refine lv_aload_n hx hb dX9_again_9 rfl (lv_at hl 0 rfl) ?_
  refine va_get (D := D) (ci := 9) (v := .ref sl) (C := RX9) (T := TX9) (N := 11) hx hb hts inwX9_again_X9 hown hK hP 0 rfl rfl 3 (by decide) (hts (.fieldLink RX9 26 "HedgeWays" "slots" "[LHedgeWays$Grid;") (List.mem_of_getElem? (i := 1) rfl)) (fun _ h9 => h9) rfl dX9_again_10 ?_
  refine lv_iload_n hx hb dX9_again_13 rfl (lv_at hl 1 rfl) ?_
  have hi : vp_in p1 2 := slot_in hv
  refine va_aldq hx hb hK hP 1 3 rfl rfl hi dX9_again_14 ?_
  rw [show va_rf (sl_f p1.toNatClampNeg) = .null by rw [hk]; rfl]
  refine lv_astore_nN (lv' := [(2, .null), (0, .ref hw), (1, .int p1)]) hx hb dX9_again_15 rfl hl (by decide) rfl (fun ls hl => ?_)
  refine lv_aload_nN hx hb dX9_again_16 rfl (lv_at hl 0 rfl) ?_
  refine lv_ifnonnullN hx hb dX9_again_17 ?_
  refine lv_bipush (v := (-3)) hx hb dX9_again_20 (by decide) ?_
  exact ct_iret X hQ hK hP hD hS rfl dX9_again_22
set_option maxHeartbeats 4000000 in
set_option maxRecDepth 100000 in
theorem KX9_again_some {l : Launch} {D : va_G} {cy : Nat → ClassId} {hw sc g tn sl mk sv ro wk su ch hu kp : Nat} {sl_f : Nat → Option Nat} {g_rows : Int32} {g_columns : Int32} {g_a : Int32} {g_b : Int32} {g_cells : Int64} {g_right : Int64} {g_down : Int64} {p1 : Int32} {kp_rows : Int32} {kp_columns : Int32} {kp_a : Int32} {kp_b : Int32} {kp_cells : Int64} {kp_right : Int64} {kp_down : Int64} (hv : ¬ fX9_isSlot p1 = 0) (hk : sl_f p1.toNatClampNeg = some kp) : CtI l yX9_again wsX9_again rmX9_again D cy [.ref hw, .int p1] ([oX9 hw sc g tn sl mk sv ro wk su ch hu, aG cy sl 2 sl_f, oX1 g g_rows g_columns g_a g_b g_cells g_right g_down, oX1 kp kp_rows kp_columns kp_a kp_b kp_cells kp_right kp_down]) [oX9 hw sc g tn sl mk sv ro wk su ch hu, aG cy sl 2 sl_f, oX1 g kp_rows kp_columns kp_a kp_b kp_cells kp_right kp_down, oX1 kp kp_rows kp_columns kp_a kp_b kp_cells kp_right kp_down] (fX1_size kp_rows kp_columns) := by
  refine CtI.of (cc := cX9_again) (maxL := 3) (ret := some .int) (own := RX9) (by decide) rfl rfl (Nat.le_of_ble_eq_true rfl) ?_
  intro p e s m args below meth c A Q X hQ hK hP hD hS ls hl
  obtain ⟨hx, hb, hml, hown, hts, hr, hlocks, hA, hZ⟩ := id X
  have hl : lv_has ls 3 [(0, .ref hw), (1, .int p1)] := hl
  refine lv_iload_n hx hb dX9_again_0 rfl (lv_at hl 1 rfl) ?_
  refine ctS_i0 (r := (fX9_isSlot p1)) (wc := []) (As := [.int p1]) (rest := []) X hK hP hD hS [] rfl rfl rfl (KX9_isSlot rfl _) (va_cwS 1 hts gX9_again_X9_isSlot rfl rfl rfl hdX9_isSlot ⟨Nat.le_of_ble_eq_true rfl, Nat.le_of_ble_eq_true rfl⟩) rfl hl rfl (Nat.le_of_ble_eq_true rfl) dX9_again_1 (Nat.zero_le _) (Nat.zero_le _) (fun H locs hP hS => ?_)
  refine lv_if_ne (tgt := 9) hx hb dX9_again_4 (by decide) (fun c1 => ?_) (fun c1 => absurd c1 hv)
  refine lv_aload_n hx hb dX9_again_9 rfl (lv_at hl 0 rfl) ?_
  refine va_get (D := D) (ci := 9) (v := .ref sl) (C := RX9) (T := TX9) (N := 11) hx hb hts inwX9_again_X9 hown hK hP 0 rfl rfl 3 (by decide) (hts (.fieldLink RX9 26 "HedgeWays" "slots" "[LHedgeWays$Grid;") (List.mem_of_getElem? (i := 1) rfl)) (fun _ h9 => h9) rfl dX9_again_10 ?_
  refine lv_iload_n hx hb dX9_again_13 rfl (lv_at hl 1 rfl) ?_
  have hi : vp_in p1 2 := slot_in hv
  refine va_aldq hx hb hK hP 1 3 rfl rfl hi dX9_again_14 ?_
  rw [show va_rf (sl_f p1.toNatClampNeg) = .ref kp by rw [hk]; rfl]
  refine lv_astore_n (lv' := [(2, .ref kp), (0, .ref hw), (1, .int p1)]) hx hb dX9_again_15 rfl hl (by decide) rfl (fun ls hl => ?_)
  refine lv_aload_n hx hb dX9_again_16 rfl (lv_at hl 0 rfl) ?_
  refine lv_ifnonnull (tgt := 23) hx hb dX9_again_17 (by decide) ?_
  refine lv_aload_n hx hb dX9_again_23 rfl (lv_at hl 1 rfl) ?_
  refine va_get (D := D) (ci := 9) (v := .ref g) (C := RX9) (T := TX9) (N := 11) hx hb hts inwX9_again_X9 hown hK hP 0 rfl rfl 1 (by decide) (hts (.fieldLink RX9 19 "HedgeWays" "grid" "LHedgeWays$Grid;") (List.mem_of_getElem? (i := 2) rfl)) (fun _ h9 => h9) rfl dX9_again_24 ?_
  refine lv_aload_n hx hb dX9_again_27 rfl (lv_at hl 0 rfl) ?_
  refine ctV_v (wc := [oX1 g g_rows g_columns g_a g_b g_cells g_right g_down, oX1 kp kp_rows kp_columns kp_a kp_b kp_cells kp_right kp_down]) (w1 := [oX1 g kp_rows kp_columns kp_a kp_b kp_cells kp_right kp_down, oX1 kp kp_rows kp_columns kp_a kp_b kp_cells kp_right kp_down]) (wr := [oX9 hw sc g tn sl mk sv ro wk su ch hu, aG cy sl 2 sl_f]) (wn := [oX9 hw sc g tn sl mk sv ro wk su ch hu, aG cy sl 2 sl_f, oX1 g kp_rows kp_columns kp_a kp_b kp_cells kp_right kp_down, oX1 kp kp_rows kp_columns kp_a kp_b kp_cells kp_right kp_down]) (As := [.ref kp]) (rest := []) (q0 := 2) X hK hP hD hS [2, 3] [0, 1] [0, 1, 2, 3] rfl rfl rfl rfl rfl (by decide) rfl rfl rfl (KX1_copyFrom rfl _) (cwV 1 hts gX9_again_X1_copyFrom rfl rfl rfl hdX1_copyFrom ⟨Nat.le_of_ble_eq_true rfl, Nat.le_of_ble_eq_true rfl⟩) rfl rfl rfl hl rfl (Nat.le_of_ble_eq_true rfl) dX9_again_28 (Nat.zero_le _) (Nat.zero_le _) (fun H locs hP hD hS => ?_)
  refine lv_aload_n hx hb dX9_again_31 rfl (lv_at hl 1 rfl) ?_
  refine va_get (D := D) (ci := 9) (v := .ref g) (C := RX9) (T := TX9) (N := 11) hx hb hts inwX9_again_X9 hown hK hP 0 rfl rfl 1 (by decide) (hts (.fieldLink RX9 19 "HedgeWays" "grid" "LHedgeWays$Grid;") (List.mem_of_getElem? (i := 2) rfl)) (fun _ h9 => h9) rfl dX9_again_32 ?_
  refine ctV_i0 (r := (fX1_size kp_rows kp_columns)) (wc := [oX1 g kp_rows kp_columns kp_a kp_b kp_cells kp_right kp_down]) (As := []) (rest := []) (q0 := 2) X hK hP hD hS [2] rfl rfl rfl (KX1_size rfl _) (cwV 0 hts gX9_again_X1_size rfl rfl rfl hdX1_size ⟨Nat.le_of_ble_eq_true rfl, Nat.le_of_ble_eq_true rfl⟩) rfl rfl rfl hl rfl (Nat.le_of_ble_eq_true rfl) dX9_again_35 (Nat.zero_le _) (Nat.zero_le _) (fun H locs hP hS => ?_)
  exact ct_iret X hQ hK hP hD hS rfl dX9_again_38
set_option maxHeartbeats 4000000 in
set_option maxRecDepth 100000 in
theorem KX9_keep_some {l : Launch} {D : va_G} {cy : Nat → ClassId} {hw sc g tn sl mk sv ro wk su ch hu kp : Nat} {sl_f : Nat → Option Nat} {g_rows : Int32} {g_columns : Int32} {g_a : Int32} {g_b : Int32} {g_cells : Int64} {g_right : Int64} {g_down : Int64} {p1 : Int32} {kp_rows : Int32} {kp_columns : Int32} {kp_a : Int32} {kp_b : Int32} {kp_cells : Int64} {kp_right : Int64} {kp_down : Int64} (hv : ¬ fX9_isSlot p1 = 0) (hk : sl_f p1.toNatClampNeg = some kp) : CtI l yX9_keep wsX9_keep rmX9_keep D cy [.ref hw, .int p1] ([oX9 hw sc g tn sl mk sv ro wk su ch hu, aG cy sl 2 sl_f, oX1 g g_rows g_columns g_a g_b g_cells g_right g_down, oX1 kp kp_rows kp_columns kp_a kp_b kp_cells kp_right kp_down]) [oX9 hw sc g tn sl mk sv ro wk su ch hu, aG cy sl 2 sl_f, oX1 g g_rows g_columns g_a g_b g_cells g_right g_down, oX1 kp g_rows g_columns g_a g_b g_cells g_right g_down] (fX1_size g_rows g_columns) := by
  refine CtI.of (cc := cX9_keep) (maxL := 3) (ret := some .int) (own := RX9) (by decide) rfl rfl (Nat.le_of_ble_eq_true rfl) ?_
  intro p e s m args below meth c A Q X hQ hK hP hD hS ls hl
  obtain ⟨hx, hb, hml, hown, hts, hr, hlocks, hA, hZ⟩ := id X
  have hl : lv_has ls 3 [(0, .ref hw), (1, .int p1)] := hl
  refine lv_iload_n hx hb dX9_keep_0 rfl (lv_at hl 1 rfl) ?_
  refine ctS_i0 (r := (fX9_isSlot p1)) (wc := []) (As := [.int p1]) (rest := []) X hK hP hD hS [] rfl rfl rfl (KX9_isSlot rfl _) (va_cwS 1 hts gX9_keep_X9_isSlot rfl rfl rfl hdX9_isSlot ⟨Nat.le_of_ble_eq_true rfl, Nat.le_of_ble_eq_true rfl⟩) rfl hl rfl (Nat.le_of_ble_eq_true rfl) dX9_keep_1 (Nat.zero_le _) (Nat.zero_le _) (fun H locs hP hS => ?_)
  refine lv_if_ne (tgt := 9) hx hb dX9_keep_4 (by decide) (fun c1 => ?_) (fun c1 => absurd c1 hv)
  refine lv_aload_n hx hb dX9_keep_9 rfl (lv_at hl 0 rfl) ?_
  refine va_get (D := D) (ci := 9) (v := .ref sl) (C := RX9) (T := TX9) (N := 11) hx hb hts inwX9_keep_X9 hown hK hP 0 rfl rfl 3 (by decide) (hts (.fieldLink RX9 26 "HedgeWays" "slots" "[LHedgeWays$Grid;") (List.mem_of_getElem? (i := 1) rfl)) (fun _ h9 => h9) rfl dX9_keep_10 ?_
  refine lv_iload_n hx hb dX9_keep_13 rfl (lv_at hl 1 rfl) ?_
  have hi : vp_in p1 2 := slot_in hv
  refine va_aldq hx hb hK hP 1 3 rfl rfl hi dX9_keep_14 ?_
  rw [show va_rf (sl_f p1.toNatClampNeg) = .ref kp by rw [hk]; rfl]
  refine lv_astore_n (lv' := [(2, .ref kp), (0, .ref hw), (1, .int p1)]) hx hb dX9_keep_15 rfl hl (by decide) rfl (fun ls hl => ?_)
  refine lv_aload_n hx hb dX9_keep_16 rfl (lv_at hl 0 rfl) ?_
  refine lv_ifnonnull (tgt := 35) hx hb dX9_keep_17 (by decide) ?_
  refine lv_aload_n hx hb dX9_keep_35 rfl (lv_at hl 0 rfl) ?_
  refine lv_aload_n hx hb dX9_keep_36 rfl (lv_at hl 1 rfl) ?_
  refine va_get (D := D) (ci := 9) (v := .ref g) (C := RX9) (T := TX9) (N := 11) hx hb hts inwX9_keep_X9 hown hK hP 0 rfl rfl 1 (by decide) (hts (.fieldLink RX9 19 "HedgeWays" "grid" "LHedgeWays$Grid;") (List.mem_of_getElem? (i := 5) rfl)) (fun _ h9 => h9) rfl dX9_keep_37 ?_
  refine ctV_v (wc := [oX1 kp kp_rows kp_columns kp_a kp_b kp_cells kp_right kp_down, oX1 g g_rows g_columns g_a g_b g_cells g_right g_down]) (w1 := [oX1 kp g_rows g_columns g_a g_b g_cells g_right g_down, oX1 g g_rows g_columns g_a g_b g_cells g_right g_down]) (wr := [oX9 hw sc g tn sl mk sv ro wk su ch hu, aG cy sl 2 sl_f]) (wn := [oX9 hw sc g tn sl mk sv ro wk su ch hu, aG cy sl 2 sl_f, oX1 g g_rows g_columns g_a g_b g_cells g_right g_down, oX1 kp g_rows g_columns g_a g_b g_cells g_right g_down]) (As := [.ref g]) (rest := []) (q0 := 3) X hK hP hD hS [3, 2] [0, 1] [0, 1, 3, 2] rfl rfl rfl rfl rfl (by decide) rfl rfl rfl (KX1_copyFrom rfl _) (cwV 1 hts gX9_keep_X1_copyFrom rfl rfl rfl hdX1_copyFrom ⟨Nat.le_of_ble_eq_true rfl, Nat.le_of_ble_eq_true rfl⟩) rfl rfl rfl hl rfl (Nat.le_of_ble_eq_true rfl) dX9_keep_40 (Nat.zero_le _) (Nat.zero_le _) (fun H locs hP hD hS => ?_)
  refine lv_aload_n hx hb dX9_keep_43 rfl (lv_at hl 1 rfl) ?_
  refine va_get (D := D) (ci := 9) (v := .ref g) (C := RX9) (T := TX9) (N := 11) hx hb hts inwX9_keep_X9 hown hK hP 0 rfl rfl 1 (by decide) (hts (.fieldLink RX9 19 "HedgeWays" "grid" "LHedgeWays$Grid;") (List.mem_of_getElem? (i := 5) rfl)) (fun _ h9 => h9) rfl dX9_keep_44 ?_
  refine ctV_i0 (r := (fX1_size g_rows g_columns)) (wc := [oX1 g g_rows g_columns g_a g_b g_cells g_right g_down]) (As := []) (rest := []) (q0 := 2) X hK hP hD hS [2] rfl rfl rfl (KX1_size rfl _) (cwV 0 hts gX9_keep_X1_size rfl rfl rfl hdX1_size ⟨Nat.le_of_ble_eq_true rfl, Nat.le_of_ble_eq_true rfl⟩) rfl rfl rfl hl rfl (Nat.le_of_ble_eq_true rfl) dX9_keep_47 (Nat.zero_le _) (Nat.zero_le _) (fun H locs hP hS => ?_)
  exact ct_iret X hQ hK hP hD hS rfl dX9_keep_50
def CtK (l : Launch) (y : MethodName) (wl : List Cond) (rm : Room) (D : va_G) (cy : Nat → ClassId) (av : List Value) (ws : va_W) (wN : Nat → va_W) (r : Int32) : Prop := ∀ sz : Nat, Met l y wl rm (ctP D cy ws sz av) (va_Qi (fun (r' : Int32) (_ : Nat) => r' = r) (fun na t => va_P D vwCl (wN na) t.heap ∧ va_K D vwCl (TY cy) t ∧ va_D (va_A ws sz) (wN na)) (va_A ws sz)) 1 7 (va_A ws sz)
def QK (D : va_G) (cy : Nat → ClassId) (A : Nat → Prop) (wN : Nat → va_W) (r : Int32) (below : List Frame) (args : Array Value) (s : State) : State → Prop := MQ below (va_Qi (fun (r' : Int32) (_ : Nat) => r' = r) (fun na t => va_P D vwCl (wN na) t.heap ∧ va_K D vwCl (TY cy) t ∧ va_D A (wN na)) A) args s 1 7 A
theorem CtK.of {l : Launch} {y : MethodName} {wl wl' : List Cond} {rm : Room} {D : va_G} {cy : Nat → ClassId} {av : List Value} {ws : va_W} {wN : Nat → va_W} {r : Int32} {cc : ByteArray} {maxL : Nat} {ret : Option FieldType}
    {own : String} (hy : plainName y.cls = true) (ho : y.cls = own) (hw : wl = Cond.code y cc maxL ret :: wl') (hn : (lg_sl av).length ≤ maxL)
    (body : ∀ (p : Program) (e : Env) (s : State) (m : MethodId) (args : Array Value) (below : List Frame) (meth : Method) (c : Code) (A : Nat → Prop) (Q : State → Prop), ctX p s m args meth c cc maxL ret wl own A → Q = QK D cy A wN r below args s → va_K D vwCl (TY cy) s → va_P D vwCl ws s.heap → va_D A ws → va_S A s.heap s.heap [] → ∀ ls : Array Slot, lv_has ls maxL (lv_args 0 av) →
      W p l e rm s m args below meth c s.heap [] 0 0 Q (F0 m 0 ls [])) : CtK l y wl rm D cy av ws wN r := by
  intro sz
  refine Met.ofW (cc := cc) (maxL := maxL) (ret := ret) hy hw ?_
  intro p e s m args below meth c s₁ B hml hv
  obtain ⟨rfl, hsz, hP, hK, hD0, hZ⟩ := hv
  subst hsz
  have hl := lv_entry av (n := maxL) hn
  rw [lg_entry_eq]
  exact body p e s m _ below meth c _ _ ⟨B.exec, B.bytes, hml, ho ▸ findClass_of_methodNamed B.named, atoms_spec (ws := wl) B.pre, B.returns, B.notSynchronized, fun q h => Or.inr h, hZ⟩ rfl hK hP (hD0.self (sz := s.heap.size)) va_S.rf _ hl
theorem ct_kret {p : Program} {l : Launch} {e : Env} {R : Room} {s : State} {m : MethodId} {args : Array Value} {below : List Frame} {meth : Method} {c : Code} {H : Heap} {locs : List Loc} {Q : State → Prop} {cc : ByteArray} {pc : Nat} {ls : Array Slot} {D : va_G} {cy : Nat → ClassId} {A : Nat → Prop} {nL : Nat} {wl : List Cond} {own : String} {wN : Nat → va_W} {v r : Int32} (X : ctX p s m args meth c cc nL (some .int) wl own A) (hQ : Q = QK D cy A wN r below args s) (hK : va_K D vwCl (TY cy) s) (na : Nat) (hP : va_P D vwCl (wN na) H) (hD : va_D A (wN na)) (hS : va_S A s.heap H locs) (hv : v = r) (hdg : decode cc pc = .ok (.ireturn, 1)) :
    W p l e R s m args below meth c H locs 1 7 Q (F0 m pc ls [.int v]) := by
  subst hQ
  obtain ⟨hx, hb, hml, hown, hts, hr, hlocks, hA, hZ⟩ := X
  exact W.iret hx hb hr (fun t ht hW => ⟨⟨v, na, rfl, hv, by rw [ht]; exact hP, va_K.moved hW.alike hK, hD⟩, hS.F ht⟩) hS.2.2 hdg hlocks
set_option maxHeartbeats 4000000 in
set_option maxRecDepth 100000 in
theorem KX9_keep_new {l : Launch} {D : va_G} {cy : Nat → ClassId} {hw sc g tn sl mk sv ro wk su ch hu : Nat} {sl_f : Nat → Option Nat} {g_rows : Int32} {g_columns : Int32} {g_a : Int32} {g_b : Int32} {g_cells : Int64} {g_right : Int64} {g_down : Int64} {p1 : Int32} (hv : ¬ fX9_isSlot p1 = 0) (hk : sl_f p1.toNatClampNeg = none) : CtK l yX9_keep wsX9_keep rmX9_keep_n D cy [.ref hw, .int p1] ([oX9 hw sc g tn sl mk sv ro wk su ch hu, aG cy sl 2 sl_f, oX1 g g_rows g_columns g_a g_b g_cells g_right g_down]) (fun kp => [oX9 hw sc g tn sl mk sv ro wk su ch hu, aG cy sl 2 (va_up sl_f p1.toNatClampNeg (some kp)), oX1 g g_rows g_columns g_a g_b g_cells g_right g_down, oX1 kp g_rows g_columns g_a g_b g_cells g_right g_down]) (fX1_size g_rows g_columns) := by
  refine CtK.of (cc := cX9_keep) (maxL := 3) (ret := some .int) (own := RX9) (by decide) rfl rfl (Nat.le_of_ble_eq_true rfl) ?_
  intro p e s m args below meth c A Q X hQ hK hP hD hS ls hl
  obtain ⟨hx, hb, hml, hown, hts, hr, hlocks, hA, hZ⟩ := id X
  have hl : lv_has ls 3 [(0, .ref hw), (1, .int p1)] := hl
  refine lv_iload_n hx hb dX9_keep_0 rfl (lv_at hl 1 rfl) ?_
  refine ctS_i0 (r := (fX9_isSlot p1)) (wc := []) (As := [.int p1]) (rest := []) X hK hP hD hS [] rfl rfl rfl (KX9_isSlot rfl _) (va_cwS 1 hts gX9_keep_X9_isSlot rfl rfl rfl hdX9_isSlot ⟨Nat.le_of_ble_eq_true rfl, Nat.le_of_ble_eq_true rfl⟩) rfl hl rfl (Nat.le_of_ble_eq_true rfl) dX9_keep_1 (Nat.zero_le _) (Nat.zero_le _) (fun H locs hP hS => ?_)
  refine lv_if_ne (tgt := 9) hx hb dX9_keep_4 (by decide) (fun c1 => ?_) (fun c1 => absurd c1 hv)
  refine lv_aload_n hx hb dX9_keep_9 rfl (lv_at hl 0 rfl) ?_
  refine va_get (D := D) (ci := 9) (v := .ref sl) (C := RX9) (T := TX9) (N := 11) hx hb hts inwX9_keep_X9 hown hK hP 0 rfl rfl 3 (by decide) (hts (.fieldLink RX9 26 "HedgeWays" "slots" "[LHedgeWays$Grid;") (List.mem_of_getElem? (i := 1) rfl)) (fun _ h9 => h9) rfl dX9_keep_10 ?_
  refine lv_iload_n hx hb dX9_keep_13 rfl (lv_at hl 1 rfl) ?_
  have hi : vp_in p1 2 := slot_in hv
  refine va_aldq hx hb hK hP 1 3 rfl rfl hi dX9_keep_14 ?_
  rw [show va_rf (sl_f p1.toNatClampNeg) = .null by rw [hk]; rfl]
  refine lv_astore_nN (lv' := [(2, .null), (0, .ref hw), (1, .int p1)]) hx hb dX9_keep_15 rfl hl (by decide) rfl (fun ls hl => ?_)
  refine lv_aload_nN hx hb dX9_keep_16 rfl (lv_at hl 0 rfl) ?_
  refine lv_ifnonnullN hx hb dX9_keep_17 ?_
  refine va_new (ci := 1) (fs := [.int 0, .int 0, .int 0, .int 0, .long 0, .long 0, .long 0]) (C := RX1) (T := TX1) (N := 7) hx hb hts inwX9_keep_X1 tyX1 tyX1_ok hown (hts (.classLink RX9 16 RX1) (List.mem_of_getElem? (i := 2) rfl)) (hts (.instantiable RX1 7) (List.mem_of_getElem? (i := 3) rfl)) (hts (.initialized RX1) (List.mem_of_getElem? (i := 4) rfl)) hK hP hD hS hA rfl (fun j hj => by rcases (show j = 0 ∨ j = 1 ∨ j = 2 ∨ j = 3 ∨ j = 4 ∨ j = 5 ∨ j = 6 by omega) with rfl | rfl | rfl | rfl | rfl | rfl | rfl <;> rfl) (Nat.le_of_ble_eq_true rfl) (Nat.le_of_ble_eq_true rfl) dX9_keep_20 (fun kp H hP hD hS => ?_)
  have hP : va_P D vwCl [oX9 hw sc g tn sl mk sv ro wk su ch hu, aG cy sl 2 sl_f, oX1 g g_rows g_columns g_a g_b g_cells g_right g_down, (kp, .inr (1, [.int 0, .int 0, .int 0, .int 0, .long 0, .long 0, .long 0]))] H := hP
  have hD : va_D A [oX9 hw sc g tn sl mk sv ro wk su ch hu, aG cy sl 2 sl_f, oX1 g g_rows g_columns g_a g_b g_cells g_right g_down, (kp, .inr (1, [.int 0, .int 0, .int 0, .int 0, .long 0, .long 0, .long 0]))] := hD
  refine W.widen (k := 1) (n := 7) (Nat.le_of_ble_eq_true rfl) (Nat.le_of_ble_eq_true rfl) ?_
  refine lv_dup hx hb dX9_keep_23 rfl ?_
  refine ct_init (wc := [(kp, .inr (1, [.int 0, .int 0, .int 0, .int 0, .long 0, .long 0, .long 0]))]) (wr := [oX9 hw sc g tn sl mk sv ro wk su ch hu, aG cy sl 2 sl_f, oX1 g g_rows g_columns g_a g_b g_cells g_right g_down]) (As := []) (rest := [.ref kp]) X hK hP hD hS [3] [0, 1, 2] rfl rfl rfl rfl rfl (by decide) (NX1_init _) (cwI 0 hts gX9_keep_X1_init rfl rfl rfl (hts (.initialized RX1) (List.mem_of_getElem? (i := 4) rfl)) (hts (.methodLink RX9 18 yX1_init) (List.mem_of_getElem? (i := 10) rfl)) (hts (.instanceMethod yX1_init) (List.mem_of_getElem? (i := 11) rfl)) rfl hdX1_init ⟨Nat.le_of_ble_eq_true rfl, Nat.le_of_ble_eq_true rfl⟩) rfl hl rfl (Nat.le_of_ble_eq_true rfl) dX9_keep_24 (Nat.le_of_ble_eq_true rfl) (Nat.le_of_ble_eq_true rfl) (fun _ H locs hP hD hS => ?_)
  have hP : va_P D vwCl [oX9 hw sc g tn sl mk sv ro wk su ch hu, aG cy sl 2 sl_f, oX1 g g_rows g_columns g_a g_b g_cells g_right g_down, oX1 kp 1 1 0 0 1 0 0] H := hP
  have hD : va_D A [oX9 hw sc g tn sl mk sv ro wk su ch hu, aG cy sl 2 sl_f, oX1 g g_rows g_columns g_a g_b g_cells g_right g_down, oX1 kp 1 1 0 0 1 0 0] := hD
  refine W.widen (k := 1) (n := 7) (Nat.le_of_ble_eq_true rfl) (Nat.le_of_ble_eq_true rfl) ?_
  refine lv_astore_n (lv' := [(2, .ref kp), (0, .ref hw), (1, .int p1)]) hx hb dX9_keep_27 rfl hl (by decide) rfl (fun ls hl => ?_)
  refine lv_aload_n hx hb dX9_keep_28 rfl (lv_at hl 1 rfl) ?_
  refine va_get (D := D) (ci := 9) (v := .ref sl) (C := RX9) (T := TX9) (N := 11) hx hb hts inwX9_keep_X9 hown hK hP 0 rfl rfl 3 (by decide) (hts (.fieldLink RX9 26 "HedgeWays" "slots" "[LHedgeWays$Grid;") (List.mem_of_getElem? (i := 1) rfl)) (fun _ h9 => h9) rfl dX9_keep_29 ?_
  refine lv_iload_n hx hb dX9_keep_32 rfl (lv_at hl 2 rfl) ?_
  refine lv_aload_n hx hb dX9_keep_33 rfl (lv_at hl 0 rfl) ?_
  refine va_astq hx hb hK hP hD hS 1 3 3 1 rfl rfl rfl rfl hi dX9_keep_34 (fun H locs hP hD hS => ?_)
  have hP : va_P D vwCl [oX9 hw sc g tn sl mk sv ro wk su ch hu, aG cy sl 2 (va_up sl_f p1.toNatClampNeg (some kp)), oX1 g g_rows g_columns g_a g_b g_cells g_right g_down, oX1 kp 1 1 0 0 1 0 0] H := hP
  have hD : va_D A [oX9 hw sc g tn sl mk sv ro wk su ch hu, aG cy sl 2 (va_up sl_f p1.toNatClampNeg (some kp)), oX1 g g_rows g_columns g_a g_b g_cells g_right g_down, oX1 kp 1 1 0 0 1 0 0] := hD
  refine lv_aload_n hx hb dX9_keep_35 rfl (lv_at hl 0 rfl) ?_
  refine lv_aload_n hx hb dX9_keep_36 rfl (lv_at hl 1 rfl) ?_
  refine va_get (D := D) (ci := 9) (v := .ref g) (C := RX9) (T := TX9) (N := 11) hx hb hts inwX9_keep_X9 hown hK hP 0 rfl rfl 1 (by decide) (hts (.fieldLink RX9 19 "HedgeWays" "grid" "LHedgeWays$Grid;") (List.mem_of_getElem? (i := 5) rfl)) (fun _ h9 => h9) rfl dX9_keep_37 ?_
  refine ctV_v (wc := [oX1 kp 1 1 0 0 1 0 0, oX1 g g_rows g_columns g_a g_b g_cells g_right g_down]) (w1 := [oX1 kp g_rows g_columns g_a g_b g_cells g_right g_down, oX1 g g_rows g_columns g_a g_b g_cells g_right g_down]) (wr := [oX9 hw sc g tn sl mk sv ro wk su ch hu, aG cy sl 2 (va_up sl_f p1.toNatClampNeg (some kp))]) (wn := [oX9 hw sc g tn sl mk sv ro wk su ch hu, aG cy sl 2 (va_up sl_f p1.toNatClampNeg (some kp)), oX1 g g_rows g_columns g_a g_b g_cells g_right g_down, oX1 kp g_rows g_columns g_a g_b g_cells g_right g_down]) (As := [.ref g]) (rest := []) (q0 := 3) X hK hP hD hS [3, 2] [0, 1] [0, 1, 3, 2] rfl rfl rfl rfl rfl (by decide) rfl rfl rfl (KX1_copyFrom rfl _) (cwV 1 hts gX9_keep_X1_copyFrom rfl rfl rfl hdX1_copyFrom ⟨Nat.le_of_ble_eq_true rfl, Nat.le_of_ble_eq_true rfl⟩) rfl rfl rfl hl rfl (Nat.le_of_ble_eq_true rfl) dX9_keep_40 (Nat.le_of_ble_eq_true rfl) (Nat.le_of_ble_eq_true rfl) (fun H locs hP hD hS => ?_)
  refine lv_aload_n hx hb dX9_keep_43 rfl (lv_at hl 1 rfl) ?_
  refine va_get (D := D) (ci := 9) (v := .ref g) (C := RX9) (T := TX9) (N := 11) hx hb hts inwX9_keep_X9 hown hK hP 0 rfl rfl 1 (by decide) (hts (.fieldLink RX9 19 "HedgeWays" "grid" "LHedgeWays$Grid;") (List.mem_of_getElem? (i := 5) rfl)) (fun _ h9 => h9) rfl dX9_keep_44 ?_
  refine ctV_i0 (r := (fX1_size g_rows g_columns)) (wc := [oX1 g g_rows g_columns g_a g_b g_cells g_right g_down]) (As := []) (rest := []) (q0 := 2) X hK hP hD hS [2] rfl rfl rfl (KX1_size rfl _) (cwV 0 hts gX9_keep_X1_size rfl rfl rfl hdX1_size ⟨Nat.le_of_ble_eq_true rfl, Nat.le_of_ble_eq_true rfl⟩) rfl rfl rfl hl rfl (Nat.le_of_ble_eq_true rfl) dX9_keep_47 (Nat.le_of_ble_eq_true rfl) (Nat.le_of_ble_eq_true rfl) (fun H locs hP hS => ?_)
  exact ct_kret X hQ hK kp hP hD hS rfl dX9_keep_50

/-! THE CLAIM OUT OF ONE WALK OF THE LAW'S BODY. Your part is whole_start (and what it stands on); all else here is the same for every law, but numbers. -/
def R_law : String := "HedgeWaysLaw"
def lw_P (b : Addr) (xs : List Int32) (args : Array Value) (s : State) : Prop := args = #[.ref b] ∧ s.IntsAt b xs ∧ xs.length ≤ 3072 ∧ (Jvm.Cond.and given_1 narrow_1).before args s = true
def lw_Q (_ : Array Value) (s : State) (o : Outcome) (t : State) : Prop := o = .returned (some (.int 1)) ∧ Framed s o t [] 600000 7302250
def lw_Z (below : List Frame) (a : Array Value) (s : State) : State → Prop := fun t => ∃ o, t.status = .running ∧ Ended t below o ∧ lw_Q a s o t
/-- the law's own end, with 1 on the stack, nothing written that was there before, its room as the claim has it -/
theorem lw_ret {p : Program} {l : Launch} {e : Env} {s : State} {m : MethodId} {below : List Frame} {meth : Method} {c : Code} {b : Nat} (hx : p.tables.exec = Jvm.exec) (hb : c.code = code) (hr : meth.sig.returnType = ret) (hlocks : meth.locks = false) {pc : Nat} {H : Heap} {ls : Array Slot} (hdg : decode code pc = .ok (.ireturn, 1)) : W p l e room_1 s m #[Value.ref b] below meth c H [] 600000 7302250 (lw_Z below #[Value.ref b] s) (F0 m pc ls [.int 1]) := by
  intro T hT X
  obtain ⟨fs, hret, hrun, hended, hW, hframe⟩ := X.leave (v := some (.int 1)) (hlocks := hlocks) (fun h => by rw [hr] at h; cases h)
  have hmeth' : T.vm.method? m = some meth := X.method'
  refine ⟨T.setFrames fs, ?_, .returned (some (.int 1)), hrun, hended, rfl, ⟨_, rfl⟩, hW, hframe⟩
  jvm_step X.here [X.here.top, hx, hb, hdg, hmeth', hr, ret, narrow_b1]
  (try refine ⟨rfl, ?_⟩); (try refine ⟨rfl, ?_⟩)
  first | (intro acts; rw [hret _ acts rfl rfl rfl]) | rw [hret _ _ rfl rfl rfl]
  exact Steps.refl _
/-- what holds at the law's entry: the machine, the code, the tables' words (any of lw_tbl by 'hts w (by decide +kernel)'), the script of L ints xs at the cell b, what the Statement gives of the start (any of its parts by flat_of_before) -/
def lw_At (p : Program) (s : State) (m : MethodId) (meth : Method) (c : Code) (b L : Nat) (xs : Nat → Int32) : Prop :=
  p.tables.exec = Jvm.exec ∧ c.code = code ∧ meth.sig.returnType = ret ∧ c.maxLocals = 4 ∧ s.vm.findClass R_law = some m.cls ∧ (∀ w ∈ lw_tbl, w.before #[Value.ref b] s = true) ∧ va_X b L xs s s.heap ∧ b < s.heap.size ∧ meth.locks = false ∧ (Jvm.Cond.and given_1 narrow_1).before #[Value.ref b] s = true
def slW (k : Option (Nat × KG)) : va_W := match k with
  | none => []
  | some q => [oX1 q.1 q.2.1 q.2.2.1 q.2.2.2.1 q.2.2.2.2.1 q.2.2.2.2.2.1 q.2.2.2.2.2.2.1 q.2.2.2.2.2.2.2]
def nk (k0 k1 : Option (Nat × KG)) : Nat := (if k0.isSome then 1 else 0) + (if k1.isSome then 1 else 0)
theorem nk_le (k0 k1 : Option (Nat × KG)) : nk k0 k1 ≤ 2 := by unfold nk; split <;> split <;> omega
theorem lc_ok (k0 k1 : Option (Nat × KG)) : 60 + nk k0 k1 ≤ room_1.cells := by
  have := nk_le k0 k1
  show 60 + nk k0 k1 ≤ 600000
  omega
theorem ls_ok (k0 k1 : Option (Nat × KG)) : 3000 + 7 * nk k0 k1 ≤ room_1.slots := by
  have := nk_le k0 k1
  show 3000 + 7 * nk k0 k1 ≤ 7302250
  omega
def lwA (s : State) : Nat → Prop := fun q => s.heap.size ≤ q
abbrev qbz (x : Int32) : Int32 := b2i (!decide (x = 0))
theorem lg_self (r : Int64) : lg_cmp r r = 0 := by unfold lg_cmp; rw [if_neg (by rw [gt_iff_lt, Int64.lt_iff_toInt_lt]; omega), if_pos rfl]
abbrev LX (cy : Nat → ClassId) (hw sc g tn sl mk sv ro wk su ch hu q_sc_bytes q_mk_hedges q_mk_cameFrom q_ro_within q_ro_counts q_wk_cameFrom q_su_order q_su_table q_hu_before q_hu_after mo : Nat) (ma su_tr : Nat → Nat) (sc_length : Int32) (sc_bytes : Nat → Int32) (g_rows : Int32) (g_columns : Int32) (g_a : Int32) (g_b : Int32) (g_cells : Int64) (g_right : Int64) (g_down : Int64) (tn_rows : Int32) (tn_columns : Int32) (tn_a : Int32) (tn_b : Int32) (tn_cells : Int64) (tn_right : Int64) (tn_down : Int64) (sl_f : Nat → Option Nat) (mk_x : Int64) (mk_hedges : Nat → Int32) (mk_cameFrom : Nat → Int32) (ro_within : Nat → Int64) (ro_counts : Nat → Int64) (wk_place : Int32) (wk_look : Int32) (wk_hand : Int32) (wk_visited : Int64) (wk_cameFrom : Nat → Int32) (su_count : Int32) (su_above : Int64) (su_below : Int64) (su_order : Nat → Int32) (hu_before : Nat → Int64) (hu_after : Nat → Int64) (m_thrown : Int32) (m_textSize : Int32) (m_rows : Int32) (m_columns : Int32) (m_a : Int32) (m_b : Int32) (m_readRows : Int32) (m_readColumns : Int32) (m_at : Int32) (m_looks : Int32) (m_came : Int32) (m_draw : Int64) (m_turnedRows : Int32) (m_turnedColumns : Int32) (m_text : Nat → Int32) (m_right : Nat → Int32) (m_down : Nat → Int32) (m_read : Nat → Int32) (m_keptFigures : Nat → Int32) (m_keptNumbers : Nat → Int32) (m_isKept : Nat → Int32) (m_dist : Nat → Int32) (m_queue : Nat → Int32) (m_ways : Nat → Int64) (m_shut : Nat → Int32) (m_parts : Nat → Int32) (m_back : Nat → Int32) (m_was : Nat → Int32) (m_matrix : Nat → Int64) (m_member : Nat → Int32) (m_place : Nat → Int32) (m_turns : Nat → Int32) (m_list : Nat → Int32) (m_turned : Nat → Int32) (su_table : Nat → Nat → Int64) : va_W := [oX9 hw sc g tn sl mk sv ro wk su ch hu, oX5 sc q_sc_bytes sc_length, aI cy q_sc_bytes 41 sc_bytes, oX1 g g_rows g_columns g_a g_b g_cells g_right g_down, oX1 tn tn_rows tn_columns tn_a tn_b tn_cells tn_right tn_down, aG cy sl 2 sl_f, oX3 mk g q_mk_hedges q_mk_cameFrom mk_x, aI cy q_mk_hedges 60 mk_hedges, aI cy q_mk_cameFrom 48 mk_cameFrom, oX7 sv g, oX4 ro g q_ro_within q_ro_counts, aJ cy q_ro_within 36 ro_within, aJ cy q_ro_counts 48 ro_counts, oX8 wk g q_wk_cameFrom wk_place wk_look wk_hand wk_visited, aI cy q_wk_cameFrom 48 wk_cameFrom, oX6 su g q_su_order q_su_table su_count su_above su_below, aI cy q_su_order 16 su_order, aT cy q_su_table su_tr, oX0 ch g, oX2 hu g q_hu_before q_hu_after, aJ cy q_hu_before 48 hu_before, aJ cy q_hu_after 48 hu_after, oX10 mo ma m_thrown m_textSize m_rows m_columns m_a m_b m_readRows m_readColumns m_at m_looks m_came m_draw m_turnedRows m_turnedColumns, aI cy (ma 0) 41 m_text, aZ cy (ma 1) 36 m_right, aZ cy (ma 2) 36 m_down, aI cy (ma 3) 36 m_read, aI cy (ma 4) 72 m_keptFigures, aI cy (ma 5) 8 m_keptNumbers, aZ cy (ma 6) 2 m_isKept, aI cy (ma 7) 36 m_dist, aI cy (ma 8) 36 m_queue, aJ cy (ma 9) 36 m_ways, aZ cy (ma 10) 36 m_shut, aI cy (ma 11) 36 m_parts, aI cy (ma 12) 36 m_back, aZ cy (ma 13) 36 m_was, aJ cy (ma 14) 256 m_matrix, aI cy (ma 15) 36 m_member, aI cy (ma 16) 36 m_place, aI cy (ma 17) 1296 m_turns, aI cy (ma 18) 60 m_list, aI cy (ma 19) 36 m_turned] ++ suR cy su_tr su_table
section LWA
variable {p : Program} {l : Launch} {e : Env} {R : Room} {s : State} {m : MethodId} {args : Array Value} {below : List Frame} {meth : Method} {c : Code} {H : Heap} {locs : List Loc} {cells slots : Nat} {Q : State → Prop}
variable {cc : ByteArray} {pc : Nat} {ls : Array Slot} {rest : List Value} {D : va_G} {cy : Nat → ClassId} {A : Nat → Prop} {nL : Nat} {wl : List Cond} {own : String}
theorem app_map {X0 pl wc : va_W} {is : List Nat} (h : is.map (fun i => X0[i]?) = wc.map some) : is.map (fun i => (X0 ++ pl)[i]?) = wc.map some := by
  rw [← h]
  apply List.map_congr_left
  intro i hi
  have h1 : X0[i]? ∈ wc.map some := h ▸ List.mem_map_of_mem hi
  obtain ⟨q, -, hq⟩ := List.mem_map.mp h1
  exact List.getElem?_append_left (List.getElem?_eq_some_iff.mp hq.symm).1
theorem app_fm {X0 pl wc : va_W} {is : List Nat} (h : is.map (fun i => X0[i]?) = wc.map some) : is.filterMap (fun i => (X0 ++ pl)[i]?) = wc := by
  have h1 : is.filterMap (fun i => (X0 ++ pl)[i]?) = (is.map (fun i => (X0 ++ pl)[i]?)).filterMap id := by rw [List.filterMap_map]; rfl
  rw [h1, app_map h, List.filterMap_map]
  simp
theorem app_at {X0 pl : va_W} {k : Nat} {q : Nat × va_E} (h : X0[k]? = some q) : (X0 ++ pl)[k]? = some q := by
  rw [List.getElem?_append_left (List.getElem?_eq_some_iff.mp h).1]; exact h
theorem ctA_i0 {ret ret1 : Option FieldType} {y : MethodName} {wy : List Cond} {rm : Room} {bytes : ByteArray} {maxL n index b ci q0 : Nat} {fs : List Value} {q : vw_C} {As : List Value} {X0 pl wc : va_W} {r : Int32} (X : ctX p s m args meth c cc nL ret wl own A) (hK : va_K D vwCl (TY cy) s) (hP : va_P D vwCl (X0 ++ pl) H) (hD : va_D A (X0 ++ pl)) (hS : va_S A s.heap H locs) (isC : List Nat) (hC : isC.map (fun i => X0[i]?) = wc.map some) (hnC : va_nd isC = true) (hM : Met l y wy rm (ctP D cy wc H.size (.ref b :: As)) (ctQi D cy (va_A wc H.size) wc r) 0 0 (va_A wc H.size)) (cw : CallW R s args own q.1 index y bytes maxL ret1 wy rm 0 0 n) (hci : vwCl[ci]? = some q) (he : X0[q0]? = some (b, .inr (ci, fs))) (hlen : As.length = n) {lv : List (Nat × Value)} (hls : lv_has ls nL lv) {st0 : List Value} (hst : st0 = As.reverse ++ .ref b :: rest) (hrm : (rest.map fun v => v.category).sum ≤ 8) (hdg : decode cc pc = .ok (.invokevirtual index, 3)) (hcs : cells ≤ R.cells) (hss : slots ≤ R.slots)
    (kk : ∀ (H : Heap) (locs : List Loc), va_P D vwCl (X0 ++ pl) H → va_S A s.heap H locs → W p l e R s m args below meth c H locs cells slots Q (F0 m (pc + 3) ls (.int r :: rest))) : W p l e R s m args below meth c H locs cells slots Q (F0 m pc ls st0) :=
  ctV_i0 X hK hP hD hS isC (app_map hC) hnC (app_fm hC) hM cw hci (app_at he) hlen hls hst hrm hdg hcs hss kk
theorem ctA_i {ret ret1 : Option FieldType} {y : MethodName} {wy : List Cond} {rm : Room} {bytes : ByteArray} {maxL n index b ci q0 : Nat} {fs : List Value} {q : vw_C} {As : List Value} {X0 pl wc wr w1 wn : va_W} {r : Int32} (X : ctX p s m args meth c cc nL ret wl own A) (hK : va_K D vwCl (TY cy) s) (hP : va_P D vwCl (X0 ++ pl) H) (hD : va_D A (X0 ++ pl)) (hS : va_S A s.heap H locs) (isC isR pm : List Nat) (hC : isC.map (fun i => X0[i]?) = wc.map some) (hR : isR.map (fun i => X0[i]?) = wr.map some) (hnC : va_nd isC = true) (hn : va_nd isR = true) (hdis : ∀ i ∈ isR, i ∉ isC) (hpm : va_nd pm = true) (hN : pm.map (fun i => (wr ++ w1)[i]?) = wn.map some) (hM : Met l y wy rm (ctP D cy wc H.size (.ref b :: As)) (ctQi D cy (va_A wc H.size) w1 r) 0 0 (va_A wc H.size)) (cw : CallW R s args own q.1 index y bytes maxL ret1 wy rm 0 0 n) (hci : vwCl[ci]? = some q) (he : X0[q0]? = some (b, .inr (ci, fs))) (hlen : As.length = n) {lv : List (Nat × Value)} (hls : lv_has ls nL lv) {st0 : List Value} (hst : st0 = As.reverse ++ .ref b :: rest) (hrm : (rest.map fun v => v.category).sum ≤ 8) (hdg : decode cc pc = .ok (.invokevirtual index, 3)) (hcs : cells ≤ R.cells) (hss : slots ≤ R.slots)
    (kk : ∀ (H : Heap) (locs : List Loc), va_P D vwCl (wn ++ pl) H → va_D A (wn ++ pl) → va_S A s.heap H locs → W p l e R s m args below meth c H locs cells slots Q (F0 m (pc + 3) ls (.int r :: rest))) : W p l e R s m args below meth c H locs cells slots Q (F0 m pc ls st0) := by
  have hFc := va_free hD hS X.2.2.2.2.2.2.2.1 isC (app_map hC)
  refine va_calli (ct_rV X hK hP hD hS isC (app_map hC) hnC (app_fm hC) hM cw hci (app_at he) hlen hls hst hrm hdg hcs hss) hS (fun q _ h => hFc q h) hFc (fun r' u t H1 locs1 ht hvm hw hB hz1 hk1 hS1 => ?_)
  cases hw
  obtain ⟨hP1, -, hD1⟩ := hB
  rw [ht] at hP1
  obtain ⟨hP2, hD2⟩ := va_joinQ hP hD isC isR hC hR hn hdis hk1 hFc hP1 hD1
  exact kk H1 locs1 (hP2.part pm hN) (hD2.part pm hpm hN) hS1
theorem ctA_l0 {ret ret1 : Option FieldType} {y : MethodName} {wy : List Cond} {rm : Room} {bytes : ByteArray} {maxL n index b ci q0 : Nat} {fs : List Value} {q : vw_C} {As : List Value} {X0 pl wc : va_W} {r : Int64} (X : ctX p s m args meth c cc nL ret wl own A) (hK : va_K D vwCl (TY cy) s) (hP : va_P D vwCl (X0 ++ pl) H) (hD : va_D A (X0 ++ pl)) (hS : va_S A s.heap H locs) (isC : List Nat) (hC : isC.map (fun i => X0[i]?) = wc.map some) (hnC : va_nd isC = true) (hM : Met l y wy rm (ctP D cy wc H.size (.ref b :: As)) (ctQl D cy (va_A wc H.size) wc r) 0 0 (va_A wc H.size)) (cw : CallW R s args own q.1 index y bytes maxL ret1 wy rm 0 0 n) (hci : vwCl[ci]? = some q) (he : X0[q0]? = some (b, .inr (ci, fs))) (hlen : As.length = n) {lv : List (Nat × Value)} (hls : lv_has ls nL lv) {st0 : List Value} (hst : st0 = As.reverse ++ .ref b :: rest) (hrm : (rest.map fun v => v.category).sum ≤ 8) (hdg : decode cc pc = .ok (.invokevirtual index, 3)) (hcs : cells ≤ R.cells) (hss : slots ≤ R.slots)
    (kk : ∀ (H : Heap) (locs : List Loc), va_P D vwCl (X0 ++ pl) H → va_S A s.heap H locs → W p l e R s m args below meth c H locs cells slots Q (F0 m (pc + 3) ls (.long r :: rest))) : W p l e R s m args below meth c H locs cells slots Q (F0 m pc ls st0) :=
  ctV_l0 X hK hP hD hS isC (app_map hC) hnC (app_fm hC) hM cw hci (app_at he) hlen hls hst hrm hdg hcs hss kk
theorem ctA_l {ret ret1 : Option FieldType} {y : MethodName} {wy : List Cond} {rm : Room} {bytes : ByteArray} {maxL n index b ci q0 : Nat} {fs : List Value} {q : vw_C} {As : List Value} {X0 pl wc wr w1 wn : va_W} {r : Int64} (X : ctX p s m args meth c cc nL ret wl own A) (hK : va_K D vwCl (TY cy) s) (hP : va_P D vwCl (X0 ++ pl) H) (hD : va_D A (X0 ++ pl)) (hS : va_S A s.heap H locs) (isC isR pm : List Nat) (hC : isC.map (fun i => X0[i]?) = wc.map some) (hR : isR.map (fun i => X0[i]?) = wr.map some) (hnC : va_nd isC = true) (hn : va_nd isR = true) (hdis : ∀ i ∈ isR, i ∉ isC) (hpm : va_nd pm = true) (hN : pm.map (fun i => (wr ++ w1)[i]?) = wn.map some) (hM : Met l y wy rm (ctP D cy wc H.size (.ref b :: As)) (ctQl D cy (va_A wc H.size) w1 r) 0 0 (va_A wc H.size)) (cw : CallW R s args own q.1 index y bytes maxL ret1 wy rm 0 0 n) (hci : vwCl[ci]? = some q) (he : X0[q0]? = some (b, .inr (ci, fs))) (hlen : As.length = n) {lv : List (Nat × Value)} (hls : lv_has ls nL lv) {st0 : List Value} (hst : st0 = As.reverse ++ .ref b :: rest) (hrm : (rest.map fun v => v.category).sum ≤ 8) (hdg : decode cc pc = .ok (.invokevirtual index, 3)) (hcs : cells ≤ R.cells) (hss : slots ≤ R.slots)
    (kk : ∀ (H : Heap) (locs : List Loc), va_P D vwCl (wn ++ pl) H → va_D A (wn ++ pl) → va_S A s.heap H locs → W p l e R s m args below meth c H locs cells slots Q (F0 m (pc + 3) ls (.long r :: rest))) : W p l e R s m args below meth c H locs cells slots Q (F0 m pc ls st0) := by
  have hFc := va_free hD hS X.2.2.2.2.2.2.2.1 isC (app_map hC)
  refine va_calll (ct_rV X hK hP hD hS isC (app_map hC) hnC (app_fm hC) hM cw hci (app_at he) hlen hls hst hrm hdg hcs hss) hS (fun q _ h => hFc q h) hFc (fun r' u t H1 locs1 ht hvm hw hB hz1 hk1 hS1 => ?_)
  cases hw
  obtain ⟨hP1, -, hD1⟩ := hB
  rw [ht] at hP1
  obtain ⟨hP2, hD2⟩ := va_joinQ hP hD isC isR hC hR hn hdis hk1 hFc hP1 hD1
  exact kk H1 locs1 (hP2.part pm hN) (hD2.part pm hpm hN) hS1
theorem slot_01 {x : Int32} (h : ¬ fX9_isSlot x = 0) : x.toNatClampNeg = 0 ∨ x.toNatClampNeg = 1 := by
  have h1 := qin_lt (slot_in h)
  omega
theorem lc_ok1 (k0 k1 : Option (Nat × KG)) : 60 + nk k0 k1 + 1 ≤ room_1.cells := by
  have := nk_le k0 k1
  show 60 + nk k0 k1 + 1 ≤ 600000
  omega
theorem ls_ok1 (k0 k1 : Option (Nat × KG)) : 3000 + 7 * nk k0 k1 + 7 ≤ room_1.slots := by
  have := nk_le k0 k1
  show 3000 + 7 * nk k0 k1 + 7 ≤ 7302250
  omega
theorem nkc0 (q : Nat × KG) (k1 : Option (Nat × KG)) : 60 + nk none k1 + 1 ≤ 60 + nk (some q) k1 := by cases k1 <;> simp [nk]
theorem nks0 (q : Nat × KG) (k1 : Option (Nat × KG)) : 3000 + 7 * nk none k1 + 7 ≤ 3000 + 7 * nk (some q) k1 := by cases k1 <;> simp [nk]
theorem nkc1 (q : Nat × KG) (k0 : Option (Nat × KG)) : 60 + nk k0 none + 1 ≤ 60 + nk k0 (some q) := by cases k0 <;> simp [nk]
theorem nks1 (q : Nat × KG) (k0 : Option (Nat × KG)) : 3000 + 7 * nk k0 none + 7 ≤ 3000 + 7 * nk k0 (some q) := by cases k0 <;> simp [nk]
theorem ctA_k {ret ret1 : Option FieldType} {y : MethodName} {wy : List Cond} {rm : Room} {bytes : ByteArray} {maxL n index b ci q0 : Nat} {fs : List Value} {q : vw_C} {As : List Value} {X0 pl wc wr : va_W} {w1 wn : Nat → va_W} {r : Int32} (X : ctX p s m args meth c cc nL ret wl own A) (hK : va_K D vwCl (TY cy) s) (hP : va_P D vwCl (X0 ++ pl) H) (hD : va_D A (X0 ++ pl)) (hS : va_S A s.heap H locs) (isC isR pm : List Nat) (hC : isC.map (fun i => X0[i]?) = wc.map some) (hR : isR.map (fun i => X0[i]?) = wr.map some) (hnC : va_nd isC = true) (hn : va_nd isR = true) (hdis : ∀ i ∈ isR, i ∉ isC) (hpm : va_nd pm = true) (hN : ∀ kp, pm.map (fun i => (wr ++ w1 kp)[i]?) = (wn kp).map some)
    (hM : Met l y wy rm (ctP D cy wc H.size (.ref b :: As)) (va_Qi (fun (r' : Int32) (_ : Nat) => r' = r) (fun na t => va_P D vwCl (w1 na) t.heap ∧ va_K D vwCl (TY cy) t ∧ va_D (va_A wc H.size) (w1 na)) (va_A wc H.size)) 1 7 (va_A wc H.size)) (cw : CallW R s args own q.1 index y bytes maxL ret1 wy rm 1 7 n) (hci : vwCl[ci]? = some q) (he : X0[q0]? = some (b, .inr (ci, fs))) (hlen : As.length = n) {lv : List (Nat × Value)} (hls : lv_has ls nL lv) {st0 : List Value} (hst : st0 = As.reverse ++ .ref b :: rest) (hrm : (rest.map fun v => v.category).sum ≤ 8) (hdg : decode cc pc = .ok (.invokevirtual index, 3)) (hcs : cells + 1 ≤ R.cells) (hss : slots + 7 ≤ R.slots)
    (kk : ∀ (kp : Nat) (H : Heap) (locs : List Loc), va_P D vwCl (wn kp ++ pl) H → va_D A (wn kp ++ pl) → va_S A s.heap H locs → W p l e R s m args below meth c H locs (cells + 1) (slots + 7) Q (F0 m (pc + 3) ls (.int r :: rest))) : W p l e R s m args below meth c H locs cells slots Q (F0 m pc ls st0) := by
  have hFc := va_free hD hS X.2.2.2.2.2.2.2.1 isC (app_map hC)
  have hpre := ct_pre (av := .ref b :: As) X hK hP hD hS isC (app_map hC) hnC (app_fm hC)
  refine va_calli (va_runV ⟨X.1, X.2.1, X.2.2.1, X.2.2.2.1, X.2.2.2.2.1⟩ hM cw ⟨hpre.1, va_recv hK hP hci (app_at he), hpre.2⟩ rfl hlen hls.1 hst (lv_room hrm) hdg ⟨hcs, hss⟩) hS (fun q _ h => hFc q h) hFc (fun r' u t H1 locs1 ht hvm hw hB hz1 hk1 hS1 => ?_)
  cases hw
  obtain ⟨hP1, -, hD1⟩ := hB
  rw [ht] at hP1
  obtain ⟨hP2, hD2⟩ := va_joinQ hP hD isC isR hC hR hn hdis hk1 hFc hP1 hD1
  exact kk u H1 locs1 (hP2.part pm (hN u)) (hD2.part pm hpm (hN u)) hS1
end LWA

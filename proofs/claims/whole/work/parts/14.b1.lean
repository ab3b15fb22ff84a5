/-! the relation unpacked and packed; the first steps -/
theorem Rel.un {sc_length : Int32} {sc_bytes : Nat → Int32} {g_rows g_columns g_a g_b : Int32} {g_cells g_right g_down : Int64} {sl_f : Nat → Option Nat} {k0 k1 : Option (Nat × KG)} {m_textSize : Int32} {m_text : Nat → Int32} {m_rows m_columns m_a m_b : Int32} {m_right m_down m_shut kF kN iK : Nat → Int32}
    (h : Rel sc_length sc_bytes (g_rows, g_columns, g_a, g_b, g_cells, g_right, g_down) sl_f k0 k1 m_textSize m_text m_rows m_columns m_a m_b m_right m_down m_shut kF kN iK) :
    ∃ (R C : Nat) (rt dn : Nat → Bool) (a b n : Nat) (tx : Nat → Nat) (z0 z1 : Option Mzt), Mz R C rt dn ∧ isC R C a ∧ isC R C b ∧ g_rows = nI R ∧ g_columns = nI C ∧ g_a = nI (pl a) ∧ g_b = nI (pl b) ∧ g_cells = cwv R C ∧ bs g_right rt ∧ bs g_down dn ∧ m_rows = nI R ∧ m_columns = nI C ∧ m_a = nI a ∧ m_b = nI b ∧ (∀ i, i < 36 → m_right i = b2i (rt i) ∧ m_down i = b2i (dn i)) ∧
      TX n tx sc_length sc_bytes m_textSize m_text ∧ (∀ i, i < 36 → m_shut i = 0) ∧ SK 0 z0 k0 kF kN iK ∧ SK 1 z1 k1 kF kN iK ∧ sl_f 0 = k0.map (fun q => q.1) ∧ sl_f 1 = k1.map (fun q => q.1) := by
  obtain ⟨⟨R, C, rt, dn, a, b⟩, n, tx, z0, z1, ⟨hz, ha, hb⟩, ⟨c1, c2, c3, c4, c5, c6, c7⟩, ⟨m1, m2, m3, m4, m5⟩, ht, hsh, h0, h1, e0, e1⟩ := h
  exact ⟨R, C, rt, dn, a, b, n, tx, z0, z1, hz, ha, hb, c1, c2, c3, c4, cells_eq hz.1.2 hz.2.1.2 c5, c6, c7, m1, m2, m3, m4, m5, ht, hsh, h0, h1, e0, e1⟩
theorem cwv_ok {R C : Nat} (hR : R ≤ 6) (hC : C ≤ 6) : bs (cwv R C) (cellS R C) := by
  intro p
  by_cases h : p < 64
  · exact cwv_bs R (by omega) C (by omega) p h
  · rw [tb_ge (by omega)]
    simp [show ¬ p < 48 by omega]
theorem Rel.mk {sc_length : Int32} {sc_bytes : Nat → Int32} {g_right g_down : Int64} {sl_f : Nat → Option Nat} {k0 k1 : Option (Nat × KG)} {m_textSize : Int32} {m_text : Nat → Int32} {m_right m_down m_shut kF kN iK : Nat → Int32} {R C : Nat} {rt dn : Nat → Bool} {a b n : Nat} {tx : Nat → Nat} {z0 z1 : Option Mzt}
    (hz : Mz R C rt dn) (ha : isC R C a) (hb : isC R C b) (hr : bs g_right rt) (hd : bs g_down dn) (hm : ∀ i, i < 36 → m_right i = b2i (rt i) ∧ m_down i = b2i (dn i)) (ht : TX n tx sc_length sc_bytes m_textSize m_text) (hsh : ∀ i, i < 36 → m_shut i = 0) (h0 : SK 0 z0 k0 kF kN iK) (h1 : SK 1 z1 k1 kF kN iK) (e0 : sl_f 0 = k0.map (fun q => q.1)) (e1 : sl_f 1 = k1.map (fun q => q.1)) :
    Rel sc_length sc_bytes (nI R, nI C, nI (pl a), nI (pl b), cwv R C, g_right, g_down) sl_f k0 k1 m_textSize m_text (nI R) (nI C) (nI a) (nI b) m_right m_down m_shut kF kN iK :=
  ⟨(R, C, rt, dn, a, b), n, tx, z0, z1, ⟨hz, ha, hb⟩, ⟨rfl, rfl, rfl, rfl, cwv_ok hz.1.2 hz.2.1.2, hr, hd⟩, ⟨rfl, rfl, rfl, rfl, hm⟩, ht, hsh, h0, h1, e0, e1⟩
theorem isC_lt {R C : Nat} {rt dn : Nat → Bool} (hz : Mz R C rt dn) {i : Nat} (h : isC R C i) : i < 36 := by
  obtain ⟨h1, h2⟩ := h
  have := hz.1
  have := hz.2.1
  omega
theorem Mfig {mr md : Nat → Int32} {i : Nat} {x y : Bool} (h1 : mr i = b2i x) (h2 : md i = b2i y) (hi : i < 36) : fX10_figureOf mr md (nI i) = some (nI (x.toNat + 2 * y.toNat)) := by
  unfold fX10_figureOf
  rw [qgd_nI hi (by decide), nI_clamp (by omega), h1, h2]
  cases x
  · show qgd (nI i) 36 (if b2i y = 0 then some ((0 : Int32) + 0) else some ((0 : Int32) + 2)) = _
    rw [qgd_nI hi (by decide)]
    cases y <;> rfl
  · show qgd (nI i) 36 (if b2i y = 0 then some ((1 : Int32) + 0) else some ((1 : Int32) + 2)) = _
    rw [qgd_nI hi (by decide)]
    cases y <;> rfl
theorem cell_two {R C : Nat} {rt dn : Nat → Bool} (hz : Mz R C rt dn) (x : Int32) :
    (fX1_placeOf (nI R) (nI C) x = -1 ∧ fX10_isCell (nI R) (nI C) x = 0) ∨ ∃ i, i < 36 ∧ isC R C i ∧ fX1_placeOf (nI R) (nI C) x = nI (pl i) ∧ fX10_index x = nI i ∧ ¬ fX1_placeOf (nI R) (nI C) x = -1 ∧ ¬ fX10_isCell (nI R) (nI C) x = 0 := by
  rcases cell_cases hz.1 hz.2.1 x with h | ⟨i, hi, ci, q1, q2, q3⟩
  · exact Or.inl h
  · exact Or.inr ⟨i, hi, ci, q1, q3, by rw [q1]; exact nI_m1 (by have := pl_lt hi; omega), by rw [q2]; decide⟩
theorem side_two (x : Int32) : (fX9_isSide x = 0 ∧ fX10_isSide x = 0) ∨ ∃ s, s < 4 ∧ x = nI s ∧ ¬ fX9_isSide x = 0 ∧ ¬ fX10_isSide x = 0 := by
  rcases side_cases x with h | ⟨s, hs, e, q1, q2⟩
  · exact Or.inl h
  · exact Or.inr ⟨s, hs, e, by rw [q1]; decide, by rw [q2]; decide⟩
set_option maxRecDepth 20000 in
theorem st_wipe {sc_length : Int32} {sc_bytes : Nat → Int32} {g_rows : Int32} {g_columns : Int32} {g_a : Int32} {g_b : Int32} {g_cells : Int64} {g_right : Int64} {g_down : Int64} {m_textSize : Int32} {m_text : Nat → Int32} {m_rows : Int32} {m_columns : Int32} {m_a : Int32} {m_b : Int32} {m_right : Nat → Int32} {m_down : Nat → Int32} {m_shut : Nat → Int32} {m_keptFigures : Nat → Int32} {m_keptNumbers : Nat → Int32} {m_isKept : Nat → Int32} {m_thrown : Int32} {sl_f : Nat → Option Nat} {k0 k1 : Option (Nat × KG)}  (h : Rel sc_length sc_bytes (g_rows, g_columns, g_a, g_b, g_cells, g_right, g_down) sl_f k0 k1 m_textSize m_text m_rows m_columns m_a m_b m_right m_down m_shut m_keptFigures m_keptNumbers m_isKept) : ∃ (r : Int32) (sc_length' : Int32) (m_thrown' : Int32) (m_textSize' : Int32), fX9_wipe sc_length = (r, sc_length') ∧ fX10_wipe m_thrown m_textSize = (r, m_thrown', m_textSize') ∧ Rel sc_length' sc_bytes (g_rows, g_columns, g_a, g_b, g_cells, g_right, g_down) sl_f k0 k1 m_textSize' m_text m_rows m_columns m_a m_b m_right m_down m_shut m_keptFigures m_keptNumbers m_isKept := by
  obtain ⟨z, n, tx, z0, z1, hg, hc, hm, ⟨t1, t2, t3, t4⟩, hsh, h0, h1, e0, e1⟩ := h
  refine ⟨sc_length, 0, 0, 0, rfl, ?_, z, 0, tx, z0, z1, hg, hc, hm, ⟨by omega, rfl, rfl, fun j h => absurd h (Nat.not_lt_zero j)⟩, hsh, h0, h1, e0, e1⟩
  rw [t2, t3]
  rfl
set_option maxRecDepth 20000 in
theorem st_gates {sc_length : Int32} {sc_bytes : Nat → Int32} {g_rows : Int32} {g_columns : Int32} {g_a : Int32} {g_b : Int32} {g_cells : Int64} {g_right : Int64} {g_down : Int64} {m_textSize : Int32} {m_text : Nat → Int32} {m_rows : Int32} {m_columns : Int32} {m_a : Int32} {m_b : Int32} {m_right : Nat → Int32} {m_down : Nat → Int32} {m_shut : Nat → Int32} {m_keptFigures : Nat → Int32} {m_keptNumbers : Nat → Int32} {m_isKept : Nat → Int32} {m_thrown : Int32} {sl_f : Nat → Option Nat} {k0 k1 : Option (Nat × KG)} {p1 : Int32} {p2 : Int32} (h : Rel sc_length sc_bytes (g_rows, g_columns, g_a, g_b, g_cells, g_right, g_down) sl_f k0 k1 m_textSize m_text m_rows m_columns m_a m_b m_right m_down m_shut m_keptFigures m_keptNumbers m_isKept) : ∃ (r : Int32) (g_a' : Int32) (g_b' : Int32) (m_thrown' : Int32) (m_a' : Int32) (m_b' : Int32), fX9_gates g_rows g_columns g_a g_b p1 p2 = (r, g_a', g_b') ∧ fX10_gates m_thrown m_rows m_columns m_a m_b p1 p2 = (r, m_thrown', m_a', m_b') ∧ Rel sc_length sc_bytes (g_rows, g_columns, g_a', g_b', g_cells, g_right, g_down) sl_f k0 k1 m_textSize m_text m_rows m_columns m_a' m_b' m_right m_down m_shut m_keptFigures m_keptNumbers m_isKept := by
  obtain ⟨R, C, rt, dn, a, b, n, tx, z0, z1, hz, ha, hb, rfl, rfl, rfl, rfl, rfl, hr, hd, rfl, rfl, rfl, rfl, hm, ht, hsh, h0, h1, e0, e1⟩ := id h.un
  unfold fX9_gates fX10_gates
  rcases cell_two hz p1 with ⟨q1, q2⟩ | ⟨i, hi, ci, q1, q3, n1, n2⟩
  · rw [if_pos q1, if_pos q2]
    exact ⟨_, _, _, _, _, _, rfl, rfl, h⟩
  · rw [if_neg n1, if_neg n2]
    rcases cell_two hz p2 with ⟨u1, u2⟩ | ⟨j, hj, cj, u1, u3, v1, v2⟩
    · rw [if_pos u1, if_pos u2]
      exact ⟨_, _, _, _, _, _, rfl, rfl, h⟩
    · rw [if_neg v1, if_neg v2, q1, u1, q3, u3, told_code a (isC_lt hz ha), told_code b (isC_lt hz hb)]
      exact ⟨_, _, _, _, _, _, rfl, rfl, Rel.mk hz ci cj hr hd hm ht hsh h0 h1 e0 e1⟩
set_option maxRecDepth 20000 in
theorem st_open {sc_length : Int32} {sc_bytes : Nat → Int32} {g_rows : Int32} {g_columns : Int32} {g_a : Int32} {g_b : Int32} {g_cells : Int64} {g_right : Int64} {g_down : Int64} {m_textSize : Int32} {m_text : Nat → Int32} {m_rows : Int32} {m_columns : Int32} {m_a : Int32} {m_b : Int32} {m_right : Nat → Int32} {m_down : Nat → Int32} {m_shut : Nat → Int32} {m_keptFigures : Nat → Int32} {m_keptNumbers : Nat → Int32} {m_isKept : Nat → Int32} {m_thrown : Int32} {sl_f : Nat → Option Nat} {k0 k1 : Option (Nat × KG)} {p1 : Int32} {p2 : Int32} (h : Rel sc_length sc_bytes (g_rows, g_columns, g_a, g_b, g_cells, g_right, g_down) sl_f k0 k1 m_textSize m_text m_rows m_columns m_a m_b m_right m_down m_shut m_keptFigures m_keptNumbers m_isKept) : ∃ (r : Int32) (m_thrown' : Int32), fX9_open g_rows g_columns g_right g_down p1 p2 = r ∧ fX10_open m_thrown m_rows m_columns m_right m_down p1 p2 = some (r, m_thrown') ∧ Rel sc_length sc_bytes (g_rows, g_columns, g_a, g_b, g_cells, g_right, g_down) sl_f k0 k1 m_textSize m_text m_rows m_columns m_a m_b m_right m_down m_shut m_keptFigures m_keptNumbers m_isKept := by
  obtain ⟨R, C, rt, dn, a, b, n, tx, z0, z1, hz, ha, hb, rfl, rfl, rfl, rfl, rfl, hr, hd, rfl, rfl, rfl, rfl, hm, ht, hsh, h0, h1, e0, e1⟩ := id h.un
  unfold fX9_open fX10_open
  rcases cell_two hz p1 with ⟨q1, q2⟩ | ⟨i, hi, ci, q1, q3, n1, n2⟩
  · rw [if_pos q1, if_pos q2]
    exact ⟨_, _, rfl, rfl, h⟩
  · rw [if_neg n1, if_neg n2]
    rcases side_two p2 with ⟨u1, u2⟩ | ⟨s, hs, rfl, v1, v2⟩
    · rw [if_pos u1, if_pos u2]
      exact ⟨_, _, rfl, rfl, h⟩
    · rw [if_neg v1, if_neg v2, q1, q3, Copen hr hd hi hs, Mopen hz hm ci hs]
      cases opS rt dn i s
      · exact ⟨_, _, rfl, rfl, h⟩
      · exact ⟨_, _, rfl, rfl, h⟩
set_option maxRecDepth 20000 in
theorem st_figure {sc_length : Int32} {sc_bytes : Nat → Int32} {g_rows : Int32} {g_columns : Int32} {g_a : Int32} {g_b : Int32} {g_cells : Int64} {g_right : Int64} {g_down : Int64} {m_textSize : Int32} {m_text : Nat → Int32} {m_rows : Int32} {m_columns : Int32} {m_a : Int32} {m_b : Int32} {m_right : Nat → Int32} {m_down : Nat → Int32} {m_shut : Nat → Int32} {m_keptFigures : Nat → Int32} {m_keptNumbers : Nat → Int32} {m_isKept : Nat → Int32} {m_thrown : Int32} {sl_f : Nat → Option Nat} {k0 k1 : Option (Nat × KG)} {p1 : Int32} (h : Rel sc_length sc_bytes (g_rows, g_columns, g_a, g_b, g_cells, g_right, g_down) sl_f k0 k1 m_textSize m_text m_rows m_columns m_a m_b m_right m_down m_shut m_keptFigures m_keptNumbers m_isKept) : ∃ (r : Int32) (m_thrown' : Int32), fX9_figure g_rows g_columns g_right g_down p1 = r ∧ fX10_figure m_thrown m_rows m_columns m_right m_down p1 = some (r, m_thrown') ∧ Rel sc_length sc_bytes (g_rows, g_columns, g_a, g_b, g_cells, g_right, g_down) sl_f k0 k1 m_textSize m_text m_rows m_columns m_a m_b m_right m_down m_shut m_keptFigures m_keptNumbers m_isKept := by
  obtain ⟨R, C, rt, dn, a, b, n, tx, z0, z1, hz, ha, hb, rfl, rfl, rfl, rfl, rfl, hr, hd, rfl, rfl, rfl, rfl, hm, ht, hsh, h0, h1, e0, e1⟩ := id h.un
  unfold fX9_figure fX10_figure
  rcases cell_two hz p1 with ⟨q1, q2⟩ | ⟨i, hi, ci, q1, q3, n1, n2⟩
  · rw [if_pos q1, if_pos q2]
    exact ⟨_, _, rfl, rfl, h⟩
  · rw [if_neg n1, if_neg n2, q1, q3, lit_nI 1, lit_nI 2, Copen hr hd hi (by decide : 1 < 4), Copen hr hd hi (by decide : 2 < 4)]
    rw [Mfig (hm i hi).1 (hm i hi).2 hi]
    have o1 : opS rt dn i 1 = rt i := rfl
    have o2 : opS rt dn i 2 = dn i := rfl
    rw [o1, o2]
    cases rt i <;> cases dn i
    all_goals exact ⟨_, _, rfl, rfl, h⟩
set_option maxRecDepth 20000 in
theorem st_hedge {sc_length : Int32} {sc_bytes : Nat → Int32} {g_rows : Int32} {g_columns : Int32} {g_a : Int32} {g_b : Int32} {g_cells : Int64} {g_right : Int64} {g_down : Int64} {m_textSize : Int32} {m_text : Nat → Int32} {m_rows : Int32} {m_columns : Int32} {m_a : Int32} {m_b : Int32} {m_right : Nat → Int32} {m_down : Nat → Int32} {m_shut : Nat → Int32} {m_keptFigures : Nat → Int32} {m_keptNumbers : Nat → Int32} {m_isKept : Nat → Int32} {m_thrown : Int32} {sl_f : Nat → Option Nat} {k0 k1 : Option (Nat × KG)} {p1 : Int32} {p2 : Int32} {p3 : Bool} (h : Rel sc_length sc_bytes (g_rows, g_columns, g_a, g_b, g_cells, g_right, g_down) sl_f k0 k1 m_textSize m_text m_rows m_columns m_a m_b m_right m_down m_shut m_keptFigures m_keptNumbers m_isKept) : ∃ (r : Int32) (g_right' : Int64) (g_down' : Int64) (m_thrown' : Int32) (m_right' : Nat → Int32) (m_down' : Nat → Int32), fX9_hedge g_rows g_columns g_cells g_right g_down p1 p2 (b2i p3) = (r, g_right', g_down') ∧ fX10_hedge m_thrown m_rows m_columns m_right m_down p1 p2 (b2i p3) = some (r, m_thrown', m_right', m_down') ∧ Rel sc_length sc_bytes (g_rows, g_columns, g_a, g_b, g_cells, g_right', g_down') sl_f k0 k1 m_textSize m_text m_rows m_columns m_a m_b m_right' m_down' m_shut m_keptFigures m_keptNumbers m_isKept := by
  obtain ⟨R, C, rt, dn, a, b, n, tx, z0, z1, hz, ha, hb, rfl, rfl, rfl, rfl, rfl, hr, hd, rfl, rfl, rfl, rfl, hm, ht, hsh, h0, h1, e0, e1⟩ := id h.un
  unfold fX9_hedge fX10_hedge
  rcases cell_two hz p1 with ⟨q1, q2⟩ | ⟨i, hi, ci, q1, q3, n1, n2⟩
  · rw [if_pos q1, if_pos q2]
    exact ⟨_, _, _, _, _, _, rfl, rfl, h⟩
  · rw [if_neg n1, if_neg n2]
    rcases side_two p2 with ⟨u1, u2⟩ | ⟨s, hs, rfl, v1, v2⟩
    · rw [if_pos u1, if_pos u2]
      exact ⟨_, _, _, _, _, _, rfl, rfl, h⟩
    · rw [if_neg v1, if_neg v2, q1, q3, Cbeside R (by have := hz.1; omega) C (by have := hz.2.1; omega) i hi s hs ci, Mbeside R (by have := hz.1; omega) C (by have := hz.2.1; omega) i hi s hs ci]
      cases hrim : rimB R C i s with
      | false =>
        rw [if_neg Bool.false_ne_true, if_neg Bool.false_ne_true, if_pos rfl, if_pos rfl]
        exact ⟨_, _, _, _, _, _, rfl, rfl, h⟩
      | true =>
        have hmv := rim_lt hz.1.2 hz.2.1.2 hs ci hrim
        have hp2 := pl_lt hmv.1
        rw [if_pos rfl, if_pos rfl, if_neg (nI_m1 (by omega)), if_neg (nI_m9 (by omega)), Copen hr hd hi hs, Mopen hz hm ci hs]
        obtain ⟨r', d', s1, s2, s3⟩ := Cset hz hr hd ci hs hrim p3
        obtain ⟨mr', md', w1, w2⟩ := Mset hz hm ci hs hrim p3
        rw [s1]
        have hrel := Rel.mk (sc_length := sc_length) (sc_bytes := sc_bytes) (sl_f := sl_f) (set_Mz hz ci hs hrim p3) ha hb s2 s3 w2 ht hsh h0 h1 e0 e1
        cases opS rt dn i s
        · refine ⟨0, r', d', 0, mr', md', rfl, ?_, hrel⟩
          show Option.bind (fX10_set (nI R) (nI C) m_right m_down (nI i) (nI s) (b2i p3)) _ = _
          rw [w1]
          rfl
        · refine ⟨1, r', d', 0, mr', md', rfl, ?_, hrel⟩
          show Option.bind (fX10_set (nI R) (nI C) m_right m_down (nI i) (nI s) (b2i p3)) _ = _
          rw [w1]
          rfl

/-! about -/
theorem i32_swap (a b c : Int32) : (a + b) - c = (a - c) + b := by
  rw [Int32.sub_eq_add_neg, Int32.sub_eq_add_neg, Int32.add_assoc, Int32.add_comm b, ← Int32.add_assoc]
set_option maxRecDepth 20000 in
theorem Mno9 {R C : Int32} {a b : Int32} {mr md : Nat → Int32} {p : Int32} (h : ¬ p = 9) (di qu ms : Nat → Int32) : qlp qFU (lb_X10_about_2 R C a b mr md p) ((0 : Int32), (0 : Int32), di, qu, ms) = some ((0 : Int32), di, qu, ms) := by
  refine qlp_seq (f := lb_X10_about_2 R C a b mr md p) (fun _ => ((0 : Int32), (0 : Int32), di, qu, ms)) 0 _ (fun k hk => absurd hk (Nat.not_lt_zero k)) ?_ qFU (qFU_gt (by decide))
  rw [ls_X10_about_2, if_neg (by decide), if_neg h]
set_option maxRecDepth 20000 in
set_option maxHeartbeats 2000000 in
theorem st_about {sc_length : Int32} {sc_bytes : Nat → Int32} {g_rows : Int32} {g_columns : Int32} {g_a : Int32} {g_b : Int32} {g_cells : Int64} {g_right : Int64} {g_down : Int64} {m_textSize : Int32} {m_text : Nat → Int32} {m_rows : Int32} {m_columns : Int32} {m_a : Int32} {m_b : Int32} {m_right : Nat → Int32} {m_down : Nat → Int32} {m_shut : Nat → Int32} {m_keptFigures : Nat → Int32} {m_keptNumbers : Nat → Int32} {m_isKept : Nat → Int32} {m_thrown : Int32} {m_dist : Nat → Int32} {m_queue : Nat → Int32} {m_parts : Nat → Int32} {sl_f : Nat → Option Nat} {k0 k1 : Option (Nat × KG)} {p1 : Int32} (h : Rel sc_length sc_bytes (g_rows, g_columns, g_a, g_b, g_cells, g_right, g_down) sl_f k0 k1 m_textSize m_text m_rows m_columns m_a m_b m_right m_down m_shut m_keptFigures m_keptNumbers m_isKept) : ∃ (r : Int32) (g_right' : Int64) (g_down' : Int64) (m_thrown' : Int32) (m_right' : Nat → Int32) (m_down' : Nat → Int32) (m_dist' : Nat → Int32) (m_queue' : Nat → Int32) (m_shut' : Nat → Int32) (m_parts' : Nat → Int32), fX9_about sc_length g_rows g_columns g_a g_b g_cells g_right g_down p1 = some (r, g_right', g_down') ∧ fX10_about m_thrown m_textSize m_rows m_columns m_a m_b m_right m_down m_dist m_queue m_shut m_parts p1 = some (r, m_thrown', m_right', m_down', m_dist', m_queue', m_shut', m_parts') ∧ Rel sc_length sc_bytes (g_rows, g_columns, g_a, g_b, g_cells, g_right', g_down') sl_f k0 k1 m_textSize m_text m_rows m_columns m_a m_b m_right' m_down' m_shut' m_keptFigures m_keptNumbers m_isKept := by
  obtain ⟨R, C, rt, dn, a, b, n, tx, z0, z1, hz, ha, hb, rfl, rfl, rfl, rfl, rfl, hr, hd, rfl, rfl, rfl, rfl, hm, ht, hsh, h0, h1, e0, e1⟩ := id h.un
  have ha36 := isC_lt hz ha
  have hb36 := isC_lt hz hb
  rw [le_X10_about, Mends hz hm, qob_some, qun2_eq]
  unfold fX9_about
  by_cases q9 : p1 = 9
  · subst q9
    obtain ⟨D, hL⟩ := LF_ex hz ha
    obtain ⟨di', qu', ms', m1, m2⟩ := Mmusts hz hm hsh ha hb hL m_dist m_queue
    obtain ⟨x, c1, c2⟩ := Cmust hz hr hd ha hb hL
    have c2 : bs x (mustB rt dn D a b) := c2
    rw [m1, qob_some, qun4_eq, if_neg (by decide), if_neg (by decide), if_neg (by decide), if_neg (by decide), if_neg (by decide), if_neg (by decide), if_neg (by decide), if_neg (by decide), if_neg (by decide), if_pos rfl, c1, qob_some, qun1_eq, bs_count c2]
    refine ⟨nI (cn (mustB rt dn D a b) 36), g_right, g_down, 0, m_right, m_down, di', qu', ms', m_parts, rfl, ?_, Rel.mk hz ha hb hr hd hm ht m2 h0 h1 e0 e1⟩
    rw [if_neg (by decide), if_neg (by decide), if_neg (by decide), if_neg (by decide), if_neg (by decide), if_neg (by decide), if_neg (by decide), if_neg (by decide), if_neg (by decide), if_pos rfl]
  · rw [Mno9 q9, qob_some, qun4_eq]
    by_cases q0 : p1 = 0
    · rw [if_pos q0, if_pos q0]
      exact ⟨_, _, _, _, _, _, _, _, _, _, rfl, rfl, h⟩
    rw [if_neg q0, if_neg q0]
    by_cases q1 : p1 = 1
    · rw [if_pos q1, if_pos q1]
      exact ⟨_, _, _, _, _, _, _, _, _, _, rfl, rfl, h⟩
    rw [if_neg q1, if_neg q1]
    by_cases q2 : p1 = 2
    · rw [if_pos q2, if_pos q2]
      exact ⟨_, _, _, _, _, _, _, _, _, _, rfl, rfl, h⟩
    rw [if_neg q2, if_neg q2]
    by_cases q3 : p1 = 3
    · rw [if_pos q3, if_pos q3, Mopenings hm, Copenings hr hd, qob_some]
      exact ⟨_, _, _, _, _, _, _, _, _, _, rfl, rfl, h⟩
    rw [if_neg q3, if_neg q3]
    by_cases q4 : p1 = 4
    · obtain ⟨di', qu', pa', m1, -⟩ := Mparts hz hm hsh m_dist m_queue m_parts
      rw [if_pos q4, if_pos q4, m1, Cparts hz hr hd, qob_some, qob_some]
      exact ⟨_, _, _, _, _, _, _, _, _, _, rfl, rfl, h⟩
    rw [if_neg q4, if_neg q4]
    by_cases q5 : p1 = 5
    · obtain ⟨di', qu', pa', m1, -⟩ := Mparts hz hm hsh m_dist m_queue m_parts
      rw [if_pos q5, if_pos q5, Mopenings hm, Copenings hr hd, qob_some, qun1_eq, m1, Cparts hz hr hd, qob_some, qob_some, qun1_eq, i32_swap]
      exact ⟨_, _, _, _, _, _, _, _, _, _, rfl, rfl, h⟩
    rw [if_neg q5, if_neg q5]
    by_cases q6 : p1 = 6
    · rw [if_pos q6, if_pos q6, show fX7_cellsWithNeighbours (cwv R C) g_right g_down 1 1 = _ from Ccells hz hr hd (lo := 1) (hi := 1) (by decide) (by decide), qob_some]
      exact ⟨_, _, _, _, _, _, _, _, _, _, rfl, rfl, h⟩
    rw [if_neg q6, if_neg q6]
    by_cases q7 : p1 = 7
    · rw [if_pos q7, if_pos q7, show fX7_cellsWithNeighbours (cwv R C) g_right g_down 3 4 = _ from Ccells hz hr hd (lo := 3) (hi := 4) (by decide) (by decide), qob_some]
      exact ⟨_, _, _, _, _, _, _, _, _, _, rfl, rfl, h⟩
    rw [if_neg q7, if_neg q7]
    by_cases q8 : p1 = 8
    · obtain ⟨mr', md', di', qu', m1, m2⟩ := Mbrs (r := g_right) (d := g_down) hz hr hd hm hsh m_dist m_queue
      rw [if_pos q8, if_pos q8, Cbrs hz hr hd, m1, qob_some, qob_some]
      exact ⟨_, _, _, _, _, _, _, _, _, _, rfl, rfl, Rel.mk hz ha hb hr hd m2 ht hsh h0 h1 e0 e1⟩
    rw [if_neg q8, if_neg q8, if_neg q9, if_neg q9]
    by_cases q10 : p1 = 10
    · obtain ⟨m, f1, f2, f3⟩ := psI_end (b := b) hz ha
      obtain ⟨x, c1, c2⟩ := Cleft hz hr hd ha hb f1 f2 f3
      obtain ⟨ms1, m1, m2⟩ := Mfill hz hm hsh ha hb f1 f2 f3
      obtain ⟨ms2, m3, m4⟩ := Mclr ms1
      rw [if_pos q10, if_pos q10, c1, m1, qob_some, qob_some, qun1_eq, qun2_eq, m3, qob_some, bs_count c2]
      exact ⟨_, _, _, _, _, _, _, _, _, _, rfl, rfl, Rel.mk hz ha hb hr hd hm ht m4 h0 h1 e0 e1⟩
    rw [if_neg q10, if_neg q10]
    by_cases q11 : p1 = 11
    · rw [if_pos q11, if_pos q11, told_code a ha36]
      exact ⟨_, _, _, _, _, _, _, _, _, _, rfl, rfl, h⟩
    rw [if_neg q11, if_neg q11]
    by_cases q12 : p1 = 12
    · rw [if_pos q12, if_pos q12, told_code b hb36]
      exact ⟨_, _, _, _, _, _, _, _, _, _, rfl, rfl, h⟩
    rw [if_neg q12, if_neg q12]
    by_cases q13 : p1 = 13
    · rw [if_pos q13, if_pos q13, ht.2.1, ht.2.2.1]
      refine ⟨_, _, _, _, _, _, _, _, _, _, rfl, rfl, ?_⟩
      have := h
      rw [ht.2.1, ht.2.2.1] at this
      exact this
    rw [if_neg q13, if_neg q13]
    exact ⟨_, _, _, _, _, _, _, _, _, _, rfl, rfl, h⟩

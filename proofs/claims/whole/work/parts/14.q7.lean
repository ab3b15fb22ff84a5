set_option maxRecDepth 20000 in
theorem st_lost {sc_length : Int32} {sc_bytes : Nat → Int32} {g_rows : Int32} {g_columns : Int32} {g_a : Int32} {g_b : Int32} {g_cells : Int64} {g_right : Int64} {g_down : Int64} {m_textSize : Int32} {m_text : Nat → Int32} {m_rows : Int32} {m_columns : Int32} {m_a : Int32} {m_b : Int32} {m_right : Nat → Int32} {m_down : Nat → Int32} {m_shut : Nat → Int32} {m_keptFigures : Nat → Int32} {m_keptNumbers : Nat → Int32} {m_isKept : Nat → Int32} {su_count : Int32} {su_above : Int64} {su_below : Int64} {su_order : Nat → Int32} {su_table : Nat → Nat → Int64} {m_thrown : Int32} {m_dist : Nat → Int32} {m_queue : Nat → Int32} {m_parts : Nat → Int32} {m_matrix : Nat → Int64} {m_member : Nat → Int32} {m_place : Nat → Int32} {sl_f : Nat → Option Nat} {k0 k1 : Option (Nat × KG)} {p1 : Int32} {p2 : Int32} {p3 : Bool} (h : Rel sc_length sc_bytes (g_rows, g_columns, g_a, g_b, g_cells, g_right, g_down) sl_f k0 k1 m_textSize m_text m_rows m_columns m_a m_b m_right m_down m_shut m_keptFigures m_keptNumbers m_isKept) : ∃ (r : Int64) (su_count' : Int32) (su_above' : Int64) (su_below' : Int64) (su_order' : Nat → Int32) (su_table' : Nat → Nat → Int64) (m_thrown' : Int32) (m_dist' : Nat → Int32) (m_queue' : Nat → Int32) (m_parts' : Nat → Int32) (m_matrix' : Nat → Int64) (m_member' : Nat → Int32) (m_place' : Nat → Int32), fX9_lost g_rows g_columns g_cells g_right g_down su_count su_above su_below su_order su_table p1 p2 (b2i p3) = some (r, su_count', su_above', su_below', su_order', su_table') ∧ fX10_lost m_thrown m_rows m_columns m_right m_down m_dist m_queue m_shut m_parts m_matrix m_member m_place p1 p2 (b2i p3) = some (r, m_thrown', m_dist', m_queue', m_parts', m_matrix', m_member', m_place') ∧ Rel sc_length sc_bytes (g_rows, g_columns, g_a, g_b, g_cells, g_right, g_down) sl_f k0 k1 m_textSize m_text m_rows m_columns m_a m_b m_right m_down m_shut m_keptFigures m_keptNumbers m_isKept := by
  obtain ⟨R, C, rt, dn, a, b, n, tx, z0, z1, hz, ha, hb, rfl, rfl, rfl, rfl, rfl, hr, hd, rfl, rfl, rfl, rfl, hm, ht, hsh, h0, h1, e0, e1⟩ := id h.un
  rw [le_X10_lost]
  unfold fX9_lost
  rcases cell_two hz p1 with ⟨q1, q2⟩ | ⟨f, f36, cf, q1, q3, n1, n2⟩
  · rw [if_pos q1, if_pos q2]
    exact ⟨_, _, _, _, _, _, _, _, _, _, _, _, _, rfl, rfl, h⟩
  rw [if_neg n1, if_neg n2]
  rcases cell_two hz p2 with ⟨w1, w2⟩ | ⟨o, o36, co, w1, w3, n3, n4⟩
  · rw [if_pos w1, if_pos w2]
    exact ⟨_, _, _, _, _, _, _, _, _, _, _, _, _, rfl, rfl, h⟩
  rw [if_neg n3, if_neg n4, q1, q3, w1, w3]
  obtain ⟨D, hL⟩ := LF_ex hz cf
  obtain ⟨x, c1, c2⟩ := Cpart hz hr hd cf hL
  have c3 : bs x (cnn rt dn f) := bs_congr c2 (fun t ht => (cnn_iff hz hL ht).symm)
  obtain ⟨di1, qu1, pa1, mb1, pc1, m1, -, -, m5⟩ := Mmem (p2 := -9) hz hm hsh cf (S := cnn rt dn f) (fun t ht => by rw [decide_eq_false (nI_m9 (by omega)), Bool.not_false, Bool.and_true]) m_dist m_queue m_parts m_member m_place
  have hle := cn_le (cnn rt dn f) 36
  rw [c1, qob_some, qun1_eq, bs_has c3 o36, bs_count c3, m1, qob_some, qun6_eq, qgd_nI f36 (by decide), qgd_nI o36 (by decide), nI_clamp (show f < 2 ^ 31 by omega), nI_clamp (show o < 2 ^ 31 by omega)]
  cases hc : cnn rt dn f o with
  | false =>
    rw [if_pos b0f, if_neg (show ¬ pa1 f = pa1 o from fun w => by rw [(m5 o o36).mp w.symm] at hc; cases hc)]
    exact ⟨_, _, _, _, _, _, _, _, _, _, _, _, _, rfl, rfl, h⟩
  | true =>
    rw [if_neg b0t, if_pos (show pa1 f = pa1 o from ((m5 o o36).mpr hc).symm)]
    by_cases w : cn (cnn rt dn f) 36 ≤ 10
    · rw [if_pos (le10 w), if_pos (le10 w)]
      by_cases e : f = o
      · subst e
        have ep : p1 = p2 := idx_inj hz.1 hz.2.1 n2 n4 (by rw [q3, w3])
        rw [if_pos ep]
        unfold fX6_meanSteps
        rw [if_pos rfl, qob_some, qun5_eq]
        cases p3 with
        | false =>
          rw [if_pos b0f, if_pos b0f]
          exact ⟨_, _, _, _, _, _, _, _, _, _, _, _, _, rfl, rfl, h⟩
        | true =>
          rw [if_neg b0t, if_neg b0t]
          exact ⟨_, _, _, _, _, _, _, _, _, _, _, _, _, rfl, rfl, h⟩
      · have ep : ¬ p1 = p2 := fun v => e (nI_inj (by omega) (by omega) (by rw [← q3, ← w3, v]))
        rw [if_neg ep]
        obtain ⟨u1, l1, u2, l2, k, p, q, fr, l10, l20, u2b, l2b, k0, k9, pk, q36, ⟨ab, be, c', od', T', t1, t2, t3⟩, di2, qu2, pa2, mb2, pc2, M1, M2, g1, g2, g3, g4, g5, g6, g7⟩ := lost_two hz hr hd hm hsh cf co e hc w c3 su_count su_above su_below su_order su_table di1 qu1 pa1 mb1 pc1 m_matrix
        obtain ⟨r1, r2⟩ := fr_eq fr l10 l20
        obtain ⟨gw, v1, v2⟩ := Mgcd g6 g7 u2b l2b
        have hg := Nat.gcd_pos_of_pos_right u2 l20
        have hw : ¬ gw = 0 := fun v => by have := (i64_nz v2).mp v; omega
        have s1 : (nI k - 1 : Int32) = nI (k - 1) := nI_sub (b := 1) k0
        rw [t1, qob_some, qun5_eq, g1, qob_some, qun6_eq, i16b k0, show (nI (16 * (k - 1) + k) - 1 : Int32) = nI (16 * (k - 1) + (k - 1)) from by rw [← i16b k0]; exact i16m k0, s1, nI_clamp (show k - 1 < 2 ^ 31 by omega), g2, g3, nI_clamp (show p < 2 ^ 31 by omega), nI_clamp (show q < 2 ^ 31 by omega), qgd_nI (show k - 1 < 36 by omega) (by decide), qgd_nI f36 (by decide), qgd_nI (show k - 1 < 36 by omega) (by decide), qgd_nI (show p < 36 by omega) (by decide), qbd_e, qgd_nI q36 (by decide), qbd_e, qgd_nI f36 (by decide), g4, qob_some, qun1_eq, g5, qob_some, qun1_eq, qgd_nI (show 16 * (k - 1) + k < 256 by omega) (by decide), qbd_e, qgd_nI (show 16 * (k - 1) + (k - 1) < 256 by omega) (by decide), qbd_e, nI_clamp (show 16 * (k - 1) + k < 2 ^ 31 by omega), nI_clamp (show 16 * (k - 1) + (k - 1) < 2 ^ 31 by omega), v1, qob_some, qun1_eq, if_pos (lg_nn v2), qob_some, qun1_eq]
        cases p3 with
        | false =>
          have ev : M2 (16 * (k - 1) + (k - 1)) / gw = be := Int64.toInt_inj.mp (by rw [i64_dv g7 v2 l2b, t3, r2])
          rw [if_pos b0f, if_pos b0f, qg_nz hw, ev]
          exact ⟨_, _, _, _, _, _, _, _, _, _, _, _, _, rfl, rfl, h⟩
        | true =>
          have ev : M2 (16 * (k - 1) + k) / gw = ab := Int64.toInt_inj.mp (by rw [i64_dv g6 v2 u2b, t2, r1])
          rw [if_neg b0t, if_neg b0t, qg_nz hw, ev]
          exact ⟨_, _, _, _, _, _, _, _, _, _, _, _, _, rfl, rfl, h⟩
    · rw [if_neg (gt10 w (by omega)), if_neg (gt10 w (by omega))]
      exact ⟨_, _, _, _, _, _, _, _, _, _, _, _, _, rfl, rfl, h⟩

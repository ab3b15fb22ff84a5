/-! bridge -/
theorem upB_back {f : Nat → Bool} {k : Nat} (h : f k = true) : upB (upB f k false) k true = f := by
  funext j
  unfold upB
  by_cases e : j = k
  · rw [if_pos e, e, h]
  · rw [if_neg e, if_neg e]
theorem set_back {rt dn : Nat → Bool} {i s : Nat} (hs : s < 4) (h : opS rt dn i s = true) : sr (sr rt i s false) i s true = rt ∧ sd (sd dn i s false) i s true = dn := by
  unfold opS at h
  rcases (show s = 0 ∨ s = 1 ∨ s = 2 ∨ s = 3 by omega) with rfl | rfl | rfl | rfl
  · simp at h
    exact ⟨rfl, upB_back h.2⟩
  · simp at h
    exact ⟨upB_back h, rfl⟩
  · simp at h
    exact ⟨rfl, upB_back h⟩
  · simp at h
    exact ⟨upB_back h.2, rfl⟩
set_option maxRecDepth 20000 in
theorem bridge_both {R C : Nat} {rt dn : Nat → Bool} {r d : Int64} {mr md ms : Nat → Int32} (hz : Mz R C rt dn) (hr : bs r rt) (hd : bs d dn) (hm : ∀ i, i < 36 → mr i = b2i (rt i) ∧ md i = b2i (dn i)) (hsh : ∀ i, i < 36 → ms i = 0) {i s : Nat} (hi : isC R C i) (hs : s < 4) (ho : opS rt dn i s = true) (m_dist m_queue : Nat → Int32) :
    ∃ (v : Bool) (r' d' : Int64) (mr' md' di' qu' : Nat → Int32), fX7_isBridge (cwv R C) r d (nI (pl i)) (nI s) = some (b2i v, r', d') ∧ fX10_isBridge (nI R) (nI C) mr md m_dist m_queue ms (nI i) (nI s) = some (b2i v, mr', md', di', qu') ∧ bs r' rt ∧ bs d' dn ∧ (∀ i, i < 36 → mr' i = b2i (rt i) ∧ md' i = b2i (dn i)) := by
  have hi36 := isC_lt hz hi
  have hrim := op_rim hz hs ho
  have hn := op_isC hz hi hs ho
  have hp := pl_lt hn.2
  have hz1 := set_Mz hz hi hs hrim false
  obtain ⟨r1, d1, c1, c2, c3⟩ := Cset hz hr hd hi hs hrim false
  obtain ⟨mr1, md1, m1, m2⟩ := Mset hz hm hi hs hrim false
  obtain ⟨r2, d2, c4, c5, c6⟩ := Cset hz1 c2 c3 hi hs hrim true
  obtain ⟨mr2, md2, m3, m4⟩ := Mset hz1 m2 hi hs hrim true
  obtain ⟨b1, b2⟩ := set_back hs ho
  rw [b1] at c5
  rw [b2] at c6
  rw [b1, b2] at m4
  obtain ⟨di, qu, D, l1, l2, l3⟩ := Mlay (sh := fun _ => false) (ms := ms) hz1 m2 (fun i hi => by rw [hsh i hi]; rfl) hi m_dist m_queue
  obtain ⟨x, p1, p2⟩ := Cpart hz1 c2 c3 hi l3
  refine ⟨decide (D (mvN i s) = 9999), r2, d2, mr2, md2, di, qu, ?_, ?_, c5, c6, m4⟩
  · unfold fX7_isBridge
    have e0 : b2i false = 0 := rfl
    have e1 : b2i true = 1 := rfl
    rw [Cneigh hz hr hd hi hs, ho, if_pos rfl, if_neg (nI_m1 (by omega))]
    rw [e0] at c1
    rw [e1] at c4
    simp only [qbd]
    rw [c1, qun2_eq, p1, qob_some, qun1_eq, bs_has p2 hn.2, c4]
    by_cases q : D (mvN i s) = 9999
    · simp [q]; rfl
    · simp [q]; rfl
  · unfold fX10_isBridge
    have e0 : b2i false = 0 := rfl
    have e1 : b2i true = 1 := rfl
    rw [e0] at m1
    rw [e1] at m3
    rw [m1, qob_some, qun2_eq, l1, qob_some, qun2_eq, Mbeside R (by have := hz.1; omega) C (by have := hz.2.1; omega) i hi36 s hs hi, hrim, if_pos rfl, qgd_nI hn.2 (by decide), nI_clamp (by omega), l2 _ hn.2]
    by_cases q : D (mvN i s) = 9999
    · rw [q, if_pos (show nI 9999 = 9999 from rfl), qob_some, qun1_eq, m3]
      rfl
    · have hsm := l3.2.1 _ hn.2
      rw [if_neg (show ¬ nI (D (mvN i s)) = 9999 from nI_ne (b := 9999) (by omega) (by decide) q), qob_some, qun1_eq, m3]
      simp [q]; rfl
set_option maxRecDepth 20000 in
theorem st_bridge {sc_length : Int32} {sc_bytes : Nat → Int32} {g_rows : Int32} {g_columns : Int32} {g_a : Int32} {g_b : Int32} {g_cells : Int64} {g_right : Int64} {g_down : Int64} {m_textSize : Int32} {m_text : Nat → Int32} {m_rows : Int32} {m_columns : Int32} {m_a : Int32} {m_b : Int32} {m_right : Nat → Int32} {m_down : Nat → Int32} {m_shut : Nat → Int32} {m_keptFigures : Nat → Int32} {m_keptNumbers : Nat → Int32} {m_isKept : Nat → Int32} {m_thrown : Int32} {m_dist : Nat → Int32} {m_queue : Nat → Int32} {sl_f : Nat → Option Nat} {k0 k1 : Option (Nat × KG)} {p1 : Int32} {p2 : Int32} (h : Rel sc_length sc_bytes (g_rows, g_columns, g_a, g_b, g_cells, g_right, g_down) sl_f k0 k1 m_textSize m_text m_rows m_columns m_a m_b m_right m_down m_shut m_keptFigures m_keptNumbers m_isKept) : ∃ (r : Int32) (g_right' : Int64) (g_down' : Int64) (m_thrown' : Int32) (m_right' : Nat → Int32) (m_down' : Nat → Int32) (m_dist' : Nat → Int32) (m_queue' : Nat → Int32), fX9_bridge g_rows g_columns g_cells g_right g_down p1 p2 = some (r, g_right', g_down') ∧ fX10_bridge m_thrown m_rows m_columns m_right m_down m_dist m_queue m_shut p1 p2 = some (r, m_thrown', m_right', m_down', m_dist', m_queue') ∧ Rel sc_length sc_bytes (g_rows, g_columns, g_a, g_b, g_cells, g_right', g_down') sl_f k0 k1 m_textSize m_text m_rows m_columns m_a m_b m_right' m_down' m_shut m_keptFigures m_keptNumbers m_isKept := by
  obtain ⟨R, C, rt, dn, a, b, n, tx, z0, z1, hz, ha, hb, rfl, rfl, rfl, rfl, rfl, hr, hd, rfl, rfl, rfl, rfl, hm, ht, hsh, h0, h1, e0, e1⟩ := id h.un
  unfold fX9_bridge fX10_bridge
  rcases cell_two hz p1 with ⟨q1, q2⟩ | ⟨i, hi, ci, q1, q3, n1, n2⟩
  · rw [if_pos q1, if_pos q2]
    exact ⟨_, _, _, _, _, _, _, _, rfl, rfl, h⟩
  · rw [if_neg n1, if_neg n2]
    rcases side_two p2 with ⟨u1, u2⟩ | ⟨s, hs, rfl, v1, v2⟩
    · rw [if_pos u1, if_pos u2]
      exact ⟨_, _, _, _, _, _, _, _, rfl, rfl, h⟩
    · rw [if_neg v1, if_neg v2, q1, q3, Copen hr hd hi hs, Mopen hz hm ci hs, qob_some, qun1_eq]
      cases ho : opS rt dn i s with
      | false =>
        rw [if_pos (show b2i false = 0 from rfl), if_pos (show b2i false = 0 from rfl)]
        exact ⟨_, _, _, _, _, _, _, _, rfl, rfl, h⟩
      | true =>
        rw [if_neg (show ¬ b2i true = 0 by decide), if_neg (show ¬ b2i true = 0 by decide)]
        obtain ⟨v, r', d', mr', md', di', qu', g1, g2, g3, g4, g5⟩ := bridge_both hz hr hd hm hsh ci hs ho m_dist m_queue
        rw [g1, g2, qob_some, qob_some]
        refine ⟨b2i v, r', d', 0, mr', md', di', qu', ?_, ?_, Rel.mk hz ha hb g3 g4 g5 ht hsh h0 h1 e0 e1⟩
        · cases v <;> rfl
        · cases v <;> rfl

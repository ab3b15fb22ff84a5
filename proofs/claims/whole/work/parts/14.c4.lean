/-! distances: levels and the search agree; far -/
theorem op_lt {R C : Nat} {rt dn : Nat → Bool} (hz : Mz R C rt dn) {i s : Nat} (hi : i < 36) (hs : s < 4) (h : opS rt dn i s = true) : mvN i s < 36 := by
  obtain ⟨⟨-, hR⟩, ⟨-, hC⟩, hr, hd⟩ := hz
  unfold opS at h
  match s, hs with
  | 0, _ => simp [mvN]; omega
  | 1, _ => simp at h; have := hr i h; simp [mvN]; omega
  | 2, _ => simp at h; have := hd i h; simp [mvN]; omega
  | 3, _ => simp [mvN]; omega
theorem LF_lev {R C : Nat} {rt dn sh : Nat → Bool} {fr : Nat} {D : Nat → Nat} (hz : Mz R C rt dn) (hsf : sh fr = false) (h : LF R C rt dn sh fr D) : ∀ k, k < 9999 → ∀ j, j < 36 → (lev rt dn (fun i => !sh i) (fun i => decide (i = fr)) k j = true ↔ D j ≤ k) := by
  obtain ⟨h0, h1, h2, h3⟩ := h
  have hT : ∀ i, (fun i => decide (i = fr)) i = true → (fun i => !sh i) i = true := by
    intro i hi
    have : i = fr := by simpa using hi
    subst this
    simp [hsf]
  have fwd : ∀ k, k < 9999 → ∀ j, j < 36 → lev rt dn (fun i => !sh i) (fun i => decide (i = fr)) k j = true → D j ≤ k := by
    intro k
    induction k with
    | zero =>
      intro _ j hj hl
      have hl : decide (j = fr) = true := hl
      have e : j = fr := by simpa using hl
      rw [e, h0]
      exact Nat.le_refl 0
    | succ k ih =>
      intro hk j hj hl
      have hl : (nearS rt dn (lev rt dn (fun i => !sh i) (fun i => decide (i = fr)) k) j && !sh j) = true := hl
      simp only [Bool.and_eq_true, Bool.not_eq_true'] at hl
      rcases (near_iff hz j).mp hl.1 with g | ⟨s, hs, ho, g⟩
      · have := ih (by omega) j hj g
        omega
      · have hu := op_lt hz hj hs ho
        obtain ⟨a1, a2, a3⟩ := op_sym hz hs ho
        have hDu := ih (by omega) _ hu g
        have := h2 _ _ hu (by omega) a1 a2 (by rw [a3]; exact hl.2)
        rw [a3] at this
        omega
  have bwd : ∀ d j, j < 36 → D j = d → d ≠ 9999 → lev rt dn (fun i => !sh i) (fun i => decide (i = fr)) d j = true := by
    intro d
    induction d with
    | zero =>
      intro j hj hd _
      by_cases e : j = fr
      · show decide (j = fr) = true
        simp [e]
      · obtain ⟨u, s, -, -, -, g, -⟩ := h3 j hj (by omega) e
        omega
    | succ d ih =>
      intro j hj hd hne
      have e : j ≠ fr := fun e => by rw [e, h0] at hd; omega
      obtain ⟨u, s, g1, g2, g3, g4, g5, g6⟩ := h3 j hj (by omega) e
      have hdu : d ≠ 9999 := by
        rcases h1 j hj with q | q
        · omega
        · omega
      have hlu := ih u g5 (by omega) hdu
      show (nearS rt dn (lev rt dn (fun i => !sh i) (fun i => decide (i = fr)) d) j && !sh j) = true
      obtain ⟨a1, a2, a3⟩ := op_sym hz g1 g2
      rw [(near_iff hz j).mpr (Or.inr ⟨oppN s, a1, by rw [← g3]; exact a2, by rw [← g3, a3]; exact hlu⟩), g6]
      rfl
  intro k hk j hj
  constructor
  · exact fwd k hk j hj
  · intro hle
    exact lev_mono hT hle j (bwd (D j) j hj rfl (by omega))
/-- far as a number: -9 for none -/
def farV (d : Nat) : Int32 := if d = 9999 then -9 else nI d
set_option maxRecDepth 20000 in
theorem Cdist {R C : Nat} {rt dn : Nat → Bool} {r d : Int64} (hz : Mz R C rt dn) (hr : bs r rt) (hd : bs d dn) {i t : Nat} (hi : i < 36) (ht : t < 36) {D : Nat → Nat} (hL : LF R C rt dn (fun _ => false) i D) :
    fX1_distance r d (nI (pl i)) (nI (pl t)) = some (farV (D t)) := by
  have hlv := LF_lev hz rfl hL
  unfold fX1_distance
  obtain ⟨e, h1, h2⟩ := qlp_idx (f := qun2 fun (x3_1 : Int64) (x5_1 : Int32) => if 36 ≤ x5_1 then some (Sum.inr (Sum.inl ())) else if (fX1_has x3_1 (nI (pl t))) = 0 then some (Sum.inl ((fX1_near r d x3_1), (x5_1 + 1))) else some (Sum.inr (Sum.inr x5_1)))
    (fun k st => st.2 = nI k ∧ bs st.1 (lev rt dn (fun _ => true) (fun j => decide (j = i)) k) ∧ ∀ j, j < k → lev rt dn (fun _ => true) (fun j => decide (j = i)) j t = false) 36
    (fun (e : Unit ⊕ Int32) => (e = .inl () ∧ ∀ j, j < 36 → lev rt dn (fun _ => true) (fun j => decide (j = i)) j t = false) ∨ ∃ k, k < 36 ∧ e = .inr (nI k) ∧ lev rt dn (fun _ => true) (fun j => decide (j = i)) k t = true ∧ ∀ j, j < k → lev rt dn (fun _ => true) (fun j => decide (j = i)) j t = false) (by
    rintro k ⟨x, y⟩ hk ⟨rfl, hb, hn⟩
    dsimp only at hb ⊢
    by_cases h : 36 ≤ k
    · right
      exact ⟨_, by rw [qun2_eq, if_pos (show (36 : Int32) ≤ nI k from nI_le (a := 36) h (by omega))], Or.inl ⟨rfl, fun j hj => hn j (by omega)⟩⟩
    · rw [qun2_eq, if_neg (show ¬ (36 : Int32) ≤ nI k from nI_ge (b := 36) (by omega) (by decide)), bs_has hb ht]
      cases hl : lev rt dn (fun _ => true) (fun j => decide (j = i)) k t with
      | false =>
        left
        refine ⟨by omega, (fX1_near r d x, nI (k + 1)), ?_, rfl, ?_, ?_⟩
        · rw [if_pos (by decide), nI_1]
        · exact bs_congr (bs_near hz hr hd hb) (fun j _ => by show _ = (_ && true); simp)
        · intro j hj
          by_cases e : j = k
          · subst e; exact hl
          · exact hn j (by omega)
      | true =>
        right
        exact ⟨_, by rw [if_neg (by decide)], Or.inr ⟨k, by omega, rfl, hl, hn⟩⟩) qFU (qFU_gt (by decide)) (fX1_bit (nI (pl i)), (0 : Int32)) ⟨rfl, bs_bit hi, fun j hj => absurd hj (Nat.not_lt_zero j)⟩
  rw [h1, qob_some]
  have hsm := hL.2.1 t ht
  rcases h2 with ⟨rfl, hn⟩ | ⟨k, hk, rfl, hl, hn⟩
  · show some (-9) = _
    have : D t = 9999 := by
      rcases hsm with q | ⟨q, -⟩
      · exact q
      · have := (hlv (D t) (by omega) t ht).mpr (Nat.le_refl _)
        have h3 := hn (D t) (by omega)
        have h3 : lev rt dn (fun i => !(fun _ => false) i) (fun j => decide (j = i)) (D t) t = false := h3
        rw [h3] at this
        cases this
    rw [this]
    rfl
  · show some (nI k) = _
    have hle : D t ≤ k := (hlv k (by omega) t ht).mp hl
    have hge : ¬ D t < k := fun h => by
      have := (hlv (D t) (by omega) t ht).mpr (Nat.le_refl _)
      have h3 := hn (D t) h
      have h3 : lev rt dn (fun i => !(fun _ => false) i) (fun j => decide (j = i)) (D t) t = false := h3
      rw [h3] at this
      cases this
    have e : D t = k := by omega
    unfold farV
    rw [e, if_neg (by omega)]
theorem Mfar {R C : Nat} {rt dn sh : Nat → Bool} {mr md ms : Nat → Int32} (hz : Mz R C rt dn) (hm : ∀ i, i < 36 → mr i = b2i (rt i) ∧ md i = b2i (dn i)) (hs : ∀ i, i < 36 → ms i = b2i (sh i)) {fr t : Nat} (hf : isC R C fr) (ht : t < 36) (m_dist m_queue : Nat → Int32) :
    ∃ m_dist' m_queue' D, fX10_farOf (nI R) (nI C) mr md m_dist m_queue ms (nI fr) (nI t) = some (nI (D t), m_dist', m_queue') ∧ LF R C rt dn sh fr D := by
  obtain ⟨d', q', D, h1, h2, h3⟩ := Mlay hz hm hs hf m_dist m_queue
  refine ⟨d', q', D, ?_, h3⟩
  unfold fX10_farOf
  rw [h1, qob_some, qun2_eq, qgd_nI ht (by decide), nI_clamp (by omega), h2 t ht]
set_option maxRecDepth 20000 in
theorem st_far {sc_length : Int32} {sc_bytes : Nat → Int32} {g_rows : Int32} {g_columns : Int32} {g_a : Int32} {g_b : Int32} {g_cells : Int64} {g_right : Int64} {g_down : Int64} {m_textSize : Int32} {m_text : Nat → Int32} {m_rows : Int32} {m_columns : Int32} {m_a : Int32} {m_b : Int32} {m_right : Nat → Int32} {m_down : Nat → Int32} {m_shut : Nat → Int32} {m_keptFigures : Nat → Int32} {m_keptNumbers : Nat → Int32} {m_isKept : Nat → Int32} {m_thrown : Int32} {m_dist : Nat → Int32} {m_queue : Nat → Int32} {sl_f : Nat → Option Nat} {k0 k1 : Option (Nat × KG)} {p1 : Int32} {p2 : Int32} (h : Rel sc_length sc_bytes (g_rows, g_columns, g_a, g_b, g_cells, g_right, g_down) sl_f k0 k1 m_textSize m_text m_rows m_columns m_a m_b m_right m_down m_shut m_keptFigures m_keptNumbers m_isKept) : ∃ (r : Int32) (m_thrown' : Int32) (m_dist' : Nat → Int32) (m_queue' : Nat → Int32), fX9_far g_rows g_columns g_right g_down p1 p2 = some r ∧ fX10_far m_thrown m_rows m_columns m_right m_down m_dist m_queue m_shut p1 p2 = some (r, m_thrown', m_dist', m_queue') ∧ Rel sc_length sc_bytes (g_rows, g_columns, g_a, g_b, g_cells, g_right, g_down) sl_f k0 k1 m_textSize m_text m_rows m_columns m_a m_b m_right m_down m_shut m_keptFigures m_keptNumbers m_isKept := by
  obtain ⟨R, C, rt, dn, a, b, n, tx, z0, z1, hz, ha, hb, rfl, rfl, rfl, rfl, rfl, hr, hd, rfl, rfl, rfl, rfl, hm, ht, hsh, h0, h1, e0, e1⟩ := id h.un
  unfold fX9_far fX10_far
  rcases cell_two hz p1 with ⟨q1, q2⟩ | ⟨i, hi, ci, q1, q3, n1, n2⟩
  · rw [if_pos q1, if_pos q2]
    exact ⟨_, _, _, _, rfl, rfl, h⟩
  · rw [if_neg n1, if_neg n2]
    rcases cell_two hz p2 with ⟨u1, u2⟩ | ⟨j, hj, cj, u1, u3, v1, v2⟩
    · rw [if_pos u1, if_pos u2]
      exact ⟨_, _, _, _, rfl, rfl, h⟩
    · rw [if_neg v1, if_neg v2, q1, u1, q3, u3]
      obtain ⟨d', q', D, g1, g2⟩ := Mfar (sh := fun _ => false) (ms := m_shut) hz hm (fun i hi => by rw [hsh i hi]; rfl) ci hj m_dist m_queue
      rw [g1, Cdist hz hr hd hi hj g2, qob_some, qob_some]
      have hsm := g2.2.1 j hj
      refine ⟨farV (D j), 0, d', q', rfl, ?_, h⟩
      show (if nI (D j) = (9999 : Int32) then _ else _) = _
      unfold farV
      by_cases e : D j = 9999
      · rw [if_pos e, if_pos (show nI (D j) = 9999 by rw [e]; rfl)]
      · rw [if_neg e, if_neg (show ¬ nI (D j) = 9999 from nI_ne (b := 9999) (by omega) (by decide) e)]

/-! handAt -/
theorem in_nI {n m : Nat} (hn : n < 2 ^ 31) (hm : m < 2 ^ 31) : fX10_in (nI n).toInt64 0 (nI m).toInt64 = b2i (decide (n ≤ m)) := by
  rw [in_spec]
  have tx : (nI n).toInt64.toInt = (n : Int) := (Int32.toInt_toInt64 _).trans (nI_toInt hn)
  have tm : (nI m).toInt64.toInt = (m : Int) := (Int32.toInt_toInt64 _).trans (nI_toInt hm)
  have t0 : (0 : Int64).toInt = 0 := rfl
  have h1 : (0 : Int64) ≤ (nI n).toInt64 := by rw [Int64.le_iff_toInt_le, t0, tx]; omega
  by_cases h : n ≤ m
  · have h2 : (nI n).toInt64 ≤ (nI m).toInt64 := by rw [Int64.le_iff_toInt_le, tx, tm]; omega
    simp [h1, h2, h]
  · have h2 : ¬ (nI n).toInt64 ≤ (nI m).toInt64 := by rw [Int64.le_iff_toInt_le, tx, tm]; omega
    simp [h1, h2, h]
theorem in_neg {x : Int32} (h : x < 0) (m : Int64) : fX10_in x.toInt64 0 m = 0 := by
  rw [in_spec]
  have tx : x.toInt64.toInt = x.toInt := Int32.toInt_toInt64 x
  have t0 : (0 : Int64).toInt = 0 := rfl
  have : ¬ (0 : Int64) ≤ x.toInt64 := by
    rw [Int64.le_iff_toInt_le, t0, tx]
    rw [Int32.lt_iff_toInt_lt] at h
    have : (0 : Int32).toInt = 0 := rfl
    omega
  simp [this, b2i]
set_option maxRecDepth 20000 in
set_option maxHeartbeats 1000000 in
theorem st_handAt {sc_length : Int32} {sc_bytes : Nat → Int32} {g_rows : Int32} {g_columns : Int32} {g_a : Int32} {g_b : Int32} {g_cells : Int64} {g_right : Int64} {g_down : Int64} {m_textSize : Int32} {m_text : Nat → Int32} {m_rows : Int32} {m_columns : Int32} {m_a : Int32} {m_b : Int32} {m_right : Nat → Int32} {m_down : Nat → Int32} {m_shut : Nat → Int32} {m_keptFigures : Nat → Int32} {m_keptNumbers : Nat → Int32} {m_isKept : Nat → Int32} {wk_place : Int32} {wk_look : Int32} {wk_hand : Int32} {m_thrown : Int32} {m_at : Int32} {m_looks : Int32} {sl_f : Nat → Option Nat} {k0 k1 : Option (Nat × KG)} {p1 : Int32} {p2 : Bool} {p3 : Int32} (h : Rel sc_length sc_bytes (g_rows, g_columns, g_a, g_b, g_cells, g_right, g_down) sl_f k0 k1 m_textSize m_text m_rows m_columns m_a m_b m_right m_down m_shut m_keptFigures m_keptNumbers m_isKept) : ∃ (r : Int32) (wk_place' : Int32) (wk_look' : Int32) (wk_hand' : Int32) (m_thrown' : Int32) (m_at' : Int32) (m_looks' : Int32), fX9_handAt g_a g_cells g_right g_down wk_place wk_look wk_hand p1 (b2i p2) p3 = some (r, wk_place', wk_look', wk_hand') ∧ fX10_handAt m_thrown m_rows m_columns m_a m_at m_looks m_right m_down p1 (b2i p2) p3 = some (r, m_thrown', m_at', m_looks') ∧ Rel sc_length sc_bytes (g_rows, g_columns, g_a, g_b, g_cells, g_right, g_down) sl_f k0 k1 m_textSize m_text m_rows m_columns m_a m_b m_right m_down m_shut m_keptFigures m_keptNumbers m_isKept := by
  obtain ⟨R, C, rt, dn, a, b, n, tx, z0, z1, hz, ha, hb, rfl, rfl, rfl, rfl, rfl, hr, hd, rfl, rfl, rfl, rfl, hm, ht, hsh, h0, h1, e0, e1⟩ := id h.un
  unfold fX9_handAt fX10_handAt
  rcases side_two p1 with ⟨u1, u2⟩ | ⟨s, hs, rfl, v1, v2⟩
  · rw [if_pos u1, if_pos u2]
    exact ⟨_, _, _, _, _, _, _, rfl, rfl, h⟩
  · rw [if_neg v1, if_neg v2]
    by_cases hp : p3 < 0
    · rw [if_pos hp, if_pos (in_neg hp 999)]
      exact ⟨_, _, _, _, _, _, _, rfl, rfl, h⟩
    · obtain ⟨q, hq, rfl⟩ := nI_of hp
      have hin : fX10_in (nI q).toInt64 0 999 = b2i (decide (q ≤ 999)) := in_nI (m := 999) hq (by decide)
      rw [if_neg hp, hin]
      by_cases h9 : q ≤ 999
      · rw [if_pos (show nI q ≤ (999 : Int32) from nI_le (b := 999) h9 (by decide)), if_neg (show ¬ b2i (decide (q ≤ 999)) = 0 by rw [decide_eq_true h9]; decide)]
        obtain ⟨e, e', g1, g2, i', l', hi', rfl, rfl⟩ := qlp_two (f := qun3 fun (x4_1 : Int32) (wk_place_3 : Int32) (wk_look_3 : Int32) => if nI q ≤ x4_1 then some (Sum.inr (wk_place_3, wk_look_3)) else if 999 ≤ x4_1 then some (Sum.inr (wk_place_3, wk_look_3)) else Option.bind (fX8_goByHand wk_place_3 wk_look_3 (nI (hN p2)) (cwv R C) g_right g_down) (qun2 fun (wk_place_4 : Int32) (wk_look_4 : Int32) => some (Sum.inl ((x4_1 + 1), wk_place_4, wk_look_4))))
          (g := qun3 fun (x4_1 : Int32) (m_at_2 : Int32) (m_looks_2 : Int32) => if nI q ≤ x4_1 then some (Sum.inr (m_at_2, m_looks_2)) else Option.bind (fX10_handStep (nI R) (nI C) m_at_2 m_looks_2 m_right m_down (b2i p2)) (qun2 fun (m_at_3 : Int32) (m_looks_3 : Int32) => some (Sum.inl ((x4_1 + 1), m_at_3, m_looks_3))))
          (fun k x y => ∃ i l, isC R C i ∧ l < 4 ∧ x = (nI k, nI (pl i), nI l) ∧ y = (nI k, nI i, nI l)) q (fun (e e' : Int32 × Int32) => ∃ i l, isC R C i ∧ e = (nI (pl i), nI l) ∧ e' = (nI i, nI l)) (by
          rintro k x y hk ⟨i, l, hi, hl, rfl, rfl⟩
          rw [qun3_eq, qun3_eq]
          by_cases hkq : q ≤ k
          · right
            rw [if_pos (nI_le hkq (by omega)), if_pos (nI_le hkq (by omega))]
            exact ⟨_, _, rfl, rfl, i, l, hi, rfl, rfl⟩
          · left
            obtain ⟨i', l', b1, b2, b3, b4⟩ := hand_both hz hr hd hm hi hl p2
            rw [if_neg (nI_ge (by omega) (by omega)), if_neg (nI_ge (by omega) (by omega)), if_neg (show ¬ (999 : Int32) ≤ nI k from nI_ge (b := 999) (by omega) (by decide)), b3, b4, qob_some, qob_some, qun2_eq, qun2_eq]
            exact ⟨by omega, _, _, rfl, rfl, i', l', b1, b2, by rw [nI_1], by rw [nI_1]⟩) qFU qFU (qFU_gt (by omega)) (qFU_gt (by omega)) ((0 : Int32), nI (pl a), nI s) ((0 : Int32), nI a, nI s) ⟨a, s, ha, hs, rfl, rfl⟩
        refine ⟨fX10_code (nI i'), nI (pl i'), nI l', nI (hN p2), 0, nI i', nI l', ?_, ?_, h⟩
        · unfold fX8_handPlace
          rw [begin_C]
          show Option.bind (Option.bind (qlp qFU _ ((0 : Int32), nI (pl a), nI s)) _) _ = _
          rw [g1, qob_some, ← told_code i' (isC_lt hz hi')]
          rfl
        · rw [g2, qob_some]
      · rw [if_neg (show ¬ nI q ≤ (999 : Int32) from nI_ge (b := q) (a := 999) (by omega) hq), if_pos (show b2i (decide (q ≤ 999)) = 0 by rw [decide_eq_false h9]; rfl)]
        exact ⟨_, _, _, _, _, _, _, rfl, rfl, h⟩

/-! keep and again -/
theorem slot_two (x : Int32) : (fX9_isSlot x = 0 ∧ fX10_in x.toInt64 0 1 = 0) ∨ ∃ s, s < 2 ∧ x = nI s ∧ ¬ fX9_isSlot x = 0 ∧ ¬ fX10_in x.toInt64 0 1 = 0 := by
  have e := in_spec x.toInt64 0 1
  have t0 : (0 : Int64).toInt = 0 := rfl
  have t1 : (1 : Int64).toInt = 1 := rfl
  have tx : x.toInt64.toInt = x.toInt := Int32.toInt_toInt64 x
  by_cases h0 : x < 0
  · left
    refine ⟨by unfold fX9_isSlot; rw [if_pos h0], ?_⟩
    rw [e]
    have : ¬ (0 : Int64) ≤ x.toInt64 := by
      rw [Int64.le_iff_toInt_le, t0, tx]
      rw [Int32.lt_iff_toInt_lt] at h0
      have : (0 : Int32).toInt = 0 := rfl
      omega
    simp [this, b2i]
  · obtain ⟨n, hn, rfl⟩ := nI_of h0
    have tn : (nI n).toInt = (n : Int) := nI_toInt hn
    by_cases h4 : 2 ≤ n
    · left
      refine ⟨by unfold fX9_isSlot; rw [if_neg h0, if_pos (show (2 : Int32) ≤ nI n from nI_le (a := 2) h4 hn)], ?_⟩
      rw [e]
      have : ¬ (nI n).toInt64 ≤ 1 := by
        rw [Int64.le_iff_toInt_le, t1, tx, tn]
        omega
      simp [this, b2i]
    · right
      refine ⟨n, by omega, rfl, ?_, ?_⟩
      · unfold fX9_isSlot
        rw [if_neg h0, if_neg (show ¬ (2 : Int32) ≤ nI n from nI_ge (b := 2) (by omega) (by decide))]
        decide
      · rw [e]
        have h1 : (0 : Int64) ≤ (nI n).toInt64 := by rw [Int64.le_iff_toInt_le, t0, tx, tn]; omega
        have h2 : (nI n).toInt64 ≤ 1 := by rw [Int64.le_iff_toInt_le, t1, tx, tn]; omega
        simp [h1, h2, b2i]
theorem SK_frame {t : Nat} {zk : Option Mzt} {k : Option (Nat × KG)} {kF kN iK kF' kN' iK' : Nat → Int32} (h : SK t zk k kF kN iK) (h1 : ∀ i, i < 36 → kF' (36 * t + i) = kF (36 * t + i)) (h2 : ∀ c, c < 4 → kN' (4 * t + c) = kN (4 * t + c)) (h3 : iK' t = iK t) : SK t zk k kF' kN' iK' := by
  cases zk with
  | none =>
    cases k with
    | none => exact h3.trans h
    | some q => exact h
  | some z =>
    cases k with
    | none => exact h
    | some q =>
      obtain ⟨a1, a2, a3, ⟨b0, b1, b2, b3⟩, a5⟩ := h
      exact ⟨h3.trans a1, a2, a3, ⟨(h2 0 (by decide)).trans b0, (h2 1 (by decide)).trans b1, (h2 2 (by decide)).trans b2, (h2 3 (by decide)).trans b3⟩, fun i hi => (h1 i hi).trans (a5 i hi)⟩
theorem c36 (s i : Nat) : (36 : Int32) * nI s + nI i = nI (36 * s + i) := by rw [lit_nI 36, nI_mul, nI_add]
theorem c4 (s : Nat) : (4 : Int32) * nI s = nI (4 * s) := by rw [lit_nI 4, nI_mul]
set_option maxRecDepth 20000 in
theorem st_keep_bad {sc_length : Int32} {sc_bytes : Nat → Int32} {g_rows : Int32} {g_columns : Int32} {g_a : Int32} {g_b : Int32} {g_cells : Int64} {g_right : Int64} {g_down : Int64} {m_textSize : Int32} {m_text : Nat → Int32} {m_rows : Int32} {m_columns : Int32} {m_a : Int32} {m_b : Int32} {m_right : Nat → Int32} {m_down : Nat → Int32} {m_shut : Nat → Int32} {m_keptFigures : Nat → Int32} {m_keptNumbers : Nat → Int32} {m_isKept : Nat → Int32} {m_thrown : Int32} {sl_f : Nat → Option Nat} {k0 k1 : Option (Nat × KG)} {p1 : Int32} (h : Rel sc_length sc_bytes (g_rows, g_columns, g_a, g_b, g_cells, g_right, g_down) sl_f k0 k1 m_textSize m_text m_rows m_columns m_a m_b m_right m_down m_shut m_keptFigures m_keptNumbers m_isKept) (h0 : fX9_isSlot p1 = 0) : ∃ (m_thrown' : Int32) (m_keptFigures' : Nat → Int32) (m_keptNumbers' : Nat → Int32) (m_isKept' : Nat → Int32), fX10_keep m_thrown m_rows m_columns m_a m_b m_right m_down m_keptFigures m_keptNumbers m_isKept p1 = some (-1, m_thrown', m_keptFigures', m_keptNumbers', m_isKept') ∧ Rel sc_length sc_bytes (g_rows, g_columns, g_a, g_b, g_cells, g_right, g_down) sl_f k0 k1 m_textSize m_text m_rows m_columns m_a m_b m_right m_down m_shut m_keptFigures' m_keptNumbers' m_isKept' := by
  rcases slot_two p1 with ⟨-, u2⟩ | ⟨s, hs, rfl, v1, v2⟩
  · unfold fX10_keep
    rw [if_pos u2]
    exact ⟨_, _, _, _, rfl, h⟩
  · exact absurd h0 v1
set_option maxRecDepth 20000 in
theorem st_again_bad {sc_length : Int32} {sc_bytes : Nat → Int32} {g_rows : Int32} {g_columns : Int32} {g_a : Int32} {g_b : Int32} {g_cells : Int64} {g_right : Int64} {g_down : Int64} {m_textSize : Int32} {m_text : Nat → Int32} {m_rows : Int32} {m_columns : Int32} {m_a : Int32} {m_b : Int32} {m_right : Nat → Int32} {m_down : Nat → Int32} {m_shut : Nat → Int32} {m_keptFigures : Nat → Int32} {m_keptNumbers : Nat → Int32} {m_isKept : Nat → Int32} {m_thrown : Int32} {sl_f : Nat → Option Nat} {k0 k1 : Option (Nat × KG)} {p1 : Int32} (h : Rel sc_length sc_bytes (g_rows, g_columns, g_a, g_b, g_cells, g_right, g_down) sl_f k0 k1 m_textSize m_text m_rows m_columns m_a m_b m_right m_down m_shut m_keptFigures m_keptNumbers m_isKept) (h0 : fX9_isSlot p1 = 0) : ∃ (m_thrown' : Int32) (m_rows' : Int32) (m_columns' : Int32) (m_a' : Int32) (m_b' : Int32) (m_right' : Nat → Int32) (m_down' : Nat → Int32), fX10_again m_thrown m_rows m_columns m_a m_b m_right m_down m_keptFigures m_keptNumbers m_isKept p1 = some (-1, m_thrown', m_rows', m_columns', m_a', m_b', m_right', m_down') ∧ Rel sc_length sc_bytes (g_rows, g_columns, g_a, g_b, g_cells, g_right, g_down) sl_f k0 k1 m_textSize m_text m_rows' m_columns' m_a' m_b' m_right' m_down' m_shut m_keptFigures m_keptNumbers m_isKept := by
  rcases slot_two p1 with ⟨-, u2⟩ | ⟨s, hs, rfl, v1, v2⟩
  · unfold fX10_again
    rw [if_pos u2]
    exact ⟨_, _, _, _, _, _, _, rfl, h⟩
  · exact absurd h0 v1
theorem SK_some {s : Nat} {zk : Option Mzt} {q : Nat × KG} {kF kN iK : Nat → Int32} (h : SK s zk (some q) kF kN iK) : ∃ z : Mzt, iK s = 1 ∧ Good z ∧ GC z q.2 ∧ (kN (4 * s) = nI (zR z) ∧ kN (4 * s + 1) = nI (zC z) ∧ kN (4 * s + 2) = nI (za z) ∧ kN (4 * s + 3) = nI (zb z)) ∧ ∀ i, i < 36 → kF (36 * s + i) = nI ((zr z i).toNat + 2 * (zd z i).toNat) := by
  cases zk with
  | none => exact absurd h id
  | some z => exact ⟨z, h⟩
theorem SK_none {s : Nat} {zk : Option Mzt} {kF kN iK : Nat → Int32} (h : SK s zk none kF kN iK) : iK s = 0 := by
  cases zk with
  | none => exact h
  | some z => exact absurd h id
set_option maxRecDepth 20000 in
theorem st_again_none {sc_length : Int32} {sc_bytes : Nat → Int32} {g_rows : Int32} {g_columns : Int32} {g_a : Int32} {g_b : Int32} {g_cells : Int64} {g_right : Int64} {g_down : Int64} {m_textSize : Int32} {m_text : Nat → Int32} {m_rows : Int32} {m_columns : Int32} {m_a : Int32} {m_b : Int32} {m_right : Nat → Int32} {m_down : Nat → Int32} {m_shut : Nat → Int32} {m_keptFigures : Nat → Int32} {m_keptNumbers : Nat → Int32} {m_isKept : Nat → Int32} {m_thrown : Int32} {sl_f : Nat → Option Nat} {k0 k1 : Option (Nat × KG)} {p1 : Int32} (h : Rel sc_length sc_bytes (g_rows, g_columns, g_a, g_b, g_cells, g_right, g_down) sl_f k0 k1 m_textSize m_text m_rows m_columns m_a m_b m_right m_down m_shut m_keptFigures m_keptNumbers m_isKept) (hv : ¬ fX9_isSlot p1 = 0) (hk : sl_f p1.toNatClampNeg = none) : ∃ (m_thrown' : Int32) (m_rows' : Int32) (m_columns' : Int32) (m_a' : Int32) (m_b' : Int32) (m_right' : Nat → Int32) (m_down' : Nat → Int32), fX10_again m_thrown m_rows m_columns m_a m_b m_right m_down m_keptFigures m_keptNumbers m_isKept p1 = some (-3, m_thrown', m_rows', m_columns', m_a', m_b', m_right', m_down') ∧ Rel sc_length sc_bytes (g_rows, g_columns, g_a, g_b, g_cells, g_right, g_down) sl_f k0 k1 m_textSize m_text m_rows' m_columns' m_a' m_b' m_right' m_down' m_shut m_keptFigures m_keptNumbers m_isKept := by
  rcases slot_two p1 with ⟨u1, -⟩ | ⟨s, hs, rfl, v1, v2⟩
  · exact absurd u1 hv
  · rw [nI_clamp (by omega)] at hk
    obtain ⟨z, n, tx, z0, z1, hg, hc, hm, ht, hsh, h0, h1, e0, e1⟩ := id h
    have hik : m_isKept s = 0 := by
      rcases (show s = 0 ∨ s = 1 by omega) with rfl | rfl
      · rw [e0] at hk
        cases k0 with
        | none => exact SK_none h0
        | some q => cases hk
      · rw [e1] at hk
        cases k1 with
        | none => exact SK_none h1
        | some q => cases hk
    unfold fX10_again
    rw [if_neg v2, qgd_nI hs (by decide), nI_clamp (by omega), hik, if_pos rfl]
    exact ⟨_, _, _, _, _, _, _, rfl, h⟩
theorem keep_loop {mr md kF0 : Nat → Int32} {rt dn : Nat → Bool} (hm : ∀ i, i < 36 → mr i = b2i (rt i) ∧ md i = b2i (dn i)) {s : Nat} (hs : s < 2) :
    ∃ kF, qlp qFU (qun2 fun (x2_1 : Int32) (m_keptFigures_2 : Nat → Int32) => if 36 ≤ x2_1 then some (Sum.inr m_keptFigures_2) else Option.bind (fX10_figureOf mr md x2_1) (qun1 fun (r_1 : Int32) => qgd ((36 * nI s) + x2_1) 72 (some (Sum.inl ((x2_1 + 1), (upd m_keptFigures_2 (((36 * nI s) + x2_1)).toNatClampNeg r_1)))))) ((0 : Int32), kF0) = some kF ∧
      (∀ i, i < 36 → kF (36 * s + i) = nI ((rt i).toNat + 2 * (dn i).toNat)) ∧ ∀ q, (q < 36 * s ∨ 36 * s + 36 ≤ q) → kF q = kF0 q := by
  refine qlp_idx (fun i st => st.1 = nI i ∧ (∀ j, j < i → st.2 (36 * s + j) = nI ((rt j).toNat + 2 * (dn j).toNat)) ∧ ∀ q, (q < 36 * s ∨ 36 * s + 36 ≤ q) → st.2 q = kF0 q) 36 _ ?_ qFU (qFU_gt (by decide)) _ ⟨rfl, fun j hj => absurd hj (Nat.not_lt_zero j), fun _ _ => rfl⟩
  rintro i ⟨x, d⟩ hi ⟨rfl, hd, ho⟩
  dsimp only at hd ho ⊢
  by_cases h : 36 ≤ i
  · right
    exact ⟨d, by rw [qun2_eq, if_pos (show (36 : Int32) ≤ nI i from nI_le (a := 36) h (by omega))], fun j hj => hd j (by omega), ho⟩
  · left
    refine ⟨by omega, (nI (i + 1), upd d (36 * s + i) (nI ((rt i).toNat + 2 * (dn i).toNat))), ?_, rfl, fun j hj => ?_, fun q hq => ?_⟩
    · rw [qun2_eq, if_neg (show ¬ (36 : Int32) ≤ nI i from nI_ge (b := 36) (by omega) (by decide)), Mfig (hm i (by omega)).1 (hm i (by omega)).2 (by omega), qob_some, qun1_eq, c36, qgd_nI (by omega) (by decide), nI_clamp (by omega), nI_1]
    · show upd d (36 * s + i) _ (36 * s + j) = _
      by_cases e : j = i
      · subst e; rw [pk_us]
      · rw [pk_un (by omega)]; exact hd j (by omega)
    · show upd d (36 * s + i) _ q = _
      rw [pk_un (by omega)]; exact ho q hq
set_option maxRecDepth 20000 in
set_option maxHeartbeats 1000000 in
theorem st_keep {sc_length : Int32} {sc_bytes : Nat → Int32} {g_rows : Int32} {g_columns : Int32} {g_a : Int32} {g_b : Int32} {g_cells : Int64} {g_right : Int64} {g_down : Int64} {m_textSize : Int32} {m_text : Nat → Int32} {m_rows : Int32} {m_columns : Int32} {m_a : Int32} {m_b : Int32} {m_right : Nat → Int32} {m_down : Nat → Int32} {m_shut : Nat → Int32} {m_keptFigures : Nat → Int32} {m_keptNumbers : Nat → Int32} {m_isKept : Nat → Int32} {m_thrown : Int32} {sl_f : Nat → Option Nat} {k0 k1 : Option (Nat × KG)} {p1 : Int32} (h : Rel sc_length sc_bytes (g_rows, g_columns, g_a, g_b, g_cells, g_right, g_down) sl_f k0 k1 m_textSize m_text m_rows m_columns m_a m_b m_right m_down m_shut m_keptFigures m_keptNumbers m_isKept) (hv : ¬ fX9_isSlot p1 = 0) : ∃ (m_thrown' : Int32) (m_keptFigures' : Nat → Int32) (m_keptNumbers' : Nat → Int32) (m_isKept' : Nat → Int32), fX10_keep m_thrown m_rows m_columns m_a m_b m_right m_down m_keptFigures m_keptNumbers m_isKept p1 = some (fX1_size g_rows g_columns, m_thrown', m_keptFigures', m_keptNumbers', m_isKept') ∧ (p1.toNatClampNeg = 0 ∧ (∀ (q : Nat) (f' : Nat → Option Nat), f' 0 = some q → f' 1 = sl_f 1 → Rel sc_length sc_bytes (g_rows, g_columns, g_a, g_b, g_cells, g_right, g_down) f' (some (q, (g_rows, g_columns, g_a, g_b, g_cells, g_right, g_down))) k1 m_textSize m_text m_rows m_columns m_a m_b m_right m_down m_shut m_keptFigures' m_keptNumbers' m_isKept') ∨ p1.toNatClampNeg = 1 ∧ (∀ (q : Nat) (f' : Nat → Option Nat), f' 1 = some q → f' 0 = sl_f 0 → Rel sc_length sc_bytes (g_rows, g_columns, g_a, g_b, g_cells, g_right, g_down) f' k0 (some (q, (g_rows, g_columns, g_a, g_b, g_cells, g_right, g_down))) m_textSize m_text m_rows m_columns m_a m_b m_right m_down m_shut m_keptFigures' m_keptNumbers' m_isKept')) := by
  obtain ⟨R, C, rt, dn, a, b, n, tx, z0, z1, hz, ha, hb, rfl, rfl, rfl, rfl, rfl, hr, hd, rfl, rfl, rfl, rfl, hm, ht, hsh, h0, h1, e0, e1⟩ := id h.un
  rcases slot_two p1 with ⟨u1, -⟩ | ⟨s, hs, rfl, v1, v2⟩
  · exact absurd u1 hv
  · obtain ⟨kF, g1, g2, g3⟩ := keep_loop (kF0 := m_keptFigures) hm hs
    refine ⟨0, kF, upd (upd (upd (upd m_keptNumbers (4 * s) (nI R)) (4 * s + 1) (nI C)) (4 * s + 2) (nI a)) (4 * s + 3) (nI b), upd m_isKept s 1, ?_, ?_⟩
    · unfold fX10_keep
      rw [if_neg v2, qgd_nI hs (by decide), g1, qob_some, qun1_eq, c4, nI_1, show nI (4 * s) + 2 = nI (4 * s + 2) from nI_add (4 * s) 2, show nI (4 * s) + 3 = nI (4 * s + 3) from nI_add (4 * s) 3, qgd_nI (show 4 * s < 8 by omega) (by decide), qgd_nI (show 4 * s + 1 < 8 by omega) (by decide)]
      simp only [qbd]
      rw [qgd_nI (show 4 * s + 2 < 8 by omega) (by decide), qgd_nI (show 4 * s + 3 < 8 by omega) (by decide), nI_clamp (by omega), nI_clamp (by omega), nI_clamp (by omega), nI_clamp (by omega), nI_clamp (by omega), qnb1]
      rfl
    · rw [nI_clamp (by omega)]
      have own : SK s (some (R, C, rt, dn, a, b)) (some (0, (nI R, nI C, nI (pl a), nI (pl b), cwv R C, g_right, g_down))) kF (upd (upd (upd (upd m_keptNumbers (4 * s) (nI R)) (4 * s + 1) (nI C)) (4 * s + 2) (nI a)) (4 * s + 3) (nI b)) (upd m_isKept s 1) := by
        refine ⟨pk_us, ⟨hz, ha, hb⟩, ⟨rfl, rfl, rfl, rfl, cwv_ok hz.1.2 hz.2.1.2, hr, hd⟩, ⟨?_, ?_, ?_, pk_us⟩, g2⟩
        · rw [pk_un (by omega), pk_un (by omega), pk_un (by omega), pk_us]
        · rw [pk_un (by omega), pk_un (by omega), pk_us]
        · rw [pk_un (by omega), pk_us]
      have oth : ∀ t zk k, t < 2 → t ≠ s → SK t zk k m_keptFigures m_keptNumbers m_isKept → SK t zk k kF (upd (upd (upd (upd m_keptNumbers (4 * s) (nI R)) (4 * s + 1) (nI C)) (4 * s + 2) (nI a)) (4 * s + 3) (nI b)) (upd m_isKept s 1) := by
        intro t zk k ht2 hne hsk
        refine SK_frame hsk (fun i hi => g3 _ (by omega)) (fun c hc => ?_) (pk_un hne)
        rw [pk_un (by omega), pk_un (by omega), pk_un (by omega), pk_un (by omega)]
      rcases (show s = 0 ∨ s = 1 by omega) with rfl | rfl
      · refine Or.inl ⟨rfl, fun q f' f0 f1 => ?_⟩
        exact Rel.mk (z0 := some (R, C, rt, dn, a, b)) hz ha hb hr hd hm ht hsh own (oth 1 _ _ (by decide) (by decide) h1) f0 (f1.trans e1)
      · refine Or.inr ⟨rfl, fun q f' f1 f0 => ?_⟩
        exact Rel.mk (z1 := some (R, C, rt, dn, a, b)) hz ha hb hr hd hm ht hsh (oth 0 _ _ (by decide) (by decide) h0) own (f0.trans e0) f1

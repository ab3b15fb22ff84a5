/-! again -/
theorem again_loop {mr0 md0 kF : Nat → Int32} {rt dn : Nat → Bool} {s : Nat} (hs : s < 2) (hk : ∀ i, i < 36 → kF (36 * s + i) = nI ((rt i).toNat + 2 * (dn i).toNat)) :
    ∃ z : (Nat → Int32) × (Nat → Int32), qlp qFU (qun3 fun (x2_1 : Int32) (m_right_2 : Nat → Int32) (m_down_2 : Nat → Int32) => if 36 ≤ x2_1 then some (Sum.inr (m_right_2, m_down_2)) else qgd ((36 * nI s) + x2_1) 72 (Option.bind (if (qrem (kF (((36 * nI s) + x2_1)).toNatClampNeg) 2) = 1 then some 1 else some 0) (qun1 fun (s_1 : Int32) => qgd x2_1 36 (qgd ((36 * nI s) + x2_1) 72 (if (kF (((36 * nI s) + x2_1)).toNatClampNeg) ≤ 1 then qgd x2_1 36 (some (Sum.inl ((x2_1 + 1), (upd m_right_2 x2_1.toNatClampNeg (qnb s_1)), (upd m_down_2 x2_1.toNatClampNeg (qnb 0))))) else qgd x2_1 36 (some (Sum.inl ((x2_1 + 1), (upd m_right_2 x2_1.toNatClampNeg (qnb s_1)), (upd m_down_2 x2_1.toNatClampNeg (qnb 1)))))))))) ((0 : Int32), mr0, md0) = some z ∧
      ∀ i, i < 36 → z.1 i = b2i (rt i) ∧ z.2 i = b2i (dn i) := by
  refine qlp_idx (fun i st => st.1 = nI i ∧ ∀ j, j < i → st.2.1 j = b2i (rt j) ∧ st.2.2 j = b2i (dn j)) 36 _ ?_ qFU (qFU_gt (by decide)) _ ⟨rfl, fun j hj => absurd hj (Nat.not_lt_zero j)⟩
  rintro i ⟨x, mr, md⟩ hi ⟨rfl, hd⟩
  dsimp only at hd ⊢
  by_cases h : 36 ≤ i
  · right
    exact ⟨(mr, md), by rw [qun3_eq, if_pos (show (36 : Int32) ≤ nI i from nI_le (a := 36) h (by omega))], fun j hj => hd j (by omega)⟩
  · left
    refine ⟨by omega, (nI (i + 1), upd mr i (b2i (rt i)), upd md i (b2i (dn i))), ?_, rfl, fun j hj => ?_⟩
    · rw [qun3_eq, if_neg (show ¬ (36 : Int32) ≤ nI i from nI_ge (b := 36) (by omega) (by decide)), c36, qgd_nI (show 36 * s + i < 72 by omega) (by decide), nI_clamp (show 36 * s + i < 2 ^ 31 by omega), hk i (by omega)]
      have key : ∀ (X Y : Bool), (if qrem (nI (X.toNat + 2 * Y.toNat)) 2 = 1 then some 1 else some 0) = some (b2i X) ∧ (nI (X.toNat + 2 * Y.toNat) ≤ 1 ↔ Y = false) := by decide +kernel
      rw [(key (rt i) (dn i)).1, qob_some, qun1_eq, qgd_nI (show i < 36 by omega) (by decide), nI_clamp (show i < 2 ^ 31 by omega), nI_1, qnb_b2i, qgd_nI (show 36 * s + i < 72 by omega) (by decide)]
      cases hdn : dn i with
      | false => rw [if_pos ((key (rt i) false).2.mpr rfl), qgd_nI (show i < 36 by omega) (by decide), qnb0]; rfl
      | true => rw [if_neg (fun q => by have := (key (rt i) true).2.mp q; cases this), qgd_nI (show i < 36 by omega) (by decide), qnb1]; rfl
    · show upd mr i _ j = _ ∧ upd md i _ j = _
      by_cases e : j = i
      · subst e; exact ⟨pk_us, pk_us⟩
      · rw [pk_un e, pk_un e]; exact hd j (by omega)
set_option maxRecDepth 20000 in
set_option maxHeartbeats 1000000 in
theorem st_again_some {sc_length : Int32} {sc_bytes : Nat → Int32} {g_rows : Int32} {g_columns : Int32} {g_a : Int32} {g_b : Int32} {g_cells : Int64} {g_right : Int64} {g_down : Int64} {m_textSize : Int32} {m_text : Nat → Int32} {m_rows : Int32} {m_columns : Int32} {m_a : Int32} {m_b : Int32} {m_right : Nat → Int32} {m_down : Nat → Int32} {m_shut : Nat → Int32} {m_keptFigures : Nat → Int32} {m_keptNumbers : Nat → Int32} {m_isKept : Nat → Int32} {m_thrown : Int32} {sl_f : Nat → Option Nat} {k0 k1 : Option (Nat × KG)} {p1 : Int32} {q : Nat} {w : KG} (h : Rel sc_length sc_bytes (g_rows, g_columns, g_a, g_b, g_cells, g_right, g_down) sl_f k0 k1 m_textSize m_text m_rows m_columns m_a m_b m_right m_down m_shut m_keptFigures m_keptNumbers m_isKept) (hv : ¬ fX9_isSlot p1 = 0) (hk : p1.toNatClampNeg = 0 ∧ k0 = some (q, w) ∨ p1.toNatClampNeg = 1 ∧ k1 = some (q, w)) : ∃ (m_thrown' : Int32) (m_rows' : Int32) (m_columns' : Int32) (m_a' : Int32) (m_b' : Int32) (m_right' : Nat → Int32) (m_down' : Nat → Int32), fX10_again m_thrown m_rows m_columns m_a m_b m_right m_down m_keptFigures m_keptNumbers m_isKept p1 = some (fX1_size w.1 w.2.1, m_thrown', m_rows', m_columns', m_a', m_b', m_right', m_down') ∧ Rel sc_length sc_bytes w sl_f k0 k1 m_textSize m_text m_rows' m_columns' m_a' m_b' m_right' m_down' m_shut m_keptFigures m_keptNumbers m_isKept := by
  obtain ⟨z, n, tx, z0, z1, hg, hc, hm, ht, hsh, h0, h1, e0, e1⟩ := id h
  rcases slot_two p1 with ⟨u1, -⟩ | ⟨s, hs, rfl, v1, v2⟩
  · exact absurd u1 hv
  · rw [nI_clamp (by omega)] at hk
    have hsk : ∃ zk, SK s zk (some (q, w)) m_keptFigures m_keptNumbers m_isKept := by
      rcases hk with ⟨rfl, rfl⟩ | ⟨rfl, rfl⟩
      · exact ⟨z0, h0⟩
      · exact ⟨z1, h1⟩
    obtain ⟨zk, hsk⟩ := hsk
    obtain ⟨⟨R, C, rt, dn, a, b⟩, i1, ⟨hz, ha, hb⟩, hcw, ⟨b0, b1, b2, b3⟩, hf⟩ := SK_some hsk
    obtain ⟨⟨mr, md⟩, g1, g2⟩ := again_loop (mr0 := m_right) (md0 := m_down) hs hf
    refine ⟨0, nI R, nI C, nI a, nI b, mr, md, ?_, (R, C, rt, dn, a, b), n, tx, z0, z1, ⟨hz, ha, hb⟩, hcw, ⟨rfl, rfl, rfl, rfl, g2⟩, ht, hsh, h0, h1, e0, e1⟩
    unfold fX10_again
    rw [if_neg v2, qgd_nI hs (by decide), nI_clamp (show s < 2 ^ 31 by omega), i1, if_neg (by decide), c4, nI_1, show nI (4 * s) + 2 = nI (4 * s + 2) from nI_add (4 * s) 2, show nI (4 * s) + 3 = nI (4 * s + 3) from nI_add (4 * s) 3, qgd_nI (show 4 * s < 8 by omega) (by decide)]
    simp only [qbd]
    rw [qgd_nI (show 4 * s + 1 < 8 by omega) (by decide), qgd_nI (show 4 * s + 2 < 8 by omega) (by decide), qgd_nI (show 4 * s + 3 < 8 by omega) (by decide), nI_clamp (show 4 * s < 2 ^ 31 by omega), nI_clamp (show 4 * s + 1 < 2 ^ 31 by omega), nI_clamp (show 4 * s + 2 < 2 ^ 31 by omega), nI_clamp (show 4 * s + 3 < 2 ^ 31 by omega), b0, b1, b2, b3, g1, qob_some, qun2_eq]
    have hw1 : w.1 = nI R := hcw.1
    have hw2 : w.2.1 = nI C := hcw.2.1
    rw [hw1, hw2]
    rfl

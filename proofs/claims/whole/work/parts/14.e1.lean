/-! write -/
def byN (x : Int64) (k : Nat) : Nat := (x.toBitVec >>> (8 * k) &&& 255#64).toNat
theorem byN_lt (x : Int64) (k : Nat) : byN x k < 256 := by
  unfold byN
  rw [BitVec.toNat_and]
  exact Nat.lt_of_le_of_lt Nat.and_le_right (by decide)
theorem sh8 : ∀ k, k < 8 → ((((8 * nI k : Int32)).toInt64 &&& 63).toBitVec.smod 64).toNat = 8 * k := by decide +kernel
theorem qshr_bv (x : Int64) {k : Nat} (h : k < 8) : (qshr x (8 * nI k)).toBitVec = x.toBitVec.sshiftRight (8 * k) := by
  unfold qshr
  rw [Int64.toBitVec_shiftRight, BitVec.sshiftRight_eq', sh8 k h]
theorem nI_bv {v : Nat} : (nI v).toBitVec = BitVec.ofNat 32 v := rfl
theorem bit255 (i : Nat) : (255#64).getLsbD i = decide (i < 8) := by
  by_cases h : i < 64
  · have : ∀ i, i < 64 → (255#64).getLsbD i = decide (i < 8) := by decide +kernel
    exact this i h
  · rw [BitVec.getLsbD_of_ge _ _ (by omega)]; simp; omega
theorem bit255' (i : Nat) : (255#32).getLsbD i = decide (i < 8) := by
  by_cases h : i < 32
  · have : ∀ i, i < 32 → (255#32).getLsbD i = decide (i < 8) := by decide +kernel
    exact this i h
  · rw [BitVec.getLsbD_of_ge _ _ (by omega)]; simp; omega
theorem by_C (x : Int64) {k : Nat} (h : k < 8) : ((qushr x (8 * nI k)) &&& 255).toInt32 = nI (byN x k) := by
  have e8 : (8 : Int32) * nI k = nI (8 * k) := nI_mul 8 k
  apply Int32.toBitVec_inj.mp
  rw [Int64.toBitVec_toInt32, BitVec.signExtend_eq_setWidth_of_le _ (by decide), Int64.toBitVec_and, e8, qushr_bv x (by omega), nI_bv]
  unfold byN
  apply BitVec.eq_of_toNat_eq
  rw [BitVec.toNat_setWidth, BitVec.toNat_ofNat]
  rfl
theorem by_M (x : Int64) {k : Nat} (h : k < 8) : ((qshr x (8 * nI k)).toInt32) &&& 255 = nI (byN x k) := by
  apply Int32.toBitVec_inj.mp
  rw [Int32.toBitVec_and, Int64.toBitVec_toInt32, BitVec.signExtend_eq_setWidth_of_le _ (by decide), qshr_bv x h, nI_bv]
  have e : BitVec.ofNat 32 (byN x k) = (x.toBitVec >>> (8 * k) &&& 255#64).setWidth 32 := by
    apply BitVec.eq_of_toNat_eq
    rw [BitVec.toNat_setWidth, BitVec.toNat_ofNat]
    rfl
  rw [e]
  apply BitVec.eq_of_getLsbD_eq
  intro i hi
  show (_ &&& 255#32).getLsbD i = _
  rw [BitVec.getLsbD_and, bit255', BitVec.getLsbD_setWidth, BitVec.getLsbD_setWidth, BitVec.getLsbD_and, bit255, BitVec.getLsbD_sshiftRight, BitVec.getLsbD_ushiftRight]
  by_cases h8 : i < 8
  · rw [if_pos (by omega)]
    rw [show decide (i < 32) = true from decide_eq_true (by omega), show decide (64 ≤ i) = false from decide_eq_false (by omega), show decide (i < 8) = true from decide_eq_true h8]
    simp
  · simp [h8]
theorem in_18 (x : Int32) : (x < 1 ∧ fX10_in x.toInt64 1 8 = 0) ∨ (¬ x < 1 ∧ ¬ x ≤ 8 ∧ fX10_in x.toInt64 1 8 = 0) ∨ ∃ q, 1 ≤ q ∧ q ≤ 8 ∧ x = nI q ∧ ¬ x < 1 ∧ x ≤ 8 ∧ fX10_in x.toInt64 1 8 = 1 := by
  have t1 : (1 : Int64).toInt = 1 := rfl
  have t8 : (8 : Int64).toInt = 8 := rfl
  have u1 : (1 : Int32).toInt = 1 := rfl
  have u8 : (8 : Int32).toInt = 8 := rfl
  have u0 : (0 : Int32).toInt = 0 := rfl
  have tx : x.toInt64.toInt = x.toInt := Int32.toInt_toInt64 x
  rw [in_spec]
  by_cases h1 : x < 1
  · left
    have : ¬ (1 : Int64) ≤ x.toInt64 := by
      rw [Int64.le_iff_toInt_le, t1, tx]; rw [Int32.lt_iff_toInt_lt] at h1; omega
    exact ⟨h1, by simp [this, b2i]⟩
  · have g1 : (1 : Int64) ≤ x.toInt64 := by
      rw [Int64.le_iff_toInt_le, t1, tx]; rw [Int32.lt_iff_toInt_lt] at h1; omega
    right
    by_cases h8 : x ≤ 8
    · right
      have g8 : x.toInt64 ≤ 8 := by
        rw [Int64.le_iff_toInt_le, t8, tx]; rw [Int32.le_iff_toInt_le] at h8; omega
      have h0 : ¬ x < 0 := by
        rw [Int32.lt_iff_toInt_lt] at h1 ⊢; omega
      obtain ⟨n, hn, rfl⟩ := nI_of h0
      have tn : (nI n).toInt = (n : Int) := nI_toInt hn
      have a1 := h1
      have a8 := h8
      rw [Int32.lt_iff_toInt_lt] at a1
      rw [Int32.le_iff_toInt_le] at a8
      exact ⟨n, by omega, by omega, rfl, h1, h8, by simp [g1, g8, b2i]⟩
    · left
      have : ¬ x.toInt64 ≤ 8 := by
        rw [Int64.le_iff_toInt_le, t8, tx]; rw [Int32.le_iff_toInt_le] at h8; omega
      exact ⟨h1, h8, by simp [this, b2i]⟩
theorem nI_m_neg {k : Nat} : (k = 0 → nI k - 1 < 0) ∧ (0 < k → k ≤ 8 → nI k - 1 = nI (k - 1) ∧ ¬ nI k - 1 < 0 ∧ (nI k - 1) + (-1) = nI (k - 1) - 1) := by
  constructor
  · rintro rfl; decide
  · intro h h8
    have key : ∀ k, k < 9 → (0 < k) → nI k - 1 = nI (k - 1) ∧ ¬ nI k - 1 < 0 ∧ (nI k - 1) + (-1) = nI (k - 1) - 1 := by decide +kernel
    exact key k (by omega) h
theorem cl_nI {k : Nat} (h : k < 2 ^ 31) : (nI k).toNatClampNeg = k := by
  show (nI k).toInt.toNat = k
  rw [nI_toInt h]; rfl
set_option maxRecDepth 20000 in
set_option maxHeartbeats 1000000 in
theorem st_write {sc_length : Int32} {sc_bytes : Nat → Int32} {g_rows : Int32} {g_columns : Int32} {g_a : Int32} {g_b : Int32} {g_cells : Int64} {g_right : Int64} {g_down : Int64} {m_textSize : Int32} {m_text : Nat → Int32} {m_rows : Int32} {m_columns : Int32} {m_a : Int32} {m_b : Int32} {m_right : Nat → Int32} {m_down : Nat → Int32} {m_shut : Nat → Int32} {m_keptFigures : Nat → Int32} {m_keptNumbers : Nat → Int32} {m_isKept : Nat → Int32} {m_thrown : Int32} {sl_f : Nat → Option Nat} {k0 k1 : Option (Nat × KG)} {p1 : Int32} {p2 : Int64} (h : Rel sc_length sc_bytes (g_rows, g_columns, g_a, g_b, g_cells, g_right, g_down) sl_f k0 k1 m_textSize m_text m_rows m_columns m_a m_b m_right m_down m_shut m_keptFigures m_keptNumbers m_isKept) : ∃ (r : Int32) (sc_length' : Int32) (sc_bytes' : Nat → Int32) (m_thrown' : Int32) (m_textSize' : Int32) (m_text' : Nat → Int32), fX9_write sc_length sc_bytes p1 p2 = some (r, sc_length', sc_bytes') ∧ fX10_write m_thrown m_textSize m_text p1 p2 = some (r, m_thrown', m_textSize', m_text') ∧ Rel sc_length' sc_bytes' (g_rows, g_columns, g_a, g_b, g_cells, g_right, g_down) sl_f k0 k1 m_textSize' m_text' m_rows m_columns m_a m_b m_right m_down m_shut m_keptFigures m_keptNumbers m_isKept := by
  obtain ⟨R, C, rt, dn, a, b, n, tx, z0, z1, hz, ha, hb, rfl, rfl, rfl, rfl, rfl, hr, hd, rfl, rfl, rfl, rfl, hm, ht, hsh, h0, h1, e0, e1⟩ := id h.un
  obtain ⟨hn, rfl, rfl, hT⟩ := id ht
  unfold fX9_write fX10_write
  rcases in_18 p1 with ⟨u1, u2⟩ | ⟨u1, u2, u3⟩ | ⟨q, hq1, hq8, rfl, u1, u2, u3⟩
  · rw [if_pos u1, if_pos u2]
    exact ⟨_, _, _, _, _, _, rfl, rfl, h⟩
  · rw [if_neg u1, if_neg u2, if_pos u3]
    exact ⟨_, _, _, _, _, _, rfl, rfl, h⟩
  · have n3 : ¬ fX10_in (nI q).toInt64 1 8 = 0 := by rw [u3]; decide
    rw [if_neg u1, if_pos u2, if_neg n3, nI_add]
    by_cases h41 : n + q ≤ 41
    · have c41 : nI (n + q) ≤ 41 := nI_le (b := 41) h41 (by decide)
      rw [if_pos c41, if_pos c41]
      obtain ⟨e, e', g1, g2, tx', by', tm', rfl, rfl, hT'⟩ := qlp_two (f := qun3 fun (x4_1 : Int32) (sc_length_2 : Int32) (sc_bytes_2 : Nat → Int32) => if x4_1 < 0 then some (Sum.inr (sc_length_2, sc_bytes_2)) else if 41 ≤ sc_length_2 then some (Sum.inr (sc_length_2, sc_bytes_2)) else qgd sc_length_2 41 (qbd (upd sc_bytes_2 sc_length_2.toNatClampNeg (((qushr p2 (8 * x4_1)) &&& 255).toInt32)) (fun (sc_bytes_3 : Nat → Int32) => some (Sum.inl ((x4_1 + (-1)), (sc_length_2 + 1), sc_bytes_3)))))
        (g := qun3 fun (x4_1 : Int32) (m_textSize_2 : Int32) (m_text_2 : Nat → Int32) => if x4_1 < 0 then some (Sum.inr (m_textSize_2, m_text_2)) else qgd m_textSize_2 41 (qbd (upd m_text_2 m_textSize_2.toNatClampNeg (((qshr p2 (8 * x4_1)).toInt32) &&& 255)) (fun (m_text_3 : Nat → Int32) => some (Sum.inl ((x4_1 + (-1)), (m_textSize_2 + 1), m_text_3)))))
        (fun i s s' => ∃ (tx' : Nat → Nat) (by' tm' : Nat → Int32), s = (nI (q - i) - 1, nI (n + i), by') ∧ s' = (nI (q - i) - 1, nI (n + i), tm') ∧ ∀ j, j < n + i → tx' j < 256 ∧ by' j = nI (tx' j) ∧ tm' j = nI (tx' j)) q
        (fun e e' => ∃ (tx' : Nat → Nat) (by' tm' : Nat → Int32), e = (nI (n + q), by') ∧ e' = (nI (n + q), tm') ∧ ∀ j, j < n + q → tx' j < 256 ∧ by' j = nI (tx' j) ∧ tm' j = nI (tx' j)) (by
        rintro i s s' hi ⟨tx', by', tm', rfl, rfl, hT'⟩
        by_cases hc : q - i = 0
        · right
          have hx := nI_m_neg.1 hc
          have hiq : i = q := by omega
          subst hiq
          exact ⟨_, _, by rw [qun3_eq, if_pos hx], by rw [qun3_eq, if_pos hx], tx', by', tm', rfl, rfl, hT'⟩
        · left
          obtain ⟨x1, x2, x3⟩ := (nI_m_neg (k := q - i)).2 (by omega) (by omega)
          have l41 : ¬ (41 : Int32) ≤ nI (n + i) := nI_ge (b := 41) (by omega) (by decide)
          refine ⟨by omega, (nI (q - (i + 1)) - 1, nI (n + (i + 1)), upd by' (n + i) (nI (byN p2 (q - i - 1)))), (nI (q - (i + 1)) - 1, nI (n + (i + 1)), upd tm' (n + i) (nI (byN p2 (q - i - 1)))), ?_, ?_, upN tx' (n + i) (byN p2 (q - i - 1)), _, _, rfl, rfl, ?_⟩
          · rw [qun3_eq, if_neg x2, if_neg l41, qgd_nI (by omega) (by decide), x3, x1, by_C p2 (by omega), cl_nI (by omega), nI_1]
            rfl
          · rw [qun3_eq, if_neg x2, qgd_nI (by omega) (by decide), x3, x1, by_M p2 (by omega), cl_nI (by omega), nI_1]
            rfl
          · intro j hj
            unfold upd upN
            by_cases e : j = n + i
            · rw [if_pos e, if_pos e, if_pos e]
              exact ⟨byN_lt _ _, rfl, rfl⟩
            · rw [if_neg e, if_neg e, if_neg e]
              exact hT' j (by omega)) qFU qFU (qFU_gt (by omega)) (qFU_gt (by omega)) (nI q - 1, nI n, sc_bytes) (nI q - 1, nI n, m_text) ⟨tx, sc_bytes, m_text, rfl, rfl, hT⟩
      refine ⟨nI (n + q), nI (n + q), by', 0, nI (n + q), tm', ?_, ?_, Rel.mk hz ha hb hr hd hm (n := n + q) (tx := tx') ⟨h41, rfl, rfl, hT'⟩ hsh h0 h1 e0 e1⟩
      · unfold fX5_append
        rw [g1]; rfl
      · rw [g2]; rfl
    · have c41 : ¬ nI (n + q) ≤ 41 := nI_ge (a := 41) (by omega) (by omega)
      rw [if_neg c41, if_neg c41]
      exact ⟨_, _, _, _, _, _, rfl, rfl, h⟩

/-! must -/
theorem lev_restrict {R C : Nat} {rt dn T U S : Nat → Bool} (hz : Mz R C rt dn) {K : Nat} (hU : ∀ i, i < 36 → U i = true → T i = true) (h : ∀ k, k ≤ K → ∀ i, i < 36 → lev rt dn T S k i = true → U i = true) : ∀ k, k ≤ K → ∀ i, i < 36 → lev rt dn U S k i = lev rt dn T S k i
  | 0, _, _, _ => rfl
  | k + 1, hk, i, hi => by
    have ih := lev_restrict hz hU h k (by omega)
    have h1 := h (k + 1) hk i hi
    have e1 : lev rt dn U S (k + 1) i = (nearS rt dn (lev rt dn U S k) i && U i) := rfl
    have e2 : lev rt dn T S (k + 1) i = (nearS rt dn (lev rt dn T S k) i && T i) := rfl
    rw [e2] at h1
    rw [e1, e2, nearS_congr hz ih i hi]
    have h2 := hU i hi
    revert h1 h2
    generalize nearS rt dn (lev rt dn T S k) i = A
    generalize U i = u
    generalize T i = t
    revert A u t
    decide
theorem lev_T {rt dn T T' S : Nat → Bool} (h : ∀ i, T i = true → T' i = true) : ∀ k i, lev rt dn T S k i = true → lev rt dn T' S k i = true
  | 0, _, q => q
  | k + 1, i, q => by
    have ih := lev_T (rt := rt) (dn := dn) (S := S) h k
    have q : (nearS rt dn (lev rt dn T S k) i && T i) = true := q
    show (nearS rt dn (lev rt dn T' S k) i && T' i) = true
    rw [Bool.and_eq_true] at q ⊢
    refine ⟨?_, h i q.2⟩
    have q1 := q.1
    unfold nearS at q1 ⊢
    simp only [Bool.or_eq_true, Bool.and_eq_true, decide_eq_true_eq] at q1 ⊢
    rcases q1 with (((g | ⟨g1, g2, g3⟩) | ⟨g2, g3⟩) | ⟨g1, g2, g3⟩) | ⟨g2, g3⟩
    · exact Or.inl (Or.inl (Or.inl (Or.inl (ih _ g))))
    · exact Or.inl (Or.inl (Or.inl (Or.inr ⟨g1, ih _ g2, g3⟩)))
    · exact Or.inl (Or.inl (Or.inr ⟨ih _ g2, g3⟩))
    · exact Or.inl (Or.inr ⟨g1, ih _ g2, g3⟩)
    · exact Or.inr ⟨ih _ g2, g3⟩
theorem Cpart0 {R C : Nat} {rt dn : Nat → Bool} {r d : Int64} (hz : Mz R C rt dn) (hr : bs r rt) (hd : bs d dn) {i : Nat} (hi : isC R C i) {D : Nat → Nat} (hL : LF R C rt dn (fun _ => false) i D) :
    ∃ x, fX1_flood r d (fX1_bit (nI (pl i))) (cwv R C) = some x ∧ bs x (fun j => decide (D j ≠ 9999)) := by
  obtain ⟨x, h1, h2⟩ := Cpart hz hr hd hi hL
  refine ⟨x, ?_, h2⟩
  unfold fX1_partOf at h1
  cases q : fX1_flood r d (fX1_bit (nI (pl i))) (cwv R C) with
  | none => rw [q] at h1; cases h1
  | some y => rw [q] at h1; exact h1
theorem place_two {k : Nat} (h : k < 48) : (¬ (k % 8 < 6 ∧ k < 48)) ∨ ∃ j, j < 36 ∧ k = pl j := by
  by_cases q : k % 8 < 6
  · right
    exact ⟨6 * (k / 8) + k % 8, by omega, by unfold pl; omega⟩
  · left
    exact fun g => q g.1
def Pt (D : Nat → Nat) : Nat → Bool := fun j => decide (D j ≠ 9999)
def badM (rt dn : Nat → Bool) (D : Nat → Nat) (a b : Nat) : Nat → Bool := fun j => Pt D j && !lev rt dn (fun i => Pt D i && !decide (i = j)) (fun i => decide (i = a) && (Pt D i && !decide (i = j))) 36 b
set_option maxRecDepth 20000 in
theorem Cmust {R C : Nat} {rt dn : Nat → Bool} {r d : Int64} (hz : Mz R C rt dn) (hr : bs r rt) (hd : bs d dn) {a b : Nat} (ha : isC R C a) (hb : isC R C b) {D : Nat → Nat} (hL : LF R C rt dn (fun _ => false) a D) :
    ∃ x, fX7_mustCells (nI (pl a)) (nI (pl b)) (cwv R C) r d = some x ∧ bs x (fun j => Pt D b && (decide (j = a) || decide (j = b) || badM rt dn D a b j)) := by
  have ha36 := isC_lt hz ha
  have hb36 := isC_lt hz hb
  obtain ⟨x0, f1, f2⟩ := Cpart0 hz hr hd ha hL
  have f2 : bs x0 (Pt D) := f2
  unfold fX7_mustCells
  rw [f1, qob_some, qun1_eq, bs_has f2 hb36]
  cases hPb : Pt D b with
  | false =>
    exact ⟨0, by rw [if_pos (show b2i false = 0 from rfl)], bs_congr bs_0 (fun j _ => by simp)⟩
  | true =>
    rw [if_neg (show ¬ b2i true = 0 by decide)]
    obtain ⟨e, h1, h2⟩ := qlp_idx (f := qun2 fun (x5_2 : Int64) (x7_1 : Int32) => if 48 ≤ x7_1 then some (Sum.inr x5_2) else if (fX1_has x0 x7_1) = 0 then some (Sum.inl (x5_2, (x7_1 + 1))) else Option.bind (fX1_flood r d (fX1_bit (nI (pl a))) (x0 &&& ((fX1_bit x7_1) ^^^ (-1)))) (qun1 fun (r_2 : Int64) => if (fX1_has r_2 (nI (pl b))) = 0 then some (Sum.inl ((x5_2 ||| (fX1_bit x7_1)), (x7_1 + 1))) else some (Sum.inl (x5_2, (x7_1 + 1)))))
      (fun k st => st.2 = nI k ∧ bs st.1 (fun j => (decide (j = a) || decide (j = b)) || (decide (pl j < k) && badM rt dn D a b j))) 48 (fun (e : Int64) => bs e (fun j => decide (j = a) || decide (j = b) || badM rt dn D a b j)) (by
      rintro k ⟨x, y⟩ hk ⟨rfl, hbx⟩
      dsimp only at hbx ⊢
      by_cases h : 48 ≤ k
      · right
        exact ⟨x, by rw [qun2_eq, if_pos (show (48 : Int32) ≤ nI k from nI_le (a := 48) h (by omega))], bs_congr hbx (fun j hj => by
          have := pl_lt hj
          rw [show decide (pl j < k) = true from decide_eq_true (by omega), Bool.true_and])⟩
      · left
        refine ⟨by omega, ?_⟩
        rw [qun2_eq, if_neg (show ¬ (48 : Int32) ≤ nI k from nI_ge (b := 48) (by omega) (by decide))]
        rcases place_two (k := k) (by omega) with hno | ⟨j, hj, rfl⟩
        · rw [has_in x0 (by omega), bs_not f2 hno, if_pos (show b2i false = 0 from rfl)]
          refine ⟨_, rfl, nI_1 k, bs_congr hbx (fun i hi => ?_)⟩
          have : pl i ≠ k := fun q => hno (by rw [← q]; exact ⟨pl_mod hi, pl_lt hi⟩)
          rw [show decide (pl i < k + 1) = decide (pl i < k) from decide_eq_decide.mpr (by omega)]
        · rw [bs_has f2 hj]
          cases hPj : Pt D j with
          | false =>
            rw [if_pos (show b2i false = 0 from rfl)]
            refine ⟨_, rfl, nI_1 _, bs_congr hbx (fun i hi => ?_)⟩
            by_cases e : i = j
            · subst e
              simp [badM, hPj]
            · have : pl i ≠ pl j := fun q => e (pl_inj hi hj q)
              rw [show decide (pl i < pl j + 1) = decide (pl i < pl j) from decide_eq_decide.mpr (by omega)]
          | true =>
            rw [if_neg (show ¬ b2i true = 0 by decide)]
            obtain ⟨w, w1, w2⟩ := Cflood hz hr hd (bs_bit ha36) (bs_andn f2 (bs_bit hj))
            rw [w1, qob_some, qun1_eq, bs_has w2 hb36]
            have hbad : badM rt dn D a b j = !lev rt dn (fun i => Pt D i && !decide (i = j)) (fun i => decide (i = a) && (Pt D i && !decide (i = j))) 36 b := by
              unfold badM; rw [hPj, Bool.true_and]
            cases hl : lev rt dn (fun i => Pt D i && !decide (i = j)) (fun i => decide (i = a) && (Pt D i && !decide (i = j))) 36 b with
            | false =>
              rw [if_pos (show b2i false = 0 from rfl)]
              rw [hl] at hbad
              refine ⟨_, rfl, nI_1 _, bs_congr (bs_or hbx (bs_bit hj)) (fun i hi => ?_)⟩
              by_cases e : i = j
              · subst e
                simp [hbad]
              · have : pl i ≠ pl j := fun q => e (pl_inj hi hj q)
                rw [show decide (pl i < pl j + 1) = decide (pl i < pl j) from decide_eq_decide.mpr (by omega)]
                simp [e]
            | true =>
              rw [if_neg (show ¬ b2i true = 0 by decide)]
              rw [hl] at hbad
              refine ⟨_, rfl, nI_1 _, bs_congr hbx (fun i hi => ?_)⟩
              by_cases e : i = j
              · subst e
                simp [hbad]
              · have : pl i ≠ pl j := fun q => e (pl_inj hi hj q)
                rw [show decide (pl i < pl j + 1) = decide (pl i < pl j) from decide_eq_decide.mpr (by omega)]) qFU (qFU_gt (by decide)) (fX1_bit (nI (pl a)) ||| fX1_bit (nI (pl b)), (0 : Int32)) ⟨rfl, bs_congr (bs_or (bs_bit ha36) (bs_bit hb36)) (fun j _ => by simp)⟩
    refine ⟨e, ?_, bs_congr h2 (fun j _ => by simp)⟩
    rw [h1]; rfl
theorem bad_iff {R C : Nat} {rt dn : Nat → Bool} (hz : Mz R C rt dn) {a b j : Nat} (ha : a < 36) (hb : b < 36) (hja : j ≠ a) {D D1 : Nat → Nat} (hL : LF R C rt dn (fun _ => false) a D) (hPb : Pt D b = true) (hL1 : LF R C rt dn (fun i => decide (i = j)) a D1) : badM rt dn D a b j = decide (D1 b = 9999) := by
  have hs : (fun i => decide (i = j)) a = false := decide_eq_false (fun q => hja q.symm)
  have k1 : ∀ k, k ≤ 36 → ∀ i, i < 36 → lev rt dn (fun _ => true) (fun i => decide (i = a)) k i = true → Pt D i = true := by
    intro k hk i hi q
    have : D i ≤ k := (LF_lev hz rfl hL k (by omega) i hi).mp q
    exact decide_eq_true (by omega)
  have hPa : Pt D a = true := decide_eq_true (by rw [hL.1]; decide)
  have eS : (fun i => decide (i = a) && (Pt D i && !decide (i = j))) = (fun i => decide (i = a)) := by
    funext i
    by_cases e : i = a
    · subst e
      simp [hPa, hja.symm]
    · simp [e]
  have k2 : ∀ i, i < 36 → lev rt dn (fun i => Pt D i && !decide (i = j)) (fun i => decide (i = a)) 36 i = lev rt dn (fun i => !decide (i = j)) (fun i => decide (i = a)) 36 i := by
    intro i hi
    refine lev_restrict hz (K := 36) (fun i _ q => ?_) (fun k hk i hi q => ?_) 36 (Nat.le_refl _) i hi
    · simp only [Bool.and_eq_true] at q; exact q.2
    · have q1 := k1 k hk i hi (lev_T (fun _ _ => rfl) k i q)
      have q2 := lev_in (T := fun i => !decide (i = j)) (fun i hi => by
        have : i = a := by simpa using hi
        subst this
        simp [hja.symm]) k i q
      show (Pt D i && !decide (i = j)) = true
      rw [q1, q2]; rfl
  have k3 : lev rt dn (fun i => !decide (i = j)) (fun i => decide (i = a)) 36 b = true ↔ D1 b ≤ 36 := LF_lev hz hs hL1 36 (by decide) b hb
  have hsm := hL1.2.1 b hb
  unfold badM
  rw [eS, k2 b hb]
  cases hPj : Pt D j with
  | true =>
    rw [Bool.true_and]
    cases hl : lev rt dn (fun i => !decide (i = j)) (fun i => decide (i = a)) 36 b with
    | true =>
      have := k3.mp hl
      rw [decide_eq_false (show ¬ D1 b = 9999 by omega)]; rfl
    | false =>
      have : ¬ D1 b ≤ 36 := fun q => by have := k3.mpr q; rw [hl] at this; cases this
      rw [decide_eq_true (show D1 b = 9999 by omega)]; rfl
  | false =>
    have k4 : lev rt dn (fun i => !decide (i = j)) (fun i => decide (i = a)) 36 b = lev rt dn (fun _ => true) (fun i => decide (i = a)) 36 b := by
      refine lev_restrict hz (K := 36) (fun i _ _ => rfl) (fun k hk i hi q => ?_) 36 (Nat.le_refl _) b hb
      have q1 := k1 k hk i hi q
      by_cases e : i = j
      · subst e; rw [hPj] at q1; cases q1
      · simp [e]
    have k5 : lev rt dn (fun _ => true) (fun i => decide (i = a)) 36 b = true := by
      refine (LF_lev hz rfl hL 36 (by decide) b hb).mpr ?_
      have := of_decide_eq_true hPb
      have h2 := hL.2.1 b hb
      omega
    have := k3.mp (k4.trans k5)
    rw [decide_eq_false (show ¬ D1 b = 9999 by omega)]; rfl
set_option maxRecDepth 20000 in
theorem st_must {sc_length : Int32} {sc_bytes : Nat → Int32} {g_rows : Int32} {g_columns : Int32} {g_a : Int32} {g_b : Int32} {g_cells : Int64} {g_right : Int64} {g_down : Int64} {m_textSize : Int32} {m_text : Nat → Int32} {m_rows : Int32} {m_columns : Int32} {m_a : Int32} {m_b : Int32} {m_right : Nat → Int32} {m_down : Nat → Int32} {m_shut : Nat → Int32} {m_keptFigures : Nat → Int32} {m_keptNumbers : Nat → Int32} {m_isKept : Nat → Int32} {m_thrown : Int32} {m_dist : Nat → Int32} {m_queue : Nat → Int32} {sl_f : Nat → Option Nat} {k0 k1 : Option (Nat × KG)} {p1 : Int32} (h : Rel sc_length sc_bytes (g_rows, g_columns, g_a, g_b, g_cells, g_right, g_down) sl_f k0 k1 m_textSize m_text m_rows m_columns m_a m_b m_right m_down m_shut m_keptFigures m_keptNumbers m_isKept) : ∃ (r : Int32) (m_thrown' : Int32) (m_dist' : Nat → Int32) (m_queue' : Nat → Int32) (m_shut' : Nat → Int32), fX9_must g_rows g_columns g_a g_b g_cells g_right g_down p1 = some r ∧ fX10_must m_thrown m_rows m_columns m_a m_b m_right m_down m_dist m_queue m_shut p1 = some (r, m_thrown', m_dist', m_queue', m_shut') ∧ Rel sc_length sc_bytes (g_rows, g_columns, g_a, g_b, g_cells, g_right, g_down) sl_f k0 k1 m_textSize m_text m_rows m_columns m_a m_b m_right m_down m_shut' m_keptFigures m_keptNumbers m_isKept := by
  obtain ⟨R, C, rt, dn, a, b, n, tx, z0, z1, hz, ha, hb, rfl, rfl, rfl, rfl, rfl, hr, hd, rfl, rfl, rfl, rfl, hm, ht, hsh, h0, h1, e0, e1⟩ := id h.un
  unfold fX9_must fX10_must
  rcases cell_two hz p1 with ⟨q1, q2⟩ | ⟨i, hi, ci, q1, q3, n1, n2⟩
  · rw [if_pos q1, if_pos q2]
    exact ⟨_, _, _, _, _, rfl, rfl, h⟩
  · have ha36 := isC_lt hz ha
    have hb36 := isC_lt hz hb
    rw [if_neg n1, if_neg n2, q1, q3]
    obtain ⟨d1, u1, D, g1, g2⟩ := Mfar (sh := fun _ => false) (ms := m_shut) hz hm (fun i hi => by rw [hsh i hi]; rfl) ha hb36 m_dist m_queue
    obtain ⟨x, c1, c2⟩ := Cmust hz hr hd ha hb g2
    have hsm := g2.2.1 b hb36
    unfold fX10_isMust
    rw [c1, qob_some, qun1_eq, bs_has c2 hi, g1, qob_some, qun3_eq]
    by_cases e9 : D b = 9999
    · have hP : Pt D b = false := decide_eq_false (fun q => q e9)
      rw [if_pos (show nI (D b) = 9999 by rw [e9]; rfl), hP]
      exact ⟨0, 0, d1, u1, m_shut, rfl, rfl, h⟩
    · have hP : Pt D b = true := decide_eq_true e9
      rw [if_neg (show ¬ nI (D b) = 9999 from nI_ne (b := 9999) (by omega) (by decide) e9), hP]
      by_cases ea : i = a
      · subst ea
        rw [if_pos rfl]
        exact ⟨1, 0, d1, u1, m_shut, by simp; rfl, rfl, h⟩
      · rw [if_neg (show ¬ nI i = nI a from nI_ne (by omega) (by omega) ea)]
        by_cases eb : i = b
        · subst eb
          rw [if_pos rfl]
          exact ⟨1, 0, d1, u1, m_shut, by simp; rfl, rfl, h⟩
        · rw [if_neg (show ¬ nI i = nI b from nI_ne (by omega) (by omega) eb), qgd_nI hi (by decide), nI_clamp (by omega)]
          obtain ⟨d2, u2, D1, g3, g4⟩ := Mfar (sh := fun k => decide (k = i)) (ms := upd m_shut i (qnb 1)) hz hm (fun k hk => by
            unfold upd
            by_cases e : k = i
            · rw [if_pos e]; simp [e]; rfl
            · rw [if_neg e, hsh k hk]; simp [e]; rfl) ha hb36 d1 u1
          have hsm1 := g4.2.1 b hb36
          rw [g3, qob_some, qun3_eq, bad_iff hz ha36 hb36 ea g2 hP g4]
          have hs2 : ∀ k, k < 36 → upd (upd m_shut i (qnb 1)) i (qnb 0) k = 0 := by
            intro k hk
            unfold upd
            by_cases e : k = i
            · rw [if_pos e]; rfl
            · rw [if_neg e, if_neg e]; exact hsh k hk
          have hR := Rel.mk hz ha hb hr hd hm ht hs2 h0 h1 e0 e1
          by_cases f9 : D1 b = 9999
          · rw [if_pos (show nI (D1 b) = 9999 by rw [f9]; rfl), qob_some, qun1_eq, qgd_nI hi (by decide)]
            exact ⟨1, 0, d2, u2, _, by simp [ea, eb, f9]; rfl, rfl, hR⟩
          · rw [if_neg (show ¬ nI (D1 b) = 9999 from nI_ne (b := 9999) (by omega) (by decide) f9), qob_some, qun1_eq, qgd_nI hi (by decide)]
            exact ⟨0, 0, d2, u2, _, by simp [ea, eb, f9]; rfl, rfl, hR⟩

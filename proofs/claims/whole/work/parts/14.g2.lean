/-! layParts; part -/
def pv (x : Nat) : Int32 := if x = 99 then -9 else nI x
theorem isThere_ok : ∀ R, R < 7 → ∀ C, C < 7 → ∀ i, i < 36 → fX10_isThere (nI R) (nI C) (nI i) = b2i (cellS R C i) := by decide +kernel
set_option maxRecDepth 20000 in
theorem Mmark {di : Nat → Int32} {D : Nat → Nat} (hd : ∀ j, j < 36 → di j = nI (D j)) (hD : ∀ j, j < 36 → D j = 9999 ∨ D j < 36) (v : Int32) (pa : Nat → Int32) :
    ∃ pa', qlp qFU (qun2 fun (x3_1 : Int32) (m_parts_5 : Nat → Int32) => if 36 ≤ x3_1 then some (Sum.inr m_parts_5) else qgd x3_1 36 (if 9999 ≤ (di x3_1.toNatClampNeg) then qgd x3_1 36 (qgd x3_1 36 (qbd (upd m_parts_5 x3_1.toNatClampNeg (m_parts_5 x3_1.toNatClampNeg)) (fun (m_parts_6 : Nat → Int32) => some (Sum.inl ((x3_1 + 1), m_parts_6))))) else qgd x3_1 36 (some (Sum.inl ((x3_1 + 1), (upd m_parts_5 x3_1.toNatClampNeg v)))))) ((0 : Int32), pa) = some pa' ∧ ∀ j, j < 36 → pa' j = if D j = 9999 then pa j else v := by
  obtain ⟨e, h1, h2⟩ := qlp_idx (f := qun2 fun (x3_1 : Int32) (m_parts_5 : Nat → Int32) => if 36 ≤ x3_1 then some (Sum.inr m_parts_5) else qgd x3_1 36 (if 9999 ≤ (di x3_1.toNatClampNeg) then qgd x3_1 36 (qgd x3_1 36 (qbd (upd m_parts_5 x3_1.toNatClampNeg (m_parts_5 x3_1.toNatClampNeg)) (fun (m_parts_6 : Nat → Int32) => some (Sum.inl ((x3_1 + 1), m_parts_6))))) else qgd x3_1 36 (some (Sum.inl ((x3_1 + 1), (upd m_parts_5 x3_1.toNatClampNeg v))))))
    (fun k st => st.1 = nI k ∧ ∀ j, j < 36 → st.2 j = if j < k then (if D j = 9999 then pa j else v) else pa j) 36 (fun (e : Nat → Int32) => ∀ j, j < 36 → e j = if D j = 9999 then pa j else v) (by
    rintro k ⟨x, y⟩ hk ⟨rfl, hb⟩
    dsimp only at hb ⊢
    by_cases h : 36 ≤ k
    · right
      exact ⟨y, by rw [qun2_eq, if_pos (show (36 : Int32) ≤ nI k from nI_le (a := 36) h (by omega))], fun j hj => by rw [hb j hj, if_pos (by omega)]⟩
    · left
      refine ⟨by omega, ?_⟩
      rw [qun2_eq, if_neg (show ¬ (36 : Int32) ≤ nI k from nI_ge (b := 36) (by omega) (by decide)), qgd_nI (by omega) (by decide), nI_clamp (by omega), hd k (by omega)]
      rcases hD k (by omega) with q | q
      · rw [if_pos (show (9999 : Int32) ≤ nI (D k) by rw [q]; decide), qgd_nI (by omega) (by decide), qgd_nI (by omega) (by decide)]
        refine ⟨(nI k + 1, upd y k (y k)), rfl, nI_1 k, fun j hj => ?_⟩
        show upd y k (y k) j = _
        unfold upd
        by_cases e : j = k
        · subst e
          rw [if_pos rfl, hb j hj, if_neg (by omega), if_pos (by omega), if_pos q]
        · rw [if_neg e, hb j hj]
          by_cases l : j < k
          · rw [if_pos l, if_pos (show j < k + 1 by omega)]
          · rw [if_neg l, if_neg (show ¬ j < k + 1 by omega)]
      · rw [if_neg (show ¬ (9999 : Int32) ≤ nI (D k) from nI_ge (b := 9999) (by omega) (by decide)), qgd_nI (by omega) (by decide)]
        refine ⟨(nI k + 1, upd y k v), rfl, nI_1 k, fun j hj => ?_⟩
        show upd y k v j = _
        unfold upd
        by_cases e : j = k
        · subst e
          rw [if_pos rfl, if_pos (by omega), if_neg (by omega)]
        · rw [if_neg e, hb j hj]
          by_cases l : j < k
          · rw [if_pos l, if_pos (show j < k + 1 by omega)]
          · rw [if_neg l, if_neg (show ¬ j < k + 1 by omega)]) qFU (qFU_gt (by decide)) ((0 : Int32), pa) ⟨rfl, fun j _ => by rw [if_neg (Nat.not_lt_zero j)]⟩
  exact ⟨e, h1, h2⟩
set_option maxRecDepth 20000 in
theorem Mclear (pa : Nat → Int32) : ∃ pa', qlp qFU (qun2 fun (x2_2 : Int32) (m_parts_7 : Nat → Int32) => if 36 ≤ x2_2 then some (Sum.inr m_parts_7) else qgd x2_2 36 (some (Sum.inl ((x2_2 + 1), (upd m_parts_7 x2_2.toNatClampNeg (-9)))))) ((0 : Int32), pa) = some pa' ∧ ∀ j, j < 36 → pa' j = -9 := by
  obtain ⟨e, h1, h2⟩ := qlp_idx (f := qun2 fun (x2_2 : Int32) (m_parts_7 : Nat → Int32) => if 36 ≤ x2_2 then some (Sum.inr m_parts_7) else qgd x2_2 36 (some (Sum.inl ((x2_2 + 1), (upd m_parts_7 x2_2.toNatClampNeg (-9))))))
    (fun k st => st.1 = nI k ∧ ∀ j, j < k → st.2 j = -9) 36 (fun (e : Nat → Int32) => ∀ j, j < 36 → e j = -9) (by
    rintro k ⟨x, y⟩ hk ⟨rfl, hb⟩
    dsimp only at hb ⊢
    by_cases h : 36 ≤ k
    · right
      exact ⟨y, by rw [qun2_eq, if_pos (show (36 : Int32) ≤ nI k from nI_le (a := 36) h (by omega))], fun j hj => hb j (by omega)⟩
    · left
      refine ⟨by omega, (nI k + 1, upd y k (-9)), ?_, nI_1 k, fun j hj => ?_⟩
      · rw [qun2_eq, if_neg (show ¬ (36 : Int32) ≤ nI k from nI_ge (b := 36) (by omega) (by decide)), qgd_nI (by omega) (by decide), nI_clamp (by omega)]
      · show upd y k (-9) j = _
        unfold upd
        by_cases e : j = k
        · rw [if_pos e]
        · rw [if_neg e]; exact hb j (by omega)) qFU (qFU_gt (by decide)) ((0 : Int32), pa) ⟨rfl, fun j hj => absurd hj (Nat.not_lt_zero j)⟩
  exact ⟨e, h1, h2⟩
theorem ls_s (f : Nat → Bool) (k : Nat) : ls f (k + 1) = if ls f k = 99 then (if f k then k else 99) else ls f k := rfl
/-- the cells that open a part, counted below k -/
def firsts (R C : Nat) (rt dn : Nat → Bool) : Nat → Bool := fun k => cellS R C k && decide (ls (fc R C rt dn k) k = 99)
set_option maxRecDepth 20000 in
set_option maxHeartbeats 1000000 in
theorem Mparts {R C : Nat} {rt dn : Nat → Bool} {mr md ms : Nat → Int32} (hz : Mz R C rt dn) (hm : ∀ i, i < 36 → mr i = b2i (rt i) ∧ md i = b2i (dn i)) (hsh : ∀ i, i < 36 → ms i = 0) (m_dist m_queue m_parts : Nat → Int32) :
    ∃ di' qu' pa', fX10_layParts (nI R) (nI C) mr md m_dist m_queue ms m_parts = some (nI (cn (firsts R C rt dn) 36), di', qu', pa') ∧ ∀ j, j < 36 → pa' j = pv (ls (fc R C rt dn j) 36) := by
  have hRC := hz.1
  have hCC := hz.2.1
  obtain ⟨p0, c1, c2⟩ := Mclear m_parts
  unfold fX10_layParts
  rw [c1, qob_some, qun1_eq]
  obtain ⟨e, h1, di', qu', pa', rfl, h2⟩ := qlp_idx (f := qun5 fun (x1_2 : Int32) (x2_1 : Int32) (m_dist_2 : Nat → Int32) (m_queue_2 : Nat → Int32) (m_parts_3 : Nat → Int32) => if 36 ≤ x2_1 then some (Sum.inr (x1_2, m_dist_2, m_queue_2, m_parts_3)) else if (fX10_isThere (nI R) (nI C) x2_1) = 0 then some (Sum.inl (x1_2, (x2_1 + 1), m_dist_2, m_queue_2, m_parts_3)) else qgd x2_1 36 (if (m_parts_3 x2_1.toNatClampNeg) = (-9) then Option.bind (fX10_layFar (nI R) (nI C) mr md m_dist_2 m_queue_2 ms x2_1) (qun2 fun (m_dist_3 : Nat → Int32) (m_queue_3 : Nat → Int32) => Option.bind (qlp qFU (qun2 fun (x3_1 : Int32) (m_parts_5 : Nat → Int32) => if 36 ≤ x3_1 then some (Sum.inr m_parts_5) else qgd x3_1 36 (if 9999 ≤ (m_dist_3 x3_1.toNatClampNeg) then qgd x3_1 36 (qgd x3_1 36 (qbd (upd m_parts_5 x3_1.toNatClampNeg (m_parts_5 x3_1.toNatClampNeg)) (fun (m_parts_6 : Nat → Int32) => some (Sum.inl ((x3_1 + 1), m_parts_6))))) else qgd x3_1 36 (some (Sum.inl ((x3_1 + 1), (upd m_parts_5 x3_1.toNatClampNeg x2_1)))))) ((0 : Int32), (m_parts_3 : Nat → Int32))) (qun1 fun (m_parts_4 : Nat → Int32) => some (Sum.inl ((x1_2 + 1), (x2_1 + 1), m_dist_3, m_queue_3, m_parts_4)))) else some (Sum.inl (x1_2, (x2_1 + 1), m_dist_2, m_queue_2, m_parts_3))))
    (fun k st => ∃ (di qu pa : Nat → Int32), st = (nI (cn (firsts R C rt dn) k), nI k, di, qu, pa) ∧ ∀ j, j < 36 → pa j = pv (ls (fc R C rt dn j) k)) 36
    (fun e => ∃ (di qu pa : Nat → Int32), e = (nI (cn (firsts R C rt dn) 36), di, qu, pa) ∧ ∀ j, j < 36 → pa j = pv (ls (fc R C rt dn j) 36)) (by
    rintro k st hk ⟨di, qu, pa, rfl, hb⟩
    by_cases h : 36 ≤ k
    · right
      have : k = 36 := by omega
      subst this
      exact ⟨_, by rw [qun5_eq, if_pos (show (36 : Int32) ≤ nI 36 by decide)], di, qu, pa, rfl, hb⟩
    · left
      have hk36 : k < 36 := by omega
      refine ⟨hk36, ?_⟩
      rw [qun5_eq, if_neg (show ¬ (36 : Int32) ≤ nI k from nI_ge (b := 36) hk36 (by decide)), isThere_ok R (by omega) C (by omega) k hk36]
      have ecn : cn (firsts R C rt dn) (k + 1) = cn (firsts R C rt dn) k + (firsts R C rt dn k).toNat := rfl
      cases hc : cellS R C k with
      | false =>
        have ef : firsts R C rt dn k = false := by unfold firsts; rw [hc]; rfl
        rw [if_pos (show b2i false = 0 from rfl)]
        refine ⟨_, rfl, di, qu, pa, by rw [ecn, ef, nI_1]; rfl, fun j hj => ?_⟩
        have : fc R C rt dn j k = false := by unfold fc; rw [hc]; rfl
        rw [hb j hj, ls_s, this]
        by_cases g : ls (fc R C rt dn j) k = 99
        · rw [if_pos g, if_neg Bool.false_ne_true, g]
        · rw [if_neg g]
      | true =>
        have ck := cellS_iff.mp hc
        rw [if_neg (show ¬ b2i true = 0 by decide), qgd_nI hk36 (by decide), nI_clamp (by omega), hb k hk36]
        by_cases g : ls (fc R C rt dn k) k = 99
        · have ef : firsts R C rt dn k = true := by unfold firsts; rw [hc, decide_eq_true g]; rfl
          rw [if_pos (show pv (ls (fc R C rt dn k) k) = -9 by unfold pv; rw [if_pos g])]
          obtain ⟨d1, u1, D, l1, l2, l3⟩ := Mlay (sh := fun _ => false) (ms := ms) hz hm (fun i hi => by rw [hsh i hi]; rfl) ck di qu
          obtain ⟨p1, m1, m2⟩ := Mmark l2 (fun j hj => by rcases l3.2.1 j hj with q | q; exact Or.inl q; exact Or.inr q.1) (nI k) pa
          rw [l1, qob_some, qun2_eq, m1, qob_some, qun1_eq]
          refine ⟨_, rfl, d1, u1, p1, by rw [ecn, ef, nI_1, nI_1]; rfl, fun j hj => ?_⟩
          rw [m2 j hj, ls_s]
          have hcn := cnn_iff hz l3 hj
          by_cases q : D j = 9999
          · have : fc R C rt dn j k = false := by unfold fc; rw [hcn, decide_eq_false (fun w => w q)]; simp
            rw [if_pos q, hb j hj, this]
            by_cases g : ls (fc R C rt dn j) k = 99
            · rw [if_pos g, if_neg Bool.false_ne_true, g]
            · rw [if_neg g]
          · have hkj : cnn rt dn k j = true := by rw [hcn]; exact decide_eq_true q
            have : fc R C rt dn j k = true := by unfold fc; rw [hc, hkj]; rfl
            have cj := cnn_isC hz ck hj hkj
            have g2 : ls (fc R C rt dn j) k = 99 := by
              rw [ls_99 k (by omega)]
              intro i hi
              have w := (ls_99 k (by omega)).mp g i hi
              cases w2 : fc R C rt dn j i with
              | false => rfl
              | true =>
                unfold fc at w2 w
                rw [Bool.and_eq_true, cellS_iff] at w2
                rw [cellS_iff.mpr w2.1, cnn_trans hz w2.1 hk36 w2.2 (cnn_symm hz ck cj hkj)] at w
                cases w
            rw [if_neg q, if_pos g2, this, if_pos rfl]
            unfold pv
            rw [if_neg (by omega)]
        · have ef : firsts R C rt dn k = false := by unfold firsts; rw [hc, decide_eq_false g]; rfl
          obtain ⟨a1, a2, a3⟩ := ls_at k (by omega) g
          have hne : ¬ pv (ls (fc R C rt dn k) k) = -9 := by
            unfold pv; rw [if_neg g]; exact nI_m9 (by omega)
          rw [if_neg hne]
          refine ⟨_, rfl, di, qu, pa, by rw [ecn, ef, nI_1]; rfl, fun j hj => ?_⟩
          rw [hb j hj, ls_s]
          by_cases g2 : ls (fc R C rt dn j) k = 99
          · have : fc R C rt dn j k = false := by
              cases w : fc R C rt dn j k with
              | false => rfl
              | true =>
                unfold fc at w a2
                rw [Bool.and_eq_true, cellS_iff] at w a2
                have w3 := (ls_99 k (by omega)).mp g2 _ a1
                unfold fc at w3
                rw [cellS_iff.mpr a2.1, cnn_trans hz a2.1 hj a2.2 w.2] at w3
                cases w3
            rw [if_pos g2, this, if_neg Bool.false_ne_true, g2]
          · rw [if_neg g2]) qFU (qFU_gt (by decide)) ((0 : Int32), (0 : Int32), m_dist, m_queue, p0) ⟨m_dist, m_queue, p0, rfl, fun j hj => c2 j hj⟩
  refine ⟨di', qu', pa', ?_, h2⟩
  rw [h1]; rfl
set_option maxRecDepth 20000 in
theorem st_part {sc_length : Int32} {sc_bytes : Nat → Int32} {g_rows : Int32} {g_columns : Int32} {g_a : Int32} {g_b : Int32} {g_cells : Int64} {g_right : Int64} {g_down : Int64} {m_textSize : Int32} {m_text : Nat → Int32} {m_rows : Int32} {m_columns : Int32} {m_a : Int32} {m_b : Int32} {m_right : Nat → Int32} {m_down : Nat → Int32} {m_shut : Nat → Int32} {m_keptFigures : Nat → Int32} {m_keptNumbers : Nat → Int32} {m_isKept : Nat → Int32} {m_thrown : Int32} {m_dist : Nat → Int32} {m_queue : Nat → Int32} {m_parts : Nat → Int32} {sl_f : Nat → Option Nat} {k0 k1 : Option (Nat × KG)} {p1 : Int32} (h : Rel sc_length sc_bytes (g_rows, g_columns, g_a, g_b, g_cells, g_right, g_down) sl_f k0 k1 m_textSize m_text m_rows m_columns m_a m_b m_right m_down m_shut m_keptFigures m_keptNumbers m_isKept) : ∃ (r : Int32) (m_thrown' : Int32) (m_dist' : Nat → Int32) (m_queue' : Nat → Int32) (m_parts' : Nat → Int32), fX9_part g_rows g_columns g_cells g_right g_down p1 = some r ∧ fX10_part m_thrown m_rows m_columns m_right m_down m_dist m_queue m_shut m_parts p1 = some (r, m_thrown', m_dist', m_queue', m_parts') ∧ Rel sc_length sc_bytes (g_rows, g_columns, g_a, g_b, g_cells, g_right, g_down) sl_f k0 k1 m_textSize m_text m_rows m_columns m_a m_b m_right m_down m_shut m_keptFigures m_keptNumbers m_isKept := by
  obtain ⟨R, C, rt, dn, a, b, n, tx, z0, z1, hz, ha, hb, rfl, rfl, rfl, rfl, rfl, hr, hd, rfl, rfl, rfl, rfl, hm, ht, hsh, h0, h1, e0, e1⟩ := id h.un
  unfold fX9_part fX10_part
  rcases cell_two hz p1 with ⟨q1, q2⟩ | ⟨i, hi, ci, q1, q3, n1, n2⟩
  · rw [if_pos q1, if_pos q2]
    exact ⟨_, _, _, _, _, rfl, rfl, h⟩
  · rw [if_neg n1, if_neg n2, q1, q3]
    obtain ⟨D, hL⟩ := LF_ex hz ci
    obtain ⟨x, c1, c2⟩ := Cpart hz hr hd ci hL
    obtain ⟨l1, l2⟩ := Cleast hz ci hL c2
    obtain ⟨d', u', p', g1, g2⟩ := Mparts (ms := m_shut) hz hm hsh m_dist m_queue m_parts
    rw [c1, qob_some, qun1_eq, l2, g1, qob_some, qun4_eq, qgd_nI hi (by decide), nI_clamp (by omega), g2 i hi]
    have e : pv (ls (fc R C rt dn i) 36) = nI (ls (fc R C rt dn i) 36) := by
      unfold pv; rw [if_neg (by omega)]
    rw [e]
    have := told_code
    refine ⟨_, 0, d', u', p', rfl, ?_, h⟩
    rw [told_code _ l1]

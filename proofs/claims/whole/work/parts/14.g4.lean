/-! widest, the other side -/
theorem ls_congr {f g : Nat → Bool} : ∀ k, (∀ i, i < k → f i = g i) → ls f k = ls g k
  | 0, _ => rfl
  | k + 1, h => by rw [ls_s, ls_s, ls_congr k (fun i hi => h i (by omega)), h k (by omega)]
theorem part_eq {R C : Nat} {rt dn : Nat → Bool} (hz : Mz R C rt dn) {i t : Nat} (hi : isC R C i) (ht : t < 36) : pv (ls (fc R C rt dn t) 36) = pv (ls (fc R C rt dn i) 36) ↔ cnn rt dn i t = true := by
  have h36 := isC_lt hz hi
  have hn : ls (fc R C rt dn i) 36 ≠ 99 := fun q => by
    have := (ls_99 36 (by decide)).mp q i h36
    unfold fc at this
    rw [cellS_iff.mpr hi, cnn_self] at this
    cases this
  obtain ⟨a1, a2, a3⟩ := ls_at 36 (by decide) hn
  constructor
  · intro h
    have hnt : ls (fc R C rt dn t) 36 ≠ 99 := fun q => by
      unfold pv at h
      rw [if_pos q, if_neg hn] at h
      exact nI_m9 (by omega) h.symm
    obtain ⟨b1, b2, b3⟩ := ls_at 36 (by decide) hnt
    unfold pv at h
    rw [if_neg hn, if_neg hnt] at h
    have e := nI_inj (by omega) (by omega) h
    rw [e] at b2
    unfold fc at a2 b2
    rw [Bool.and_eq_true, cellS_iff] at a2 b2
    exact cnn_trans hz hi ht (cnn_symm hz a2.1 hi a2.2) b2.2
  · intro h
    have ct := cnn_isC hz hi ht h
    have : ls (fc R C rt dn t) 36 = ls (fc R C rt dn i) 36 := ls_congr 36 (fun k hk => by
      unfold fc
      cases hc : cellS R C k with
      | false => rw [Bool.false_and, Bool.false_and]
      | true =>
        have ck := cellS_iff.mp hc
        rw [Bool.true_and, Bool.true_and, Bool.eq_iff_iff]
        exact ⟨fun q => cnn_trans hz ck h36 q (cnn_symm hz hi ct h), fun q => cnn_trans hz ck ht q h⟩)
    rw [this]
set_option maxRecDepth 20000 in
theorem Mecc {R C : Nat} {rt dn : Nat → Bool} (hz : Mz R C rt dn) {t : Nat} {D : Nat → Nat} (hL : LF R C rt dn (fun _ => false) t D) {di : Nat → Int32} (hd : ∀ j, j < 36 → di j = nI (D j)) {m : Nat} (hm : m < 36) :
    qlp qFU (qun2 fun (x3_4 : Int32) (x5_1 : Int32) => if 36 ≤ x5_1 then some (Sum.inr x3_4) else qgd x5_1 36 (if 9999 ≤ (di x5_1.toNatClampNeg) then some (Sum.inl (x3_4, (x5_1 + 1))) else qgd x5_1 36 (if (di x5_1.toNatClampNeg) ≤ x3_4 then some (Sum.inl (x3_4, (x5_1 + 1))) else qgd x5_1 36 (some (Sum.inl ((di x5_1.toNatClampNeg), (x5_1 + 1))))))) (nI m, (0 : Int32)) = some (nI (max m (ecc rt dn t))) := by
  obtain ⟨e, h1, h2⟩ := qlp_idx (f := qun2 fun (x3_4 : Int32) (x5_1 : Int32) => if 36 ≤ x5_1 then some (Sum.inr x3_4) else qgd x5_1 36 (if 9999 ≤ (di x5_1.toNatClampNeg) then some (Sum.inl (x3_4, (x5_1 + 1))) else qgd x5_1 36 (if (di x5_1.toNatClampNeg) ≤ x3_4 then some (Sum.inl (x3_4, (x5_1 + 1))) else qgd x5_1 36 (some (Sum.inl ((di x5_1.toNatClampNeg), (x5_1 + 1)))))))
    (fun k st => st = (nI (max m (mxf (far0 rt dn t) k)), nI k) ∧ mxf (far0 rt dn t) k < 36) 36 (fun (e : Int32) => e = nI (max m (ecc rt dn t))) (by
    rintro k st hk ⟨rfl, hlt⟩
    by_cases h : 36 ≤ k
    · right
      have : k = 36 := by omega
      subst this
      exact ⟨nI (max m (mxf (far0 rt dn t) 36)), by rw [qun2_eq, if_pos (show (36 : Int32) ≤ nI 36 by decide)], by unfold ecc; rfl⟩
    · left
      have hk36 : k < 36 := by omega
      have hs := hL.2.1 k hk36
      have ef := LF_far0 hz hL hk36
      have em : mxf (far0 rt dn t) (k + 1) = max (mxf (far0 rt dn t) k) (far0 rt dn t k) := rfl
      refine ⟨hk36, ?_⟩
      rw [qun2_eq, if_neg (show ¬ (36 : Int32) ≤ nI k from nI_ge (b := 36) hk36 (by decide)), qgd_nI hk36 (by decide), nI_clamp (by omega), hd k hk36]
      by_cases q : D k = 9999
      · rw [if_pos q] at ef
        rw [if_pos (show (9999 : Int32) ≤ nI (D k) by rw [q]; decide)]
        have e2 : mxf (far0 rt dn t) (k + 1) = mxf (far0 rt dn t) k := by rw [em, ef]; omega
        exact ⟨_, rfl, by rw [e2, nI_1], by rw [e2]; exact hlt⟩
      · rw [if_neg q] at ef
        rw [if_neg (show ¬ (9999 : Int32) ≤ nI (D k) from nI_ge (b := 9999) (by omega) (by decide)), qgd_nI hk36 (by decide)]
        by_cases l : D k ≤ max m (mxf (far0 rt dn t) k)
        · rw [if_pos (nI_le l (by omega))]
          have e2 : max m (mxf (far0 rt dn t) (k + 1)) = max m (mxf (far0 rt dn t) k) := by rw [em, ef]; omega
          exact ⟨_, rfl, by rw [e2, nI_1], by rw [em, ef]; omega⟩
        · rw [if_neg (nI_ge (by omega) (by omega)), qgd_nI hk36 (by decide)]
          have e2 : max m (mxf (far0 rt dn t) (k + 1)) = D k := by rw [em, ef]; omega
          exact ⟨_, rfl, by rw [e2, nI_1], by rw [em, ef]; omega⟩) qFU (qFU_gt (by decide)) (nI m, (0 : Int32)) ⟨by
      have : max m (mxf (far0 rt dn t) 0) = m := Nat.max_eq_left (Nat.zero_le m)
      rw [this]; rfl, Nat.zero_lt_succ 35⟩
  rw [h1, h2]
set_option maxRecDepth 20000 in
theorem st_widest {sc_length : Int32} {sc_bytes : Nat → Int32} {g_rows : Int32} {g_columns : Int32} {g_a : Int32} {g_b : Int32} {g_cells : Int64} {g_right : Int64} {g_down : Int64} {m_textSize : Int32} {m_text : Nat → Int32} {m_rows : Int32} {m_columns : Int32} {m_a : Int32} {m_b : Int32} {m_right : Nat → Int32} {m_down : Nat → Int32} {m_shut : Nat → Int32} {m_keptFigures : Nat → Int32} {m_keptNumbers : Nat → Int32} {m_isKept : Nat → Int32} {m_thrown : Int32} {m_dist : Nat → Int32} {m_queue : Nat → Int32} {m_parts : Nat → Int32} {sl_f : Nat → Option Nat} {k0 k1 : Option (Nat × KG)} {p1 : Int32} (h : Rel sc_length sc_bytes (g_rows, g_columns, g_a, g_b, g_cells, g_right, g_down) sl_f k0 k1 m_textSize m_text m_rows m_columns m_a m_b m_right m_down m_shut m_keptFigures m_keptNumbers m_isKept) : ∃ (r : Int32) (m_thrown' : Int32) (m_dist' : Nat → Int32) (m_queue' : Nat → Int32) (m_parts' : Nat → Int32), fX9_widest g_rows g_columns g_cells g_right g_down p1 = some r ∧ fX10_widest m_thrown m_rows m_columns m_right m_down m_dist m_queue m_shut m_parts p1 = some (r, m_thrown', m_dist', m_queue', m_parts') ∧ Rel sc_length sc_bytes (g_rows, g_columns, g_a, g_b, g_cells, g_right, g_down) sl_f k0 k1 m_textSize m_text m_rows m_columns m_a m_b m_right m_down m_shut m_keptFigures m_keptNumbers m_isKept := by
  obtain ⟨R, C, rt, dn, a, b, n, tx, z0, z1, hz, ha, hb, rfl, rfl, rfl, rfl, rfl, hr, hd, rfl, rfl, rfl, rfl, hm, ht, hsh, h0, h1, e0, e1⟩ := id h.un
  unfold fX9_widest fX10_widest
  rcases cell_two hz p1 with ⟨q1, q2⟩ | ⟨i, hi, ci, q1, q3, n1, n2⟩
  · rw [if_pos q1, if_pos q2]
    exact ⟨_, _, _, _, _, rfl, rfl, h⟩
  · rw [if_neg n1, if_neg n2, q1, q3]
    obtain ⟨D, hL⟩ := LF_ex hz ci
    obtain ⟨x, c1, c2⟩ := Cpart hz hr hd ci hL
    have c3 : bs x (cnn rt dn i) := bs_congr c2 (fun j hj => (cnn_iff hz hL hj).symm)
    obtain ⟨d0, u0, p', g1, g2⟩ := Mparts (ms := m_shut) hz hm hsh m_dist m_queue m_parts
    rw [c1, qob_some, qun1_eq, Cwidest hz hr hd ci c3, qob_some, g1, qob_some, qun4_eq, qgd_nI hi (by decide), nI_clamp (by omega)]
    have hw : ∀ t, t < 36 → wid rt dn i t < 36 := by
      intro t ht
      unfold wid
      by_cases q : cnn rt dn i t = true
      · rw [if_pos q]; exact ecc_lt hz (cnn_isC hz ci ht q)
      · rw [if_neg q]; exact Nat.zero_lt_succ 35
    have hwk : ∀ k, k ≤ 36 → mxf (wid rt dn i) k < 36 := fun k hk => Nat.lt_succ_of_le ((mxf_le k).mpr (fun t ht => Nat.le_of_lt_succ (hw t (by omega))))
    obtain ⟨e, l1, d', u', rfl⟩ := qlp_idx (f := qun4 fun (x3_2 : Int32) (x4_1 : Int32) (m_dist_3 : Nat → Int32) (m_queue_3 : Nat → Int32) => if 36 ≤ x4_1 then some (Sum.inr (x3_2, m_dist_3, m_queue_3)) else qgd x4_1 36 (if (p' x4_1.toNatClampNeg) = (p' i) then Option.bind (fX10_layFar (nI R) (nI C) m_right m_down m_dist_3 m_queue_3 m_shut x4_1) (qun2 fun (m_dist_4 : Nat → Int32) (m_queue_4 : Nat → Int32) => Option.bind (qlp qFU (qun2 fun (x3_4 : Int32) (x5_1 : Int32) => if 36 ≤ x5_1 then some (Sum.inr x3_4) else qgd x5_1 36 (if 9999 ≤ (m_dist_4 x5_1.toNatClampNeg) then some (Sum.inl (x3_4, (x5_1 + 1))) else qgd x5_1 36 (if (m_dist_4 x5_1.toNatClampNeg) ≤ x3_4 then some (Sum.inl (x3_4, (x5_1 + 1))) else qgd x5_1 36 (some (Sum.inl ((m_dist_4 x5_1.toNatClampNeg), (x5_1 + 1))))))) ((x3_2 : Int32), (0 : Int32))) (qun1 fun (x3_3 : Int32) => some (Sum.inl (x3_3, (x4_1 + 1), m_dist_4, m_queue_4)))) else some (Sum.inl (x3_2, (x4_1 + 1), m_dist_3, m_queue_3))))
      (fun k st => ∃ (di qu : Nat → Int32), st = (nI (mxf (wid rt dn i) k), nI k, di, qu)) 36 (fun e => ∃ (di qu : Nat → Int32), e = (nI (mxf (wid rt dn i) 36), di, qu)) (by
      rintro k st hk ⟨di, qu, rfl⟩
      by_cases hh : 36 ≤ k
      · right
        have : k = 36 := by omega
        subst this
        exact ⟨_, by rw [qun4_eq, if_pos (show (36 : Int32) ≤ nI 36 by decide)], di, qu, rfl⟩
      · left
        have hk36 : k < 36 := by omega
        have em : mxf (wid rt dn i) (k + 1) = max (mxf (wid rt dn i) k) (wid rt dn i k) := rfl
        refine ⟨hk36, ?_⟩
        rw [qun4_eq, if_neg (show ¬ (36 : Int32) ≤ nI k from nI_ge (b := 36) hk36 (by decide)), qgd_nI hk36 (by decide), nI_clamp (by omega), g2 k hk36, g2 i hi]
        by_cases q : cnn rt dn i k = true
        · have ew : wid rt dn i k = ecc rt dn k := by unfold wid; rw [if_pos q]
          rw [if_pos ((part_eq hz ci hk36).mpr q)]
          obtain ⟨d1, u1, D1, l1, l2, l3⟩ := Mlay (sh := fun _ => false) (ms := m_shut) hz hm (fun i hi => by rw [hsh i hi]; rfl) (cnn_isC hz ci hk36 q) di qu
          rw [l1, qob_some, qun2_eq, Mecc hz l3 l2 (hwk k (by omega)), qob_some, qun1_eq]
          exact ⟨_, rfl, d1, u1, by rw [em, ew, nI_1]⟩
        · have ew : wid rt dn i k = 0 := by unfold wid; rw [if_neg q]
          rw [if_neg (fun w => q ((part_eq hz ci hk36).mp w))]
          exact ⟨_, rfl, di, qu, by rw [em, ew, nI_1, Nat.max_eq_left (Nat.zero_le _)]⟩) qFU (qFU_gt (by decide)) ((0 : Int32), (0 : Int32), d0, u0) ⟨d0, u0, rfl⟩
    rw [l1, qob_some]
    exact ⟨_, 0, d', u', p', rfl, rfl, h⟩

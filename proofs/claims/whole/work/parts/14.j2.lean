/-! step -/
theorem lv_sym {R C : Nat} {rt dn : Nat → Bool} (hz : Mz R C rt dn) {i : Nat} : ∀ k j, lv rt dn i k j = true → lv rt dn j k i = true
  | 0, j, q => by rw [lv_0] at q; exact lv_0.mpr q.symm
  | k + 1, j, q => by
    have ih := lv_sym hz (i := i) k
    rw [lv_s hz] at q
    rcases q with q | ⟨s, hs, ho, q⟩
    · exact (lv_s hz).mpr (Or.inl (ih j q))
    · obtain ⟨a1, a2, a3⟩ := op_sym hz hs ho
      have h1 : lv rt dn j 1 (mvN j s) = true := (lv_s hz).mpr (Or.inr ⟨oppN s, a1, a2, by rw [a3]; exact lv_0.mpr rfl⟩)
      have := lv_trans hz h1 k i (ih _ q)
      rw [Nat.add_comm] at this
      exact this
theorem dN_sym {R C : Nat} {rt dn : Nat → Bool} (hz : Mz R C rt dn) (i j : Nat) : dN rt dn i j = dN rt dn j i := by
  have : dst rt dn i j = dst rt dn j i := by
    unfold dst
    congr 1
    funext k
    rw [Bool.eq_iff_iff]
    exact ⟨lv_sym hz k j, lv_sym hz k i⟩
  unfold dN
  rw [this]
theorem first_side {R C : Nat} {rt dn : Nat → Bool} (hz : Mz R C rt dn) {y : Nat} {D : Nat → Nat} (hL : LF R C rt dn (fun _ => false) y D) {p dd : Nat} (hp : p < 36) (e : D p = dd + 1) (h36 : dd < 36) : ∃ s0, s0 < 4 ∧ opS rt dn p s0 = true ∧ D (mvN p s0) = dd ∧ ∀ s, s < s0 → (opS rt dn p s && decide (D (mvN p s) = dd)) = false := by
  have hne : p ≠ y := fun w => by rw [w, hL.1] at e; omega
  obtain ⟨u, s, g1, g2, g3, g4, g5, -⟩ := hL.2.2.2 p hp (by omega) hne
  obtain ⟨a1, a2, a3⟩ := op_sym hz g1 g2
  rw [g3] at a2 a3
  obtain ⟨k, b1, b2, b3⟩ := ls_first (f := fun s => opS rt dn p s && decide (D (mvN p s) = dd)) (n := oppN s) (by
    show (opS rt dn p (oppN s) && decide (D (mvN p (oppN s)) = dd)) = true
    rw [a2, a3, decide_eq_true (show D u = dd by omega)]; rfl)
  rw [Bool.and_eq_true, decide_eq_true_eq] at b2
  exact ⟨k, by omega, b2.1, b2.2, b3⟩
theorem LF_ge {R C : Nat} {rt dn : Nat → Bool} (hz : Mz R C rt dn) {y : Nat} {D : Nat → Nat} (hL : LF R C rt dn (fun _ => false) y D) {p s : Nat} (hp : p < 36) (hs : s < 4) (ho : opS rt dn p s = true) : D p ≤ D (mvN p s) + 1 := by
  have hu := op_lt hz hp hs ho
  obtain ⟨a1, a2, a3⟩ := op_sym hz hs ho
  have hsm := hL.2.1 p hp
  by_cases q : D (mvN p s) = 9999
  · omega
  · have := hL.2.2.1 _ _ hu q a1 a2 rfl
    rw [a3] at this
    exact this
set_option maxRecDepth 20000 in
theorem CfirstI {R C : Nat} {rt dn : Nat → Bool} {r d : Int64} (hz : Mz R C rt dn) (hr : bs r rt) (hd : bs d dn) {y : Nat} {D : Nat → Nat} (hL : LF R C rt dn (fun _ => false) y D) {p dd s0 : Nat} (cp : isC R C p) (e : D p = dd + 1) (h36 : dd < 36) (h4 : s0 < 4) (ho : opS rt dn p s0 = true) (hD : D (mvN p s0) = dd) (hf : ∀ s, s < s0 → (opS rt dn p s && decide (D (mvN p s) = dd)) = false) {w : Nat → Int64} (hw : bs (w dd) (fun t => decide (D t ≤ dd))) :
    fX4_firstInto w (cwv R C) r d (nI (pl p)) (nI dd) = some (nI (pl (mvN p s0))) := by
  have hp := isC_lt hz cp
  obtain ⟨e', g1, rfl⟩ := qlp_idx (f := lb_X4_firstInto_1 w (cwv R C) r d (nI (pl p)) (nI dd)) (fun s st => s ≤ s0 ∧ st = nI s) 4 (fun e => e = Sum.inr (nI (pl (mvN p s0)))) (by
    rintro s st hs ⟨hle, rfl⟩
    have hs4 : s < 4 := by omega
    rw [ls_X4_firstInto_1, if_neg (n4 hs4), if_neg (nI_pos (by omega)), if_neg (n36 h36)]
    simp only [qbd]
    rw [Cneigh hz hr hd cp hs4]
    by_cases q : s = s0
    · right
      subst q
      have hm := op_isC hz cp hs4 ho
      have := pl_lt hm.2
      refine ⟨_, ?_, rfl⟩
      rw [ho, if_pos rfl, if_neg (nI_m1 (by omega)), qgd_nI h36 (by decide), nI_clamp (by omega), bs_has hw hm.2, decide_eq_true (show D (mvN p s) ≤ dd by omega), if_neg b0t]
    · left
      refine ⟨hs4, nI (s + 1), ?_, by omega, rfl⟩
      cases ho2 : opS rt dn p s with
      | false => rw [if_neg Bool.false_ne_true, if_pos rfl, nI_1]
      | true =>
        have hm := op_isC hz cp hs4 ho2
        have := pl_lt hm.2
        have hne := hf s (by omega)
        rw [ho2, Bool.true_and, decide_eq_false_iff_not] at hne
        have hge := LF_ge hz hL hp hs4 ho2
        rw [if_pos rfl, if_neg (nI_m1 (by omega)), qgd_nI h36 (by decide), nI_clamp (by omega), bs_has hw hm.2, decide_eq_false (show ¬ D (mvN p s) ≤ dd by omega), if_pos b0f, nI_1]) qFU (qFU_gt (by decide)) (0 : Int32) ⟨Nat.zero_le _, rfl⟩
  rw [le_X4_firstInto, g1]
  rfl
set_option maxRecDepth 20000 in
theorem MfirstI {R C : Nat} {rt dn : Nat → Bool} {mr md : Nat → Int32} (hz : Mz R C rt dn) (hm : ∀ i, i < 36 → mr i = b2i (rt i) ∧ md i = b2i (dn i)) {y : Nat} {D : Nat → Nat} {di : Nat → Int32} (hdi : ∀ j, j < 36 → di j = nI (D j)) (hL : LF R C rt dn (fun _ => false) y D) {p dd s0 : Nat} (cp : isC R C p) (e : D p = dd + 1) (h36 : dd < 36) (h4 : s0 < 4) (ho : opS rt dn p s0 = true) (hD : D (mvN p s0) = dd) (hf : ∀ s, s < s0 → (opS rt dn p s && decide (D (mvN p s) = dd)) = false) :
    qlp qFU (lb_X10_step_2 (nI R) (nI C) mr md di (nI p)) (0 : Int32) = some (nI s0) := by
  have hp := isC_lt hz cp
  have hRC := hz.1
  have hCC := hz.2.1
  obtain ⟨e', g1, rfl⟩ := qlp_idx (f := lb_X10_step_2 (nI R) (nI C) mr md di (nI p)) (fun s st => s ≤ s0 ∧ st = nI s) 4 (fun e => e = nI s0) (by
    rintro s st hs ⟨hle, rfl⟩
    have hs4 : s < 4 := by omega
    rw [ls_X10_step_2, Mopen hz hm cp hs4, qob_some, qun1_eq, Mbeside R (by omega) C (by omega) p hp s hs4 cp]
    by_cases q : s = s0
    · right
      subst q
      have hm := op_isC hz cp hs4 ho
      refine ⟨_, ?_, rfl⟩
      rw [ho, if_neg b0t, op_rim hz hs4 ho, if_pos rfl, qgd_nI hm.2 (by decide), qgd_nI hp (by decide), nI_clamp (by omega), nI_clamp (by omega), hdi _ hm.2, hdi _ hp, e, show (nI (dd + 1) - 1 : Int32) = nI dd from nI_sub (a := dd + 1) (b := 1) (by omega), hD, if_pos rfl]
    · left
      refine ⟨hs4, nI (s + 1), ?_, by omega, rfl⟩
      cases ho2 : opS rt dn p s with
      | false => rw [if_pos b0f, nI_1]
      | true =>
        have hm := op_isC hz cp hs4 ho2
        have hne := hf s (by omega)
        rw [ho2, Bool.true_and, decide_eq_false_iff_not] at hne
        have hsm := hL.2.1 _ hm.2
        rw [if_neg b0t, op_rim hz hs4 ho2, if_pos rfl, qgd_nI hm.2 (by decide), qgd_nI hp (by decide), nI_clamp (by omega), nI_clamp (by omega), hdi _ hm.2, hdi _ hp, e, show (nI (dd + 1) - 1 : Int32) = nI dd from nI_sub (a := dd + 1) (b := 1) (by omega), if_neg (nI_ne (by omega) (by omega) hne), nI_1]) qFU (qFU_gt (by decide)) (0 : Int32) ⟨Nat.zero_le _, rfl⟩
  exact g1
set_option maxRecDepth 20000 in
theorem Cwithin {R C : Nat} {rt dn : Nat → Bool} {r d : Int64} (hz : Mz R C rt dn) (hr : bs r rt) (hd : bs d dn) {y : Nat} (hy : y < 36) {L : Nat} (hL36 : L < 36) (w0 : Nat → Int64) :
    ∃ w, qlp qFU (lb_X4_placeOnFirst_1 r d (nI L)) ((1 : Int32), vp_updL w0 0 (fX1_bit (nI (pl y)))) = some w ∧ ∀ e, e < L → bs (w e) (lev rt dn (fun _ => true) (sg y) e) := by
  obtain ⟨e, g1, g2⟩ := qlp_idx (f := lb_X4_placeOnFirst_1 r d (nI L)) (fun i st => ∃ w, st = (nI (i + 1), w) ∧ ∀ e, e ≤ i → bs (w e) (lev rt dn (fun _ => true) (sg y) e)) 36 (fun w => ∀ e, e < L → bs (w e) (lev rt dn (fun _ => true) (sg y) e)) (by
    rintro i st hi ⟨w, rfl, h⟩
    rw [ls_X4_placeOnFirst_1]
    by_cases q : L ≤ i + 1
    · right
      exact ⟨w, by rw [if_pos (nI_le q (by omega))], fun e he => h e (by omega)⟩
    · left
      refine ⟨by omega, ?_⟩
      rw [if_neg (nI_ge (by omega) (by omega)), if_neg (n36 (by omega)), show (nI (i + 1) - 1 : Int32) = nI i from nI_sub (a := i + 1) (b := 1) (by omega), qgd_nI (by omega) (by decide), qgd_nI (by omega) (by decide)]
      simp only [qbd]
      rw [nI_clamp (by omega), nI_clamp (by omega)]
      refine ⟨_, rfl, _, by rw [nI_1], fun e he => ?_⟩
      by_cases e2 : e = i + 1
      · subst e2
        rw [updL_s]
        exact bs_congr (bs_near hz hr hd (h i (Nat.le_refl i))) (fun j _ => by rw [lev_next, Bool.and_true])
      · rw [updL_n e2]
        exact h e (by omega)) qFU (qFU_gt (by decide)) ((1 : Int32), vp_updL w0 0 (fX1_bit (nI (pl y)))) ⟨_, rfl, fun e he => by
      have : e = 0 := by omega
      subst this
      rw [updL_s]
      exact bs_bit hy⟩
  exact ⟨e, g1, g2⟩
set_option maxRecDepth 20000 in
theorem st_step {sc_length : Int32} {sc_bytes : Nat → Int32} {g_rows : Int32} {g_columns : Int32} {g_a : Int32} {g_b : Int32} {g_cells : Int64} {g_right : Int64} {g_down : Int64} {m_textSize : Int32} {m_text : Nat → Int32} {m_rows : Int32} {m_columns : Int32} {m_a : Int32} {m_b : Int32} {m_right : Nat → Int32} {m_down : Nat → Int32} {m_shut : Nat → Int32} {m_keptFigures : Nat → Int32} {m_keptNumbers : Nat → Int32} {m_isKept : Nat → Int32} {ro_within : Nat → Int64} {m_thrown : Int32} {m_dist : Nat → Int32} {m_queue : Nat → Int32} {sl_f : Nat → Option Nat} {k0 k1 : Option (Nat × KG)} {p1 : Int32} {p2 : Int32} {p3 : Int32} (h : Rel sc_length sc_bytes (g_rows, g_columns, g_a, g_b, g_cells, g_right, g_down) sl_f k0 k1 m_textSize m_text m_rows m_columns m_a m_b m_right m_down m_shut m_keptFigures m_keptNumbers m_isKept) : ∃ (r : Int32) (ro_within' : Nat → Int64) (m_thrown' : Int32) (m_dist' : Nat → Int32) (m_queue' : Nat → Int32), fX9_step g_rows g_columns g_cells g_right g_down ro_within p1 p2 p3 = some (r, ro_within') ∧ fX10_step m_thrown m_rows m_columns m_right m_down m_dist m_queue m_shut p1 p2 p3 = some (r, m_thrown', m_dist', m_queue') ∧ Rel sc_length sc_bytes (g_rows, g_columns, g_a, g_b, g_cells, g_right, g_down) sl_f k0 k1 m_textSize m_text m_rows m_columns m_a m_b m_right m_down m_shut m_keptFigures m_keptNumbers m_isKept := by
  obtain ⟨R, C, rt, dn, a, b, n, tx, z0, z1, hz, ha, hb, rfl, rfl, rfl, rfl, rfl, hr, hd, rfl, rfl, rfl, rfl, hm, ht, hsh, h0, h1, e0, e1⟩ := id h.un
  have hRC := hz.1
  have hCC := hz.2.1
  rw [le_X10_step]
  unfold fX9_step
  rcases cell_two hz p1 with ⟨q1, q2⟩ | ⟨i, hi, ci, q1, q3, n1, n2⟩
  · rw [if_pos q1, if_pos q2]
    exact ⟨_, _, _, _, _, rfl, rfl, h⟩
  · rw [if_neg n1, if_neg n2]
    rcases cell_two hz p2 with ⟨u1, u2⟩ | ⟨j, hj, cj, u1, u3, v1, v2⟩
    · rw [if_pos u1, if_pos u2]
      exact ⟨_, _, _, _, _, rfl, rfl, h⟩
    · obtain ⟨d1, k1, D, m1, m2, m3⟩ := Mlay (sh := fun _ => false) (ms := m_shut) hz hm (fun i hi => by rw [hsh i hi]; rfl) cj m_dist m_queue
      have hsm := m3.2.1 i hi
      have hlen : fX1_distance g_right g_down (nI (pl i)) (nI (pl j)) = some (farV (D i)) := by
        rw [CdistN hz hr hd ci hj, dN_sym hz, LF_dN hz m3 hi]
      rw [if_neg v1, if_neg v2, q1, u1, q3, u3, m1, qob_some, qun2_eq, le_X4_placeOnFirst, hlen, qob_some, qun1_eq, qgd_nI hi (by decide), qgd_nI hi (by decide), nI_clamp (by omega), m2 i hi]
      by_cases e9 : D i = 9999
      · rw [if_pos ((farV_m9 (Or.inl e9)).mpr e9), if_pos (show nI (D i) = (9999 : Int32) by rw [e9]; rfl)]
        exact ⟨_, _, _, _, _, rfl, rfl, h⟩
      · rw [if_neg (fun q => e9 ((farV_m9 (by omega)).mp q)), if_neg (show ¬ nI (D i) = (9999 : Int32) from nI_ne (b := 9999) (by omega) (by decide) e9), farV_lt (show D i < 36 by omega)]
        by_cases hp : p3 < 0
        · rw [if_pos hp, if_pos (in_neg hp _)]
          exact ⟨_, _, _, _, _, rfl, rfl, h⟩
        · obtain ⟨q, hq, rfl⟩ := nI_of hp
          rw [if_neg hp, in_nI hq (by omega)]
          by_cases hle : q ≤ D i
          · rw [if_pos (nI_le hle (by omega)), decide_eq_true hle, if_neg b0t, qgd_lit0 (by decide) (by decide), sb_cl0]
            obtain ⟨w, w1, w2⟩ := Cwithin hz hr hd hj (show D i < 36 by omega) ro_within
            obtain ⟨e, e', g1, g2, p, cp, rfl, rfl⟩ := qlp_two (f := lb_X4_placeOnFirst_2 (cwv R C) g_right g_down (nI q) (nI (D i)) w) (g := lb_X10_step_1 (nI R) (nI C) m_right m_down (nI q) d1)
              (fun n s s' => ∃ p, isC R C p ∧ D p = D i - n ∧ n ≤ q ∧ s = (nI (pl p), nI (n + 1)) ∧ s' = (nI p, nI n)) q (fun e e' => ∃ p, isC R C p ∧ e = nI (pl p) ∧ e' = nI p) (by
              rintro n s s' hn ⟨p, cp, hDp, hnq, rfl, rfl⟩
              have hp36 := isC_lt hz cp
              rw [ls_X4_placeOnFirst_2, ls_X10_step_1]
              by_cases en : n = q
              · right
                subst en
                rw [if_pos (nI_lt (by omega) (by omega)), if_pos (nI_le (Nat.le_refl n) (by omega))]
                exact ⟨_, _, rfl, rfl, p, cp, rfl, rfl⟩
              · left
                obtain ⟨s0, c1, c2, c3, c4⟩ := first_side hz m3 hp36 (dd := D i - (n + 1)) (by omega) (by omega)
                have hw : bs (w (D i - (n + 1))) (fun t => decide (D t ≤ D i - (n + 1))) := bs_congr (w2 _ (by omega)) (fun t ht => by
                  rw [Bool.eq_iff_iff, decide_eq_true_eq]
                  exact LF_lev hz rfl m3 _ (by omega) t ht)
                have hmv := op_isC hz cp c1 c2
                rw [if_neg (nI_nlt (by omega) (by omega)), if_neg (nI_ge (by omega) (by omega)), nI_sub (show n + 1 ≤ D i by omega), CfirstI hz hr hd m3 cp (by omega) (by omega) c1 c2 c3 c4 hw, MfirstI hz hm m2 m3 cp (by omega) (by omega) c1 c2 c3 c4, qob_some, qun1_eq, qob_some, qun1_eq, Mbeside R (by omega) C (by omega) p hp36 s0 c1 cp, op_rim hz c1 c2, if_pos rfl]
                exact ⟨by omega, _, _, rfl, rfl, mvN p s0, hmv.1, by omega, by omega, by rw [nI_1], by rw [nI_1]⟩) qFU qFU (qFU_gt (by omega)) (qFU_gt (by omega)) (nI (pl i), (1 : Int32)) (nI i, (0 : Int32)) ⟨i, ci, rfl, Nat.zero_le _, rfl, rfl⟩
            have hp36 := isC_lt hz cp
            have := pl_lt hp36
            refine ⟨fX10_code (nI p), w, 0, d1, k1, ?_, ?_, h⟩
            · rw [w1, qob_some, qun1_eq, g1, qob_some, qun1_eq, qob_some, qun2_eq, if_neg (nI_m1 (by omega)), told_code p hp36]
            · rw [g2, qob_some]
          · rw [if_neg (nI_ge (by omega) hq), decide_eq_false hle, if_pos b0f]
            exact ⟨_, _, _, _, _, rfl, rfl, h⟩

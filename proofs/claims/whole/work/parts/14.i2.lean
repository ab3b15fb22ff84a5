/-! shortCut -/
theorem scB_0 (R C : Nat) (rt dn : Nat → Bool) (a b : Nat) : scB R C rt dn a b 0 = (dN rt dn a b, -9) := by unfold scB; rfl
set_option maxRecDepth 20000 in
set_option maxHeartbeats 1000000 in
theorem Mscut {R C : Nat} {rt dn : Nat → Bool} {mr md ms : Nat → Int32} (hz : Mz R C rt dn) (hm : ∀ i, i < 36 → mr i = b2i (rt i) ∧ md i = b2i (dn i)) (hsh : ∀ i, i < 36 → ms i = 0) {a b : Nat} (ha : isC R C a) (hb : b < 36) (th : Int32) (di qu : Nat → Int32) :
    ∃ mr' md' di' qu', fX10_shortCut th (nI R) (nI C) (nI a) (nI b) mr md di qu ms = some ((scB R C rt dn a b 36).2, 0, mr', md', di', qu') ∧ ∀ i, i < 36 → mr' i = b2i (rt i) ∧ md' i = b2i (dn i) := by
  obtain ⟨d0, u0, f1⟩ := MfarN hz hm hsh ha hb di qu
  obtain ⟨e, h1, mr', md', di', qu', rfl, h2⟩ := qlp_idx (f := lb_X10_shortCut_1 (nI R) (nI C) (nI a) (nI b) ms)
    (fun k x => ∃ (mr' md' di' qu' : Nat → Int32), x = (nI (scB R C rt dn a b k).1, (scB R C rt dn a b k).2, nI k, mr', md', di', qu') ∧ ∀ i, i < 36 → mr' i = b2i (rt i) ∧ md' i = b2i (dn i)) 36
    (fun e => ∃ (mr' md' di' qu' : Nat → Int32), e = ((scB R C rt dn a b 36).2, mr', md', di', qu') ∧ ∀ i, i < 36 → mr' i = b2i (rt i) ∧ md' i = b2i (dn i)) (by
    rintro k x hk ⟨mr', md', di', qu', rfl, hm'⟩
    rw [ls_X10_shortCut_1]
    by_cases h : 36 ≤ k
    · right
      have : k = 36 := by omega
      subst this
      exact ⟨_, by rw [if_pos (y36 (Nat.le_refl 36) (by decide))], mr', md', di', qu', rfl, hm'⟩
    · left
      have hk36 : k < 36 := by omega
      obtain ⟨mr2, md2, di2, qu2, g1, g2⟩ := Msci hz hm' hsh ha hb hk36 (scB_two hz ha hb k) di' qu'
      have g1 : qlp qFU (lb_X10_shortCut_2 (nI R) (nI C) (nI a) (nI b) ms (nI k)) (nI (scB R C rt dn a b k).1, (scB R C rt dn a b k).2, (1 : Int32), mr', md', di', qu') = _ := g1
      refine ⟨hk36, (nI (scB R C rt dn a b (k + 1)).1, (scB R C rt dn a b (k + 1)).2, nI (k + 1), mr2, md2, di2, qu2), ?_, mr2, md2, di2, qu2, rfl, g2⟩
      rw [if_neg (n36 hk36), g1, qob_some, ← nI_1]
      rfl) qFU (qFU_gt (by decide)) (nI (dN rt dn a b), (-9 : Int32), (0 : Int32), mr, md, d0, u0) ⟨mr, md, d0, u0, by simp only [scB_0]; rfl, hm⟩
  refine ⟨mr', md', di', qu', ?_, h2⟩
  rw [le_X10_shortCut, f1, qob_some, qun3_eq, h1, qob_some]
set_option maxRecDepth 20000 in
set_option maxHeartbeats 1000000 in
theorem Csci {R C : Nat} {rt dn : Nat → Bool} {r d : Int64} (hz : Mz R C rt dn) (hr : bs r rt) (hd : bs d dn) {a b k : Nat} (ha : isC R C a) (hb : b < 36) (hk : k < 36) {st : Nat × Int32} (hst : st.1 = 9999 ∨ st.1 < 36) :
    ∃ r' d', qlp qFU (lb_X0_bestTakenAway_2 (nI (pl a)) (nI (pl b)) (cwv R C) (nI (pl k))) (st.2, farV st.1, (1 : Int32), r, d) = some ((sci R C rt dn a b k st 2).2, farV (sci R C rt dn a b k st 2).1, r', d') ∧ bs r' rt ∧ bs d' dn := by
  obtain ⟨e, h1, r', d', rfl, h2⟩ := qlp_idx (f := lb_X0_bestTakenAway_2 (nI (pl a)) (nI (pl b)) (cwv R C) (nI (pl k)))
    (fun i x => ∃ (r' d' : Int64), x = ((sci R C rt dn a b k st i).2, farV (sci R C rt dn a b k st i).1, nI (i + 1), r', d') ∧ bs r' rt ∧ bs d' dn) 2
    (fun e => ∃ (r' d' : Int64), e = ((sci R C rt dn a b k st 2).2, farV (sci R C rt dn a b k st 2).1, r', d') ∧ bs r' rt ∧ bs d' dn) (by
    rintro i x hi ⟨r', d', rfl, hr', hd'⟩
    rw [ls_X0_bestTakenAway_2]
    by_cases h : i = 2
    · right
      subst h
      exact ⟨_, by rw [if_pos (y2l (by decide) (by decide))], r', d', rfl, hr', hd'⟩
    · left
      have hs4 : i + 1 < 4 := by omega
      have h0 := sci_two hz ha hb hst i (by omega) (k := k)
      rw [if_neg (n2l (by omega)), Chedge hz hr' hd' hk hs4]
      refine ⟨by omega, ?_⟩
      have es : sci R C rt dn a b k st (i + 1) = sc1 R C rt dn a b k (i + 1) (sci R C rt dn a b k st i) := rfl
      rw [es]
      generalize sci R C rt dn a b k st i = w at h0 ⊢
      unfold sc1
      cases hh : ((cellS R C k && rimB R C k (i + 1)) && !opS rt dn k (i + 1)) with
      | false =>
        rw [if_pos b0f, Bool.false_and, if_neg Bool.false_ne_true]
        exact ⟨_, rfl, r', d', by rw [nI_1], hr', hd'⟩
      | true =>
        simp only [Bool.and_eq_true, Bool.not_eq_true'] at hh
        obtain ⟨⟨hc, hrim⟩, ho⟩ := hh
        have ck := cellS_iff.mp hc
        obtain ⟨r2, d2, t1, t2, t3⟩ := Ctry hz hr' hd' ck hs4 hrim true ho ha hb
        have h2 := dN_two (set_Mz hz ck hs4 hrim true) ha hb
        rw [if_neg b0t, Bool.true_and, show fX0_distanceWith (nI (pl a)) (nI (pl b)) (cwv R C) r' d' (nI (pl k)) (nI (i + 1)) 1 = _ from t1, qob_some, qun3_eq, told_code k hk]
        generalize dN (sr rt k (i + 1) true) (sd dn k (i + 1) true) a b = v at h2 ⊢
        by_cases e1 : v = 9999
        · rw [if_pos ((farV_m9 h2).mpr e1), if_neg (by simp; omega)]
          exact ⟨_, rfl, r2, d2, by rw [nI_1], t2, t3⟩
        · rw [if_neg (fun q => e1 ((farV_m9 h2).mp q))]
          by_cases e2 : w.1 = 9999
          · rw [if_pos ((farV_m9 h0).mpr e2), if_pos (by simp; omega)]
            exact ⟨_, rfl, r2, d2, by rw [nI_1], t2, t3⟩
          · rw [if_neg (fun q => e2 ((farV_m9 h0).mp q)), farV_lt (show w.1 < 36 by omega), farV_lt (show v < 36 by omega)]
            by_cases l : v < w.1
            · rw [if_neg (nI_ge l (by omega)), if_pos (by simp; omega)]
              exact ⟨_, rfl, r2, d2, by rw [nI_1, farV_lt (show v < 36 by omega)], t2, t3⟩
            · rw [if_pos (nI_le (by omega) (by omega)), if_neg (by simp; omega)]
              exact ⟨_, rfl, r2, d2, by rw [nI_1, farV_lt (show w.1 < 36 by omega)], t2, t3⟩) qFU (qFU_gt (by decide)) (st.2, farV st.1, (1 : Int32), r, d) ⟨r, d, rfl, hr, hd⟩
  exact ⟨r', d', h1, h2⟩
set_option maxRecDepth 20000 in
set_option maxHeartbeats 1000000 in
theorem Csci_out {R C : Nat} {rt dn : Nat → Bool} {r d : Int64} (hz : Mz R C rt dn) (ga gb : Int32) {k : Nat} (hk : k < 48) (hn : ¬ k % 8 < 6) (u v : Int32) :
    qlp qFU (lb_X0_bestTakenAway_2 ga gb (cwv R C) (nI k)) (u, v, (1 : Int32), r, d) = some (u, v, r, d) := by
  refine qlp_seq (f := lb_X0_bestTakenAway_2 ga gb (cwv R C) (nI k)) (fun i => (u, v, nI (i + 1), r, d)) 2 (u, v, r, d) (fun i hi => ?_) ?_ qFU (qFU_gt (by decide))
  · rw [ls_X0_bestTakenAway_2, if_neg (n2l (by omega)), Chedge_out hz r d hk (by omega) hn, if_pos rfl, nI_1]
  · rw [ls_X0_bestTakenAway_2, if_pos (y2l (by decide) (by decide))]
set_option maxRecDepth 20000 in
set_option maxHeartbeats 1000000 in
theorem Cscut {R C : Nat} {rt dn : Nat → Bool} {r d : Int64} (hz : Mz R C rt dn) (hr : bs r rt) (hd : bs d dn) {a b : Nat} (ha : isC R C a) (hb : b < 36) :
    ∃ r' d', fX0_bestTakenAway (nI (pl a)) (nI (pl b)) (cwv R C) r d = some ((scB R C rt dn a b 36).2, r', d') ∧ bs r' rt ∧ bs d' dn := by
  obtain ⟨e, h1, r', d', rfl, h2⟩ := qlp_pl (f := lb_X0_bestTakenAway_1 (nI (pl a)) (nI (pl b)) (cwv R C))
    (fun k j x => ∃ (r' d' : Int64), x = ((scB R C rt dn a b j).2, farV (scB R C rt dn a b j).1, nI k, r', d') ∧ bs r' rt ∧ bs d' dn)
    (fun e => ∃ (r' d' : Int64), e = ((scB R C rt dn a b 36).2, r', d') ∧ bs r' rt ∧ bs d' dn)
    (by
      rintro j s hj ⟨r', d', rfl, hr', hd'⟩
      obtain ⟨r2, d2, g1, g2, g3⟩ := Csci hz hr' hd' ha hb hj (scB_two hz ha hb j)
      rw [ls_X0_bestTakenAway_1, if_neg (n48 (pl_lt hj)), g1, qob_some]
      exact ⟨_, rfl, r2, d2, by rw [nI_1]; rfl, g2, g3⟩)
    (by
      rintro k j s hk hn ⟨r', d', rfl, hr', hd'⟩
      rw [ls_X0_bestTakenAway_1, if_neg (n48 hk), Csci_out hz _ _ hk hn, qob_some]
      exact ⟨_, rfl, r', d', by rw [nI_1], hr', hd'⟩)
    (by
      rintro s ⟨r', d', rfl, hr', hd'⟩
      exact ⟨_, by rw [ls_X0_bestTakenAway_1, if_pos (y48 (Nat.le_refl 48) (by decide))], r', d', rfl, hr', hd'⟩)
    ((-9 : Int32), farV (dN rt dn a b), (0 : Int32), r, d) ⟨r, d, by simp only [scB_0]; rfl, hr, hd⟩
  refine ⟨r', d', ?_, h2⟩
  rw [le_X0_bestTakenAway, CdistN hz hr hd ha hb, qob_some, qun1_eq, h1, qob_some]
set_option maxRecDepth 20000 in
theorem st_shortCut {sc_length : Int32} {sc_bytes : Nat → Int32} {g_rows : Int32} {g_columns : Int32} {g_a : Int32} {g_b : Int32} {g_cells : Int64} {g_right : Int64} {g_down : Int64} {m_textSize : Int32} {m_text : Nat → Int32} {m_rows : Int32} {m_columns : Int32} {m_a : Int32} {m_b : Int32} {m_right : Nat → Int32} {m_down : Nat → Int32} {m_shut : Nat → Int32} {m_keptFigures : Nat → Int32} {m_keptNumbers : Nat → Int32} {m_isKept : Nat → Int32} {m_thrown : Int32} {m_dist : Nat → Int32} {m_queue : Nat → Int32} {sl_f : Nat → Option Nat} {k0 k1 : Option (Nat × KG)}  (h : Rel sc_length sc_bytes (g_rows, g_columns, g_a, g_b, g_cells, g_right, g_down) sl_f k0 k1 m_textSize m_text m_rows m_columns m_a m_b m_right m_down m_shut m_keptFigures m_keptNumbers m_isKept) : ∃ (r : Int32) (g_right' : Int64) (g_down' : Int64) (m_thrown' : Int32) (m_right' : Nat → Int32) (m_down' : Nat → Int32) (m_dist' : Nat → Int32) (m_queue' : Nat → Int32), fX9_shortCut g_a g_b g_cells g_right g_down = some (r, g_right', g_down') ∧ fX10_shortCut m_thrown m_rows m_columns m_a m_b m_right m_down m_dist m_queue m_shut = some (r, m_thrown', m_right', m_down', m_dist', m_queue') ∧ Rel sc_length sc_bytes (g_rows, g_columns, g_a, g_b, g_cells, g_right', g_down') sl_f k0 k1 m_textSize m_text m_rows m_columns m_a m_b m_right' m_down' m_shut m_keptFigures m_keptNumbers m_isKept := by
  obtain ⟨R, C, rt, dn, a, b, n, tx, z0, z1, hz, ha, hb, rfl, rfl, rfl, rfl, rfl, hr, hd, rfl, rfl, rfl, rfl, hm, ht, hsh, h0, h1, e0, e1⟩ := id h.un
  obtain ⟨mr', md', di', qu', m1, m2⟩ := Mscut hz hm hsh ha (isC_lt hz hb) m_thrown m_dist m_queue
  obtain ⟨r', d', c1, c2, c3⟩ := Cscut hz hr hd ha (isC_lt hz hb)
  refine ⟨_, r', d', 0, mr', md', di', qu', ?_, m1, Rel.mk hz ha hb c2 c3 m2 ht hsh h0 h1 e0 e1⟩
  unfold fX9_shortCut
  rw [c1, qob_some]
/-! bar -/
def br1 (R C : Nat) (rt dn : Nat → Bool) (a b k s : Nat) (st : Nat × Int32) : Nat × Int32 :=
  if (cellS R C k && opS rt dn k s) && (decide (dN (sr rt k s false) (sd dn k s false) a b < 9999) && decide (st.1 < dN (sr rt k s false) (sd dn k s false) a b)) then (dN (sr rt k s false) (sd dn k s false) a b, 10 * fX10_code (nI k) + nI s) else st
def bri (R C : Nat) (rt dn : Nat → Bool) (a b k : Nat) (st : Nat × Int32) : Nat → Nat × Int32
  | 0 => st
  | i + 1 => br1 R C rt dn a b k (i + 1) (bri R C rt dn a b k st i)
def brB (R C : Nat) (rt dn : Nat → Bool) (a b : Nat) : Nat → Nat × Int32
  | 0 => (dN rt dn a b, -9)
  | k + 1 => bri R C rt dn a b k (brB R C rt dn a b k) 2
theorem brB_0 (R C : Nat) (rt dn : Nat → Bool) (a b : Nat) : brB R C rt dn a b 0 = (dN rt dn a b, -9) := by unfold brB; rfl
theorem br1_two {R C : Nat} {rt dn : Nat → Bool} (hz : Mz R C rt dn) {a b k s : Nat} (ha : isC R C a) (hb : b < 36) (hs : s < 4) {st : Nat × Int32} (h : st.1 = 9999 ∨ st.1 < 36) : ((br1 R C rt dn a b k s st).1 = 9999 ∨ (br1 R C rt dn a b k s st).1 < 36) ∧ ((br1 R C rt dn a b k s st).1 = 9999 ↔ st.1 = 9999) := by
  unfold br1
  by_cases q : ((cellS R C k && opS rt dn k s) && (decide (dN (sr rt k s false) (sd dn k s false) a b < 9999) && decide (st.1 < dN (sr rt k s false) (sd dn k s false) a b))) = true
  · rw [if_pos q]
    simp only [Bool.and_eq_true, decide_eq_true_eq] at q
    have w := dN_two (t := a) (j := b) (set_Mz hz (cellS_iff.mp q.1.1) hs (op_rim hz hs q.1.2) false) ha hb
    dsimp only
    exact ⟨w, by omega⟩
  · rw [if_neg q]
    exact ⟨h, Iff.rfl⟩
theorem bri_two {R C : Nat} {rt dn : Nat → Bool} (hz : Mz R C rt dn) {a b k : Nat} (ha : isC R C a) (hb : b < 36) {st : Nat × Int32} (h : st.1 = 9999 ∨ st.1 < 36) : ∀ i, i < 3 → ((bri R C rt dn a b k st i).1 = 9999 ∨ (bri R C rt dn a b k st i).1 < 36) ∧ ((bri R C rt dn a b k st i).1 = 9999 ↔ st.1 = 9999)
  | 0, _ => ⟨h, Iff.rfl⟩
  | i + 1, hi => by
    have ih := bri_two hz ha hb (k := k) h i (by omega)
    have := br1_two hz (k := k) (s := i + 1) ha hb (by omega) ih.1
    exact ⟨this.1, this.2.trans ih.2⟩
theorem brB_two {R C : Nat} {rt dn : Nat → Bool} (hz : Mz R C rt dn) {a b : Nat} (ha : isC R C a) (hb : b < 36) : ∀ k, ((brB R C rt dn a b k).1 = 9999 ∨ (brB R C rt dn a b k).1 < 36) ∧ ((brB R C rt dn a b k).1 = 9999 ↔ dN rt dn a b = 9999)
  | 0 => by simp only [brB_0]; exact ⟨dN_two (t := a) (j := b) hz ha hb, trivial⟩
  | k + 1 => by
    have ih := brB_two hz ha hb k
    have := bri_two hz (k := k) ha hb ih.1 2 (by decide)
    exact ⟨this.1, this.2.trans ih.2⟩
set_option maxRecDepth 20000 in
set_option maxHeartbeats 1000000 in
theorem Mbri {R C : Nat} {rt dn : Nat → Bool} {mr md ms : Nat → Int32} (hz : Mz R C rt dn) (hm : ∀ i, i < 36 → mr i = b2i (rt i) ∧ md i = b2i (dn i)) (hsh : ∀ i, i < 36 → ms i = 0) {a b k : Nat} (ha : isC R C a) (hb : b < 36) (hk : k < 36) {st : Nat × Int32} (hst : st.1 = 9999 ∨ st.1 < 36) (di qu : Nat → Int32) :
    ∃ mr' md' di' qu', qlp qFU (lb_X10_bar_2 (nI R) (nI C) (nI a) (nI b) ms (nI k)) (nI st.1, st.2, (1 : Int32), mr, md, di, qu) =
      some (nI (bri R C rt dn a b k st 2).1, (bri R C rt dn a b k st 2).2, mr', md', di', qu') ∧ ∀ i, i < 36 → mr' i = b2i (rt i) ∧ md' i = b2i (dn i) := by
  have hRC := hz.1
  have hCC := hz.2.1
  obtain ⟨e, h1, mr', md', di', qu', rfl, h2⟩ := qlp_idx (f := lb_X10_bar_2 (nI R) (nI C) (nI a) (nI b) ms (nI k))
    (fun i x => ∃ (mr' md' di' qu' : Nat → Int32), x = (nI (bri R C rt dn a b k st i).1, (bri R C rt dn a b k st i).2, nI (i + 1), mr', md', di', qu') ∧ ∀ i, i < 36 → mr' i = b2i (rt i) ∧ md' i = b2i (dn i)) 2
    (fun e => ∃ (mr' md' di' qu' : Nat → Int32), e = (nI (bri R C rt dn a b k st 2).1, (bri R C rt dn a b k st 2).2, mr', md', di', qu') ∧ ∀ i, i < 36 → mr' i = b2i (rt i) ∧ md' i = b2i (dn i)) (by
    rintro i x hi ⟨mr', md', di', qu', rfl, hm'⟩
    rw [ls_X10_bar_2]
    by_cases h : i = 2
    · right
      subst h
      exact ⟨_, by rw [if_pos (y3 (by decide) (by decide))], mr', md', di', qu', rfl, hm'⟩
    · left
      have hs4 : i + 1 < 4 := by omega
      have h0 := (bri_two hz ha hb hst i (by omega) (k := k)).1
      rw [if_neg (n3 (by omega)), isThere_ok R (by omega) C (by omega) k hk]
      refine ⟨by omega, ?_⟩
      have es : bri R C rt dn a b k st (i + 1) = br1 R C rt dn a b k (i + 1) (bri R C rt dn a b k st i) := rfl
      rw [es]
      generalize bri R C rt dn a b k st i = w at h0 ⊢
      unfold br1
      cases hc : cellS R C k with
      | false =>
        rw [if_pos b0f, Bool.false_and, Bool.false_and, if_neg Bool.false_ne_true]
        exact ⟨_, rfl, mr', md', di', qu', by rw [nI_1], hm'⟩
      | true =>
        have ck := cellS_iff.mp hc
        rw [if_neg b0t, Mopen hz hm' ck hs4, qob_some, qun1_eq]
        cases ho : opS rt dn k (i + 1) with
        | false =>
          rw [if_pos b0f, Bool.true_and, Bool.false_and, if_neg Bool.false_ne_true]
          exact ⟨_, rfl, mr', md', di', qu', by rw [nI_1], hm'⟩
        | true =>
          have hrim := op_rim hz hs4 ho
          obtain ⟨mr1, md1, d1, u1, mr2, md2, t1, t2, t3, t4⟩ := Mtry hz hm' hsh ck hs4 hrim false ho ha hb di' qu'
          have h2 := dN_two (set_Mz hz ck hs4 hrim false) ha hb
          rw [if_neg b0t, Bool.true_and, Bool.true_and, show fX10_set (nI R) (nI C) mr' md' (nI k) (nI (i + 1)) 0 = _ from t1, qob_some, qun2_eq, t2, qob_some, qun3_eq, show fX10_set (nI R) (nI C) mr1 md1 (nI k) (nI (i + 1)) 1 = _ from t3, qob_some, qun2_eq]
          generalize dN (sr rt k (i + 1) false) (sd dn k (i + 1) false) a b = v at h2 ⊢
          by_cases e1 : v = 9999
          · rw [if_pos (show (9999 : Int32) ≤ nI v by rw [e1]; decide), qob_some, qun1_eq, if_pos rfl, qob_some, qun1_eq, if_pos rfl, if_neg (by simp; omega)]
            exact ⟨_, rfl, mr2, md2, d1, u1, by rw [nI_1], t4⟩
          · rw [if_neg (show ¬ (9999 : Int32) ≤ nI v from nI_ge (b := 9999) (by omega) (by decide))]
            by_cases l : w.1 < v
            · rw [if_neg (nI_ge l (by omega)), qob_some, qun1_eq, if_neg (by decide), qob_some, qun1_eq, if_neg (by decide), if_pos (by simp; omega)]
              exact ⟨_, rfl, mr2, md2, d1, u1, by rw [nI_1], t4⟩
            · rw [if_pos (nI_le (by omega) (by omega)), qob_some, qun1_eq, if_pos rfl, qob_some, qun1_eq, if_pos rfl, if_neg (by simp; omega)]
              exact ⟨_, rfl, mr2, md2, d1, u1, by rw [nI_1], t4⟩) qFU (qFU_gt (by decide)) (nI st.1, st.2, (1 : Int32), mr, md, di, qu) ⟨mr, md, di, qu, rfl, hm⟩
  exact ⟨mr', md', di', qu', h1, h2⟩
set_option maxRecDepth 20000 in
set_option maxHeartbeats 1000000 in
theorem Mbar {R C : Nat} {rt dn : Nat → Bool} {mr md ms : Nat → Int32} (hz : Mz R C rt dn) (hm : ∀ i, i < 36 → mr i = b2i (rt i) ∧ md i = b2i (dn i)) (hsh : ∀ i, i < 36 → ms i = 0) {a b : Nat} (ha : isC R C a) (hb : b < 36) (th : Int32) (di qu : Nat → Int32) :
    ∃ mr' md' di' qu', fX10_bar th (nI R) (nI C) (nI a) (nI b) mr md di qu ms = some ((brB R C rt dn a b 36).2, 0, mr', md', di', qu') ∧ ∀ i, i < 36 → mr' i = b2i (rt i) ∧ md' i = b2i (dn i) := by
  obtain ⟨d0, u0, f1⟩ := MfarN hz hm hsh ha hb di qu
  obtain ⟨e, h1, mr', md', di', qu', rfl, h2⟩ := qlp_idx (f := lb_X10_bar_1 (nI R) (nI C) (nI a) (nI b) ms)
    (fun k x => ∃ (mr' md' di' qu' : Nat → Int32), x = (nI (brB R C rt dn a b k).1, (brB R C rt dn a b k).2, nI k, mr', md', di', qu') ∧ ∀ i, i < 36 → mr' i = b2i (rt i) ∧ md' i = b2i (dn i)) 36
    (fun e => ∃ (mr' md' di' qu' : Nat → Int32), e = ((brB R C rt dn a b 36).2, mr', md', di', qu') ∧ ∀ i, i < 36 → mr' i = b2i (rt i) ∧ md' i = b2i (dn i)) (by
    rintro k x hk ⟨mr', md', di', qu', rfl, hm'⟩
    rw [ls_X10_bar_1]
    by_cases h : 36 ≤ k
    · right
      have : k = 36 := by omega
      subst this
      exact ⟨_, by rw [if_pos (y36 (Nat.le_refl 36) (by decide))], mr', md', di', qu', rfl, hm'⟩
    · left
      have hk36 : k < 36 := by omega
      obtain ⟨mr2, md2, di2, qu2, g1, g2⟩ := Mbri hz hm' hsh ha hb hk36 (brB_two hz ha hb k).1 di' qu'
      refine ⟨hk36, (nI (brB R C rt dn a b (k + 1)).1, (brB R C rt dn a b (k + 1)).2, nI (k + 1), mr2, md2, di2, qu2), ?_, mr2, md2, di2, qu2, rfl, g2⟩
      rw [if_neg (n36 hk36), g1, qob_some, ← nI_1]
      rfl) qFU (qFU_gt (by decide)) (nI (dN rt dn a b), (-9 : Int32), (0 : Int32), mr, md, d0, u0) ⟨mr, md, d0, u0, by simp only [brB_0]; rfl, hm⟩
  refine ⟨mr', md', di', qu', ?_, h2⟩
  rw [le_X10_bar, f1, qob_some, qun3_eq, h1, qob_some]
set_option maxRecDepth 20000 in
set_option maxHeartbeats 1000000 in
theorem Cbri {R C : Nat} {rt dn : Nat → Bool} {r d : Int64} (hz : Mz R C rt dn) (hr : bs r rt) (hd : bs d dn) {a b k : Nat} (ha : isC R C a) (hb : b < 36) (hk : k < 36) {st : Nat × Int32} (hst : st.1 < 36) :
    ∃ r' d', qlp qFU (lb_X0_bestPutIn_2 (nI (pl a)) (nI (pl b)) (cwv R C) (nI (pl k))) (st.2, nI st.1, (1 : Int32), r, d) = some ((bri R C rt dn a b k st 2).2, nI (bri R C rt dn a b k st 2).1, r', d') ∧ bs r' rt ∧ bs d' dn := by
  obtain ⟨e, h1, r', d', rfl, h2⟩ := qlp_idx (f := lb_X0_bestPutIn_2 (nI (pl a)) (nI (pl b)) (cwv R C) (nI (pl k)))
    (fun i x => ∃ (r' d' : Int64), x = ((bri R C rt dn a b k st i).2, nI (bri R C rt dn a b k st i).1, nI (i + 1), r', d') ∧ bs r' rt ∧ bs d' dn) 2
    (fun e => ∃ (r' d' : Int64), e = ((bri R C rt dn a b k st 2).2, nI (bri R C rt dn a b k st 2).1, r', d') ∧ bs r' rt ∧ bs d' dn) (by
    rintro i x hi ⟨r', d', rfl, hr', hd'⟩
    rw [ls_X0_bestPutIn_2]
    by_cases h : i = 2
    · right
      subst h
      exact ⟨_, by rw [if_pos (y2l (by decide) (by decide))], r', d', rfl, hr', hd'⟩
    · left
      have hs4 : i + 1 < 4 := by omega
      have hq := bri_two hz ha hb (Or.inr hst) i (by omega) (k := k)
      have h0 : (bri R C rt dn a b k st i).1 < 36 := by
        rcases hq.1 with q | q
        · have := hq.2.mp q; omega
        · exact q
      rw [if_neg (n2l (by omega)), Copen hr' hd' hk hs4]
      refine ⟨by omega, ?_⟩
      have es : bri R C rt dn a b k st (i + 1) = br1 R C rt dn a b k (i + 1) (bri R C rt dn a b k st i) := rfl
      rw [es]
      generalize bri R C rt dn a b k st i = w at h0 ⊢
      unfold br1
      cases ho : opS rt dn k (i + 1) with
      | false =>
        rw [if_pos b0f, Bool.and_false, Bool.false_and, if_neg Bool.false_ne_true]
        exact ⟨_, rfl, r', d', by rw [nI_1], hr', hd'⟩
      | true =>
        have hc : cellS R C k = true := by
          cases hc : cellS R C k with
          | true => rfl
          | false => rw [op_out hz hc (by omega)] at ho; cases ho
        have ck := cellS_iff.mp hc
        have hrim := op_rim hz hs4 ho
        obtain ⟨r2, d2, t1, t2, t3⟩ := Ctry hz hr' hd' ck hs4 hrim false ho ha hb
        have h2 := dN_two (set_Mz hz ck hs4 hrim false) ha hb
        rw [if_neg b0t, hc, Bool.true_and, Bool.true_and, show fX0_distanceWith (nI (pl a)) (nI (pl b)) (cwv R C) r' d' (nI (pl k)) (nI (i + 1)) 0 = _ from t1, qob_some, qun3_eq, told_code k hk]
        generalize dN (sr rt k (i + 1) false) (sd dn k (i + 1) false) a b = v at h2 ⊢
        by_cases e1 : v = 9999
        · rw [if_pos ((farV_m9 h2).mpr e1), if_neg (by simp; omega)]
          exact ⟨_, rfl, r2, d2, by rw [nI_1], t2, t3⟩
        · rw [if_neg (fun q => e1 ((farV_m9 h2).mp q)), farV_lt (show v < 36 by omega)]
          by_cases l : w.1 < v
          · rw [if_neg (nI_ge l (by omega)), if_pos (by simp; omega)]
            exact ⟨_, rfl, r2, d2, by rw [nI_1], t2, t3⟩
          · rw [if_pos (nI_le (by omega) (by omega)), if_neg (by simp; omega)]
            exact ⟨_, rfl, r2, d2, by rw [nI_1], t2, t3⟩) qFU (qFU_gt (by decide)) (st.2, nI st.1, (1 : Int32), r, d) ⟨r, d, rfl, hr, hd⟩
  exact ⟨r', d', h1, h2⟩
theorem isOpen_no {rt dn : Nat → Bool} {r d : Int64} (hr : bs r rt) (hd : bs d dn) {k s : Nat} (hk : k < 48) (hn : ¬ k % 8 < 6) (h : s = 1 ∨ s = 2) : fX1_isOpen r d (nI k) (nI s) = 0 := by
  unfold fX1_isOpen
  rcases h with rfl | rfl
  · show qnb (fX1_has r (nI k)) = 0
    rw [has_in _ hk, qnb_b2i, bs_not hr (fun q => hn q.1)]
    rfl
  · show qnb (fX1_has d (nI k)) = 0
    rw [has_in _ hk, qnb_b2i, bs_not hd (fun q => hn q.1)]
    rfl
set_option maxRecDepth 20000 in
set_option maxHeartbeats 1000000 in
theorem Cbri_out {rt dn : Nat → Bool} {r d : Int64} (hr : bs r rt) (hd : bs d dn) (ga gb : Int32) (gc : Int64) {k : Nat} (hk : k < 48) (hn : ¬ k % 8 < 6) (u v : Int32) :
    qlp qFU (lb_X0_bestPutIn_2 ga gb gc (nI k)) (u, v, (1 : Int32), r, d) = some (u, v, r, d) := by
  refine qlp_seq (f := lb_X0_bestPutIn_2 ga gb gc (nI k)) (fun i => (u, v, nI (i + 1), r, d)) 2 (u, v, r, d) (fun i hi => ?_) ?_ qFU (qFU_gt (by decide))
  · rw [ls_X0_bestPutIn_2, if_neg (n2l (by omega)), isOpen_no hr hd hk hn (by omega), if_pos rfl, nI_1]
  · rw [ls_X0_bestPutIn_2, if_pos (y2l (by decide) (by decide))]
theorem brB_none {R C : Nat} {rt dn : Nat → Bool} (hz : Mz R C rt dn) {a b : Nat} (ha : isC R C a) (hb : b < 36) (h : dN rt dn a b = 9999) : ∀ k, (brB R C rt dn a b k).2 = -9
  | 0 => by simp only [brB_0]
  | k + 1 => by
    have ih := brB_none hz ha hb h k
    have h9 := (brB_two hz ha hb k).2.mpr h
    show (br1 R C rt dn a b k 2 (br1 R C rt dn a b k 1 (brB R C rt dn a b k))).2 = -9
    have key : ∀ s (w : Nat × Int32), w.1 = 9999 → br1 R C rt dn a b k s w = w := by
      intro s w hw
      unfold br1
      rw [if_neg]
      simp only [Bool.and_eq_true, decide_eq_true_eq, hw]
      omega
    rw [key 1 _ h9, key 2 _ h9]
    exact ih
set_option maxRecDepth 20000 in
set_option maxHeartbeats 1000000 in
theorem Cbar {R C : Nat} {rt dn : Nat → Bool} {r d : Int64} (hz : Mz R C rt dn) (hr : bs r rt) (hd : bs d dn) {a b : Nat} (ha : isC R C a) (hb : b < 36) :
    ∃ r' d', fX0_bestPutIn (nI (pl a)) (nI (pl b)) (cwv R C) r d = some ((brB R C rt dn a b 36).2, r', d') ∧ bs r' rt ∧ bs d' dn := by
  by_cases h9 : dN rt dn a b = 9999
  · refine ⟨r, d, ?_, hr, hd⟩
    have hs : qlp qFU (lb_X0_bestPutIn_1 (nI (pl a)) (nI (pl b)) (cwv R C)) ((-9 : Int32), farV (dN rt dn a b), (0 : Int32), r, d) = some ((-9 : Int32), r, d) :=
      qlp_seq (f := lb_X0_bestPutIn_1 (nI (pl a)) (nI (pl b)) (cwv R C)) (fun _ => ((-9 : Int32), farV (dN rt dn a b), (0 : Int32), r, d)) 0 ((-9 : Int32), r, d) (fun i hi => absurd hi (Nat.not_lt_zero i)) (by
        rw [ls_X0_bestPutIn_1, if_neg (by decide), if_pos ((farV_m9 (Or.inl h9)).mpr h9)]) qFU (qFU_gt (by decide))
    rw [le_X0_bestPutIn, CdistN hz hr hd ha hb, qob_some, qun1_eq, hs, qob_some, brB_none hz ha hb h9]
  · have hlt : ∀ k, (brB R C rt dn a b k).1 < 36 := fun k => by
      have := brB_two hz ha hb k
      rcases this.1 with q | q
      · exact absurd (this.2.mp q) h9
      · exact q
    obtain ⟨e, h1, r', d', rfl, h2⟩ := qlp_pl (f := lb_X0_bestPutIn_1 (nI (pl a)) (nI (pl b)) (cwv R C))
      (fun k j x => ∃ (r' d' : Int64), x = ((brB R C rt dn a b j).2, nI (brB R C rt dn a b j).1, nI k, r', d') ∧ bs r' rt ∧ bs d' dn)
      (fun e => ∃ (r' d' : Int64), e = ((brB R C rt dn a b 36).2, r', d') ∧ bs r' rt ∧ bs d' dn)
      (by
        rintro j s hj ⟨r', d', rfl, hr', hd'⟩
        obtain ⟨r2, d2, g1, g2, g3⟩ := Cbri hz hr' hd' ha hb hj (hlt j)
        have := hlt j
        rw [ls_X0_bestPutIn_1, if_neg (n48 (pl_lt hj)), if_neg (nI_m9 (by omega)), g1, qob_some]
        exact ⟨_, rfl, r2, d2, by rw [nI_1]; rfl, g2, g3⟩)
      (by
        rintro k j s hk hn ⟨r', d', rfl, hr', hd'⟩
        have := hlt j
        rw [ls_X0_bestPutIn_1, if_neg (n48 hk), if_neg (nI_m9 (by omega)), Cbri_out hr' hd' _ _ _ hk hn, qob_some]
        exact ⟨_, rfl, r', d', by rw [nI_1], hr', hd'⟩)
      (by
        rintro s ⟨r', d', rfl, hr', hd'⟩
        exact ⟨_, by rw [ls_X0_bestPutIn_1, if_pos (y48 (Nat.le_refl 48) (by decide))], r', d', rfl, hr', hd'⟩)
      ((-9 : Int32), nI (dN rt dn a b), (0 : Int32), r, d) ⟨r, d, by simp only [brB_0]; rfl, hr, hd⟩
    refine ⟨r', d', ?_, h2⟩
    have h36 : dN rt dn a b < 36 := by have := hlt 0; simp only [brB_0] at this; exact this
    rw [le_X0_bestPutIn, CdistN hz hr hd ha hb, qob_some, qun1_eq, farV_lt h36, h1, qob_some]
set_option maxRecDepth 20000 in
theorem st_bar {sc_length : Int32} {sc_bytes : Nat → Int32} {g_rows : Int32} {g_columns : Int32} {g_a : Int32} {g_b : Int32} {g_cells : Int64} {g_right : Int64} {g_down : Int64} {m_textSize : Int32} {m_text : Nat → Int32} {m_rows : Int32} {m_columns : Int32} {m_a : Int32} {m_b : Int32} {m_right : Nat → Int32} {m_down : Nat → Int32} {m_shut : Nat → Int32} {m_keptFigures : Nat → Int32} {m_keptNumbers : Nat → Int32} {m_isKept : Nat → Int32} {m_thrown : Int32} {m_dist : Nat → Int32} {m_queue : Nat → Int32} {sl_f : Nat → Option Nat} {k0 k1 : Option (Nat × KG)}  (h : Rel sc_length sc_bytes (g_rows, g_columns, g_a, g_b, g_cells, g_right, g_down) sl_f k0 k1 m_textSize m_text m_rows m_columns m_a m_b m_right m_down m_shut m_keptFigures m_keptNumbers m_isKept) : ∃ (r : Int32) (g_right' : Int64) (g_down' : Int64) (m_thrown' : Int32) (m_right' : Nat → Int32) (m_down' : Nat → Int32) (m_dist' : Nat → Int32) (m_queue' : Nat → Int32), fX9_bar g_a g_b g_cells g_right g_down = some (r, g_right', g_down') ∧ fX10_bar m_thrown m_rows m_columns m_a m_b m_right m_down m_dist m_queue m_shut = some (r, m_thrown', m_right', m_down', m_dist', m_queue') ∧ Rel sc_length sc_bytes (g_rows, g_columns, g_a, g_b, g_cells, g_right', g_down') sl_f k0 k1 m_textSize m_text m_rows m_columns m_a m_b m_right' m_down' m_shut m_keptFigures m_keptNumbers m_isKept := by
  obtain ⟨R, C, rt, dn, a, b, n, tx, z0, z1, hz, ha, hb, rfl, rfl, rfl, rfl, rfl, hr, hd, rfl, rfl, rfl, rfl, hm, ht, hsh, h0, h1, e0, e1⟩ := id h.un
  obtain ⟨mr', md', di', qu', m1, m2⟩ := Mbar hz hm hsh ha (isC_lt hz hb) m_thrown m_dist m_queue
  obtain ⟨r', d', c1, c2, c3⟩ := Cbar hz hr hd ha (isC_lt hz hb)
  refine ⟨_, r', d', 0, mr', md', di', qu', ?_, m1, Rel.mk hz ha hb c2 c3 m2 ht hsh h0 h1 e0 e1⟩
  unfold fX9_bar
  rw [c1, qob_some]

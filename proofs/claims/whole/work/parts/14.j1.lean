/-! ways -/
def wvs (rt dn : Nat → Bool) (D : Nat → Nat) (f : Nat → Int64) (d j : Nat) : Nat → Int64
  | 0 => 0
  | s + 1 => wvs rt dn D f d j s + (if opS rt dn j s && decide (D (mvN j s) = d) then f (mvN j s) else 0)
def wv (rt dn : Nat → Bool) (D : Nat → Nat) : Nat → Nat → Int64
  | 0, _ => 1
  | d + 1, j => wvs rt dn D (wv rt dn D d) d j 4
theorem i64_0 (x : Int64) : x + 0 = x := Int64.add_zero x
theorem updL_s (f : Nat → Int64) (k : Nat) (v : Int64) : vp_updL f k v k = v := if_pos rfl
theorem updL_n {f : Nat → Int64} {k j : Nat} {v : Int64} (h : j ≠ k) : vp_updL f k v j = f j := if_neg h
set_option maxRecDepth 20000 in
theorem Cinto {R C : Nat} {rt dn : Nat → Bool} {r d : Int64} (hz : Mz R C rt dn) (hr : bs r rt) (hd : bs d dn) {j : Nat} (cj : isC R C j) {D : Nat → Nat} {m : Nat} {ct : Nat → Int64} {la : Int64} (hb : bs la (fun t => decide (D t = m))) (hc : ∀ t, t < 36 → D t = m → ct (pl t) = wv rt dn D m t) :
    fX4_waysInto ct (cwv R C) r d (nI (pl j)) la = some (wv rt dn D (m + 1) j) := by
  have hs : qlp qFU (lb_X4_waysInto_1 ct (cwv R C) r d (nI (pl j)) la) ((0 : Int64), (0 : Int32)) = some (wvs rt dn D (wv rt dn D m) m j 4) := by
    refine qlp_seq (f := lb_X4_waysInto_1 ct (cwv R C) r d (nI (pl j)) la) (fun s => (wvs rt dn D (wv rt dn D m) m j s, nI s)) 4 _ (fun s hs => ?_) ?_ qFU (qFU_gt (by decide))
    · rw [ls_X4_waysInto_1, if_neg (n4 hs)]
      simp only [qbd]
      rw [Cneigh hz hr hd cj hs]
      show _ = some (Sum.inl (wvs rt dn D (wv rt dn D m) m j s + (if opS rt dn j s && decide (D (mvN j s) = m) then wv rt dn D m (mvN j s) else 0), nI (s + 1)))
      cases ho : opS rt dn j s with
      | false => rw [if_neg Bool.false_ne_true, if_pos rfl, Bool.false_and, if_neg Bool.false_ne_true, i64_0, nI_1]
      | true =>
        have hm := op_isC hz cj hs ho
        have hp := pl_lt hm.2
        rw [if_pos rfl, if_neg (nI_m1 (by omega)), bs_has hb hm.2, Bool.true_and]
        by_cases e : D (mvN j s) = m
        · rw [decide_eq_true e, if_neg b0t, if_pos rfl, qgd_nI hp (by decide), nI_clamp (by omega), hc _ hm.2 e, nI_1]
        · rw [decide_eq_false e, if_pos b0f, if_neg Bool.false_ne_true, i64_0, nI_1]
    · rw [ls_X4_waysInto_1, if_pos (y4 (Nat.le_refl 4) (by decide))]
  rw [le_X4_waysInto, hs]
  rfl
set_option maxRecDepth 20000 in
theorem Cwlev {R C : Nat} {rt dn : Nat → Bool} {r d : Int64} (hz : Mz R C rt dn) (hr : bs r rt) (hd : bs d dn) {D : Nat → Nat} (hcell : ∀ t, t < 36 → D t = 9999 ∨ (D t < 36 ∧ isC R C t)) {m : Nat} (hm36 : m < 36) {ct : Nat → Int64} {la nx : Int64} (hb : bs la (fun t => decide (D t = m))) (hn : bs nx (fun t => decide (D t = m + 1))) (hc : ∀ t, t < 36 → D t ≤ m → ct (pl t) = wv rt dn D (D t) t) :
    ∃ ct', qlp qFU (lb_X4_shortestWays_2 (cwv R C) r d la nx) ((0 : Int32), ct) = some ct' ∧ ∀ t, t < 36 → D t ≤ m + 1 → ct' (pl t) = wv rt dn D (D t) t := by
  obtain ⟨e, g1, g2⟩ := qlp_pl (f := lb_X4_shortestWays_2 (cwv R C) r d la nx)
    (fun k j st => ∃ ct', st = (nI k, ct') ∧ ∀ t, t < 36 → (D t ≤ m ∨ (D t = m + 1 ∧ t < j)) → ct' (pl t) = wv rt dn D (D t) t)
    (fun e => ∀ t, t < 36 → D t ≤ m + 1 → e (pl t) = wv rt dn D (D t) t)
    (by
      rintro j st hj ⟨ct', rfl, h⟩
      rw [ls_X4_shortestWays_2, if_neg (n48 (pl_lt hj)), bs_has hn hj]
      by_cases q : D j = m + 1
      · have cj : isC R C j := by
          rcases hcell j hj with g | g
          · omega
          · exact g.2
        rw [decide_eq_true q, if_neg b0t, Cinto hz hr hd cj hb (fun t ht e => by have := h t ht (Or.inl (by omega)); rw [e] at this; exact this), qob_some, qun1_eq, qgd_nI (pl_lt hj) (by decide), nI_clamp (by have := pl_lt hj; omega)]
        refine ⟨_, rfl, _, by rw [nI_1], fun t ht w => ?_⟩
        by_cases e : t = j
        · subst e
          rw [updL_s, q]
        · rw [updL_n (fun x => e (pl_inj ht hj x))]
          exact h t ht (by omega)
      · rw [decide_eq_false q, if_pos b0f]
        refine ⟨_, rfl, ct', by rw [nI_1], fun t ht w => h t ht ?_⟩
        by_cases e : t = j
        · subst e; omega
        · omega)
    (by
      rintro k j st hk hno ⟨ct', rfl, h⟩
      rw [ls_X4_shortestWays_2, if_neg (n48 hk), has_in _ hk, bs_not hn (fun q => hno q.1), if_pos b0f]
      exact ⟨_, rfl, ct', by rw [nI_1], h⟩)
    (by
      rintro st ⟨ct', rfl, h⟩
      exact ⟨ct', by rw [ls_X4_shortestWays_2, if_pos (y48 (Nat.le_refl 48) (by decide))], fun t ht q => h t ht (by omega)⟩)
    ((0 : Int32), ct) ⟨ct, rfl, fun t ht q => hc t ht (by omega)⟩
  exact ⟨e, g1, g2⟩
theorem LF_down {R C : Nat} {rt dn : Nat → Bool} {x : Nat} {D : Nat → Nat} (hL : LF R C rt dn (fun _ => false) x D) (hx : x < 36) : ∀ m j, j < 36 → D j = m → m ≠ 9999 → ∀ d, d ≤ m → ∃ t, t < 36 ∧ D t = d
  | 0, j, hj, e, _, d, hd => ⟨j, hj, by omega⟩
  | m + 1, j, hj, e, h9, d, hd => by
    by_cases q : d = m + 1
    · exact ⟨j, hj, by omega⟩
    · have hne : j ≠ x := fun w => by rw [w, hL.1] at e; omega
      obtain ⟨u, s, -, -, -, g, hu, -⟩ := hL.2.2.2 j hj (by omega) hne
      have := hL.2.1 j hj
      exact LF_down hL hx m u hu (by omega) (by omega) d (by omega)
/-- the next level -/
theorem lvl_next {R C : Nat} {rt dn : Nat → Bool} (hz : Mz R C rt dn) {x : Nat} {D : Nat → Nat} (hL : LF R C rt dn (fun _ => false) x D) (hx : x < 36) {m : Nat} (hm : m < 36) {j : Nat} (hj : j < 36) : (nearS rt dn (fun t => decide (D t = m)) j && !decide (D j ≤ m)) = decide (D j = m + 1) := by
  rw [Bool.eq_iff_iff, Bool.and_eq_true, near_iff hz]
  simp only [Bool.not_eq_true', decide_eq_true_eq, decide_eq_false_iff_not]
  have hs := hL.2.1 j hj
  constructor
  · rintro ⟨q | ⟨s, h4, ho, q⟩, hn⟩
    · omega
    · have hu := op_lt hz hj h4 ho
      obtain ⟨a1, a2, a3⟩ := op_sym hz h4 ho
      have := hL.2.2.1 _ _ hu (by omega) a1 a2 rfl
      rw [a3] at this
      omega
  · intro q
    refine ⟨Or.inr ?_, by omega⟩
    have hne : j ≠ x := fun w => by rw [w, hL.1] at q; omega
    obtain ⟨u, s, g1, g2, g3, g4, g5, -⟩ := hL.2.2.2 j hj (by omega) hne
    obtain ⟨a1, a2, a3⟩ := op_sym hz g1 g2
    rw [g3] at a2 a3
    exact ⟨oppN s, a1, a2, by rw [a3]; omega⟩
def wvE (rt dn : Nat → Bool) (D : Nat → Nat) (y : Nat) : Int64 := if D y = 9999 then 0 else wv rt dn D (D y) y
set_option maxRecDepth 20000 in
theorem Cways {R C : Nat} {rt dn : Nat → Bool} {r d : Int64} (hz : Mz R C rt dn) (hr : bs r rt) (hd : bs d dn) {x y : Nat} (cx : isC R C x) (cy : isC R C y) {D : Nat → Nat} (hL : LF R C rt dn (fun _ => false) x D) (ct : Nat → Int64) :
    ∃ ct', fX4_shortestWays ct (cwv R C) r d (nI (pl x)) (nI (pl y)) = some (wvE rt dn D y, ct') := by
  have hx := isC_lt hz cx
  have hy := isC_lt hz cy
  have h0 : ∀ t, t < 36 → (D t = 0 ↔ t = x) := fun t ht => ⟨fun q => by
    by_cases e : t = x
    · exact e
    · obtain ⟨u, s, -, -, -, g, -⟩ := hL.2.2.2 t ht (by omega) e
      omega, fun q => by rw [q]; exact hL.1⟩
  have hbx : bs (fX1_bit (nI (pl x))) (fun t => decide (D t = 0)) := bs_congr (bs_bit hx) (fun t ht => decide_eq_decide.mpr (h0 t ht).symm)
  have hsy := hL.2.1 y hy
  obtain ⟨e, g1, ct', g2⟩ := qlp_idx (f := lb_X4_shortestWays_1 (cwv R C) r d (nI (pl y)))
    (fun m st => ∃ re la ct', st = (re, la, nI m, ct') ∧ bs re (fun t => decide (D t ≤ m)) ∧ bs la (fun t => decide (D t = m)) ∧ (∀ t, t < 36 → D t ≤ m → ct' (pl t) = wv rt dn D (D t) t) ∧ m ≤ D y) 36
    (fun e => ∃ ct', Sum.elim (qun1 fun (ro_counts_1 : Nat → Int64) => some ((0 : Int64), ro_counts_1)) some e = some (wvE rt dn D y, ct')) (by
    rintro m st hm ⟨re, la, ct', rfl, b1, b2, b3, b4⟩
    rw [ls_X4_shortestWays_1]
    by_cases h : m = 36
    · right
      subst h
      refine ⟨_, by rw [if_pos (y36 (Nat.le_refl 36) (by decide))], ct', ?_⟩
      unfold wvE
      rw [if_pos (by omega)]
      rfl
    · have hm36 : m < 36 := by omega
      rw [if_neg (n36 hm36)]
      by_cases hla : lg_cmp la 0 = 0
      · right
        refine ⟨_, by rw [if_pos hla], ct', ?_⟩
        have hem := (bs_eq b2 bs_0).mp (lg_0.mp hla)
        unfold wvE
        rw [if_pos]
        · rfl
        · by_cases q : D y = 9999
          · exact q
          · obtain ⟨t, ht, e⟩ := LF_down hL hx (D y) y hy rfl q m b4
            have := hem t ht
            rw [decide_eq_true e] at this
            cases this
      · rw [if_neg hla, bs_has b2 hy]
        by_cases q : D y = m
        · right
          refine ⟨_, by rw [decide_eq_true q, if_neg b0t, qgd_nI (pl_lt hy) (by decide)], ct', ?_⟩
          unfold wvE
          rw [if_neg (by omega), nI_clamp (by have := pl_lt hy; omega), b3 y hy (by omega)]
          rfl
        · left
          have hn : bs (fX1_near r d la &&& (re ^^^ (-1))) (fun t => decide (D t = m + 1)) := bs_congr (bs_andn (bs_near hz hr hd b2) b1) (fun t ht => lvl_next hz hL hx hm36 ht)
          obtain ⟨ct2, c1, c2⟩ := Cwlev hz hr hd hL.2.1 hm36 b2 hn b3
          refine ⟨hm36, (re ||| (fX1_near r d la &&& (re ^^^ (-1))), fX1_near r d la &&& (re ^^^ (-1)), nI (m + 1), ct2), ?_, _, _, ct2, rfl, bs_congr (bs_or b1 hn) (fun t _ => ?_), hn, c2, by omega⟩
          · rw [decide_eq_false q, if_pos b0f]
            simp only [qbd]
            rw [c1, qob_some, ← nI_1]
          · rw [← Bool.decide_or]
            exact decide_eq_decide.mpr (by omega)) qFU (qFU_gt (by decide)) (fX1_bit (nI (pl x)), fX1_bit (nI (pl x)), (0 : Int32), vp_updL ct (pl x) 1) ⟨_, _, _, rfl, bs_congr hbx (fun t _ => decide_eq_decide.mpr (by omega)), hbx, fun t ht q => by
      have e := (h0 t ht).mp (by omega)
      subst e
      rw [updL_s, hL.1]
      rfl, Nat.zero_le _⟩
  refine ⟨ct', ?_⟩
  rw [le_X4_shortestWays, bs_has (cwv_ok hz.1.2 hz.2.1.2) hx, cellS_iff.mpr cx, if_neg b0t, qgd_nI (pl_lt hx) (by decide), nI_clamp (by have := pl_lt hx; omega), g1, qob_some]
  exact g2
set_option maxRecDepth 20000 in
theorem Mw4 {R C : Nat} {rt dn : Nat → Bool} {mr md : Nat → Int32} (hz : Mz R C rt dn) (hm : ∀ i, i < 36 → mr i = b2i (rt i) ∧ md i = b2i (dn i)) {D : Nat → Nat} {di : Nat → Int32} (hD : ∀ j, j < 36 → di j = nI (D j)) (hcell : ∀ t, t < 36 → D t = 9999 ∨ (D t < 36 ∧ isC R C t)) {m i : Nat} (hm36 : m < 36) (hm0 : 0 < m) (hi : i < 36) {wy : Nat → Int64} (h1 : ∀ t, t < 36 → D t = m - 1 → wy t = wv rt dn D (m - 1) t) (h0 : D i = m → wy i = 0) :
    ∃ wy', qlp qFU (lb_X10_ways_4 (nI R) (nI C) mr md di (nI m) (nI i)) ((0 : Int32), wy) = some wy' ∧ (∀ t, t < 36 → t ≠ i → wy' t = wy t) ∧ wy' i = if D i = m then wv rt dn D m i else wy i := by
  have hRC := hz.1
  have hCC := hz.2.1
  obtain ⟨m1, rfl⟩ : ∃ m1, m = m1 + 1 := ⟨m - 1, by omega⟩
  rw [show m1 + 1 - 1 = m1 from rfl] at h1
  by_cases hq : D i = m1 + 1
  · have ci : isC R C i := by
      rcases hcell i hi with g | g
      · omega
      · exact g.2
    obtain ⟨e, g1, g2, g3⟩ := qlp_idx (f := lb_X10_ways_4 (nI R) (nI C) mr md di (nI (m1 + 1)) (nI i))
      (fun s st => ∃ w, st = (nI s, w) ∧ (∀ t, t < 36 → t ≠ i → w t = wy t) ∧ w i = wvs rt dn D (wv rt dn D m1) m1 i s) 4 (fun e => (∀ t, t < 36 → t ≠ i → e t = wy t) ∧ e i = wv rt dn D (m1 + 1) i) (by
      rintro s st hs ⟨w, rfl, a1, a2⟩
      rw [ls_X10_ways_4]
      by_cases h : s = 4
      · right
        subst h
        exact ⟨w, by rw [if_pos (y4 (Nat.le_refl 4) (by decide))], a1, a2⟩
      · left
        have hs4 : s < 4 := by omega
        refine ⟨hs4, ?_⟩
        rw [if_neg (n4 hs4), qgd_nI hi (by decide), nI_clamp (by omega), hD i hi, if_pos (by rw [hq]), Mopen hz hm ci hs4, qob_some, qun1_eq, Mbeside R (by omega) C (by omega) i hi s hs4 ci, show (nI (m1 + 1) - 1 : Int32) = nI m1 from nI_sub (a := m1 + 1) (b := 1) (by omega)]
        have ew : wvs rt dn D (wv rt dn D m1) m1 i (s + 1) = wvs rt dn D (wv rt dn D m1) m1 i s + (if opS rt dn i s && decide (D (mvN i s) = m1) then wv rt dn D m1 (mvN i s) else 0) := rfl
        have fin : ∀ v : Int64, v = (if opS rt dn i s && decide (D (mvN i s) = m1) then wv rt dn D m1 (mvN i s) else 0) → ∃ w', some (Sum.inl ((nI s + 1), vp_updL w i (w i + v))) = some (Sum.inl (nI (s + 1), w') : (Int32 × (Nat → Int64)) ⊕ (Nat → Int64)) ∧ (∀ t, t < 36 → t ≠ i → w' t = wy t) ∧ w' i = wvs rt dn D (wv rt dn D m1) m1 i (s + 1) := by
          intro v hv
          refine ⟨vp_updL w i (w i + v), by rw [nI_1], fun t ht hne => by rw [updL_n hne]; exact a1 t ht hne, ?_⟩
          rw [updL_s, a2, ew, hv]
        have fin2 : ∀ v : Int64, v = (if opS rt dn i s && decide (D (mvN i s) = m1) then wv rt dn D m1 (mvN i s) else 0) → ∃ st', qgd (nI i) 36 (Option.bind (some v) (qun1 fun (s_2 : Int64) => qgd (nI i) 36 (qbd (vp_updL w i ((w i) + s_2)) (fun (m_ways_8 : Nat → Int64) => some (Sum.inl ((nI s + 1), m_ways_8)))))) = some (Sum.inl st' : (Int32 × (Nat → Int64)) ⊕ (Nat → Int64)) ∧ ∃ w', st' = (nI (s + 1), w') ∧ (∀ t, t < 36 → t ≠ i → w' t = wy t) ∧ w' i = wvs rt dn D (wv rt dn D m1) m1 i (s + 1) := by
          intro v hv
          obtain ⟨w', b1, b2, b3⟩ := fin v hv
          refine ⟨(nI (s + 1), w'), ?_, w', rfl, b2, b3⟩
          rw [qgd_nI hi (by decide), qob_some, qun1_eq, qgd_nI hi (by decide)]
          exact b1
        cases ho : opS rt dn i s with
        | false =>
          rw [ho] at fin2
          rw [if_pos b0f, qob_some, qun1_eq, if_pos rfl]
          exact fin2 0 rfl
        | true =>
          rw [ho] at fin2
          have hmv := op_isC hz ci hs4 ho
          rw [if_neg b0t, op_rim hz hs4 ho, if_pos rfl, qob_some, qun1_eq, if_neg (nI_m9 (by omega)), qgd_nI hmv.2 (by decide), nI_clamp (by omega), hD _ hmv.2]
          have hsm := hcell _ hmv.2
          by_cases e : D (mvN i s) = m1
          · rw [if_pos (by rw [e]), qgd_nI hmv.2 (by decide)]
            refine fin2 _ ?_
            rw [decide_eq_true e, Bool.true_and, if_pos rfl, a1 _ hmv.2 (mv_ne hs4 (op_rim hz hs4 ho)), h1 _ hmv.2 e]
          · rw [if_neg (nI_ne (by omega) (by omega) e)]
            refine fin2 0 ?_
            rw [decide_eq_false e, Bool.and_false, if_neg Bool.false_ne_true]) qFU (qFU_gt (by decide)) ((0 : Int32), wy) ⟨wy, rfl, fun _ _ _ => rfl, h0 hq⟩
    exact ⟨e, g1, g2, by rw [if_pos hq]; exact g3⟩
  · refine ⟨wy, ?_, fun _ _ _ => rfl, by rw [if_neg hq]⟩
    have hsm := hcell i hi
    refine qlp_seq (f := lb_X10_ways_4 (nI R) (nI C) mr md di (nI (m1 + 1)) (nI i)) (fun _ => ((0 : Int32), wy)) 0 wy (fun k hk => absurd hk (Nat.not_lt_zero k)) ?_ qFU (qFU_gt (by decide))
    rw [ls_X10_ways_4, if_neg (by decide), qgd_nI hi (by decide), nI_clamp (by omega), hD i hi, if_neg (nI_ne (by omega) (by omega) hq)]
set_option maxRecDepth 20000 in
theorem Mw3 {R C : Nat} {rt dn : Nat → Bool} {mr md : Nat → Int32} (hz : Mz R C rt dn) (hm : ∀ i, i < 36 → mr i = b2i (rt i) ∧ md i = b2i (dn i)) {D : Nat → Nat} {di : Nat → Int32} (hD : ∀ j, j < 36 → di j = nI (D j)) (hcell : ∀ t, t < 36 → D t = 9999 ∨ (D t < 36 ∧ isC R C t)) {m : Nat} (hm36 : m < 36) (hm0 : 0 < m) {wy : Nat → Int64} (h1 : ∀ t, t < 36 → D t < m → wy t = wv rt dn D (D t) t) (h0 : ∀ t, t < 36 → m ≤ D t → wy t = 0) :
    ∃ wy', qlp qFU (lb_X10_ways_3 (nI R) (nI C) mr md di (nI m)) ((0 : Int32), wy) = some wy' ∧ (∀ t, t < 36 → D t < m + 1 → wy' t = wv rt dn D (D t) t) ∧ (∀ t, t < 36 → m + 1 ≤ D t → wy' t = 0) := by
  obtain ⟨e, g1, g2, g3⟩ := qlp_idx (f := lb_X10_ways_3 (nI R) (nI C) mr md di (nI m))
    (fun i st => ∃ w, st = (nI i, w) ∧ (∀ t, t < 36 → (D t < m ∨ (D t = m ∧ t < i)) → w t = wv rt dn D (D t) t) ∧ (∀ t, t < 36 → (m < D t ∨ (D t = m ∧ i ≤ t)) → w t = 0)) 36 (fun e => (∀ t, t < 36 → D t < m + 1 → e t = wv rt dn D (D t) t) ∧ (∀ t, t < 36 → m + 1 ≤ D t → e t = 0)) (by
    rintro i st hi ⟨w, rfl, a1, a2⟩
    rw [ls_X10_ways_3]
    by_cases h : i = 36
    · right
      subst h
      exact ⟨w, by rw [if_pos (y36 (Nat.le_refl 36) (by decide))], fun t ht q => a1 t ht (by omega), fun t ht q => a2 t ht (by omega)⟩
    · left
      have hi36 : i < 36 := by omega
      obtain ⟨w2, b1, b2, b3⟩ := Mw4 hz hm hD hcell hm36 hm0 hi36 (wy := w) (fun t ht e => by rw [a1 t ht (by omega), e]) (fun e => a2 i hi36 (by omega))
      refine ⟨hi36, (nI (i + 1), w2), by rw [if_neg (n36 hi36), b1, qob_some, ← nI_1], w2, rfl, fun t ht q => ?_, fun t ht q => ?_⟩
      · by_cases e : t = i
        · subst e
          rw [b3]
          by_cases e2 : D t = m
          · rw [if_pos e2, e2]
          · rw [if_neg e2]
            exact a1 t ht (by omega)
        · rw [b2 t ht e]
          exact a1 t ht (by omega)
      · by_cases e : t = i
        · subst e
          rw [b3, if_neg (by omega)]
          exact a2 t ht (by omega)
        · rw [b2 t ht e]
          exact a2 t ht (by omega)) qFU (qFU_gt (by decide)) ((0 : Int32), wy) ⟨wy, rfl, fun t ht q => h1 t ht (by omega), fun t ht q => h0 t ht (by omega)⟩
  exact ⟨e, g1, g2, g3⟩
set_option maxRecDepth 20000 in
theorem Mw2 {R C : Nat} {rt dn : Nat → Bool} {mr md : Nat → Int32} (hz : Mz R C rt dn) (hm : ∀ i, i < 36 → mr i = b2i (rt i) ∧ md i = b2i (dn i)) {D : Nat → Nat} {di : Nat → Int32} (hD : ∀ j, j < 36 → di j = nI (D j)) (hcell : ∀ t, t < 36 → D t = 9999 ∨ (D t < 36 ∧ isC R C t)) {wy : Nat → Int64} (h1 : ∀ t, t < 36 → D t < 1 → wy t = wv rt dn D (D t) t) (h0 : ∀ t, t < 36 → 1 ≤ D t → wy t = 0) :
    ∃ wy', qlp qFU (lb_X10_ways_2 (nI R) (nI C) mr md di) ((1 : Int32), wy) = some wy' ∧ (∀ t, t < 36 → wy' t = wvE rt dn D t) := by
  obtain ⟨e, g1, g2⟩ := qlp_idx (f := lb_X10_ways_2 (nI R) (nI C) mr md di)
    (fun i st => ∃ w, st = (nI (i + 1), w) ∧ (∀ t, t < 36 → D t < i + 1 → w t = wv rt dn D (D t) t) ∧ (∀ t, t < 36 → i + 1 ≤ D t → w t = 0)) 35 (fun e => ∀ t, t < 36 → e t = wvE rt dn D t) (by
    rintro i st hi ⟨w, rfl, a1, a2⟩
    rw [ls_X10_ways_2]
    by_cases h : i = 35
    · right
      subst h
      refine ⟨w, by rw [if_pos (y36 (Nat.le_refl 36) (by decide))], fun t ht => ?_⟩
      unfold wvE
      rcases hcell t ht with q | q
      · rw [if_pos q]
        exact a2 t ht (by omega)
      · rw [if_neg (by omega)]
        exact a1 t ht (by omega)
    · left
      obtain ⟨w2, b1, b2, b3⟩ := Mw3 hz hm hD hcell (m := i + 1) (by omega) (by omega) a1 a2
      exact ⟨by omega, (nI (i + 1 + 1), w2), by rw [if_neg (n36 (by omega)), b1, qob_some, qun1_eq, nI_1], w2, rfl, b2, b3⟩) qFU (qFU_gt (by decide)) ((1 : Int32), wy) ⟨wy, rfl, h1, h0⟩
  exact ⟨e, g1, g2⟩
set_option maxRecDepth 20000 in
theorem Mw1 {p : Int32} {x : Nat} (hp : fX10_index p = nI x) (hx : x < 36) (wy : Nat → Int64) : ∃ wy', qlp qFU (lb_X10_ways_1 p) ((0 : Int32), wy) = some wy' ∧ ∀ j, j < 36 → wy' j = if j = x then 1 else 0 := by
  obtain ⟨e, g1, g2⟩ := qlp_idx (f := lb_X10_ways_1 p) (fun k st => ∃ d', st = (nI k, d') ∧ ∀ j, j < k → d' j = if j = x then 1 else 0) 36 (fun e => ∀ j, j < 36 → e j = if j = x then 1 else 0) (by
    rintro k st hk ⟨d', rfl, h⟩
    rw [ls_X10_ways_1]
    by_cases q : k = 36
    · right
      subst q
      exact ⟨d', by rw [if_pos (y36 (Nat.le_refl 36) (by decide))], h⟩
    · left
      have hk36 : k < 36 := by omega
      refine ⟨hk36, ?_⟩
      rw [if_neg (n36 hk36), hp, qgd_nI hk36 (by decide), qgd_nI hk36 (by decide), nI_clamp (by omega)]
      by_cases e : k = x
      · rw [if_pos (by rw [e])]
        refine ⟨_, rfl, _, by rw [nI_1], fun j hj => ?_⟩
        by_cases e2 : j = k
        · subst e2
          rw [updL_s, if_pos e]
        · rw [updL_n e2]; exact h j (by omega)
      · rw [if_neg (nI_ne (by omega) (by omega) e)]
        refine ⟨_, rfl, _, by rw [nI_1], fun j hj => ?_⟩
        by_cases e2 : j = k
        · subst e2
          rw [updL_s, if_neg e]
        · rw [updL_n e2]; exact h j (by omega)) qFU (qFU_gt (by decide)) ((0 : Int32), wy) ⟨wy, rfl, fun j hj => absurd hj (Nat.not_lt_zero j)⟩
  exact ⟨e, g1, g2⟩
set_option maxRecDepth 20000 in
theorem st_ways {sc_length : Int32} {sc_bytes : Nat → Int32} {g_rows : Int32} {g_columns : Int32} {g_a : Int32} {g_b : Int32} {g_cells : Int64} {g_right : Int64} {g_down : Int64} {m_textSize : Int32} {m_text : Nat → Int32} {m_rows : Int32} {m_columns : Int32} {m_a : Int32} {m_b : Int32} {m_right : Nat → Int32} {m_down : Nat → Int32} {m_shut : Nat → Int32} {m_keptFigures : Nat → Int32} {m_keptNumbers : Nat → Int32} {m_isKept : Nat → Int32} {ro_counts : Nat → Int64} {m_thrown : Int32} {m_dist : Nat → Int32} {m_queue : Nat → Int32} {m_ways : Nat → Int64} {sl_f : Nat → Option Nat} {k0 k1 : Option (Nat × KG)} {p1 : Int32} {p2 : Int32} (h : Rel sc_length sc_bytes (g_rows, g_columns, g_a, g_b, g_cells, g_right, g_down) sl_f k0 k1 m_textSize m_text m_rows m_columns m_a m_b m_right m_down m_shut m_keptFigures m_keptNumbers m_isKept) : ∃ (r : Int64) (ro_counts' : Nat → Int64) (m_thrown' : Int32) (m_dist' : Nat → Int32) (m_queue' : Nat → Int32) (m_ways' : Nat → Int64), fX9_ways g_rows g_columns g_cells g_right g_down ro_counts p1 p2 = some (r, ro_counts') ∧ fX10_ways m_thrown m_rows m_columns m_right m_down m_dist m_queue m_ways m_shut p1 p2 = some (r, m_thrown', m_dist', m_queue', m_ways') ∧ Rel sc_length sc_bytes (g_rows, g_columns, g_a, g_b, g_cells, g_right, g_down) sl_f k0 k1 m_textSize m_text m_rows m_columns m_a m_b m_right m_down m_shut m_keptFigures m_keptNumbers m_isKept := by
  obtain ⟨R, C, rt, dn, a, b, n, tx, z0, z1, hz, ha, hb, rfl, rfl, rfl, rfl, rfl, hr, hd, rfl, rfl, rfl, rfl, hm, ht, hsh, h0, h1, e0, e1⟩ := id h.un
  rw [le_X10_ways]
  unfold fX9_ways
  rcases cell_two hz p1 with ⟨q1, q2⟩ | ⟨i, hi, ci, q1, q3, n1, n2⟩
  · rw [if_pos q1, if_pos q2]
    exact ⟨_, _, _, _, _, _, rfl, rfl, h⟩
  · rw [if_neg n1, if_neg n2]
    rcases cell_two hz p2 with ⟨u1, u2⟩ | ⟨j, hj, cj, u1, u3, v1, v2⟩
    · rw [if_pos u1, if_pos u2]
      exact ⟨_, _, _, _, _, _, rfl, rfl, h⟩
    · obtain ⟨d1, k1, D, m1, m2, m3⟩ := Mlay (sh := fun _ => false) (ms := m_shut) hz hm (fun i hi => by rw [hsh i hi]; rfl) ci m_dist m_queue
      obtain ⟨w1, m4, m5⟩ := Mw1 q3 hi m_ways
      have h00 : ∀ t, t < 36 → (D t = 0 ↔ t = i) := fun t ht => ⟨fun q => by
        by_cases e : t = i
        · exact e
        · obtain ⟨u, s, -, -, -, g, -⟩ := m3.2.2.2 t ht (by omega) e
          omega, fun q => by rw [q]; exact m3.1⟩
      obtain ⟨w2, m6, m7⟩ := Mw2 hz hm m2 m3.2.1 (wy := w1) (fun t ht q => by
        have e := (h00 t ht).mp (by omega)
        rw [m5 t ht, if_pos e, e, m3.1]
        rfl) (fun t ht q => by
        rw [m5 t ht, if_neg (fun e => by have := (h00 t ht).mpr e; omega)])
      obtain ⟨ct, c1⟩ := Cways hz hr hd ci cj m3 ro_counts
      refine ⟨wvE rt dn D j, ct, 0, d1, k1, w2, ?_, ?_, h⟩
      · rw [if_neg v1, q1, u1, c1, qob_some]
      · rw [if_neg v2, u3, q3, m1, qob_some, qun2_eq, m4, qob_some, qun1_eq, m6, qob_some, qun1_eq, qgd_nI hj (by decide), nI_clamp (by omega), m7 j hj]

/-! breaks: the class -/
theorem ls_first {f : Nat → Bool} {n : Nat} (h : f n = true) : ∃ k, k ≤ n ∧ f k = true ∧ ∀ i, i < k → f i = false := by
  induction n with
  | zero => exact ⟨0, Nat.le_refl 0, h, fun i hi => absurd hi (Nat.not_lt_zero i)⟩
  | succ n ih =>
    by_cases q : ∃ i, i ≤ n ∧ f i = true
    · obtain ⟨m, hm, hf⟩ := q
      have key : ∀ m, f m = true → m ≤ n → ∃ k, k ≤ m ∧ f k = true ∧ ∀ i, i < k → f i = false := by
        intro m
        induction m using Nat.strongRecOn with
        | _ m ihm =>
          intro hf hm
          by_cases w : ∃ i, i < m ∧ f i = true
          · obtain ⟨i, hi, hfi⟩ := w
            obtain ⟨k, a1, a2, a3⟩ := ihm i hi hfi (by omega)
            exact ⟨k, by omega, a2, a3⟩
          · refine ⟨m, Nat.le_refl m, hf, fun i hi => ?_⟩
            cases a : f i with
            | false => rfl
            | true => exact absurd ⟨i, hi, a⟩ w
      obtain ⟨k, a1, a2, a3⟩ := key m hf hm
      exact ⟨k, by omega, a2, a3⟩
    · refine ⟨n + 1, Nat.le_refl _, h, fun i hi => ?_⟩
      cases a : f i with
      | false => rfl
      | true => exact absurd ⟨i, by omega, a⟩ q
set_option maxRecDepth 20000 in
theorem Cbroke {R C : Nat} {rt dn : Nat → Bool} {r d : Int64} (hz : Mz R C rt dn) (hr : bs r rt) (hd : bs d dn) {x y : Nat} (hx : isC R C x) (hy : isC R C y) {k0 : Nat} (hk0 : k0 < 36) (h1 : brL R C rt dn x k0 y = true) (h2 : ∀ k, k < k0 → brL R C rt dn x k y = false) :
    fX0_fewestBroken (cwv R C) r d (nI (pl x)) (nI (pl y)) = some (nI k0) := by
  have hy36 := isC_lt hz hy
  obtain ⟨x0, f1, f2⟩ := Cflood hz hr hd (bs_bit (isC_lt hz hx)) (cwv_ok hz.1.2 hz.2.1.2)
  have f2 : bs x0 (brL R C rt dn x 0) := bs_congr f2 (fun i _ => (brL_0 R C rt dn x i).symm)
  obtain ⟨e, g1, rfl⟩ := qlp_idx (f := lb_X0_fewestBroken_1 (cwv R C) r d (nI (pl y)))
    (fun k s => k ≤ k0 ∧ ∃ u, s = (u, nI k) ∧ bs u (brL R C rt dn x k)) 36 (fun e => e = nI k0) (by
    rintro k s hk ⟨hkk, u, rfl, hu⟩
    rw [ls_X0_fewestBroken_1, if_neg (n36 (by omega)), bs_has hu hy36]
    by_cases e : k = k0
    · right
      subst e
      exact ⟨_, by rw [h1, if_neg b0t], rfl⟩
    · left
      obtain ⟨w, w1, w2⟩ := Cflood hz hr hd (bs_nearH hz hu (fun i _ q => brL_cell k i q)) (cwv_ok hz.1.2 hz.2.1.2)
      refine ⟨by omega, (w, nI (k + 1)), ?_, by omega, w, rfl, bs_congr w2 (fun i _ => (brL_s R C rt dn x k i).symm)⟩
      rw [h2 k (by omega), if_pos b0f, w1, qob_some, ← nI_1]) qFU (qFU_gt (by decide)) (x0, (0 : Int32)) ⟨Nat.zero_le _, x0, rfl, f2⟩
  rw [le_X0_fewestBroken]
  unfold fX1_partOf
  rw [f1, qob_some, qun1_eq, qob_some, qun1_eq, g1, qob_some]
/-! breaks: the reference -/
def sndB (R C : Nat) (rt dn : Nat → Bool) (x : Nat) (D : Nat → Nat) : Prop := ∀ j, j < 36 → D j ≤ 9999 ∧ (D j < 9999 → brL R C rt dn x (D j) j = true)
def wtB (rt dn : Nat → Bool) (i s : Nat) : Nat := if opS rt dn i s then 0 else 1
theorem mv_ne {R C i s : Nat} (hs : s < 4) (h : rimB R C i s = true) : mvN i s ≠ i := by
  unfold rimB at h
  unfold mvN
  rcases (show s = 0 ∨ s = 1 ∨ s = 2 ∨ s = 3 by omega) with rfl | rfl | rfl | rfl
  · simp at h ⊢; omega
  · simp
  · simp
  · simp at h ⊢; omega
set_option maxRecDepth 20000 in
set_option maxHeartbeats 1000000 in
theorem Mrel {R C : Nat} {rt dn : Nat → Bool} {mr md : Nat → Int32} (hz : Mz R C rt dn) (hm : ∀ i, i < 36 → mr i = b2i (rt i) ∧ md i = b2i (dn i)) {x i : Nat} (hi : i < 36) {D : Nat → Nat} {di : Nat → Int32} (hD : ∀ j, j < 36 → di j = nI (D j)) (hs : sndB R C rt dn x D) :
    ∃ di' D', qlp qFU (lb_X10_breaks_4 (nI R) (nI C) mr md (nI i)) ((0 : Int32), di) = some di' ∧ (∀ j, j < 36 → di' j = nI (D' j)) ∧ sndB R C rt dn x D' ∧ (∀ j, j < 36 → D' j ≤ D j) ∧ (isC R C i → D i < 9999 → ∀ s, s < 4 → rimB R C i s = true → D' (mvN i s) ≤ D i + wtB rt dn i s) := by
  have hRC := hz.1
  have hCC := hz.2.1
  obtain ⟨e, g1, D', g2, g3, g4, g5⟩ := qlp_idx (f := lb_X10_breaks_4 (nI R) (nI C) mr md (nI i))
    (fun k st => ∃ d' D', st = (nI k, d') ∧ (∀ j, j < 36 → d' j = nI (D' j)) ∧ sndB R C rt dn x D' ∧ (∀ j, j < 36 → D' j ≤ D j) ∧ D' i = D i ∧ (isC R C i → D i < 9999 → ∀ s, s < k → rimB R C i s = true → D' (mvN i s) ≤ D i + wtB rt dn i s)) 4
    (fun e => ∃ D', (∀ j, j < 36 → e j = nI (D' j)) ∧ sndB R C rt dn x D' ∧ (∀ j, j < 36 → D' j ≤ D j) ∧ (isC R C i → D i < 9999 → ∀ s, s < 4 → rimB R C i s = true → D' (mvN i s) ≤ D i + wtB rt dn i s)) (by
    rintro k st hk ⟨d', D', rfl, a1, a2, a3, a4, a5⟩
    rw [ls_X10_breaks_4]
    by_cases h : k = 4
    · right
      subst h
      exact ⟨d', by rw [if_pos (y4 (Nat.le_refl 4) (by decide))], D', a1, a2, a3, a5⟩
    · have hk4 : k < 4 := by omega
      rw [if_neg (n4 hk4), isThere_ok R (by omega) C (by omega) i hi]
      cases hc : cellS R C i with
      | false =>
        right
        exact ⟨d', by rw [if_pos b0f], D', a1, a2, a3, fun q => by rw [cellS_iff.mpr q] at hc; cases hc⟩
      | true =>
        have ci := cellS_iff.mp hc
        rw [if_neg b0t, qgd_nI hi (by decide), nI_clamp (by omega), a1 i hi]
        have hle := (a2 i hi).1
        by_cases h9 : D' i = 9999
        · right
          exact ⟨d', by rw [if_pos (show (9999 : Int32) ≤ nI (D' i) by rw [h9]; decide)], D', a1, a2, a3, fun _ q => by omega⟩
        · left
          refine ⟨hk4, ?_⟩
          have hbr := (a2 i hi).2 (by omega)
          rw [if_neg (show ¬ (9999 : Int32) ≤ nI (D' i) from nI_ge (b := 9999) (by omega) (by decide)), qgd_nI hi (by decide), Mopen hz hm ci hk4, qob_some, qun1_eq, Mbeside R (by omega) C (by omega) i hi k hk4 ci]
          have ew : (if b2i (opS rt dn i k) = 0 then some (1 : Int32) else some 0) = some (nI (wtB rt dn i k)) := by
            unfold wtB
            cases opS rt dn i k <;> rfl
          rw [ew, qob_some, qun1_eq]
          have hw : wtB rt dn i k ≤ 1 := by unfold wtB; split <;> omega
          cases hrim : rimB R C i k with
          | false =>
            rw [if_neg Bool.false_ne_true, if_pos rfl]
            refine ⟨_, rfl, d', D', by rw [nI_1], a1, a2, a3, a4, fun q1 q2 s hs q3 => ?_⟩
            by_cases e : s = k
            · subst e; rw [hrim] at q3; cases q3
            · exact a5 q1 q2 s (by omega) q3
          | true =>
            have hmv := rim_lt hRC.2 hCC.2 hk4 ci hrim
            have hne := mv_ne hk4 hrim
            have hlt := (a2 _ hmv.1).1
            rw [if_pos rfl, if_neg (nI_m9 (by omega)), qgd_nI hmv.1 (by decide), nI_clamp (by omega), a1 _ hmv.1, nI_add]
            by_cases l : D' (mvN i k) ≤ D' i + wtB rt dn i k
            · rw [if_pos (nI_le l (by omega))]
              refine ⟨_, rfl, d', D', by rw [nI_1], a1, a2, a3, a4, fun q1 q2 s hs q3 => ?_⟩
              by_cases e : s = k
              · subst e; omega
              · exact a5 q1 q2 s (by omega) q3
            · rw [if_neg (nI_ge (by omega) (by omega)), qgd_nI hmv.1 (by decide)]
              simp only [qbd]
              refine ⟨_, rfl, upd d' (mvN i k) (nI (D' i + wtB rt dn i k)), upN D' (mvN i k) (D' i + wtB rt dn i k), by rw [nI_1], fun j hj => upd_nI (a1 j hj), fun j hj => ?_, fun j hj => ?_, ?_, fun q1 q2 s hs q3 => ?_⟩
              · by_cases e : j = mvN i k
                · subst e
                  rw [upN_same]
                  refine ⟨by omega, fun _ => ?_⟩
                  unfold wtB
                  cases ho : opS rt dn i k with
                  | true => exact brL_op hz (D' i) i k hi hk4 ho hbr
                  | false => exact brL_hedge hz (D' i) i k hk4 hrim hbr
                · rw [upN_ne e]
                  exact a2 j hj
              · by_cases e : j = mvN i k
                · subst e
                  rw [upN_same]
                  have := a3 _ hj
                  omega
                · rw [upN_ne e]
                  exact a3 j hj
              · rw [upN_ne (fun q => hne q.symm)]
                exact a4
              · by_cases e : mvN i s = mvN i k
                · rw [e, upN_same]
                  have : s = k := by
                    unfold mvN at e
                    unfold rimB at hrim q3
                    rcases (show s = 0 ∨ s = 1 ∨ s = 2 ∨ s = 3 by omega) with rfl | rfl | rfl | rfl
                    all_goals rcases (show k = 0 ∨ k = 1 ∨ k = 2 ∨ k = 3 by omega) with rfl | rfl | rfl | rfl
                    all_goals first | rfl | (simp at e hrim q3; omega) | (simp at e hrim q3)
                  subst this
                  omega
                · rw [upN_ne e]
                  by_cases e2 : s = k
                  · subst e2; exact absurd rfl e
                  · exact a5 q1 q2 s (by omega) q3) qFU (qFU_gt (by decide)) ((0 : Int32), di) ⟨di, D, rfl, hD, hs, fun j _ => Nat.le_refl _, rfl, fun _ _ s hs => absurd hs (Nat.not_lt_zero s)⟩
  exact ⟨e, D', g1, g2, g3, g4, g5⟩
set_option maxRecDepth 20000 in
theorem Mround {R C : Nat} {rt dn : Nat → Bool} {mr md : Nat → Int32} (hz : Mz R C rt dn) (hm : ∀ i, i < 36 → mr i = b2i (rt i) ∧ md i = b2i (dn i)) {x : Nat} {D : Nat → Nat} {di : Nat → Int32} (hD : ∀ j, j < 36 → di j = nI (D j)) (hs : sndB R C rt dn x D) :
    ∃ di' D', qlp qFU (lb_X10_breaks_3 (nI R) (nI C) mr md) ((0 : Int32), di) = some di' ∧ (∀ j, j < 36 → di' j = nI (D' j)) ∧ sndB R C rt dn x D' ∧ (∀ j, j < 36 → D' j ≤ D j) ∧ (∀ i, isC R C i → D i < 9999 → ∀ s, s < 4 → rimB R C i s = true → D' (mvN i s) ≤ D i + wtB rt dn i s) := by
  have hRC := hz.1
  have hCC := hz.2.1
  obtain ⟨e, g1, D', g2, g3, g4, g5⟩ := qlp_idx (f := lb_X10_breaks_3 (nI R) (nI C) mr md)
    (fun k st => ∃ d' D', st = (nI k, d') ∧ (∀ j, j < 36 → d' j = nI (D' j)) ∧ sndB R C rt dn x D' ∧ (∀ j, j < 36 → D' j ≤ D j) ∧ (∀ i, i < k → isC R C i → D i < 9999 → ∀ s, s < 4 → rimB R C i s = true → D' (mvN i s) ≤ D i + wtB rt dn i s)) 36
    (fun e => ∃ D', (∀ j, j < 36 → e j = nI (D' j)) ∧ sndB R C rt dn x D' ∧ (∀ j, j < 36 → D' j ≤ D j) ∧ (∀ i, isC R C i → D i < 9999 → ∀ s, s < 4 → rimB R C i s = true → D' (mvN i s) ≤ D i + wtB rt dn i s)) (by
    rintro k st hk ⟨d', D', rfl, a1, a2, a3, a4⟩
    rw [ls_X10_breaks_3]
    by_cases h : k = 36
    · right
      subst h
      exact ⟨d', by rw [if_pos (y36 (Nat.le_refl 36) (by decide))], D', a1, a2, a3, fun i ci => a4 i (isC_lt hz ci) ci⟩
    · left
      have hk36 : k < 36 := by omega
      obtain ⟨d2, D2, b1, b2, b3, b4, b5⟩ := Mrel hz hm (x := x) hk36 a1 a2
      refine ⟨hk36, (nI (k + 1), d2), by rw [if_neg (n36 hk36), b1, qob_some, ← nI_1], d2, D2, rfl, b2, b3, fun j hj => Nat.le_trans (b4 j hj) (a3 j hj), fun i hi ci h9 s hs hrim => ?_⟩
      have hmv := rim_lt hRC.2 hCC.2 hs ci hrim
      by_cases e : i = k
      · subst e
        have := a3 i hk36
        have := b5 ci (by omega) s hs hrim
        omega
      · have := a4 i (by omega) ci h9 s hs hrim
        have := b4 _ hmv.1
        omega) qFU (qFU_gt (by decide)) ((0 : Int32), di) ⟨di, D, rfl, hD, hs, fun j _ => Nat.le_refl _, fun i hi => absurd hi (Nat.not_lt_zero i)⟩
  exact ⟨e, D', g1, g2, g3, g4, g5⟩
set_option maxRecDepth 20000 in
theorem Mbreaks {R C : Nat} {rt dn : Nat → Bool} {mr md : Nat → Int32} (hz : Mz R C rt dn) (hm : ∀ i, i < 36 → mr i = b2i (rt i) ∧ md i = b2i (dn i)) {x : Nat} (hx : isC R C x) {D : Nat → Nat} {di : Nat → Int32} (hD : ∀ j, j < 36 → di j = nI (D j)) (hs : sndB R C rt dn x D) (h0 : D x = 0) :
    ∃ di' D', qlp qFU (lb_X10_breaks_2 (nI R) (nI C) mr md) ((0 : Int32), di) = some di' ∧ (∀ j, j < 36 → di' j = nI (D' j)) ∧ sndB R C rt dn x D' ∧ (∀ k j, k < 100 → j < 36 → brL R C rt dn x k j = true → D' j ≤ k) := by
  have hRC := hz.1
  have hCC := hz.2.1
  have hzF := MzF hz
  obtain ⟨e, g1, D', g2, g3, g4⟩ := qlp_idx (f := lb_X10_breaks_2 (nI R) (nI C) mr md)
    (fun t st => ∃ d' D', st = (nI t, d') ∧ (∀ j, j < 36 → d' j = nI (D' j)) ∧ sndB R C rt dn x D' ∧ ∀ k j, k < 100 → j < 36 → brW R C rt dn x t k j = true → D' j ≤ k) 36
    (fun e => ∃ D', (∀ j, j < 36 → e j = nI (D' j)) ∧ sndB R C rt dn x D' ∧ ∀ k j, k < 100 → j < 36 → brL R C rt dn x k j = true → D' j ≤ k) (by
    rintro t st ht ⟨d', D', rfl, a1, a2, a3⟩
    rw [ls_X10_breaks_2]
    by_cases h : t = 36
    · right
      subst h
      exact ⟨d', by rw [if_pos (y36 (Nat.le_refl 36) (by decide))], D', a1, a2, fun k j hk hj q => a3 k j hk hj (brL_36 hz hx k hj q)⟩
    · left
      have ht36 : t < 36 := by omega
      obtain ⟨d2, D2, b1, b2, b3, b4, b5⟩ := Mround hz hm (x := x) a1 a2
      refine ⟨ht36, (nI (t + 1), d2), by rw [if_neg (n36 ht36), b1, qob_some, ← nI_1], d2, D2, rfl, b2, b3, fun k j hk hj q => ?_⟩
      have q : (nearS rt dn (brW R C rt dn x t k) j || (decide (0 < k) && nearS (rtF R C) (dnF R C) (brW R C rt dn x t (k - 1)) j)) = true := q
      rw [Bool.or_eq_true, Bool.and_eq_true, decide_eq_true_eq, near_iff hz, near_iff hzF] at q
      rcases q with (q | ⟨s, hs, ho, q⟩) | ⟨k1, (q | ⟨s, hs, ho, q⟩)⟩
      · have := a3 k j hk hj q
        have := b4 j hj
        omega
      · have hmj := op_lt hz hj hs ho
        have h1 := a3 k _ hk hmj q
        obtain ⟨c1, c2, c3⟩ := op_sym hz hs ho
        have cm := brL_cell _ _ ((a2 _ hmj).2 (by omega))
        have h2 := b5 _ cm (by omega) (oppN s) c1 (op_rim hz c1 c2)
        rw [c3] at h2
        unfold wtB at h2
        rw [c2, if_pos rfl] at h2
        omega
      · have := a3 (k - 1) j (by omega) hj q
        have := b4 j hj
        omega
      · have hmj := op_lt hzF hj hs ho
        have h1 := a3 (k - 1) _ (by omega) hmj q
        obtain ⟨c1, c2, c3⟩ := op_sym hzF hs ho
        have cm := brL_cell _ _ ((a2 _ hmj).2 (by omega))
        have h2 := b5 _ cm (by omega) (oppN s) c1 (op_rim hzF c1 c2)
        rw [c3] at h2
        have hw : wtB rt dn (mvN j s) (oppN s) ≤ 1 := by unfold wtB; split <;> omega
        omega) qFU (qFU_gt (by decide)) ((0 : Int32), di) ⟨di, D, rfl, hD, hs, fun k j _ _ q => by
      have : j = x := of_decide_eq_true q
      rw [this, h0]
      exact Nat.zero_le k⟩
  exact ⟨e, D', g1, g2, g3, g4⟩
set_option maxRecDepth 20000 in
theorem Minit {p : Int32} {x : Nat} (hp : fX10_index p = nI x) (hx : x < 36) (di : Nat → Int32) : ∃ di', qlp qFU (lb_X10_breaks_1 p) ((0 : Int32), di) = some di' ∧ ∀ j, j < 36 → di' j = nI (upN (fun _ => 9999) x 0 j) := by
  obtain ⟨e, g1, g2⟩ := qlp_idx (f := lb_X10_breaks_1 p) (fun k st => ∃ d', st = (nI k, d') ∧ ∀ j, j < k → d' j = nI (upN (fun _ => 9999) x 0 j)) 36 (fun e => ∀ j, j < 36 → e j = nI (upN (fun _ => 9999) x 0 j)) (by
    rintro k st hk ⟨d', rfl, h⟩
    rw [ls_X10_breaks_1]
    by_cases q : k = 36
    · right
      subst q
      exact ⟨d', by rw [if_pos (y36 (Nat.le_refl 36) (by decide))], h⟩
    · left
      have hk36 : k < 36 := by omega
      refine ⟨hk36, ?_⟩
      rw [if_neg (n36 hk36), hp, qgd_nI hk36 (by decide), qgd_nI hk36 (by decide), nI_clamp (by omega)]
      by_cases e : k = x
      · rw [if_pos (by rw [e])]
        refine ⟨_, rfl, _, by rw [nI_1], fun j hj => ?_⟩
        unfold upd upN
        by_cases e2 : j = k
        · rw [if_pos e2, if_pos (by omega)]; rfl
        · rw [if_neg e2, if_neg (by omega), h j (by omega), upN_ne (by omega)]
      · rw [if_neg (nI_ne (by omega) (by omega) e)]
        refine ⟨_, rfl, _, by rw [nI_1], fun j hj => ?_⟩
        unfold upd
        by_cases e2 : j = k
        · rw [if_pos e2, upN_ne (by omega)]; rfl
        · rw [if_neg e2]; exact h j (by omega)) qFU (qFU_gt (by decide)) ((0 : Int32), di) ⟨di, rfl, fun j hj => absurd hj (Nat.not_lt_zero j)⟩
  exact ⟨e, g1, g2⟩
set_option maxRecDepth 20000 in
theorem st_breaks {sc_length : Int32} {sc_bytes : Nat → Int32} {g_rows : Int32} {g_columns : Int32} {g_a : Int32} {g_b : Int32} {g_cells : Int64} {g_right : Int64} {g_down : Int64} {m_textSize : Int32} {m_text : Nat → Int32} {m_rows : Int32} {m_columns : Int32} {m_a : Int32} {m_b : Int32} {m_right : Nat → Int32} {m_down : Nat → Int32} {m_shut : Nat → Int32} {m_keptFigures : Nat → Int32} {m_keptNumbers : Nat → Int32} {m_isKept : Nat → Int32} {m_thrown : Int32} {m_dist : Nat → Int32} {sl_f : Nat → Option Nat} {k0 k1 : Option (Nat × KG)} {p1 : Int32} {p2 : Int32} (h : Rel sc_length sc_bytes (g_rows, g_columns, g_a, g_b, g_cells, g_right, g_down) sl_f k0 k1 m_textSize m_text m_rows m_columns m_a m_b m_right m_down m_shut m_keptFigures m_keptNumbers m_isKept) : ∃ (r : Int32) (m_thrown' : Int32) (m_dist' : Nat → Int32), fX9_breaks g_rows g_columns g_cells g_right g_down p1 p2 = some r ∧ fX10_breaks m_thrown m_rows m_columns m_right m_down m_dist p1 p2 = some (r, m_thrown', m_dist') ∧ Rel sc_length sc_bytes (g_rows, g_columns, g_a, g_b, g_cells, g_right, g_down) sl_f k0 k1 m_textSize m_text m_rows m_columns m_a m_b m_right m_down m_shut m_keptFigures m_keptNumbers m_isKept := by
  obtain ⟨R, C, rt, dn, a, b, n, tx, z0, z1, hz, ha, hb, rfl, rfl, rfl, rfl, rfl, hr, hd, rfl, rfl, rfl, rfl, hm, ht, hsh, h0, h1, e0, e1⟩ := id h.un
  rw [le_X10_breaks]
  unfold fX9_breaks
  rcases cell_two hz p1 with ⟨q1, q2⟩ | ⟨i, hi, ci, q1, q3, n1, n2⟩
  · rw [if_pos q1, if_pos q2]
    exact ⟨_, _, _, rfl, rfl, h⟩
  · rw [if_neg n1, if_neg n2]
    rcases cell_two hz p2 with ⟨u1, u2⟩ | ⟨j, hj, cj, u1, u3, v1, v2⟩
    · rw [if_pos u1, if_pos u2]
      exact ⟨_, _, _, rfl, rfl, h⟩
    · rw [if_neg v1, if_neg v2, q1, u1, u3]
      obtain ⟨d1, m1, m2⟩ := Minit q3 hi m_dist
      obtain ⟨d2, D, m3, m4, m5, m6⟩ := Mbreaks hz hm (x := i) ci (D := upN (fun _ => 9999) i 0) m2 (fun k hk => by
        by_cases e : k = i
        · subst e
          rw [upN_same]
          refine ⟨by decide, fun _ => ?_⟩
          rw [brL_0]
          refine lev_mono sub_T (Nat.zero_le 36) k ?_
          show (decide (k = k) && cellS R C k) = true
          rw [cellS_iff.mpr ci]; simp
        · rw [upN_ne e]
          exact ⟨Nat.le_refl _, fun q => absurd q (by decide)⟩) (upN_same _ _ _)
      obtain ⟨k0, c1, c2, c3⟩ := ls_first (f := fun k => brL R C rt dn i k j) (brL_10 hz ci cj)
      have hle := m6 k0 j (by omega) hj c2
      have hbr := (m5 j hj).2 (by omega)
      have heq : D j = k0 := by
        by_cases l : D j < k0
        · have := c3 _ l
          rw [hbr] at this; cases this
        · omega
      refine ⟨nI k0, 0, d2, ?_, ?_, h⟩
      · rw [Cbroke hz hr hd ci cj (by omega) c2 c3, qob_some]
      · rw [m1, qob_some, qun1_eq, m3, qob_some, qun1_eq, qgd_nI hj (by decide), nI_clamp (by omega), m4 j hj, heq]

/-! the search's code -/
theorem qgd_lit0 {A : Type} {n : Nat} (h : 0 < n) (hn : n < 2 ^ 31) (t : Option A) : qgd 0 n t = t := qgd_nI (i := 0) h hn t
theorem upd_nI {m : Nat → Int32} {f : Nat → Nat} {k v j : Nat} (h : m j = nI (f j)) : upd m k (nI v) j = nI (upN f k v j) := by
  unfold upd upN
  by_cases e : j = k
  · rw [if_pos e, if_pos e]
  · rw [if_neg e, if_neg e]; exact h
theorem qob_some {A B : Type} (x : A) (f : A → Option B) : Option.bind (some x) f = f x := rfl
set_option maxRecDepth 20000 in
theorem Mlay_side {R C : Nat} {rt dn sh : Nat → Bool} {mr md ms : Nat → Int32} (hz : Mz R C rt dn) (hm : ∀ i, i < 36 → mr i = b2i (rt i) ∧ md i = b2i (dn i)) (hs : ∀ i, i < 36 → ms i = b2i (sh i)) {fr k u : Nat} {mq0 : Nat → Int32} (hu : mq0 k = nI u) (hk36 : k < 36)
    {e : Nat} {D q : Nat → Nat} {m_dist m_queue : Nat → Int32} (hD : ∀ j, j < 36 → m_dist j = nI (D j)) (hQ : ∀ a, a < e → m_queue a = nI (q a)) (hB : BI R C rt dn sh fr k e D q 0) (hk : k < e) (hqk : q k = u) :
    ∃ (z : Int32 × (Nat → Int32) × (Nat → Int32)), qlp qFU (qun4 fun (x2_3 : Int32) (x5_1 : Int32) (m_dist_5 : Nat → Int32) (m_queue_4 : Nat → Int32) => if 4 ≤ x5_1 then some (Sum.inr (x2_3, m_dist_5, m_queue_4)) else Option.bind (fX10_isOpen (nI R) (nI C) mr md (mq0 (nI k).toNatClampNeg) x5_1) (qun1 fun (r_1 : Int32) => Option.bind (if r_1 = 0 then some (-9) else some (fX10_beside (nI R) (nI C) (mq0 (nI k).toNatClampNeg) x5_1)) (qun1 fun (s_1 : Int32) => if s_1 = (-9) then some (Sum.inl (x2_3, (x5_1 + 1), m_dist_5, m_queue_4)) else qgd s_1 36 (if (m_dist_5 s_1.toNatClampNeg) = 9999 then qgd s_1 36 (if (ms s_1.toNatClampNeg) = 0 then qgd (mq0 (nI k).toNatClampNeg) 36 (qgd s_1 36 (qbd (upd m_dist_5 s_1.toNatClampNeg ((m_dist_5 ((mq0 (nI k).toNatClampNeg)).toNatClampNeg) + 1)) (fun (m_dist_6 : Nat → Int32) => qgd x2_3 36 (some (Sum.inl ((x2_3 + 1), (x5_1 + 1), m_dist_6, (upd m_queue_4 x2_3.toNatClampNeg s_1))))))) else some (Sum.inl (x2_3, (x5_1 + 1), m_dist_5, m_queue_4))) else some (Sum.inl (x2_3, (x5_1 + 1), m_dist_5, m_queue_4)))))) (nI e, (0 : Int32), m_dist, m_queue) = some z ∧
      ∃ e' D' q', z.1 = nI e' ∧ (∀ j, j < 36 → z.2.1 j = nI (D' j)) ∧ (∀ a, a < e' → z.2.2 a = nI (q' a)) ∧ BI R C rt dn sh fr k e' D' q' 4 ∧ k < e' := by
  have hkc : (nI k).toNatClampNeg = k := nI_clamp (by omega)
  refine qlp_idx (fun s st => ∃ e' D' q', st.1 = nI e' ∧ st.2.1 = nI s ∧ (∀ j, j < 36 → st.2.2.1 j = nI (D' j)) ∧ (∀ a, a < e' → st.2.2.2 a = nI (q' a)) ∧ BI R C rt dn sh fr k e' D' q' s ∧ k < e' ∧ q' k = u) 4 _ ?_ qFU (qFU_gt (by decide)) _ ⟨e, D, q, rfl, rfl, hD, hQ, hB, hk, hqk⟩
  rintro s ⟨x2, x5, md5, mq4⟩ hs4 ⟨e', D', q', rfl, rfl, hD', hQ', hB', hk', hq'⟩
  dsimp only at hD' hQ' ⊢
  by_cases h4 : 4 ≤ s
  · right
    refine ⟨(nI e', md5, mq4), ?_, e', D', q', rfl, hD', hQ', by rw [show (4 : Nat) = s by omega]; exact hB', hk'⟩
    rw [qun4_eq, if_pos (show (4 : Int32) ≤ nI s from nI_le (a := 4) h4 (by omega))]
  · left
    refine ⟨by omega, ?_⟩
    have hsl : s < 4 := by omega
    have hu36 : isC R C u := hq' ▸ (hB'.2.2.2.1 k hk').1
    have hul : u < 36 := isC_lt hz hu36
    rw [qun4_eq, if_neg (show ¬ (4 : Int32) ≤ nI s from nI_ge (b := 4) hsl (by decide)), hkc, hu, Mopen hz hm hu36 hsl, qob_some, qun1_eq]
    have es : nI s + 1 = nI (s + 1) := nI_1 s
    cases ho : opS rt dn u s with
    | false =>
      refine ⟨(nI e', nI (s + 1), md5, mq4), ?_, e', D', q', rfl, rfl, hD', hQ', BI_skip hz hB' hk' hsl (fun h => by rw [hq', ho] at h; cases h), hk', hq'⟩
      rw [← es]
      rfl
    | true =>
      have ht := op_isC hz hu36 hsl ho
      have hb := Mbeside R (by have := hz.1; omega) C (by have := hz.2.1; omega) u hul s hsl hu36
      rw [op_rim hz hsl ho, if_pos rfl] at hb
      have h1 : (if b2i true = 0 then some (-9) else some (fX10_beside (nI R) (nI C) (nI u) (nI s))) = some (nI (mvN u s)) := by rw [hb]; rfl
      rw [h1, qob_some, qun1_eq]
      rw [if_neg (nI_m9 (by omega)), qgd_nI ht.2 (by decide), nI_clamp (by omega), hD' _ ht.2, hs _ ht.2]
      by_cases hd : D' (mvN u s) = 9999
      · rw [if_pos (by rw [hd]; rfl), qgd_nI ht.2 (by decide)]
        cases hsh : sh (mvN u s) with
        | true =>
          refine ⟨(nI e', nI (s + 1), md5, mq4), ?_, e', D', q', rfl, rfl, hD', hQ', BI_skip hz hB' hk' hsl (fun _ h => by rw [hq', hsh] at h; cases h), hk', hq'⟩
          rw [if_neg (by decide), ← es]
        | false =>
          obtain ⟨he36, hB2⟩ := BI_add hz hB' hk' hsl (by rw [hq']; exact ho) (by rw [hq']; exact hsh) (by rw [hq']; exact hd)
          rw [hq'] at hB2
          refine ⟨(nI (e' + 1), nI (s + 1), upd md5 (mvN u s) (nI (D' u + 1)), upd mq4 e' (nI (mvN u s))), ?_, e' + 1, _, _, rfl, rfl, ?_, ?_, hB2, by omega, ?_⟩
          · rw [if_pos (show b2i false = 0 from rfl), qgd_nI hul (by decide), qgd_nI ht.2 (by decide)]
            simp only [qbd]
            rw [qgd_nI he36 (by decide), nI_clamp (by omega), nI_clamp (by omega), hD' u hul, nI_1 e', nI_1 (D' u), nI_1 s]
          · exact fun j hj => upd_nI (hD' j hj)
          · intro a ha
            by_cases e1 : a = e'
            · subst e1
              show upd mq4 a (nI (mvN u s)) a = nI (upN q' a (mvN u s) a)
              rw [pk_us, upN_same]
            · exact upd_nI (hQ' a (by omega))
          · rw [upN_ne (by omega)]; exact hq'
      · have hsm := BI_small hB' ht.2 hd
        rw [if_neg (show ¬ nI (D' (mvN u s)) = (9999 : Int32) from nI_ne (by omega) (by decide) hd)]
        refine ⟨(nI e', nI (s + 1), md5, mq4), ?_, e', D', q', rfl, rfl, hD', hQ', BI_skip hz hB' hk' hsl (fun _ _ => by rw [hq']; exact hd), hk', hq'⟩
        rw [← es]
set_option maxRecDepth 20000 in
theorem Mlay {R C : Nat} {rt dn sh : Nat → Bool} {mr md ms : Nat → Int32} (hz : Mz R C rt dn) (hm : ∀ i, i < 36 → mr i = b2i (rt i) ∧ md i = b2i (dn i)) (hs : ∀ i, i < 36 → ms i = b2i (sh i)) {fr : Nat} (hf : isC R C fr) (m_dist m_queue : Nat → Int32) :
    ∃ m_dist' m_queue' D, fX10_layFar (nI R) (nI C) mr md m_dist m_queue ms (nI fr) = some (m_dist', m_queue') ∧ (∀ j, j < 36 → m_dist' j = nI (D j)) ∧ LF R C rt dn sh fr D := by
  have hfl : fr < 36 := isC_lt hz hf
  unfold fX10_layFar
  obtain ⟨d1, h1, h1'⟩ := qlp_idx (f := qun2 fun (x2_4 : Int32) (m_dist_7 : Nat → Int32) => if 36 ≤ x2_4 then some (Sum.inr m_dist_7) else qgd x2_4 36 (some (Sum.inl ((x2_4 + 1), (upd m_dist_7 x2_4.toNatClampNeg 9999))))) (fun i st => st.1 = nI i ∧ ∀ j, j < i → st.2 j = nI 9999) 36 (fun d => ∀ j, j < 36 → d j = nI 9999) (by
    rintro i ⟨x, d⟩ hi ⟨rfl, hd⟩
    dsimp only at hd ⊢
    by_cases h : 36 ≤ i
    · right
      exact ⟨d, by rw [qun2_eq, if_pos (show (36 : Int32) ≤ nI i from nI_le (a := 36) h (by omega))], fun j hj => hd j (by omega)⟩
    · left
      refine ⟨by omega, (nI (i + 1), upd d i 9999), ?_, rfl, fun j hj => ?_⟩
      · rw [qun2_eq, if_neg (show ¬ (36 : Int32) ≤ nI i from nI_ge (b := 36) (by omega) (by decide)), qgd_nI (by omega) (by decide), nI_clamp (by omega), nI_1]
      · show upd d i 9999 j = _
        unfold upd
        by_cases e : j = i
        · rw [if_pos e]; rfl
        · rw [if_neg e]; exact hd j (by omega)) qFU (qFU_gt (by decide)) ((0 : Int32), m_dist) ⟨rfl, fun j hj => absurd hj (Nat.not_lt_zero j)⟩
  rw [h1, qob_some]
  show ∃ m_dist' m_queue' D, qgd (nI fr) 36 _ = _ ∧ _
  rw [qgd_nI hfl (by decide), qgd_lit0 (by decide) (by decide), nI_clamp (by omega), sb_cl0]
  have hst : BI R C rt dn sh fr 0 1 (upN (fun _ => 9999) fr 0) (upN (fun _ => 0) 0 fr) 0 := BI_start hf hfl _
  obtain ⟨z, h2, D, hz1, hz2⟩ := qlp_idx (f := qun4 fun (x2_1 : Int32) (x3_1 : Int32) (m_dist_3 : Nat → Int32) (m_queue_2 : Nat → Int32) => if x2_1 ≤ x3_1 then some (Sum.inr (m_dist_3, m_queue_2)) else qgd x3_1 36 (Option.bind (qlp qFU (qun4 fun (x2_3 : Int32) (x5_1 : Int32) (m_dist_5 : Nat → Int32) (m_queue_4 : Nat → Int32) => if 4 ≤ x5_1 then some (Sum.inr (x2_3, m_dist_5, m_queue_4)) else Option.bind (fX10_isOpen (nI R) (nI C) mr md (m_queue_2 x3_1.toNatClampNeg) x5_1) (qun1 fun (r_1 : Int32) => Option.bind (if r_1 = 0 then some (-9) else some (fX10_beside (nI R) (nI C) (m_queue_2 x3_1.toNatClampNeg) x5_1)) (qun1 fun (s_1 : Int32) => if s_1 = (-9) then some (Sum.inl (x2_3, (x5_1 + 1), m_dist_5, m_queue_4)) else qgd s_1 36 (if (m_dist_5 s_1.toNatClampNeg) = 9999 then qgd s_1 36 (if (ms s_1.toNatClampNeg) = 0 then qgd (m_queue_2 x3_1.toNatClampNeg) 36 (qgd s_1 36 (qbd (upd m_dist_5 s_1.toNatClampNeg ((m_dist_5 ((m_queue_2 x3_1.toNatClampNeg)).toNatClampNeg) + 1)) (fun (m_dist_6 : Nat → Int32) => qgd x2_3 36 (some (Sum.inl ((x2_3 + 1), (x5_1 + 1), m_dist_6, (upd m_queue_4 x2_3.toNatClampNeg s_1))))))) else some (Sum.inl (x2_3, (x5_1 + 1), m_dist_5, m_queue_4))) else some (Sum.inl (x2_3, (x5_1 + 1), m_dist_5, m_queue_4)))))) ((x2_1 : Int32), (0 : Int32), (m_dist_3 : Nat → Int32), (m_queue_2 : Nat → Int32))) (qun3 fun (x2_2 : Int32) (m_dist_4 : Nat → Int32) (m_queue_3 : Nat → Int32) => some (Sum.inl (x2_2, (x3_1 + 1), m_dist_4, m_queue_3)))))
    (fun k st => ∃ e D q, st.1 = nI e ∧ st.2.1 = nI k ∧ (∀ j, j < 36 → st.2.2.1 j = nI (D j)) ∧ (∀ a, a < e → st.2.2.2 a = nI (q a)) ∧ BI R C rt dn sh fr k e D q 0 ∧ k ≤ e) 36 (fun z => ∃ D, (∀ j, j < 36 → z.1 j = nI (D j)) ∧ LF R C rt dn sh fr D) (by
    rintro k ⟨x2, x3, d3, q2⟩ hk ⟨e, D, q, rfl, rfl, hD, hQ, hB, hke⟩
    dsimp only at hD hQ ⊢
    have he36 := hB.1.1
    by_cases h : e ≤ k
    · right
      have ek : k = e := by omega
      subst ek
      exact ⟨(d3, q2), by rw [qun4_eq, if_pos (nI_le h (by omega))], D, hD, BI_end hB⟩
    · left
      have hke : k < e := by omega
      have hk36 : k < 36 := by omega
      refine ⟨hk36, ?_⟩
      rw [qun4_eq, if_neg (nI_ge hke (by omega)), qgd_nI hk36 (by decide)]
      obtain ⟨⟨x9, d9, q9⟩, g1, e', D', q', g2, g3, g4, g5, g6⟩ := Mlay_side hz hm hs (mq0 := q2) (hQ k hke) hk36 hD hQ hB hke rfl
      rw [g1, qob_some]
      exact ⟨(x9, nI k + 1, d9, q9), rfl, e', D', q', g2, nI_1 k, g3, g4, BI_next g5 g6, by omega⟩) qFU (qFU_gt (by decide)) ((1 : Int32), (0 : Int32), upd d1 fr 0, upd m_queue 0 (nI fr)) ⟨1, _, _, rfl, rfl, fun j hj => by
      show upd d1 fr 0 j = _
      unfold upd upN
      by_cases e : j = fr
      · rw [if_pos e, if_pos e]; rfl
      · rw [if_neg e, if_neg e]; exact h1' j hj, fun a ha => by
      show upd m_queue 0 (nI fr) a = _
      unfold upd upN
      rw [if_pos (by omega), if_pos (by omega)], hst, by decide⟩
  refine ⟨z.1, z.2, D, ?_, hz1, hz2⟩
  rw [h2]
  rfl

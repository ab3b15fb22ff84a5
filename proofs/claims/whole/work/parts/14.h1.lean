/-! one hedge taken away or put in, and the distance then (for shortCut and bar) -/
def dN (rt dn : Nat → Bool) (t j : Nat) : Nat := if dst rt dn t j = 99 then 9999 else dst rt dn t j
theorem LF_dN {R C : Nat} {rt dn : Nat → Bool} (hz : Mz R C rt dn) {t : Nat} {D : Nat → Nat} (h : LF R C rt dn (fun _ => false) t D) {j : Nat} (hj : j < 36) : D j = dN rt dn t j := by
  obtain ⟨h1, h2⟩ := LF_dst hz h hj
  have hs := h.2.1 j hj
  unfold dN
  by_cases q : D j = 9999
  · rw [if_pos (h1 q), q]
  · rw [h2 q, if_neg (by omega)]
theorem dN_two {R C : Nat} {rt dn : Nat → Bool} (hz : Mz R C rt dn) {t j : Nat} (ht : isC R C t) (hj : j < 36) : dN rt dn t j = 9999 ∨ dN rt dn t j < 36 := by
  obtain ⟨D, hL⟩ := LF_ex hz ht
  rw [← LF_dN hz hL hj]
  rcases hL.2.1 j hj with q | q
  · exact Or.inl q
  · exact Or.inr q.1
theorem CdistN {R C : Nat} {rt dn : Nat → Bool} {r d : Int64} (hz : Mz R C rt dn) (hr : bs r rt) (hd : bs d dn) {i t : Nat} (hi : isC R C i) (ht : t < 36) : fX1_distance r d (nI (pl i)) (nI (pl t)) = some (farV (dN rt dn i t)) := by
  obtain ⟨D, hL⟩ := LF_ex hz hi
  rw [Cdist hz hr hd (isC_lt hz hi) ht hL, LF_dN hz hL ht]
theorem MfarN {R C : Nat} {rt dn : Nat → Bool} {mr md ms : Nat → Int32} (hz : Mz R C rt dn) (hm : ∀ i, i < 36 → mr i = b2i (rt i) ∧ md i = b2i (dn i)) (hsh : ∀ i, i < 36 → ms i = 0) {fr t : Nat} (hf : isC R C fr) (ht : t < 36) (m_dist m_queue : Nat → Int32) :
    ∃ m_dist' m_queue', fX10_farOf (nI R) (nI C) mr md m_dist m_queue ms (nI fr) (nI t) = some (nI (dN rt dn fr t), m_dist', m_queue') := by
  obtain ⟨d', q', D, h1, h2⟩ := Mfar (sh := fun _ => false) (ms := ms) hz hm (fun i hi => by rw [hsh i hi]; rfl) hf ht m_dist m_queue
  exact ⟨d', q', by rw [h1, LF_dN hz h2 ht]⟩
theorem upB_back' {f : Nat → Bool} {k : Nat} {v : Bool} (h : f k = v) (w : Bool) : upB (upB f k w) k v = f := by
  funext j
  unfold upB
  by_cases e : j = k
  · rw [if_pos e, e, h]
  · rw [if_neg e, if_neg e]
theorem set_back' {R C : Nat} {rt dn : Nat → Bool} {i s : Nat} (hs : s < 4) (hrim : rimB R C i s = true) {v : Bool} (h : opS rt dn i s = v) (w : Bool) : sr (sr rt i s w) i s v = rt ∧ sd (sd dn i s w) i s v = dn := by
  unfold opS at h
  unfold rimB at hrim
  rcases (show s = 0 ∨ s = 1 ∨ s = 2 ∨ s = 3 by omega) with rfl | rfl | rfl | rfl
  · have h : (decide (6 ≤ i) && dn (i - 6)) = v := h
    have hrim : decide (6 ≤ i) = true := hrim
    rw [hrim, Bool.true_and] at h
    exact ⟨rfl, upB_back' h w⟩
  · exact ⟨upB_back' h w, rfl⟩
  · exact ⟨rfl, upB_back' h w⟩
  · have h : (decide (0 < i % 6) && rt (i - 1)) = v := h
    have hrim : decide (0 < i % 6) = true := hrim
    rw [hrim, Bool.true_and] at h
    exact ⟨upB_back' h w, rfl⟩
set_option maxRecDepth 20000 in
theorem Ctry {R C : Nat} {rt dn : Nat → Bool} {r d : Int64} (hz : Mz R C rt dn) (hr : bs r rt) (hd : bs d dn) {i s : Nat} (hi : isC R C i) (hs : s < 4) (hrim : rimB R C i s = true) (v : Bool) (ho : opS rt dn i s = !v) {a b : Nat} (ha : isC R C a) (hb : b < 36) :
    ∃ r' d', fX0_distanceWith (nI (pl a)) (nI (pl b)) (cwv R C) r d (nI (pl i)) (nI s) (b2i v) = some (farV (dN (sr rt i s v) (sd dn i s v) a b), r', d') ∧ bs r' rt ∧ bs d' dn := by
  have hz1 := set_Mz hz hi hs hrim v
  obtain ⟨r1, d1, c1, c2, c3⟩ := Cset hz hr hd hi hs hrim v
  obtain ⟨r2, d2, c4, c5, c6⟩ := Cset hz1 c2 c3 hi hs hrim (!v)
  obtain ⟨b1, b2⟩ := set_back' hs hrim ho v
  rw [b1] at c5
  rw [b2] at c6
  refine ⟨r2, d2, ?_, c5, c6⟩
  unfold fX0_distanceWith
  have e : (if b2i v = 0 then some (1 : Int32) else some 0) = some (b2i (!v)) := by cases v <;> rfl
  simp only [qbd]
  rw [c1, qun2_eq, CdistN hz1 c2 c3 ha hb, qob_some, qun1_eq, e, qob_some, qun1_eq, c4]
set_option maxRecDepth 20000 in
theorem Mtry {R C : Nat} {rt dn : Nat → Bool} {mr md ms : Nat → Int32} (hz : Mz R C rt dn) (hm : ∀ i, i < 36 → mr i = b2i (rt i) ∧ md i = b2i (dn i)) (hsh : ∀ i, i < 36 → ms i = 0) {i s : Nat} (hi : isC R C i) (hs : s < 4) (hrim : rimB R C i s = true) (v : Bool) (ho : opS rt dn i s = !v) {a b : Nat} (ha : isC R C a) (hb : b < 36) (m_dist m_queue : Nat → Int32) :
    ∃ mr1 md1 di qu mr2 md2, fX10_set (nI R) (nI C) mr md (nI i) (nI s) (b2i v) = some (mr1, md1) ∧ fX10_farOf (nI R) (nI C) mr1 md1 m_dist m_queue ms (nI a) (nI b) = some (nI (dN (sr rt i s v) (sd dn i s v) a b), di, qu) ∧ fX10_set (nI R) (nI C) mr1 md1 (nI i) (nI s) (b2i (!v)) = some (mr2, md2) ∧ ∀ i, i < 36 → mr2 i = b2i (rt i) ∧ md2 i = b2i (dn i) := by
  have hz1 := set_Mz hz hi hs hrim v
  obtain ⟨mr1, md1, m1, m2⟩ := Mset hz hm hi hs hrim v
  obtain ⟨mr2, md2, m3, m4⟩ := Mset hz1 m2 hi hs hrim (!v)
  obtain ⟨b1, b2⟩ := set_back' hs hrim ho v
  rw [b1, b2] at m4
  obtain ⟨di, qu, f1⟩ := MfarN hz1 m2 hsh ha hb m_dist m_queue
  exact ⟨mr1, md1, di, qu, mr2, md2, m1, f1, m3, m4⟩

/-! shortCut: the best hedge to take away, as one fold -/
def sc1 (R C : Nat) (rt dn : Nat → Bool) (a b k s : Nat) (st : Nat × Int32) : Nat × Int32 :=
  if ((cellS R C k && rimB R C k s) && !opS rt dn k s) && decide (dN (sr rt k s true) (sd dn k s true) a b < st.1) then (dN (sr rt k s true) (sd dn k s true) a b, 10 * fX10_code (nI k) + nI s) else st
def sci (R C : Nat) (rt dn : Nat → Bool) (a b k : Nat) (st : Nat × Int32) : Nat → Nat × Int32
  | 0 => st
  | i + 1 => sc1 R C rt dn a b k (i + 1) (sci R C rt dn a b k st i)
def scB (R C : Nat) (rt dn : Nat → Bool) (a b : Nat) : Nat → Nat × Int32
  | 0 => (dN rt dn a b, -9)
  | k + 1 => sci R C rt dn a b k (scB R C rt dn a b k) 2
theorem sc1_two {R C : Nat} {rt dn : Nat → Bool} (hz : Mz R C rt dn) {a b k s : Nat} (ha : isC R C a) (hb : b < 36) (hs : s < 4) {st : Nat × Int32} (h : st.1 = 9999 ∨ st.1 < 36) : (sc1 R C rt dn a b k s st).1 = 9999 ∨ (sc1 R C rt dn a b k s st).1 < 36 := by
  unfold sc1
  by_cases q : (((cellS R C k && rimB R C k s) && !opS rt dn k s) && decide (dN (sr rt k s true) (sd dn k s true) a b < st.1)) = true
  · rw [if_pos q]
    simp only [Bool.and_eq_true] at q
    have w := dN_two (t := a) (j := b) (set_Mz hz (cellS_iff.mp q.1.1.1) hs q.1.1.2 true) ha hb
    dsimp only
    exact w
  · rw [if_neg q]
    exact h
set_option maxRecDepth 20000 in
set_option maxHeartbeats 1000000 in
theorem Msc1 {R C : Nat} {rt dn : Nat → Bool} {mr md ms : Nat → Int32} (hz : Mz R C rt dn) (hm : ∀ i, i < 36 → mr i = b2i (rt i) ∧ md i = b2i (dn i)) (hsh : ∀ i, i < 36 → ms i = 0) {a b k s : Nat} (ha : isC R C a) (hb : b < 36) (hk : k < 36) (hs : s < 3) {st : Nat × Int32} (hst : st.1 = 9999 ∨ st.1 < 36) (di qu : Nat → Int32) :
    ∃ mr' md' di' qu', (if (3 : Int32) ≤ nI s then some (Sum.inr (nI st.1, st.2, mr, md, di, qu)) else if (fX10_isThere (nI R) (nI C) (nI k)) = 0 then some (Sum.inl (nI st.1, st.2, (nI s + 1), mr, md, di, qu)) else if (fX10_beside (nI R) (nI C) (nI k) (nI s)) = (-9) then some (Sum.inl (nI st.1, st.2, (nI s + 1), mr, md, di, qu)) else Option.bind (fX10_isOpen (nI R) (nI C) mr md (nI k) (nI s)) (qun1 fun (r_2 : Int32) => if r_2 = 0 then Option.bind (fX10_set (nI R) (nI C) mr md (nI k) (nI s) 1) (qun2 fun (m_right_5 : Nat → Int32) (m_down_5 : Nat → Int32) => Option.bind (fX10_farOf (nI R) (nI C) m_right_5 m_down_5 di qu ms (nI a) (nI b)) (qun3 fun (r_3 : Int32) (m_dist_6 : Nat → Int32) (m_queue_6 : Nat → Int32) => Option.bind (fX10_set (nI R) (nI C) m_right_5 m_down_5 (nI k) (nI s) 0) (qun2 fun (m_right_6 : Nat → Int32) (m_down_6 : Nat → Int32) => Option.bind (if nI st.1 ≤ r_3 then some st.2 else some ((10 * (fX10_code (nI k))) + nI s)) (qun1 fun (s_1 : Int32) => if nI st.1 ≤ r_3 then some (Sum.inl (nI st.1, s_1, (nI s + 1), m_right_6, m_down_6, m_dist_6, m_queue_6)) else some (Sum.inl (r_3, s_1, (nI s + 1), m_right_6, m_down_6, m_dist_6, m_queue_6)))))) else some (Sum.inl (nI st.1, st.2, (nI s + 1), mr, md, di, qu))) : Option ((Int32 × Int32 × Int32 × (Nat → Int32) × (Nat → Int32) × (Nat → Int32) × (Nat → Int32)) ⊕ (Int32 × Int32 × (Nat → Int32) × (Nat → Int32) × (Nat → Int32) × (Nat → Int32)))) =
      some (Sum.inl (nI (sc1 R C rt dn a b k s st).1, (sc1 R C rt dn a b k s st).2, nI (s + 1), mr', md', di', qu')) ∧ ∀ i, i < 36 → mr' i = b2i (rt i) ∧ md' i = b2i (dn i) := by
  have hRC := hz.1
  have hCC := hz.2.1
  rw [if_neg (show ¬ (3 : Int32) ≤ nI s from nI_ge (b := 3) hs (by decide)), isThere_ok R (by omega) C (by omega) k hk]
  unfold sc1
  cases hc : cellS R C k with
  | false =>
    rw [if_pos (show b2i false = 0 from rfl)]
    exact ⟨mr, md, di, qu, by simp [nI_1], hm⟩
  | true =>
    have ck := cellS_iff.mp hc
    rw [if_neg (show ¬ b2i true = 0 by decide), Mbeside R (by omega) C (by omega) k hk s (by omega) ck]
    cases hrim : rimB R C k s with
    | false =>
      rw [if_neg Bool.false_ne_true, if_pos rfl]
      exact ⟨mr, md, di, qu, by simp [nI_1], hm⟩
    | true =>
      have hmv := (rim_lt hRC.2 hCC.2 (show s < 4 by omega) ck hrim).1
      rw [if_pos rfl, if_neg (nI_m9 (by omega)), Mopen hz hm ck (by omega), qob_some, qun1_eq]
      cases ho : opS rt dn k s with
      | true =>
        rw [if_neg (show ¬ b2i true = 0 by decide)]
        exact ⟨mr, md, di, qu, by simp [nI_1], hm⟩
      | false =>
        rw [if_pos (show b2i false = 0 from rfl)]
        obtain ⟨mr1, md1, d1, u1, mr2, md2, t1, t2, t3, t4⟩ := Mtry hz hm hsh ck (show s < 4 by omega) hrim true ho ha hb di qu
        have t1 : fX10_set (nI R) (nI C) mr md (nI k) (nI s) 1 = some (mr1, md1) := t1
        have t3 : fX10_set (nI R) (nI C) mr1 md1 (nI k) (nI s) 0 = some (mr2, md2) := t3
        have h2 := dN_two (set_Mz hz ck (show s < 4 by omega) hrim true) ha hb
        rw [t1, qob_some, qun2_eq, t2, qob_some, qun3_eq, t3, qob_some, qun2_eq]
        by_cases l : dN (sr rt k s true) (sd dn k s true) a b < st.1
        · have n1 : ¬ nI st.1 ≤ nI (dN (sr rt k s true) (sd dn k s true) a b) := nI_ge l (by omega)
          rw [if_neg n1, qob_some, qun1_eq, if_neg n1]
          exact ⟨mr2, md2, d1, u1, by simp [l, nI_1], t4⟩
        · have n1 : nI st.1 ≤ nI (dN (sr rt k s true) (sd dn k s true) a b) := nI_le (by omega) (by omega)
          rw [if_pos n1, qob_some, qun1_eq, if_pos n1]
          exact ⟨mr2, md2, d1, u1, by simp [l, nI_1], t4⟩

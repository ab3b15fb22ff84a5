/-! turned: what follows of the geometry -/
theorem tR_ok {R C : Nat} {rt dn : Nat → Bool} (hz : Mz R C rt dn) {t : Nat} : (1 ≤ tR R C t ∧ tR R C t ≤ 6) ∧ (1 ≤ tC R C t ∧ tC R C t ≤ 6) := by
  obtain ⟨h1, h2, -⟩ := hz
  unfold tR tC
  split
  · exact ⟨h2, h1⟩
  · exact ⟨h1, h2⟩
theorem tR_back {R C : Nat} {t : Nat} (ht : t < 8) : tR (tR R C t) (tC R C t) (tv t) = R ∧ tC (tR R C t) (tC R C t) (tv t) = C := by
  have h := (tS_facts t ht 0 (by decide)).2.2.2.2.2.2.2.2
  unfold tR tC
  rw [h]
  by_cases q : t % 2 = 1
  · rw [if_pos q, if_pos q, if_pos q, if_pos q]
    exact ⟨rfl, rfl⟩
  · rw [if_neg q, if_neg q, if_neg q, if_neg q]
    exact ⟨rfl, rfl⟩
theorem tI_c {R C : Nat} {rt dn : Nat → Bool} (hz : Mz R C rt dn) {t : Nat} (ht : t < 8) {i : Nat} (ci : isC R C i) : fX1_turnedPlace (nI R) (nI C) (nI (pl i)) (nI t) = nI (pl (tI R C t i)) := by
  have := tI_class R (by have := hz.1; omega) C (by have := hz.2.1; omega) t ht i (isC_lt hz ci)
  simp only [ci.1, ci.2, decide_true, Bool.and_self, Bool.not_true, Bool.false_or, decide_eq_true_eq] at this
  exact this
theorem tI_m {R C : Nat} {rt dn : Nat → Bool} (hz : Mz R C rt dn) {t : Nat} (ht : t < 8) {i : Nat} (ci : isC R C i) : fX10_turnedAt (nI R) (nI C) (nI i) (nI t) = some (nI (tI R C t i)) := by
  have := tI_ref R (by have := hz.1; omega) C (by have := hz.2.1; omega) t ht i (isC_lt hz ci)
  simp only [ci.1, ci.2, decide_true, Bool.and_self, Bool.not_true, Bool.false_or, decide_eq_true_eq] at this
  exact this
theorem tI_cell {R C : Nat} {rt dn : Nat → Bool} (hz : Mz R C rt dn) {t : Nat} (ht : t < 8) {i : Nat} (ci : isC R C i) : isC (tR R C t) (tC R C t) (tI R C t i) ∧ tI (tR R C t) (tC R C t) (tv t) (tI R C t i) = i := by
  have := tI_facts R (by have := hz.1; omega) C (by have := hz.2.1; omega) t ht i (isC_lt hz ci)
  simp only [ci.1, ci.2, decide_true, Bool.and_self, Bool.not_true, Bool.false_or, Bool.and_eq_true, decide_eq_true_eq] at this
  exact this
theorem tI_mv {R C : Nat} {rt dn : Nat → Bool} (hz : Mz R C rt dn) {t : Nat} (ht : t < 8) {i s : Nat} (ci : isC R C i) (hs : s < 4) : rimB (tR R C t) (tC R C t) (tI R C t i) (tS t s) = rimB R C i s ∧ (rimB R C i s = true → mvN (tI R C t i) (tS t s) = tI R C t (mvN i s)) := by
  have := tI_move R (by have := hz.1; omega) C (by have := hz.2.1; omega) t ht i (isC_lt hz ci) s hs
  simp only [ci.1, ci.2, decide_true, Bool.and_self, Bool.not_true, Bool.false_or, Bool.and_eq_true, beq_iff_eq] at this
  refine ⟨this.1, fun q => ?_⟩
  have h := this.2
  rw [q, Bool.not_true, Bool.false_or] at h
  exact of_decide_eq_true h
/-- the turned maze, told by the one it comes from -/
def rtT (R C : Nat) (rt dn : Nat → Bool) (t : Nat) : Nat → Bool := fun j => cellS (tR R C t) (tC R C t) j && opS rt dn (tI (tR R C t) (tC R C t) (tv t) j) (tS (tv t) 1)
def dnT (R C : Nat) (rt dn : Nat → Bool) (t : Nat) : Nat → Bool := fun j => cellS (tR R C t) (tC R C t) j && opS rt dn (tI (tR R C t) (tC R C t) (tv t) j) (tS (tv t) 2)
theorem MzE {R C : Nat} {rt dn : Nat → Bool} (hz : Mz R C rt dn) {t : Nat} : Mz (tR R C t) (tC R C t) (fun _ => false) (fun _ => false) := ⟨(tR_ok hz).1, (tR_ok hz).2, fun i h => absurd h Bool.false_ne_true, fun i h => absurd h Bool.false_ne_true⟩
/-- a cell of the turned maze comes from a cell -/
theorem tI_back {R C : Nat} {rt dn : Nat → Bool} (hz : Mz R C rt dn) {t : Nat} (ht : t < 8) {j : Nat} (cj : isC (tR R C t) (tC R C t) j) : isC R C (tI (tR R C t) (tC R C t) (tv t) j) ∧ tI R C t (tI (tR R C t) (tC R C t) (tv t) j) = j := by
  have hf := tS_facts t ht 0 (by decide)
  have := tI_cell (MzE (t := t) hz) (t := tv t) hf.2.2.2.2.2.2.1 cj
  rw [(tR_back (R := R) (C := C) ht).1, (tR_back (R := R) (C := C) ht).2, hf.2.2.2.2.2.2.2.1] at this
  exact this
theorem tT_of {R C : Nat} {rt dn : Nat → Bool} (hz : Mz R C rt dn) {t : Nat} (ht : t < 8) {i : Nat} (ci : isC R C i) : rtT R C rt dn t (tI R C t i) = opS rt dn i (tS (tv t) 1) ∧ dnT R C rt dn t (tI R C t i) = opS rt dn i (tS (tv t) 2) := by
  have h := tI_cell hz ht ci
  unfold rtT dnT
  rw [cellS_iff.mpr h.1, h.2, Bool.true_and, Bool.true_and]
  exact ⟨rfl, rfl⟩
theorem tT_Mz {R C : Nat} {rt dn : Nat → Bool} (hz : Mz R C rt dn) {t : Nat} (ht : t < 8) : Mz (tR R C t) (tC R C t) (rtT R C rt dn t) (dnT R C rt dn t) := by
  have hok := tR_ok (t := t) hz
  have key : ∀ j u, u < 4 → isC (tR R C t) (tC R C t) j → opS rt dn (tI (tR R C t) (tC R C t) (tv t) j) (tS (tv t) u) = true → rimB (tR R C t) (tC R C t) j u = true := by
    intro j u hu cj ho
    have hb := tI_back hz ht cj
    have hf := tS_facts t ht u hu
    have hv := tS_facts (tv t) hf.2.2.2.2.2.2.1 u hu
    have hm := tI_mv hz ht hb.1 (s := tS (tv t) u) hv.1
    rw [hb.2, hf.2.2.1] at hm
    rw [hm.1]
    exact op_rim hz hv.1 ho
  refine ⟨hok.1, hok.2, fun j h => ?_, fun j h => ?_⟩
  · unfold rtT at h
    rw [Bool.and_eq_true, cellS_iff] at h
    have := key j 1 (by decide) h.1 h.2
    exact ⟨h.1.1, by simpa [rimB] using this⟩
  · unfold dnT at h
    rw [Bool.and_eq_true, cellS_iff] at h
    have := key j 2 (by decide) h.1 h.2
    exact ⟨by simpa [rimB] using this, h.1.2⟩
/-- which right openings come of the sides 1 and 2 -/
def hitR (R C t i s j : Nat) : Prop := (tS t s = 1 ∧ j = tI R C t i) ∨ (tS t s = 3 ∧ j = tI R C t i - 1)
def hitD (R C t i s j : Nat) : Prop := (tS t s = 2 ∧ j = tI R C t i) ∨ (tS t s = 0 ∧ j = tI R C t i - 6)
theorem opp_facts : ∀ s, s < 4 → (s = 1 ∨ s = 2 ∨ oppN s = 1 ∨ oppN s = 2) ∧ oppN (oppN s) = s ∧ oppN s < 4 := by decide
theorem hit_gen {R C : Nat} {rt dn : Nat → Bool} (hz : Mz R C rt dn) {t : Nat} (ht : t < 8) {u w : Nat} (hu : u = 1 ∧ w = 3 ∨ u = 2 ∧ w = 0) {j : Nat} : (isC (tR R C t) (tC R C t) j ∧ opS rt dn (tI (tR R C t) (tC R C t) (tv t) j) (tS (tv t) u) = true) ↔ ∃ i s, i < 36 ∧ (s = 1 ∨ s = 2) ∧ opS rt dn i s = true ∧ ((tS t s = u ∧ j = tI R C t i) ∨ (tS t s = w ∧ j = mvN (tI R C t i) w)) := by
  have hu4 : u < 4 := by omega
  have huw : oppN u = w ∧ oppN w = u := by rcases hu with ⟨rfl, rfl⟩ | ⟨rfl, rfl⟩ <;> decide
  have hf := tS_facts t ht u hu4
  have hv := tS_facts (tv t) hf.2.2.2.2.2.2.1 u hu4
  constructor
  · rintro ⟨cj, ho⟩
    have hb := tI_back hz ht cj
    have h36 := isC_lt hz hb.1
    have hop := opp_facts (tS (tv t) u) hv.1
    by_cases q : tS (tv t) u = 1 ∨ tS (tv t) u = 2
    · exact ⟨_, _, h36, q, ho, Or.inl ⟨hf.2.2.1, hb.2.symm⟩⟩
    · obtain ⟨a1, a2, a3⟩ := op_sym hz hv.1 ho
      have hmv := op_isC hz hb.1 hv.1 ho
      have hrim := op_rim hz hv.1 ho
      have hm := (tI_mv hz ht hb.1 (s := tS (tv t) u) hv.1).2 hrim
      rw [hb.2, hf.2.2.1] at hm
      have hso : tS t (oppN (tS (tv t) u)) = w := by
        rw [(tS_facts t ht (tS (tv t) u) hv.1).2.2.2.1, hf.2.2.1]
        exact huw.1
      refine ⟨_, _, hmv.2, by omega, a2, Or.inr ⟨hso, ?_⟩⟩
      have hm2 := (tI_mv hz ht hmv.1 (s := oppN (tS (tv t) u)) a1).2 (op_rim hz a1 a2)
      rw [a3, hso, hb.2] at hm2
      exact hm2.symm
  · rintro ⟨i, s, hi, hs, ho, q⟩
    have hs4 : s < 4 := by omega
    have ci := op_cell hz hs ho
    have hfs := tS_facts t ht s hs4
    rcases q with ⟨q1, rfl⟩ | ⟨q1, q2⟩
    · have hc := tI_cell hz ht ci
      refine ⟨hc.1, ?_⟩
      rw [hc.2, ← q1, hfs.2.1]
      exact ho
    · have hmv := op_isC hz ci hs4 ho
      have hm := (tI_mv hz ht ci hs4).2 (op_rim hz hs4 ho)
      rw [q1, ← q2] at hm
      subst hm
      have hc := tI_cell hz ht hmv.1
      obtain ⟨a1, a2, a3⟩ := op_sym hz hs4 ho
      refine ⟨hc.1, ?_⟩
      rw [hc.2]
      have : tS (tv t) u = oppN s := by
        rw [← huw.2, (tS_facts t ht w (by omega)).2.2.2.2.1, ← q1, hfs.2.1]
      rw [this]
      exact a2

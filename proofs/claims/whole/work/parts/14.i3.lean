/-! breaks -/
def rtF (R C : Nat) : Nat → Bool := fun i => decide (i / 6 < R) && decide (i % 6 + 1 < C)
def dnF (R C : Nat) : Nat → Bool := fun i => decide (i / 6 + 1 < R) && decide (i % 6 < C)
theorem MzF {R C : Nat} {rt dn : Nat → Bool} (hz : Mz R C rt dn) : Mz R C (rtF R C) (dnF R C) := ⟨hz.1, hz.2.1, fun i h => by simpa [rtF] using h, fun i h => by simpa [dnF] using h⟩
theorem opF {R C : Nat} {i s : Nat} (hi : isC R C i) (hs : s < 4) (h : rimB R C i s = true) : opS (rtF R C) (dnF R C) i s = true := by
  obtain ⟨h1, h2⟩ := hi
  unfold rimB at h
  unfold opS rtF dnF
  rcases (show s = 0 ∨ s = 1 ∨ s = 2 ∨ s = 3 by omega) with rfl | rfl | rfl | rfl
  · simp at h ⊢; omega
  · simp at h ⊢; omega
  · simp at h ⊢; omega
  · simp at h ⊢; omega
theorem opF_cell {R C : Nat} {rt dn : Nat → Bool} (hz : Mz R C rt dn) {i s : Nat} (hs : s < 4) (h : opS (rtF R C) (dnF R C) i s = true) : isC R C i := by
  unfold opS rtF dnF at h
  unfold isC
  have := hz.2.1
  rcases (show s = 0 ∨ s = 1 ∨ s = 2 ∨ s = 3 by omega) with rfl | rfl | rfl | rfl
  · simp at h; omega
  · simp at h; omega
  · simp at h; omega
  · simp at h; omega
theorem nh_tb (g x : Int64) (p : Nat) : tb (fX1_nearThroughHedges g x) p = ((tb x p || (decide (p < 64) && decide (1 ≤ p) && tb x (p - 1)) || tb x (p + 1) || (decide (p < 64) && decide (8 ≤ p) && tb x (p - 8)) || tb x (p + 8)) && tb g p) := by
  unfold fX1_nearThroughHedges
  rw [tb_and, tb_or, tb_or, tb_or, tb_or, lit_nI 1, lit_nI 8, tb_shl _ (by decide), tb_shl _ (by decide), tb_ushr _ (by decide), tb_ushr _ (by decide)]
theorem tb_S {x : Int64} {S : Nat → Bool} (hx : bs x S) {p : Nat} (h : tb x p = true) : ∃ j, j < 36 ∧ p = pl j ∧ S j = true := by
  by_cases q : p % 8 < 6 ∧ p < 48
  · have e : p = pl (6 * (p / 8) + p % 8) := by unfold pl; omega
    refine ⟨6 * (p / 8) + p % 8, by omega, e, ?_⟩
    rw [← bs_pl hx (by omega), ← e]
    exact h
  · rw [bs_not hx q] at h; cases h
theorem bs_nearH {R C : Nat} {rt dn S : Nat → Bool} (hz : Mz R C rt dn) {x : Int64} (hx : bs x S) (hS : ∀ i, i < 36 → S i = true → isC R C i) : bs (fX1_nearThroughHedges (cwv R C) x) (nearS (rtF R C) (dnF R C) S) := by
  have hzF := MzF hz
  have hg := cwv_ok hz.1.2 hz.2.1.2
  refine bs_of (fun i hi => ?_) (fun p hp => by rw [nh_tb, bs_not hg hp, Bool.and_false])
  rw [nh_tb, bs_pl hg hi, bs_pl hx hi, Bool.eq_iff_iff, near_iff hzF, Bool.and_eq_true, cellS_iff]
  simp only [Bool.or_eq_true, Bool.and_eq_true, decide_eq_true_eq]
  have h6 := hz.2.1
  constructor
  · rintro ⟨((((q | ⟨⟨q1, q2⟩, q⟩) | q) | ⟨⟨q1, q2⟩, q⟩) | q), c⟩
    · exact Or.inl q
    · obtain ⟨j, hj, e, g⟩ := tb_S hx q
      have e2 : j = mvN i 3 ∧ 0 < i % 6 := by unfold pl at e q2; simp [mvN]; omega
      exact Or.inr ⟨3, by decide, opF c (by decide) (by simp [rimB]; omega), by rw [← e2.1]; exact g⟩
    · obtain ⟨j, hj, e, g⟩ := tb_S hx q
      have e2 : j = mvN i 1 ∧ j = i + 1 ∧ i % 6 < 5 := by unfold pl at e; simp [mvN]; omega
      have := hS j hj g
      unfold isC at this
      exact Or.inr ⟨1, by decide, opF c (by decide) (by simp [rimB]; omega), by rw [← e2.1]; exact g⟩
    · obtain ⟨j, hj, e, g⟩ := tb_S hx q
      have e2 : j = mvN i 0 ∧ 6 ≤ i := by unfold pl at e q2; simp [mvN]; omega
      exact Or.inr ⟨0, by decide, opF c (by decide) (by simp [rimB]; omega), by rw [← e2.1]; exact g⟩
    · obtain ⟨j, hj, e, g⟩ := tb_S hx q
      have e2 : j = mvN i 2 ∧ j = i + 6 := by unfold pl at e; simp [mvN]; omega
      have := hS j hj g
      unfold isC at this
      exact Or.inr ⟨2, by decide, opF c (by decide) (by simp [rimB]; omega), by rw [← e2.1]; exact g⟩
  · rintro (q | ⟨s, hs, ho, q⟩)
    · exact ⟨Or.inl (Or.inl (Or.inl (Or.inl q))), hS i hi q⟩
    · have ci := opF_cell hz hs ho
      have hm := op_isC hzF ci hs ho
      have ht : tb x (pl (mvN i s)) = true := by rw [bs_pl hx hm.2]; exact q
      have hrim := op_rim hzF hs ho
      have h64 := pl_lt hi
      refine ⟨?_, ci⟩
      unfold rimB at hrim
      rcases (show s = 0 ∨ s = 1 ∨ s = 2 ∨ s = 3 by omega) with rfl | rfl | rfl | rfl
      · simp at hrim
        have e : pl (mvN i 0) = pl i - 8 ∧ 8 ≤ pl i := by unfold pl mvN; simp; omega
        rw [e.1] at ht
        exact Or.inl (Or.inr ⟨⟨by omega, e.2⟩, ht⟩)
      · simp at hrim
        have e : pl (mvN i 1) = pl i + 1 := by unfold pl mvN; simp; omega
        rw [e] at ht
        exact Or.inl (Or.inl (Or.inr ht))
      · simp at hrim
        have e : pl (mvN i 2) = pl i + 8 := by unfold pl mvN; simp; omega
        rw [e] at ht
        exact Or.inr ht
      · simp at hrim
        have e : pl (mvN i 3) = pl i - 1 ∧ 1 ≤ pl i := by unfold pl mvN; simp; omega
        rw [e.1] at ht
        exact Or.inl (Or.inl (Or.inl (Or.inr ⟨⟨by omega, e.2⟩, ht⟩)))
/-! floods come to their end -/
theorem lev_grow {R C : Nat} {rt dn T S : Nat → Bool} (hz : Mz R C rt dn) (h : ∀ i, S i = true → T i = true) : ∀ k, (∃ m, m ≤ k ∧ (∀ i, i < 36 → lev rt dn T S (m + 1) i = lev rt dn T S m i) ∧ cn S 36 + m ≤ cn (lev rt dn T S m) 36) ∨ cn S 36 + k ≤ cn (lev rt dn T S k) 36
  | 0 => Or.inr (Nat.le_refl _)
  | k + 1 => by
    rcases lev_grow hz h k with ⟨m, h1, h2, h3⟩ | g
    · exact Or.inl ⟨m, by omega, h2, h3⟩
    · by_cases q : ∀ i, i < 36 → lev rt dn T S (k + 1) i = lev rt dn T S k i
      · exact Or.inl ⟨k, by omega, q, g⟩
      · right
        have : ∃ i, i < 36 ∧ lev rt dn T S k i = false ∧ lev rt dn T S (k + 1) i = true := by
          apply Classical.byContradiction
          intro hno
          apply q
          intro i hi
          cases a1 : lev rt dn T S k i with
          | true => exact lev_succ h k i a1
          | false =>
            cases a2 : lev rt dn T S (k + 1) i with
            | false => rfl
            | true => exact absurd ⟨i, hi, a1, a2⟩ hno
        have := cn_lt (S := lev rt dn T S k) (T := lev rt dn T S (k + 1)) 36 (fun i _ => lev_succ h k i) this
        omega
theorem lev_end {R C : Nat} {rt dn T S : Nat → Bool} (hz : Mz R C rt dn) (h : ∀ i, S i = true → T i = true) : ∃ m, m ≤ 36 ∧ (∀ j i, i < 36 → lev rt dn T S (m + j) i = lev rt dn T S m i) ∧ cn S 36 + m ≤ cn (lev rt dn T S 36) 36 ∧ ∀ i, i < 36 → lev rt dn T S 36 i = lev rt dn T S m i := by
  rcases lev_grow hz h 37 with ⟨m, h1, h2, h3⟩ | g
  · have hm := cn_le (lev rt dn T S m) 36
    have hf := fun j i hi => lev_fix hz h2 j i hi
    have e : ∀ i, i < 36 → lev rt dn T S 36 i = lev rt dn T S m i := fun i hi => by
      have := hf (36 - m) i hi
      rw [show m + (36 - m) = 36 by omega] at this
      exact this
    exact ⟨m, by omega, hf, by rw [cn_congr 36 e]; exact h3, e⟩
  · have := cn_le (lev rt dn T S 37) 36
    omega
theorem lev_stab {R C : Nat} {rt dn T S : Nat → Bool} (hz : Mz R C rt dn) (h : ∀ i, S i = true → T i = true) : ∀ i, i < 36 → lev rt dn T S 37 i = lev rt dn T S 36 i := by
  obtain ⟨m, h1, h2, -, h4⟩ := lev_end hz h
  intro i hi
  have := h2 (37 - m) i hi
  rw [show m + (37 - m) = 37 by omega] at this
  rw [this, h4 i hi]
/-! what is reached with k hedges broken -/
def brL (R C : Nat) (rt dn : Nat → Bool) (x : Nat) : Nat → (Nat → Bool)
  | 0 => lev rt dn (cellS R C) (fun i => decide (i = x) && cellS R C i) 36
  | k + 1 => lev rt dn (cellS R C) (fun i => nearS (rtF R C) (dnF R C) (brL R C rt dn x k) i && cellS R C i) 36
theorem sub_T {S T : Nat → Bool} : ∀ i, (S i && T i) = true → T i = true := fun i h => by simp at h; exact h.2
theorem lev_next (rt dn T S : Nat → Bool) (k i : Nat) : lev rt dn T S (k + 1) i = (nearS rt dn (lev rt dn T S k) i && T i) := rfl
set_option maxRecDepth 20000 in
theorem brL_0 (R C : Nat) (rt dn : Nat → Bool) (x i : Nat) : brL R C rt dn x 0 i = lev rt dn (cellS R C) (fun i => decide (i = x) && cellS R C i) 36 i := by unfold brL; rfl
set_option maxRecDepth 20000 in
theorem brL_s (R C : Nat) (rt dn : Nat → Bool) (x k i : Nat) : brL R C rt dn x (k + 1) i = lev rt dn (cellS R C) (fun i => nearS (rtF R C) (dnF R C) (brL R C rt dn x k) i && cellS R C i) 36 i := by rw [brL]
set_option maxRecDepth 20000 in
theorem brL_cell {R C : Nat} {rt dn : Nat → Bool} {x : Nat} : ∀ k i, brL R C rt dn x k i = true → isC R C i := by
  intro k i h
  cases k with
  | zero => rw [brL_0] at h; exact cellS_iff.mp (lev_in (T := cellS R C) sub_T 36 i h)
  | succ k => rw [brL_s] at h; exact cellS_iff.mp (lev_in (T := cellS R C) sub_T 36 i h)
theorem brL_succ {R C : Nat} {rt dn : Nat → Bool} {x : Nat} (k i : Nat) (h : nearS (rtF R C) (dnF R C) (brL R C rt dn x k) i = true) (hc : isC R C i) : brL R C rt dn x (k + 1) i = true := by
  rw [brL_s]
  refine lev_mono sub_T (Nat.zero_le 36) i ?_
  show (nearS (rtF R C) (dnF R C) (brL R C rt dn x k) i && cellS R C i) = true
  rw [h, cellS_iff.mpr hc]; rfl
theorem brL_op {R C : Nat} {rt dn : Nat → Bool} (hz : Mz R C rt dn) {x : Nat} : ∀ k i s, i < 36 → s < 4 → opS rt dn i s = true → brL R C rt dn x k i = true → brL R C rt dn x k (mvN i s) = true := by
  intro k i s hi hs ho h
  have hc := op_isC hz (brL_cell k i h) hs ho
  obtain ⟨a1, a2, a3⟩ := op_sym hz hs ho
  have key : ∀ S : Nat → Bool, lev rt dn (cellS R C) (fun i => S i && cellS R C i) 36 i = true → lev rt dn (cellS R C) (fun i => S i && cellS R C i) 36 (mvN i s) = true := by
    intro S q
    rw [← lev_stab hz sub_T _ hc.2, show (37 : Nat) = 36 + 1 from rfl, lev_next, cellS_iff.mpr hc.1, Bool.and_true]
    exact (near_iff hz _).mpr (Or.inr ⟨oppN s, a1, a2, by rw [a3]; exact q⟩)
  cases k with
  | zero => rw [brL_0] at h ⊢; exact key _ h
  | succ k => rw [brL_s] at h ⊢; exact key _ h
theorem brL_hedge {R C : Nat} {rt dn : Nat → Bool} (hz : Mz R C rt dn) {x : Nat} (k i s : Nat) (hs : s < 4) (hrim : rimB R C i s = true) (h : brL R C rt dn x k i = true) : brL R C rt dn x (k + 1) (mvN i s) = true := by
  have hzF := MzF hz
  have ci := brL_cell k i h
  have ho := opF ci hs hrim
  obtain ⟨a1, a2, a3⟩ := op_sym hzF hs ho
  exact brL_succ k _ ((near_iff hzF _).mpr (Or.inr ⟨oppN s, a1, a2, by rw [a3]; exact h⟩)) (op_isC hzF ci hs ho).1
/-- what is reached in t rounds with k hedges broken -/
def brW (R C : Nat) (rt dn : Nat → Bool) (x : Nat) : Nat → Nat → Nat → Bool
  | 0, _, j => decide (j = x)
  | t + 1, k, j => nearS rt dn (brW R C rt dn x t k) j || (decide (0 < k) && nearS (rtF R C) (dnF R C) (brW R C rt dn x t (k - 1)) j)
theorem brW_t {R C : Nat} {rt dn : Nat → Bool} {x t k j : Nat} (h : brW R C rt dn x t k j = true) : brW R C rt dn x (t + 1) k j = true := by
  show (nearS rt dn (brW R C rt dn x t k) j || _) = true
  rw [nearS_self h, Bool.true_or]
theorem brW_tt {R C : Nat} {rt dn : Nat → Bool} {x t k j : Nat} (h : brW R C rt dn x t k j = true) : ∀ m, brW R C rt dn x (t + m) k j = true
  | 0 => h
  | m + 1 => brW_t (brW_tt h m)
theorem nearS_sub {R C : Nat} {rt dn S S' : Nat → Bool} (hz : Mz R C rt dn) (h : ∀ i, i < 36 → S i = true → S' i = true) {i : Nat} (hi : i < 36) (q : nearS rt dn S i = true) : nearS rt dn S' i = true := by
  rw [near_iff hz] at q ⊢
  rcases q with q | ⟨s, hs, ho, q⟩
  · exact Or.inl (h i hi q)
  · exact Or.inr ⟨s, hs, ho, h _ (op_lt hz hi hs ho) q⟩
theorem brW_k {R C : Nat} {rt dn : Nat → Bool} (hz : Mz R C rt dn) {x : Nat} : ∀ t k j, j < 36 → brW R C rt dn x t k j = true → brW R C rt dn x t (k + 1) j = true
  | 0, _, _, _, h => h
  | t + 1, k, j, hj, h => by
    have h : (nearS rt dn (brW R C rt dn x t k) j || (decide (0 < k) && nearS (rtF R C) (dnF R C) (brW R C rt dn x t (k - 1)) j)) = true := h
    show (nearS rt dn (brW R C rt dn x t (k + 1)) j || (decide (0 < k + 1) && nearS (rtF R C) (dnF R C) (brW R C rt dn x t k) j)) = true
    rw [Bool.or_eq_true] at h ⊢
    rcases h with h | h
    · exact Or.inl (nearS_sub hz (fun i hi => brW_k hz t k i hi) hj h)
    · right
      rw [Bool.and_eq_true, decide_eq_true_eq] at h ⊢
      refine ⟨by omega, nearS_sub (MzF hz) (fun i hi q => ?_) hj h.2⟩
      have := brW_k hz t (k - 1) i hi q
      rw [show k - 1 + 1 = k by omega] at this
      exact this
theorem brW_flood {R C : Nat} {rt dn T S : Nat → Bool} (hz : Mz R C rt dn) {x t k : Nat} (h : ∀ j, j < 36 → S j = true → brW R C rt dn x t k j = true) : ∀ m j, j < 36 → lev rt dn T S m j = true → brW R C rt dn x (t + m) k j = true
  | 0, j, hj, q => h j hj q
  | m + 1, j, hj, q => by
    have q : (nearS rt dn (lev rt dn T S m) j && T j) = true := q
    rw [Bool.and_eq_true] at q
    show (nearS rt dn (brW R C rt dn x (t + m) k) j || _) = true
    rw [nearS_sub hz (fun i hi => brW_flood hz h m i hi) hj q.1, Bool.true_or]
theorem brL_W {R C : Nat} {rt dn : Nat → Bool} (hz : Mz R C rt dn) {x : Nat} (hx : isC R C x) : ∀ k, ∃ t, t + 1 ≤ cn (brL R C rt dn x k) 36 ∧ ∀ j, j < 36 → brL R C rt dn x k j = true → brW R C rt dn x t k j = true
  | 0 => by
    obtain ⟨m, h1, -, h3, h4⟩ := lev_end (S := fun i => decide (i = x) && cellS R C i) hz sub_T
    have h1c : 1 ≤ cn (fun i => decide (i = x) && cellS R C i) 36 := by
      have := cn_lt (S := fun _ => false) (T := fun i => decide (i = x) && cellS R C i) 36 (fun i _ h => by cases h) ⟨x, isC_lt hz hx, rfl, by simp [cellS_iff.mpr hx]⟩
      omega
    have ec : cn (brL R C rt dn x 0) 36 = cn (lev rt dn (cellS R C) (fun i => decide (i = x) && cellS R C i) 36) 36 := cn_congr 36 (fun i _ => brL_0 R C rt dn x i)
    refine ⟨m, by omega, fun j hj q => ?_⟩
    rw [brL_0, h4 j hj] at q
    have := brW_flood (T := cellS R C) (x := x) (t := 0) (k := 0) hz (fun j _ g => by
      show decide (j = x) = true
      rw [Bool.and_eq_true] at g
      exact g.1) m j hj q
    rw [Nat.zero_add] at this
    exact this
  | k + 1 => by
    obtain ⟨t, g1, g2⟩ := brL_W hz hx k
    obtain ⟨m, h1, -, h3, h4⟩ := lev_end (S := fun i => nearS (rtF R C) (dnF R C) (brL R C rt dn x k) i && cellS R C i) hz sub_T
    have fin : ∀ t', t' + 1 ≤ cn (fun i => nearS (rtF R C) (dnF R C) (brL R C rt dn x k) i && cellS R C i) 36 → (∀ j, j < 36 → (nearS (rtF R C) (dnF R C) (brL R C rt dn x k) j && cellS R C j) = true → brW R C rt dn x t' (k + 1) j = true) → ∃ t, t + 1 ≤ cn (brL R C rt dn x (k + 1)) 36 ∧ ∀ j, j < 36 → brL R C rt dn x (k + 1) j = true → brW R C rt dn x t (k + 1) j = true := by
      intro t' q1 q2
      refine ⟨t' + m, ?_, fun j hj q => ?_⟩
      · have ec : cn (brL R C rt dn x (k + 1)) 36 = cn (lev rt dn (cellS R C) (fun i => nearS (rtF R C) (dnF R C) (brL R C rt dn x k) i && cellS R C i) 36) 36 := cn_congr 36 (fun i _ => brL_s R C rt dn x k i)
        omega
      · rw [brL_s, h4 j hj] at q
        exact brW_flood (T := cellS R C) hz q2 m j hj q
    have hsub : ∀ i, i < 36 → brL R C rt dn x k i = true → (nearS (rtF R C) (dnF R C) (brL R C rt dn x k) i && cellS R C i) = true := fun i _ q => by
      rw [nearS_self q, cellS_iff.mpr (brL_cell k i q)]; rfl
    by_cases q : ∃ i, i < 36 ∧ brL R C rt dn x k i = false ∧ (nearS (rtF R C) (dnF R C) (brL R C rt dn x k) i && cellS R C i) = true
    · have := cn_lt (S := brL R C rt dn x k) (T := fun i => nearS (rtF R C) (dnF R C) (brL R C rt dn x k) i && cellS R C i) 36 hsub q
      refine fin (t + 1) (by omega) (fun j hj w => ?_)
      rw [Bool.and_eq_true] at w
      show (_ || (decide (0 < k + 1) && nearS (rtF R C) (dnF R C) (brW R C rt dn x t k) j)) = true
      rw [nearS_sub (MzF hz) g2 hj w.1, decide_eq_true (by omega), Bool.true_and, Bool.or_true]
    · have := cn_mono (S := brL R C rt dn x k) (T := fun i => nearS (rtF R C) (dnF R C) (brL R C rt dn x k) i && cellS R C i) 36 hsub
      refine fin t (by omega) (fun j hj w => ?_)
      cases a : brL R C rt dn x k j with
      | false => exact absurd ⟨j, hj, a, w⟩ q
      | true => exact brW_k hz t k j hj (g2 j hj a)
theorem brL_36 {R C : Nat} {rt dn : Nat → Bool} (hz : Mz R C rt dn) {x : Nat} (hx : isC R C x) (k : Nat) {j : Nat} (hj : j < 36) (h : brL R C rt dn x k j = true) : brW R C rt dn x 36 k j = true := by
  obtain ⟨t, g1, g2⟩ := brL_W hz hx k
  have := cn_le (brL R C rt dn x k) 36
  have := brW_tt (g2 j hj h) (36 - t)
  rw [show t + (36 - t) = 36 by omega] at this
  exact this
/-! all is reached with ten hedges broken -/
def nhI (R C : Nat) (x : Int64) : Nat → Int64
  | 0 => x
  | k + 1 => fX1_nearThroughHedges (cwv R C) (nhI R C x k)
theorem nh_all : ∀ R, R < 7 → ∀ C, C < 7 → ∀ i, i < 36 → (!(decide (i / 6 < R) && decide (i % 6 < C)) || decide (nhI R C (fX1_bit (nI (pl i))) 10 = cwv R C)) = true := by decide +kernel
theorem nh_brL {R C : Nat} {rt dn : Nat → Bool} (hz : Mz R C rt dn) {x : Nat} (hx : isC R C x) : ∀ k, ∃ S, bs (nhI R C (fX1_bit (nI (pl x))) k) S ∧ ∀ j, j < 36 → S j = true → brL R C rt dn x k j = true
  | 0 => ⟨_, bs_bit (isC_lt hz hx), fun j hj q => by
      have : j = x := by simpa using q
      subst this
      rw [brL_0]
      refine lev_mono sub_T (Nat.zero_le 36) j ?_
      show (decide (j = j) && cellS R C j) = true
      rw [cellS_iff.mpr hx]; simp⟩
  | k + 1 => by
    obtain ⟨S, h1, h2⟩ := nh_brL hz hx k
    refine ⟨_, bs_nearH hz h1 (fun i hi q => brL_cell k i (h2 i hi q)), fun j hj q => ?_⟩
    refine brL_succ k j (nearS_sub (MzF hz) h2 hj q) ?_
    rcases (near_iff (MzF hz) j).mp q with w | ⟨s, hs, ho, w⟩
    · exact brL_cell k j (h2 j hj w)
    · exact opF_cell hz hs ho
theorem brL_10 {R C : Nat} {rt dn : Nat → Bool} (hz : Mz R C rt dn) {x y : Nat} (hx : isC R C x) (hy : isC R C y) : brL R C rt dn x 10 y = true := by
  obtain ⟨S, h1, h2⟩ := nh_brL hz hx 10
  have hy36 := isC_lt hz hy
  apply h2 y hy36
  have h3 := nh_all R (by have := hz.1; omega) C (by have := hz.2.1; omega) x (isC_lt hz hx)
  simp only [hx.1, hx.2, decide_true, Bool.and_self, Bool.not_true, Bool.false_or, decide_eq_true_eq] at h3
  rw [h3] at h1
  rw [← bs_pl h1 hy36, bs_pl (cwv_ok hz.1.2 hz.2.1.2) hy36]
  exact cellS_iff.mpr hy

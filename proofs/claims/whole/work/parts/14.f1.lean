/-! a flood is the levels run to their end; bridge -/
theorem nearS_congr {R C : Nat} {rt dn S S' : Nat → Bool} (hz : Mz R C rt dn) (h : ∀ i, i < 36 → S i = S' i) : ∀ i, i < 36 → nearS rt dn S i = nearS rt dn S' i := by
  intro i hi
  rw [Bool.eq_iff_iff, near_iff hz, near_iff hz, h i hi]
  constructor
  · rintro (q | ⟨s, hs, ho, q⟩)
    · exact Or.inl q
    · exact Or.inr ⟨s, hs, ho, by rw [← h _ (op_lt hz hi hs ho)]; exact q⟩
  · rintro (q | ⟨s, hs, ho, q⟩)
    · exact Or.inl q
    · exact Or.inr ⟨s, hs, ho, by rw [h _ (op_lt hz hi hs ho)]; exact q⟩
theorem lev_fix {R C : Nat} {rt dn T S : Nat → Bool} (hz : Mz R C rt dn) {k : Nat} (h : ∀ i, i < 36 → lev rt dn T S (k + 1) i = lev rt dn T S k i) : ∀ j, ∀ i, i < 36 → lev rt dn T S (k + j) i = lev rt dn T S k i
  | 0, _, _ => rfl
  | j + 1, i, hi => by
    have ih := lev_fix hz h j
    show (nearS rt dn (lev rt dn T S (k + j)) i && T i) = _
    rw [nearS_congr hz ih i hi]
    exact h i hi
set_option maxRecDepth 20000 in
theorem Cflood {R C : Nat} {rt dn T S : Nat → Bool} {r d p t : Int64} (hz : Mz R C rt dn) (hr : bs r rt) (hd : bs d dn) (hp : bs p S) (ht : bs t T) :
    ∃ x, fX1_flood r d p t = some x ∧ bs x (lev rt dn T (fun i => S i && T i) 36) := by
  obtain ⟨e, h1, h2⟩ := qlp_idx (f := qun2 fun (x5_2 : Int64) (x7_1 : Int32) => if 36 ≤ x7_1 then some (Sum.inr x5_2) else if (lg_cmp ((fX1_near r d x5_2) &&& t) x5_2) = 0 then some (Sum.inr x5_2) else some (Sum.inl (((fX1_near r d x5_2) &&& t), (x7_1 + 1))))
    (fun k st => st.2 = nI k ∧ bs st.1 (lev rt dn T (fun i => S i && T i) k)) 36 (fun (e : Int64) => bs e (lev rt dn T (fun i => S i && T i) 36)) (by
    rintro k ⟨x, y⟩ hk ⟨rfl, hb⟩
    dsimp only at hb ⊢
    by_cases h : 36 ≤ k
    · right
      have : k = 36 := by omega
      subst this
      exact ⟨x, by rw [qun2_eq, if_pos (show (36 : Int32) ≤ nI 36 by decide)], hb⟩
    · rw [qun2_eq, if_neg (show ¬ (36 : Int32) ≤ nI k from nI_ge (b := 36) (by omega) (by decide))]
      have hn : bs (fX1_near r d x &&& t) (lev rt dn T (fun i => S i && T i) (k + 1)) := bs_and (bs_near hz hr hd hb) ht
      by_cases q : lg_cmp ((fX1_near r d x) &&& t) x = 0
      · right
        refine ⟨x, by rw [if_pos q], ?_⟩
        have hf := (bs_eq hn hb).mp (lg_0.mp q)
        refine bs_congr hb (fun i hi => ?_)
        have := lev_fix hz hf (36 - k) i hi
        rw [show k + (36 - k) = 36 by omega] at this
        exact this.symm
      · left
        exact ⟨by omega, (fX1_near r d x &&& t, nI (k + 1)), by rw [if_neg q, nI_1], rfl, hn⟩) qFU (qFU_gt (by decide)) (p &&& t, (0 : Int32)) ⟨rfl, bs_and hp ht⟩
  refine ⟨e, ?_, h2⟩
  unfold fX1_flood
  rw [h1]
  rfl
theorem cellS_iff {R C i : Nat} : cellS R C i = true ↔ isC R C i := by
  unfold cellS isC; simp
theorem lev_cells {R C : Nat} {rt dn S : Nat → Bool} (hz : Mz R C rt dn) (hS : ∀ i, S i = true → isC R C i) : ∀ k i, (lev rt dn (cellS R C) S k i = true ↔ lev rt dn (fun _ => true) S k i = true) ∧ (lev rt dn (cellS R C) S k i = true → isC R C i)
  | 0, i => ⟨Iff.rfl, fun h => hS i h⟩
  | k + 1, i => by
    have ih := lev_cells hz hS k
    have hn : nearS rt dn (lev rt dn (cellS R C) S k) i = true ↔ nearS rt dn (lev rt dn (fun _ => true) S k) i = true := by
      rw [near_iff hz, near_iff hz, (ih i).1]
      constructor
      · rintro (q | ⟨s, hs, ho, q⟩)
        · exact Or.inl q
        · exact Or.inr ⟨s, hs, ho, (ih _).1.mp q⟩
      · rintro (q | ⟨s, hs, ho, q⟩)
        · exact Or.inl q
        · exact Or.inr ⟨s, hs, ho, (ih _).1.mpr q⟩
    have hc : nearS rt dn (lev rt dn (cellS R C) S k) i = true → isC R C i := by
      rw [near_iff hz]
      rintro (q | ⟨s, hs, ho, q⟩)
      · exact (ih i).2 q
      · obtain ⟨a1, a2, a3⟩ := op_sym hz hs ho
        have := (op_isC hz ((ih _).2 q) a1 a2).1
        rw [a3] at this
        exact this
    have e1 : lev rt dn (cellS R C) S (k + 1) i = (nearS rt dn (lev rt dn (cellS R C) S k) i && cellS R C i) := rfl
    have e2 : lev rt dn (fun _ => true) S (k + 1) i = (nearS rt dn (lev rt dn (fun _ => true) S k) i && true) := rfl
    rw [e1, e2, Bool.and_eq_true, Bool.and_true, cellS_iff]
    exact ⟨⟨fun h => hn.mp h.1, fun h => ⟨hn.mpr h, hc (hn.mpr h)⟩⟩, fun h => h.2⟩
theorem lev_S {rt dn T S S' : Nat → Bool} (h : S = S') (k i : Nat) : lev rt dn T S k i = lev rt dn T S' k i := by rw [h]
/-- the part of a cell -/
theorem Cpart {R C : Nat} {rt dn : Nat → Bool} {r d : Int64} (hz : Mz R C rt dn) (hr : bs r rt) (hd : bs d dn) {i : Nat} (hi : isC R C i) {D : Nat → Nat} (hL : LF R C rt dn (fun _ => false) i D) :
    ∃ x, fX1_partOf (cwv R C) r d (nI (pl i)) = some x ∧ bs x (fun j => decide (D j ≠ 9999)) := by
  have h36 := isC_lt hz hi
  obtain ⟨x, h1, h2⟩ := Cflood hz hr hd (bs_bit h36) (cwv_ok hz.1.2 hz.2.1.2)
  refine ⟨x, ?_, bs_congr h2 (fun j hj => ?_)⟩
  · unfold fX1_partOf
    rw [h1]; rfl
  · have e : (fun j => decide (j = i) && cellS R C j) = (fun j => decide (j = i)) := by
      funext j
      by_cases q : j = i
      · subst q
        rw [cellS_iff.mpr hi]; simp
      · simp [q]
    rw [lev_S e, Bool.eq_iff_iff, (lev_cells hz (fun j hj => by have : j = i := by simpa using hj
                                                                rw [this]; exact hi) 36 j).1]
    have h3 : lev rt dn (fun i => !(fun _ => false) i) (fun j => decide (j = i)) 36 j = true ↔ D j ≤ 36 := LF_lev hz rfl hL 36 (by decide) j hj
    have h4 : lev rt dn (fun _ => true) (fun j => decide (j = i)) 36 j = true ↔ D j ≤ 36 := h3
    rw [h4, decide_eq_true_eq]
    rcases hL.2.1 j hj with q | ⟨q, -⟩
    · rw [q]; decide
    · omega

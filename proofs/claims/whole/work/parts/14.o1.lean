/-! the runner and the hunter: which pairs are won in n turns -/
def aft (rt dn : Nat → Bool) (b : Nat) (hm : Bool) (X : Nat → Nat → Bool) (r h : Nat) : Bool := if r = b then (if hm then decide (h ≠ b) else decide (h = b)) else if hm then !nearS rt dn (fun x => !X r x) h else nearS rt dn (X r) h
def Cst (rt dn : Nat → Bool) (b : Nat) (hm : Bool) (X : Nat → Nat → Bool) (i j : Nat) : Bool := if hm then nearS rt dn (fun t => aft rt dn b hm X t j) i && decide (i ≠ j) else !nearS rt dn (fun t => !aft rt dn b hm X t j) i || decide (i = j)
def Cs (rt dn : Nat → Bool) (b : Nat) (hm : Bool) : Nat → Nat → Nat → Bool
  | 0 => fun i j => !hm && decide (i = j)
  | n + 1 => Cst rt dn b hm (Cs rt dn b hm n)
theorem Cs_s (rt dn : Nat → Bool) (b : Nat) (hm : Bool) (n : Nat) : Cs rt dn b hm (n + 1) = Cst rt dn b hm (Cs rt dn b hm n) := rfl
theorem Cs_0 (rt dn : Nat → Bool) (b : Nat) (hm : Bool) (i j : Nat) : Cs rt dn b hm 0 i j = (!hm && decide (i = j)) := rfl
theorem near_sub {R C : Nat} {rt dn S S' : Nat → Bool} (hz : Mz R C rt dn) {i : Nat} (ci : isC R C i) (h : ∀ t, isC R C t → S t = true → S' t = true) (q : nearS rt dn S i = true) : nearS rt dn S' i = true := by
  rw [near_iff hz] at q ⊢
  rcases q with q | ⟨s, hs, ho, q⟩
  · exact Or.inl (h i ci q)
  · exact Or.inr ⟨s, hs, ho, h _ (op_isC hz ci hs ho).1 q⟩
theorem near_cg {R C : Nat} {rt dn S S' : Nat → Bool} (hz : Mz R C rt dn) {i : Nat} (ci : isC R C i) (h : ∀ t, isC R C t → S t = S' t) : nearS rt dn S i = nearS rt dn S' i := by
  rw [Bool.eq_iff_iff]
  exact ⟨near_sub hz ci (fun t ct q => by rw [← h t ct]; exact q), near_sub hz ci (fun t ct q => by rw [h t ct]; exact q)⟩
theorem nn_sub {R C : Nat} {rt dn S S' : Nat → Bool} (hz : Mz R C rt dn) {i : Nat} (ci : isC R C i) (h : ∀ t, isC R C t → S t = true → S' t = true) (q : (!nearS rt dn (fun t => !S t) i) = true) : (!nearS rt dn (fun t => !S' t) i) = true := by
  rw [Bool.not_eq_true'] at q ⊢
  cases w : nearS rt dn (fun t => !S' t) i with
  | false => rfl
  | true =>
    have := near_sub (S' := fun t => !S t) hz ci (fun t ct g => by
      cases hS : S t with
      | false => rfl
      | true =>
        rw [h t ct hS] at g
        cases g) w
    rw [this] at q
    cases q
theorem aft_mono {R C : Nat} {rt dn : Nat → Bool} (hz : Mz R C rt dn) {b : Nat} {hm : Bool} {X Y : Nat → Nat → Bool} (h : ∀ r x, isC R C r → isC R C x → r ≠ b → X r x = true → Y r x = true) {r t : Nat} (cr : isC R C r) (ct : isC R C t) (q : aft rt dn b hm X r t = true) : aft rt dn b hm Y r t = true := by
  unfold aft at q ⊢
  by_cases e : r = b
  · rw [if_pos e] at q ⊢; exact q
  · rw [if_neg e] at q ⊢
    cases hm with
    | true =>
      rw [if_pos rfl] at q ⊢
      exact nn_sub hz ct (fun x cx => h r x cr cx e) q
    | false =>
      rw [if_neg Bool.false_ne_true] at q ⊢
      exact near_sub hz ct (fun x cx => h r x cr cx e) q
theorem Cst_mono {R C : Nat} {rt dn : Nat → Bool} (hz : Mz R C rt dn) {b : Nat} {hm : Bool} {X Y : Nat → Nat → Bool} (h : ∀ r x, isC R C r → isC R C x → r ≠ b → X r x = true → Y r x = true) {i j : Nat} (ci : isC R C i) (cj : isC R C j) (q : Cst rt dn b hm X i j = true) : Cst rt dn b hm Y i j = true := by
  unfold Cst at q ⊢
  cases hm with
  | true =>
    rw [if_pos rfl, Bool.and_eq_true] at q ⊢
    exact ⟨near_sub hz ci (fun t ct => aft_mono hz h ct cj) q.1, q.2⟩
  | false =>
    rw [if_neg Bool.false_ne_true, Bool.or_eq_true] at q ⊢
    rcases q with q | q
    · exact Or.inl (nn_sub hz ci (fun t ct => aft_mono hz h ct cj) q)
    · exact Or.inr q
theorem Cst_cg {R C : Nat} {rt dn : Nat → Bool} (hz : Mz R C rt dn) {b : Nat} {hm : Bool} {X Y : Nat → Nat → Bool} (h : ∀ r x, isC R C r → isC R C x → r ≠ b → X r x = Y r x) {i j : Nat} (ci : isC R C i) (cj : isC R C j) : Cst rt dn b hm X i j = Cst rt dn b hm Y i j := by
  rw [Bool.eq_iff_iff]
  exact ⟨Cst_mono hz (fun r x cr cx e q => by rw [← h r x cr cx e]; exact q) ci cj, Cst_mono hz (fun r x cr cx e q => by rw [h r x cr cx e]; exact q) ci cj⟩
theorem Cs_mono {R C : Nat} {rt dn : Nat → Bool} (hz : Mz R C rt dn) {b : Nat} {hm : Bool} : ∀ n i j, isC R C i → isC R C j → Cs rt dn b hm n i j = true → Cs rt dn b hm (n + 1) i j = true
  | 0, i, j, ci, cj, q => by
    rw [Cs_0, Bool.and_eq_true, Bool.not_eq_true'] at q
    rw [Cs_s]
    unfold Cst
    rw [q.1, if_neg Bool.false_ne_true, q.2, Bool.or_true]
  | n + 1, i, j, ci, cj, q => by
    rw [Cs_s] at q ⊢
    exact Cst_mono hz (fun r x cr cx _ => Cs_mono hz n r x cr cx) ci cj q
/-- label at most n -/
def lab (R C : Nat) (rt dn : Nat → Bool) (b : Nat) (hm : Bool) (n i j : Nat) : Bool := (cellS R C i && cellS R C j) && (if i = b then hm else Cs rt dn b hm n i j)
theorem lab_c {R C : Nat} {rt dn : Nat → Bool} {b : Nat} {hm : Bool} {n i j : Nat} (ci : isC R C i) (cj : isC R C j) : lab R C rt dn b hm n i j = if i = b then hm else Cs rt dn b hm n i j := by
  unfold lab
  rw [cellS_iff.mpr ci, cellS_iff.mpr cj]
  rfl
theorem lab_cell {R C : Nat} {rt dn : Nat → Bool} {b : Nat} {hm : Bool} {n i j : Nat} (h : lab R C rt dn b hm n i j = true) : isC R C i ∧ isC R C j := by
  unfold lab at h
  rw [Bool.and_eq_true, Bool.and_eq_true, cellS_iff, cellS_iff] at h
  exact h.1
theorem lab_mono {R C : Nat} {rt dn : Nat → Bool} (hz : Mz R C rt dn) {b : Nat} {hm : Bool} {n i j : Nat} (h : lab R C rt dn b hm n i j = true) : lab R C rt dn b hm (n + 1) i j = true := by
  obtain ⟨ci, cj⟩ := lab_cell h
  rw [lab_c ci cj] at h ⊢
  by_cases e : i = b
  · rw [if_pos e] at h ⊢; exact h
  · rw [if_neg e] at h ⊢; exact Cs_mono hz n i j ci cj h
theorem lab_le {R C : Nat} {rt dn : Nat → Bool} (hz : Mz R C rt dn) {b : Nat} {hm : Bool} {n i j : Nat} (h : lab R C rt dn b hm n i j = true) : ∀ m, n ≤ m → lab R C rt dn b hm m i j = true
  | 0, q => by rw [show n = 0 by omega] at h; exact h
  | m + 1, q => by
    by_cases e : n = m + 1
    · rw [← e]; exact h
    · exact lab_mono hz (lab_le hz h m (by omega))
theorem lab_stab {R C : Nat} {rt dn : Nat → Bool} (hz : Mz R C rt dn) {b : Nat} {hm : Bool} {n : Nat} (h : ∀ i j, isC R C i → isC R C j → lab R C rt dn b hm (n + 1) i j = lab R C rt dn b hm n i j) : ∀ m i j, isC R C i → isC R C j → lab R C rt dn b hm (n + m) i j = lab R C rt dn b hm n i j ∧ lab R C rt dn b hm (n + m + 1) i j = lab R C rt dn b hm (n + m) i j
  | 0, i, j, ci, cj => ⟨rfl, h i j ci cj⟩
  | m + 1, i, j, ci, cj => by
    have ih := lab_stab hz h m
    refine ⟨(ih i j ci cj).2.trans (ih i j ci cj).1, ?_⟩
    show lab R C rt dn b hm (n + m + 1 + 1) i j = lab R C rt dn b hm (n + m + 1) i j
    rw [lab_c ci cj, lab_c ci cj]
    by_cases e : i = b
    · rw [if_pos e, if_pos e]
    · rw [if_neg e, if_neg e, Cs_s, Cs_s]
      refine Cst_cg hz (fun r x cr cx er => ?_) ci cj
      have := (ih r x cr cx).2
      rw [lab_c cr cx, lab_c cr cx, if_neg er, if_neg er] at this
      rw [← Cs_s]
      exact this
def labK (R C : Nat) (rt dn : Nat → Bool) (b : Nat) (hm : Bool) (n : Nat) : Nat → Bool := fun k => lab R C rt dn b hm n (k / 36) (k % 36)
theorem labK_grow {R C : Nat} {rt dn : Nat → Bool} (hz : Mz R C rt dn) {b : Nat} {hm : Bool} {n : Nat} (h : ¬ ∀ i j, isC R C i → isC R C j → lab R C rt dn b hm (n + 1) i j = lab R C rt dn b hm n i j) : ∃ k, k < 1296 ∧ labK R C rt dn b hm n k = false ∧ labK R C rt dn b hm (n + 1) k = true := by
  apply Classical.byContradiction
  intro hno
  apply h
  intro i j ci cj
  have hi := isC_lt hz ci
  have hj := isC_lt hz cj
  have e1 : (36 * i + j) / 36 = i := by omega
  have e2 : (36 * i + j) % 36 = j := by omega
  cases a1 : lab R C rt dn b hm n i j with
  | true => exact lab_mono hz a1
  | false =>
    cases a2 : lab R C rt dn b hm (n + 1) i j with
    | false => rfl
    | true =>
      exact absurd ⟨36 * i + j, by omega, by unfold labK; rw [e1, e2]; exact a1, by unfold labK; rw [e1, e2]; exact a2⟩ hno
theorem lab_end {R C : Nat} {rt dn : Nat → Bool} (hz : Mz R C rt dn) (b : Nat) (hm : Bool) : ∃ M, M ≤ 1296 ∧ (∀ i j, isC R C i → isC R C j → lab R C rt dn b hm (M + 1) i j = lab R C rt dn b hm M i j) ∧ ∀ n, n < M → ∃ k, k < 1296 ∧ labK R C rt dn b hm n k = false ∧ labK R C rt dn b hm (n + 1) k = true := by
  have key : ∀ k, (∃ M, M < k ∧ (∀ i j, isC R C i → isC R C j → lab R C rt dn b hm (M + 1) i j = lab R C rt dn b hm M i j) ∧ ∀ n, n < M → ∃ k, k < 1296 ∧ labK R C rt dn b hm n k = false ∧ labK R C rt dn b hm (n + 1) k = true) ∨ (k ≤ cn (labK R C rt dn b hm k) 1296 ∧ ∀ n, n < k → ∃ k, k < 1296 ∧ labK R C rt dn b hm n k = false ∧ labK R C rt dn b hm (n + 1) k = true) := by
    intro k
    induction k with
    | zero => exact Or.inr ⟨Nat.zero_le _, fun t ht => absurd ht (Nat.not_lt_zero t)⟩
    | succ k ih =>
      rcases ih with ⟨m, h1, h2⟩ | ⟨h1, h2⟩
      · exact Or.inl ⟨m, by omega, h2⟩
      · by_cases q : ∀ i j, isC R C i → isC R C j → lab R C rt dn b hm (k + 1) i j = lab R C rt dn b hm k i j
        · exact Or.inl ⟨k, by omega, q, h2⟩
        · have hg := labK_grow hz q
          have := cn_lt (S := labK R C rt dn b hm k) (T := labK R C rt dn b hm (k + 1)) 1296 (fun i _ w => lab_mono hz w) hg
          refine Or.inr ⟨by omega, fun t ht => ?_⟩
          by_cases e : t = k
          · subst e; exact hg
          · exact h2 t (by omega)
  rcases key 1297 with ⟨M, h1, h2, h3⟩ | ⟨h1, -⟩
  · exact ⟨M, by omega, h2, h3⟩
  · have := cn_le (labK R C rt dn b hm 1297) 1296
    omega
/-- the least index below n, 9999: none -/
def tl (f : Nat → Bool) : Nat → Nat
  | 0 => 9999
  | n + 1 => if tl f n = 9999 then (if f n then n else 9999) else tl f n
theorem tl_s (f : Nat → Bool) (n : Nat) : tl f (n + 1) = if tl f n = 9999 then (if f n then n else 9999) else tl f n := rfl
theorem tl_le {f : Nat → Bool} (hf : ∀ n, f n = true → f (n + 1) = true) : ∀ n, n ≤ 9999 → ∀ m, m < n → (tl f n ≤ m ↔ f m = true)
  | 0, _, m, hm => absurd hm (Nat.not_lt_zero m)
  | n + 1, hn, m, hm => by
    have hup : ∀ a c, a ≤ c → f a = true → f c = true := by
      intro a c
      induction c with
      | zero => intro h q; rw [show a = 0 by omega] at q; exact q
      | succ c ih =>
        intro h q
        by_cases e : a = c + 1
        · rw [← e]; exact q
        · exact hf c (ih (by omega) q)
    have ih := tl_le hf n (by omega)
    rw [tl_s]
    by_cases e : tl f n = 9999
    · rw [if_pos e]
      by_cases q : m = n
      · subst q
        cases hfm : f m with
        | true => rw [if_pos rfl]; exact ⟨fun _ => rfl, fun _ => Nat.le_refl _⟩
        | false => rw [if_neg Bool.false_ne_true]; exact ⟨fun w => by omega, fun w => by cases w⟩
      · have := ih m (by omega)
        rw [e] at this
        have hfm : f m = false := by
          cases w : f m with
          | false => rfl
          | true => have := this.mpr w; omega
        rw [hfm]
        refine ⟨fun w => ?_, fun w => by cases w⟩
        cases hfn : f n with
        | true => rw [hfn, if_pos rfl] at w; omega
        | false => rw [hfn, if_neg Bool.false_ne_true] at w; omega
    · rw [if_neg e]
      by_cases q : m = n
      · subst q
        have hlt : tl f m < m := by
          by_cases w : ∃ i, i < m ∧ tl f m ≤ i
          · obtain ⟨i, h1, h2⟩ := w; omega
          · exfalso
            have hz : ∀ k, (∀ i, i < k → f i = false) → tl f k = 9999 := by
              intro k
              induction k with
              | zero => intro _; rfl
              | succ k ihk =>
                intro hk
                rw [tl_s, if_pos (ihk (fun i hi => hk i (by omega))), hk k (by omega), if_neg Bool.false_ne_true]
            apply e
            apply hz
            intro i hi
            cases hfi : f i with
            | false => rfl
            | true => exact absurd ⟨i, hi, (ih i hi).mpr hfi⟩ w
        have hlm := (ih (tl f m) hlt).mp (Nat.le_refl _)
        exact ⟨fun _ => hup _ _ (by omega) hlm, fun _ => by omega⟩
      · exact ih m (by omega)
theorem tl_two {f : Nat → Bool} : ∀ n, tl f n = 9999 ∨ tl f n < n
  | 0 => Or.inl rfl
  | n + 1 => by
    rw [tl_s]
    rcases tl_two (f := f) n with h | h
    · rw [if_pos h]
      cases f n
      · exact Or.inl rfl
      · exact Or.inr (by rw [if_pos rfl]; omega)
    · by_cases e : tl f n = 9999
      · rw [if_pos e]
        cases f n
        · exact Or.inl rfl
        · exact Or.inr (by rw [if_pos rfl]; omega)
      · rw [if_neg e]
        exact Or.inr (by omega)

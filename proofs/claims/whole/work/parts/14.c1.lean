/-! levels of a search -/
/-- one round of a search inside of T -/
def stp (rt dn T S : Nat → Bool) : Nat → Bool := fun i => nearS rt dn S i && T i
def lev (rt dn T S : Nat → Bool) : Nat → (Nat → Bool)
  | 0 => S
  | k + 1 => stp rt dn T (lev rt dn T S k)
theorem nearS_self {rt dn S : Nat → Bool} {i : Nat} (h : S i = true) : nearS rt dn S i = true := by
  unfold nearS; simp [h]
theorem lev_in {rt dn T S : Nat → Bool} (h : ∀ i, S i = true → T i = true) : ∀ k i, lev rt dn T S k i = true → T i = true
  | 0, i, hi => h i hi
  | k + 1, i, hi => by
    have hi : (nearS rt dn (lev rt dn T S k) i && T i) = true := hi
    simp at hi
    exact hi.2
theorem lev_succ {rt dn T S : Nat → Bool} (h : ∀ i, S i = true → T i = true) (k i : Nat) (hi : lev rt dn T S k i = true) : lev rt dn T S (k + 1) i = true := by
  show (nearS rt dn (lev rt dn T S k) i && T i) = true
  rw [nearS_self hi, lev_in h k i hi]
  rfl
theorem lev_mono {rt dn T S : Nat → Bool} (h : ∀ i, S i = true → T i = true) {j k : Nat} (hjk : j ≤ k) (i : Nat) (hi : lev rt dn T S j i = true) : lev rt dn T S k i = true := by
  induction k with
  | zero => rw [show j = 0 by omega] at hi; exact hi
  | succ k ih =>
    by_cases e : j = k + 1
    · subst e; exact hi
    · exact lev_succ h k i (ih (by omega))
/-! an opening between u and i, seen from i -/
set_option maxRecDepth 20000 in
theorem near_iff {R C : Nat} {rt dn S : Nat → Bool} (hz : Mz R C rt dn) (i : Nat) : nearS rt dn S i = true ↔ S i = true ∨ ∃ s, s < 4 ∧ opS rt dn i s = true ∧ S (mvN i s) = true := by
  unfold nearS
  constructor
  · intro h
    simp only [Bool.or_eq_true, Bool.and_eq_true, decide_eq_true_eq] at h
    rcases h with (((h | ⟨h1, h2, h3⟩) | ⟨h2, h3⟩) | ⟨h1, h2, h3⟩) | ⟨h2, h3⟩
    · exact Or.inl h
    · exact Or.inr ⟨3, by decide, by simp [opS, h1, h3], by simpa [mvN] using h2⟩
    · exact Or.inr ⟨1, by decide, by simpa [opS] using h3, by simpa [mvN] using h2⟩
    · exact Or.inr ⟨0, by decide, by simp [opS, h1, h3], by simpa [mvN] using h2⟩
    · exact Or.inr ⟨2, by decide, by simpa [opS] using h3, by simpa [mvN] using h2⟩
  · rintro (h | ⟨s, hs, h1, h2⟩)
    · simp [h]
    · match s, hs with
      | 0, _ => simp [opS] at h1; simp [mvN] at h2; simp [h1, h2]
      | 1, _ => simp [opS] at h1; simp [mvN] at h2; simp [h1, h2]
      | 2, _ => simp [opS] at h1; simp [mvN] at h2; simp [h1, h2]
      | 3, _ => simp [opS] at h1; simp [mvN] at h2; simp [h1, h2]
def oppN (s : Nat) : Nat := if s = 0 then 2 else if s = 1 then 3 else if s = 2 then 0 else 1
set_option maxRecDepth 20000 in
theorem op_sym {R C : Nat} {rt dn : Nat → Bool} (hz : Mz R C rt dn) {i s : Nat} (hs : s < 4) (h : opS rt dn i s = true) : oppN s < 4 ∧ opS rt dn (mvN i s) (oppN s) = true ∧ mvN (mvN i s) (oppN s) = i := by
  obtain ⟨⟨-, hR⟩, ⟨-, hC⟩, hr, hd⟩ := hz
  unfold opS at h
  match s, hs with
  | 0, _ => simp at h; refine ⟨by decide, ?_, ?_⟩; · simp [opS, oppN, mvN, h]
            · simp [oppN, mvN]; omega
  | 1, _ => simp at h; have := hr i h; refine ⟨by decide, ?_, ?_⟩; · simp [opS, oppN, mvN, h]; omega
            · simp [oppN, mvN]
  | 2, _ => simp at h; have := hd i h; refine ⟨by decide, ?_, ?_⟩; · simp [opS, oppN, mvN, h]
            · simp [oppN, mvN]
  | 3, _ => simp at h; refine ⟨by decide, ?_, ?_⟩; · simp [opS, oppN, mvN, h]
            · simp [oppN, mvN]; omega
theorem op_isC {R C : Nat} {rt dn : Nat → Bool} (hz : Mz R C rt dn) {i s : Nat} (hi : isC R C i) (hs : s < 4) (h : opS rt dn i s = true) : isC R C (mvN i s) ∧ mvN i s < 36 := by
  have h1 := rim_lt hz.1.2 hz.2.1.2 hs hi (op_rim hz hs h)
  exact ⟨h1.2, h1.1⟩

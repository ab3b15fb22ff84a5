/-! sets counted; levels of a search -/
def cn (S : Nat → Bool) : Nat → Nat
  | 0 => 0
  | n + 1 => cn S n + (S n).toNat
theorem cn_le (S : Nat → Bool) : ∀ n, cn S n ≤ n
  | 0 => Nat.le_refl 0
  | n + 1 => by
    have := cn_le S n
    have h : (S n).toNat ≤ 1 := by cases S n <;> decide
    show cn S n + (S n).toNat ≤ n + 1
    omega
theorem cn_congr {S T : Nat → Bool} : ∀ n, (∀ i, i < n → S i = T i) → cn S n = cn T n
  | 0, _ => rfl
  | n + 1, h => by
    show cn S n + (S n).toNat = cn T n + (T n).toNat
    rw [cn_congr n (fun i hi => h i (by omega)), h n (by omega)]
theorem cn_mono {S T : Nat → Bool} : ∀ n, (∀ i, i < n → S i = true → T i = true) → cn S n ≤ cn T n
  | 0, _ => Nat.le_refl 0
  | n + 1, h => by
    have h1 := cn_mono n (fun i hi => h i (by omega))
    have h2 : (S n).toNat ≤ (T n).toNat := by
      cases hs : S n with
      | false => exact Nat.zero_le _
      | true => rw [h n (by omega) hs]; exact Nat.le_refl _
    show cn S n + (S n).toNat ≤ cn T n + (T n).toNat
    omega
theorem cn_lt {S T : Nat → Bool} : ∀ n, (∀ i, i < n → S i = true → T i = true) → (∃ i, i < n ∧ S i = false ∧ T i = true) → cn S n < cn T n
  | 0, _, ⟨i, hi, _⟩ => absurd hi (Nat.not_lt_zero i)
  | n + 1, h, ⟨i, hi, h1, h2⟩ => by
    show cn S n + (S n).toNat < cn T n + (T n).toNat
    by_cases e : i = n
    · subst e
      have := cn_mono i (fun j hj => h j (by omega))
      rw [h1, h2]
      show cn S i + 0 < cn T i + 1
      omega
    · have := cn_lt n (fun j hj => h j (by omega)) ⟨i, by omega, h1, h2⟩
      have h3 : (S n).toNat ≤ (T n).toNat := by
        cases hs : S n with
        | false => exact Nat.zero_le _
        | true => rw [h n (by omega) hs]; exact Nat.le_refl _
      omega
theorem cn_up {S : Nat → Bool} {k : Nat} (h : S k = false) : ∀ n, k < n → cn (upB S k true) n = cn S n + 1
  | 0, hk => absurd hk (Nat.not_lt_zero k)
  | n + 1, hk => by
    show cn (upB S k true) n + (upB S k true n).toNat = cn S n + (S n).toNat + 1
    by_cases e : k = n
    · subst e
      have h1 : cn (upB S k true) k = cn S k := cn_congr k (fun i hi => by unfold upB; rw [if_neg (by omega)])
      rw [h1, h]
      unfold upB
      rw [if_pos rfl]
      rfl
    · rw [cn_up h n (by omega)]
      unfold upB
      rw [if_neg (fun q => e q.symm)]
      omega
theorem cn_0 {S : Nat → Bool} : ∀ n, (∀ i, i < n → S i = false) → cn S n = 0
  | 0, _ => rfl
  | n + 1, h => by
    show cn S n + (S n).toNat = 0
    rw [cn_0 n (fun i hi => h i (by omega)), h n (by omega)]
    rfl

/-! the last column stays small -/
theorem alg6 {p q bi bk c B K : Int} (hp : 0 < p) (hq : 0 < q) (h : p * B = q * bi - c * bk) (c0 : c ≤ 0) (c1 : - c ≤ q) (i0 : 0 ≤ bi) (i1 : bi ≤ K * p) (k0 : 0 ≤ bk) (k1 : bk ≤ K * p) : 0 ≤ B ∧ B ≤ K * 2 * q := by
  have e1 : 0 ≤ q * bi := Int.mul_nonneg (by omega) i0
  have e2 : c * bk ≤ 0 := np c0 k0
  have e3 : q * bi ≤ q * (K * p) := Int.mul_le_mul_of_nonneg_left i1 (by omega)
  have e4 : (- c) * bk ≤ q * (K * p) := Int.mul_le_mul c1 k1 k0 (by omega)
  have e5 : (- c) * bk = - (c * bk) := Int.neg_mul c bk
  have e6 : p * (K * 2 * q) = q * (K * p) + q * (K * p) := by grind
  refine ⟨pos_ge hp (by omega), Int.le_of_mul_le_mul_left (a := p) ?_ hp⟩
  omega
theorem GQ_col {n : Nat} {A : Nat → Nat → Int} (h : GQ n 0 1 A) (hb : ∀ i, i < n → 0 ≤ A i n ∧ A i n ≤ 4) : ∀ k, k < n → ∀ i, k ≤ i → i < n → 0 ≤ Dk A k i n ∧ Dk A k i n ≤ 4 * 2 ^ k * dt k A
  | 0, _, i, _, hi => by
    rw [Dk_0]
    have e : (4 : Int) * 2 ^ 0 * dt 0 A = 4 := by show (4 : Int) * 2 ^ 0 * 1 = 4; decide
    rw [e]
    exact hb i hi
  | k + 1, hk, i, hi, hin => by
    have ih := GQ_col h hb k (by omega)
    obtain ⟨g, gp⟩ := GQ_all h (k + 1) (by omega)
    have g0 := (GQ_all h k (by omega)).1
    have hR := sylv (A := A) (elm_ex k (fun l hl => by have := gp l (by omega); omega) i) n
    have hd := GQ_dom g0 (i := k) (j := i) (Nat.le_refl k) (by omega) (by omega) hin (by omega)
    have hs := g0.2.1 k i (Nat.le_refl k) (by omega) (by omega) hin
    have hneg := g0.2.2.1 i k (by omega) hin (Nat.le_refl k) (by omega) (by omega)
    rw [hs, Dkk] at hd
    rw [Dkk] at hR
    obtain ⟨b1, b2⟩ := ih i (by omega) hin
    obtain ⟨b3, b4⟩ := ih k (Nat.le_refl k) (by omega)
    rw [Int.pow_succ, ← Int.mul_assoc]
    exact alg6 g0.1 g.1 hR hneg hd.1 b1 b2 b3 b4
theorem pow8 : ∀ k, k < 9 → (4 : Int) * 2 ^ k * 4 ^ k ≤ 1073741824 ∧ (4 : Int) ^ (k + 1) ≤ 1073741824 ∧ (0 : Int) ≤ 4 * 2 ^ k := by decide +kernel
theorem HE_n1 {n : Nat} {A : Nat → Nat → Int} (h : GQ n 0 1 A) (hb : ∀ i, i < n → 0 ≤ A i n ∧ A i n ≤ 4) (hn : n ≤ 9) : HE n (n + 1) A := by
  obtain ⟨h1, h2, -⟩ := HE_n h (by omega)
  refine ⟨h1, fun k i j hk a1 a2 a3 a4 => ?_, fun k i j hk a1 a2 a3 a4 => ?_⟩
  · by_cases e : j = n
    · subst e
      obtain ⟨b1, b2⟩ := GQ_col h hb k hk i a1 a2
      obtain ⟨p1, -, p3⟩ := pow8 k (by omega)
      have := Int.mul_le_mul_of_nonneg_left (GQ_pow h k (by omega)) p3
      omega
    · exact h2 k i j hk a1 a2 a3 (by omega)
  · have a1' := (GQ_all h (k + 1) (by omega)).2
    rw [sylv (elm_ex k (fun l hl => by have := a1' l (by omega); omega) i) j, Dkk]
/-- the two last numbers -/
theorem ul_ex {n : Nat} {A : Nat → Nat → Int} (h : GQ n 0 1 A) (hb : ∀ i, i < n → 0 ≤ A i n ∧ A i n ≤ 4) (hn : n ≤ 9) (h0 : 0 < n) : ∃ u l : Nat, Dk A (n - 1) (n - 1) n = (u : Int) ∧ dt n A = (l : Int) ∧ u ≤ 1073741824 ∧ l ≤ 1073741824 ∧ 0 < l := by
  have hE := HE_n1 h hb hn
  obtain ⟨b1, -⟩ := GQ_col h hb (n - 1) (by omega) (n - 1) (Nat.le_refl _) (by omega)
  have b2 := hE.2.1 (n - 1) (n - 1) n (by omega) (Nat.le_refl _) (by omega) (by omega) (by omega)
  have b3 := (GQ_all h n (Nat.le_refl n)).1.1
  have b4 := GQ_pow h n (Nat.le_refl n)
  have b5 := (pow8 (n - 1) (by omega)).2.1
  rw [show n - 1 + 1 = n by omega] at b5
  exact ⟨(Dk A (n - 1) (n - 1) n).toNat, (dt n A).toNat, by omega, by omega, by omega, by omega, by omega⟩
theorem LA_col (rt dn : Nat → Bool) (Q : Nat → Nat) (n : Nat) : ∀ i, i < n → 0 ≤ LA rt dn Q n i n ∧ LA rt dn Q n i n ≤ 4 := fun i _ => by
  rw [LA_n]
  have := nbr_le rt dn (Q i)
  omega
theorem cell_of {R C : Nat} (hR : 1 ≤ R ∧ R ≤ 6) (hC : 1 ≤ C ∧ C ≤ 6) {x : Int32} (h : ¬ fX10_isCell (nI R) (nI C) x = 0) : ∃ n, n / 10 < 6 ∧ n % 10 < 6 ∧ x = nI n ∧ fX10_index x = nI (6 * (n / 10) + n % 10) := by
  unfold fX10_isCell at h
  by_cases h0 : x < 0
  · rw [if_pos h0] at h; exact absurd rfl h
  · obtain ⟨n, hn, rfl⟩ := nI_of h0
    have e1 : nI n / 10 = nI (n / 10) := nI_div hn (by decide) (by decide)
    have e2 : qrem (nI n) 10 = nI (n % 10) := nI_rem hn (by decide) (by decide)
    rw [if_neg h0, e1, e2] at h
    by_cases h1 : R ≤ n / 10
    · rw [if_pos (nI_le h1 (by omega))] at h; exact absurd rfl h
    · rw [if_neg (nI_ge (by omega) (by omega))] at h
      by_cases h2 : C ≤ n % 10
      · rw [if_pos (nI_le h2 (by omega))] at h; exact absurd rfl h
      · refine ⟨n, by omega, by omega, rfl, ?_⟩
        unfold fX10_index
        rw [e1, e2, lit_nI 6, nI_mul, nI_add]
theorem idx_inj {R C : Nat} (hR : 1 ≤ R ∧ R ≤ 6) (hC : 1 ≤ C ∧ C ≤ 6) {x y : Int32} (hx : ¬ fX10_isCell (nI R) (nI C) x = 0) (hy : ¬ fX10_isCell (nI R) (nI C) y = 0) (h : fX10_index x = fX10_index y) : x = y := by
  obtain ⟨n, a1, a2, rfl, a3⟩ := cell_of hR hC hx
  obtain ⟨m, b1, b2, rfl, b3⟩ := cell_of hR hC hy
  rw [a3, b3] at h
  have := nI_inj (by omega) (by omega) h
  rw [show n = m by omega]

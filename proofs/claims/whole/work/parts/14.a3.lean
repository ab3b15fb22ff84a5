/-! the class's small functions over bits -/
theorem lg_0 {x y : Int64} : lg_cmp x y = 0 ↔ x = y := by
  unfold lg_cmp
  constructor
  · intro h
    by_cases h1 : x > y
    · rw [if_pos h1] at h; exact absurd h (by decide)
    · rw [if_neg h1] at h
      by_cases h2 : x = y
      · exact h2
      · rw [if_neg h2] at h; exact absurd h (by decide)
  · intro h
    subst h
    rw [if_neg (by rw [gt_iff_lt, Int64.lt_iff_toInt_lt]; omega), if_pos rfl]
theorem tb_1 (p : Nat) : tb 1 p = decide (p = 0) := by
  by_cases h : p < 64
  · have key : ∀ p, p < 64 → tb 1 p = decide (p = 0) := by decide +kernel
    exact key p h
  · rw [tb_ge (by omega)]
    simp [show ¬ p = 0 by omega]
theorem and1_0 (x : Int64) : x &&& 1 = 0 ↔ tb x 0 = false := by
  constructor
  · intro h
    have h1 : tb (x &&& 1) 0 = tb 0 0 := by rw [h]
    rw [tb_and, tb_1, tb_0] at h1
    simpa using h1
  · intro h
    apply tb_ext
    intro p hp
    rw [tb_and, tb_1, tb_0]
    by_cases e : p = 0
    · subst e; rw [h]; rfl
    · simp [e]
theorem has_in (x : Int64) {p : Nat} (h : p < 48) : fX1_has x (nI p) = b2i (tb x p) := by
  unfold fX1_has
  rw [if_neg (nI_pos (by omega)), if_neg (show ¬ (48 : Int32) ≤ nI p from nI_ge (b := 48) h (by decide))]
  by_cases h1 : tb x p = true
  · rw [if_neg, h1]; rfl
    rw [lg_0, and1_0, tb_ushr x (by omega), Nat.zero_add, h1]; decide
  · have h2 : tb x p = false := by simpa using h1
    rw [if_pos, h2]; rfl
    rw [lg_0, and1_0, tb_ushr x (by omega), Nat.zero_add, h2]
theorem has_out (x : Int64) {p : Int32} (h : p < 0 ∨ (48 : Int32) ≤ p) : fX1_has x p = 0 := by
  unfold fX1_has
  by_cases h1 : p < 0
  · rw [if_pos h1]
  · rw [if_neg h1, if_pos (h.resolve_left h1)]
theorem bit_tb {p : Nat} (h : p < 48) (q : Nat) : tb (fX1_bit (nI p)) q = decide (q = p) := by
  unfold fX1_bit
  rw [if_neg (nI_pos (by omega)), if_pos (show nI p < (48 : Int32) from nI_lt (b := 48) h (by decide)), tb_shl 1 (by omega), tb_1]
  by_cases e : q = p
  · subst e; simp; omega
  · by_cases h1 : p ≤ q
    · simp [e, show ¬ q - p = 0 by omega]
    · simp [e, h1]
theorem near_tb (r d x : Int64) (p : Nat) : tb (fX1_near r d x) p = (tb x p || (decide (p < 64) && decide (1 ≤ p) && (tb x (p - 1) && tb r (p - 1))) || (tb x (p + 1) && tb r p) || (decide (p < 64) && decide (8 ≤ p) && (tb x (p - 8) && tb d (p - 8))) || (tb x (p + 8) && tb d p)) := by
  unfold fX1_near
  rw [tb_or, tb_or, tb_or, tb_or, tb_and, tb_and, lit_nI 1, lit_nI 8, tb_shl _ (by decide), tb_shl _ (by decide), tb_ushr _ (by decide), tb_ushr _ (by decide), tb_and, tb_and]
/-! sets of cells -/
theorem pl_lt {i : Nat} (h : i < 36) : pl i < 48 := by unfold pl; omega
theorem pl_mod {i : Nat} (h : i < 36) : pl i % 8 < 6 := by unfold pl; omega
theorem pl_un {i : Nat} (h : i < 36) : 6 * (pl i / 8) + pl i % 8 = i := by unfold pl; omega
theorem pl_inj {i j : Nat} (hi : i < 36) (hj : j < 36) (h : pl i = pl j) : i = j := by
  have h1 := pl_un hi
  have h2 := pl_un hj
  rw [h] at h1
  omega
theorem bs_pl {x : Int64} {S : Nat → Bool} (h : bs x S) {i : Nat} (hi : i < 36) : tb x (pl i) = S i := by
  rw [h (pl i), pl_un hi]
  simp [pl_lt hi, pl_mod hi]
theorem bs_not {x : Int64} {S : Nat → Bool} (h : bs x S) {p : Nat} (hp : ¬ (p % 8 < 6 ∧ p < 48)) : tb x p = false := by
  rw [h p]
  by_cases h1 : p % 8 < 6
  · simp [h1, show ¬ p < 48 by omega]
  · simp [h1]
theorem bs_of {x : Int64} {S : Nat → Bool} (h1 : ∀ i, i < 36 → tb x (pl i) = S i) (h2 : ∀ p, ¬ (p % 8 < 6 ∧ p < 48) → tb x p = false) : bs x S := by
  intro p
  by_cases h : p % 8 < 6 ∧ p < 48
  · have e : pl (6 * (p / 8) + p % 8) = p := by unfold pl; omega
    have := h1 (6 * (p / 8) + p % 8) (by omega)
    rw [e] at this
    rw [this]
    simp [h]
  · rw [h2 p h]
    by_cases h3 : p % 8 < 6
    · simp [h3, show ¬ p < 48 by omega]
    · simp [h3]
theorem bs_ext {x y : Int64} {S T : Nat → Bool} (hx : bs x S) (hy : bs y T) (h : ∀ i, i < 36 → S i = T i) : x = y := by
  apply tb_ext
  intro p _
  rw [hx p, hy p]
  by_cases h1 : p % 8 < 6 ∧ p < 48
  · rw [h _ (by omega)]
  · by_cases h3 : p % 8 < 6
    · simp [h3, show ¬ p < 48 by omega]
    · simp [h3]
theorem bs_congr {x : Int64} {S T : Nat → Bool} (hx : bs x S) (h : ∀ i, i < 36 → S i = T i) : bs x T :=
  bs_of (fun i hi => by rw [bs_pl hx hi, h i hi]) (fun p hp => bs_not hx hp)
theorem bs_eq {x y : Int64} {S T : Nat → Bool} (hx : bs x S) (hy : bs y T) : x = y ↔ ∀ i, i < 36 → S i = T i :=
  ⟨fun e i hi => by rw [← bs_pl hx hi, ← bs_pl hy hi, e], bs_ext hx hy⟩
theorem bs_and {x y : Int64} {S T : Nat → Bool} (hx : bs x S) (hy : bs y T) : bs (x &&& y) (fun i => S i && T i) :=
  bs_of (fun i hi => by rw [tb_and, bs_pl hx hi, bs_pl hy hi]) (fun p hp => by rw [tb_and, bs_not hx hp]; rfl)
theorem bs_or {x y : Int64} {S T : Nat → Bool} (hx : bs x S) (hy : bs y T) : bs (x ||| y) (fun i => S i || T i) :=
  bs_of (fun i hi => by rw [tb_or, bs_pl hx hi, bs_pl hy hi]) (fun p hp => by rw [tb_or, bs_not hx hp, bs_not hy hp]; rfl)
theorem bs_andn {x y : Int64} {S T : Nat → Bool} (hx : bs x S) (hy : bs y T) : bs (x &&& (y ^^^ (-1))) (fun i => S i && !T i) :=
  bs_of (fun i hi => by rw [tb_and, tb_not _ (by have := pl_lt hi; omega), bs_pl hx hi, bs_pl hy hi]) (fun p hp => by rw [tb_and, bs_not hx hp]; rfl)
theorem bs_bit {i : Nat} (h : i < 36) : bs (fX1_bit (nI (pl i))) (fun j => decide (j = i)) :=
  bs_of (fun j hj => by
    rw [bit_tb (pl_lt h)]
    by_cases e : j = i
    · subst e; simp
    · simp [e, show ¬ pl j = pl i from fun q => e (pl_inj hj h q)]) (fun p hp => by
    rw [bit_tb (pl_lt h)]
    have h1 := pl_lt h
    have h2 := pl_mod h
    simp only [decide_eq_false_iff_not]
    intro e
    subst e
    exact hp ⟨h2, h1⟩)
theorem bs_0 : bs 0 (fun _ => false) := fun p => by rw [tb_0]; simp
theorem bs_has {x : Int64} {S : Nat → Bool} (h : bs x S) {i : Nat} (hi : i < 36) : fX1_has x (nI (pl i)) = b2i (S i) := by
  rw [has_in x (pl_lt hi), bs_pl h hi]
/-- a set and its neighbours -/
def nearS (rt dn S : Nat → Bool) (i : Nat) : Bool := S i || (decide (0 < i % 6) && (S (i - 1) && rt (i - 1))) || (S (i + 1) && rt i) || (decide (6 ≤ i) && (S (i - 6) && dn (i - 6))) || (S (i + 6) && dn i)
theorem bs_near {r d x : Int64} {R C : Nat} {rt dn S : Nat → Bool} (hz : Mz R C rt dn) (hr : bs r rt) (hd : bs d dn) (hx : bs x S) : bs (fX1_near r d x) (nearS rt dn S) := by
  obtain ⟨⟨hR1, hR6⟩, ⟨hC1, hC6⟩, hrt, hdn⟩ := hz
  refine bs_of (fun i hi => ?_) (fun p hp => ?_)
  · rw [near_tb, bs_pl hx hi]
    unfold nearS
    have e1 : (decide (pl i < 64) && decide (1 ≤ pl i) && (tb x (pl i - 1) && tb r (pl i - 1))) = (decide (0 < i % 6) && (S (i - 1) && rt (i - 1))) := by
      by_cases h : 0 < i % 6
      · have e : pl i - 1 = pl (i - 1) := by unfold pl; omega
        rw [e, bs_pl hx (by omega), bs_pl hr (by omega)]
        have h1 : 1 ≤ pl i := by unfold pl; omega
        have h2 : pl i < 64 := by have := pl_lt hi; omega
        simp [h, h1, h2]
      · have e : tb r (pl i - 1) = false ∨ ¬ 1 ≤ pl i := by
          by_cases h1 : 1 ≤ pl i
          · exact Or.inl (bs_not hr (by unfold pl at h1 ⊢; omega))
          · exact Or.inr h1
        rcases e with e | e
        · simp [e, h]
        · simp [e, h]
    have e2 : (tb x (pl i + 1) && tb r (pl i)) = (S (i + 1) && rt i) := by
      rw [bs_pl hr hi]
      cases h : rt i with
      | false => simp
      | true =>
        have := hrt i h
        have e : pl i + 1 = pl (i + 1) := by unfold pl; omega
        rw [e, bs_pl hx (by omega)]
    have e3 : (decide (pl i < 64) && decide (8 ≤ pl i) && (tb x (pl i - 8) && tb d (pl i - 8))) = (decide (6 ≤ i) && (S (i - 6) && dn (i - 6))) := by
      by_cases h : 6 ≤ i
      · have e : pl i - 8 = pl (i - 6) := by unfold pl; omega
        rw [e, bs_pl hx (by omega), bs_pl hd (by omega)]
        have h1 : 8 ≤ pl i := by unfold pl; omega
        have h2 : pl i < 64 := by have := pl_lt hi; omega
        simp [h, h1, h2]
      · have h1 : ¬ 8 ≤ pl i := by unfold pl; omega
        simp [h, h1]
    have e4 : (tb x (pl i + 8) && tb d (pl i)) = (S (i + 6) && dn i) := by
      rw [bs_pl hd hi]
      cases h : dn i with
      | false => simp
      | true =>
        have := hdn i h
        have e : pl i + 8 = pl (i + 6) := by unfold pl; omega
        rw [e, bs_pl hx (by omega)]
    rw [e1, e2, e3, e4]
  · rw [near_tb, bs_not hx hp, bs_not hr hp, bs_not hd hp]
    have e1 : (decide (p < 64) && decide (1 ≤ p) && (tb x (p - 1) && tb r (p - 1))) = false := by
      by_cases h : (p - 1) % 8 < 6 ∧ p - 1 < 48
      · by_cases h0 : 1 ≤ p
        · have e : p - 1 = pl (6 * ((p - 1) / 8) + (p - 1) % 8) := by unfold pl; omega
          have hlt : 6 * ((p - 1) / 8) + (p - 1) % 8 < 36 := by omega
          rw [e, bs_pl hr hlt]
          cases h1 : rt (6 * ((p - 1) / 8) + (p - 1) % 8) with
          | false => simp
          | true => have := hrt _ h1; omega
        · simp [h0]
      · rw [bs_not hr h]; simp
    have e3 : (decide (p < 64) && decide (8 ≤ p) && (tb x (p - 8) && tb d (p - 8))) = false := by
      by_cases h : (p - 8) % 8 < 6 ∧ p - 8 < 48
      · by_cases h0 : 8 ≤ p
        · have e : p - 8 = pl (6 * ((p - 8) / 8) + (p - 8) % 8) := by unfold pl; omega
          have hlt : 6 * ((p - 8) / 8) + (p - 8) % 8 < 36 := by omega
          rw [e, bs_pl hd hlt]
          cases h1 : dn (6 * ((p - 8) / 8) + (p - 8) % 8) with
          | false => simp
          | true => have := hdn _ h1; omega
        · simp [h0]
      · rw [bs_not hd h]; simp
    rw [e1, e3]
    simp

/-! short words for the loops' bounds; a loop over the class's places -/
theorem y36 {k : Nat} (h : 36 ≤ k) (hk : k < 2 ^ 31) : (36 : Int32) ≤ nI k := nI_le (a := 36) h hk
theorem n36 {k : Nat} (h : k < 36) : ¬ (36 : Int32) ≤ nI k := nI_ge (b := 36) h (by decide)
theorem y48 {k : Nat} (h : 48 ≤ k) (hk : k < 2 ^ 31) : (48 : Int32) ≤ nI k := nI_le (a := 48) h hk
theorem n48 {k : Nat} (h : k < 48) : ¬ (48 : Int32) ≤ nI k := nI_ge (b := 48) h (by decide)
theorem y4 {k : Nat} (h : 4 ≤ k) (hk : k < 2 ^ 31) : (4 : Int32) ≤ nI k := nI_le (a := 4) h hk
theorem n4 {k : Nat} (h : k < 4) : ¬ (4 : Int32) ≤ nI k := nI_ge (b := 4) h (by decide)
theorem y3 {k : Nat} (h : 3 ≤ k) (hk : k < 2 ^ 31) : (3 : Int32) ≤ nI k := nI_le (a := 3) h hk
theorem n3 {k : Nat} (h : k < 3) : ¬ (3 : Int32) ≤ nI k := nI_ge (b := 3) h (by decide)
theorem y2l {k : Nat} (h : 2 < k) (hk : k < 2 ^ 31) : (2 : Int32) < nI k := nI_lt (a := 2) h hk
theorem n2l {k : Nat} (h : k ≤ 2) : ¬ (2 : Int32) < nI k := nI_nlt (a := 2) h (by decide)
theorem b0f : b2i false = 0 := rfl
theorem b0t : ¬ b2i true = 0 := by decide
theorem p5 {n : Nat} (h : n < 5000) : n < qFU := h
/-- how many cells lie ahead of a place -/
def ck (k : Nat) : Nat := 6 * (k / 8) + min (k % 8) 6
theorem ck_pl {j : Nat} : ck (pl j) = j := by unfold ck pl; omega
theorem ck_pl1 {j : Nat} : ck (pl j + 1) = j + 1 := by unfold ck pl; omega
theorem ck_no {k : Nat} (h : ¬ k % 8 < 6) : ck (k + 1) = ck k := by unfold ck; omega
theorem qlp_pl {S E : Type} {f : S → Option (S ⊕ E)} (J : Nat → Nat → S → Prop) (post : E → Prop)
    (h1 : ∀ j s, j < 36 → J (pl j) j s → ∃ s', f s = some (.inl s') ∧ J (pl j + 1) (j + 1) s')
    (h2 : ∀ k j s, k < 48 → ¬ k % 8 < 6 → J k j s → ∃ s', f s = some (.inl s') ∧ J (k + 1) j s')
    (h3 : ∀ s, J 48 36 s → ∃ e, f s = some (.inr e) ∧ post e) (s : S) (h0 : J 0 0 s) : ∃ e, qlp qFU f s = some e ∧ post e := by
  refine qlp_idx (fun k s => J k (ck k) s) 48 post (fun k s hk hJ => ?_) qFU (qFU_gt (by decide)) s h0
  by_cases h : k = 48
  · subst h
    exact Or.inr (h3 s hJ)
  · left
    refine ⟨by omega, ?_⟩
    by_cases q : k % 8 < 6
    · have e : k = pl (ck k) := by unfold pl ck; omega
      obtain ⟨s', g1, g2⟩ := h1 (ck k) s (by unfold ck; omega) (by rw [← e]; exact hJ)
      refine ⟨s', g1, ?_⟩
      rw [← e] at g2
      have e2 : ck (k + 1) = ck k + 1 := by unfold ck; omega
      show J (k + 1) (ck (k + 1)) s'
      rw [e2]
      exact g2
    · obtain ⟨s', g1, g2⟩ := h2 k (ck k) s (by omega) q hJ
      refine ⟨s', g1, ?_⟩
      show J (k + 1) (ck (k + 1)) s'
      rw [ck_no q]
      exact g2
theorem Cbes_out : ∀ R, R < 7 → ∀ C, C < 7 → ∀ p, p < 48 → ∀ s, s < 4 → (tb (cwv R C) p || decide (fX1_beside (cwv R C) (nI p) (nI s) = -1)) = true := by decide +kernel
theorem Cbeside_out {R C : Nat} {rt dn : Nat → Bool} (hz : Mz R C rt dn) {p s : Nat} (hp : p < 48) (hs : s < 4) (h : tb (cwv R C) p = false) : fX1_beside (cwv R C) (nI p) (nI s) = -1 := by
  have := Cbes_out R (by have := hz.1; omega) C (by have := hz.2.1; omega) p hp s hs
  rw [h, Bool.false_or] at this
  exact of_decide_eq_true this
theorem out_no {R C : Nat} {rt dn : Nat → Bool} (hz : Mz R C rt dn) {k : Nat} (h : ¬ k % 8 < 6) : tb (cwv R C) k = false := bs_not (cwv_ok hz.1.2 hz.2.1.2) (fun q => h q.1)
theorem out_cell {R C : Nat} {rt dn : Nat → Bool} (hz : Mz R C rt dn) {j : Nat} (hj : j < 36) (h : cellS R C j = false) : tb (cwv R C) (pl j) = false := by rw [bs_pl (cwv_ok hz.1.2 hz.2.1.2) hj, h]
theorem op_out {R C : Nat} {rt dn : Nat → Bool} (hz : Mz R C rt dn) {j s : Nat} (hj : cellS R C j = false) (h : s = 1 ∨ s = 2) : opS rt dn j s = false := by
  cases q : opS rt dn j s with
  | false => rfl
  | true =>
    have hn : ¬ isC R C j := fun g => by rw [cellS_iff.mpr g] at hj; cases hj
    obtain ⟨-, -, hr, hd⟩ := hz
    unfold opS at q
    rcases h with rfl | rfl
    · have := hr j (by simpa using q)
      exact absurd ⟨this.1, by omega⟩ hn
    · have := hd j (by simpa using q)
      exact absurd ⟨by omega, this.2⟩ hn
/-- isHedge at a cell -/
theorem Chedge {R C : Nat} {rt dn : Nat → Bool} {r d : Int64} (hz : Mz R C rt dn) (hr : bs r rt) (hd : bs d dn) {j s : Nat} (hj : j < 36) (hs : s < 4) : fX1_isHedge (cwv R C) r d (nI (pl j)) (nI s) = b2i ((cellS R C j && rimB R C j s) && !opS rt dn j s) := by
  unfold fX1_isHedge
  cases hc : cellS R C j with
  | false =>
    rw [Cbeside_out hz (pl_lt hj) hs (out_cell hz hj hc), if_pos rfl]
    rfl
  | true =>
    have ci := cellS_iff.mp hc
    rw [Cbeside R (by have := hz.1; omega) C (by have := hz.2.1; omega) j hj s hs ci, Copen hr hd hj hs]
    cases hrim : rimB R C j s with
    | false => rw [if_neg Bool.false_ne_true, if_pos rfl]; rfl
    | true =>
      have hmv := (rim_lt hz.1.2 hz.2.1.2 hs ci hrim).1
      have hp := pl_lt hmv
      rw [if_pos rfl, if_neg (nI_m1 (by omega))]
      cases opS rt dn j s <;> rfl
theorem Chedge_out {R C : Nat} {rt dn : Nat → Bool} (hz : Mz R C rt dn) (r d : Int64) {k s : Nat} (hk : k < 48) (hs : s < 4) (h : ¬ k % 8 < 6) : fX1_isHedge (cwv R C) r d (nI k) (nI s) = 0 := by
  unfold fX1_isHedge
  rw [Cbeside_out hz hk hs (out_no hz h), if_pos rfl]
theorem farV_m9 {d : Nat} (h : d = 9999 ∨ d < 36) : farV d = -9 ↔ d = 9999 := by
  unfold farV
  by_cases e : d = 9999
  · rw [if_pos e]; exact ⟨fun _ => e, fun _ => rfl⟩
  · rw [if_neg e]
    exact ⟨fun q => absurd q (nI_m9 (by omega)), fun q => absurd q e⟩
theorem farV_lt {d : Nat} (h : d < 36) : farV d = nI d := if_neg (by omega)

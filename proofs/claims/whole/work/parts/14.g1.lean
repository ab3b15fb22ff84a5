/-! the least place of a set; parts -/
theorem count_bit : ∀ q, q < 48 → fJ13_bitCount_95d88 (fX1_bit (nI q) - 1) = nI q := by decide +kernel
theorem tb_neg (x : Int64) (p : Nat) : tb (-x) p = (tb x p ^^ (decide (p < 64) && decide (∃ j, j < p ∧ tb x j = true))) := by
  unfold tb
  rw [Int64.toBitVec_neg, BitVec.getLsbD_neg]
theorem least_at {x : Int64} {q : Nat} (hq : q < 48) (h1 : tb x q = true) (h2 : ∀ p, p < q → tb x p = false) : fX1_least x = nI q := by
  have e : x &&& -x = fX1_bit (nI q) := by
    apply tb_ext
    intro p hp
    rw [tb_and, tb_neg, bit_tb hq]
    by_cases e : p = q
    · subst e
      have : ¬ ∃ j, j < p ∧ tb x j = true := by
        rintro ⟨j, hj, g⟩
        rw [h2 j hj] at g; cases g
      rw [h1, decide_eq_false this, decide_eq_true (show p = p from rfl)]
      simp
    · rw [decide_eq_false e]
      by_cases l : p < q
      · rw [h2 p l]; rfl
      · have : ∃ j, j < p ∧ tb x j = true := ⟨q, by omega, h1⟩
        rw [decide_eq_true this, decide_eq_true hp]
        cases tb x p <;> rfl
  have hx : ¬ lg_cmp x 0 = 0 := by
    rw [lg_0]
    rintro rfl
    rw [tb_0] at h1; cases h1
  unfold fX1_least
  rw [if_neg hx, e, count_bit q hq]
def sg (i : Nat) : Nat → Bool := fun j => decide (j = i)
def lv (rt dn : Nat → Bool) (i k j : Nat) : Bool := lev rt dn (fun _ => true) (sg i) k j
def cnn (rt dn : Nat → Bool) (i j : Nat) : Bool := lv rt dn i 36 j
theorem lv_0 {rt dn : Nat → Bool} {i j : Nat} : lv rt dn i 0 j = true ↔ j = i := decide_eq_true_iff
theorem lv_s {R C : Nat} {rt dn : Nat → Bool} (hz : Mz R C rt dn) {i k j : Nat} : lv rt dn i (k + 1) j = true ↔ lv rt dn i k j = true ∨ ∃ s, s < 4 ∧ opS rt dn j s = true ∧ lv rt dn i k (mvN j s) = true := by
  show (nearS rt dn (lev rt dn (fun _ => true) (sg i) k) j && true) = true ↔ _
  rw [Bool.and_true, near_iff hz]
  exact Iff.rfl
theorem lv_trans {R C : Nat} {rt dn : Nat → Bool} (hz : Mz R C rt dn) {i j k : Nat} (h : lv rt dn i k j = true) : ∀ m t, lv rt dn j m t = true → lv rt dn i (k + m) t = true
  | 0, t, q => by rw [lv_0] at q; rw [q]; exact h
  | m + 1, t, q => by
    have ih := lv_trans hz h m
    show lv rt dn i (k + m + 1) t = true
    rw [lv_s hz] at q ⊢
    rcases q with q | ⟨s, hs, ho, q⟩
    · exact Or.inl (ih t q)
    · exact Or.inr ⟨s, hs, ho, ih _ q⟩
theorem lv_symm {R C : Nat} {rt dn : Nat → Bool} (hz : Mz R C rt dn) {i : Nat} : ∀ k j, lv rt dn i k j = true → ∃ m, lv rt dn j m i = true
  | 0, j, q => by rw [lv_0] at q; exact ⟨0, lv_0.mpr q.symm⟩
  | k + 1, j, q => by
    have ih := lv_symm hz (i := i) k
    rw [lv_s hz] at q
    rcases q with q | ⟨s, hs, ho, q⟩
    · exact ih j q
    · obtain ⟨m, hm⟩ := ih _ q
      obtain ⟨a1, a2, a3⟩ := op_sym hz hs ho
      have h1 : lv rt dn j 1 (mvN j s) = true := (lv_s hz).mpr (Or.inr ⟨oppN s, a1, a2, by rw [a3]; exact lv_0.mpr rfl⟩)
      exact ⟨1 + m, lv_trans hz h1 m i hm⟩
theorem LF_ex {R C : Nat} {rt dn : Nat → Bool} (hz : Mz R C rt dn) {i : Nat} (hi : isC R C i) : ∃ D, LF R C rt dn (fun _ => false) i D := by
  obtain ⟨-, -, D, -, -, h⟩ := Mlay (sh := fun _ => false) (mr := fun i => b2i (rt i)) (md := fun i => b2i (dn i)) (ms := fun _ => 0) hz (fun _ _ => ⟨rfl, rfl⟩) (fun _ _ => rfl) hi (fun _ => 0) (fun _ => 0)
  exact ⟨D, h⟩
theorem LF_lv {R C : Nat} {rt dn : Nat → Bool} (hz : Mz R C rt dn) {i : Nat} {D : Nat → Nat} (h : LF R C rt dn (fun _ => false) i D) {k j : Nat} (hk : k < 9999) (hj : j < 36) : lv rt dn i k j = true ↔ D j ≤ k := LF_lev hz rfl h k hk j hj
theorem cnn_iff {R C : Nat} {rt dn : Nat → Bool} (hz : Mz R C rt dn) {i : Nat} {D : Nat → Nat} (h : LF R C rt dn (fun _ => false) i D) {j : Nat} (hj : j < 36) : cnn rt dn i j = decide (D j ≠ 9999) := by
  have h1 := LF_lv hz h (k := 36) (by decide) hj
  have h2 := h.2.1 j hj
  rw [Bool.eq_iff_iff]
  show lv rt dn i 36 j = true ↔ _
  rw [h1, decide_eq_true_eq]
  omega
theorem lv_cnn {R C : Nat} {rt dn : Nat → Bool} (hz : Mz R C rt dn) {i : Nat} (hi : isC R C i) {k j : Nat} (hj : j < 36) (h : lv rt dn i k j = true) : cnn rt dn i j = true := by
  obtain ⟨D, hL⟩ := LF_ex hz hi
  by_cases hk : k ≤ 36
  · unfold cnn
    unfold lv at h ⊢
    exact lev_mono (T := fun _ => true) (S := sg i) (fun _ _ => rfl) hk j h
  · have hf : ∀ t, t < 36 → lev rt dn (fun _ => true) (sg i) (36 + 1) t = lev rt dn (fun _ => true) (sg i) 36 t := by
      intro t ht
      have h1 := LF_lv hz hL (k := 36) (by decide) ht
      have h2 := LF_lv hz hL (k := 37) (by decide) ht
      have h3 := hL.2.1 t ht
      rw [Bool.eq_iff_iff]
      show lv rt dn i 37 t = true ↔ lv rt dn i 36 t = true
      rw [h1, h2]
      omega
    have := lev_fix hz hf (k - 36) j hj
    rw [show 36 + (k - 36) = k by omega] at this
    show lev rt dn (fun _ => true) (sg i) 36 j = true
    rw [← this]
    exact h
theorem cnn_self {rt dn : Nat → Bool} (i : Nat) : cnn rt dn i i = true := lev_mono (j := 0) (fun _ _ => rfl) (by omega) i (decide_eq_true rfl)
theorem cnn_symm {R C : Nat} {rt dn : Nat → Bool} (hz : Mz R C rt dn) {i j : Nat} (hi : isC R C i) (hj : isC R C j) (h : cnn rt dn i j = true) : cnn rt dn j i = true := by
  obtain ⟨m, hm⟩ := lv_symm hz 36 j h
  exact lv_cnn hz hj (isC_lt hz hi) hm
theorem cnn_trans {R C : Nat} {rt dn : Nat → Bool} (hz : Mz R C rt dn) {i j t : Nat} (hi : isC R C i) (ht : t < 36) (h1 : cnn rt dn i j = true) (h2 : cnn rt dn j t = true) : cnn rt dn i t = true :=
  lv_cnn hz hi ht (lv_trans hz h1 36 t h2)
theorem cnn_isC {R C : Nat} {rt dn : Nat → Bool} (hz : Mz R C rt dn) {i j : Nat} (hi : isC R C i) (hj : j < 36) (h : cnn rt dn i j = true) : isC R C j := by
  obtain ⟨D, hL⟩ := LF_ex hz hi
  rw [cnn_iff hz hL hj, decide_eq_true_eq] at h
  rcases hL.2.1 j hj with q | q
  · exact absurd q h
  · exact q.2
def ls (f : Nat → Bool) : Nat → Nat
  | 0 => 99
  | k + 1 => if ls f k = 99 then (if f k then k else 99) else ls f k
theorem ls_99 {f : Nat → Bool} : ∀ k, k ≤ 99 → (ls f k = 99 ↔ ∀ i, i < k → f i = false)
  | 0, _ => ⟨fun _ i hi => absurd hi (Nat.not_lt_zero i), fun _ => rfl⟩
  | k + 1, hk => by
    have ih := ls_99 (f := f) k (by omega)
    show (if ls f k = 99 then (if f k then k else 99) else ls f k) = 99 ↔ _
    by_cases e : ls f k = 99
    · rw [if_pos e]
      have h1 := ih.mp e
      cases hf : f k with
      | true =>
        rw [if_pos rfl]
        refine ⟨fun q => by omega, fun q => ?_⟩
        have := q k (by omega)
        rw [hf] at this; cases this
      | false =>
        rw [if_neg Bool.false_ne_true]
        refine ⟨fun _ i hi => ?_, fun _ => rfl⟩
        by_cases g : i = k
        · rw [g]; exact hf
        · exact h1 i (by omega)
    · rw [if_neg e]
      refine ⟨fun q => absurd q e, fun q => absurd (ih.mpr (fun i hi => q i (by omega))) e⟩
theorem ls_at {f : Nat → Bool} : ∀ k, k ≤ 99 → ls f k ≠ 99 → ls f k < k ∧ f (ls f k) = true ∧ ∀ i, i < ls f k → f i = false
  | 0, _, q => absurd rfl q
  | k + 1, hk, q => by
    have ih := ls_at (f := f) k (by omega)
    have e0 : ls f (k + 1) = if ls f k = 99 then (if f k then k else 99) else ls f k := rfl
    by_cases e : ls f k = 99
    · rw [if_pos e] at e0
      cases hf : f k with
      | true =>
        rw [hf, if_pos rfl] at e0
        rw [e0]
        exact ⟨by omega, hf, (ls_99 k (by omega)).mp e⟩
      | false =>
        rw [hf, if_neg Bool.false_ne_true] at e0
        exact absurd e0 q
    · rw [if_neg e] at e0
      rw [e0]
      have := ih e
      exact ⟨by omega, this.2⟩
/-- the first cell of the part of j, among those below k -/
def fc (R C : Nat) (rt dn : Nat → Bool) (j : Nat) : Nat → Bool := fun i => cellS R C i && cnn rt dn i j
set_option maxRecDepth 20000 in
theorem Cleast {R C : Nat} {rt dn : Nat → Bool} (hz : Mz R C rt dn) {i : Nat} (hi : isC R C i) {D : Nat → Nat} (hL : LF R C rt dn (fun _ => false) i D) {x : Int64} (hx : bs x (fun j => decide (D j ≠ 9999))) :
    ls (fc R C rt dn i) 36 < 36 ∧ fX1_least x = nI (pl (ls (fc R C rt dn i) 36)) := by
  have h36 := isC_lt hz hi
  have hn : ls (fc R C rt dn i) 36 ≠ 99 := fun q => by
    have := (ls_99 36 (by decide)).mp q i h36
    unfold fc at this
    rw [cellS_iff.mpr hi, cnn_self] at this
    cases this
  obtain ⟨a1, a2, a3⟩ := ls_at 36 (by decide) hn
  have hS : ∀ j, j < 36 → (fc R C rt dn i j = decide (D j ≠ 9999)) := by
    intro j hj
    rw [← cnn_iff hz hL hj, Bool.eq_iff_iff]
    unfold fc
    rw [Bool.and_eq_true, cellS_iff]
    exact ⟨fun q => cnn_symm hz q.1 hi q.2, fun q => ⟨cnn_isC hz hi hj q, cnn_symm hz hi (cnn_isC hz hi hj q) q⟩⟩
  refine ⟨a1, least_at (pl_lt a1) ?_ ?_⟩
  · rw [bs_pl hx a1]
    have := hS _ a1
    rw [a2] at this
    exact this.symm
  · intro p hp
    have hl := pl_lt a1
    rcases place_two (k := p) (by omega) with hno | ⟨j, hj, rfl⟩
    · exact bs_not hx hno
    · rw [bs_pl hx hj]
      have hlt : j < ls (fc R C rt dn i) 36 := by unfold pl at hp; omega
      have := hS j hj
      rw [a3 j hlt] at this
      exact this.symm

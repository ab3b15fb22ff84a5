/-! pivots are positive: matrices with signs and row sums that stay -/
theorem pos_le {p x : Int} (hp : 0 < p) (h : p * x ≤ 0) : x ≤ 0 := by
  apply Classical.byContradiction
  intro q
  have := Int.mul_pos hp (show 0 < x by omega)
  omega
theorem pos_ge {p x : Int} (hp : 0 < p) (h : 0 ≤ p * x) : 0 ≤ x := by
  apply Classical.byContradiction
  intro q
  have := Int.mul_pos hp (show 0 < -x by omega)
  rw [Int.mul_neg] at this
  omega
theorem pos_lt {p x : Int} (hp : 0 < p) (h : p * x < 0) : x < 0 := by
  apply Classical.byContradiction
  intro q
  have := Int.mul_nonneg (show 0 ≤ p by omega) (show 0 ≤ x by omega)
  omega
theorem pos_gt {p x : Int} (hp : 0 < p) (h : 0 < p * x) : 0 < x := by
  apply Classical.byContradiction
  intro q
  have := Int.mul_nonneg (show 0 ≤ p by omega) (show 0 ≤ -x by omega)
  rw [Int.mul_neg] at this
  omega
theorem npnp {a b : Int} (ha : a ≤ 0) (hb : b ≤ 0) : 0 ≤ a * b := by
  have := Int.mul_nonneg (show 0 ≤ -a by omega) (show 0 ≤ -b by omega)
  rw [Int.neg_mul_neg] at this
  exact this
theorem nn_pos {a b : Int} (ha : a < 0) (hb : b < 0) : 0 < a * b := by
  have := Int.mul_pos (show 0 < -a by omega) (show 0 < -b by omega)
  rw [Int.neg_mul_neg] at this
  exact this
theorem pn {a b : Int} (ha : 0 ≤ a) (hb : b ≤ 0) : a * b ≤ 0 := by
  have := Int.mul_nonneg ha (show 0 ≤ -b by omega)
  rw [Int.mul_neg] at this
  omega
theorem np {a b : Int} (ha : a ≤ 0) (hb : 0 ≤ b) : a * b ≤ 0 := by rw [Int.mul_comm]; exact pn hb ha
theorem sm_pick {f : Nat → Int} {b : Nat} : ∀ n, b < n → sm f n = sm (fun c => if c = b then 0 else f c) n + f b
  | 0, h => absurd h (Nat.not_lt_zero b)
  | n + 1, h => by
    show sm f n + f n = sm (fun c => if c = b then 0 else f c) n + (if n = b then 0 else f n) + f b
    by_cases e : n = b
    · subst e
      rw [if_pos rfl, sm_congr (f := fun c => if c = n then 0 else f c) (g := f) n (fun i hi => if_neg (by omega))]
      omega
    · rw [if_neg e, sm_pick (b := b) n (by omega)]
      omega
theorem sm_np {f : Nat → Int} : ∀ n, (∀ c, c < n → f c ≤ 0) → sm f n ≤ 0
  | 0, _ => Int.le_refl 0
  | n + 1, h => by
    have := sm_np n (fun c hc => h c (by omega))
    have := h n (by omega)
    show sm f n + f n ≤ 0
    omega
theorem sm_le1 {f : Nat → Int} {a n : Nat} (ha : a < n) (h : ∀ c, c < n → c ≠ a → f c ≤ 0) : sm f n ≤ f a := by
  rw [sm_pick n ha]
  have := sm_np (f := fun c => if c = a then 0 else f c) n (fun c hc => by
    try dsimp only
    by_cases e : c = a
    · rw [if_pos e]; exact Int.le_refl 0
    · rw [if_neg e]; exact h c hc e)
  omega
theorem sm_le2 {f : Nat → Int} {a b n : Nat} (ha : a < n) (hb : b < n) (hab : a ≠ b) (h : ∀ c, c < n → c ≠ a → f c ≤ 0) : sm f n ≤ f a + f b := by
  rw [sm_pick n hb]
  have := sm_le1 (f := fun c => if c = b then 0 else f c) ha (fun c hc e => by
    try dsimp only
    by_cases q : c = b
    · rw [if_pos q]; exact Int.le_refl 0
    · rw [if_neg q]; exact h c hc e)
  try dsimp only at this
  rw [if_neg hab] at this
  omega
def rS (n k : Nat) (M : Nat → Nat → Int) (i : Nat) : Int := sm (fun j => if j < k then 0 else M i j) n
def Pt' (n k : Nat) (M : Nat → Nat → Int) : Nat → Nat → Prop
  | 0, i => 0 < rS n k M i
  | m + 1, i => Pt' n k M m i ∨ ∃ j, k ≤ j ∧ j < n ∧ M i j < 0 ∧ Pt' n k M m j
def GQ (n k : Nat) (p : Int) (M : Nat → Nat → Int) : Prop := 0 < p ∧ (∀ i j, k ≤ i → i < n → k ≤ j → j < n → M i j = M j i) ∧ (∀ i j, k ≤ i → i < n → k ≤ j → j < n → i ≠ j → M i j ≤ 0) ∧ (∀ i, k ≤ i → i < n → 0 ≤ rS n k M i) ∧ (∀ i, k ≤ i → i < n → M i i ≤ 4 * p) ∧ (∀ i, k ≤ i → i < n → ∃ m, Pt' n k M m i)
theorem rS_split {n k : Nat} (hk : k < n) (M : Nat → Nat → Int) (i : Nat) : rS n k M i = rS n (k + 1) M i + M i k := by
  unfold rS
  rw [sm_pick n hk]
  try dsimp only
  rw [if_neg (Nat.lt_irrefl k)]
  congr 1
  refine sm_congr n (fun c _ => ?_)
  by_cases e : c = k
  · rw [if_pos e, if_pos (by omega)]
  · rw [if_neg e]
    by_cases l : c < k
    · rw [if_pos l, if_pos (by omega)]
    · rw [if_neg l, if_neg (by omega)]
/-- a row's diagonal outweighs each of the others -/
theorem GQ_dom {n k : Nat} {p : Int} {M : Nat → Nat → Int} (h : GQ n k p M) {i j : Nat} (hi : k ≤ i) (hin : i < n) (hj : k ≤ j) (hjn : j < n) (e : i ≠ j) : - M i j ≤ M i i ∧ 0 ≤ M i i := by
  obtain ⟨-, -, h3, h4, -, -⟩ := h
  have h0 := h4 i hi hin
  have hle := sm_le2 (f := fun j => if j < k then 0 else M i j) hin hjn e (fun c hc ec => by
    try dsimp only
    by_cases l : c < k
    · rw [if_pos l]; exact Int.le_refl 0
    · rw [if_neg l]; exact h3 i c hi hin (by omega) hc (fun q => ec q.symm))
  try dsimp only at hle
  rw [if_neg (show ¬ i < k by omega), if_neg (show ¬ j < k by omega)] at hle
  have := h3 i j hi hin hj hjn e
  unfold rS at h0
  omega
theorem GQ_diag {n k : Nat} {p : Int} {M : Nat → Nat → Int} (h : GQ n k p M) {i : Nat} (hi : k ≤ i) (hin : i < n) : 0 ≤ M i i := by
  obtain ⟨-, -, h3, h4, -, -⟩ := h
  have h0 := h4 i hi hin
  have hle := sm_le1 (f := fun j => if j < k then 0 else M i j) hin (fun c hc ec => by
    try dsimp only
    by_cases l : c < k
    · rw [if_pos l]; exact Int.le_refl 0
    · rw [if_neg l]; exact h3 i c hi hin (by omega) hc (fun q => ec q.symm))
  try dsimp only at hle
  rw [if_neg (show ¬ i < k by omega)] at hle
  unfold rS at h0
  omega
theorem GQ_piv {n k : Nat} {p : Int} {M : Nat → Nat → Int} (h : GQ n k p M) (hk : k < n) : 0 < M k k := by
  apply Classical.byContradiction
  intro q
  have h0 := GQ_diag h (Nat.le_refl k) hk
  have hz : M k k = 0 := by omega
  have hrow : ∀ j, k ≤ j → j < n → M k j = 0 := fun j hj hjn => by
    by_cases e : k = j
    · rw [← e]; exact hz
    · have h1 := (GQ_dom h (Nat.le_refl k) hk hj hjn e).1
      have h2 := h.2.2.1 k j (Nat.le_refl k) hk hj hjn e
      omega
  have hrs : rS n k M k = 0 := sm_0 n (fun c hc => by
    by_cases l : c < k
    · rw [if_pos l]
    · rw [if_neg l]; exact hrow c (by omega) hc)
  have hno : ∀ m, ¬ Pt' n k M m k := by
    intro m
    induction m with
    | zero => intro w; have w : 0 < rS n k M k := w; omega
    | succ m ih =>
      rintro (w | ⟨j, h1, h2, h3, -⟩)
      · exact ih w
      · rw [hrow j h1 h2] at h3; omega
  obtain ⟨m, hm⟩ := h.2.2.2.2.2 k (Nat.le_refl k) hk
  exact hno m hm
theorem Pt_mono {n k : Nat} {M : Nat → Nat → Int} {m i : Nat} (h : Pt' n k M m i) : Pt' n k M (m + 1) i := Or.inl h
theorem GQ_step {n k : Nat} {p : Int} {M M' : Nat → Nat → Int} (h : GQ n k p M) (hk : k < n) (hrec : ∀ i j, k < i → i < n → k < j → j < n → p * M' i j = M k k * M i j - M i k * M k j) : GQ n (k + 1) (M k k) M' := by
  have hq := GQ_piv h hk
  have hdom := fun {i j : Nat} => GQ_dom h (i := i) (j := j)
  obtain ⟨hp, hs, ho, hr, hd, hc⟩ := h
  have ik : ∀ i, k < i → i < n → M i k ≤ 0 := fun i h1 h2 => ho i k (by omega) h2 (Nat.le_refl k) hk (by omega)
  have ki : ∀ i, k < i → i < n → M k i ≤ 0 := fun i h1 h2 => ho k i (Nat.le_refl k) hk (by omega) h2 (by omega)
  have hrk := hr k (Nat.le_refl k) hk
  have rsum : ∀ i, k < i → i < n → p * rS n (k + 1) M' i = M k k * rS n k M i - M i k * rS n k M k := by
    intro i h1 h2
    have e : p * rS n (k + 1) M' i = M k k * rS n (k + 1) M i - M i k * rS n (k + 1) M k := by
      unfold rS
      rw [← sm_mul, ← sm_mul, ← sm_mul]
      have : ∀ (f g : Nat → Int) n, sm f n - sm g n = sm (fun i => f i + (-1) * g i) n := fun f g n => by
        rw [sm_add, sm_mul]; omega
      rw [this]
      refine sm_congr n (fun c hc => ?_)
      by_cases l : c < k + 1
      · rw [if_pos l, if_pos l, if_pos l, Int.mul_zero, Int.mul_zero, Int.mul_zero]; rfl
      · rw [if_neg l, if_neg l, if_neg l, hrec i c h1 h2 (by omega) hc]
        omega
    rw [e, rS_split hk M i, rS_split hk M k, Int.mul_add, Int.mul_add, Int.mul_comm (M i k) (M k k)]
    omega
  have neg1 : ∀ i j, k < i → i < n → k < j → j < n → M i j < 0 → M' i j < 0 := fun i j h1 h2 h3 h4 w => by
    refine pos_lt hp ?_
    rw [hrec i j h1 h2 h3 h4]
    have a1 := npnp (ik i h1 h2) (ki j h3 h4)
    have a2 := Int.mul_pos hq (show 0 < - M i j by omega)
    rw [Int.mul_neg] at a2
    omega
  have neg2 : ∀ i j, k < i → i < n → k < j → j < n → i ≠ j → M i k < 0 → M k j < 0 → M' i j < 0 := fun i j h1 h2 h3 h4 e w1 w2 => by
    refine pos_lt hp ?_
    rw [hrec i j h1 h2 h3 h4]
    have a1 := nn_pos w1 w2
    have a2 := pn (show 0 ≤ M k k by omega) (ho i j (by omega) h2 (by omega) h4 e)
    omega
  have rs1 : ∀ i, k < i → i < n → 0 < rS n k M i → 0 < rS n (k + 1) M' i := fun i h1 h2 w => by
    refine pos_gt hp ?_
    rw [rsum i h1 h2]
    have a1 := Int.mul_pos hq w
    have a2 := np (ik i h1 h2) hrk
    omega
  have rs2 : ∀ i, k < i → i < n → M i k < 0 → 0 < rS n k M k → 0 < rS n (k + 1) M' i := fun i h1 h2 w1 w2 => by
    refine pos_gt hp ?_
    rw [rsum i h1 h2]
    have a1 := Int.mul_nonneg (show 0 ≤ M k k by omega) (hr i (by omega) h2)
    have a2 := Int.mul_pos (show 0 < - M i k by omega) w2
    rw [Int.neg_mul] at a2
    omega
  have path : ∀ m, (∀ i, k < i → i < n → Pt' n k M m i → Pt' n (k + 1) M' m i) ∧ (Pt' n k M m k → ∀ i, k < i → i < n → M i k < 0 → Pt' n (k + 1) M' m i) := by
    intro m
    induction m with
    | zero => exact ⟨fun i h1 h2 w => rs1 i h1 h2 w, fun w i h1 h2 w1 => rs2 i h1 h2 w1 w⟩
    | succ m ih =>
      refine ⟨fun i h1 h2 w => ?_, fun w i h1 h2 w1 => ?_⟩
      · rcases w with w | ⟨j, a1, a2, a3, a4⟩
        · exact Pt_mono (ih.1 i h1 h2 w)
        · by_cases e : j = k
          · subst e
            exact Pt_mono (ih.2 a4 i h1 h2 a3)
          · exact Or.inr ⟨j, by omega, a2, neg1 i j h1 h2 (by omega) a2 a3, ih.1 j (by omega) a2 a4⟩
      · rcases w with w | ⟨j, a1, a2, a3, a4⟩
        · exact Pt_mono (ih.2 w i h1 h2 w1)
        · by_cases e : j = k
          · subst e
            omega
          · by_cases ij : i = j
            · subst ij
              exact Pt_mono (ih.1 i h1 h2 a4)
            · exact Or.inr ⟨j, by omega, a2, neg2 i j h1 h2 (by omega) a2 ij w1 a3, ih.1 j (by omega) a2 a4⟩
  refine ⟨hq, fun i j h1 h2 h3 h4 => ?_, fun i j h1 h2 h3 h4 e => ?_, fun i h1 h2 => ?_, fun i h1 h2 => ?_, fun i h1 h2 => ?_⟩
  · have a1 := hrec i j (by omega) h2 (by omega) h4
    have a2 := hrec j i (by omega) h4 (by omega) h2
    rw [hs i j (by omega) h2 (by omega) h4, hs i k (by omega) h2 (Nat.le_refl k) hk, hs k j (Nat.le_refl k) hk (by omega) h4, Int.mul_comm (M k i)] at a1
    rw [← a2] at a1
    exact Int.eq_of_mul_eq_mul_left (by omega) a1
  · refine pos_le hp ?_
    rw [hrec i j (by omega) h2 (by omega) h4]
    have a1 := npnp (ik i (by omega) h2) (ki j (by omega) h4)
    have a2 := pn (show 0 ≤ M k k by omega) (ho i j (by omega) h2 (by omega) h4 e)
    omega
  · refine pos_ge hp ?_
    rw [rsum i (by omega) h2]
    have a1 := Int.mul_nonneg (show 0 ≤ M k k by omega) (hr i (by omega) h2)
    have a2 := np (ik i (by omega) h2) hrk
    omega
  · have a1 := hrec i i (by omega) h2 (by omega) h2
    have a2 := npnp (ik i (by omega) h2) (ki i (by omega) h2)
    have a3 := Int.mul_le_mul_of_nonneg_left (hd i (by omega) h2) (show 0 ≤ M k k by omega)
    have a4 : p * M' i i ≤ p * (4 * M k k) := by
      rw [show p * (4 * M k k) = M k k * (4 * p) by rw [Int.mul_left_comm, Int.mul_comm p, ← Int.mul_assoc, Int.mul_comm 4 (M k k), Int.mul_assoc]]
      omega
    exact Int.le_of_mul_le_mul_left a4 hp
  · obtain ⟨m, hm⟩ := hc i (by omega) h2
    exact ⟨m, (path m).1 i (by omega) h2 hm⟩
theorem Dk_0 (A : Nat → Nat → Int) (i j : Nat) : Dk A 0 i j = A i j := by
  show 0 + sgn (0 + 0) * bd A 0 i j 0 0 * 1 = A i j
  unfold bd sgn
  simp
/-- all stages of the elimination -/
theorem GQ_all {n : Nat} {A : Nat → Nat → Int} (h : GQ n 0 1 A) : ∀ k, k ≤ n → GQ n k (dt k A) (Dk A k) ∧ ∀ l, l < k → 0 < dt (l + 1) A
  | 0, _ => by
    have e : Dk A 0 = A := by funext i j; exact Dk_0 A i j
    rw [e]
    exact ⟨h, fun l hl => absurd hl (Nat.not_lt_zero l)⟩
  | k + 1, hk => by
    obtain ⟨h1, h2⟩ := GQ_all h k (by omega)
    have hp := GQ_piv h1 (by omega)
    have hs := GQ_step h1 (show k < n by omega) (M' := Dk A (k + 1)) (fun i j a1 a2 a3 a4 => sylv (elm_ex k (fun l hl => by have := h2 l hl; omega) i) j)
    rw [Dkk] at hs hp
    refine ⟨hs, fun l hl => ?_⟩
    by_cases e : l = k
    · rw [e]; exact hp
    · exact h2 l (by omega)
theorem GQ_pow {n : Nat} {A : Nat → Nat → Int} (h : GQ n 0 1 A) : ∀ k, k ≤ n → dt k A ≤ 4 ^ k
  | 0, _ => by show (1 : Int) ≤ 4 ^ 0; decide
  | k + 1, hk => by
    have ih := GQ_pow h k (by omega)
    have := (GQ_all h k (by omega)).1.2.2.2.2.1 k (Nat.le_refl k) (by omega)
    rw [Dkk] at this
    rw [Int.pow_succ]
    omega
theorem GQ_bound {n : Nat} {A : Nat → Nat → Int} (h : GQ n 0 1 A) {k : Nat} (hk : k < n) {i j : Nat} (hi : k ≤ i) (hin : i < n) (hj : k ≤ j) (hjn : j < n) : - (4 * 4 ^ k) ≤ Dk A k i j ∧ Dk A k i j ≤ 4 * 4 ^ k := by
  have h1 := (GQ_all h k (by omega)).1
  have h2 := GQ_pow h k (by omega)
  have h3 := h1.2.2.2.2.1 i hi hin
  have h4 := GQ_diag h1 hi hin
  by_cases e : i = j
  · subst e; omega
  · have := GQ_dom h1 hi hin hj hjn e
    have := h1.2.2.1 i j hi hin hj hjn e
    omega

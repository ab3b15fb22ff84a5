/-! the equations have a solution, and the elimination keeps it -/
theorem alg1 {q si sk x t a b c p m s : Int} (h1 : c * x + si = t * a) (h2 : q * x + sk = t * b) (h3 : p * m = q * a - c * b) (h4 : p * s = q * si - c * sk) : p * s = p * (t * m) := by grind
theorem alg2 {q si sk t a b c p m s : Int} (h3 : p * m = q * a - c * b) (h4 : p * s = q * si - c * sk) (h5 : s = t * m) : q * si + c * (t * b - sk) = q * t * a := by grind
theorem alg3 {q p m a c b x s u v : Int} (h : p * m = q * a - c * b) (e1 : s = m * x) (e2 : u = a * x) (e3 : v = b * x) : p * s = q * u + (- c) * v := by grind
theorem alg4 {t u1 u2 l1 l2 x : Int} (h1 : l1 * x = t * u1) (h2 : l2 * x = t * u2) : t * (u1 * l2) = t * (u2 * l1) := by grind
theorem alg5 {q t b sk : Int} : q * sk + q * (t * b - sk) = q * t * b := by grind
def Sol (A : Nat → Nat → Int) (n k : Nat) (x : Nat → Int) (t : Int) : Prop := ∀ i, k ≤ i → i < n → sm (fun j => if j < k then 0 else Dk A k i j * x j) n = t * Dk A k i n
theorem sm_spl (g : Nat → Int) {n k : Nat} (hk : k < n) : sm (fun j => if j < k then 0 else g j) n = sm (fun j => if j < k + 1 then 0 else g j) n + g k := rS_split hk (fun _ => g) 0
theorem Sx {n k i : Nat} {A : Nat → Nat → Int} (hE : HE n (n + 1) A) (hk : k + 1 < n) (hi : k < i) (hin : i < n) (x : Nat → Int) : dt k A * sm (fun j => if j < k + 1 then 0 else Dk A (k + 1) i j * x j) n = dt (k + 1) A * sm (fun j => if j < k + 1 then 0 else Dk A k i j * x j) n - Dk A k i k * sm (fun j => if j < k + 1 then 0 else Dk A k k j * x j) n := by
  have e : sm (fun j => dt k A * (if j < k + 1 then 0 else Dk A (k + 1) i j * x j)) n = sm (fun j => dt (k + 1) A * (if j < k + 1 then 0 else Dk A k i j * x j) + (- Dk A k i k) * (if j < k + 1 then 0 else Dk A k k j * x j)) n := sm_congr n (fun j hj => by
    by_cases l : j < k + 1
    · rw [if_pos l, if_pos l, if_pos l, Int.mul_zero, Int.mul_zero, Int.mul_zero]; rfl
    · rw [if_neg l, if_neg l, if_neg l]
      exact alg3 (hE.2.2 k i j hk hi hin (by omega) (by omega)) rfl rfl rfl)
  rw [← sm_mul, e, sm_add, sm_mul, sm_mul, Int.neg_mul, Int.sub_eq_add_neg]
theorem Sol_f {n k : Nat} {A : Nat → Nat → Int} (hE : HE n (n + 1) A) (hk : k + 1 < n) {x : Nat → Int} {t : Int} (h : Sol A n k x t) : Sol A n (k + 1) x t := fun i hi hin => by
  have h1 := h i (by omega) hin
  have h2 := h k (Nat.le_refl k) (by omega)
  rw [sm_spl _ (show k < n by omega), Int.add_comm] at h1 h2
  rw [Dkk] at h2
  have hp := (hE.1 k (by omega)).1
  exact Int.eq_of_mul_eq_mul_left (a := dt k A) (by omega) (alg1 h1 h2 (hE.2.2 k i n hk hi hin (by omega) (by omega)) (Sx hE hk hi hin x))
theorem Sol_b {n k : Nat} {A : Nat → Nat → Int} (hE : HE n (n + 1) A) (hk : k + 1 < n) {x : Nat → Int} {t : Int} (ht : 0 < t) (h : Sol A n (k + 1) x t) : ∃ x' t', 0 < t' ∧ Sol A n k x' t' := by
  have hq := (hE.1 (k + 1) hk).1
  have hs : ∀ i, sm (fun j => if j < k + 1 then 0 else Dk A k i j * (if j = k then t * Dk A k k n - sm (fun j => if j < k + 1 then 0 else Dk A k k j * x j) n else dt (k + 1) A * x j)) n = dt (k + 1) A * sm (fun j => if j < k + 1 then 0 else Dk A k i j * x j) n := fun i => by
    rw [← sm_mul]
    refine sm_congr n (fun j hj => ?_)
    by_cases l : j < k + 1
    · rw [if_pos l, if_pos l, Int.mul_zero]
    · rw [if_neg l, if_neg l, if_neg (show ¬ j = k by omega), Int.mul_left_comm]
  refine ⟨fun j => if j = k then t * Dk A k k n - sm (fun j => if j < k + 1 then 0 else Dk A k k j * x j) n else dt (k + 1) A * x j, dt (k + 1) A * t, Int.mul_pos hq ht, fun i hi hin => ?_⟩
  rw [sm_spl _ (show k < n by omega), hs i]
  dsimp only
  rw [if_pos rfl]
  by_cases e : i = k
  · subst e
    rw [Dkk]
    exact alg5
  · exact alg2 (hE.2.2 k i n hk (by omega) hin (by omega) (by omega)) (Sx hE hk (by omega) hin x) (h i (by omega) hin)
theorem Sol_all {n : Nat} {A : Nat → Nat → Int} (hE : HE n (n + 1) A) {x : Nat → Int} {t : Int} (h : Sol A n 0 x t) : ∀ k, k < n → Sol A n k x t
  | 0, _ => h
  | k + 1, hk => Sol_f hE hk (Sol_all hE h k (by omega))
theorem sm_top (g : Nat → Int) {n : Nat} (hn : 0 < n) : sm (fun j => if j < n - 1 then 0 else g j) n = g (n - 1) := by
  rw [sm_spl g (show n - 1 < n by omega), sm_0 n (fun i hi => if_pos (by omega)), Int.zero_add]
theorem Sol_end {n : Nat} {A : Nat → Nat → Int} (hE : HE n (n + 1) A) (hn : 0 < n) {x : Nat → Int} {t : Int} (h : Sol A n 0 x t) : dt n A * x (n - 1) = t * Dk A (n - 1) (n - 1) n := by
  have := Sol_all hE h (n - 1) (by omega) (n - 1) (Nat.le_refl _) (by omega)
  rw [sm_top _ hn, Dkk, show n - 1 + 1 = n by omega] at this
  exact this
theorem Sol_ex {n : Nat} {A : Nat → Nat → Int} (hE : HE n (n + 1) A) (hn : 0 < n) (hd : 0 < dt n A) : ∃ x t, 0 < t ∧ Sol A n 0 x t := by
  have key : ∀ m, m < n → ∃ x t, 0 < t ∧ Sol A n (n - 1 - m) x t := by
    intro m
    induction m with
    | zero =>
      intro _
      refine ⟨fun _ => Dk A (n - 1) (n - 1) n, dt n A, hd, fun i hi hin => ?_⟩
      have : i = n - 1 := by omega
      subst this
      show sm (fun j => if j < n - 1 then 0 else Dk A (n - 1) (n - 1) j * Dk A (n - 1) (n - 1) n) n = dt n A * Dk A (n - 1) (n - 1) n
      rw [sm_top (fun j => Dk A (n - 1) (n - 1) j * Dk A (n - 1) (n - 1) n) hn, Dkk, show n - 1 + 1 = n by omega]
    | succ m ih =>
      intro hm
      obtain ⟨x, t, h1, h2⟩ := ih (by omega)
      refine Sol_b hE (k := n - 1 - (m + 1)) (x := x) (by omega) h1 ?_
      rw [show n - 1 - (m + 1) + 1 = n - 1 - m by omega]
      exact h2
  obtain ⟨x, t, h1, h2⟩ := key (n - 1) (by omega)
  rw [Nat.sub_self] at h2
  exact ⟨x, t, h1, h2⟩
/-! told by cells -/
theorem sm_rm {F : Nat → Int} {S : Nat → Bool} {z m : Nat} (hz : z < m) (h : S z = true) : sm (fun c => if S c then F c else 0) m = sm (fun c => if upB S z false c then F c else 0) m + F z := by
  rw [sm_pick m hz, h, if_pos rfl]
  congr 1
  refine sm_congr m (fun c _ => ?_)
  unfold upB
  by_cases e : c = z
  · rw [if_pos e, if_pos e, if_neg Bool.false_ne_true]
  · rw [if_neg e, if_neg e]
theorem sm_Q {F : Nat → Int} {Q : Nat → Nat} {m : Nat} : ∀ n (S : Nat → Bool), (∀ k, k < n → Q k < m ∧ S (Q k) = true) → (∀ k l, k < n → l < n → Q k = Q l → k = l) → (∀ c, c < m → S c = true → ∃ k, k < n ∧ Q k = c) → sm (fun j => F (Q j)) n = sm (fun c => if S c then F c else 0) m
  | 0, S, _, _, h3 => by
    rw [sm_0 m (fun c hc => ?_)]
    · rfl
    · cases q : S c with
      | false => exact if_neg Bool.false_ne_true
      | true =>
        obtain ⟨k, hk, -⟩ := h3 c hc q
        exact absurd hk (Nat.not_lt_zero k)
  | n + 1, S, h1, h2, h3 => by
    show sm (fun j => F (Q j)) n + F (Q n) = _
    obtain ⟨a1, a2⟩ := h1 n (by omega)
    rw [sm_rm a1 a2, sm_Q n (upB S (Q n) false) (fun k hk => ⟨(h1 k (by omega)).1, by
      unfold upB
      rw [if_neg (fun w => by have := h2 k n (by omega) (by omega) w; omega)]
      exact (h1 k (by omega)).2⟩) (fun k l hk hl => h2 k l (by omega) (by omega)) (fun c hc q => by
      unfold upB at q
      by_cases e : c = Q n
      · rw [if_pos e] at q; cases q
      · rw [if_neg e] at q
        obtain ⟨k, hk, ek⟩ := h3 c hc q
        refine ⟨k, ?_, ek⟩
        rcases Nat.lt_or_ge k n with w | w
        · exact w
        · have : k = n := by omega
          subst this
          exact absurd ek.symm e)]
def GCf (rt dn : Nat → Bool) (a c : Nat) : Int := if a = c then (nbr rt dn a : Int) else if adB rt dn a c then -1 else 0
theorem Sol_iff {R C : Nat} {rt dn : Nat → Bool} (hz : Mz R C rt dn) {z n : Nat} {Q : Nat → Nat} (hQ : MQz R C rt dn z Q n) {X : Nat → Int} {t : Int} : Sol (LA rt dn Q n) n 0 (fun j => X (Q j)) t ↔ ∀ c, c < 36 → cnn rt dn z c = true → c ≠ z → sm (fun c' => if (cnn rt dn z c' && !decide (c' = z)) then GCf rt dn c c' * X c' else 0) 36 = t * (nbr rt dn c : Int) := by
  obtain ⟨cz, h1, h2, h3⟩ := hQ
  have key : ∀ i, i < n → (sm (fun j => if j < 0 then 0 else Dk (LA rt dn Q n) 0 i j * X (Q j)) n = sm (fun c' => if (cnn rt dn z c' && !decide (c' = z)) then GCf rt dn (Q i) c' * X c' else 0) 36) := fun i hi => by
    rw [← sm_Q (F := fun c' => GCf rt dn (Q i) c' * X c') n (fun c' => cnn rt dn z c' && !decide (c' = z)) (fun k hk => ⟨isC_lt hz (h1 k hk).1, by rw [(h1 k hk).2.1, decide_eq_false (h1 k hk).2.2]; rfl⟩) h2 (fun c hc q => by
      rw [Bool.and_eq_true, Bool.not_eq_true', decide_eq_false_iff_not] at q
      exact h3 c hc q.1 q.2)]
    refine sm_congr n (fun j hj => ?_)
    rw [if_neg (Nat.not_lt_zero j), Dk_0]
    congr 1
    unfold GCf
    by_cases e : i = j
    · subst e
      rw [LA_d rt dn Q hi, if_pos rfl]
    · rw [LA_o rt dn Q hj e, if_neg (fun w => e (h2 i j hi hj w))]
  constructor
  · intro h c hc q1 q2
    obtain ⟨k, hk, rfl⟩ := h3 c hc q1 q2
    have := h k (Nat.zero_le k) hk
    rw [key k hk, Dk_0, LA_n] at this
    exact this
  · intro h i _ hi
    rw [key i hi, Dk_0, LA_n]
    exact h (Q i) (isC_lt hz (h1 i hi).1) (h1 i hi).2.1 (h1 i hi).2.2
theorem Sol_cg {A : Nat → Nat → Int} {n k : Nat} {x y : Nat → Int} {t : Int} (h : Sol A n k x t) (e : ∀ j, j < n → x j = y j) : Sol A n k y t := fun i hi hin => by
  rw [← h i hi hin]
  exact sm_congr n (fun j hj => by rw [e j hj])
theorem fr_two {R C : Nat} {rt dn : Nat → Bool} (hz : Mz R C rt dn) {z n : Nat} {Q1 Q2 : Nat → Nat} (hn : 0 < n) (h1 : MQz R C rt dn z Q1 n) (h2 : MQz R C rt dn z Q2 n) (e1 : HE n (n + 1) (LA rt dn Q1 n)) (e2 : HE n (n + 1) (LA rt dn Q2 n)) (hd : 0 < dt n (LA rt dn Q1 n)) (hf : Q1 (n - 1) = Q2 (n - 1)) : Dk (LA rt dn Q1 n) (n - 1) (n - 1) n * dt n (LA rt dn Q2 n) = Dk (LA rt dn Q2 n) (n - 1) (n - 1) n * dt n (LA rt dn Q1 n) := by
  obtain ⟨x, t, ht, hs⟩ := Sol_ex e1 hn hd
  obtain ⟨P, hP⟩ : ∃ P : Nat → Nat, ∀ j, j < n → P (Q1 j) = j := by
    refine ⟨fun c => if h : ∃ j, j < n ∧ Q1 j = c then Classical.choose h else 0, fun j hj => ?_⟩
    have h : ∃ j', j' < n ∧ Q1 j' = Q1 j := ⟨j, hj, rfl⟩
    dsimp only
    rw [dif_pos h]
    obtain ⟨a1, a2⟩ := Classical.choose_spec h
    exact h1.2.2.1 _ _ a1 hj a2
  have s1 : Sol (LA rt dn Q1 n) n 0 (fun j => (fun c => x (P c)) (Q1 j)) t := Sol_cg hs (fun j hj => by dsimp only; rw [hP j hj])
  have s2 : Sol (LA rt dn Q2 n) n 0 (fun j => (fun c => x (P c)) (Q2 j)) t := (Sol_iff (X := fun c => x (P c)) hz h2).mpr ((Sol_iff (X := fun c => x (P c)) hz h1).mp s1)
  have f1 := Sol_end e1 hn s1
  have f2 := Sol_end e2 hn s2
  dsimp only at f1 f2
  rw [← hf] at f2
  exact Int.eq_of_mul_eq_mul_left (a := t) (by omega) (alg4 f1 f2)

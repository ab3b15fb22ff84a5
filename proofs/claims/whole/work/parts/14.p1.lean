/-! determinants of whole numbers, by expansion of the last row -/
def sm (f : Nat → Int) : Nat → Int
  | 0 => 0
  | n + 1 => sm f n + f n
theorem sm_congr {f g : Nat → Int} : ∀ n, (∀ i, i < n → f i = g i) → sm f n = sm g n
  | 0, _ => rfl
  | n + 1, h => by
    show sm f n + f n = sm g n + g n
    rw [sm_congr n (fun i hi => h i (by omega)), h n (by omega)]
theorem sm_add (f g : Nat → Int) : ∀ n, sm (fun i => f i + g i) n = sm f n + sm g n
  | 0 => rfl
  | n + 1 => by
    show sm (fun i => f i + g i) n + (f n + g n) = sm f n + f n + (sm g n + g n)
    rw [sm_add f g n]
    omega
theorem sm_mul (c : Int) (f : Nat → Int) : ∀ n, sm (fun i => c * f i) n = c * sm f n
  | 0 => (Int.mul_zero c).symm
  | n + 1 => by
    show sm (fun i => c * f i) n + c * f n = c * (sm f n + f n)
    rw [sm_mul c f n, Int.mul_add]
theorem sm_0 {f : Nat → Int} : ∀ n, (∀ i, i < n → f i = 0) → sm f n = 0
  | 0, _ => rfl
  | n + 1, h => by
    show sm f n + f n = 0
    rw [sm_0 n (fun i hi => h i (by omega)), h n (by omega)]
    rfl
def sgn (n : Nat) : Int := if n % 2 = 0 then 1 else -1
theorem sgn_s (n : Nat) : sgn (n + 1) = - sgn n := by
  unfold sgn
  by_cases h : n % 2 = 0
  · rw [if_pos h, if_neg (by omega)]
  · rw [if_neg h, if_pos (by omega)]; rfl
theorem sgn_2 (n : Nat) : sgn (n + n) = 1 := by unfold sgn; rw [if_pos (by omega)]
def dl (c j : Nat) : Nat := if j < c then j else j + 1
theorem dl_dl {c c' : Nat} (h : c' < c) (j : Nat) : dl c (dl c' j) = dl c' (dl (c - 1) j) := by
  unfold dl
  by_cases h1 : j < c'
  · rw [if_pos h1, if_pos (show j < c by omega), if_pos (show j < c - 1 by omega), if_pos h1]
  · rw [if_neg h1]
    by_cases h2 : j < c - 1
    · rw [if_pos h2, if_neg h1, if_pos (show j + 1 < c by omega)]
    · rw [if_neg h2, if_neg (show ¬ j + 1 < c by omega), if_neg (show ¬ j + 1 < c' by omega)]
def dt : Nat → (Nat → Nat → Int) → Int
  | 0, _ => 1
  | k + 1, m => sm (fun c => sgn (k + c) * m k c * dt k (fun i j => m i (dl c j))) (k + 1)
theorem dt_s (k : Nat) (m : Nat → Nat → Int) : dt (k + 1) m = sm (fun c => sgn (k + c) * m k c * dt k (fun i j => m i (dl c j))) (k + 1) := rfl
theorem dl_lt {c j k : Nat} (hj : j < k) : dl c j < k + 1 := by unfold dl; split <;> omega
theorem dt_congr : ∀ k {m m' : Nat → Nat → Int}, (∀ i j, i < k → j < k → m i j = m' i j) → dt k m = dt k m'
  | 0, _, _, _ => rfl
  | k + 1, m, m', h => by
    rw [dt_s, dt_s]
    refine sm_congr (k + 1) (fun c hc => ?_)
    rw [h k c (by omega) hc, dt_congr k (fun i j hi hj => h i (dl c j) (by omega) (dl_lt hj))]
/-- a row put into a matrix -/
def rw1 (m : Nat → Nat → Int) (r : Nat) (u : Nat → Int) : Nat → Nat → Int := fun i j => if i = r then u j else m i j
theorem dt_add : ∀ k (m : Nat → Nat → Int) (r : Nat) (u v : Nat → Int), r < k → dt k (rw1 m r (fun j => u j + v j)) = dt k (rw1 m r u) + dt k (rw1 m r v)
  | 0, _, _, _, _, h => absurd h (Nat.not_lt_zero _)
  | k + 1, m, r, u, v, h => by
    rw [dt_s, dt_s, dt_s, ← sm_add]
    refine sm_congr (k + 1) (fun c hc => ?_)
    by_cases e : k = r
    · subst e
      have hm : ∀ w : Nat → Int, dt k (fun i j => rw1 m k w i (dl c j)) = dt k (fun i j => m i (dl c j)) := fun w => dt_congr k (fun i j hi _ => by unfold rw1; rw [if_neg (by omega)])
      rw [hm, hm, hm]
      unfold rw1
      rw [if_pos rfl, if_pos rfl, if_pos rfl, Int.mul_add, Int.add_mul]
    · have hk : ∀ w : Nat → Int, rw1 m r w k c = m k c := fun w => by unfold rw1; rw [if_neg e]
      have hm : ∀ w : Nat → Int, dt k (fun i j => rw1 m r w i (dl c j)) = dt k (rw1 (fun i j => m i (dl c j)) r (fun j => w (dl c j))) := fun w => dt_congr k (fun i j _ _ => rfl)
      rw [hk, hk, hk, hm, hm, hm, ← Int.mul_add, ← dt_add k (fun i j => m i (dl c j)) r (fun j => u (dl c j)) (fun j => v (dl c j)) (by omega)]
theorem dt_smul : ∀ k (m : Nat → Nat → Int) (r : Nat) (x : Int) (u : Nat → Int), r < k → dt k (rw1 m r (fun j => x * u j)) = x * dt k (rw1 m r u)
  | 0, _, _, _, _, h => absurd h (Nat.not_lt_zero _)
  | k + 1, m, r, x, u, h => by
    rw [dt_s, dt_s, ← sm_mul]
    refine sm_congr (k + 1) (fun c hc => ?_)
    by_cases e : k = r
    · subst e
      have hm : ∀ w : Nat → Int, dt k (fun i j => rw1 m k w i (dl c j)) = dt k (fun i j => m i (dl c j)) := fun w => dt_congr k (fun i j hi _ => by unfold rw1; rw [if_neg (by omega)])
      rw [hm, hm]
      unfold rw1
      rw [if_pos rfl, if_pos rfl, ← Int.mul_assoc, ← Int.mul_assoc, ← Int.mul_assoc, Int.mul_comm x (sgn (k + c))]
    · have hk : ∀ w : Nat → Int, rw1 m r w k c = m k c := fun w => by unfold rw1; rw [if_neg e]
      have hm : ∀ w : Nat → Int, dt k (fun i j => rw1 m r w i (dl c j)) = dt k (rw1 (fun i j => m i (dl c j)) r (fun j => w (dl c j))) := fun w => dt_congr k (fun i j _ _ => rfl)
      rw [hk, hk, hm, hm, dt_smul k (fun i j => m i (dl c j)) r x (fun j => u (dl c j)) (by omega), ← Int.mul_assoc, ← Int.mul_assoc, ← Int.mul_assoc, Int.mul_comm (sgn (k + c) * m k c) x, ← Int.mul_assoc]
theorem pair_0 {F : Nat → Nat → Int} (h : ∀ a c, c < a → F a c = - F c (a - 1)) : ∀ n, sm (fun c => sm (fun c' => F c c') n) (n + 1) = 0
  | 0 => by
    show sm (fun c => sm (fun c' => F c c') 0) 0 + sm (fun c' => F 0 c') 0 = 0
    rfl
  | n + 1 => by
    have ih := pair_0 h n
    show sm (fun c => sm (fun c' => F c c') n + F c n) (n + 1) + (sm (fun c' => F (n + 1) c') (n + 1)) = 0
    rw [sm_add, ih]
    have : sm (fun c' => F (n + 1) c') (n + 1) = - sm (fun c => F c n) (n + 1) := by
      have h1 : sm (fun c' => F (n + 1) c') (n + 1) = sm (fun c' => (-1) * F c' n) (n + 1) := sm_congr (n + 1) (fun i hi => by
        rw [h (n + 1) i hi, Nat.add_sub_cancel]
        omega)
      rw [h1, sm_mul]
      omega
    rw [this]
    omega
/-- the last two rows alike: 0 -/
theorem dt_two {k : Nat} {m : Nat → Nat → Int} (h : ∀ j, m (k + 1) j = m k j) : dt (k + 2) m = 0 := by
  have e : dt (k + 2) m = sm (fun c => sm (fun c' => sgn (k + 1 + c) * m (k + 1) c * (sgn (k + c') * m k (dl c c') * dt k (fun i j => m i (dl c (dl c' j))))) (k + 1)) (k + 2) := by
    rw [dt_s]
    refine sm_congr (k + 2) (fun c _ => ?_)
    rw [dt_s, ← sm_mul]
  rw [e]
  refine pair_0 (F := fun c c' => sgn (k + 1 + c) * m (k + 1) c * (sgn (k + c') * m k (dl c c') * dt k (fun i j => m i (dl c (dl c' j))))) (fun a c hc => ?_) (k + 1)
  have e1 : dl a c = c := if_pos hc
  have e2 : dl c (a - 1) = a := by unfold dl; rw [if_neg (by omega)]; omega
  have e3 : dt k (fun i j => m i (dl a (dl c j))) = dt k (fun i j => m i (dl c (dl (a - 1) j))) := dt_congr k (fun i j _ _ => by rw [dl_dl hc])
  have e4 : sgn (k + 1 + a) * sgn (k + c) = - (sgn (k + 1 + c) * sgn (k + (a - 1))) := by
    obtain ⟨a', rfl⟩ : ∃ a', a = a' + 1 := ⟨a - 1, by omega⟩
    rw [show k + 1 + (a' + 1) = (k + a') + 1 + 1 by omega, show k + 1 + c = (k + c) + 1 by omega, sgn_s, sgn_s, sgn_s, Nat.add_sub_cancel, Int.neg_neg, Int.neg_mul, Int.neg_neg, Int.mul_comm]
  show sgn (k + 1 + a) * m (k + 1) a * (sgn (k + c) * m k (dl a c) * dt k (fun i j => m i (dl a (dl c j)))) = - (sgn (k + 1 + c) * m (k + 1) c * (sgn (k + (a - 1)) * m k (dl c (a - 1)) * dt k (fun i j => m i (dl c (dl (a - 1) j)))))
  rw [e1, e2, e3, h, h]
  generalize dt k (fun i j => m i (dl c (dl (a - 1) j))) = E
  generalize m k a = x
  generalize m k c = y
  have r1 : sgn (k + 1 + a) * x * (sgn (k + c) * y * E) = (sgn (k + 1 + a) * sgn (k + c)) * (x * y * E) := by
    rw [Int.mul_assoc, Int.mul_assoc, Int.mul_assoc, Int.mul_assoc, Int.mul_left_comm x (sgn (k + c))]
  have r2 : sgn (k + 1 + c) * y * (sgn (k + (a - 1)) * x * E) = (sgn (k + 1 + c) * sgn (k + (a - 1))) * (x * y * E) := by
    rw [Int.mul_assoc, Int.mul_assoc, Int.mul_assoc, Int.mul_assoc, Int.mul_left_comm y (sgn (k + (a - 1))), Int.mul_left_comm y x]
  rw [r1, r2, e4, Int.neg_mul]
theorem rw1_self (m : Nat → Nat → Int) (r : Nat) : rw1 m r (m r) = m := by
  funext i j
  unfold rw1
  by_cases e : i = r
  · rw [if_pos e, e]
  · rw [if_neg e]
theorem rw1_comm (m : Nat → Nat → Int) {r s : Nat} (h : r ≠ s) (u v : Nat → Int) : rw1 (rw1 m r u) s v = rw1 (rw1 m s v) r u := by
  funext i j
  unfold rw1
  by_cases e1 : i = s
  · subst e1
    rw [if_pos rfl, if_neg (fun q => h q.symm), if_pos rfl]
  · rw [if_neg e1]
    by_cases e2 : i = r
    · rw [if_pos e2, if_pos e2]
    · rw [if_neg e2, if_neg e2, if_neg e1]
/-- the last row alike an earlier one: 0 -/
theorem dt_alt : ∀ k (m : Nat → Nat → Int) (r : Nat), r < k → (∀ j, m k j = m r j) → dt (k + 1) m = 0
  | 0, _, r, h, _ => absurd h (Nat.not_lt_zero r)
  | k + 1, m, r, hr, h => by
    by_cases e : r = k
    · subst e; exact dt_two h
    · have hrk : r < k := by omega
      -- rows r and k changed with one another
      have swap : ∀ m : Nat → Nat → Int, dt (k + 1) (rw1 (rw1 m r (m k)) k (m r)) = - dt (k + 1) m := by
        intro m
        have z : ∀ u : Nat → Int, dt (k + 1) (rw1 (rw1 m r u) k u) = 0 := fun u => dt_alt k _ r hrk (fun j => by
          unfold rw1
          rw [if_pos rfl, if_neg (fun q => e q), if_pos rfl])
        have h1 := z (fun j => m r j + m k j)
        rw [dt_add (k + 1) (rw1 m r (fun j => m r j + m k j)) k (m r) (m k) (by omega)] at h1
        rw [rw1_comm m (show r ≠ k by omega), rw1_comm m (show r ≠ k by omega), dt_add (k + 1) (rw1 m k (m r)) r (m r) (m k) (by omega), dt_add (k + 1) (rw1 m k (m k)) r (m r) (m k) (by omega), ← rw1_comm m (show r ≠ k by omega), ← rw1_comm m (show r ≠ k by omega), ← rw1_comm m (show r ≠ k by omega), ← rw1_comm m (show r ≠ k by omega), z, z, rw1_self, rw1_self] at h1
        omega
      have h0 : dt (k + 2) (rw1 (rw1 m r (m k)) k (m r)) = 0 := dt_two (fun j => by
        unfold rw1
        rw [if_neg (by omega), if_neg (by omega), if_pos rfl, h])
      have h1 : dt (k + 2) (rw1 (rw1 m r (m k)) k (m r)) = - dt (k + 2) m := by
        rw [dt_s, dt_s]
        have : ∀ x : Int, - x = (-1) * x := fun x => by omega
        rw [this, ← sm_mul]
        refine sm_congr (k + 2) (fun c _ => ?_)
        have hl : rw1 (rw1 m r (m k)) k (m r) (k + 1) c = m (k + 1) c := by
          unfold rw1
          rw [if_neg (by omega), if_neg (by omega)]
        have hd : dt (k + 1) (fun i j => rw1 (rw1 m r (m k)) k (m r) i (dl c j)) = - dt (k + 1) (fun i j => m i (dl c j)) := swap (fun i j => m i (dl c j))
        rw [hl, hd, Int.mul_neg, this]
      show dt (k + 2) m = 0
      omega
/-- multiples of earlier rows added to the last one -/
theorem dt_comb {k : Nat} (m : Nat → Nat → Int) (lam : Nat → Int) (u : Nat → Int) : ∀ l, l ≤ k → dt (k + 1) (rw1 m k (fun j => u j + sm (fun i => lam i * m i j) l)) = dt (k + 1) (rw1 m k u)
  | 0, _ => by
    refine dt_congr (k + 1) (fun i j _ _ => ?_)
    unfold rw1
    by_cases e : i = k
    · rw [if_pos e, if_pos e]
      exact Int.add_zero _
    · rw [if_neg e, if_neg e]
  | l + 1, hl => by
    have ih := dt_comb (k := k) m lam u l (by omega)
    have e : (fun j => u j + sm (fun i => lam i * m i j) (l + 1)) = (fun j => (u j + sm (fun i => lam i * m i j) l) + lam l * m l j) := by
      funext j
      show u j + (sm (fun i => lam i * m i j) l + lam l * m l j) = _
      omega
    rw [e, dt_add (k + 1) m k (fun j => u j + sm (fun i => lam i * m i j) l) (fun j => lam l * m l j) (by omega), ih, dt_smul (k + 1) m k (lam l) (m l) (by omega), dt_alt k (rw1 m k (m l)) l (by omega) (fun j => by
      unfold rw1
      rw [if_pos rfl, if_neg (by omega)])]
    omega
theorem sm_last {f : Nat → Int} : ∀ n, (∀ i, i < n → f i = 0) → sm f (n + 1) = f n := fun n h => by
  show sm f n + f n = f n
  rw [sm_0 n h]
  omega
theorem sm_last2 {f : Nat → Int} (n : Nat) (h : ∀ i, i < n → f i = 0) : sm f (n + 2) = f n + f (n + 1) := by
  show sm f n + f n + f (n + 1) = _
  rw [sm_0 n h]
  omega
/-! a block of k rows and columns, bordered -/
def bd (A : Nat → Nat → Int) (k i j : Nat) : Nat → Nat → Int := fun r c => A (if r < k then r else i) (if c < k then c else j)
def bd2 (A : Nat → Nat → Int) (k r s c d : Nat) : Nat → Nat → Int := fun x y => A (if x < k then x else if x = k then r else s) (if y < k then y else if y = k then c else d)
def Dk (A : Nat → Nat → Int) (k i j : Nat) : Int := dt (k + 1) (bd A k i j)
/-- a multiple of row s, less multiples of the first k rows, is 0 in the first k columns -/
def elm (A : Nat → Nat → Int) (k s : Nat) (N : Int) (lam : Nat → Int) : Prop := N ≠ 0 ∧ ∀ c, c < k → N * A s c + sm (fun l => lam l * A l c) k = 0
theorem Dk_elm {A : Nat → Nat → Int} {k s : Nat} {N : Int} {lam : Nat → Int} (h : elm A k s N lam) (c : Nat) : N * Dk A k s c = dt k A * (N * A s c + sm (fun l => lam l * A l c) k) := by
  unfold Dk
  have hb : bd A k s c = rw1 (bd A k s c) k (bd A k s c k) := (rw1_self _ _).symm
  have h1 : N * dt (k + 1) (bd A k s c) = dt (k + 1) (rw1 (bd A k s c) k (fun j => N * bd A k s c k j + sm (fun i => lam i * bd A k s c i j) k)) := by
    rw [dt_comb (bd A k s c) lam (fun j => N * bd A k s c k j) k (Nat.le_refl k), dt_smul (k + 1) (bd A k s c) k N (bd A k s c k) (by omega), rw1_self]
  rw [h1, dt_s, sm_last k (fun j hj => ?_)]
  · have e1 : rw1 (bd A k s c) k (fun j => N * bd A k s c k j + sm (fun i => lam i * bd A k s c i j) k) k k = N * A s c + sm (fun l => lam l * A l c) k := by
      unfold rw1 bd
      rw [if_pos rfl]
      dsimp only
      rw [if_neg (Nat.lt_irrefl k), if_neg (Nat.lt_irrefl k)]
      congr 1
      exact sm_congr k (fun i hi => by rw [if_pos hi])
    have e2 : dt k (fun i j => rw1 (bd A k s c) k (fun j => N * bd A k s c k j + sm (fun i => lam i * bd A k s c i j) k) i (dl k j)) = dt k A := dt_congr k (fun i j hi hj => by
      unfold rw1 bd dl
      rw [if_neg (by omega), if_pos hi, if_pos hj, if_pos hj])
    rw [e1, e2, sgn_2, Int.one_mul, Int.mul_comm]
  · have e1 : rw1 (bd A k s c) k (fun j => N * bd A k s c k j + sm (fun i => lam i * bd A k s c i j) k) k j = 0 := by
      unfold rw1 bd
      rw [if_pos rfl]
      dsimp only
      rw [if_neg (Nat.lt_irrefl k), if_pos hj]
      rw [← h.2 j hj]
      congr 1
      exact sm_congr k (fun i hi => by rw [if_pos hi])
    rw [e1, Int.mul_zero, Int.zero_mul]
theorem D2_elm {A : Nat → Nat → Int} {k r s : Nat} {N : Int} {lam : Nat → Int} (h : elm A k s N lam) (c d : Nat) : N * dt (k + 2) (bd2 A k r s c d) = (N * A s d + sm (fun l => lam l * A l d) k) * Dk A k r c - (N * A s c + sm (fun l => lam l * A l c) k) * Dk A k r d := by
  have h1 : N * dt (k + 2) (bd2 A k r s c d) = dt (k + 2) (rw1 (bd2 A k r s c d) (k + 1) (fun j => N * bd2 A k r s c d (k + 1) j + sm (fun i => lam i * bd2 A k r s c d i j) k)) := by
    rw [dt_comb (bd2 A k r s c d) lam (fun j => N * bd2 A k r s c d (k + 1) j) k (by omega), dt_smul (k + 2) (bd2 A k r s c d) (k + 1) N (bd2 A k r s c d (k + 1)) (by omega), rw1_self]
  have val : ∀ y, bd2 A k r s c d (k + 1) y = A s (if y < k then y else if y = k then c else d) := fun y => by
    unfold bd2
    rw [if_neg (show ¬ k + 1 < k by omega), if_neg (show ¬ k + 1 = k by omega)]
  have row : ∀ y, rw1 (bd2 A k r s c d) (k + 1) (fun j => N * bd2 A k r s c d (k + 1) j + sm (fun i => lam i * bd2 A k r s c d i j) k) (k + 1) y = N * A s (if y < k then y else if y = k then c else d) + sm (fun l => lam l * A l (if y < k then y else if y = k then c else d)) k := fun y => by
    unfold rw1
    rw [if_pos rfl]
    dsimp only
    rw [val]
    congr 1
    exact sm_congr k (fun i hi => by unfold bd2; rw [if_pos hi])
  have hz : ∀ y, y < k → rw1 (bd2 A k r s c d) (k + 1) (fun j => N * bd2 A k r s c d (k + 1) j + sm (fun i => lam i * bd2 A k r s c d i j) k) (k + 1) y = 0 := fun y hy => by
    rw [row, if_pos hy]
    exact h.2 y hy
  rw [h1, dt_s, sm_last2 k (fun j hj => by rw [hz j hj, Int.mul_zero, Int.zero_mul]), row, row, if_neg (Nat.lt_irrefl k), if_pos rfl, if_neg (show ¬ k + 1 < k by omega), if_neg (show ¬ k + 1 = k by omega)]
  have m1 : dt (k + 1) (fun i j => rw1 (bd2 A k r s c d) (k + 1) (fun j => N * bd2 A k r s c d (k + 1) j + sm (fun i => lam i * bd2 A k r s c d i j) k) i (dl k j)) = Dk A k r d := dt_congr (k + 1) (fun i j hi hj => by
    unfold rw1 bd2 bd dl
    rw [if_neg (show ¬ i = k + 1 by omega)]
    congr 1
    · by_cases q : i < k
      · rw [if_pos q, if_pos q]
      · rw [if_neg q, if_neg q, if_pos (by omega)]
    · by_cases q : j < k
      · simp only [if_pos q]
      · rw [if_neg q, if_neg q, if_neg (by omega), if_neg (by omega)])
  have m2 : dt (k + 1) (fun i j => rw1 (bd2 A k r s c d) (k + 1) (fun j => N * bd2 A k r s c d (k + 1) j + sm (fun i => lam i * bd2 A k r s c d i j) k) i (dl (k + 1) j)) = Dk A k r c := dt_congr (k + 1) (fun i j hi hj => by
    unfold rw1 bd2 bd dl
    rw [if_neg (show ¬ i = k + 1 by omega), if_pos hj]
    congr 1
    · by_cases q : i < k
      · rw [if_pos q, if_pos q]
      · rw [if_neg q, if_neg q, if_pos (by omega)]
    · by_cases q : j < k
      · rw [if_pos q, if_pos q]
      · rw [if_neg q, if_neg q, if_pos (by omega)])
  have s1 : sgn (k + 1 + k) = -1 := by rw [show k + 1 + k = (k + k) + 1 by omega, sgn_s, sgn_2]
  have s2 : sgn (k + 1 + (k + 1)) = 1 := sgn_2 (k + 1)
  rw [m1, m2, s1, s2, Int.one_mul, Int.neg_mul, Int.one_mul, Int.neg_mul]
  omega
/-- the step of the elimination leaves no rest -/
theorem sylv {A : Nat → Nat → Int} {k i : Nat} (h : ∃ N lam, elm A k i N lam) (j : Nat) : dt k A * Dk A (k + 1) i j = Dk A k k k * Dk A k i j - Dk A k i k * Dk A k k j := by
  obtain ⟨N, lam, he⟩ := h
  have e : Dk A (k + 1) i j = dt (k + 2) (bd2 A k k i k j) := dt_congr (k + 2) (fun x y hx hy => by
    unfold bd bd2
    congr 1
    · by_cases q : x < k
      · rw [if_pos (by omega), if_pos q]
      · rw [if_neg q]
        by_cases q2 : x = k
        · rw [if_pos (by omega), if_pos q2, q2]
        · rw [if_neg (by omega), if_neg q2]
    · by_cases q : y < k
      · rw [if_pos (by omega), if_pos q]
      · rw [if_neg q]
        by_cases q2 : y = k
        · rw [if_pos (by omega), if_pos q2, q2]
        · rw [if_neg (by omega), if_neg q2])
  have h2 := D2_elm (r := k) he k j
  have hj := Dk_elm he j
  have hk := Dk_elm he k
  rw [← e] at h2
  generalize N * A i j + sm (fun l => lam l * A l j) k = yj at h2 hj
  generalize N * A i k + sm (fun l => lam l * A l k) k = yk at h2 hk
  have hN := he.1
  have : N * (dt k A * Dk A (k + 1) i j) = N * (Dk A k k k * Dk A k i j - Dk A k i k * Dk A k k j) := by
    rw [Int.mul_left_comm, h2, Int.mul_sub, Int.mul_sub, ← Int.mul_assoc, ← Int.mul_assoc, ← hj, ← hk]
    rw [Int.mul_assoc, Int.mul_comm (Dk A k i j), Int.mul_assoc]
  exact Int.eq_of_mul_eq_mul_left hN this
theorem Dkk (A : Nat → Nat → Int) (k : Nat) : Dk A k k k = dt (k + 1) A := dt_congr (k + 1) (fun i j hi hj => by
  unfold bd
  congr 1
  · split
    · rfl
    · omega
  · split
    · rfl
    · omega)
/-- rows can be cleared, if no pivot is 0 -/
theorem elm_ex {A : Nat → Nat → Int} : ∀ k, (∀ l, l < k → dt (l + 1) A ≠ 0) → ∀ s, ∃ N lam, elm A k s N lam
  | 0, _, s => ⟨1, fun _ => 0, by decide, fun c hc => absurd hc (Nat.not_lt_zero c)⟩
  | k + 1, hp, s => by
    have ih := elm_ex (A := A) k (fun l hl => hp l (by omega))
    obtain ⟨N, lam, h1, h2⟩ := ih s
    obtain ⟨M, mu, g1, g2⟩ := ih k
    have hk := Dk_elm (⟨g1, g2⟩ : elm A k k M mu) k
    rw [Dkk] at hk
    have hy : M * A k k + sm (fun l => mu l * A l k) k ≠ 0 := by
      intro q
      rw [q, Int.mul_zero] at hk
      rcases Int.mul_eq_zero.mp hk with w | w
      · exact g1 w
      · exact hp k (by omega) w
    generalize hyy : M * A k k + sm (fun l => mu l * A l k) k = y at hy
    generalize hxx : N * A s k + sm (fun l => lam l * A l k) k = x
    refine ⟨y * N, fun l => if l = k then - (x * M) else y * lam l - x * mu l, fun q => ?_, fun c hc => ?_⟩
    · rcases Int.mul_eq_zero.mp q with w | w
      · exact hy w
      · exact h1 w
    · have es : sm (fun l => (if l = k then - (x * M) else y * lam l - x * mu l) * A l c) (k + 1) = y * sm (fun l => lam l * A l c) k - x * sm (fun l => mu l * A l c) k - x * M * A k c := by
        show sm (fun l => (if l = k then - (x * M) else y * lam l - x * mu l) * A l c) k + (if k = k then - (x * M) else y * lam k - x * mu k) * A k c = _
        rw [if_pos rfl]
        have : sm (fun l => (if l = k then - (x * M) else y * lam l - x * mu l) * A l c) k = sm (fun l => y * (lam l * A l c) + (- x) * (mu l * A l c)) k := sm_congr k (fun l hl => by
          rw [if_neg (by omega), Int.sub_mul, Int.mul_assoc, Int.mul_assoc, Int.neg_mul]
          omega)
        rw [this, sm_add, sm_mul, sm_mul, Int.neg_mul, Int.neg_mul]
        omega
      rw [es]
      by_cases e : c = k
      · subst e
        have e1 : N * A s c = x - sm (fun l => lam l * A l c) c := by omega
        have e2 : M * A c c = y - sm (fun l => mu l * A l c) c := by omega
        rw [Int.mul_assoc, e1, Int.mul_assoc, e2, Int.mul_sub, Int.mul_sub, Int.mul_comm x y]
        omega
      · have a1 := h2 c (by omega)
        have a2 := g2 c (by omega)
        have e1 : N * A s c = - sm (fun l => lam l * A l c) k := by omega
        have e2 : M * A k c = - sm (fun l => mu l * A l c) k := by omega
        rw [Int.mul_assoc, e1, Int.mul_assoc, e2, Int.mul_neg, Int.mul_neg]
        omega

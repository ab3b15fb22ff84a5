/-! the elimination over longs -/
theorem mul_ab {x y : Int} (hx : x.natAbs ≤ 1073741824) (hy : y.natAbs ≤ 1073741824) : (x * y).natAbs ≤ 1152921504606846976 := by
  rw [Int.natAbs_mul]
  exact Nat.le_trans (Nat.mul_le_mul hx hy) (by decide)
theorem bm64 {x : Int} (h : x.natAbs ≤ 4611686018427387904) : x.bmod (2 ^ 64) = x := by
  refine Int.bmod_eq_of_le_mul_two ?_ ?_
  · have : ((2 ^ 64 : Nat) : Int) = 18446744073709551616 := by decide
    omega
  · have : ((2 ^ 64 : Nat) : Int) = 18446744073709551616 := by decide
    omega
theorem i64_step {x y z w e : Int64} {V : Int} (h : e.toInt * V = x.toInt * y.toInt - z.toInt * w.toInt) (he : e.toInt ≠ 0) (hx : x.toInt.natAbs ≤ 1073741824) (hy : y.toInt.natAbs ≤ 1073741824) (hz : z.toInt.natAbs ≤ 1073741824) (hw : w.toInt.natAbs ≤ 1073741824) (hV : V.natAbs ≤ 1073741824) : ((x * y - z * w) / e).toInt = V := by
  have h1 := mul_ab hx hy
  have h2 := mul_ab hz hw
  rw [Int64.toInt_div, Int64.toInt_sub, Int64.toInt_mul, Int64.toInt_mul, bm64 (x := x.toInt * y.toInt) (by omega), bm64 (x := z.toInt * w.toInt) (by omega), bm64 (x := x.toInt * y.toInt - z.toInt * w.toInt) (by omega), ← h, Int.mul_tdiv_cancel_left V he, bm64 (x := V) (by omega)]
theorem i64_n0 {x : Int64} (h : x.toInt ≠ 0) : ¬ x = 0 := fun q => h (by rw [q]; rfl)
/-- what the elimination needs to know of A: n rows, J columns -/
def HE (n J : Nat) (A : Nat → Nat → Int) : Prop := (∀ k, k < n → 0 < dt k A ∧ dt k A ≤ 1073741824) ∧ (∀ k i j, k < n → k ≤ i → i < n → k ≤ j → j < J → (Dk A k i j).natAbs ≤ 1073741824) ∧ (∀ k i j, k + 1 < n → k < i → i < n → k < j → j < J → dt k A * Dk A (k + 1) i j = dt (k + 1) A * Dk A k i j - Dk A k i k * Dk A k k j)
theorem updT_s (M : Nat → Nat → Int64) (i j : Nat) (x : Int64) : updT M i j x i = vp_updL (M i) j x := if_pos rfl
theorem updT_n (M : Nat → Nat → Int64) {a i : Nat} (j : Nat) (x : Int64) (h : a ≠ i) : updT M i j x a = M a := if_neg h
set_option maxRecDepth 20000 in
theorem Cel3 {n J k i : Nat} {A : Nat → Nat → Int} (hE : HE n J A) (hn : n ≤ 15) (hJ : n ≤ J) (hk : k + 1 < n) (hi : k < i) (hin : i < n) {pv q : Int64} (hpv : pv.toInt = dt k A) (hq : q.toInt = dt (k + 1) A) {T : Nat → Nat → Int64} (hTi : ∀ j, k ≤ j → j < J → (T i j).toInt = Dk A k i j) (hTk : ∀ j, k ≤ j → j < J → (T k j).toInt = Dk A k k j) :
    ∃ T', qlp qFU (lb_X6_eliminate_3 (nI n) pv (nI k) q (nI i)) (nI (k + 1), T) = some T' ∧ (∀ a, a ≠ i → T' a = T a) ∧ ∀ j, k < j → j < J → j ≤ n → (T' i j).toInt = Dk A (k + 1) i j := by
  obtain ⟨E1, E2, E3⟩ := hE
  have hp0 := (E1 k (by omega)).1
  obtain ⟨e, g1, g2, g3⟩ := qlp_idx (f := lb_X6_eliminate_3 (nI n) pv (nI k) q (nI i)) (fun t st => ∃ T', st = (nI (k + 1 + t), T') ∧ (∀ a, a ≠ i → T' a = T a) ∧ (∀ j, k < j → j < k + 1 + t → j < J → (T' i j).toInt = Dk A (k + 1) i j) ∧ (∀ j, k + 1 + t ≤ j → T' i j = T i j) ∧ T' i k = T i k) (n - k) (fun e => (∀ a, a ≠ i → e a = T a) ∧ ∀ j, k < j → j < J → j ≤ n → (e i j).toInt = Dk A (k + 1) i j) (by
    rintro t st ht ⟨T', rfl, a1, a2, a3, a4⟩
    rw [ls_X6_eliminate_3]
    by_cases q1 : t = n - k
    · right
      exact ⟨T', by rw [if_pos (nI_lt (by omega) (by omega))], a1, fun j h1 h2 h3 => a2 j h1 (by omega) h2⟩
    · left
      have hne : pv.toInt ≠ 0 := by omega
      refine ⟨by omega, ?_⟩
      rw [if_neg (nI_nlt (by omega) (by omega)), if_neg (show ¬ (16 : Int32) < nI (k + 1 + t) from nI_nlt (a := 16) (by omega) (by decide)), if_neg (fun w => i64_n0 hne (lg_0.mp w)), qgd_nI (show i < 16 by omega) (by decide), qgd_nI (show i < 16 by omega) (by decide), qgd_nI (show k + 1 + t < 17 by omega) (by decide), qgd_nI (show i < 16 by omega) (by decide), qgd_nI (show k < 17 by omega) (by decide), qgd_nI (show k < 16 by omega) (by decide), qgd_nI (show k + 1 + t < 17 by omega) (by decide), qgl, if_neg (i64_n0 hne), qgd_nI (show k + 1 + t < 17 by omega) (by decide)]
      simp only [qbd]
      rw [nI_clamp (show i < 2 ^ 31 by omega), nI_clamp (show k < 2 ^ 31 by omega), nI_clamp (show k + 1 + t < 2 ^ 31 by omega)]
      refine ⟨_, rfl, updT T' i (k + 1 + t) _, by rw [nI_1]; rfl, fun a ha => by rw [updT_n _ _ _ ha]; exact a1 a ha, fun j h1 h2 h3 => ?_, fun j h1 => ?_, ?_⟩
      · rw [updT_s]
        by_cases e : j = k + 1 + t
        · subst e
          rw [updL_s, a3 _ (Nat.le_refl _), a4, a1 k (by omega)]
          refine i64_step ?_ hne ?_ ?_ ?_ ?_ (E2 (k + 1) i (k + 1 + t) (by omega) (by omega) hin (by omega) h3)
          · rw [hpv, hq, hTi _ (by omega) h3, hTi k (Nat.le_refl k) (by omega), hTk _ (by omega) h3, E3 k i (k + 1 + t) hk hi hin (by omega) h3, Int.mul_comm (dt (k + 1) A)]
          · rw [hTi _ (by omega) h3]; exact E2 k i _ (by omega) (by omega) hin (by omega) h3
          · rw [hq]
            have := E1 (k + 1) hk
            omega
          · rw [hTi k (Nat.le_refl k) (by omega)]; exact E2 k i k (by omega) (by omega) hin (Nat.le_refl k) (by omega)
          · rw [hTk _ (by omega) h3]; exact E2 k k _ (by omega) (Nat.le_refl k) (by omega) (by omega) h3
        · rw [updL_n e]
          exact a2 j h1 (by omega) h3
      · rw [updT_s, updL_n (by omega)]
        exact a3 j (by omega)
      · rw [updT_s, updL_n (by omega)]
        exact a4) qFU (qFU_gt (by omega)) (nI (k + 1), T) ⟨T, rfl, fun _ _ => rfl, fun j h1 h2 => by omega, fun _ _ => rfl, rfl⟩
  exact ⟨e, g1, g2, g3⟩
set_option maxRecDepth 20000 in
theorem Cel2 {n J k : Nat} {A : Nat → Nat → Int} (hE : HE n J A) (hn : n ≤ 15) (hJ : n ≤ J) (hJ1 : J ≤ n + 1) (hk : k + 1 < n) {pv q : Int64} (hpv : pv.toInt = dt k A) (hq : q.toInt = dt (k + 1) A) {T : Nat → Nat → Int64} (hT : ∀ i j, k ≤ i → i < n → k ≤ j → j < J → (T i j).toInt = Dk A k i j) :
    ∃ T', qlp qFU (lb_X6_eliminate_2 (nI n) pv (nI k) q) (nI (k + 1), T) = some T' ∧ ∀ i j, k < i → i < n → k < j → j < J → (T' i j).toInt = Dk A (k + 1) i j := by
  obtain ⟨e, g1, g2⟩ := qlp_idx (f := lb_X6_eliminate_2 (nI n) pv (nI k) q) (fun t st => ∃ T', st = (nI (k + 1 + t), T') ∧ (∀ i j, k < i → i < k + 1 + t → i < n → k < j → j < J → (T' i j).toInt = Dk A (k + 1) i j) ∧ (∀ i, (i = k ∨ k + 1 + t ≤ i) → T' i = T i)) (n - (k + 1)) (fun e => ∀ i j, k < i → i < n → k < j → j < J → (e i j).toInt = Dk A (k + 1) i j) (by
    rintro t st ht ⟨T', rfl, a1, a2⟩
    rw [ls_X6_eliminate_2]
    by_cases q1 : t = n - (k + 1)
    · right
      exact ⟨T', by rw [if_pos (nI_le (by omega) (by omega))], fun i j h1 h2 h3 h4 => a1 i j h1 (by omega) h2 h3 h4⟩
    · left
      obtain ⟨T2, b1, b2, b3⟩ := Cel3 (i := k + 1 + t) hE hn hJ hk (by omega) (by omega) hpv hq (T := T') (fun j h1 h2 => by rw [a2 _ (Or.inr (Nat.le_refl _))]; exact hT _ j (by omega) (by omega) h1 h2) (fun j h1 h2 => by rw [a2 k (Or.inl rfl)]; exact hT k j (Nat.le_refl k) (by omega) h1 h2)
      refine ⟨by omega, (nI (k + 1 + t + 1), T2), ?_, T2, rfl, fun i j h1 h2 h3 h4 h5 => ?_, fun i h1 => ?_⟩
      · rw [if_neg (nI_ge (by omega) (by omega)), if_neg (show ¬ (16 : Int32) ≤ nI (k + 1 + t) from nI_ge (b := 16) (by omega) (by decide)), nI_1 k, b1, qob_some, qun1_eq, nI_1]
      · by_cases e : i = k + 1 + t
        · subst e
          exact b3 j h4 h5 (by omega)
        · rw [b2 i e]
          exact a1 i j h1 (by omega) h3 h4 h5
      · rw [b2 i (by omega)]
        exact a2 i (by omega)) qFU (qFU_gt (by omega)) (nI (k + 1), T) ⟨T, rfl, fun i j h1 h2 => by omega, fun _ _ => rfl⟩
  exact ⟨e, g1, g2⟩
set_option maxRecDepth 20000 in
theorem Celim {n J : Nat} {A : Nat → Nat → Int} (hE : HE n J A) (hn0 : 0 < n) (hn : n ≤ 15) (hJ : n ≤ J) (hJ1 : J ≤ n + 1) {T : Nat → Nat → Int64} (hT : ∀ i j, i < n → j < J → (T i j).toInt = A i j) :
    ∃ T', fX6_eliminate (nI n) T = some T' ∧ ∀ j, n - 1 ≤ j → j < J → (T' (n - 1) j).toInt = Dk A (n - 1) (n - 1) j := by
  have e1 : (nI n - 1 : Int32) = nI (n - 1) := nI_sub (b := 1) hn0
  obtain ⟨e, g1, g2⟩ := qlp_idx (f := lb_X6_eliminate_1 (nI n)) (fun k st => ∃ pv T', st = (pv, nI k, T') ∧ pv.toInt = dt k A ∧ ∀ i j, k ≤ i → i < n → k ≤ j → j < J → (T' i j).toInt = Dk A k i j) (n - 1) (fun e => ∀ j, n - 1 ≤ j → j < J → (e (n - 1) j).toInt = Dk A (n - 1) (n - 1) j) (by
    rintro k st hk ⟨pv, T', rfl, a1, a2⟩
    rw [ls_X6_eliminate_1, e1]
    by_cases q1 : k = n - 1
    · right
      subst q1
      exact ⟨T', by rw [if_pos (nI_le (Nat.le_refl _) (by omega))], fun j h1 h2 => a2 (n - 1) j (Nat.le_refl _) (by omega) h1 h2⟩
    · left
      have hpv : (T' k k).toInt = dt (k + 1) A := by rw [a2 k k (Nat.le_refl k) (by omega) (Nat.le_refl k) (by omega), Dkk]
      obtain ⟨T2, b1, b2⟩ := Cel2 hE hn hJ hJ1 (show k + 1 < n by omega) a1 hpv a2
      refine ⟨by omega, (T' k k, nI (k + 1), T2), ?_, T' k k, T2, rfl, hpv, fun i j h1 h2 h3 h4 => b2 i j (by omega) h2 (by omega) h4⟩
      rw [if_neg (nI_ge (by omega) (by omega)), if_neg (show ¬ (16 : Int32) ≤ nI k from nI_ge (b := 16) (by omega) (by decide)), qgd_nI (show k < 16 by omega) (by decide), qgd_nI (show k < 17 by omega) (by decide)]
      simp only [qbd]
      rw [nI_clamp (show k < 2 ^ 31 by omega), nI_1, b1, qob_some]) qFU (qFU_gt (by omega)) ((1 : Int64), (0 : Int32), T) ⟨1, T, rfl, rfl, fun i j _ h2 _ h4 => by rw [Dk_0]; exact hT i j h2 h4⟩
  exact ⟨e, by rw [le_X6_eliminate, g1, qob_some], g2⟩
/-! the same by the reference, in one row of 256 -/
theorem i16 (i j : Nat) : ((16 * nI i) + nI j : Int32) = nI (16 * i + j) := by rw [show (16 * nI i : Int32) = nI (16 * i) from nI_mul 16 i, nI_add]
set_option maxRecDepth 20000 in
theorem Mel3 {n J k i : Nat} {A : Nat → Nat → Int} (hE : HE n J A) (hn : n ≤ 15) (hJ : n ≤ J) (hk : k + 1 < n) (hi : k < i) (hin : i < n) {pv : Int64} (hpv : pv.toInt = dt k A) {T : Nat → Int64} (hTi : ∀ j, k ≤ j → j < J → (T (16 * i + j)).toInt = Dk A k i j) (hTk : ∀ j, k ≤ j → j < J → (T (16 * k + j)).toInt = Dk A k k j) :
    ∃ T', qlp qFU (lb_X10_reduce_3 (nI n) pv (nI k) (nI i)) (nI (k + 1), T) = some T' ∧ (∀ a j, a ≠ i → j < 16 → T' (16 * a + j) = T (16 * a + j)) ∧ (∀ j, k < j → j < J → j ≤ n → (T' (16 * i + j)).toInt = Dk A (k + 1) i j) := by
  obtain ⟨E1, E2, E3⟩ := hE
  have hp0 := (E1 k (by omega)).1
  obtain ⟨e, g1, g2, g3⟩ := qlp_idx (f := lb_X10_reduce_3 (nI n) pv (nI k) (nI i)) (fun t st => ∃ T', st = (nI (k + 1 + t), T') ∧ (∀ a j, a ≠ i → j < 16 → T' (16 * a + j) = T (16 * a + j)) ∧ (∀ j, k < j → j < k + 1 + t → j < J → (T' (16 * i + j)).toInt = Dk A (k + 1) i j) ∧ (∀ j, k + 1 + t ≤ j → j < 16 → T' (16 * i + j) = T (16 * i + j)) ∧ T' (16 * i + k) = T (16 * i + k)) (n - k) (fun e => (∀ a j, a ≠ i → j < 16 → e (16 * a + j) = T (16 * a + j)) ∧ ∀ j, k < j → j < J → j ≤ n → (e (16 * i + j)).toInt = Dk A (k + 1) i j) (by
    rintro t st ht ⟨T', rfl, a1, a2, a3, a4⟩
    rw [ls_X10_reduce_3]
    by_cases q1 : t = n - k
    · right
      exact ⟨T', by rw [if_pos (nI_lt (by omega) (by omega))], a1, fun j h1 h2 h3 => a2 j h1 (by omega) h2⟩
    · left
      have hne : pv.toInt ≠ 0 := by omega
      refine ⟨by omega, ?_⟩
      rw [if_neg (nI_nlt (by omega) (by omega)), if_neg (show ¬ (16 : Int32) ≤ nI (k + 1 + t) from nI_ge (b := 16) (by omega) (by decide)), i16, i16, i16, i16, qgd_nI (show 16 * k + k < 256 by omega) (by decide), qgd_nI (show 16 * i + (k + 1 + t) < 256 by omega) (by decide), qgd_nI (show 16 * i + k < 256 by omega) (by decide), qgd_nI (show 16 * k + (k + 1 + t) < 256 by omega) (by decide), qgl, if_neg (i64_n0 hne), qgd_nI (show 16 * i + (k + 1 + t) < 256 by omega) (by decide)]
      simp only [qbd]
      rw [nI_clamp (show 16 * k + k < 2 ^ 31 by omega), nI_clamp (show 16 * i + (k + 1 + t) < 2 ^ 31 by omega), nI_clamp (show 16 * i + k < 2 ^ 31 by omega), nI_clamp (show 16 * k + (k + 1 + t) < 2 ^ 31 by omega)]
      refine ⟨_, rfl, vp_updL T' (16 * i + (k + 1 + t)) _, by rw [nI_1]; rfl, fun a j ha hj => by rw [updL_n (by omega)]; exact a1 a j ha hj, fun j h1 h2 h3 => ?_, fun j h1 h2 => ?_, ?_⟩
      · by_cases e : j = k + 1 + t
        · subst e
          rw [updL_s, a3 _ (Nat.le_refl _) (by omega), a4, a1 k k (by omega) (by omega), a1 k (k + 1 + t) (by omega) (by omega)]
          refine i64_step ?_ hne ?_ ?_ ?_ ?_ (E2 (k + 1) i (k + 1 + t) (by omega) (by omega) hin (by omega) h3)
          · rw [hpv, hTk k (Nat.le_refl k) (by omega), hTi _ (by omega) h3, hTi k (Nat.le_refl k) (by omega), hTk _ (by omega) h3, Dkk, E3 k i (k + 1 + t) hk hi hin (by omega) h3]
          · rw [hTk k (Nat.le_refl k) (by omega)]; exact E2 k k k (by omega) (Nat.le_refl k) (by omega) (Nat.le_refl k) (by omega)
          · rw [hTi _ (by omega) h3]; exact E2 k i _ (by omega) (by omega) hin (by omega) h3
          · rw [hTi k (Nat.le_refl k) (by omega)]; exact E2 k i k (by omega) (by omega) hin (Nat.le_refl k) (by omega)
          · rw [hTk _ (by omega) h3]; exact E2 k k _ (by omega) (Nat.le_refl k) (by omega) (by omega) h3
        · rw [updL_n (by omega)]
          exact a2 j h1 (by omega) h3
      · rw [updL_n (by omega)]
        exact a3 j (by omega) h2
      · rw [updL_n (by omega)]
        exact a4) qFU (qFU_gt (by omega)) (nI (k + 1), T) ⟨T, rfl, fun _ _ _ _ => rfl, fun j h1 h2 => by omega, fun _ _ _ => rfl, rfl⟩
  exact ⟨e, g1, g2, g3⟩
set_option maxRecDepth 20000 in
theorem Mel2 {n J k : Nat} {A : Nat → Nat → Int} (hE : HE n J A) (hn : n ≤ 15) (hJ : n ≤ J) (hJ1 : J ≤ n + 1) (hk : k + 1 < n) {pv : Int64} (hpv : pv.toInt = dt k A) {T : Nat → Int64} (hT : ∀ i j, k ≤ i → i < n → k ≤ j → j < J → (T (16 * i + j)).toInt = Dk A k i j) :
    ∃ T', qlp qFU (lb_X10_reduce_2 (nI n) pv (nI k)) (nI (k + 1), T) = some T' ∧ (∀ i j, k < i → i < n → k < j → j < J → (T' (16 * i + j)).toInt = Dk A (k + 1) i j) ∧ T' (16 * k + k) = T (16 * k + k) := by
  obtain ⟨e, g1, g2, g3⟩ := qlp_idx (f := lb_X10_reduce_2 (nI n) pv (nI k)) (fun t st => ∃ T', st = (nI (k + 1 + t), T') ∧ (∀ i j, k < i → i < k + 1 + t → i < n → k < j → j < J → (T' (16 * i + j)).toInt = Dk A (k + 1) i j) ∧ (∀ i j, (i = k ∨ k + 1 + t ≤ i) → j < 16 → T' (16 * i + j) = T (16 * i + j))) (n - (k + 1)) (fun e => (∀ i j, k < i → i < n → k < j → j < J → (e (16 * i + j)).toInt = Dk A (k + 1) i j) ∧ e (16 * k + k) = T (16 * k + k)) (by
    rintro t st ht ⟨T', rfl, a1, a2⟩
    rw [ls_X10_reduce_2]
    by_cases q1 : t = n - (k + 1)
    · right
      exact ⟨T', by rw [if_pos (nI_le (by omega) (by omega))], fun i j h1 h2 h3 h4 => a1 i j h1 (by omega) h2 h3 h4, a2 k k (Or.inl rfl) (by omega)⟩
    · left
      obtain ⟨T2, b1, b2, b3⟩ := Mel3 (i := k + 1 + t) hE hn hJ hk (by omega) (by omega) hpv (T := T') (fun j h1 h2 => by rw [a2 _ j (Or.inr (Nat.le_refl _)) (by omega)]; exact hT _ j (by omega) (by omega) h1 h2) (fun j h1 h2 => by rw [a2 k j (Or.inl rfl) (by omega)]; exact hT k j (Nat.le_refl k) (by omega) h1 h2)
      refine ⟨by omega, (nI (k + 1 + t + 1), T2), ?_, T2, rfl, fun i j h1 h2 h3 h4 h5 => ?_, fun i j h1 h2 => ?_⟩
      · rw [if_neg (nI_ge (by omega) (by omega)), nI_1 k, b1, qob_some, qun1_eq, nI_1]
      · by_cases e : i = k + 1 + t
        · subst e
          exact b3 j h4 h5 (by omega)
        · rw [b2 i j e (by omega)]
          exact a1 i j h1 (by omega) h3 h4 h5
      · rw [b2 i j (by omega) h2]
        exact a2 i j (by omega) h2) qFU (qFU_gt (by omega)) (nI (k + 1), T) ⟨T, rfl, fun i j h1 h2 => by omega, fun _ _ _ _ => rfl⟩
  exact ⟨e, g1, g2, g3⟩
set_option maxRecDepth 20000 in
theorem Melim {n J : Nat} {A : Nat → Nat → Int} (hE : HE n J A) (hn0 : 0 < n) (hn : n ≤ 15) (hJ : n ≤ J) (hJ1 : J ≤ n + 1) {T : Nat → Int64} (hT : ∀ i j, i < n → j < J → (T (16 * i + j)).toInt = A i j) :
    ∃ T', fX10_reduce T (nI n) = some T' ∧ ∀ j, n - 1 ≤ j → j < J → (T' (16 * (n - 1) + j)).toInt = Dk A (n - 1) (n - 1) j := by
  have e1 : (nI n - 1 : Int32) = nI (n - 1) := nI_sub (b := 1) hn0
  obtain ⟨e, g1, g2⟩ := qlp_idx (f := lb_X10_reduce_1 (nI n)) (fun k st => ∃ pv T', st = (pv, nI k, T') ∧ pv.toInt = dt k A ∧ ∀ i j, k ≤ i → i < n → k ≤ j → j < J → (T' (16 * i + j)).toInt = Dk A k i j) (n - 1) (fun e => ∀ j, n - 1 ≤ j → j < J → (e (16 * (n - 1) + j)).toInt = Dk A (n - 1) (n - 1) j) (by
    rintro k st hk ⟨pv, T', rfl, a1, a2⟩
    rw [ls_X10_reduce_1, e1]
    by_cases q1 : k = n - 1
    · right
      subst q1
      exact ⟨T', by rw [if_pos (nI_le (Nat.le_refl _) (by omega))], fun j h1 h2 => a2 (n - 1) j (Nat.le_refl _) (by omega) h1 h2⟩
    · left
      obtain ⟨T2, b1, b2, b3⟩ := Mel2 hE hn hJ hJ1 (show k + 1 < n by omega) a1 a2
      have hpv : (T2 (16 * k + k)).toInt = dt (k + 1) A := by rw [b3, a2 k k (Nat.le_refl k) (by omega) (Nat.le_refl k) (by omega), Dkk]
      refine ⟨by omega, (T2 (16 * k + k), nI (k + 1), T2), ?_, _, T2, rfl, hpv, fun i j h1 h2 h3 h4 => b2 i j (by omega) h2 (by omega) h4⟩
      rw [if_neg (nI_ge (by omega) (by omega)), nI_1, b1, qob_some, qun1_eq, i16, qgd_nI (show 16 * k + k < 256 by omega) (by decide), nI_clamp (by omega)]
      rfl) qFU (qFU_gt (by omega)) ((1 : Int64), (0 : Int32), T) ⟨1, T, rfl, rfl, fun i j _ h2 _ h4 => by rw [Dk_0]; exact hT i j h2 h4⟩
  exact ⟨e, by rw [le_X10_reduce, g1, qob_some], g2⟩

/-! two fractions told in their least terms -/
theorem i64_dv {x y : Int64} {a b : Nat} (hx : x.toInt = (a : Int)) (hy : y.toInt = (b : Int)) (ha : a ≤ 1073741824) : (x / y).toInt = ((a / b : Nat) : Int) := by
  rw [Int64.toInt_div, hx, hy, show Int.tdiv (a : Int) (b : Int) = ((a / b : Nat) : Int) from rfl]
  have := Nat.div_le_self a b
  exact bm64 (by rw [Int.natAbs_natCast]; omega)
theorem i64_rm {x y : Int64} {a b : Nat} (hx : x.toInt = (a : Int)) (hy : y.toInt = (b : Int)) (ha : a ≤ 1073741824) : (qreml x y).toInt = ((a % b : Nat) : Int) := by
  show (x - x / y * y).toInt = _
  have h1 := Nat.div_mul_le_self a b
  have h2 := Nat.div_add_mod a b
  have e : ((a / b : Nat) : Int) * (b : Int) = ((a / b * b : Nat) : Int) := by rw [Int.natCast_mul]
  rw [Int64.toInt_sub, Int64.toInt_mul, i64_dv hx hy ha, hx, hy, e, bm64 (x := ((a / b * b : Nat) : Int)) (by omega), bm64 (by omega)]
  rw [Nat.mul_comm] at h2
  omega
def EUI (g i a b : Nat) : Prop := a ≤ 1073741824 ∧ b ≤ 1073741824 ∧ Nat.gcd a b = g ∧ (i = 0 ∨ (b < a ∧ a * b * 2 ^ i ≤ 2305843009213693952))
theorem EUI_0 {a b : Nat} (ha : a ≤ 1073741824) (hb : b ≤ 1073741824) : EUI (Nat.gcd a b) 0 a b := ⟨ha, hb, rfl, Or.inl rfl⟩
theorem EUI_s {g i a b : Nat} (h : EUI g i a b) (hb : 0 < b) : EUI g (i + 1) b (a % b) := by
  obtain ⟨h1, h2, h3, h4⟩ := h
  have hm := Nat.mod_lt a hb
  refine ⟨h2, by omega, ?_, Or.inr ⟨hm, ?_⟩⟩
  · rw [← h3, Nat.gcd_comm a b, Nat.gcd_rec b a, Nat.gcd_comm]
  · rcases h4 with rfl | ⟨h5, h6⟩
    · have : b * (a % b) ≤ 1073741824 * 1073741824 := Nat.mul_le_mul h2 (by omega)
      have e : 2 ^ (0 + 1) = 2 := rfl
      rw [e]
      omega
    · have e : 2 * (a % b) ≤ a := by
        have : a % b ≤ a - b := by rw [Nat.mod_eq_sub_mod (by omega)]; exact Nat.mod_le _ _
        omega
      have e2 : b * (a % b) * 2 ^ (i + 1) = b * (2 * (a % b)) * 2 ^ i := by
        rw [Nat.pow_succ, Nat.mul_comm (2 ^ i) 2, ← Nat.mul_assoc, Nat.mul_assoc b, Nat.mul_comm (a % b) 2]
      rw [e2]
      refine Nat.le_trans (Nat.mul_le_mul_right _ (Nat.mul_le_mul_left b e)) ?_
      rw [Nat.mul_comm b a]
      exact h6
theorem EUI_z {g i a : Nat} (h : EUI g i a 0) : a = g := by
  have := h.2.2.1
  rw [Nat.gcd_zero_right] at this
  exact this
theorem EUI_100 {g a b : Nat} (h : EUI g 100 a b) : b = 0 := by
  rcases Nat.eq_zero_or_pos b with q | q
  · exact q
  · obtain ⟨-, -, -, h4⟩ := h
    rcases h4 with w | ⟨w1, w2⟩
    · cases w
    · have h5 : 1 ≤ a * b := Nat.mul_pos (by omega) q
      have h6 : 1 * 2 ^ 100 ≤ a * b * 2 ^ 100 := Nat.mul_le_mul_right _ h5
      have h7 : ¬ (1 * 2 ^ 100 ≤ 2305843009213693952) := by decide
      exact absurd (Nat.le_trans h6 w2) h7
theorem i64_nz {y : Int64} {b : Nat} (hy : y.toInt = (b : Int)) : (y = 0 ↔ b = 0) := by
  rw [← Int64.toInt_inj, hy, z64]
  omega
theorem Cgcd {x y : Int64} {a b : Nat} (hx : x.toInt = (a : Int)) (hy : y.toInt = (b : Int)) (ha : a ≤ 1073741824) (hb : b ≤ 1073741824) : ∃ w, fX6_commonDivisor x y = some w ∧ w.toInt = (Nat.gcd a b : Int) := by
  obtain ⟨e, g1, g2⟩ := qlp_idx (f := lb_X6_commonDivisor_1) (fun i st => ∃ (x y : Int64) (a' b' : Nat), st = (x, y, nI i) ∧ x.toInt = (a' : Int) ∧ y.toInt = (b' : Int) ∧ EUI (Nat.gcd a b) i a' b') 100 (fun w => w.toInt = (Nat.gcd a b : Int)) (by
    rintro i st hi ⟨x, y, a', b', rfl, h1, h2, h3⟩
    rw [ls_X6_commonDivisor_1]
    by_cases q : i = 100
    · right
      subst q
      have := EUI_100 h3
      subst this
      exact ⟨x, by rw [if_pos (show (100 : Int32) ≤ nI 100 by decide)], by rw [h1, EUI_z h3]⟩
    · rw [if_neg (show ¬ (100 : Int32) ≤ nI i from nI_ge (b := 100) (by omega) (by decide))]
      by_cases w : b' = 0
      · right
        subst w
        exact ⟨x, by rw [if_pos (lg_0.mpr ((i64_nz h2).mpr rfl))], by rw [h1, EUI_z h3]⟩
      · left
        have hy0 : ¬ y = 0 := fun v => w ((i64_nz h2).mp v)
        rw [if_neg (fun v => hy0 (lg_0.mp v)), qgl, if_neg hy0, nI_1]
        exact ⟨by omega, _, rfl, _, _, b', a' % b', rfl, h2, i64_rm h1 h2 h3.1, EUI_s h3 (by omega)⟩) qFU (qFU_gt (by decide)) (x, y, (0 : Int32)) ⟨x, y, a, b, rfl, hx, hy, EUI_0 ha hb⟩
  exact ⟨e, by show Option.bind (qlp qFU lb_X6_commonDivisor_1 (x, y, (0 : Int32))) _ = _; rw [g1]; rfl, g2⟩
theorem Mgcd {x y : Int64} {a b : Nat} (hx : x.toInt = (a : Int)) (hy : y.toInt = (b : Int)) (ha : a ≤ 1073741824) (hb : b ≤ 1073741824) : ∃ w, qlp qFU lb_X10_lost_1 (x, y) = some w ∧ w.toInt = (Nat.gcd a b : Int) := by
  obtain ⟨e, g1, g2⟩ := qlp_idx (f := lb_X10_lost_1) (fun i st => ∃ (x y : Int64) (a' b' : Nat), st = (x, y) ∧ x.toInt = (a' : Int) ∧ y.toInt = (b' : Int) ∧ EUI (Nat.gcd a b) i a' b') 100 (fun w => w.toInt = (Nat.gcd a b : Int)) (by
    rintro i st hi ⟨x, y, a', b', rfl, h1, h2, h3⟩
    rw [ls_X10_lost_1]
    by_cases w : b' = 0
    · right
      subst w
      exact ⟨x, by rw [if_pos (lg_0.mpr ((i64_nz h2).mpr rfl))], by rw [h1, EUI_z h3]⟩
    · left
      have hi2 : i ≠ 100 := fun q => by subst q; exact w (EUI_100 h3)
      have hy0 : ¬ y = 0 := fun v => w ((i64_nz h2).mp v)
      rw [if_neg (fun v => hy0 (lg_0.mp v)), qgl, if_neg hy0]
      exact ⟨by omega, _, rfl, _, _, b', a' % b', rfl, h2, i64_rm h1 h2 h3.1, EUI_s h3 (by omega)⟩) qFU (qFU_gt (by decide)) (x, y) ⟨x, y, a, b, rfl, hx, hy, EUI_0 ha hb⟩
  exact ⟨e, g1, g2⟩
theorem fr_0 {g1 g2 a b c d : Nat} (h : (g1 * a) * (g2 * d) = (g2 * c) * (g1 * b)) (k : g1 * (g2 * d) = g2 * (g1 * b)) (p1 : 0 < g1) (p2 : 0 < g2) (p3 : 0 < b) : a = c ∧ b = d := by
  have e1 : b = d := by
    have : (g1 * g2) * b = (g1 * g2) * d := by
      rw [Nat.mul_assoc, Nat.mul_assoc, k]
      exact Nat.mul_left_comm g1 g2 b
    exact Nat.eq_of_mul_eq_mul_left (Nat.mul_pos p1 p2) this
  subst e1
  refine ⟨?_, rfl⟩
  have : (g1 * (g2 * b)) * a = (g1 * (g2 * b)) * c := by
    have x1 : (g1 * (g2 * b)) * a = (g1 * a) * (g2 * b) := by rw [Nat.mul_assoc, Nat.mul_comm (g2 * b) a, ← Nat.mul_assoc]
    have x2 : (g1 * (g2 * b)) * c = (g2 * c) * (g1 * b) := by rw [k, Nat.mul_assoc, Nat.mul_comm (g1 * b) c, ← Nat.mul_assoc]
    rw [x1, x2, h]
  exact Nat.eq_of_mul_eq_mul_left (Nat.mul_pos p1 (Nat.mul_pos p2 p3)) this
theorem fr_eq {u1 l1 u2 l2 : Nat} (h : u1 * l2 = u2 * l1) (h1 : 0 < l1) (h2 : 0 < l2) : u1 / Nat.gcd u1 l1 = u2 / Nat.gcd u2 l2 ∧ l1 / Nat.gcd u1 l1 = l2 / Nat.gcd u2 l2 := by
  have p1 := Nat.gcd_pos_of_pos_right u1 h1
  have p2 := Nat.gcd_pos_of_pos_right u2 h2
  have k : Nat.gcd u1 l1 * l2 = Nat.gcd u2 l2 * l1 := by
    rw [← Nat.gcd_mul_right, ← Nat.gcd_mul_right, h, Nat.mul_comm l1 l2]
  obtain ⟨a, ha⟩ := Nat.gcd_dvd_left u1 l1
  obtain ⟨b, hb⟩ := Nat.gcd_dvd_right u1 l1
  obtain ⟨c, hc⟩ := Nat.gcd_dvd_left u2 l2
  obtain ⟨d, hd⟩ := Nat.gcd_dvd_right u2 l2
  generalize Nat.gcd u1 l1 = g1 at *
  generalize Nat.gcd u2 l2 = g2 at *
  subst ha hb hc hd
  have hb0 : 0 < b := Nat.pos_of_mul_pos_left h1
  obtain ⟨q1, q2⟩ := fr_0 h k p1 p2 hb0
  rw [Nat.mul_div_cancel_left _ p1, Nat.mul_div_cancel_left _ p2, Nat.mul_div_cancel_left _ p1, Nat.mul_div_cancel_left _ p2]
  exact ⟨q1, q2⟩

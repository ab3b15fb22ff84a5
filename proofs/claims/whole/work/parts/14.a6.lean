/-! Long.bitCount counts the bits -/
/-- a number of n bytes -/
def wd (b : Nat → Nat) : Nat → Nat
  | 0 => 0
  | n + 1 => b 0 + 256 * wd (fun j => b (j + 1)) n
theorem wd_congr : ∀ (n : Nat) {b c : Nat → Nat}, (∀ j, j < n → b j = c j) → wd b n = wd c n
  | 0, _, _, _ => rfl
  | n + 1, b, c, h => by
    show b 0 + 256 * wd (fun j => b (j + 1)) n = c 0 + 256 * wd (fun j => c (j + 1)) n
    rw [h 0 (by omega), wd_congr n (fun j hj => h (j + 1) (by omega))]
theorem wd_add : ∀ (n : Nat) (b c : Nat → Nat), wd b n + wd c n = wd (fun j => b j + c j) n
  | 0, _, _ => rfl
  | n + 1, b, c => by
    show b 0 + 256 * wd (fun j => b (j + 1)) n + (c 0 + 256 * wd (fun j => c (j + 1)) n) = b 0 + c 0 + 256 * wd (fun j => b (j + 1) + c (j + 1)) n
    rw [← wd_add n (fun j => b (j + 1)) (fun j => c (j + 1))]
    omega
theorem wd_sub : ∀ (n : Nat) (b c : Nat → Nat), (∀ j, j < n → c j ≤ b j) → wd c n ≤ wd b n ∧ wd b n - wd c n = wd (fun j => b j - c j) n
  | 0, _, _, _ => ⟨Nat.le_refl 0, rfl⟩
  | n + 1, b, c, h => by
    obtain ⟨h1, h2⟩ := wd_sub n (fun j => b (j + 1)) (fun j => c (j + 1)) (fun j hj => h (j + 1) (by omega))
    have h0 := h 0 (by omega)
    refine ⟨?_, ?_⟩
    · show c 0 + 256 * wd (fun j => c (j + 1)) n ≤ b 0 + 256 * wd (fun j => b (j + 1)) n
      omega
    · show b 0 + 256 * wd (fun j => b (j + 1)) n - (c 0 + 256 * wd (fun j => c (j + 1)) n) = b 0 - c 0 + 256 * wd (fun j => b (j + 1) - c (j + 1)) n
      rw [← h2]
      omega
theorem and_byte {a m q p : Nat} (ha : a < 256) (hm : m < 256) : (a + 256 * q) &&& (m + 256 * p) = (a &&& m) + 256 * (q &&& p) := by
  apply Nat.eq_of_testBit_eq
  intro i
  have e1 : ∀ (x y : Nat), x < 256 → (x + 256 * y).testBit i = if i < 8 then x.testBit i else y.testBit (i - 8) := fun x y hx => by
    rw [Nat.add_comm]
    exact Nat.testBit_two_pow_mul_add y (i := 8) hx i
  rw [Nat.testBit_and, e1 a q ha, e1 m p hm, e1 (a &&& m) (q &&& p) (Nat.lt_of_le_of_lt Nat.and_le_left ha)]
  by_cases h : i < 8
  · rw [if_pos h, if_pos h, if_pos h, Nat.testBit_and]
  · rw [if_neg h, if_neg h, if_neg h, Nat.testBit_and]
theorem wd_and : ∀ (n : Nat) (b c : Nat → Nat), (∀ j, j < n → b j < 256) → (∀ j, j < n → c j < 256) → wd b n &&& wd c n = wd (fun j => b j &&& c j) n
  | 0, _, _, _, _ => by simp [wd]
  | n + 1, b, c, hb, hc => by
    show (b 0 + 256 * wd (fun j => b (j + 1)) n) &&& (c 0 + 256 * wd (fun j => c (j + 1)) n) = _
    rw [and_byte (hb 0 (by omega)) (hc 0 (by omega)), wd_and n _ _ (fun j hj => hb (j + 1) (by omega)) (fun j hj => hc (j + 1) (by omega))]
    rfl
theorem wd_div (k : Nat) (hk : k = 2 ∨ k = 4 ∨ k = 16) : ∀ (n : Nat) (b : Nat → Nat), b n = 0 → wd b n / k = wd (fun j => b j / k + b (j + 1) % k * (256 / k)) n
  | 0, _, _ => Nat.zero_div k
  | n + 1, b, h => by
    show (b 0 + 256 * wd (fun j => b (j + 1)) n) / k = b 0 / k + b 1 % k * (256 / k) + 256 * wd (fun j => b (j + 1) / k + b (j + 1 + 1) % k * (256 / k)) n
    rw [← wd_div k hk n (fun j => b (j + 1)) h]
    have e : wd (fun j => b (j + 1)) n % k = b 1 % k := by
      cases n with
      | zero => show 0 % k = b 1 % k; rw [h]
      | succ n =>
        show (b 1 + 256 * wd (fun j => b (j + 1 + 1)) n) % k = _
        rcases hk with rfl | rfl | rfl <;> omega
    rcases hk with rfl | rfl | rfl <;> omega
theorem wd_lt : ∀ (n : Nat) (b : Nat → Nat), (∀ j, j < n → b j < 256) → wd b n < 256 ^ n
  | 0, _, _ => Nat.one_pos
  | n + 1, b, h => by
    have h1 := wd_lt n (fun j => b (j + 1)) (fun j hj => h (j + 1) (by omega))
    have h0 := h 0 (by omega)
    show b 0 + 256 * wd (fun j => b (j + 1)) n < 256 ^ (n + 1)
    rw [Nat.pow_succ]
    omega
/-- the bytes of a number -/
def byt (x j : Nat) : Nat := x / 256 ^ j % 256
theorem wd_byt : ∀ (n x : Nat), wd (byt x) n = x % 256 ^ n
  | 0, x => by simp [wd, Nat.mod_one]
  | n + 1, x => by
    show byt x 0 + 256 * wd (fun j => byt x (j + 1)) n = _
    have e : wd (fun j => byt x (j + 1)) n = wd (byt (x / 256)) n := wd_congr n (fun j _ => by
      unfold byt
      rw [Nat.pow_succ, Nat.mul_comm, Nat.div_div_eq_div_mul])
    rw [e, wd_byt n (x / 256), Nat.pow_succ, Nat.mul_comm (256 ^ n) 256, Nat.mod_mul]
    unfold byt
    simp
def sB1 (b : Nat) : Nat := b - (b / 2 &&& 0x55)
def sB2 (c : Nat) : Nat := (c &&& 0x33) + (c / 4 &&& 0x33)
theorem sB1_ok : ∀ b, b < 256 → ∀ t, t < 2 → (b / 2 + t * 128 &&& 0x55) = (b / 2 &&& 0x55) ∧ (b / 2 &&& 0x55) ≤ b ∧ sB1 b < 256 := by decide +kernel
theorem sB2_ok : ∀ c, c < 256 → ∀ t, t < 4 → (c / 4 + t * 64 &&& 0x33) = (c / 4 &&& 0x33) ∧ sB2 c < 256 := by decide +kernel
theorem sB3_ok : ∀ b, b < 256 → ∀ t, t < 5 → sB2 (sB1 b) + (sB2 (sB1 b) / 16 + t * 16) < 256 ∧ (sB2 (sB1 b) + (sB2 (sB1 b) / 16 + t * 16) &&& 0x0f) = cn (fun i => b.testBit i) 8 ∧ sB2 (sB1 b) % 16 < 5 ∧ cn (fun i => b.testBit i) 8 ≤ 8 := by decide +kernel
theorem sum8 {p0 p1 p2 p3 p4 p5 p6 p7 : Nat} (h0 : p0 ≤ 8) (h1 : p1 ≤ 8) (h2 : p2 ≤ 8) (h3 : p3 ≤ 8) (h4 : p4 ≤ 8) (h5 : p5 ≤ 8) (h6 : p6 ≤ 8) (h7 : p7 ≤ 8) {A : Nat} (hA : A = p0 + 256 * (p1 + 256 * (p2 + 256 * (p3 + 256 * (p4 + 256 * (p5 + 256 * (p6 + 256 * p7))))))) :
    (A + A / 256 + (A + A / 256) / 65536 + (A + A / 256 + (A + A / 256) / 65536) / 4294967296) % 128 = p0 + p1 + p2 + p3 + p4 + p5 + p6 + p7 ∧ A + A / 256 + (A + A / 256) / 65536 + (A + A / 256 + (A + A / 256) / 65536) / 4294967296 < 2 ^ 63 := by
  have e1 : A / 256 = p1 + 256 * (p2 + 256 * (p3 + 256 * (p4 + 256 * (p5 + 256 * (p6 + 256 * p7))))) := by omega
  have e2 : A + A / 256 = (p0 + p1) + 256 * ((p1 + p2) + 256 * ((p2 + p3) + 256 * ((p3 + p4) + 256 * ((p4 + p5) + 256 * ((p5 + p6) + 256 * ((p6 + p7) + 256 * p7)))))) := by omega
  have e3 : (A + A / 256) / 65536 = (p2 + p3) + 256 * ((p3 + p4) + 256 * ((p4 + p5) + 256 * ((p5 + p6) + 256 * ((p6 + p7) + 256 * p7)))) := by omega
  generalize (A + A / 256) / 65536 = B at e3 ⊢
  generalize A + A / 256 = G at e2 ⊢
  have e4 : G + B = (p0 + p1 + p2 + p3) + 256 * ((p1 + p2 + p3 + p4) + 256 * ((p2 + p3 + p4 + p5) + 256 * ((p3 + p4 + p5 + p6) + 256 * ((p4 + p5 + p6 + p7) + 256 * ((p5 + p6 + p7) + 256 * ((p6 + p7) + 256 * p7)))))) := by omega
  generalize G + B = E at e4 ⊢
  have e5 : E / 4294967296 = (p4 + p5 + p6 + p7) + 256 * ((p5 + p6 + p7) + 256 * ((p6 + p7) + 256 * p7)) := by omega
  rw [e5, e4]
  omega
def tn (x : Int64) : Nat := x.toBitVec.toNat
theorem tn_lt (x : Int64) : tn x < 2 ^ 64 := x.toBitVec.isLt
theorem tn_and (x y : Int64) : tn (x &&& y) = tn x &&& tn y := by unfold tn; rw [Int64.toBitVec_and, BitVec.toNat_and]
theorem tn_ushr (x : Int64) {k : Nat} (h : k < 64) : tn (qushr x (nI k)) = tn x / 2 ^ k := by
  unfold tn; rw [qushr_bv x h, BitVec.toNat_ushiftRight, Nat.shiftRight_eq_div_pow]
theorem tn_add {x y : Int64} (h : tn x + tn y < 2 ^ 64) : tn (x + y) = tn x + tn y := by
  unfold tn at h ⊢
  rw [Int64.toBitVec_add, BitVec.toNat_add, Nat.mod_eq_of_lt h]
theorem tn_sub {x y : Int64} (h : tn y ≤ tn x) : tn (x - y) = tn x - tn y := by
  unfold tn at h ⊢
  rw [Int64.toBitVec_sub, BitVec.toNat_sub_of_le (BitVec.le_def.mpr h)]
theorem tb_tn (x : Int64) (p : Nat) : tb x p = (tn x).testBit p := rfl
theorem cn_app (S : Nat → Bool) (a : Nat) : ∀ n, cn S (a + n) = cn S a + cn (fun i => S (a + i)) n
  | 0 => rfl
  | n + 1 => by
    show cn S (a + n) + (S (a + n)).toNat = cn S a + (cn (fun i => S (a + i)) n + (S (a + n)).toNat)
    rw [cn_app S a n]
    omega
theorem byt_bit (x j : Nat) : cn (fun i => (byt x j).testBit i) 8 = cn (fun i => x.testBit (8 * j + i)) 8 := by
  apply cn_congr
  intro i hi
  unfold byt
  rw [show (256 : Nat) ^ j = 2 ^ (8 * j) by rw [Nat.pow_mul], show (256 : Nat) = 2 ^ 8 from rfl, Nat.testBit_mod_two_pow, Nat.testBit_div_two_pow]
  simp [hi, Nat.add_comm]
set_option maxRecDepth 20000 in
theorem bitCount_ok (x : Int64) : fJ13_bitCount_95d88 x = nI (cn (tb x) 64) := by
  generalize hX : tn x = X
  have hXl : X < 2 ^ 64 := hX ▸ tn_lt x
  have hw : X = wd (byt X) 8 := by rw [wd_byt, Nat.mod_eq_of_lt hXl]
  have hb : ∀ j, byt X j < 256 := fun j => Nat.mod_lt _ (by decide)
  have hb8 : byt X 8 = 0 := by
    unfold byt
    rw [Nat.div_eq_of_lt hXl]
  have m1 : tn 6148914691236517205 = wd (fun _ => 0x55) 8 := by decide +kernel
  have m2 : tn 3689348814741910323 = wd (fun _ => 0x33) 8 := by decide +kernel
  have m4 : tn 1085102592571150095 = wd (fun _ => 0x0f) 8 := by decide +kernel
  simp only [fJ13_bitCount_95d88, qbd]
  -- pairs
  have s1a : tn (qushr x 1 &&& 6148914691236517205) = wd (fun j => byt X j / 2 &&& 0x55) 8 := by
    rw [tn_and, lit_nI 1, tn_ushr x (by decide), hX, m1]
    have : X / 2 ^ 1 = wd (fun j => byt X j / 2 + byt X (j + 1) % 2 * (256 / 2)) 8 := by
      rw [← wd_div 2 (Or.inl rfl) 8 (byt X) hb8, ← hw]
    rw [this, wd_and 8 _ _ (fun j _ => by have := hb j; omega) (fun _ _ => by decide)]
    exact wd_congr 8 (fun j _ => (sB1_ok (byt X j) (hb j) (byt X (j + 1) % 2) (by omega)).1)
  have s1 : tn (x - (qushr x 1 &&& 6148914691236517205)) = wd (fun j => sB1 (byt X j)) 8 := by
    obtain ⟨g1, g2⟩ := wd_sub 8 (byt X) (fun j => byt X j / 2 &&& 0x55) (fun j _ => (sB1_ok (byt X j) (hb j) 0 (by decide)).2.1)
    have hxw : tn x = wd (byt X) 8 := hX.trans hw
    rw [tn_sub (by rw [s1a, hxw]; exact g1), s1a, hxw]
    exact g2
  generalize x - (qushr x 1 &&& 6148914691236517205) = y1 at s1 ⊢
  have hc : ∀ j, sB1 (byt X j) < 256 := fun j => (sB1_ok (byt X j) (hb j) 0 (by decide)).2.2
  -- fours
  have s2a : tn (y1 &&& 3689348814741910323) = wd (fun j => sB1 (byt X j) &&& 0x33) 8 := by
    rw [tn_and, s1, m2, wd_and 8 _ _ (fun j _ => hc j) (fun _ _ => by decide)]
  have s2b : tn (qushr y1 2 &&& 3689348814741910323) = wd (fun j => sB1 (byt X j) / 4 &&& 0x33) 8 := by
    rw [tn_and, lit_nI 2, tn_ushr y1 (by decide), s1, m2]
    have : wd (fun j => sB1 (byt X j)) 8 / 2 ^ 2 = wd (fun j => sB1 (byt X j) / 4 + sB1 (byt X (j + 1)) % 4 * (256 / 4)) 8 := wd_div 4 (Or.inr (Or.inl rfl)) 8 _ (by show sB1 (byt X 8) = 0; rw [hb8]; rfl)
    rw [this, wd_and 8 _ _ (fun j _ => by have := hc j; omega) (fun _ _ => by decide)]
    exact wd_congr 8 (fun j _ => (sB2_ok (sB1 (byt X j)) (hc j) (sB1 (byt X (j + 1)) % 4) (by omega)).1)
  have hd : ∀ j, sB2 (sB1 (byt X j)) < 256 := fun j => (sB2_ok (sB1 (byt X j)) (hc j) 0 (by decide)).2
  have s2 : tn ((y1 &&& 3689348814741910323) + (qushr y1 2 &&& 3689348814741910323)) = wd (fun j => sB2 (sB1 (byt X j))) 8 := by
    have e : wd (fun j => sB1 (byt X j) &&& 0x33) 8 + wd (fun j => sB1 (byt X j) / 4 &&& 0x33) 8 = wd (fun j => sB2 (sB1 (byt X j))) 8 := wd_add 8 _ _
    rw [tn_add (by rw [s2a, s2b, e]; exact wd_lt 8 _ (fun j _ => hd j)), s2a, s2b, e]
  generalize (y1 &&& 3689348814741910323) + (qushr y1 2 &&& 3689348814741910323) = y2 at s2 ⊢
  -- bytes
  have s3a : tn (qushr y2 4) = wd (fun j => sB2 (sB1 (byt X j)) / 16 + sB2 (sB1 (byt X (j + 1))) % 16 * 16) 8 := by
    rw [lit_nI 4, tn_ushr y2 (by decide), s2]
    exact wd_div 16 (Or.inr (Or.inr rfl)) 8 _ (by show sB2 (sB1 (byt X 8)) = 0; rw [hb8]; rfl)
  have ht : ∀ j, sB2 (sB1 (byt X j)) % 16 < 5 := fun j => (sB3_ok (byt X j) (hb j) 0 (by decide)).2.2.1
  have s3b : tn (y2 + qushr y2 4) = wd (fun j => sB2 (sB1 (byt X j)) + (sB2 (sB1 (byt X j)) / 16 + sB2 (sB1 (byt X (j + 1))) % 16 * 16)) 8 := by
    have e := wd_add 8 (fun j => sB2 (sB1 (byt X j))) (fun j => sB2 (sB1 (byt X j)) / 16 + sB2 (sB1 (byt X (j + 1))) % 16 * 16)
    rw [tn_add (by rw [s2, s3a, e]; exact wd_lt 8 _ (fun j _ => (sB3_ok (byt X j) (hb j) _ (ht (j + 1))).1)), s2, s3a, e]
  have s3 : tn ((y2 + qushr y2 4) &&& 1085102592571150095) = wd (fun j => cn (fun i => (byt X j).testBit i) 8) 8 := by
    rw [tn_and, s3b, m4, wd_and 8 _ _ (fun j _ => (sB3_ok (byt X j) (hb j) _ (ht (j + 1))).1) (fun _ _ => by decide)]
    exact wd_congr 8 (fun j _ => (sB3_ok (byt X j) (hb j) _ (ht (j + 1))).2.1)
  generalize (y2 + qushr y2 4) &&& 1085102592571150095 = y3 at s3 ⊢
  have hp : ∀ j, cn (fun i => (byt X j).testBit i) 8 ≤ 8 := fun j => (sB3_ok (byt X j) (hb j) 0 (by decide)).2.2.2
  obtain ⟨f1, f2⟩ := sum8 (hp 0) (hp 1) (hp 2) (hp 3) (hp 4) (hp 5) (hp 6) (hp 7) (A := tn y3) s3
  have t8 : tn (qushr y3 8) = tn y3 / 256 := by rw [lit_nI 8, tn_ushr y3 (by decide)]
  have t1 : tn (y3 + qushr y3 8) = tn y3 + tn y3 / 256 := by rw [tn_add (by rw [t8]; omega), t8]
  generalize y3 + qushr y3 8 = y4 at t1 ⊢
  have t16 : tn (qushr y4 16) = tn y4 / 65536 := by rw [lit_nI 16, tn_ushr y4 (by decide)]
  have t2 : tn (y4 + qushr y4 16) = tn y4 + tn y4 / 65536 := by rw [tn_add (by rw [t16, t1]; omega), t16]
  generalize y4 + qushr y4 16 = y5 at t2 ⊢
  have t32 : tn (qushr y5 32) = tn y5 / 4294967296 := by rw [lit_nI 32, tn_ushr y5 (by decide)]
  have t3 : tn (y5 + qushr y5 32) = tn y5 + tn y5 / 4294967296 := by rw [tn_add (by rw [t32, t2, t1]; omega), t32]
  generalize y5 + qushr y5 32 = y6 at t3 ⊢
  rw [pk_and y6.toInt32 (m := 127) 7 (by decide)]
  congr 1
  have e6 : y6.toInt32.toBitVec.toNat = tn y6 % 2 ^ 32 := by
    show (y6.toBitVec.signExtend 32).toNat = _
    rw [BitVec.signExtend_eq_setWidth_of_le _ (by decide), BitVec.toNat_setWidth]
    rfl
  have e7 : tn y6 % 2 ^ 32 % 2 ^ 7 = tn y6 % 128 := by omega
  rw [e6, e7, t3, t2, t1, f1]
  have c1 : ∀ j, cn (fun i => (byt X j).testBit i) 8 = cn (fun i => tb x (8 * j + i)) 8 := fun j => by
    rw [byt_bit]
    exact cn_congr 8 (fun i _ => by rw [tb_tn, hX])
  rw [c1, c1, c1, c1, c1, c1, c1, c1]
  rw [show (64 : Nat) = 56 + 8 from rfl, cn_app, show (56 : Nat) = 48 + 8 from rfl, cn_app, show (48 : Nat) = 40 + 8 from rfl, cn_app, show (40 : Nat) = 32 + 8 from rfl, cn_app, show (32 : Nat) = 24 + 8 from rfl, cn_app, show (24 : Nat) = 16 + 8 from rfl, cn_app, show (16 : Nat) = 8 + 8 from rfl, cn_app]
  have z0 : cn (fun i => tb x (8 * 0 + i)) 8 = cn (tb x) 8 := cn_congr 8 (fun i _ => by rw [Nat.mul_zero, Nat.zero_add])
  rw [z0]

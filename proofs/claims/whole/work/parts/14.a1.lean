/-! loops, small numbers, bits -/
theorem qlp_succ {S E : Type} (n : Nat) (f : S → Option (S ⊕ E)) (s : S) : qlp (n + 1) f s = Option.bind (f s) (Sum.elim (qlp n f) some) := rfl
theorem qlp_meas {S E : Type} {f : S → Option (S ⊕ E)} (I : S → Prop) (μ : S → Nat) (post : E → Prop)
    (hs : ∀ s, I s → (∃ s', f s = some (.inl s') ∧ I s' ∧ μ s' < μ s) ∨ (∃ e, f s = some (.inr e) ∧ post e)) :
    ∀ n s, I s → μ s < n → ∃ e, qlp n f s = some e ∧ post e := by
  intro n
  induction n with
  | zero => intro s _ h; exact absurd h (Nat.not_lt_zero _)
  | succ n ih =>
    intro s hI hm
    rw [qlp_succ]
    rcases hs s hI with ⟨s', h1, h2, h3⟩ | ⟨e, h1, h2⟩
    · rw [h1]; exact ih s' h2 (by omega)
    · rw [h1]; exact ⟨e, rfl, h2⟩
theorem qlp_idx {S E : Type} {f : S → Option (S ⊕ E)} (I : Nat → S → Prop) (N : Nat) (post : E → Prop)
    (hs : ∀ i s, i ≤ N → I i s → (i < N ∧ ∃ s', f s = some (.inl s') ∧ I (i + 1) s') ∨ (∃ e, f s = some (.inr e) ∧ post e)) (n : Nat) (hn : N < n) (s : S) (h0 : I 0 s) : ∃ e, qlp n f s = some e ∧ post e := by
  have key : ∀ k i s, i + k = N → I i s → ∀ n, k < n → ∃ e, qlp n f s = some e ∧ post e := by
    intro k
    induction k with
    | zero =>
      intro i s hi hI n hn
      obtain ⟨n, rfl⟩ : ∃ m, n = m + 1 := ⟨n - 1, by omega⟩
      rw [qlp_succ]
      rcases hs i s (by omega) hI with ⟨h, -⟩ | ⟨e, h1, h2⟩
      · omega
      · rw [h1]; exact ⟨e, rfl, h2⟩
    | succ k ih =>
      intro i s hi hI n hn
      obtain ⟨n, rfl⟩ : ∃ m, n = m + 1 := ⟨n - 1, by omega⟩
      rw [qlp_succ]
      rcases hs i s (by omega) hI with ⟨h, s', h1, h2⟩ | ⟨e, h1, h2⟩
      · rw [h1]; exact ih (i + 1) s' (by omega) h2 n (by omega)
      · rw [h1]; exact ⟨e, rfl, h2⟩
  exact key N 0 s (by omega) h0 n hn
/-- a counted loop whose states are known: st 0, st 1 .. st N, and the end e -/
theorem qlp_seq {S E : Type} {f : S → Option (S ⊕ E)} (st : Nat → S) (N : Nat) (e : E) (hs : ∀ i, i < N → f (st i) = some (.inl (st (i + 1)))) (he : f (st N) = some (.inr e)) (n : Nat) (hn : N < n) : qlp n f (st 0) = some e := by
  obtain ⟨e', h1, h2⟩ := qlp_idx (f := f) (fun i s => s = st i) N (fun x => x = e) (fun i s hi h => by
    subst h
    rcases Nat.lt_or_ge i N with q | q
    · exact Or.inl ⟨q, _, hs i q, rfl⟩
    · have : i = N := by omega
      subst this
      exact Or.inr ⟨e, he, rfl⟩) n hn (st 0) rfl
  rw [h1, h2]
theorem qFU_gt {n : Nat} (h : n < 5000) : n < qFU := h
theorem qgd_nI {α : Type} {i n : Nat} (h : i < n) (hn : n < 2 ^ 31) (t : Option α) : qgd (nI i) n t = t := by
  unfold qgd
  exact if_neg (nI_in h hn)
theorem qgd_in {α : Type} {x : Int32} {i n : Nat} (hx : x = nI i) (h : i < n) (hn : n < 2 ^ 31) (t : Option α) : qgd x n t = t := by
  subst hx; exact qgd_nI h hn t
theorem lit_nI (k : Nat) : (OfNat.ofNat k : Int32) = nI k := rfl
theorem nI_inj {a b : Nat} (ha : a < 2 ^ 31) (hb : b < 2 ^ 31) (h : nI a = nI b) : a = b := (nI_eq ha hb).mp h
theorem nI_ne {a b : Nat} (ha : a < 2 ^ 31) (hb : b < 2 ^ 31) (h : a ≠ b) : nI a ≠ nI b := fun q => h (nI_inj ha hb q)
theorem nI_neg {a b : Nat} (ha : a < 2 ^ 31) (hb : b < 2 ^ 31) (h0 : 0 < b) : nI a ≠ -nI b := by
  intro h
  have h1 := congrArg Int32.toInt h
  rw [nI_toInt ha, sb_negT hb] at h1
  omega
theorem nI_m1 {a : Nat} (ha : a < 2 ^ 31) : nI a ≠ -1 := nI_neg (b := 1) ha (by decide) (by decide)
theorem nI_m9 {a : Nat} (ha : a < 2 ^ 31) : nI a ≠ -9 := nI_neg (b := 9) ha (by decide) (by decide)
theorem nI_mul (a b : Nat) : nI a * nI b = nI (a * b) := pk_mul a b
theorem nI_div {a d : Nat} (ha : a < 2 ^ 31) (h0 : 0 < d) (hd : d < 2 ^ 31) : nI a / nI d = nI (a / d) := pk_div ha h0 hd
theorem nI_rem {a d : Nat} (ha : a < 2 ^ 31) (h0 : 0 < d) (hd : d < 2 ^ 31) : qrem (nI a) (nI d) = nI (a % d) := pk_rem ha h0 hd
theorem nI_sub {a b : Nat} (h : b ≤ a) : nI a - nI b = nI (a - b) := pk_sub h
/-- a truth as an int -/
def b2i (b : Bool) : Int32 := if b then 1 else 0
theorem b2i_t : b2i true = 1 := rfl
theorem b2i_f : b2i false = 0 := rfl
theorem b2i_0 {b : Bool} : b2i b = 0 ↔ b = false := by cases b <;> decide
theorem b2i_1 {b : Bool} : b2i b = 1 ↔ b = true := by cases b <;> decide
theorem qnb_b2i (b : Bool) : qnb (b2i b) = b2i b := by cases b; exact qnb0; exact qnb1
theorem b2i_nI (b : Bool) : b2i b = nI b.toNat := by cases b <;> rfl
/-- the bit at a place -/
def tb (x : Int64) (p : Nat) : Bool := x.toBitVec.getLsbD p
theorem tb_ext {x y : Int64} (h : ∀ p, p < 64 → tb x p = tb y p) : x = y := by
  apply Int64.toBitVec_inj.mp
  apply BitVec.eq_of_getLsbD_eq
  intro i hi
  exact h i hi
theorem tb_ge {x : Int64} {p : Nat} (h : 64 ≤ p) : tb x p = false := BitVec.getLsbD_of_ge _ _ h
theorem tb_and (x y : Int64) (p : Nat) : tb (x &&& y) p = (tb x p && tb y p) := by
  unfold tb; rw [Int64.toBitVec_and, BitVec.getLsbD_and]
theorem tb_or (x y : Int64) (p : Nat) : tb (x ||| y) p = (tb x p || tb y p) := by
  unfold tb; rw [Int64.toBitVec_or, BitVec.getLsbD_or]
theorem tb_xor (x y : Int64) (p : Nat) : tb (x ^^^ y) p = (tb x p ^^ tb y p) := by
  unfold tb; rw [Int64.toBitVec_xor, BitVec.getLsbD_xor]
theorem tb_0 (p : Nat) : tb 0 p = false := by
  unfold tb; exact BitVec.getLsbD_zero
theorem tb_m1 {p : Nat} (h : p < 64) : tb (-1) p = true := by
  unfold tb
  rw [show ((-1 : Int64).toBitVec) = BitVec.allOnes 64 by decide +kernel, BitVec.getLsbD_allOnes]
  exact decide_eq_true h
theorem tb_not (x : Int64) {p : Nat} (h : p < 64) : tb (x ^^^ (-1)) p = !tb x p := by
  rw [tb_xor, tb_m1 h]; cases tb x p <;> rfl
theorem qsh_k : ∀ k, k < 64 → (((nI k).toInt64 &&& 63).toBitVec.smod 64).toNat = k := by decide +kernel
theorem qsu_k : ∀ k, k < 64 → (((nI k).toInt64.toUInt64 &&& Int64.toUInt64 63).toBitVec % 64).toNat = k := by decide +kernel
theorem qshl_bv (x : Int64) {k : Nat} (h : k < 64) : (qshl x (nI k)).toBitVec = x.toBitVec <<< k := by
  show x.toBitVec <<< (((nI k).toInt64 &&& 63).toBitVec.smod 64) = _
  rw [BitVec.shiftLeft_eq', qsh_k k h]
theorem qushr_bv (x : Int64) {k : Nat} (h : k < 64) : (qushr x (nI k)).toBitVec = x.toBitVec >>> k := by
  show x.toBitVec >>> (((nI k).toInt64.toUInt64 &&& Int64.toUInt64 63).toBitVec % 64) = _
  rw [BitVec.ushiftRight_eq', qsu_k k h]
theorem tb_shl (x : Int64) {k p : Nat} (h : k < 64) : tb (qshl x (nI k)) p = (decide (p < 64) && decide (k ≤ p) && tb x (p - k)) := by
  unfold tb
  rw [qshl_bv x h, BitVec.getLsbD_shiftLeft]
  by_cases h1 : p < k
  · simp [h1, show ¬ k ≤ p by omega]
  · simp [h1, show k ≤ p by omega]
theorem tb_ushr (x : Int64) {k p : Nat} (h : k < 64) : tb (qushr x (nI k)) p = tb x (p + k) := by
  unfold tb
  rw [qushr_bv x h, BitVec.getLsbD_ushiftRight, Nat.add_comm]
theorem qun2_eq {T0 T1 : Type} {Z : Type} (f : T0 → T1 → Z) (a0 : T0) (a1 : T1) : qun2 f (a0, a1) = f a0 a1 := rfl
theorem qun3_eq {T0 T1 T2 : Type} {Z : Type} (f : T0 → T1 → T2 → Z) (a0 : T0) (a1 : T1) (a2 : T2) : qun3 f (a0, a1, a2) = f a0 a1 a2 := rfl
theorem qun4_eq {T0 T1 T2 T3 : Type} {Z : Type} (f : T0 → T1 → T2 → T3 → Z) (a0 : T0) (a1 : T1) (a2 : T2) (a3 : T3) : qun4 f (a0, a1, a2, a3) = f a0 a1 a2 a3 := rfl
theorem qun5_eq {T0 T1 T2 T3 T4 : Type} {Z : Type} (f : T0 → T1 → T2 → T3 → T4 → Z) (a0 : T0) (a1 : T1) (a2 : T2) (a3 : T3) (a4 : T4) : qun5 f (a0, a1, a2, a3, a4) = f a0 a1 a2 a3 a4 := rfl
theorem qun6_eq {T0 T1 T2 T3 T4 T5 : Type} {Z : Type} (f : T0 → T1 → T2 → T3 → T4 → T5 → Z) (a0 : T0) (a1 : T1) (a2 : T2) (a3 : T3) (a4 : T4) (a5 : T5) : qun6 f (a0, a1, a2, a3, a4, a5) = f a0 a1 a2 a3 a4 a5 := rfl
theorem qun7_eq {T0 T1 T2 T3 T4 T5 T6 : Type} {Z : Type} (f : T0 → T1 → T2 → T3 → T4 → T5 → T6 → Z) (a0 : T0) (a1 : T1) (a2 : T2) (a3 : T3) (a4 : T4) (a5 : T5) (a6 : T6) : qun7 f (a0, a1, a2, a3, a4, a5, a6) = f a0 a1 a2 a3 a4 a5 a6 := rfl
theorem qun8_eq {T0 T1 T2 T3 T4 T5 T6 T7 : Type} {Z : Type} (f : T0 → T1 → T2 → T3 → T4 → T5 → T6 → T7 → Z) (a0 : T0) (a1 : T1) (a2 : T2) (a3 : T3) (a4 : T4) (a5 : T5) (a6 : T6) (a7 : T7) : qun8 f (a0, a1, a2, a3, a4, a5, a6, a7) = f a0 a1 a2 a3 a4 a5 a6 a7 := rfl
theorem qun1_eq {T0 : Type} {Z : Type} (f : T0 → Z) (a0 : T0) : qun1 f a0 = f a0 := rfl

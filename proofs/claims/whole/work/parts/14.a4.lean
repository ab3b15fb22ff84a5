/-! cells and sides as arguments; what is beside; what is open -/
theorem cell_cases {R C : Nat} (hR : 1 ≤ R ∧ R ≤ 6) (hC : 1 ≤ C ∧ C ≤ 6) (x : Int32) :
    (fX1_placeOf (nI R) (nI C) x = -1 ∧ fX10_isCell (nI R) (nI C) x = 0) ∨ ∃ i, i < 36 ∧ isC R C i ∧ fX1_placeOf (nI R) (nI C) x = nI (pl i) ∧ fX10_isCell (nI R) (nI C) x = 1 ∧ fX10_index x = nI i := by
  by_cases h0 : x < 0
  · left
    unfold fX1_placeOf fX10_isCell
    rw [if_pos h0, if_pos h0]
    exact ⟨rfl, rfl⟩
  · obtain ⟨n, hn, rfl⟩ := nI_of h0
    have e1 : nI n / 10 = nI (n / 10) := nI_div hn (by decide) (by decide)
    have e2 : qrem (nI n) 10 = nI (n % 10) := nI_rem hn (by decide) (by decide)
    unfold fX1_placeOf fX10_isCell fX10_index
    rw [if_neg h0, if_neg h0, e1, e2]
    by_cases h1 : R ≤ n / 10
    · left
      rw [if_pos (nI_le h1 (by omega)), if_pos (nI_le h1 (by omega))]
      exact ⟨rfl, rfl⟩
    · rw [if_neg (nI_ge (by omega) (by omega)), if_neg (nI_ge (by omega) (by omega))]
      by_cases h2 : C ≤ n % 10
      · left
        rw [if_neg (nI_nlt h2 (by omega)), if_pos (nI_le h2 (by omega))]
        exact ⟨rfl, rfl⟩
      · right
        rw [if_pos (nI_lt (by omega) (by omega)), if_neg (nI_ge (by omega) (by omega))]
        refine ⟨6 * (n / 10) + n % 10, by omega, ⟨by omega, by omega⟩, ?_, rfl, ?_⟩
        · rw [lit_nI 8, nI_mul, nI_add]
          congr 1
          unfold pl
          omega
        · rw [lit_nI 6, nI_mul, nI_add]
theorem told_code : ∀ i, i < 36 → fX1_told (nI (pl i)) = fX10_code (nI i) := by decide +kernel
theorem code_nI : ∀ i, i < 36 → fX10_code (nI i) = nI (10 * (i / 6) + i % 6) := by decide +kernel
theorem in_spec (x y z : Int64) : fX10_in x y z = b2i (decide (y ≤ x) && decide (x ≤ z)) := by
  unfold fX10_in lg_cmp
  by_cases h1 : y ≤ x
  · rw [if_neg]
    · by_cases h2 : x ≤ z
      · rw [if_neg]
        · simp [h1, h2, b2i]
        · rw [if_neg (by rw [gt_iff_lt, Int64.lt_iff_toInt_lt]; rw [Int64.le_iff_toInt_le] at h2; omega)]
          split <;> decide
      · rw [if_pos]
        · simp [h1, h2, b2i]
        · rw [if_pos (by rw [gt_iff_lt, Int64.lt_iff_toInt_lt]; rw [Int64.le_iff_toInt_le] at h2; omega)]
          decide
    · by_cases h3 : x > y
      · rw [if_pos h3]; decide
      · rw [if_neg h3, if_pos]
        · decide
        · rw [gt_iff_lt, Int64.lt_iff_toInt_lt] at h3
          rw [Int64.le_iff_toInt_le] at h1
          exact Int64.toInt_inj.mp (by omega)
  · rw [if_pos]
    · simp [h1, b2i]
    · rw [if_neg (by rw [gt_iff_lt, Int64.lt_iff_toInt_lt]; rw [Int64.le_iff_toInt_le] at h1; omega), if_neg (fun e => h1 (by rw [e, Int64.le_iff_toInt_le]; omega))]
      decide
theorem side_cases (x : Int32) : (fX9_isSide x = 0 ∧ fX10_isSide x = 0) ∨ ∃ s, s < 4 ∧ x = nI s ∧ fX9_isSide x = 1 ∧ fX10_isSide x = 1 := by
  have e : fX10_isSide x = b2i (decide ((0 : Int64) ≤ x.toInt64) && decide (x.toInt64 ≤ 3)) := by
    unfold fX10_isSide
    rw [in_spec, qnb_b2i]
  have t0 : (0 : Int64).toInt = 0 := rfl
  have t3 : (3 : Int64).toInt = 3 := rfl
  have tx : x.toInt64.toInt = x.toInt := Int32.toInt_toInt64 x
  by_cases h0 : x < 0
  · left
    refine ⟨by unfold fX9_isSide; rw [if_pos h0], ?_⟩
    rw [e]
    have : ¬ (0 : Int64) ≤ x.toInt64 := by
      rw [Int64.le_iff_toInt_le, t0, tx]
      rw [Int32.lt_iff_toInt_lt] at h0
      have : (0 : Int32).toInt = 0 := rfl
      omega
    simp [this, b2i]
  · obtain ⟨n, hn, rfl⟩ := nI_of h0
    have tn : (nI n).toInt = (n : Int) := nI_toInt hn
    by_cases h4 : 4 ≤ n
    · left
      refine ⟨by unfold fX9_isSide; rw [if_neg h0, if_pos (show (4 : Int32) ≤ nI n from nI_le (a := 4) h4 hn)], ?_⟩
      rw [e]
      have : ¬ (nI n).toInt64 ≤ 3 := by
        rw [Int64.le_iff_toInt_le, t3, tx, tn]
        omega
      simp [this, b2i]
    · right
      refine ⟨n, by omega, rfl, by unfold fX9_isSide; rw [if_neg h0, if_neg (show ¬ (4 : Int32) ≤ nI n from nI_ge (b := 4) (by omega) (by decide))], ?_⟩
      rw [e]
      have h1 : (0 : Int64) ≤ (nI n).toInt64 := by rw [Int64.le_iff_toInt_le, t0, tx, tn]; omega
      have h2 : (nI n).toInt64 ≤ 3 := by rw [Int64.le_iff_toInt_le, t3, tx, tn]; omega
      simp [h1, h2, b2i]
def mvN (i s : Nat) : Nat := if s = 0 then i - 6 else if s = 1 then i + 1 else if s = 2 then i + 6 else i - 1
def rimB (R C i s : Nat) : Bool := if s = 0 then decide (6 ≤ i) else if s = 1 then decide (i % 6 + 1 < C) else if s = 2 then decide (i / 6 + 1 < R) else decide (0 < i % 6)
def opS (rt dn : Nat → Bool) (i s : Nat) : Bool := if s = 0 then decide (6 ≤ i) && dn (i - 6) else if s = 1 then rt i else if s = 2 then dn i else decide (0 < i % 6) && rt (i - 1)
def cwv (R C : Nat) : Int64 := lN ((2 ^ C - 1) * ((256 ^ R - 1) / 255))
theorem cwv_bs : ∀ R, R < 7 → ∀ C, C < 7 → ∀ p, p < 64 → tb (cwv R C) p = (decide (p % 8 < 6) && decide (p < 48) && cellS R C (6 * (p / 8) + p % 8)) := by decide +kernel
theorem cells_eq {R C : Nat} (hR : R ≤ 6) (hC : C ≤ 6) {x : Int64} (h : bs x (cellS R C)) : x = cwv R C := by
  apply tb_ext
  intro p hp
  rw [h p, cwv_bs R (by omega) C (by omega) p hp]
theorem Mbes_all : ∀ R, R < 7 → ∀ C, C < 7 → ∀ i, i < 36 → ∀ s, s < 4 → (!(decide (i / 6 < R) && decide (i % 6 < C)) || decide (fX10_beside (nI R) (nI C) (nI i) (nI s) = if rimB R C i s then nI (mvN i s) else -9)) = true := by decide +kernel
theorem Cbes_all : ∀ R, R < 7 → ∀ C, C < 7 → ∀ i, i < 36 → ∀ s, s < 4 → (!(decide (i / 6 < R) && decide (i % 6 < C)) || decide (fX1_beside (cwv R C) (nI (pl i)) (nI s) = if rimB R C i s then nI (pl (mvN i s)) else -1)) = true := by decide +kernel
theorem Mbeside (R : Nat) (hR : R < 7) (C : Nat) (hC : C < 7) (i : Nat) (hi : i < 36) (s : Nat) (hs : s < 4) (h : isC R C i) : fX10_beside (nI R) (nI C) (nI i) (nI s) = if rimB R C i s then nI (mvN i s) else -9 := by
  have h1 := Mbes_all R hR C hC i hi s hs
  simp only [h.1, h.2, decide_true, Bool.and_self, Bool.not_true, Bool.false_or, decide_eq_true_eq] at h1
  exact h1
theorem Cbeside (R : Nat) (hR : R < 7) (C : Nat) (hC : C < 7) (i : Nat) (hi : i < 36) (s : Nat) (hs : s < 4) (h : isC R C i) : fX1_beside (cwv R C) (nI (pl i)) (nI s) = if rimB R C i s then nI (pl (mvN i s)) else -1 := by
  have h1 := Cbes_all R hR C hC i hi s hs
  simp only [h.1, h.2, decide_true, Bool.and_self, Bool.not_true, Bool.false_or, decide_eq_true_eq] at h1
  exact h1
theorem rim_lt {R C i s : Nat} (hR : R ≤ 6) (hC : C ≤ 6) (hs : s < 4) (hi : isC R C i) (h : rimB R C i s = true) : mvN i s < 36 ∧ isC R C (mvN i s) := by
  obtain ⟨h1, h2⟩ := hi
  unfold rimB at h
  unfold mvN isC
  match s, hs with
  | 0, _ => simp at h ⊢; omega
  | 1, _ => simp at h ⊢; omega
  | 2, _ => simp at h ⊢; omega
  | 3, _ => simp at h ⊢; omega
theorem op_rim {R C i s : Nat} {rt dn : Nat → Bool} (hz : Mz R C rt dn) (hs : s < 4) (h : opS rt dn i s = true) : rimB R C i s = true := by
  obtain ⟨-, -, hr, hd⟩ := hz
  unfold opS at h
  unfold rimB
  match s, hs with
  | 0, _ => simp at h ⊢; exact h.1
  | 1, _ => simp at h ⊢; exact (hr i h).2
  | 2, _ => simp at h ⊢; exact (hd i h).1
  | 3, _ => simp at h ⊢; exact h.1
set_option maxRecDepth 20000 in
theorem Copen {r d : Int64} {rt dn : Nat → Bool} (hr : bs r rt) (hd : bs d dn) {i s : Nat} (hi : i < 36) (hs : s < 4) : fX1_isOpen r d (nI (pl i)) (nI s) = b2i (opS rt dn i s) := by
  have hp := pl_lt hi
  unfold fX1_isOpen
  match s, hs with
  | 0, _ =>
    show qnb (fX1_has (qshl d 8) (nI (pl i))) = b2i (decide (6 ≤ i) && dn (i - 6))
    rw [has_in _ hp, qnb_b2i, lit_nI 8, tb_shl _ (by decide)]
    by_cases h : 6 ≤ i
    · have e : pl i - 8 = pl (i - 6) := by unfold pl; omega
      rw [e, bs_pl hd (by omega)]
      simp [h, show pl i < 64 by omega, show 8 ≤ pl i by unfold pl; omega]
    · simp [h, show ¬ 8 ≤ pl i by unfold pl; omega]
  | 1, _ =>
    show qnb (fX1_has r (nI (pl i))) = b2i (rt i)
    rw [has_in _ hp, qnb_b2i, bs_pl hr hi]
  | 2, _ =>
    show qnb (fX1_has d (nI (pl i))) = b2i (dn i)
    rw [has_in _ hp, qnb_b2i, bs_pl hd hi]
  | 3, _ =>
    show qnb (fX1_has (qshl r 1) (nI (pl i))) = b2i (decide (0 < i % 6) && rt (i - 1))
    rw [has_in _ hp, qnb_b2i, lit_nI 1, tb_shl _ (by decide)]
    by_cases h : 0 < i % 6
    · have e : pl i - 1 = pl (i - 1) := by unfold pl; omega
      rw [e, bs_pl hr (by omega)]
      simp [h, show pl i < 64 by omega, show 1 ≤ pl i by unfold pl; omega]
    · by_cases h1 : 1 ≤ pl i
      · rw [bs_not hr (by unfold pl at h1 ⊢; omega)]
        simp [h]
      · simp [h, h1]
set_option maxRecDepth 20000 in
theorem Mopen {R C : Nat} {rt dn : Nat → Bool} {mr md : Nat → Int32} (hz : Mz R C rt dn) (hm : ∀ i, i < 36 → mr i = b2i (rt i) ∧ md i = b2i (dn i)) {i s : Nat} (hi : isC R C i) (hs : s < 4) : fX10_isOpen (nI R) (nI C) mr md (nI i) (nI s) = some (b2i (opS rt dn i s)) := by
  have hRC := hz.1
  have hCC := hz.2.1
  have hlt : i < 36 := by obtain ⟨h1, h2⟩ := hi; omega
  have hb := Mbeside R (by omega) C (by omega) i hlt s hs hi
  unfold fX10_isOpen
  rw [hb]
  cases hrim : rimB R C i s with
  | false =>
    have ho : opS rt dn i s = false := by
      cases h : opS rt dn i s with
      | false => rfl
      | true => rw [op_rim hz hs h] at hrim; cases hrim
    rw [ho, if_pos (by simp)]
    rfl
  | true =>
    have hmv := rim_lt (by omega) (by omega) hs hi hrim
    simp only [if_true]
    rw [if_neg (nI_m9 (by omega))]
    rcases (show s = 0 ∨ s = 1 ∨ s = 2 ∨ s = 3 by omega) with rfl | rfl | rfl | rfl
    · show qgd (nI (mvN i 0)) 36 (some (qnb (md (nI (mvN i 0)).toNatClampNeg))) = _
      rw [qgd_nI hmv.1 (by decide), nI_clamp (by omega), (hm _ hmv.1).2, qnb_b2i]
      have h6 : 6 ≤ i := by simpa [rimB] using hrim
      simp [opS, mvN, h6]
    · show qgd (nI i) 36 (some (qnb (mr (nI i).toNatClampNeg))) = _
      rw [qgd_nI hlt (by decide), nI_clamp (by omega), (hm _ hlt).1, qnb_b2i]
      simp [opS]
    · show qgd (nI i) 36 (some (qnb (md (nI i).toNatClampNeg))) = _
      rw [qgd_nI hlt (by decide), nI_clamp (by omega), (hm _ hlt).2, qnb_b2i]
      simp [opS]
    · show qgd (nI (mvN i 3)) 36 (some (qnb (mr (nI (mvN i 3)).toNatClampNeg))) = _
      rw [qgd_nI hmv.1 (by decide), nI_clamp (by omega), (hm _ hmv.1).1, qnb_b2i]
      have h6 : 0 < i % 6 := by simpa [rimB] using hrim
      simp [opS, mvN, h6]
set_option maxRecDepth 20000 in
theorem Cneigh {R C : Nat} {rt dn : Nat → Bool} {r d : Int64} (hz : Mz R C rt dn) (hr : bs r rt) (hd : bs d dn) {i s : Nat} (hi : isC R C i) (hs : s < 4) : fX1_neighbour (cwv R C) r d (nI (pl i)) (nI s) = if opS rt dn i s then nI (pl (mvN i s)) else -1 := by
  have hRC := hz.1
  have hCC := hz.2.1
  have hlt : i < 36 := by obtain ⟨h1, h2⟩ := hi; omega
  unfold fX1_neighbour
  rw [Copen hr hd hlt hs, Cbeside R (by omega) C (by omega) i hlt s hs hi]
  cases ho : opS rt dn i s with
  | false => rfl
  | true => rw [op_rim hz hs ho]; rfl

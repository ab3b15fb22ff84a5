/-! the text read: fault -/
def LW (W : Nat) : Nat := if W = 0 then 6 else W
def mE (col W : Nat) (ro : Bool) : Bool := (decide (0 < col) && !ro) && (decide (W = 0) || decide (col = W))
def fitB (v row col L : Nat) : Bool := (decide (col < L) && !(decide (v % 2 = 1) && decide (col + 1 = L))) && !(decide (2 ≤ v) && decide (row = 5))
def figOk (c row col W : Nat) : Bool := (decide (48 ≤ c) && decide (c ≤ 51)) && fitB (c - 48) row col (LW W)
theorem fits_in : ∀ v, v < 4 → ∀ row, row < 6 → ∀ col, col < 7 → ∀ L, L < 7 → fX5_figureFits (nI (48 + v) - 48) (nI row) (nI col) (nI L) = b2i (fitB v row col L) := by decide +kernel
theorem c_out : ∀ c, c < 256 → (!(decide (c < 48) || decide (51 < c)) || ((decide ((nI c - 48 : Int32) < 0) || decide ((3 : Int32) < nI c - 48)) && decide (fX10_in (nI c - 48 : Int32).toInt64 0 3 = 0))) = true := by decide +kernel
theorem c_in : ∀ v, v < 4 → (nI (48 + v) - 48 : Int32) = nI v ∧ fX10_in (nI (48 + v) - 48 : Int32).toInt64 0 3 = 1 ∧ fX5_opensRight (nI (48 + v) - 48) = b2i (decide (v % 2 = 1)) ∧ fX5_opensDown (nI (48 + v) - 48) = b2i (decide (2 ≤ v)) ∧ (qrem (nI v) 2 = 1 ↔ v % 2 = 1) ∧ ((1 : Int32) < nI v ↔ 2 ≤ v) ∧ (nI v ≤ (1 : Int32) ↔ ¬ 2 ≤ v) := by decide +kernel
theorem LW_lt {W : Nat} (h : W ≤ 6) : 1 ≤ LW W ∧ LW W ≤ 6 := by unfold LW; split <;> omega
theorem Cmay {col W : Nat} (ro : Bool) (hc : col < 100) (hW : W < 100) : fX5_rowMayEnd (nI col) (nI W) (b2i ro) = b2i (mE col W ro) := by
  unfold fX5_rowMayEnd mE
  by_cases q : 0 < col
  · rw [if_neg (show ¬ nI col ≤ (0 : Int32) from nI_ge (a := 0) (b := col) q (by omega)), decide_eq_true q, Bool.true_and]
    cases ro with
    | true => rw [if_neg b0t]; rfl
    | false =>
      rw [if_pos b0f]
      by_cases q2 : W = 0
      · rw [if_pos (show nI W = 0 by rw [q2]; rfl), decide_eq_true q2]; rfl
      · rw [if_neg (show ¬ nI W = 0 from nI_ne (b := 0) (by omega) (by decide) q2), decide_eq_false q2]
        by_cases q3 : col = W
        · rw [if_pos (by rw [q3]), decide_eq_true q3]; rfl
        · rw [if_neg (nI_ne (by omega) (by omega) q3), decide_eq_false q3]; rfl
  · rw [if_pos (show nI col ≤ (0 : Int32) from nI_le (b := 0) (by omega) (by decide)), decide_eq_false q]; rfl
theorem Clim {W : Nat} (hW : W ≤ 6) : (if nI W = 0 then some (6 : Int32) else some (nI W)) = some (nI (LW W)) := by
  unfold LW
  by_cases q : W = 0
  · rw [if_pos q, if_pos (show nI W = 0 by rw [q]; rfl)]; rfl
  · rw [if_neg q, if_neg (show ¬ nI W = 0 from nI_ne (b := 0) (by omega) (by decide) q)]
/-- a figure read by the class -/
theorem Cfig {c row col W n : Nat} (dw : Bool) (hc : c < 256) (hr : row < 6) (hcol : col ≤ 6) (hW : W ≤ 6) :
    (Option.bind (if nI W = 0 then some (6 : Int32) else some (nI W)) (qun1 fun (s_1 : Int32) => if (fX5_figureFits (nI c - 48) (nI row) (nI col) s_1) = 0 then some (Sum.inr (Sum.inr (nI n))) else qbd (fX5_opensRight (nI c - 48)) (fun (x4_3 : Int32) => Option.bind (if b2i dw = 0 then if (fX5_opensDown (nI c - 48)) = 0 then some 0 else some 1 else some 1) (qun1 fun (s_2 : Int32) => some (Sum.inl (nI row, (nI col + 1), nI W, x4_3, s_2, (nI n + 1))))))) =
    (if figOk c row col W then some (Sum.inl (nI row, nI (col + 1), nI W, b2i (decide ((c - 48) % 2 = 1)), b2i (dw || decide (2 ≤ c - 48)), nI (n + 1))) else some (Sum.inr (Sum.inr (nI n) : (Int32 × Int32 × Int32 × Int32) ⊕ Int32)) : Option ((Int32 × Int32 × Int32 × Int32 × Int32 × Int32) ⊕ ((Int32 × Int32 × Int32 × Int32) ⊕ Int32))) := by
  have hL := LW_lt hW
  rw [Clim hW, qob_some, qun1_eq]
  unfold figOk
  by_cases q : 48 ≤ c ∧ c ≤ 51
  · obtain ⟨v, rfl⟩ : ∃ v, c = 48 + v := ⟨c - 48, by omega⟩
    have hv : v < 4 := by omega
    have hci := c_in v hv
    rw [fits_in v hv row hr col (by omega) (LW W) (by omega), decide_eq_true q.1, decide_eq_true q.2, Bool.true_and, Bool.true_and, show 48 + v - 48 = v by omega]
    cases fitB v row col (LW W) with
    | false => rw [if_pos b0f, if_neg Bool.false_ne_true]
    | true =>
      rw [if_neg b0t, if_pos rfl]
      simp only [qbd]
      rw [hci.2.2.1, hci.2.2.2.1, nI_1, nI_1]
      cases dw with
      | true => rw [if_neg b0t, qob_some]; rfl
      | false =>
        rw [if_pos b0f, Bool.false_or]
        cases decide (2 ≤ v) with
        | false => rw [if_pos b0f, qob_some]; rfl
        | true => rw [if_neg b0t, qob_some]; rfl
  · have ho := c_out c hc
    have hx : (decide (c < 48) || decide (51 < c)) = true := by
      rw [Bool.or_eq_true, decide_eq_true_eq, decide_eq_true_eq]; omega
    rw [hx, Bool.not_true, Bool.false_or, Bool.and_eq_true, Bool.or_eq_true, decide_eq_true_eq, decide_eq_true_eq] at ho
    have hz : fX5_figureFits (nI c - 48) (nI row) (nI col) (nI (LW W)) = 0 := by
      unfold fX5_figureFits
      rcases ho.1 with w | w
      · rw [if_pos w]
      · by_cases w0 : (nI c - 48 : Int32) < 0
        · rw [if_pos w0]
        · rw [if_neg w0, if_pos w]
    have hf : ((decide (48 ≤ c) && decide (c ≤ 51)) && fitB (c - 48) row col (LW W)) = false := by
      have : (decide (48 ≤ c) && decide (c ≤ 51)) = false := by
        cases w : (decide (48 ≤ c) && decide (c ≤ 51)) with
        | false => rfl
        | true => rw [Bool.and_eq_true, decide_eq_true_eq, decide_eq_true_eq] at w; exact absurd w q
      rw [this]; rfl
    rw [hz, if_pos rfl, hf, if_neg Bool.false_ne_true]
theorem fig47 (row col W : Nat) : figOk 47 row col W = false := rfl
/-- goesRight of the reference -/
theorem Mgr {row col : Nat} {rd : Nat → Int32} {ro : Bool} (hr : row < 6) (hc : col ≤ 6) (h : 0 < col → ∃ v, v < 4 ∧ rd (6 * row + col - 1) = nI v ∧ ro = decide (v % 2 = 1)) (h0 : col = 0 → ro = false) :
    (if nI col ≤ 0 then some (0 : Int32) else qgd (((6 * (nI (row + 1) - 1)) + nI col) - 1) 36 (if (qrem (rd ((((6 * (nI (row + 1) - 1)) + nI col) - 1)).toNatClampNeg) 2) = 1 then some 1 else some 0)) = some (b2i ro) := by
  by_cases q : 0 < col
  · obtain ⟨v, hv, h1, h2⟩ := h q
    have ei : (((6 * (nI (row + 1) - 1)) + nI col) - 1 : Int32) = nI (6 * row + col - 1) := by
      rw [show (nI (row + 1) - 1 : Int32) = nI row from nI_sub (a := row + 1) (b := 1) (by omega), show (6 * nI row : Int32) = nI (6 * row) from nI_mul 6 row, nI_add]
      exact nI_sub (a := 6 * row + col) (b := 1) (by omega)
    rw [if_neg (show ¬ nI col ≤ (0 : Int32) from nI_ge (a := 0) (b := col) q (by omega)), ei, qgd_nI (by omega) (by decide), nI_clamp (by omega), h1, h2]
    by_cases w : v % 2 = 1
    · rw [if_pos ((c_in v hv).2.2.2.2.1.mpr w), decide_eq_true w]; rfl
    · rw [if_neg (fun x => w ((c_in v hv).2.2.2.2.1.mp x)), decide_eq_false w]; rfl
  · rw [if_pos (show nI col ≤ (0 : Int32) from nI_le (b := 0) (by omega) (by decide)), h0 (by omega)]; rfl
/-- what has been read: w wide rows, row and col where one is -/
def rdK (tx : Nat → Nat) (w row col : Nat) (rd : Nat → Int32) : Prop :=
  (∀ r c, (r < row ∧ c < w) ∨ (r = row ∧ c < col) → (48 ≤ tx (r * (w + 1) + c) ∧ tx (r * (w + 1) + c) ≤ 51) ∧ rd (6 * r + c) = nI (tx (r * (w + 1) + c) - 48)) ∧ (∀ r, r < row → tx (r * (w + 1) + w) = 47 ∧ (tx (r * (w + 1) + (w - 1)) - 48) % 2 = 0)
def rdF (tx : Nat → Nat) (len R C : Nat) (rd : Nat → Int32) : Prop :=
  (1 ≤ R ∧ R ≤ 6) ∧ (1 ≤ C ∧ C ≤ 6) ∧ len + 1 = R * (C + 1) ∧ (∀ r c, r < R → c < C → (48 ≤ tx (r * (C + 1) + c) ∧ tx (r * (C + 1) + c) ≤ 51) ∧ rd (6 * r + c) = nI (tx (r * (C + 1) + c) - 48)) ∧ (∀ r, r + 1 < R → tx (r * (C + 1) + C) = 47) ∧ (∀ r, r < R → (tx (r * (C + 1) + (C - 1)) - 48) % 2 = 0) ∧ (∀ c, c < C → tx ((R - 1) * (C + 1) + c) - 48 < 2)
def prI (tx : Nat → Nat) (n row col W : Nat) (ro dw : Bool) (rd : Nat → Int32) : Prop :=
  row < 6 ∧ W ≤ 6 ∧ col ≤ LW W ∧ (W = 0 ↔ row = 0) ∧ (col = 0 → ro = false) ∧ (0 < col → 0 < n ∧ ro = decide ((tx (n - 1) - 48) % 2 = 1)) ∧
  ∃ w, (0 < row → w = W) ∧ n = row * (w + 1) + col ∧ rdK tx w row col rd ∧ (dw = false → ∀ c, c < col → tx (row * (w + 1) + c) - 48 < 2)
theorem prI_gr {tx : Nat → Nat} {n row col W : Nat} {ro dw : Bool} {rd : Nat → Int32} (h : prI tx n row col W ro dw rd) : (0 < col → ∃ v, v < 4 ∧ rd (6 * row + col - 1) = nI v ∧ ro = decide (v % 2 = 1)) ∧ (col = 0 → ro = false) := by
  obtain ⟨h1, h2, h3, h4, h5, h6, w, h7, h8, h9, h10⟩ := h
  refine ⟨fun q => ?_, h5⟩
  have hk := h9.1 row (col - 1) (Or.inr ⟨rfl, by omega⟩)
  have e : row * (w + 1) + (col - 1) = n - 1 := by omega
  rw [e] at hk
  refine ⟨tx (n - 1) - 48, by omega, ?_, (h6 q).2⟩
  rw [show 6 * row + col - 1 = 6 * row + (col - 1) by omega]
  exact hk.2
theorem prI_slash {tx : Nat → Nat} {n row col W : Nat} {ro dw : Bool} {rd : Nat → Int32} (h : prI tx n row col W ro dw rd) (hc : tx n = 47) (hr : row < 5) (hm : mE col W ro = true) : prI tx (n + 1) (row + 1) 0 col false false rd := by
  obtain ⟨h1, h2, h3, h4, h5, h6, w, h7, h8, h9, h10⟩ := h
  unfold mE at hm
  rw [Bool.and_eq_true, Bool.and_eq_true, Bool.or_eq_true, decide_eq_true_eq, decide_eq_true_eq, decide_eq_true_eq, Bool.not_eq_true'] at hm
  obtain ⟨⟨m1, m2⟩, m3⟩ := hm
  have hcol := LW_lt h2
  have h6 := h6 m1
  rw [m2] at h6
  have hev : (tx (n - 1) - 48) % 2 = 0 := by
    have := of_decide_eq_false h6.2.symm
    omega
  have hw : row = 0 ∨ w = col := by
    rcases Nat.eq_zero_or_pos row with q | q
    · exact Or.inl q
    · right
      have := h7 q
      rcases m3 with m3 | m3
      · have := h4.mp m3; omega
      · omega
  refine ⟨by omega, by omega, Nat.zero_le _, ⟨fun q => by omega, fun q => by omega⟩, fun _ => rfl, fun q => absurd q (Nat.lt_irrefl 0), col, fun _ => rfl, ?_, ⟨fun r c hrc => ?_, fun r hr' => ?_⟩, fun _ c hc' => absurd hc' (Nat.not_lt_zero c)⟩
  · rcases hw with q | q
    · subst q; omega
    · subst q
      rw [Nat.succ_mul]; omega
  · rcases hrc with ⟨a1, a2⟩ | ⟨a1, a2⟩
    · rcases hw with q | q
      · subst q
        have : r = 0 := by omega
        subst this
        have := h9.1 0 c (Or.inr ⟨rfl, a2⟩)
        rw [Nat.zero_mul] at this ⊢
        exact this
      · subst q
        by_cases e : r = row
        · subst e
          exact h9.1 r c (Or.inr ⟨rfl, a2⟩)
        · exact h9.1 r c (Or.inl ⟨by omega, a2⟩)
    · exact absurd a2 (Nat.not_lt_zero c)
  · by_cases e : r = row
    · subst e
      have en : r * (col + 1) + col = n := by
        rcases hw with q | q
        · subst q; omega
        · subst q; omega
      have en2 : r * (col + 1) + (col - 1) = n - 1 := by omega
      rw [en, en2]
      exact ⟨hc, hev⟩
    · rcases hw with q | q
      · omega
      · subst q
        exact h9.2 r (by omega)
theorem prI_fig {tx : Nat → Nat} {n row col W : Nat} {ro dw : Bool} {rd : Nat → Int32} (h : prI tx n row col W ro dw rd) (hf : figOk (tx n) row col W = true) : 6 * row + col < 36 ∧ col < 6 ∧ prI tx (n + 1) row (col + 1) W (decide ((tx n - 48) % 2 = 1)) (dw || decide (2 ≤ tx n - 48)) (upd rd (6 * row + col) (nI (tx n - 48))) := by
  obtain ⟨h1, h2, h3, h4, h5, h6, w, h7, h8, h9, h10⟩ := h
  unfold figOk fitB at hf
  rw [Bool.and_eq_true, Bool.and_eq_true, Bool.and_eq_true, Bool.and_eq_true, decide_eq_true_eq, decide_eq_true_eq, decide_eq_true_eq] at hf
  obtain ⟨⟨f1, f2⟩, ⟨⟨f3, -⟩, -⟩⟩ := hf
  have hL := LW_lt h2
  have hw : 0 < row → w ≤ 6 := fun q => by have := h7 q; omega
  refine ⟨by omega, by omega, h1, h2, by omega, h4, fun q => by omega, fun _ => ⟨by omega, by rw [Nat.add_sub_cancel]⟩, w, h7, by omega, ⟨fun r c hrc => ?_, h9.2⟩, fun q c hc' => ?_⟩
  · by_cases e : r = row ∧ c = col
    · obtain ⟨rfl, rfl⟩ := e
      rw [← h8]
      exact ⟨⟨f1, f2⟩, pk_us⟩
    · have hk := h9.1 r c (by
        rcases hrc with q | ⟨q1, q2⟩
        · exact Or.inl q
        · exact Or.inr ⟨q1, by
            by_cases e2 : c = col
            · exact absurd ⟨q1, e2⟩ e
            · omega⟩)
      refine ⟨hk.1, ?_⟩
      have hne : 6 * r + c ≠ 6 * row + col := by
        intro q
        rcases hrc with ⟨q1, q2⟩ | ⟨q1, q2⟩
        · have := hw (by omega)
          omega
        · exact e ⟨q1, by omega⟩
      unfold upd
      rw [if_neg hne]
      exact hk.2
  · rw [Bool.or_eq_false_iff] at q
    by_cases e : c = col
    · subst e
      rw [← h8]
      have := of_decide_eq_false q.2
      omega
    · exact h10 q.1 c (by omega)
theorem prI_end {tx : Nat → Nat} {n row col W : Nat} {ro : Bool} {rd : Nat → Int32} (h : prI tx n row col W ro false rd) (hm : mE col W ro = true) : rdF tx n (row + 1) col rd := by
  obtain ⟨h1, h2, h3, h4, h5, h6, w, h7, h8, h9, h10⟩ := h
  unfold mE at hm
  rw [Bool.and_eq_true, Bool.and_eq_true, Bool.or_eq_true, decide_eq_true_eq, decide_eq_true_eq, decide_eq_true_eq, Bool.not_eq_true'] at hm
  obtain ⟨⟨m1, m2⟩, m3⟩ := hm
  have hcol := LW_lt h2
  have h6 := h6 m1
  rw [m2] at h6
  have hev : (tx (n - 1) - 48) % 2 = 0 := by
    have := of_decide_eq_false h6.2.symm
    omega
  have hw : row = 0 ∨ w = col := by
    rcases Nat.eq_zero_or_pos row with q | q
    · exact Or.inl q
    · right
      have := h7 q
      rcases m3 with m3 | m3
      · have := h4.mp m3; omega
      · omega
  have en : row * (col + 1) + col = n := by
    rcases hw with q | q
    · subst q; omega
    · subst q; omega
  have h10 := h10 rfl
  refine ⟨⟨by omega, by omega⟩, ⟨by omega, by omega⟩, by rw [Nat.succ_mul]; omega, fun r c hr' hc' => ?_, fun r hr' => ?_, fun r hr' => ?_, fun c hc' => ?_⟩
  · rcases hw with q | q
    · subst q
      have : r = 0 := by omega
      subst this
      have := h9.1 0 c (Or.inr ⟨rfl, hc'⟩)
      rw [Nat.zero_mul] at this ⊢
      exact this
    · subst q
      by_cases e : r = row
      · subst e
        exact h9.1 r c (Or.inr ⟨rfl, hc'⟩)
      · exact h9.1 r c (Or.inl ⟨by omega, hc'⟩)
  · rcases hw with q | q
    · omega
    · subst q
      exact (h9.2 r (by omega)).1
  · by_cases e : r = row
    · subst e
      rw [show r * (col + 1) + (col - 1) = n - 1 by omega]
      exact hev
    · rcases hw with q | q
      · omega
      · subst q
        exact (h9.2 r (by omega)).2
  · rw [show row + 1 - 1 = row from rfl]
    rcases hw with q | q
    · subst q
      have := h10 c hc'
      rw [Nat.zero_mul] at this ⊢
      exact this
    · subst q
      exact h10 c hc'

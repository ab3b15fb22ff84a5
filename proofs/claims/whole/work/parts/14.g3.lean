/-! widest -/
def mxf (f : Nat → Nat) : Nat → Nat
  | 0 => 0
  | k + 1 => max (mxf f k) (f k)
theorem mxf_le {f : Nat → Nat} {v : Nat} : ∀ n, mxf f n ≤ v ↔ ∀ i, i < n → f i ≤ v
  | 0 => ⟨fun _ i hi => absurd hi (Nat.not_lt_zero i), fun _ => Nat.zero_le v⟩
  | n + 1 => by
    have ih := mxf_le (f := f) (v := v) n
    show max (mxf f n) (f n) ≤ v ↔ _
    rw [Nat.max_le, ih]
    constructor
    · rintro ⟨h1, h2⟩ i hi
      by_cases e : i = n
      · rw [e]; exact h2
      · exact h1 i (by omega)
    · intro h
      exact ⟨fun i hi => h i (by omega), h n (by omega)⟩
theorem eq_of_le_iff {a b : Nat} (h : ∀ v, a ≤ v ↔ b ≤ v) : a = b := Nat.le_antisymm ((h b).mpr (Nat.le_refl b)) ((h a).mp (Nat.le_refl a))
def dst (rt dn : Nat → Bool) (t j : Nat) : Nat := ls (fun k => lv rt dn t k j) 36
def far0 (rt dn : Nat → Bool) (t j : Nat) : Nat := if dst rt dn t j = 99 then 0 else dst rt dn t j
def ecc (rt dn : Nat → Bool) (t : Nat) : Nat := mxf (far0 rt dn t) 36
theorem LF_dst {R C : Nat} {rt dn : Nat → Bool} (hz : Mz R C rt dn) {t : Nat} {D : Nat → Nat} (h : LF R C rt dn (fun _ => false) t D) {j : Nat} (hj : j < 36) : (D j = 9999 → dst rt dn t j = 99) ∧ (D j ≠ 9999 → dst rt dn t j = D j) := by
  have hs := h.2.1 j hj
  constructor
  · intro q
    unfold dst
    rw [ls_99 36 (by decide)]
    intro k hk
    have := LF_lv hz h (k := k) (by omega) hj
    cases w : lv rt dn t k j with
    | false => rfl
    | true => have := this.mp w; omega
  · intro q
    have hD : D j < 36 := by omega
    have hn : dst rt dn t j ≠ 99 := fun w => by
      unfold dst at w
      have w1 := (ls_99 36 (by decide)).mp w (D j) hD
      have w2 := (LF_lv hz h (k := D j) (by omega) hj).mpr (Nat.le_refl _)
      rw [w2] at w1; cases w1
    obtain ⟨a1, a2, a3⟩ := ls_at 36 (by decide) hn
    have b1 : D j ≤ dst rt dn t j := (LF_lv hz h (k := dst rt dn t j) (by unfold dst; omega) hj).mp a2
    by_cases e : D j < dst rt dn t j
    · have w1 := a3 (D j) e
      have w2 := (LF_lv hz h (k := D j) (by omega) hj).mpr (Nat.le_refl _)
      rw [w2] at w1; cases w1
    · omega
theorem LF_far0 {R C : Nat} {rt dn : Nat → Bool} (hz : Mz R C rt dn) {t : Nat} {D : Nat → Nat} (h : LF R C rt dn (fun _ => false) t D) {j : Nat} (hj : j < 36) : far0 rt dn t j = if D j = 9999 then 0 else D j := by
  obtain ⟨h1, h2⟩ := LF_dst hz h hj
  have hs := h.2.1 j hj
  unfold far0
  by_cases q : D j = 9999
  · rw [if_pos q, if_pos (h1 q)]
  · rw [if_neg q, h2 q, if_neg (by omega)]
theorem ecc_lt {R C : Nat} {rt dn : Nat → Bool} (hz : Mz R C rt dn) {t : Nat} (ht : isC R C t) : ecc rt dn t < 36 := by
  obtain ⟨D, hL⟩ := LF_ex hz ht
  have : ecc rt dn t ≤ 35 := (mxf_le 36).mpr (fun j hj => by
    have hs := hL.2.1 j hj
    rw [LF_far0 hz hL hj]
    split <;> omega)
  omega
set_option maxRecDepth 20000 in
theorem Csteps {R C : Nat} {rt dn : Nat → Bool} {r d : Int64} (hz : Mz R C rt dn) (hr : bs r rt) (hd : bs d dn) {i t : Nat} (hi : isC R C i) (ht : isC R C t) (hit : cnn rt dn i t = true) {x : Int64} (hx : bs x (cnn rt dn i)) :
    fX4_stepsToAll r d (nI (pl t)) x = some (nI (ecc rt dn t)) := by
  have ht36 := isC_lt hz ht
  obtain ⟨D, hL⟩ := LF_ex hz ht
  have hP : ∀ j, j < 36 → cnn rt dn i j = decide (D j ≠ 9999) := by
    intro j hj
    rw [← cnn_iff hz hL hj, Bool.eq_iff_iff]
    exact ⟨fun q => cnn_trans hz ht hj (cnn_symm hz hi ht hit) q, fun q => cnn_trans hz hi hj hit q⟩
  have hlt := ecc_lt hz ht
  obtain ⟨e, h1, h2⟩ := qlp_idx (f := qun2 fun (x4_1 : Int64) (x6_2 : Int32) => if 36 ≤ x6_2 then some (Sum.inr x6_2) else if (lg_cmp x4_1 x) = 0 then some (Sum.inr x6_2) else some (Sum.inl ((fX1_near r d x4_1), (x6_2 + 1))))
    (fun k st => st.2 = nI k ∧ k ≤ ecc rt dn t ∧ bs st.1 (lev rt dn (fun _ => true) (sg t) k)) 36 (fun (e : Int32) => e = nI (ecc rt dn t)) (by
    rintro k ⟨w, y⟩ hk ⟨rfl, hke, hb⟩
    dsimp only at hb ⊢
    rw [qun2_eq, if_neg (show ¬ (36 : Int32) ≤ nI k from nI_ge (b := 36) (by omega) (by decide))]
    have heq : lg_cmp w x = 0 ↔ k = ecc rt dn t := by
      rw [lg_0, bs_eq hb hx]
      constructor
      · intro g
        have : ecc rt dn t ≤ k := (mxf_le 36).mpr (fun j hj => by
          rw [LF_far0 hz hL hj]
          by_cases q : D j = 9999
          · rw [if_pos q]; omega
          · rw [if_neg q]
            have g1 := g j hj
            rw [hP j hj, decide_eq_true q] at g1
            exact (LF_lv hz hL (k := k) (by omega) hj).mp g1)
        omega
      · intro g j hj
        rw [hP j hj, Bool.eq_iff_iff, decide_eq_true_eq]
        have g1 := LF_lv hz hL (k := k) (by omega) hj
        have g2 := (mxf_le 36).mp (show ecc rt dn t ≤ k by omega) j hj
        rw [LF_far0 hz hL hj] at g2
        show lv rt dn t k j = true ↔ _
        rw [g1]
        by_cases q : D j = 9999
        · omega
        · rw [if_neg q] at g2; omega
    by_cases q : k = ecc rt dn t
    · right
      exact ⟨nI k, by rw [if_pos (heq.mpr q)], by rw [q]⟩
    · left
      refine ⟨by omega, (fX1_near r d w, nI (k + 1)), by rw [if_neg (fun g => q (heq.mp g)), nI_1], rfl, by omega, bs_congr (bs_near hz hr hd hb) (fun j _ => ?_)⟩
      show _ = (_ && true)
      rw [Bool.and_true]) qFU (qFU_gt (by decide)) (fX1_bit (nI (pl t)), (0 : Int32)) ⟨rfl, Nat.zero_le _, bs_bit ht36⟩
  unfold fX4_stepsToAll
  rw [h1, h2]; rfl
theorem qmax_nI {a b : Nat} (ha : a < 2 ^ 31) (hb : b < 2 ^ 31) : qmax (nI a) (nI b) = nI (max a b) := by
  unfold qmax
  by_cases h : a ≤ b
  · have h1 := nI_le h hb
    by_cases e : a = b
    · subst e; simp
    · have h2 : ¬ nI b ≤ nI a := nI_ge (by omega) (by omega)
      simp [h1, h2, Nat.max_eq_right h]
  · have h1 : ¬ nI a ≤ nI b := nI_ge (by omega) (by omega)
    have h2 : nI b ≤ nI a := nI_le (by omega) (by omega)
    simp [h1, h2, Int32.not_lt.mpr h2, Nat.max_eq_left (show b ≤ a by omega)]
/-- the widest of the cells of the part of i -/
def wid (rt dn : Nat → Bool) (i t : Nat) : Nat := if cnn rt dn i t then ecc rt dn t else 0
set_option maxRecDepth 20000 in
theorem Cwidest {R C : Nat} {rt dn : Nat → Bool} {r d : Int64} (hz : Mz R C rt dn) (hr : bs r rt) (hd : bs d dn) {i : Nat} (hi : isC R C i) {x : Int64} (hx : bs x (cnn rt dn i)) :
    fX4_greatestDistance r d x = some (nI (mxf (wid rt dn i) 36)) := by
  have hw : ∀ t, t < 36 → wid rt dn i t < 36 := by
    intro t ht
    unfold wid
    by_cases q : cnn rt dn i t = true
    · rw [if_pos q]; exact ecc_lt hz (cnn_isC hz hi ht q)
    · rw [if_neg q]; exact Nat.zero_lt_succ 35
  have hb : ∀ k, mxf (fun t => if pl t < k then wid rt dn i t else 0) 36 ≤ 35 := fun k => (mxf_le 36).mpr (fun t ht => by
    have := hw t ht
    split <;> omega)
  obtain ⟨e, h1, h2⟩ := qlp_idx (f := qun2 fun (x3_2 : Int32) (x4_1 : Int32) => if 48 ≤ x4_1 then some (Sum.inr x3_2) else if (fX1_has x x4_1) = 0 then some (Sum.inl (x3_2, (x4_1 + 1))) else Option.bind (fX4_stepsToAll r d x4_1 x) (qun1 fun (r_1 : Int32) => some (Sum.inl ((qmax x3_2 r_1), (x4_1 + 1)))))
    (fun k st => st = (nI (mxf (fun t => if pl t < k then wid rt dn i t else 0) 36), nI k)) 48 (fun (e : Int32) => e = nI (mxf (wid rt dn i) 36)) (by
    rintro k st hk rfl
    by_cases h : 48 ≤ k
    · right
      refine ⟨_, by rw [qun2_eq, if_pos (show (48 : Int32) ≤ nI k from nI_le (a := 48) h (by omega))], congrArg nI (eq_of_le_iff fun v => ?_)⟩
      rw [mxf_le, mxf_le]
      constructor
      · intro g t ht
        have g1 := g t ht
        have := pl_lt ht
        rw [if_pos (by omega)] at g1
        exact g1
      · intro g t ht
        have := pl_lt ht
        rw [if_pos (by omega)]
        exact g t ht
    · left
      refine ⟨by omega, ?_⟩
      rw [qun2_eq, if_neg (show ¬ (48 : Int32) ≤ nI k from nI_ge (b := 48) (by omega) (by decide))]
      have same : (∀ t, t < 36 → pl t = k → wid rt dn i t = 0) → mxf (fun t => if pl t < k then wid rt dn i t else 0) 36 = mxf (fun t => if pl t < k + 1 then wid rt dn i t else 0) 36 := by
        intro g
        refine eq_of_le_iff fun v => ?_
        rw [mxf_le, mxf_le]
        have : ∀ t, t < 36 → (if pl t < k then wid rt dn i t else 0) = (if pl t < k + 1 then wid rt dn i t else 0) := by
          intro t ht
          by_cases e : pl t = k
          · rw [if_neg (by omega), if_pos (by omega), g t ht e]
          · by_cases l : pl t < k
            · rw [if_pos l, if_pos (by omega)]
            · rw [if_neg l, if_neg (by omega)]
        exact ⟨fun w t ht => by rw [← this t ht]; exact w t ht, fun w t ht => by rw [this t ht]; exact w t ht⟩
      rcases place_two (k := k) (by omega) with hno | ⟨j, hj, rfl⟩
      · rw [has_in x (by omega), bs_not hx hno, if_pos (show b2i false = 0 from rfl)]
        refine ⟨_, rfl, ?_⟩
        rw [← same (fun t ht q => absurd (show k % 8 < 6 ∧ k < 48 by rw [← q]; exact ⟨pl_mod ht, pl_lt ht⟩) hno), nI_1]
      · rw [bs_has hx hj]
        cases hc : cnn rt dn i j with
        | false =>
          rw [if_pos (show b2i false = 0 from rfl)]
          refine ⟨_, rfl, ?_⟩
          rw [← same (fun t ht q => by
            have := pl_inj ht hj q
            subst this
            unfold wid; rw [hc, if_neg Bool.false_ne_true]), nI_1]
        | true =>
          have cj := cnn_isC hz hi hj hc
          have hel := ecc_lt hz cj
          rw [if_neg (show ¬ b2i true = 0 by decide), Csteps hz hr hd hi cj hc hx, qob_some, qun1_eq]
          have hbk := hb (pl j)
          refine ⟨_, rfl, ?_⟩
          rw [qmax_nI (by omega) (by omega), nI_1]
          have hwj : wid rt dn i j = ecc rt dn j := by unfold wid; rw [hc, if_pos rfl]
          have : max (mxf (fun t => if pl t < pl j then wid rt dn i t else 0) 36) (ecc rt dn j) = mxf (fun t => if pl t < pl j + 1 then wid rt dn i t else 0) 36 := by
            refine eq_of_le_iff fun v => ?_
            rw [Nat.max_le, mxf_le, mxf_le]
            constructor
            · rintro ⟨g1, g2⟩ t ht
              by_cases e : t = j
              · subst e; rw [if_pos (by omega), hwj]; exact g2
              · have : pl t ≠ pl j := fun q => e (pl_inj ht hj q)
                have g3 := g1 t ht
                by_cases l : pl t < pl j
                · rw [if_pos l] at g3; rw [if_pos (by omega)]; exact g3
                · rw [if_neg (by omega)]; omega
            · intro g
              refine ⟨fun t ht => ?_, ?_⟩
              · have g3 := g t ht
                by_cases l : pl t < pl j
                · rw [if_pos (by omega)] at g3; rw [if_pos l]; exact g3
                · rw [if_neg l]; omega
              · have g3 := g j hj
                rw [if_pos (by omega), hwj] at g3
                exact g3
          rw [this]) qFU (qFU_gt (by decide)) ((0 : Int32), (0 : Int32)) (by
      have : mxf (fun t => if pl t < 0 then wid rt dn i t else 0) 36 = 0 := Nat.le_zero.mp ((mxf_le 36).mpr (fun t _ => by
        rw [if_neg (Nat.not_lt_zero _)]
        exact Nat.le_refl 0))
      rw [this]; rfl)
  unfold fX4_greatestDistance
  rw [h1, h2]; rfl

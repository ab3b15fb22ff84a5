/-! the runner and the hunter: the reference's labels -/
theorem Cs_ne {rt dn : Nat → Bool} {b : Nat} : ∀ m {r t : Nat}, Cs rt dn b true m r t = true → r ≠ t
  | 0, r, t, h => by rw [Cs_0] at h; cases h
  | m + 1, r, t, h => by
    rw [Cs_s] at h
    unfold Cst at h
    rw [if_pos rfl, Bool.and_eq_true, decide_eq_true_eq] at h
    exact h.2
theorem Cs_eq {rt dn : Nat → Bool} {b : Nat} : ∀ m r, Cs rt dn b false m r r = true
  | 0, r => by rw [Cs_0]; simp
  | m + 1, r => by
    rw [Cs_s]
    unfold Cst
    rw [if_neg Bool.false_ne_true]
    simp
/-- the labels up to n are right -/
def labA (R C : Nat) (rt dn : Nat → Bool) (b : Nat) (hm : Bool) (A : Nat → Nat → Nat) (n : Nat) : Prop := ∀ m, m < n → ∀ i j, isC R C i → isC R C j → (A i j ≤ m ↔ lab R C rt dn b hm m i j = true)
theorem Qh_aft {R C : Nat} {rt dn : Nat → Bool} (hz : Mz R C rt dn) {b : Nat} {A : Nat → Nat → Nat} {n m : Nat} (hA : labA R C rt dn b true A n) (hmn : m < n) {t j : Nat} (ct : isC R C t) (cj : isC R C j) : Qh rt dn b A m t j ↔ aft rt dn b true (Cs rt dn b true m) t j = true := by
  unfold Qh aft
  by_cases e : t = b
  · subst e
    rw [if_pos rfl, if_pos rfl, decide_eq_true_eq]
    constructor
    · rintro (w | w)
      · exact w.2.symm
      · exact w.1.symm
    · intro w
      exact Or.inl ⟨rfl, w.symm⟩
  · rw [if_neg e, if_pos rfl, ← oS_all hz (P := Cs rt dn b true m t)]
    have hl : ∀ x, isC R C x → (A t x ≤ m ↔ Cs rt dn b true m t x = true) := fun x cx => by
      have := hA m hmn t x ct cx
      rw [lab_c ct cx, if_neg e] at this
      exact this
    constructor
    · rintro (w | w)
      · exact absurd w.1 e
      · intro s x hs hx
        exact (hl x (oS_isC hz cj hx)).mp (w.2 s x hs hx).2
    · intro w
      refine Or.inr ⟨Cs_ne m (w 4 j (by decide) (Or.inr ⟨rfl, rfl⟩)), fun s x hs hx => ?_⟩
      have := w s x hs hx
      exact ⟨(Cs_ne m this).symm, (hl x (oS_isC hz cj hx)).mpr this⟩
theorem Qc_aft {R C : Nat} {rt dn : Nat → Bool} (hz : Mz R C rt dn) {b : Nat} {A : Nat → Nat → Nat} {n m : Nat} (hA : labA R C rt dn b false A n) (hmn : m < n) {t j : Nat} (ct : isC R C t) (cj : isC R C j) : Qc rt dn b A m t j ↔ aft rt dn b false (Cs rt dn b false m) t j = true := by
  unfold Qc aft
  by_cases e : t = b
  · subst e
    rw [if_pos rfl, if_neg Bool.false_ne_true, decide_eq_true_eq]
    constructor
    · rintro (w | w)
      · exact w.symm
      · exact absurd rfl w.1
    · intro w
      exact Or.inl w.symm
  · rw [if_neg e, if_neg Bool.false_ne_true, ← oS_near hz]
    have hl : ∀ x, isC R C x → (A t x ≤ m ↔ Cs rt dn b false m t x = true) := fun x cx => by
      have := hA m hmn t x ct cx
      rw [lab_c ct cx, if_neg e] at this
      exact this
    constructor
    · rintro (w | ⟨-, s, x, hs, hx, w | w⟩)
      · subst w
        exact ⟨4, t, by decide, Or.inr ⟨rfl, rfl⟩, Cs_eq m t⟩
      · subst w
        exact ⟨s, x, hs, hx, Cs_eq m x⟩
      · exact ⟨s, x, hs, hx, (hl x (oS_isC hz cj hx)).mp w⟩
    · rintro ⟨s, x, hs, hx, w⟩
      exact Or.inr ⟨e, s, x, hs, hx, Or.inr ((hl x (oS_isC hz cj hx)).mpr w)⟩
theorem turns_lab {R C : Nat} {rt dn : Nat → Bool} {mr md tn : Nat → Int32} (hz : Mz R C rt dn) (hm : ∀ i, i < 36 → mr i = b2i (rt i) ∧ md i = b2i (dn i)) {A : Nat → Nat → Nat} (hA : tnA R C tn A) {b n : Nat} (hb : b < 36) (ho : Bool) (hn : n < 9998) (hl : labA R C rt dn b ho A n) {i j : Nat} (ci : isC R C i) (cj : isC R C j) :
    ∃ v, v ≤ 9999 ∧ fX10_turnsOf (nI R) (nI C) (nI b) mr md tn (nI i) (nI j) (b2i ho) = some (nI v) ∧ ∀ m, m ≤ n → (v ≤ m ↔ lab R C rt dn b ho m i j = true) := by
  obtain ⟨v, v1, v2, v3, v4⟩ := Mturns hz hm hA hb ci cj ho
  refine ⟨v, v1, v2, fun m hmn => ?_⟩
  rw [lab_c ci cj]
  cases m with
  | zero =>
    rw [v3]
    by_cases e : i = b
    · rw [if_pos e, if_pos e]
    · rw [if_neg e, if_neg e, Cs_0]
      cases ho <;> simp
  | succ m =>
    rw [v4 m (by omega)]
    by_cases e : i = b
    · rw [if_pos e, if_pos e]
    · rw [if_neg e, if_neg e, Cs_s]
      unfold Cst
      cases ho with
      | true =>
        rw [if_pos rfl, if_pos rfl, Bool.and_eq_true, decide_eq_true_eq, ← oS_near hz]
        constructor
        · rintro ⟨w1, s, t, hs, ht, w2⟩
          exact ⟨⟨s, t, hs, ht, (Qh_aft hz hl (by omega) (oS_isC hz ci ht) cj).mp w2⟩, w1⟩
        · rintro ⟨⟨s, t, hs, ht, w2⟩, w1⟩
          exact ⟨w1, s, t, hs, ht, (Qh_aft hz hl (by omega) (oS_isC hz ci ht) cj).mpr w2⟩
      | false =>
        rw [if_neg Bool.false_ne_true, if_neg Bool.false_ne_true, Bool.or_eq_true, decide_eq_true_eq, ← oS_all hz (P := fun t => aft rt dn b false (Cs rt dn b false m) t j)]
        constructor
        · rintro (w | w)
          · exact Or.inr w
          · exact Or.inl (fun s t hs ht => (Qc_aft hz hl (by omega) (oS_isC hz ci ht) cj).mp (w s t hs ht))
        · rintro (w | w)
          · exact Or.inr (fun s t hs ht => (Qc_aft hz hl (by omega) (oS_isC hz ci ht) cj).mpr (w s t hs ht))
          · exact Or.inl w
/-- the label of a pair after n rounds -/
def tlK (R C : Nat) (rt dn : Nat → Bool) (b : Nat) (ho : Bool) (n k : Nat) : Nat := tl (fun m => labK R C rt dn b ho m k) n
theorem y1296 {k : Nat} (h : 1296 ≤ k) (hk : k < 2 ^ 31) : (1296 : Int32) ≤ nI k := nI_le (a := 1296) h hk
theorem n1296 {k : Nat} (h : k < 1296) : ¬ (1296 : Int32) ≤ nI k := nI_ge (b := 1296) h (by decide)
set_option maxRecDepth 20000 in
theorem Mround3 {R C : Nat} {rt dn : Nat → Bool} {mr md tn : Nat → Int32} (hz : Mz R C rt dn) (hm : ∀ i, i < 36 → mr i = b2i (rt i) ∧ md i = b2i (dn i)) {b n : Nat} (hb : b < 36) (ho : Bool) (hn : n < 3000) (hT : ∀ k, k < 1296 → tn k = nI (tlK R C rt dn b ho n k)) :
    ∃ v tn', qlp qFU (lb_X10_layTurns_3 (nI R) (nI C) (nI b) mr md (b2i ho) (nI n)) ((0 : Int32), (0 : Int32), tn) = some (b2i v, tn') ∧ (∀ k, k < 1296 → tn' k = nI (tlK R C rt dn b ho (n + 1) k)) ∧ (v = true ↔ ∃ k, k < 1296 ∧ tlK R C rt dn b ho n k = 9999 ∧ labK R C rt dn b ho n k = true) := by
  have hRC := hz.1
  have hCC := hz.2.1
  have mono : ∀ k m, labK R C rt dn b ho m k = true → labK R C rt dn b ho (m + 1) k = true := fun k m w => lab_mono hz w
  obtain ⟨e, g1, v, tn', rfl, g2, g3⟩ := qlp_idx (f := lb_X10_layTurns_3 (nI R) (nI C) (nI b) mr md (b2i ho) (nI n)) (fun k st => ∃ v tn', st = (b2i v, nI k, tn') ∧ (∀ k', k' < 1296 → tn' k' = nI (tlK R C rt dn b ho (if k' < k then n + 1 else n) k')) ∧ (v = true ↔ ∃ k', k' < k ∧ tlK R C rt dn b ho n k' = 9999 ∧ labK R C rt dn b ho n k' = true)) 1296
    (fun e => ∃ v tn', e = (b2i v, tn') ∧ (∀ k, k < 1296 → tn' k = nI (tlK R C rt dn b ho (n + 1) k)) ∧ (v = true ↔ ∃ k, k < 1296 ∧ tlK R C rt dn b ho n k = 9999 ∧ labK R C rt dn b ho n k = true)) (by
    rintro k st hk ⟨v, tn', rfl, hT', hv⟩
    rw [ls_X10_layTurns_3]
    by_cases q : k = 1296
    · right
      subst q
      exact ⟨_, by rw [if_pos (y1296 (Nat.le_refl _) (by decide))], v, tn', rfl, fun k hk => by rw [hT' k hk, if_pos hk], hv⟩
    · left
      have hk' : k < 1296 := by omega
      have hi : k / 36 < 36 := by omega
      have hj : k % 36 < 36 := by omega
      refine ⟨hk', ?_⟩
      rw [if_neg (n1296 hk'), show (nI k / 36 : Int32) = nI (k / 36) from nI_div (d := 36) (by omega) (by decide) (by decide), show qrem (nI k) 36 = nI (k % 36) from nI_rem (d := 36) (by omega) (by decide) (by decide), isThere_ok R (by omega) C (by omega) _ hi, isThere_ok R (by omega) C (by omega) _ hj]
      have etl : tlK R C rt dn b ho (n + 1) k = if tlK R C rt dn b ho n k = 9999 then (if labK R C rt dn b ho n k then n else 9999) else tlK R C rt dn b ho n k := rfl
      -- nothing changes at k
      have same : tlK R C rt dn b ho (n + 1) k = tlK R C rt dn b ho n k → (¬ (tlK R C rt dn b ho n k = 9999 ∧ labK R C rt dn b ho n k = true)) → ∃ s', some (Sum.inl (b2i v, (nI k + 1), tn')) = some (Sum.inl s' : (Int32 × Int32 × (Nat → Int32)) ⊕ (Int32 × (Nat → Int32))) ∧ ∃ v tn', s' = (b2i v, nI (k + 1), tn') ∧ (∀ k', k' < 1296 → tn' k' = nI (tlK R C rt dn b ho (if k' < k + 1 then n + 1 else n) k')) ∧ (v = true ↔ ∃ k', k' < k + 1 ∧ tlK R C rt dn b ho n k' = 9999 ∧ labK R C rt dn b ho n k' = true) := by
        intro w1 w2
        refine ⟨_, rfl, v, tn', by rw [nI_1], fun k' hk2 => ?_, hv.trans ⟨fun ⟨k', a1, a2⟩ => ⟨k', by omega, a2⟩, fun ⟨k', a1, a2, a3⟩ => ⟨k', ?_, a2, a3⟩⟩⟩
        · rw [hT' k' hk2]
          by_cases e : k' = k
          · rw [if_neg (by omega), if_pos (by omega), e, w1]
          · by_cases l : k' < k
            · rw [if_pos l, if_pos (by omega)]
            · rw [if_neg l, if_neg (by omega)]
        · by_cases e : k' = k
          · rw [e] at a2 a3; exact absurd ⟨a2, a3⟩ w2
          · omega
      have hnl : ¬ (isC R C (k / 36) ∧ isC R C (k % 36)) → labK R C rt dn b ho n k = false := fun w => by
        cases q : labK R C rt dn b ho n k with
        | false => rfl
        | true => exact absurd (lab_cell q) w
      cases hc1 : cellS R C (k / 36) with
      | false =>
        have hl := hnl (fun w => by rw [cellS_iff.mpr w.1] at hc1; cases hc1)
        rw [if_pos b0f, qob_some, qun1_eq, if_pos rfl]
        refine same ?_ (fun w => by rw [hl] at w; cases w.2)
        rw [etl, hl, if_neg Bool.false_ne_true]
        split
        · omega
        · rfl
      | true =>
        rw [if_neg b0t]
        cases hc2 : cellS R C (k % 36) with
        | false =>
          have hl := hnl (fun w => by rw [cellS_iff.mpr w.2] at hc2; cases hc2)
          rw [if_pos b0f, qob_some, qun1_eq, if_pos rfl]
          refine same ?_ (fun w => by rw [hl] at w; cases w.2)
          rw [etl, hl, if_neg Bool.false_ne_true]
          split
          · omega
          · rfl
        | true =>
          have ci := cellS_iff.mp hc1
          have cj := cellS_iff.mp hc2
          rw [if_neg b0t, qgd_nI hk' (by decide), nI_clamp (by omega), hT' k hk', if_neg (Nat.lt_irrefl k)]
          by_cases h9 : tlK R C rt dn b ho n k = 9999
          · rw [if_pos (show nI (tlK R C rt dn b ho n k) = (9999 : Int32) by rw [h9]; rfl), qob_some, qun1_eq, if_neg (by decide)]
            -- the label asked for
            have hAA : tnA R C tn' (fun i j => tlK R C rt dn b ho (if 36 * i + j < k then n + 1 else n) (36 * i + j)) := fun i j c1 c2 => by
              have h1 := isC_lt hz c1
              have h2 := isC_lt hz c2
              refine ⟨hT' _ (by omega), ?_⟩
              have h0 := tl_two (f := fun m => labK R C rt dn b ho m (36 * i + j)) (if 36 * i + j < k then n + 1 else n)
              have h3 : (if 36 * i + j < k then n + 1 else n) ≤ n + 1 := by split <;> omega
              show tl (fun m => labK R C rt dn b ho m (36 * i + j)) (if 36 * i + j < k then n + 1 else n) ≤ 9999
              omega
            have hLA : labA R C rt dn b ho (fun i j => tlK R C rt dn b ho (if 36 * i + j < k then n + 1 else n) (36 * i + j)) n := fun m hmn i j c1 c2 => by
              have h1 := isC_lt hz c1
              have h2 := isC_lt hz c2
              have h3 : (if 36 * i + j < k then n + 1 else n) ≤ n + 1 := by split <;> omega
              have h4 : m < (if 36 * i + j < k then n + 1 else n) := by split <;> omega
              have := tl_le (f := fun m => labK R C rt dn b ho m (36 * i + j)) (mono _) (if 36 * i + j < k then n + 1 else n) (by omega) m h4
              refine this.trans ?_
              show lab R C rt dn b ho m ((36 * i + j) / 36) ((36 * i + j) % 36) = true ↔ _
              rw [show (36 * i + j) / 36 = i by omega, show (36 * i + j) % 36 = j by omega]
            obtain ⟨u, u1, u2, u3⟩ := turns_lab hz hm hAA hb ho (by omega) hLA ci cj
            rw [u2, qob_some, qun1_eq]
            have hprev : ∀ m, m < n → labK R C rt dn b ho m k = false := fun m hmn => by
              cases w : labK R C rt dn b ho m k with
              | false => rfl
              | true =>
                have h5 : tlK R C rt dn b ho n k ≤ m := (tl_le (f := fun m => labK R C rt dn b ho m k) (mono k) n (by omega) m hmn).mpr w
                omega
            have hun : u = n ↔ labK R C rt dn b ho n k = true := by
              have hle := u3 n (Nat.le_refl n)
              constructor
              · intro w
                exact hle.mp (by omega)
              · intro w
                have h1 : u ≤ n := hle.mpr w
                by_cases e : u = n
                · exact e
                · have h2 := (u3 u (by omega)).mp (Nat.le_refl u)
                  have h3 := hprev u (by omega)
                  unfold labK at h3
                  rw [h2] at h3
                  cases h3
            by_cases w : u = n
            · have hl := hun.mp w
              rw [if_pos (by rw [w]), qgd_nI hk' (by decide)]
              refine ⟨_, rfl, true, upd tn' k (nI n), by rw [nI_1]; rfl, fun k' hk2 => ?_, ⟨fun _ => ⟨k, by omega, h9, hl⟩, fun _ => rfl⟩⟩
              unfold upd
              by_cases e : k' = k
              · rw [if_pos e, e, if_pos (by omega), etl, if_pos h9, hl, if_pos rfl]
              · rw [if_neg e, hT' k' hk2]
                by_cases l : k' < k
                · rw [if_pos l, if_pos (by omega)]
                · rw [if_neg l, if_neg (by omega)]
            · have hl : labK R C rt dn b ho n k = false := by
                cases q : labK R C rt dn b ho n k with
                | false => rfl
                | true => exact absurd (hun.mpr q) w
              rw [if_neg (nI_ne (by omega) (by omega) w)]
              refine same ?_ (fun q => by rw [hl] at q; cases q.2)
              rw [etl, if_pos h9, hl, if_neg Bool.false_ne_true, h9]
          · have h0 : tlK R C rt dn b ho n k = 9999 ∨ tlK R C rt dn b ho n k < n := tl_two n
            rw [if_neg (show ¬ nI (tlK R C rt dn b ho n k) = (9999 : Int32) from nI_ne (b := 9999) (by omega) (by decide) h9), qob_some, qun1_eq, if_pos rfl]
            refine same ?_ (fun q => h9 q.1)
            rw [etl, if_neg h9]) qFU (qFU_gt (by decide)) ((0 : Int32), (0 : Int32), tn) ⟨false, tn, rfl, fun k' hk2 => by rw [hT k' hk2, if_neg (Nat.not_lt_zero k')], ⟨fun w => (by cases w), fun ⟨k', a1, _⟩ => absurd a1 (Nat.not_lt_zero k')⟩⟩
  exact ⟨v, tn', g1, g2, g3⟩
set_option maxRecDepth 20000 in
theorem Mlay0 (tn : Nat → Int32) : ∃ tn', qlp qFU lb_X10_layTurns_1 ((0 : Int32), tn) = some tn' ∧ ∀ k, k < 1296 → tn' k = nI 9999 := by
  obtain ⟨e, g1, g2⟩ := qlp_idx (f := lb_X10_layTurns_1) (fun k st => ∃ d', st = (nI k, d') ∧ ∀ j, j < k → d' j = nI 9999) 1296 (fun e => ∀ j, j < 1296 → e j = nI 9999) (by
    rintro k st hk ⟨d', rfl, h⟩
    rw [ls_X10_layTurns_1]
    by_cases q : k = 1296
    · right
      subst q
      exact ⟨d', by rw [if_pos (y1296 (Nat.le_refl _) (by decide))], h⟩
    · left
      have hk' : k < 1296 := by omega
      refine ⟨hk', _, by rw [if_neg (n1296 hk'), qgd_nI hk' (by decide), nI_clamp (by omega)], _, by rw [nI_1], fun j hj => ?_⟩
      unfold upd
      by_cases e2 : j = k
      · rw [if_pos e2]; rfl
      · rw [if_neg e2]; exact h j (by omega)) qFU (qFU_gt (by decide)) ((0 : Int32), tn) ⟨tn, rfl, fun j hj => absurd hj (Nat.not_lt_zero j)⟩
  exact ⟨e, g1, g2⟩
/-- the value of a pair: the least n at which it is won -/
def chV (R C : Nat) (rt dn : Nat → Bool) (b : Nat) (ho : Bool) (k v : Nat) : Prop := (v = 9999 ∧ ∀ m, labK R C rt dn b ho m k = false) ∨ (v ≤ 1296 ∧ labK R C rt dn b ho v k = true ∧ ∀ m, m < v → labK R C rt dn b ho m k = false)
theorem tlK_val {R C : Nat} {rt dn : Nat → Bool} (hz : Mz R C rt dn) {b : Nat} {ho : Bool} {M n k : Nat} (hM : M ≤ 1296) (h1 : ∀ i j, isC R C i → isC R C j → lab R C rt dn b ho (M + 1) i j = lab R C rt dn b ho M i j) (hn : M < n) (hn2 : n < 3000) : chV R C rt dn b ho k (tlK R C rt dn b ho n k) := by
  have mono : ∀ m, labK R C rt dn b ho m k = true → labK R C rt dn b ho (m + 1) k = true := fun m w => lab_mono hz w
  have hle := tl_le (f := fun m => labK R C rt dn b ho m k) mono n (by omega)
  have h2 : tlK R C rt dn b ho n k = 9999 ∨ tlK R C rt dn b ho n k < n := tl_two n
  have fixd : ∀ m, labK R C rt dn b ho m k = true → labK R C rt dn b ho M k = true := fun m w => by
    by_cases l : m ≤ M
    · exact lab_le hz w M l
    · obtain ⟨ci, cj⟩ := lab_cell w
      have := (lab_stab hz h1 (m - M) _ _ ci cj).1
      rw [show M + (m - M) = m by omega] at this
      unfold labK at w ⊢
      rw [← this]
      exact w
  rcases h2 with h2 | h2
  · left
    refine ⟨h2, fun m => ?_⟩
    cases w : labK R C rt dn b ho m k with
    | false => rfl
    | true =>
      have h3 : tlK R C rt dn b ho n k ≤ M := (hle M hn).mpr (fixd m w)
      omega
  · right
    have hv : labK R C rt dn b ho (tlK R C rt dn b ho n k) k = true := (hle _ h2).mp (Nat.le_refl _)
    have h3 : tlK R C rt dn b ho n k ≤ M := (hle M hn).mpr (fixd _ hv)
    refine ⟨by omega, hv, fun m hm => ?_⟩
    cases w : labK R C rt dn b ho m k with
    | false => rfl
    | true =>
      have h4 : tlK R C rt dn b ho n k ≤ m := (hle m (by omega)).mpr w
      omega
set_option maxRecDepth 20000 in
theorem MlayT {R C : Nat} {rt dn : Nat → Bool} {mr md : Nat → Int32} (hz : Mz R C rt dn) (hm : ∀ i, i < 36 → mr i = b2i (rt i) ∧ md i = b2i (dn i)) {b : Nat} (cb : isC R C b) (ho : Bool) (tn : Nat → Int32) :
    ∃ tn', fX10_layTurns (nI R) (nI C) (nI b) mr md tn (b2i ho) = some tn' ∧ ∀ k, k < 1296 → ∃ v, tn' k = nI v ∧ chV R C rt dn b ho k v := by
  have hb := isC_lt hz cb
  obtain ⟨M, hM, hst, hgr⟩ := lab_end hz b ho
  obtain ⟨t0, z1, z2⟩ := Mlay0 tn
  obtain ⟨e, g1, g2⟩ := qlp_idx (f := lb_X10_layTurns_2 (nI R) (nI C) (nI b) mr md (b2i ho)) (fun n st => ∃ v tn', st = (b2i v, nI n, tn') ∧ (∀ k, k < 1296 → tn' k = nI (tlK R C rt dn b ho n k)) ∧ ((v = true ∧ n ≤ M + 1) ∨ (v = false ∧ n ≤ M + 2 ∧ ∀ k, k < 1296 → chV R C rt dn b ho k (tlK R C rt dn b ho n k)))) (M + 2) (fun e => ∀ k, k < 1296 → ∃ v, e k = nI v ∧ chV R C rt dn b ho k v) (by
    rintro n st hn ⟨v, tn', rfl, hT, hv⟩
    rw [ls_X10_layTurns_2]
    rcases hv with ⟨rfl, hv⟩ | ⟨rfl, hv, hvv⟩
    · left
      obtain ⟨v2, tn2, r1, r2, r3⟩ := Mround3 hz hm hb ho (by omega) hT
      refine ⟨by omega, (b2i v2, nI (n + 1), tn2), by rw [if_neg b0t, r1, qob_some, ← nI_1], v2, tn2, rfl, r2, ?_⟩
      cases hv2 : v2 with
      | true =>
        left
        refine ⟨rfl, ?_⟩
        obtain ⟨k, k1, k2, k3⟩ := r3.mp hv2
        by_cases l : n = M + 1
        · exfalso
          have hval := tlK_val (k := k) hz hM hst (show M < n by omega) (by omega)
          rcases hval with ⟨-, w⟩ | ⟨w, -⟩
          · rw [w n] at k3; cases k3
          · omega
        · omega
      | false =>
        right
        refine ⟨rfl, by omega, fun k hk => ?_⟩
        by_cases l : M < n + 1
        · exact tlK_val hz hM hst l (by omega)
        · exfalso
          -- a round ahead of the end finds something
          by_cases n0 : n = 0
          · subst n0
            obtain ⟨k', q1, q2, q3⟩ := hgr 0 (by omega)
            have hl0 : ∀ k, k < 1296 → labK R C rt dn b ho 0 k = false := fun k hk => by
              cases w : labK R C rt dn b ho 0 k with
              | false => rfl
              | true =>
                have := r3.mpr ⟨k, hk, rfl, w⟩
                rw [hv2] at this; cases this
            obtain ⟨ci, cj⟩ := lab_cell q3
            have hi := isC_lt hz ci
            cases ho with
            | true =>
              have := hl0 (36 * b + b) (by omega)
              unfold labK at this
              rw [show (36 * b + b) / 36 = b by omega, show (36 * b + b) % 36 = b by omega, lab_c cb cb, if_pos rfl] at this
              cases this
            | false =>
              have hib : k' / 36 ≠ b := fun w => by
                unfold labK at q3
                rw [lab_c ci cj, if_pos w] at q3
                cases q3
              have := hl0 (36 * (k' / 36) + k' / 36) (by omega)
              unfold labK at this
              rw [show (36 * (k' / 36) + k' / 36) / 36 = k' / 36 by omega, show (36 * (k' / 36) + k' / 36) % 36 = k' / 36 by omega, lab_c ci ci, if_neg hib, Cs_eq] at this
              cases this
          · obtain ⟨k', q1, q2, q3⟩ := hgr (n - 1) (by omega)
            rw [show n - 1 + 1 = n by omega] at q3
            have : tlK R C rt dn b ho n k' = 9999 := by
              have h2 : tlK R C rt dn b ho n k' = 9999 ∨ tlK R C rt dn b ho n k' < n := tl_two n
              rcases h2 with h2 | h2
              · exact h2
              · have hle := tl_le (f := fun m => labK R C rt dn b ho m k') (fun m w => lab_mono hz w) n (by omega)
                have hv : labK R C rt dn b ho (tlK R C rt dn b ho n k') k' = true := (hle _ h2).mp (Nat.le_refl _)
                have := lab_le hz hv (n - 1) (by omega)
                unfold labK at q2
                rw [this] at q2
                cases q2
            have := r3.mpr ⟨k', q1, this, q3⟩
            rw [hv2] at this; cases this
    · right
      exact ⟨tn', by rw [if_pos b0f], fun k hk => ⟨_, hT k hk, hvv k hk⟩⟩) qFU (qFU_gt (by omega)) ((1 : Int32), (0 : Int32), t0) ⟨true, t0, rfl, z2, Or.inl ⟨rfl, Nat.zero_le _⟩⟩
  refine ⟨e, ?_, g2⟩
  rw [le_X10_layTurns, z1, qob_some, qun1_eq, g1, qob_some]

/-! the reference's search by a queue -/
def upN (f : Nat → Nat) (k v : Nat) : Nat → Nat := fun j => if j = k then v else f j
theorem upN_same (f : Nat → Nat) (k v : Nat) : upN f k v k = v := if_pos rfl
theorem upN_ne {f : Nat → Nat} {k v j : Nat} (h : j ≠ k) : upN f k v j = f j := if_neg h
def BI (R C : Nat) (rt dn sh : Nat → Bool) (fr k e : Nat) (D q : Nat → Nat) (ks : Nat) : Prop :=
  (e ≤ 36 ∧ 1 ≤ e) ∧ cn (fun j => decide (D j ≠ 9999)) 36 = e ∧ (∀ j, j < 36 → D j ≠ 9999 → ∃ a, a < e ∧ q a = j) ∧ (∀ a, a < e → isC R C (q a) ∧ D (q a) ≤ a) ∧ (∀ a b, a ≤ b → b < e → D (q a) ≤ D (q b)) ∧ (k < e → D (q (e - 1)) ≤ D (q k) + 1) ∧ (q 0 = fr ∧ D fr = 0) ∧
  (∀ a s, s < 4 → (a < k ∨ (a = k ∧ s < ks)) → a < e → opS rt dn (q a) s = true → sh (mvN (q a) s) = false → D (mvN (q a) s) ≤ D (q a) + 1) ∧
  (∀ j, j < 36 → D j ≠ 9999 → j ≠ fr → ∃ u s, s < 4 ∧ opS rt dn u s = true ∧ mvN u s = j ∧ D j = D u + 1 ∧ u < 36 ∧ sh j = false)
theorem BI_small {R C : Nat} {rt dn sh : Nat → Bool} {fr k e ks : Nat} {D q : Nat → Nat} (h : BI R C rt dn sh fr k e D q ks) {j : Nat} (hj : j < 36) (hd : D j ≠ 9999) : D j < 36 := by
  obtain ⟨⟨h1, -⟩, -, h3, h4, -⟩ := h
  obtain ⟨a, ha, e⟩ := h3 j hj hd
  have := (h4 a ha).2
  rw [e] at this
  omega
theorem BI_skip {R C : Nat} {rt dn sh : Nat → Bool} (hz : Mz R C rt dn) {fr k e ks : Nat} {D q : Nat → Nat} (h : BI R C rt dn sh fr k e D q ks) (hk : k < e) (hs : ks < 4) (hn : opS rt dn (q k) ks = true → sh (mvN (q k) ks) = false → D (mvN (q k) ks) ≠ 9999) : BI R C rt dn sh fr k e D q (ks + 1) := by
  obtain ⟨h1, h2, h3, h4, h5, h6, h7, h8, h9⟩ := h
  refine ⟨h1, h2, h3, h4, h5, h6, h7, fun a s hs4 ha hae ho hsh => ?_, h9⟩
  by_cases hlt : a < k ∨ (a = k ∧ s < ks)
  · exact h8 a s hs4 hlt hae ho hsh
  · obtain ⟨rfl, rfl⟩ : a = k ∧ s = ks := by omega
    have ht := op_isC hz (h4 a hae).1 hs4 ho
    obtain ⟨b, hb, eb⟩ := h3 _ ht.2 (hn ho hsh)
    rw [← eb]
    have := h5 b (e - 1) (by omega) (by omega)
    have := h6 hk
    omega
theorem BI_add {R C : Nat} {rt dn sh : Nat → Bool} (hz : Mz R C rt dn) {fr k e ks : Nat} {D q : Nat → Nat} (h : BI R C rt dn sh fr k e D q ks) (hk : k < e) (hs : ks < 4) (ho : opS rt dn (q k) ks = true) (hsh : sh (mvN (q k) ks) = false) (hD : D (mvN (q k) ks) = 9999) :
    e < 36 ∧ BI R C rt dn sh fr k (e + 1) (upN D (mvN (q k) ks) (D (q k) + 1)) (upN q e (mvN (q k) ks)) (ks + 1) := by
  have hsm := fun j hj hd => BI_small h (j := j) hj hd
  obtain ⟨⟨h1, h1'⟩, h2, h3, h4, h5, h6, ⟨h7, h7'⟩, h8, h9⟩ := h
  have ht := op_isC hz (h4 k hk).1 hs ho
  have hDk := (h4 k hk).2
  generalize htt : mvN (q k) ks = t at *
  have hqt : ∀ a, a < e → q a ≠ t := fun a ha e1 => by
    have := (h4 a ha).2
    rw [e1, hD] at this
    omega
  have hDq : ∀ a, a < e → upN D t (D (q k) + 1) (q a) = D (q a) := fun a ha => upN_ne (hqt a ha)
  have hqe : ∀ a, a < e → upN q e t a = q a := fun a ha => upN_ne (by omega)
  have hcn : cn (fun j => decide (upN D t (D (q k) + 1) j ≠ 9999)) 36 = e + 1 := by
    rw [← h2, ← cn_up (S := fun j => decide (D j ≠ 9999)) (k := t) (by simp [hD]) 36 ht.2]
    apply cn_congr
    intro i hi
    unfold upB
    by_cases e1 : i = t
    · subst e1
      rw [upN_same, if_pos rfl]
      simp
      omega
    · rw [upN_ne e1, if_neg e1]
  have hle := cn_le (fun j => decide (upN D t (D (q k) + 1) j ≠ 9999)) 36
  rw [hcn] at hle
  refine ⟨by omega, ⟨hle, by omega⟩, hcn, ?_, ?_, ?_, ?_, ⟨by rw [hqe 0 (by omega)]; exact h7, ?_⟩, ?_, ?_⟩
  · intro j hj hd
    by_cases e1 : j = t
    · exact ⟨e, by omega, by rw [upN_same, e1]⟩
    · rw [upN_ne e1] at hd
      obtain ⟨a, ha, ea⟩ := h3 j hj hd
      exact ⟨a, by omega, by rw [hqe a ha]; exact ea⟩
  · intro a ha
    by_cases e1 : a = e
    · subst e1
      rw [upN_same, upN_same]
      exact ⟨ht.1, by omega⟩
    · rw [hqe a (by omega), hDq a (by omega)]
      exact h4 a (by omega)
  · intro a b hab hb
    by_cases e1 : b = e
    · subst e1
      rw [upN_same q, upN_same]
      by_cases e2 : a = b
      · subst e2; rw [upN_same, upN_same]; exact Nat.le_refl _
      · rw [hqe a (by omega), hDq a (by omega)]
        have := h5 a (b - 1) (by omega) (by omega)
        have := h6 hk
        omega
    · rw [hqe a (by omega), hqe b (by omega), hDq a (by omega), hDq b (by omega)]
      exact h5 a b hab (by omega)
  · intro _
    rw [show e + 1 - 1 = e by omega, upN_same q, upN_same, hqe k hk, hDq k hk]
    exact Nat.le_refl _
  · rw [← h7, hDq 0 (by omega), h7]; exact h7'
  · intro a s hs4 ha hae ho' hsh'
    have hak : a < e := by omega
    rw [hqe a hak] at ho' hsh' ⊢
    rw [hDq a hak]
    by_cases e1 : mvN (q a) s = t
    · rw [e1, upN_same]
      rcases ha with h' | ⟨rfl, h'⟩
      · have := h8 a s hs4 (Or.inl h') hak ho' hsh'
        rw [e1, hD] at this
        have := (h4 a hak).2
        omega
      · exact Nat.le_refl _
    · rw [upN_ne e1]
      rcases ha with h' | ⟨rfl, h'⟩
      · exact h8 a s hs4 (Or.inl h') hak ho' hsh'
      · by_cases e2 : s = ks
        · subst e2; exact absurd htt e1
        · exact h8 a s hs4 (Or.inr ⟨rfl, by omega⟩) hak ho' hsh'
  · intro j hj hd hjf
    by_cases e1 : j = t
    · subst e1
      exact ⟨q k, ks, hs, ho, htt, by rw [upN_same, hDq k hk], isC_lt hz (h4 k hk).1, hsh⟩
    · rw [upN_ne e1] at hd
      obtain ⟨u, s, a1, a2, a3, a4, a5, a6⟩ := h9 j hj hd hjf
      refine ⟨u, s, a1, a2, a3, ?_, a5, a6⟩
      rw [upN_ne e1, upN_ne (fun e2 => ?_)]
      · exact a4
      · subst e2
        rw [hD] at a4
        have := hsm j hj hd
        omega
theorem BI_next {R C : Nat} {rt dn sh : Nat → Bool} {fr k e : Nat} {D q : Nat → Nat} (h : BI R C rt dn sh fr k e D q 4) (hk : k < e) : BI R C rt dn sh fr (k + 1) e D q 0 := by
  obtain ⟨h1, h2, h3, h4, h5, h6, h7, h8, h9⟩ := h
  refine ⟨h1, h2, h3, h4, h5, fun hk1 => ?_, h7, fun a s hs4 ha hae ho hsh => ?_, h9⟩
  · have := h6 hk
    have := h5 k (k + 1) (by omega) hk1
    omega
  · exact h8 a s hs4 (by omega) hae ho hsh
/-- what a search from fr round the shut cells leaves -/
def LF (R C : Nat) (rt dn sh : Nat → Bool) (fr : Nat) (D : Nat → Nat) : Prop :=
  D fr = 0 ∧ (∀ j, j < 36 → D j = 9999 ∨ (D j < 36 ∧ isC R C j)) ∧ (∀ j s, j < 36 → D j ≠ 9999 → s < 4 → opS rt dn j s = true → sh (mvN j s) = false → D (mvN j s) ≤ D j + 1) ∧
  (∀ j, j < 36 → D j ≠ 9999 → j ≠ fr → ∃ u s, s < 4 ∧ opS rt dn u s = true ∧ mvN u s = j ∧ D j = D u + 1 ∧ u < 36 ∧ sh j = false)
theorem BI_end {R C : Nat} {rt dn sh : Nat → Bool} {fr e : Nat} {D q : Nat → Nat} (h : BI R C rt dn sh fr e e D q 0) : LF R C rt dn sh fr D := by
  have hsm := fun j hj hd => BI_small h (j := j) hj hd
  obtain ⟨h1, h2, h3, h4, h5, h6, h7, h8, h9⟩ := h
  refine ⟨h7.2, fun j hj => ?_, fun j s hj hd hs ho hsh => ?_, h9⟩
  · by_cases hd : D j = 9999
    · exact Or.inl hd
    · obtain ⟨a, ha, ea⟩ := h3 j hj hd
      exact Or.inr ⟨hsm j hj hd, ea ▸ (h4 a ha).1⟩
  · obtain ⟨a, ha, ea⟩ := h3 j hj hd
    subst ea
    exact h8 a s hs (Or.inl ha) ha ho hsh
theorem BI_start {R C : Nat} {rt dn sh : Nat → Bool} {fr : Nat} (hf : isC R C fr) (hl : fr < 36) (q : Nat → Nat) : BI R C rt dn sh fr 0 1 (upN (fun _ => 9999) fr 0) (upN q 0 fr) 0 := by
  refine ⟨⟨by decide, by decide⟩, ?_, ?_, ?_, ?_, ?_, ⟨upN_same _ _ _, upN_same _ _ _⟩, ?_, ?_⟩
  · have h1 : cn (fun j => decide (upN (fun _ => 9999) fr 0 j ≠ 9999)) 36 = cn (upB (fun _ => false) fr true) 36 := by
      apply cn_congr
      intro i hi
      unfold upN upB
      by_cases e : i = fr <;> simp [e]
    rw [h1, cn_up rfl 36 hl, cn_0 36 (fun _ _ => rfl)]
  · intro j hj hd
    by_cases e : j = fr
    · exact ⟨0, by decide, by rw [upN_same, e]⟩
    · rw [upN_ne e] at hd; exact absurd rfl hd
  · intro a ha
    rw [show a = 0 by omega, upN_same, upN_same]
    exact ⟨hf, by decide⟩
  · intro a b hab hb
    rw [show a = 0 by omega, show b = 0 by omega]
    exact Nat.le_refl _
  · intro _
    exact Nat.le_succ _
  · intro a s hs ha _ _ _
    omega
  · intro j hj hd hjf
    rw [upN_ne hjf] at hd
    exact absurd rfl hd

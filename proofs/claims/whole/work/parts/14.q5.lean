/-! lost -/
theorem cnn_sw {R C : Nat} {rt dn : Nat → Bool} (hz : Mz R C rt dn) {f o : Nat} (cf : isC R C f) (co : isC R C o) (h : cnn rt dn f o = true) {t : Nat} (ht : t < 36) : cnn rt dn f t = cnn rt dn o t := by
  have h' := cnn_symm hz cf co h
  rw [Bool.eq_iff_iff]
  exact ⟨fun q => cnn_trans hz co ht h' q, fun q => cnn_trans hz cf ht h q⟩
theorem MQ_C {R C : Nat} {rt dn : Nat → Bool} (hz : Mz R C rt dn) {f o m : Nat} (cf : isC R C f) (co : isC R C o) (hfo : f ≠ o) (h : cnn rt dn f o = true) {S : Nat → Bool} (hS : ∀ t, t < 36 → S t = ((cnn rt dn f t && !decide (t = f)) && !decide (t = o))) (hm : cn S 36 = m) {Q : Nat → Nat} (q1 : ∀ k, k < m → Q k < 36 ∧ S (Q k) = true ∧ cn S (Q k) = k) (q2 : ∀ k l, k < m → l < m → Q k = Q l → k = l) (q3 : ∀ c, c < 36 → S c = true → cn S c < m ∧ Q (cn S c) = c) {QC : Nat → Nat} (hC1 : ∀ k, k < m → QC k = Q k) (hC2 : QC m = f) : MQz R C rt dn o QC (m + 1) := by
  have un : ∀ k, k < m → cnn rt dn f (Q k) = true ∧ Q k ≠ f ∧ Q k ≠ o := fun k hk => by
    obtain ⟨a1, a2, -⟩ := q1 k hk
    rw [hS _ a1, Bool.and_eq_true, Bool.and_eq_true, Bool.not_eq_true', Bool.not_eq_true', decide_eq_false_iff_not, decide_eq_false_iff_not] at a2
    exact ⟨a2.1.1, a2.1.2, a2.2⟩
  refine ⟨co, fun k hk => ?_, fun k l hk hl e => ?_, fun c hc w1 w2 => ?_⟩
  · by_cases e : k = m
    · rw [e, hC2]
      exact ⟨cf, cnn_symm hz cf co h, hfo⟩
    · have hk' : k < m := by omega
      rw [hC1 k hk']
      obtain ⟨a1, a2, a3⟩ := un k hk'
      exact ⟨cnn_isC hz cf (q1 k hk').1 a1, by rw [← cnn_sw hz cf co h (q1 k hk').1]; exact a1, a3⟩
  · by_cases e1 : k = m
    · by_cases e2 : l = m
      · omega
      · rw [e1, hC2, hC1 l (by omega)] at e
        exact absurd e.symm (un l (by omega)).2.1
    · by_cases e2 : l = m
      · rw [e2, hC2, hC1 k (by omega)] at e
        exact absurd e (un k (by omega)).2.1
      · rw [hC1 k (by omega), hC1 l (by omega)] at e
        exact q2 k l (by omega) (by omega) e
  · by_cases e : c = f
    · exact ⟨m, by omega, by rw [hC2, e]⟩
    · have hs : S c = true := by rw [hS c hc, cnn_sw hz cf co h hc, w1, decide_eq_false e, decide_eq_false w2]; rfl
      obtain ⟨a1, a2⟩ := q3 c hc hs
      exact ⟨cn S c, by omega, by rw [hC1 _ a1]; exact a2⟩
theorem tau_p (p n : Nat) : tau p n p = n - 1 := if_pos rfl
theorem tau_l (p n : Nat) : tau p n (n - 1) = p := by
  unfold tau
  by_cases h : n - 1 = p
  · rw [if_pos h]; exact h
  · rw [if_neg h, if_pos rfl]
theorem tau_o {p n k : Nat} (h1 : k ≠ p) (h2 : k ≠ n - 1) : tau p n k = k := by
  unfold tau
  rw [if_neg h1, if_neg h2]
theorem swap_mb {n p f : Nat} {Q : Nat → Nat} {mb : Nat → Int32} (hmb : ∀ k, k < n → mb k = nI (Q k)) (hf : Q p = f) : ∀ k, k < n → upd (upd mb (n - 1) (nI f)) p (nI (Q (n - 1))) k = nI (Q (tau p n k)) := fun k hk => by
  by_cases h1 : k = p
  · rw [h1, upd_s, tau_p]
  · rw [upd_n h1]
    by_cases h2 : k = n - 1
    · rw [h2, upd_s, tau_l, hf]
    · rw [upd_n h2, tau_o h1 h2]
      exact hmb k hk
theorem swap_pc {R C n p f : Nat} {Q : Nat → Nat} {pc : Nat → Int32} (hp : p < n) (hf : Q p = f) (h : ∀ c, isC R C c → (∃ j, j < n ∧ Q j = c ∧ pc c = nI j) ∨ ((∀ j, j < n → Q j ≠ c) ∧ pc c = -9)) : ∀ c, isC R C c → (∃ j, j < n ∧ Q (tau p n j) = c ∧ upd (upd pc (Q (n - 1)) (nI p)) f (nI (n - 1)) c = nI j) ∨ ((∀ j, j < n → Q (tau p n j) ≠ c) ∧ upd (upd pc (Q (n - 1)) (nI p)) f (nI (n - 1)) c = -9) := fun c cc => by
  by_cases h1 : c = f
  · left
    exact ⟨n - 1, by omega, by rw [tau_l, hf, h1], by rw [h1, upd_s]⟩
  · rw [upd_n h1]
    by_cases h2 : c = Q (n - 1)
    · left
      exact ⟨p, hp, by rw [tau_p, h2], by rw [h2, upd_s]⟩
    · rw [upd_n h2]
      rcases h c cc with ⟨j, a1, a2, a3⟩ | ⟨a1, a2⟩
      · left
        refine ⟨j, a1, ?_, a3⟩
        rw [tau_o (fun w => h1 (by rw [← a2, w, hf])) (fun w => h2 (by rw [← a2, w]))]
        exact a2
      · right
        exact ⟨fun j hj => a1 _ (tau_lt hp hj), a2⟩
theorem le10 {n : Nat} (h : n ≤ 10) : nI n ≤ (10 : Int32) := nI_le (b := 10) h (by decide)
theorem gt10 {n : Nat} (h : ¬ n ≤ 10) (hn : n < 2 ^ 31) : ¬ nI n ≤ (10 : Int32) := nI_ge (a := 10) (by omega) hn
theorem lg_nn {w : Int64} {g : Nat} (h : w.toInt = (g : Int)) : (0 : Int32) ≤ lg_cmp w 0 := by
  rw [lg_cmp_ge, Int64.le_iff_toInt_le, h, z64]
  omega

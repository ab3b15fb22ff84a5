/-! the mean steps, by the class -/
theorem qg_nz {α : Type} {y : Int64} (h : ¬ y = 0) (t : Option α) : qgl y t = t := if_neg h
theorem Cfrac {x y : Int64} {u l : Nat} (hx : x.toInt = (u : Int)) (hy : y.toInt = (l : Int)) (hu : u ≤ 1073741824) (hl : l ≤ 1073741824) (h0 : 0 < l) (p q : Int64) : ∃ ab be, fX6_setFraction p q x y = some (ab, be) ∧ ab.toInt = ((u / Nat.gcd u l : Nat) : Int) ∧ be.toInt = ((l / Nat.gcd u l : Nat) : Int) := by
  obtain ⟨w, g1, g2⟩ := Cgcd hx hy hu hl
  have hg := Nat.gcd_pos_of_pos_right u h0
  have hw : ¬ w = 0 := fun v => by have := (i64_nz g2).mp v; omega
  unfold fX6_setFraction
  rw [g1, qob_some, qun1_eq, if_neg (fun v => hw (lg_0.mp v)), qg_nz hw, qg_nz hw]
  exact ⟨_, _, rfl, i64_dv hx g2 hu, i64_dv hy g2 hl⟩
set_option maxRecDepth 20000 in
theorem Cmean {R C : Nat} {rt dn : Nat → Bool} {r d : Int64} (hz : Mz R C rt dn) (hr : bs r rt) (hd : bs d dn) {f o m : Nat} (cf : isC R C f) (co : isC R C o) (hfo : f ≠ o) {x : Int64} (hx : bs x (cnn rt dn f)) {S : Nat → Bool} (hS : ∀ t, t < 36 → S t = ((cnn rt dn f t && !decide (t = f)) && !decide (t = o))) (hm : cn S 36 = m) (hm8 : m ≤ 8) {Q : Nat → Nat} (q1 : ∀ k, k < m → Q k < 36 ∧ S (Q k) = true ∧ cn S (Q k) = k) {QC : Nat → Nat} (hC1 : ∀ k, k < m → QC k = Q k) (hC2 : QC m = f) (hQ : MQz R C rt dn o QC (m + 1)) {u l : Nat} (hu : Dk (LA rt dn QC (m + 1)) m m (m + 1) = (u : Int)) (hl : dt (m + 1) (LA rt dn QC (m + 1)) = (l : Int)) (hu1 : u ≤ 1073741824) (hl1 : l ≤ 1073741824) (hl0 : 0 < l) (c : Int32) (a0 b0 : Int64) (od : Nat → Int32) (T : Nat → Nat → Int64) :
    ∃ ab be c' od' T', fX6_meanSteps c a0 b0 od r d T x (nI (pl f)) (nI (pl o)) = some (c', ab, be, od', T') ∧ ab.toInt = ((u / Nat.gcd u l : Nat) : Int) ∧ be.toInt = ((l / Nat.gcd u l : Nat) : Int) := by
  have f36 := isC_lt hz cf
  have o36 := isC_lt hz co
  have hb : bs ((x &&& (fX1_bit (nI (pl f)) ^^^ (-1))) &&& (fX1_bit (nI (pl o)) ^^^ (-1))) S := bs_congr (bs_andn (bs_andn hx (bs_bit f36)) (bs_bit o36)) (fun t ht => (hS t ht).symm)
  obtain ⟨od', l1, l2⟩ := Clist hb (by omega) c od
  rw [hm] at l1
  obtain ⟨T1, f1, f2⟩ := Cfill hz hr hd (n := m + 1) (by omega) (fun k hk => (hQ.2.1 k hk).1) hQ.2.2.1 (od := upd od' m (nI (pl f))) (fun k hk => by
    by_cases e : k = m
    · rw [e, upd_s, hC2]
    · obtain ⟨a1, a2, a3⟩ := q1 k (by omega)
      rw [upd_n e, hC1 k (by omega)]
      have := l2 (Q k) a1 a2
      rw [a3] at this
      exact this) T
  have hE := HE_n1 (LA_GQ hz hQ) (LA_col rt dn QC (m + 1)) (by omega)
  obtain ⟨T2, e1, e2⟩ := Celim hE (by omega) (by omega) (by omega) (Nat.le_refl _) (fun i j hi hj => f2 i j hi (by omega))
  have v1 := e2 (m + 1) (by omega) (by omega)
  have v2 := e2 m (by omega) (by omega)
  rw [show m + 1 - 1 = m from rfl] at v1 v2
  rw [hu] at v1
  rw [Dkk, hl] at v2
  obtain ⟨ab, be, g1, g2, g3⟩ := Cfrac v1 v2 hu1 hl1 hl0 0 1
  have s1 : (nI (m + 1) - 1 : Int32) = nI m := nI_sub (a := m + 1) (b := 1) (by omega)
  have hne : ¬ nI (pl f) = nI (pl o) := nI_ne (by have := pl_lt f36; omega) (by have := pl_lt o36; omega) (fun w => hfo (by unfold pl at w; omega))
  unfold fX6_meanSteps fX6_add
  rw [if_neg hne, l1, qob_some, qun2_eq, if_neg (show ¬ (16 : Int32) ≤ nI m from nI_ge (b := 16) (by omega) (by decide)), qgd_nI (show m < 16 by omega) (by decide), qob_some, qun2_eq, nI_1, nI_clamp (show m < 2 ^ 31 by omega), f1, qob_some, qun1_eq, e1, qob_some, qun1_eq, if_neg (show ¬ nI (m + 1) < 1 from nI_nlt (b := 1) (by omega) (by omega)), if_neg (show ¬ (16 : Int32) < nI (m + 1) from nI_nlt (a := 16) (by omega) (by decide)), s1, qgd_nI (show m < 16 by omega) (by decide), qgd_nI (show m + 1 < 17 by omega) (by decide), qgd_nI (show m < 16 by omega) (by decide), qgd_nI (show m < 17 by omega) (by decide), nI_clamp (show m < 2 ^ 31 by omega), nI_clamp (show m + 1 < 2 ^ 31 by omega), g1, qob_some, qun2_eq]
  exact ⟨ab, be, _, _, _, rfl, g2, g3⟩
/-! the two orders -/
def tau (p n k : Nat) : Nat := if k = p then n - 1 else if k = n - 1 then p else k
theorem tau_lt {p n k : Nat} (hp : p < n) (hk : k < n) : tau p n k < n := by
  unfold tau
  by_cases h1 : k = p
  · rw [if_pos h1]; omega
  · rw [if_neg h1]
    by_cases h2 : k = n - 1
    · rw [if_pos h2]; exact hp
    · rw [if_neg h2]; exact hk
theorem tau_tau (p n k : Nat) : tau p n (tau p n k) = k := by
  unfold tau
  by_cases h1 : k = p
  · rw [if_pos h1]
    by_cases h2 : n - 1 = p
    · rw [if_pos h2]; omega
    · rw [if_neg h2, if_pos rfl]; exact h1.symm
  · rw [if_neg h1]
    by_cases h2 : k = n - 1
    · rw [if_pos h2, if_pos rfl]; exact h2.symm
    · rw [if_neg h2, if_neg h1, if_neg h2]
theorem MQ_tau {R C : Nat} {rt dn : Nat → Bool} {z n p : Nat} {Q : Nat → Nat} (hp : p < n) (h : MQz R C rt dn z Q n) : MQz R C rt dn z (fun k => Q (tau p n k)) n := by
  obtain ⟨cz, h1, h2, h3⟩ := h
  refine ⟨cz, fun k hk => h1 _ (tau_lt hp hk), fun k l hk hl e => ?_, fun c hc q1 q2 => ?_⟩
  · have := h2 _ _ (tau_lt hp hk) (tau_lt hp hl) e
    rw [← tau_tau p n k, this, tau_tau]
  · obtain ⟨k, hk, ek⟩ := h3 c hc q1 q2
    exact ⟨tau p n k, tau_lt hp hk, by dsimp only; rw [tau_tau]; exact ek⟩

/-- all that the two sides know of a part of at most ten cells and its two orders -/
theorem lost_two {R C : Nat} {rt dn : Nat → Bool} {r d : Int64} {mr md ms : Nat → Int32} (hz : Mz R C rt dn) (hr : bs r rt) (hd : bs d dn) (hm : ∀ i, i < 36 → mr i = b2i (rt i) ∧ md i = b2i (dn i)) (hsh : ∀ i, i < 36 → ms i = 0) {f o : Nat} (cf : isC R C f) (co : isC R C o) (hfo : f ≠ o) (h : cnn rt dn f o = true) (hN : cn (cnn rt dn f) 36 ≤ 10) {x : Int64} (hx : bs x (cnn rt dn f)) (c : Int32) (a0 b0 : Int64) (od : Nat → Int32) (T : Nat → Nat → Int64) (di qu pa mb pc : Nat → Int32) (M : Nat → Int64) :
    ∃ (u1 l1 u2 l2 n p q : Nat), u1 * l2 = u2 * l1 ∧ 0 < l1 ∧ 0 < l2 ∧ u2 ≤ 1073741824 ∧ l2 ≤ 1073741824 ∧ 0 < n ∧ n ≤ 9 ∧ p < n ∧ q < 36 ∧
      (∃ ab be c' od' T', fX6_meanSteps c a0 b0 od r d T x (nI (pl f)) (nI (pl o)) = some (c', ab, be, od', T') ∧ ab.toInt = ((u1 / Nat.gcd u1 l1 : Nat) : Int) ∧ be.toInt = ((l1 / Nat.gcd u1 l1 : Nat) : Int)) ∧
      ∃ di' qu' pa' mb' pc' M1 M2, fX10_layMembers (nI R) (nI C) mr md di qu ms pa mb pc (nI f) (nI o) = some (nI n, di', qu', pa', mb', pc') ∧ pc' f = nI p ∧ mb' (n - 1) = nI q ∧ fX10_layMatrix (nI R) (nI C) mr md M (upd (upd mb' (n - 1) (nI f)) p (nI q)) (upd (upd pc' q (nI p)) f (nI (n - 1))) (nI n) = some M1 ∧ fX10_reduce M1 (nI n) = some M2 ∧ (M2 (16 * (n - 1) + n)).toInt = (u2 : Int) ∧ (M2 (16 * (n - 1) + (n - 1))).toInt = (l2 : Int) := by
  have f36 := isC_lt hz cf
  have o36 := isC_lt hz co
  have r1 := cn_rm o36 h
  have sf : upB (cnn rt dn f) o false f = true := by rw [up_f, cnn_self, decide_eq_false hfo]; rfl
  have r2 := cn_rm f36 sf
  have hS1 : ∀ t, t < 36 → upB (cnn rt dn f) o false t = (cnn rt dn o t && !decide (t = o)) := fun t ht => by rw [up_f, cnn_sw hz cf co h ht]
  have hS2 : ∀ t, t < 36 → upB (upB (cnn rt dn f) o false) f false t = ((cnn rt dn f t && !decide (t = f)) && !decide (t = o)) := fun t ht => by rw [up_f, up_f, Bool.and_right_comm]
  obtain ⟨di', qu', pa', mb', pc', m2, m3, m4, -⟩ := Mmem (p2 := nI o) hz hm hsh cf (S := upB (cnn rt dn f) o false) (fun t ht => by
    rw [up_f]
    by_cases e : t = o
    · rw [decide_eq_true e, decide_eq_true (show nI t = nI o by rw [e])]
    · rw [decide_eq_false e, decide_eq_false (nI_ne (by omega) (by omega) e)]) di qu pa mb pc
  obtain ⟨Q, k1, k2, k3⟩ := Qex (upB (cnn rt dn f) o false) 36
  obtain ⟨Q2, j1, j2, j3⟩ := Qex (upB (upB (cnn rt dn f) o false) f false) 36
  have hQ := MQ_of hz co hS1 k1 k2 k3
  obtain ⟨pl1, pf⟩ := k3 f f36 sf
  have hpc := pc_of hz k1 k3 m4
  have pcf : pc' f = nI (cn (upB (cnn rt dn f) o false) f) := by rw [m4 f f36, sf, if_pos rfl]
  have hmb : ∀ k, k < cn (upB (cnn rt dn f) o false) 36 → mb' k = nI (Q k) := fun k hk => by
    obtain ⟨a1, a2, a3⟩ := k1 k hk
    have := m3 (Q k) a1 a2
    rw [a3] at this
    exact this
  have hq36 : ∀ k, k < cn (upB (cnn rt dn f) o false) 36 → Q k < 36 := fun k hk => (k1 k hk).1
  generalize hm' : cn (upB (upB (cnn rt dn f) o false) f false) 36 = m at *
  generalize cn (upB (cnn rt dn f) o false) f = p at *
  generalize cn (upB (cnn rt dn f) o false) 36 = n at *
  subst r2
  have hR := MQ_tau pl1 hQ
  have hC := MQ_C hz cf co hfo h hS2 hm' j1 j2 j3 (QC := fun k => if k = m then f else Q2 k) (fun k hk => if_neg (by omega)) (if_pos rfl)
  have n9 : m + 1 ≤ 9 := by omega
  obtain ⟨u1, l1, x1, x2, x3, x4, x5⟩ := ul_ex (LA_GQ hz hC) (LA_col _ _ _ _) n9 (by omega)
  obtain ⟨u2, l2, y1, y2, y3, y4, y5⟩ := ul_ex (LA_GQ hz hR) (LA_col _ _ _ _) n9 (by omega)
  have hc := Cmean hz hr hd cf co hfo hx hS2 hm' (by omega) j1 (QC := fun k => if k = m then f else Q2 k) (fun k hk => if_neg (by omega)) (if_pos rfl) hC x1 x2 x3 x4 x5 c a0 b0 od T
  have hE := HE_n1 (LA_GQ hz hR) (LA_col _ _ _ _) n9
  have hfr := fr_two hz (Nat.succ_pos m) hC hR (HE_n1 (LA_GQ hz hC) (LA_col _ _ _ _) n9) hE (by rw [x2]; omega) (by
    show (if m = m then f else Q2 m) = Q (tau p (m + 1) m)
    rw [if_pos rfl, show tau p (m + 1) m = p from tau_l p (m + 1), pf])
  rw [x1, x2, y1, y2] at hfr
  obtain ⟨M1, f1, f2⟩ := MlayM hz hm (by omega) (fun k hk => (hR.2.1 k hk).1) hR.2.2.1 (swap_mb hmb pf) (swap_pc pl1 pf hpc) M
  obtain ⟨M2, g1, g2⟩ := Melim hE (Nat.succ_pos m) (by omega) (Nat.le_succ _) (Nat.le_refl _) (fun i j hi hj => f2 i j hi (by omega))
  have v1 := g2 (m + 1) (by omega) (by omega)
  have v2 := g2 (m + 1 - 1) (Nat.le_refl _) (by omega)
  rw [y1] at v1
  rw [Dkk, show m + 1 - 1 + 1 = m + 1 from rfl, y2] at v2
  exact ⟨u1, l1, u2, l2, m + 1, p, Q (m + 1 - 1), by exact_mod_cast hfr, x5, y5, y3, y4, Nat.succ_pos m, n9, pl1, hq36 _ (by omega), hc, di', qu', pa', mb', pc', M1, M2, m2, pcf, hmb _ (by omega), f1, g1, v1, v2⟩

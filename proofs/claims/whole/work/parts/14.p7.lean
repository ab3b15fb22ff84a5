/-! trees -/
theorem up_f (S : Nat → Bool) (z t : Nat) : upB S z false t = (S t && !decide (t = z)) := by
  unfold upB
  by_cases e : t = z
  · rw [if_pos e, decide_eq_true e, Bool.not_true, Bool.and_false]
  · rw [if_neg e, decide_eq_false e, Bool.not_false, Bool.and_true]
/-- the members but for z, listed by Q -/
theorem MQ_of {R C : Nat} {rt dn : Nat → Bool} (hz : Mz R C rt dn) {z : Nat} (cz : isC R C z) {S : Nat → Bool} (hS : ∀ t, t < 36 → S t = (cnn rt dn z t && !decide (t = z))) {Q : Nat → Nat} (q1 : ∀ k, k < cn S 36 → Q k < 36 ∧ S (Q k) = true ∧ cn S (Q k) = k) (q2 : ∀ k l, k < cn S 36 → l < cn S 36 → Q k = Q l → k = l) (q3 : ∀ c, c < 36 → S c = true → cn S c < cn S 36 ∧ Q (cn S c) = c) : MQz R C rt dn z Q (cn S 36) := by
  refine ⟨cz, fun k hk => ?_, q2, fun c hc h1 h2 => ⟨cn S c, q3 c hc (by rw [hS c hc, h1, decide_eq_false h2]; rfl)⟩⟩
  obtain ⟨a1, a2, -⟩ := q1 k hk
  rw [hS _ a1, Bool.and_eq_true, Bool.not_eq_true', decide_eq_false_iff_not] at a2
  exact ⟨cnn_isC hz cz a1 a2.1, a2.1, a2.2⟩
theorem pc_of {R C : Nat} {rt dn : Nat → Bool} (hz : Mz R C rt dn) {S : Nat → Bool} {Q : Nat → Nat} (q1 : ∀ k, k < cn S 36 → Q k < 36 ∧ S (Q k) = true ∧ cn S (Q k) = k) (q3 : ∀ c, c < 36 → S c = true → cn S c < cn S 36 ∧ Q (cn S c) = c) {pc : Nat → Int32} (hpc : ∀ t, t < 36 → pc t = if S t then nI (cn S t) else -9) : ∀ c, isC R C c → (∃ j, j < cn S 36 ∧ Q j = c ∧ pc c = nI j) ∨ ((∀ j, j < cn S 36 → Q j ≠ c) ∧ pc c = -9) := fun c cc => by
  have hc := isC_lt hz cc
  cases h : S c with
  | true => exact Or.inl ⟨cn S c, (q3 c hc h).1, (q3 c hc h).2, by rw [hpc c hc, h, if_pos rfl]⟩
  | false => exact Or.inr ⟨fun j hj e => Bool.false_ne_true (by rw [← h, ← e, (q1 j hj).2.1]), by rw [hpc c hc, h, if_neg Bool.false_ne_true]⟩
theorem Celim0 (T : Nat → Nat → Int64) : fX6_eliminate (nI 0) T = some T := by
  rw [le_X6_eliminate, show qFU = 4999 + 1 from rfl, qlp_succ, ls_X6_eliminate_1, if_pos (by decide)]
  rfl
theorem i16b {n : Nat} (hp : 0 < n) : (16 * (nI n - 1) + nI n : Int32) = nI (16 * (n - 1) + n) := by rw [show (nI n - 1 : Int32) = nI (n - 1) from nI_sub (b := 1) hp, i16]
theorem i16m {n : Nat} (hp : 0 < n) : ((16 * (nI n - 1) + nI n) - 1 : Int32) = nI (16 * (n - 1) + (n - 1)) := by
  rw [i16b hp, show 16 * (n - 1) + (n - 1) = 16 * (n - 1) + n - 1 by omega]
  exact nI_sub (b := 1) (by omega)
theorem le16 {n : Nat} (h : n ≤ 16) : nI n ≤ (16 : Int32) := nI_le (b := 16) h (by decide)
theorem gt16 {n : Nat} (h : ¬ n ≤ 16) (hn : n < 2 ^ 31) : ¬ nI n ≤ (16 : Int32) := nI_ge (a := 16) (by omega) hn
set_option maxRecDepth 20000 in
theorem Ctrees {R C : Nat} {rt dn : Nat → Bool} {r d : Int64} (hz : Mz R C rt dn) (hr : bs r rt) (hd : bs d dn) {z : Nat} (cz : isC R C z) {x : Int64} (hx : bs x (cnn rt dn z)) {S : Nat → Bool} (hS : ∀ t, t < 36 → S t = (cnn rt dn z t && !decide (t = z))) (hn : cn S 36 ≤ 15) {Q : Nat → Nat} (q1 : ∀ k, k < cn S 36 → Q k < 36 ∧ S (Q k) = true ∧ cn S (Q k) = k) (hQ : MQz R C rt dn z Q (cn S 36)) (c : Int32) (od : Nat → Int32) (T : Nat → Nat → Int64) :
    ∃ v c' od' T', fX6_treesOf c od r d T x (nI (pl z)) = some (v, c', od', T') ∧ (cn S 36 = 0 → v = 1) ∧ (0 < cn S 36 → v.toInt = dt (cn S 36) (LA rt dn Q (cn S 36))) := by
  have hb : bs (x &&& (fX1_bit (nI (pl z)) ^^^ (-1))) S := bs_congr (bs_andn hx (bs_bit (isC_lt hz cz))) (fun t ht => (hS t ht).symm)
  obtain ⟨od', l1, l2⟩ := Clist hb (by omega) c od
  obtain ⟨T1, f1, f2⟩ := Cfill hz hr hd hn (fun k hk => (hQ.2.1 k hk).1) hQ.2.2.1 (od := od') (fun k hk => by
    obtain ⟨a1, a2, a3⟩ := q1 k hk
    have := l2 (Q k) a1 a2
    rw [a3] at this
    exact this) T
  unfold fX6_treesOf
  rw [l1, qob_some, qun2_eq, f1, qob_some, qun1_eq]
  by_cases h0 : cn S 36 = 0
  · rw [h0, Celim0, qob_some, qun1_eq, if_pos (by decide)]
    exact ⟨_, _, _, _, rfl, fun _ => rfl, fun h => absurd h (Nat.lt_irrefl 0)⟩
  · have hp : 0 < cn S 36 := by omega
    obtain ⟨T2, e1, e2⟩ := Celim (HE_n (LA_GQ hz hQ) hn) hp hn (Nat.le_refl _) (by omega) (fun i j hi hj => f2 i j hi (by omega))
    have s1 : (nI (cn S 36) - 1 : Int32) = nI (cn S 36 - 1) := nI_sub (b := 1) hp
    rw [e1, qob_some, qun1_eq, if_neg (show ¬ nI (cn S 36) < 1 from nI_nlt (b := 1) hp (by omega)), if_pos (le16 (by omega)), s1, qgd_nI (show cn S 36 - 1 < 16 by omega) (by decide), qgd_nI (show cn S 36 - 1 < 17 by omega) (by decide), nI_clamp (by omega)]
    refine ⟨_, _, _, _, rfl, fun h => absurd h h0, fun _ => ?_⟩
    rw [e2 _ (Nat.le_refl _) (by omega), Dkk, show cn S 36 - 1 + 1 = cn S 36 by omega]
set_option maxRecDepth 20000 in
theorem st_trees {sc_length : Int32} {sc_bytes : Nat → Int32} {g_rows : Int32} {g_columns : Int32} {g_a : Int32} {g_b : Int32} {g_cells : Int64} {g_right : Int64} {g_down : Int64} {m_textSize : Int32} {m_text : Nat → Int32} {m_rows : Int32} {m_columns : Int32} {m_a : Int32} {m_b : Int32} {m_right : Nat → Int32} {m_down : Nat → Int32} {m_shut : Nat → Int32} {m_keptFigures : Nat → Int32} {m_keptNumbers : Nat → Int32} {m_isKept : Nat → Int32} {su_count : Int32} {su_order : Nat → Int32} {su_table : Nat → Nat → Int64} {m_thrown : Int32} {m_dist : Nat → Int32} {m_queue : Nat → Int32} {m_parts : Nat → Int32} {m_matrix : Nat → Int64} {m_member : Nat → Int32} {m_place : Nat → Int32} {sl_f : Nat → Option Nat} {k0 k1 : Option (Nat × KG)} {p1 : Int32} (h : Rel sc_length sc_bytes (g_rows, g_columns, g_a, g_b, g_cells, g_right, g_down) sl_f k0 k1 m_textSize m_text m_rows m_columns m_a m_b m_right m_down m_shut m_keptFigures m_keptNumbers m_isKept) : ∃ (r : Int64) (su_count' : Int32) (su_order' : Nat → Int32) (su_table' : Nat → Nat → Int64) (m_thrown' : Int32) (m_dist' : Nat → Int32) (m_queue' : Nat → Int32) (m_parts' : Nat → Int32) (m_matrix' : Nat → Int64) (m_member' : Nat → Int32) (m_place' : Nat → Int32), fX9_trees g_rows g_columns g_cells g_right g_down su_count su_order su_table p1 = some (r, su_count', su_order', su_table') ∧ fX10_trees m_thrown m_rows m_columns m_right m_down m_dist m_queue m_shut m_parts m_matrix m_member m_place p1 = some (r, m_thrown', m_dist', m_queue', m_parts', m_matrix', m_member', m_place') ∧ Rel sc_length sc_bytes (g_rows, g_columns, g_a, g_b, g_cells, g_right, g_down) sl_f k0 k1 m_textSize m_text m_rows m_columns m_a m_b m_right m_down m_shut m_keptFigures m_keptNumbers m_isKept := by
  obtain ⟨R, C, rt, dn, a, b, n, tx, z0, z1, hz, ha, hb, rfl, rfl, rfl, rfl, rfl, hr, hd, rfl, rfl, rfl, rfl, hm, ht, hsh, h0, h1, e0, e1⟩ := id h.un
  unfold fX9_trees fX10_trees
  rcases cell_two hz p1 with ⟨q1, q2⟩ | ⟨z, hzz, cz, q1, q3, n1, n2⟩
  · rw [if_pos q1, if_pos q2]
    exact ⟨_, _, _, _, _, _, _, _, _, _, _, rfl, rfl, h⟩
  · rw [if_neg n1, if_neg n2, q1, q3]
    obtain ⟨D, hL⟩ := LF_ex hz cz
    obtain ⟨x, c1, c2⟩ := Cpart hz hr hd cz hL
    have c3 : bs x (cnn rt dn z) := bs_congr c2 (fun t ht => (cnn_iff hz hL ht).symm)
    obtain ⟨di1, qu1, pa1, mb1, pc1, m1, -, -, -⟩ := Mmem (p2 := -9) hz hm hsh cz (S := cnn rt dn z) (fun t ht => by rw [decide_eq_false (nI_m9 (by omega)), Bool.not_false, Bool.and_true]) m_dist m_queue m_parts m_member m_place
    have hN := cn_rm hzz (cnn_self (rt := rt) (dn := dn) z)
    have hle := cn_le (cnn rt dn z) 36
    rw [c1, qob_some, qun1_eq, bs_count c3, m1, qob_some, qun6_eq]
    by_cases w : cn (cnn rt dn z) 36 ≤ 16
    · rw [if_pos (le16 w), if_pos (le16 w)]
      have hS : ∀ t, t < 36 → upB (cnn rt dn z) z false t = (cnn rt dn z t && !decide (t = z)) := fun t _ => up_f _ z t
      obtain ⟨Q, k1, k2, k3⟩ := Qex (upB (cnn rt dn z) z false) 36
      have hQ := MQ_of hz cz hS k1 k2 k3
      obtain ⟨v, c', od', T', t1, t2, t3⟩ := Ctrees hz hr hd cz c3 hS (by omega) k1 hQ su_count su_order su_table
      rw [t1, qob_some, qun4_eq]
      by_cases g : cn (cnn rt dn z) 36 = 1
      · rw [if_pos (show nI (cn (cnn rt dn z) 36) = 1 by rw [g]; rfl), t2 (by omega)]
        exact ⟨_, _, _, _, _, _, _, _, _, _, _, rfl, rfl, h⟩
      · rw [if_neg (show ¬ nI (cn (cnn rt dn z) 36) = 1 from nI_ne (b := 1) (by omega) (by decide) g)]
        obtain ⟨di2, qu2, pa2, mb2, pc2, m2, m3, m4, -⟩ := Mmem (p2 := nI z) hz hm hsh cz (S := upB (cnn rt dn z) z false) (fun t ht => by
          rw [up_f]
          by_cases e : t = z
          · rw [decide_eq_true e, decide_eq_true (show nI t = nI z by rw [e])]
          · rw [decide_eq_false e, decide_eq_false (nI_ne (by omega) (by omega) e)]) di1 qu1 pa1 mb1 pc1
        have hn : cn (upB (cnn rt dn z) z false) 36 ≤ 15 := by omega
        have hp : 0 < cn (upB (cnn rt dn z) z false) 36 := by omega
        obtain ⟨M1, f1, f2⟩ := MlayM hz hm hn (fun k hk => (hQ.2.1 k hk).1) hQ.2.2.1 (mb := mb2) (pc := pc2) (fun k hk => by
          obtain ⟨a1, a2, a3⟩ := k1 k hk
          have := m3 (Q k) a1 a2
          rw [a3] at this
          exact this) (pc_of hz k1 k3 m4) m_matrix
        obtain ⟨M2, g1, g2⟩ := Melim (HE_n (LA_GQ hz hQ) hn) hp hn (Nat.le_refl _) (by omega) (fun i j hi hj => f2 i j hi (by omega))
        rw [m2, qob_some, qun6_eq, f1, qob_some, qun1_eq, g1, qob_some, qun1_eq]
        rw [i16m hp, qgd_nI (show 16 * (cn (upB (cnn rt dn z) z false) 36 - 1) + (cn (upB (cnn rt dn z) z false) 36 - 1) < 256 by omega) (by decide), nI_clamp (show 16 * (cn (upB (cnn rt dn z) z false) 36 - 1) + (cn (upB (cnn rt dn z) z false) 36 - 1) < 2 ^ 31 by omega)]
        have ev : M2 (16 * (cn (upB (cnn rt dn z) z false) 36 - 1) + (cn (upB (cnn rt dn z) z false) 36 - 1)) = v := Int64.toInt_inj.mp (by
          rw [g2 _ (Nat.le_refl _) (by omega), Dkk, show cn (upB (cnn rt dn z) z false) 36 - 1 + 1 = cn (upB (cnn rt dn z) z false) 36 by omega, t3 hp])
        rw [ev]
        exact ⟨_, _, _, _, _, _, _, _, _, _, _, rfl, rfl, h⟩
    · rw [if_neg (gt16 w (by omega)), if_neg (gt16 w (by omega))]
      exact ⟨_, _, _, _, _, _, _, _, _, _, _, rfl, rfl, h⟩

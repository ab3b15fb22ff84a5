/-! counted neighbours; dead ends filled -/
theorem mv_inj {R C i s k : Nat} (hs : s < 4) (hk : k < 4) (h1 : rimB R C i s = true) (h2 : rimB R C i k = true) (e : mvN i s = mvN i k) : s = k := by
  unfold mvN at e
  unfold rimB at h1 h2
  rcases (show s = 0 ∨ s = 1 ∨ s = 2 ∨ s = 3 by omega) with rfl | rfl | rfl | rfl
  all_goals rcases (show k = 0 ∨ k = 1 ∨ k = 2 ∨ k = 3 by omega) with rfl | rfl | rfl | rfl
  all_goals first | rfl | (simp at e h1 h2; omega) | (simp at e h1 h2)
theorem cn_pl {x : Int64} {S : Nat → Bool} (hx : bs x S) : ∀ k, k ≤ 48 → cn (tb x) k = cn S (ck k)
  | 0, _ => rfl
  | k + 1, hk => by
    show cn (tb x) k + (tb x k).toNat = _
    rw [cn_pl hx k (by omega)]
    by_cases q : k % 8 < 6
    · have e : k = pl (ck k) := by unfold pl ck; omega
      have e2 : ck (k + 1) = ck k + 1 := by unfold ck; omega
      have e3 : tb x k = S (ck k) := by
        have := bs_pl hx (i := ck k) (by unfold ck; omega)
        rw [← e] at this
        exact this
      rw [e2, e3]
      rfl
    · rw [ck_no q, bs_not hx (fun w => q w.1)]
      rfl
theorem bs_cn {x : Int64} {S : Nat → Bool} (hx : bs x S) : cn (tb x) 64 = cn S 36 := by
  rw [show (64 : Nat) = 48 + 16 from rfl, cn_app, cn_pl hx 48 (Nat.le_refl _), cn_0 16 (fun i hi => bs_not hx (fun w => by omega))]
  rfl
theorem bs_count {x : Int64} {S : Nat → Bool} (hx : bs x S) : fJ13_bitCount_95d88 x = nI (cn S 36) := by rw [bitCount_ok, bs_cn hx]
def nbS (rt dn O : Nat → Bool) (j : Nat) : Nat → (Nat → Bool)
  | 0 => fun _ => false
  | s + 1 => if opS rt dn j s && O (mvN j s) then upB (nbS rt dn O j s) (mvN j s) true else nbS rt dn O j s
def nbC (rt dn O : Nat → Bool) (j : Nat) : Nat → Nat
  | 0 => 0
  | s + 1 => nbC rt dn O j s + (opS rt dn j s && O (mvN j s)).toNat
theorem nbS_iff {rt dn O : Nat → Bool} {j t : Nat} : ∀ k, nbS rt dn O j k t = true ↔ ∃ s, s < k ∧ opS rt dn j s = true ∧ O (mvN j s) = true ∧ t = mvN j s
  | 0 => ⟨fun h => absurd h Bool.false_ne_true, fun ⟨s, hs, _⟩ => absurd hs (Nat.not_lt_zero s)⟩
  | k + 1 => by
    have ih := nbS_iff (rt := rt) (dn := dn) (O := O) (j := j) (t := t) k
    show (if opS rt dn j k && O (mvN j k) then upB (nbS rt dn O j k) (mvN j k) true else nbS rt dn O j k) t = true ↔ _
    by_cases q : (opS rt dn j k && O (mvN j k)) = true
    · rw [if_pos q]
      rw [Bool.and_eq_true] at q
      unfold upB
      by_cases e : t = mvN j k
      · rw [if_pos e]
        exact ⟨fun _ => ⟨k, by omega, q.1, q.2, e⟩, fun _ => rfl⟩
      · rw [if_neg e, ih]
        constructor
        · rintro ⟨s, hs, w⟩
          exact ⟨s, by omega, w⟩
        · rintro ⟨s, hs, w1, w2, w3⟩
          by_cases e2 : s = k
          · subst e2; exact absurd w3 e
          · exact ⟨s, by omega, w1, w2, w3⟩
    · rw [if_neg q, ih]
      constructor
      · rintro ⟨s, hs, w⟩
        exact ⟨s, by omega, w⟩
      · rintro ⟨s, hs, w1, w2, w3⟩
        by_cases e2 : s = k
        · subst e2; rw [w1, w2] at q; exact absurd rfl q
        · exact ⟨s, by omega, w1, w2, w3⟩
theorem nb_cn {R C : Nat} {rt dn O : Nat → Bool} (hz : Mz R C rt dn) {j : Nat} (hj : isC R C j) : ∀ k, k ≤ 4 → cn (nbS rt dn O j k) 36 = nbC rt dn O j k
  | 0, _ => cn_0 36 (fun _ _ => rfl)
  | k + 1, hk => by
    have ih := nb_cn (O := O) hz hj k (by omega)
    show cn (if opS rt dn j k && O (mvN j k) then upB (nbS rt dn O j k) (mvN j k) true else nbS rt dn O j k) 36 = nbC rt dn O j k + (opS rt dn j k && O (mvN j k)).toNat
    cases q : (opS rt dn j k && O (mvN j k)) with
    | true =>
      rw [Bool.and_eq_true] at q
      rw [if_pos rfl, cn_up _ 36 (op_isC hz hj (by omega) q.1).2, ih]
      · rfl
      · cases w : nbS rt dn O j k (mvN j k) with
        | false => rfl
        | true =>
          obtain ⟨s, hs, w1, w2, w3⟩ := (nbS_iff k).mp w
          have := mv_inj (by omega) (by omega) (op_rim hz (by omega) q.1) (op_rim hz (by omega) w1) w3
          omega
    | false =>
      rw [if_neg Bool.false_ne_true, ih]
      rfl
theorem nb_near {R C : Nat} {rt dn O : Nat → Bool} (hz : Mz R C rt dn) {j t : Nat} (hj : j < 36) : ((nearS rt dn (fun i => decide (i = j)) t && O t) && !decide (t = j)) = nbS rt dn O j 4 t := by
  rw [Bool.eq_iff_iff, nbS_iff, Bool.and_eq_true, Bool.and_eq_true, near_iff hz]
  simp only [Bool.not_eq_true', decide_eq_true_eq, decide_eq_false_iff_not]
  constructor
  · rintro ⟨⟨q | ⟨s, hs, ho, q⟩, h2⟩, h3⟩
    · exact absurd q h3
    · obtain ⟨a1, a2, a3⟩ := op_sym hz hs ho
      rw [q] at a2 a3
      exact ⟨oppN s, a1, a2, by rw [a3]; exact h2, a3.symm⟩
  · rintro ⟨s, hs, ho, h2, rfl⟩
    obtain ⟨a1, a2, a3⟩ := op_sym hz hs ho
    exact ⟨⟨Or.inr ⟨oppN s, a1, a2, a3⟩, h2⟩, mv_ne hs (op_rim hz hs ho)⟩
theorem nbC_le (rt dn O : Nat → Bool) (j : Nat) : ∀ k, nbC rt dn O j k ≤ k
  | 0 => Nat.le_refl 0
  | k + 1 => by
    have := nbC_le rt dn O j k
    show nbC rt dn O j k + (opS rt dn j k && O (mvN j k)).toNat ≤ k + 1
    have h : (opS rt dn j k && O (mvN j k)).toNat ≤ 1 := by cases (opS rt dn j k && O (mvN j k)) <;> decide
    omega
theorem Cdead {R C : Nat} {rt dn O : Nat → Bool} {r d x : Int64} (hz : Mz R C rt dn) (hr : bs r rt) (hd : bs d dn) (hx : bs x O) {j : Nat} (cj : isC R C j) : fX7_isDeadEnd r d (nI (pl j)) x = b2i (decide (nbC rt dn O j 4 < 2)) := by
  have hj := isC_lt hz cj
  have hb : bs (((fX1_near r d (fX1_bit (nI (pl j)))) &&& x) &&& ((fX1_bit (nI (pl j))) ^^^ (-1))) (nbS rt dn O j 4) := bs_congr (bs_andn (bs_and (bs_near hz hr hd (bs_bit hj)) hx) (bs_bit hj)) (fun t _ => nb_near hz hj)
  have hle := nbC_le rt dn O j 4
  unfold fX7_isDeadEnd
  simp only [qbd]
  rw [bs_count hb, nb_cn hz cj 4 (Nat.le_refl 4)]
  by_cases q : nbC rt dn O j 4 < 2
  · rw [decide_eq_true q, if_neg (show ¬ (1 : Int32) < nI (nbC rt dn O j 4) from nI_nlt (a := 1) (by omega) (by decide))]
    rfl
  · rw [decide_eq_false q, if_pos (show (1 : Int32) < nI (nbC rt dn O j 4) from nI_lt (a := 1) (by omega) (by omega))]
    rfl
/-- the reference's shut cells are those of the maze that are not in O -/
def shO (R C : Nat) (O : Nat → Bool) : Nat → Bool := fun i => cellS R C i && !O i
set_option maxRecDepth 20000 in
theorem Mstill {R C : Nat} {rt dn O : Nat → Bool} {mr md ms : Nat → Int32} (hz : Mz R C rt dn) (hm : ∀ i, i < 36 → mr i = b2i (rt i) ∧ md i = b2i (dn i)) (hs : ∀ i, i < 36 → ms i = b2i (shO R C O i)) {j : Nat} (cj : isC R C j) : fX10_still (nI R) (nI C) mr md ms (nI j) = some (nI (nbC rt dn O j 4)) := by
  have hRC := hz.1
  have hCC := hz.2.1
  have hj := isC_lt hz cj
  have h1 : qlp qFU (lb_X10_still_1 (nI R) (nI C) mr md ms (nI j)) ((0 : Int32), (0 : Int32)) = some (nI (nbC rt dn O j 4)) := by
    refine qlp_seq (f := lb_X10_still_1 (nI R) (nI C) mr md ms (nI j)) (fun s => (nI (nbC rt dn O j s), nI s)) 4 _ (fun s hs4 => ?_) ?_ qFU (qFU_gt (by decide))
    · rw [ls_X10_still_1, if_neg (n4 hs4), Mopen hz hm cj hs4, qob_some, qun1_eq, Mbeside R (by omega) C (by omega) j hj s hs4 cj]
      have en : nbC rt dn O j (s + 1) = nbC rt dn O j s + (opS rt dn j s && O (mvN j s)).toNat := rfl
      rw [en, ← nI_add, ← nI_1, ← b2i_nI]
      cases ho : opS rt dn j s with
      | false => rw [if_pos b0f, qob_some]; rfl
      | true =>
        have hmv := op_isC hz cj hs4 ho
        rw [if_neg b0t, op_rim hz hs4 ho, if_pos rfl, qgd_nI hmv.2 (by decide), nI_clamp (by omega), hs _ hmv.2]
        unfold shO
        rw [cellS_iff.mpr hmv.1]
        cases O (mvN j s)
        · rw [if_neg (by decide), qob_some]; rfl
        · rw [if_pos (by decide), qob_some]; rfl
    · rw [ls_X10_still_1, if_pos (y4 (Nat.le_refl 4) (by decide))]
  rw [le_X10_still, h1, qob_some]
/-! one pass -/
def ps1 (rt dn : Nat → Bool) (a b : Nat) (O : Nat → Bool) (j : Nat) : Nat → Bool := if ((decide (j ≠ a) && decide (j ≠ b)) && O j) && decide (nbC rt dn O j 4 < 2) then upB O j false else O
def psN (rt dn : Nat → Bool) (a b : Nat) (O : Nat → Bool) : Nat → (Nat → Bool)
  | 0 => O
  | k + 1 => ps1 rt dn a b (psN rt dn a b O k) k
theorem ps1_sub {rt dn : Nat → Bool} {a b : Nat} {O : Nat → Bool} {j i : Nat} (h : ps1 rt dn a b O j i = true) : O i = true := by
  unfold ps1 at h
  split at h
  · unfold upB at h
    split at h
    · cases h
    · exact h
  · exact h
theorem psN_sub {rt dn : Nat → Bool} {a b : Nat} {O : Nat → Bool} {i : Nat} : ∀ k, psN rt dn a b O k i = true → O i = true
  | 0, h => h
  | k + 1, h => psN_sub k (ps1_sub h)
theorem ps1_a {rt dn : Nat → Bool} {a b : Nat} {O : Nat → Bool} {j : Nat} (h : O a = true) : ps1 rt dn a b O j a = true := by
  unfold ps1
  by_cases e : j = a
  · subst e
    rw [if_neg (by simp)]
    exact h
  · split
    · unfold upB
      rw [if_neg (fun q => e q.symm)]
      exact h
    · exact h
theorem psN_a {rt dn : Nat → Bool} {a b : Nat} {O : Nat → Bool} (h : O a = true) : ∀ k, psN rt dn a b O k a = true
  | 0 => h
  | k + 1 => ps1_a (psN_a h k)
theorem bs_drop {x : Int64} {S : Nat → Bool} (hx : bs x S) {p : Nat} (hp : p < 48) (h : tb x p = false) : x &&& (fX1_bit (nI p) ^^^ (-1)) = x := by
  apply tb_ext
  intro q hq
  rw [tb_and, tb_not _ hq, bit_tb hp]
  by_cases e : q = p
  · subst e; rw [h]; rfl
  · simp [e]
set_option maxRecDepth 20000 in
theorem Cpass {R C : Nat} {rt dn O : Nat → Bool} {r d x : Int64} (hz : Mz R C rt dn) (hr : bs r rt) (hd : bs d dn) (hx : bs x O) (hO : ∀ i, O i = true → isC R C i) {a b : Nat} (ha : a < 36) (hb : b < 36) :
    ∃ x', qlp qFU (lb_X7_leftCells_2 (nI (pl a)) (nI (pl b)) r d) (x, (0 : Int32)) = some x' ∧ bs x' (psN rt dn a b O 36) := by
  obtain ⟨e, g1, g2⟩ := qlp_pl (f := lb_X7_leftCells_2 (nI (pl a)) (nI (pl b)) r d) (fun k j st => ∃ x', st = (x', nI k) ∧ bs x' (psN rt dn a b O j)) (fun e => bs e (psN rt dn a b O 36))
    (by
      rintro j st hj ⟨x', rfl, hx'⟩
      have hpj := pl_lt hj
      have hpa := pl_lt ha
      have hpb := pl_lt hb
      rw [ls_X7_leftCells_2, if_neg (n48 hpj)]
      have en : psN rt dn a b O (j + 1) = ps1 rt dn a b (psN rt dn a b O j) j := rfl
      rw [en]
      generalize hW : psN rt dn a b O j = W at hx' ⊢
      have hWO : ∀ i, W i = true → isC R C i := fun i q => hO i (by rw [← hW] at q; exact psN_sub j q)
      unfold ps1
      by_cases ea : j = a
      · subst ea
        rw [if_pos rfl, if_neg (by simp)]
        exact ⟨_, rfl, x', by rw [nI_1], hx'⟩
      · rw [if_neg (nI_ne (by omega) (by omega) (fun q => ea (pl_inj hj ha q)))]
        by_cases eb : j = b
        · subst eb
          rw [if_pos rfl, if_neg (by simp)]
          exact ⟨_, rfl, x', by rw [nI_1], hx'⟩
        · rw [if_neg (nI_ne (by omega) (by omega) (fun q => eb (pl_inj hj hb q))), decide_eq_true ea, decide_eq_true eb, Bool.true_and, Bool.true_and]
          cases hWj : W j with
          | false =>
            rw [Bool.false_and, if_neg Bool.false_ne_true, bs_drop hx' hpj (by rw [bs_pl hx' hj, hWj])]
            split
            · exact ⟨_, rfl, x', by rw [nI_1], hx'⟩
            · exact ⟨_, rfl, x', by rw [nI_1], hx'⟩
          | true =>
            rw [Bool.true_and, Cdead hz hr hd hx' (hWO j hWj)]
            cases decide (nbC rt dn W j 4 < 2) with
            | false =>
              rw [if_pos b0f, if_neg Bool.false_ne_true]
              exact ⟨_, rfl, x', by rw [nI_1], hx'⟩
            | true =>
              rw [if_neg b0t, if_pos rfl]
              exact ⟨_, rfl, x' &&& (fX1_bit (nI (pl j)) ^^^ -1), by rw [nI_1], bs_up hx' hj false⟩)
    (by
      rintro k j st hk hno ⟨x', rfl, hx'⟩
      rw [ls_X7_leftCells_2, if_neg (n48 hk), bs_drop hx' hk (bs_not hx' (fun q => hno q.1))]
      split
      · exact ⟨_, rfl, x', by rw [nI_1], hx'⟩
      · split
        · exact ⟨_, rfl, x', by rw [nI_1], hx'⟩
        · split
          · exact ⟨_, rfl, x', by rw [nI_1], hx'⟩
          · exact ⟨_, rfl, x', by rw [nI_1], hx'⟩)
    (by
      rintro st ⟨x', rfl, hx'⟩
      exact ⟨x', by rw [ls_X7_leftCells_2, if_pos (y48 (Nat.le_refl 48) (by decide))], hx'⟩)
    (x, (0 : Int32)) ⟨x, rfl, hx⟩
  exact ⟨e, g1, g2⟩
set_option maxRecDepth 20000 in
theorem Mpass {R C : Nat} {rt dn O : Nat → Bool} {mr md ms : Nat → Int32} (hz : Mz R C rt dn) (hm : ∀ i, i < 36 → mr i = b2i (rt i) ∧ md i = b2i (dn i)) (hs : ∀ i, i < 36 → ms i = b2i (shO R C O i)) (hO : ∀ i, O i = true → isC R C i) {a b : Nat} (ha : a < 36) (hb : b < 36) :
    ∃ v ms', qlp qFU (lb_X10_fill_2 (nI R) (nI C) (nI a) (nI b) mr md) ((0 : Int32), (0 : Int32), ms) = some (b2i v, ms') ∧ (∀ i, i < 36 → ms' i = b2i (shO R C (psN rt dn a b O 36) i)) ∧ (v = false → ∀ i, i < 36 → psN rt dn a b O 36 i = O i) ∧ (v = true → ∃ i, i < 36 ∧ O i = true ∧ psN rt dn a b O 36 i = false) := by
  have hRC := hz.1
  have hCC := hz.2.1
  obtain ⟨e, g1, v, ms', rfl, g2, g3, g4⟩ := qlp_idx (f := lb_X10_fill_2 (nI R) (nI C) (nI a) (nI b) mr md) (fun k st => ∃ v ms', st = (b2i v, nI k, ms') ∧ (∀ i, i < 36 → ms' i = b2i (shO R C (psN rt dn a b O k) i)) ∧ (v = false → ∀ i, i < 36 → psN rt dn a b O k i = O i) ∧ (v = true → ∃ i, i < 36 ∧ O i = true ∧ psN rt dn a b O k i = false)) 36
    (fun e => ∃ v ms', e = (b2i v, ms') ∧ (∀ i, i < 36 → ms' i = b2i (shO R C (psN rt dn a b O 36) i)) ∧ (v = false → ∀ i, i < 36 → psN rt dn a b O 36 i = O i) ∧ (v = true → ∃ i, i < 36 ∧ O i = true ∧ psN rt dn a b O 36 i = false)) (by
    rintro j st hjj ⟨v, ms', rfl, h1, h2, h3⟩
    rw [ls_X10_fill_2]
    by_cases h : j = 36
    · right
      subst h
      exact ⟨_, by rw [if_pos (y36 (Nat.le_refl 36) (by decide))], v, ms', rfl, h1, h2, h3⟩
    · left
      have hj : j < 36 := by omega
      refine ⟨hj, ?_⟩
      rw [if_neg (n36 hj), isThere_ok R (by omega) C (by omega) j hj]
      have en : psN rt dn a b O (j + 1) = ps1 rt dn a b (psN rt dn a b O j) j := rfl
      rw [en]
      generalize hW : psN rt dn a b O j = W at h1 h2 h3 ⊢
      have hWO : ∀ i, W i = true → isC R C i := fun i q => hO i (by rw [← hW] at q; exact psN_sub j q)
      have hsub : ∀ i, W i = true → O i = true := fun i q => by rw [← hW] at q; exact psN_sub j q
      have same : ps1 rt dn a b W j = W → ∃ s', some (Sum.inl (b2i v, (nI j + 1), ms')) = some (Sum.inl s' : (Int32 × Int32 × (Nat → Int32)) ⊕ (Int32 × (Nat → Int32))) ∧ ∃ v ms', s' = (b2i v, nI (j + 1), ms') ∧ (∀ i, i < 36 → ms' i = b2i (shO R C (ps1 rt dn a b W j) i)) ∧ (v = false → ∀ i, i < 36 → ps1 rt dn a b W j i = O i) ∧ (v = true → ∃ i, i < 36 ∧ O i = true ∧ ps1 rt dn a b W j i = false) := by
        intro q
        rw [q]
        exact ⟨_, rfl, v, ms', by rw [nI_1], h1, h2, h3⟩
      cases hc : cellS R C j with
      | false =>
        have hWj : W j = false := by
          cases q : W j with
          | false => rfl
          | true => rw [cellS_iff.mpr (hWO j q)] at hc; cases hc
        rw [if_pos b0f]
        exact same (by unfold ps1; rw [hWj, Bool.and_false, Bool.false_and, if_neg Bool.false_ne_true])
      | true =>
        rw [if_neg b0t, qgd_nI hj (by decide), nI_clamp (by omega), h1 j hj]
        have esh : shO R C W j = !W j := by unfold shO; rw [hc, Bool.true_and]
        rw [esh]
        cases hWj : W j with
        | false =>
          rw [if_neg (show ¬ b2i (!false) = 0 by decide)]
          exact same (by unfold ps1; rw [hWj, Bool.and_false, Bool.false_and, if_neg Bool.false_ne_true])
        | true =>
          rw [if_pos (show b2i (!true) = 0 by decide)]
          by_cases ea : j = a
          · rw [if_pos (by rw [ea])]
            exact same (by unfold ps1; rw [if_neg (by simp [ea])])
          · rw [if_neg (nI_ne (by omega) (by omega) ea)]
            by_cases eb : j = b
            · rw [if_pos (by rw [eb])]
              exact same (by unfold ps1; rw [if_neg (by simp [eb])])
            · have hle := nbC_le rt dn W j 4
              rw [if_neg (nI_ne (by omega) (by omega) eb), Mstill hz hm h1 (hWO j hWj), qob_some, qun1_eq]
              by_cases q : nbC rt dn W j 4 < 2
              · rw [if_neg (show ¬ (2 : Int32) ≤ nI (nbC rt dn W j 4) from nI_ge (b := 2) q (by decide)), qgd_nI hj (by decide)]
                have ep : ps1 rt dn a b W j = upB W j false := by
                  unfold ps1
                  rw [if_pos (by simp [ea, eb, hWj, q])]
                rw [ep]
                refine ⟨_, rfl, true, upd ms' j (qnb 1), by rw [nI_1]; rfl, fun i hi => ?_, fun w => (by cases w), fun _ => ⟨j, hj, hsub j hWj, by unfold upB; rw [if_pos rfl]⟩⟩
                unfold upd shO upB
                by_cases e : i = j
                · subst e
                  rw [if_pos rfl, if_pos rfl, hc]
                  rfl
                · rw [if_neg e, if_neg e, h1 i hi]
                  rfl
              · rw [if_pos (show (2 : Int32) ≤ nI (nbC rt dn W j 4) from nI_le (a := 2) (by omega) (by omega))]
                exact same (by unfold ps1; rw [if_neg (by simp [q])])) qFU (qFU_gt (by decide)) ((0 : Int32), (0 : Int32), ms) ⟨false, ms, rfl, hs, fun _ _ _ => rfl, fun w => by cases w⟩
  exact ⟨v, ms', g1, g2, g3, g4⟩
/-! pass after pass -/
def psI (R C : Nat) (rt dn : Nat → Bool) (a b : Nat) : Nat → (Nat → Bool)
  | 0 => cellS R C
  | t + 1 => psN rt dn a b (psI R C rt dn a b t) 36
theorem psI_s (R C : Nat) (rt dn : Nat → Bool) (a b t : Nat) : psI R C rt dn a b (t + 1) = psN rt dn a b (psI R C rt dn a b t) 36 := rfl
theorem psI_cell {R C : Nat} {rt dn : Nat → Bool} {a b : Nat} : ∀ t i, psI R C rt dn a b t i = true → isC R C i
  | 0, i, h => cellS_iff.mp h
  | t + 1, i, h => by rw [psI_s] at h; exact psI_cell t i (psN_sub 36 h)
theorem psI_a {R C : Nat} {rt dn : Nat → Bool} {a b : Nat} (ha : isC R C a) : ∀ t, psI R C rt dn a b t a = true
  | 0 => cellS_iff.mpr ha
  | t + 1 => by rw [psI_s]; exact psN_a (psI_a ha t) 36
theorem psI_end {R C : Nat} {rt dn : Nat → Bool} (hz : Mz R C rt dn) {a b : Nat} (ha : isC R C a) : ∃ m, m < 36 ∧ (∀ i, i < 36 → psI R C rt dn a b (m + 1) i = psI R C rt dn a b m i) ∧ ∀ t, t < m → ∃ i, i < 36 ∧ psI R C rt dn a b t i = true ∧ psI R C rt dn a b (t + 1) i = false := by
  have key : ∀ k, (∃ m, m < k ∧ (∀ i, i < 36 → psI R C rt dn a b (m + 1) i = psI R C rt dn a b m i) ∧ ∀ t, t < m → ∃ i, i < 36 ∧ psI R C rt dn a b t i = true ∧ psI R C rt dn a b (t + 1) i = false) ∨ (cn (psI R C rt dn a b k) 36 + k ≤ 36 ∧ ∀ t, t < k → ∃ i, i < 36 ∧ psI R C rt dn a b t i = true ∧ psI R C rt dn a b (t + 1) i = false) := by
    intro k
    induction k with
    | zero => exact Or.inr ⟨by have := cn_le (psI R C rt dn a b 0) 36; omega, fun t ht => absurd ht (Nat.not_lt_zero t)⟩
    | succ k ih =>
      rcases ih with ⟨m, h1, h2⟩ | ⟨h1, h2⟩
      · exact Or.inl ⟨m, by omega, h2⟩
      · by_cases q : ∃ i, i < 36 ∧ psI R C rt dn a b k i = true ∧ psI R C rt dn a b (k + 1) i = false
        · right
          have hsub : ∀ i, i < 36 → psI R C rt dn a b (k + 1) i = true → psI R C rt dn a b k i = true := fun i _ w => by rw [psI_s] at w; exact psN_sub 36 w
          have := cn_lt (S := psI R C rt dn a b (k + 1)) (T := psI R C rt dn a b k) 36 hsub (by
            obtain ⟨i, w1, w2, w3⟩ := q
            exact ⟨i, w1, w3, w2⟩)
          refine ⟨by omega, fun t ht => ?_⟩
          by_cases e : t = k
          · subst e; exact q
          · exact h2 t (by omega)
        · refine Or.inl ⟨k, by omega, fun i hi => ?_, h2⟩
          cases w : psI R C rt dn a b k i with
          | true =>
            cases w2 : psI R C rt dn a b (k + 1) i with
            | true => rfl
            | false => exact absurd ⟨i, hi, w, w2⟩ q
          | false =>
            cases w2 : psI R C rt dn a b (k + 1) i with
            | false => rfl
            | true => rw [psI_s] at w2; rw [psN_sub 36 w2] at w; cases w
  rcases key 36 with ⟨m, h1, h2, h3⟩ | ⟨h1, -⟩
  · exact ⟨m, h1, h2, h3⟩
  · have := cn_lt (S := fun _ => false) (T := psI R C rt dn a b 36) 36 (fun i _ w => by cases w) ⟨a, isC_lt hz ha, rfl, psI_a ha 36⟩
    omega
set_option maxRecDepth 20000 in
theorem Cleft {R C : Nat} {rt dn : Nat → Bool} {r d : Int64} (hz : Mz R C rt dn) (hr : bs r rt) (hd : bs d dn) {a b m : Nat} (ha : isC R C a) (hb : isC R C b) (hm : m < 36) (h1 : ∀ i, i < 36 → psI R C rt dn a b (m + 1) i = psI R C rt dn a b m i) (h2 : ∀ t, t < m → ∃ i, i < 36 ∧ psI R C rt dn a b t i = true ∧ psI R C rt dn a b (t + 1) i = false) :
    ∃ x, fX7_leftCells (nI (pl a)) (nI (pl b)) (cwv R C) r d = some x ∧ bs x (psI R C rt dn a b m) := by
  obtain ⟨e, g1, g2⟩ := qlp_idx (f := lb_X7_leftCells_1 (nI (pl a)) (nI (pl b)) r d) (fun t st => t ≤ m ∧ ∃ x, st = (x, nI t) ∧ bs x (psI R C rt dn a b t)) 36 (fun e => bs e (psI R C rt dn a b m)) (by
    rintro t st ht ⟨hle, x, rfl, hx⟩
    rw [ls_X7_leftCells_1, if_neg (n36 (by omega))]
    obtain ⟨x', c1, c2⟩ := Cpass hz hr hd hx (psI_cell t) (isC_lt hz ha) (isC_lt hz hb)
    have c2 : bs x' (psI R C rt dn a b (t + 1)) := c2
    rw [c1, qob_some, qun1_eq]
    by_cases e : t = m
    · right
      subst e
      exact ⟨x', by rw [if_pos (lg_0.mpr ((bs_eq c2 hx).mpr h1))], bs_congr c2 h1⟩
    · left
      obtain ⟨i, w1, w2, w3⟩ := h2 t (by omega)
      refine ⟨by omega, (x', nI (t + 1)), ?_, by omega, x', rfl, c2⟩
      rw [if_neg (fun q => by
        have := (bs_eq c2 hx).mp (lg_0.mp q) i w1
        rw [w2, w3] at this; cases this), nI_1]) qFU (qFU_gt (by decide)) (cwv R C, (0 : Int32)) ⟨Nat.zero_le m, cwv R C, rfl, cwv_ok hz.1.2 hz.2.1.2⟩
  refine ⟨e, ?_, g2⟩
  rw [le_X7_leftCells, g1, qob_some]
set_option maxRecDepth 20000 in
theorem Mcount {R C : Nat} {rt dn O : Nat → Bool} {ms : Nat → Int32} (hz : Mz R C rt dn) (hO : ∀ i, O i = true → isC R C i) (hs : ∀ i, i < 36 → ms i = b2i (shO R C O i)) : qlp qFU (lb_X10_fill_3 (nI R) (nI C) ms) ((0 : Int32), (0 : Int32)) = some (nI (cn O 36)) := by
  have hRC := hz.1
  have hCC := hz.2.1
  refine qlp_seq (f := lb_X10_fill_3 (nI R) (nI C) ms) (fun k => (nI (cn O k), nI k)) 36 _ (fun k hk => ?_) ?_ qFU (qFU_gt (by decide))
  · rw [ls_X10_fill_3, if_neg (n36 hk), isThere_ok R (by omega) C (by omega) k hk]
    have en : cn O (k + 1) = cn O k + (O k).toNat := rfl
    rw [en, ← nI_add, ← nI_1, ← b2i_nI]
    cases hc : cellS R C k with
    | false =>
      have : O k = false := by
        cases q : O k with
        | false => rfl
        | true => rw [cellS_iff.mpr (hO k q)] at hc; cases hc
      rw [if_pos b0f, qob_some, this]
      rfl
    | true =>
      rw [if_neg b0t, qgd_nI hk (by decide), nI_clamp (by omega), hs k hk]
      unfold shO
      rw [hc]
      cases O k
      · rw [if_neg (by decide), qob_some]; rfl
      · rw [if_pos (by decide), qob_some]; rfl
  · rw [ls_X10_fill_3, if_pos (y36 (Nat.le_refl 36) (by decide))]
set_option maxRecDepth 20000 in
theorem Mfill {R C : Nat} {rt dn : Nat → Bool} {mr md ms : Nat → Int32} (hz : Mz R C rt dn) (hm' : ∀ i, i < 36 → mr i = b2i (rt i) ∧ md i = b2i (dn i)) (hsh : ∀ i, i < 36 → ms i = 0) {a b m : Nat} (ha : isC R C a) (hb : isC R C b) (hm : m < 36) (h1 : ∀ i, i < 36 → psI R C rt dn a b (m + 1) i = psI R C rt dn a b m i) (h2 : ∀ t, t < m → ∃ i, i < 36 ∧ psI R C rt dn a b t i = true ∧ psI R C rt dn a b (t + 1) i = false) :
    ∃ ms', fX10_fill (nI R) (nI C) (nI a) (nI b) mr md ms = some (nI (cn (psI R C rt dn a b m) 36), ms') ∧ ∀ i, i < 36 → ms' i = b2i (shO R C (psI R C rt dn a b m) i) := by
  obtain ⟨e, g1, g2⟩ := qlp_idx (f := lb_X10_fill_1 (nI R) (nI C) (nI a) (nI b) mr md) (fun t st => ∃ ms', (t ≤ m ∧ st = (1, ms') ∧ ∀ i, i < 36 → ms' i = b2i (shO R C (psI R C rt dn a b t) i)) ∨ (t = m + 1 ∧ st = (0, ms') ∧ ∀ i, i < 36 → ms' i = b2i (shO R C (psI R C rt dn a b m) i))) (m + 1) (fun e => ∀ i, i < 36 → e i = b2i (shO R C (psI R C rt dn a b m) i)) (by
    rintro t st ht ⟨ms', ⟨hle, rfl, hs⟩ | ⟨rfl, rfl, hs⟩⟩
    · left
      rw [ls_X10_fill_1, if_neg (by decide)]
      obtain ⟨v, ms2, c1, c2, c3, c4⟩ := Mpass hz hm' hs (psI_cell t) (isC_lt hz ha) (isC_lt hz hb)
      refine ⟨by omega, (b2i v, ms2), by rw [c1, qob_some], ms2, ?_⟩
      by_cases e : t = m
      · right
        subst e
        have hv : v = false := by
          cases q : v with
          | false => rfl
          | true =>
            obtain ⟨i, w1, w2, w3⟩ := c4 q
            have := h1 i w1
            rw [psI_s, w2, w3] at this
            cases this
        subst hv
        refine ⟨rfl, rfl, fun i hi => ?_⟩
        rw [c2 i hi]
        unfold shO
        rw [c3 rfl i hi]
      · left
        obtain ⟨i, w1, w2, w3⟩ := h2 t (by omega)
        have hv : v = true := by
          cases q : v with
          | true => rfl
          | false =>
            have := c3 q i w1
            rw [psI_s] at w3
            rw [w2, w3] at this
            cases this
        subst hv
        exact ⟨by omega, rfl, c2⟩
    · right
      exact ⟨ms', by rw [ls_X10_fill_1, if_pos rfl], hs⟩) qFU (qFU_gt (by omega)) ((1 : Int32), ms) ⟨ms, Or.inl ⟨Nat.zero_le m, rfl, fun i hi => by
      rw [hsh i hi]
      show 0 = b2i (cellS R C i && !cellS R C i)
      rw [Bool.and_not_self]
      rfl⟩⟩
  refine ⟨e, ?_, g2⟩
  rw [le_X10_fill, g1, qob_some, qun1_eq, Mcount hz (psI_cell m) g2, qob_some]
set_option maxRecDepth 20000 in
theorem Mclr (ms : Nat → Int32) : ∃ ms', fX10_clearShut ms = some ms' ∧ ∀ i, i < 36 → ms' i = 0 := by
  obtain ⟨e, g1, g2⟩ := qlp_idx (f := lb_X10_clearShut_1) (fun k st => ∃ d', st = (nI k, d') ∧ ∀ j, j < k → d' j = 0) 36 (fun e => ∀ j, j < 36 → e j = 0) (by
    rintro k st hk ⟨d', rfl, h⟩
    rw [ls_X10_clearShut_1]
    by_cases q : k = 36
    · right
      subst q
      exact ⟨d', by rw [if_pos (y36 (Nat.le_refl 36) (by decide))], h⟩
    · left
      have hk36 : k < 36 := by omega
      refine ⟨hk36, _, by rw [if_neg (n36 hk36), qgd_nI hk36 (by decide), nI_clamp (by omega)], _, by rw [nI_1], fun j hj => ?_⟩
      unfold upd
      by_cases e2 : j = k
      · rw [if_pos e2]; rfl
      · rw [if_neg e2]; exact h j (by omega)) qFU (qFU_gt (by decide)) ((0 : Int32), ms) ⟨ms, rfl, fun j hj => absurd hj (Nat.not_lt_zero j)⟩
  exact ⟨e, by rw [le_X10_clearShut, g1, qob_some], g2⟩
set_option maxRecDepth 20000 in
theorem st_left {sc_length : Int32} {sc_bytes : Nat → Int32} {g_rows : Int32} {g_columns : Int32} {g_a : Int32} {g_b : Int32} {g_cells : Int64} {g_right : Int64} {g_down : Int64} {m_textSize : Int32} {m_text : Nat → Int32} {m_rows : Int32} {m_columns : Int32} {m_a : Int32} {m_b : Int32} {m_right : Nat → Int32} {m_down : Nat → Int32} {m_shut : Nat → Int32} {m_keptFigures : Nat → Int32} {m_keptNumbers : Nat → Int32} {m_isKept : Nat → Int32} {m_thrown : Int32} {sl_f : Nat → Option Nat} {k0 k1 : Option (Nat × KG)} {p1 : Int32} (h : Rel sc_length sc_bytes (g_rows, g_columns, g_a, g_b, g_cells, g_right, g_down) sl_f k0 k1 m_textSize m_text m_rows m_columns m_a m_b m_right m_down m_shut m_keptFigures m_keptNumbers m_isKept) : ∃ (r : Int32) (m_thrown' : Int32) (m_shut' : Nat → Int32), fX9_left g_rows g_columns g_a g_b g_cells g_right g_down p1 = some r ∧ fX10_left m_thrown m_rows m_columns m_a m_b m_right m_down m_shut p1 = some (r, m_thrown', m_shut') ∧ Rel sc_length sc_bytes (g_rows, g_columns, g_a, g_b, g_cells, g_right, g_down) sl_f k0 k1 m_textSize m_text m_rows m_columns m_a m_b m_right m_down m_shut' m_keptFigures m_keptNumbers m_isKept := by
  obtain ⟨R, C, rt, dn, a, b, n, tx, z0, z1, hz, ha, hb, rfl, rfl, rfl, rfl, rfl, hr, hd, rfl, rfl, rfl, rfl, hm, ht, hsh, h0, h1, e0, e1⟩ := id h.un
  unfold fX9_left fX10_left
  rcases cell_two hz p1 with ⟨q1, q2⟩ | ⟨i, hi, ci, q1, q3, n1, n2⟩
  · rw [if_pos q1, if_pos q2]
    exact ⟨_, _, _, rfl, rfl, h⟩
  · obtain ⟨m, f1, f2, f3⟩ := psI_end (b := b) hz ha
    obtain ⟨x, c1, c2⟩ := Cleft hz hr hd ha hb f1 f2 f3
    obtain ⟨ms1, m1, m2⟩ := Mfill hz hm hsh ha hb f1 f2 f3
    obtain ⟨ms2, m3, m4⟩ := Mclr ms1
    rw [if_neg n1, if_neg n2, q1, q3, c1, m1, qob_some, qun1_eq, qob_some, qun2_eq, bs_has c2 hi, qgd_nI hi (by decide), nI_clamp (by omega), m2 i hi]
    unfold shO
    rw [cellS_iff.mpr ci, Bool.true_and]
    have hR := Rel.mk (sc_length := sc_length) (sc_bytes := sc_bytes) (sl_f := sl_f) hz ha hb hr hd hm ht m4 h0 h1 e0 e1
    cases psI R C rt dn a b m i
    · rw [if_neg (by decide), qob_some, qun1_eq, m3, qob_some]
      exact ⟨_, _, _, rfl, rfl, hR⟩
    · rw [if_pos (by decide), qob_some, qun1_eq, m3, qob_some]
      exact ⟨_, _, _, rfl, rfl, hR⟩

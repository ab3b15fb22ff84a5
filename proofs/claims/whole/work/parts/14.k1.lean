/-! about: what is counted -/
theorem nI_p0 (a : Nat) : nI a + 0 = nI a := Int32.add_zero _
theorem b2i_add (x y : Bool) : (b2i x + b2i y : Int32) = nI (x.toNat + y.toNat) := by cases x <;> cases y <;> rfl
theorem if01 (x : Bool) : (if b2i x = 0 then some (0 : Int32) else some 1) = some (b2i x) := by cases x <;> rfl
set_option maxRecDepth 20000 in
theorem Mopenings {rt dn : Nat → Bool} {mr md : Nat → Int32} (hm : ∀ i, i < 36 → mr i = b2i (rt i) ∧ md i = b2i (dn i)) : fX10_openings mr md = some (nI (cn rt 36 + cn dn 36)) := by
  have h1 : qlp qFU (lb_X10_openings_1 mr md) ((0 : Int32), (0 : Int32)) = some (nI (cn rt 36 + cn dn 36)) := by
    refine qlp_seq (f := lb_X10_openings_1 mr md) (fun k => (nI (cn rt k + cn dn k), nI k)) 36 _ (fun k hk => ?_) ?_ qFU (qFU_gt (by decide))
    · rw [ls_X10_openings_1, if_neg (n36 hk), qgd_nI hk (by decide), nI_clamp (by omega), (hm k hk).1, (hm k hk).2, if01, qob_some, qun1_eq, qgd_nI hk (by decide), if01, qob_some, qun1_eq, b2i_add, nI_add, nI_1]
      have e1 : cn rt (k + 1) = cn rt k + (rt k).toNat := rfl
      have e2 : cn dn (k + 1) = cn dn k + (dn k).toNat := rfl
      rw [e1, e2, show cn rt k + (rt k).toNat + (cn dn k + (dn k).toNat) = cn rt k + cn dn k + ((rt k).toNat + (dn k).toNat) by omega]
    · rw [ls_X10_openings_1, if_pos (y36 (Nat.le_refl 36) (by decide))]
  rw [le_X10_openings, h1, qob_some]
theorem Copenings {rt dn : Nat → Bool} {r d : Int64} (hr : bs r rt) (hd : bs d dn) : fX1_openings r d = nI (cn rt 36 + cn dn 36) := by
  unfold fX1_openings
  rw [bs_count hr, bs_count hd, nI_add]
/-- how many neighbours -/
def nbr (rt dn : Nat → Bool) (j : Nat) : Nat := nbC rt dn (fun _ => true) j 4
theorem nbr_le (rt dn : Nat → Bool) (j : Nat) : nbr rt dn j ≤ 4 := nbC_le rt dn _ j 4
theorem Cneighbours {R C : Nat} {rt dn : Nat → Bool} {r d : Int64} (hz : Mz R C rt dn) (hr : bs r rt) (hd : bs d dn) {j : Nat} (cj : isC R C j) : fX1_neighbours r d (nI (pl j)) = nI (nbr rt dn j) := by
  have hj := isC_lt hz cj
  have hn : nbS rt dn (fun _ => true) j 4 j = false := by
    cases q : nbS rt dn (fun _ => true) j 4 j with
    | false => rfl
    | true =>
      obtain ⟨s, hs, w1, w2, w3⟩ := (nbS_iff 4).mp q
      exact absurd w3.symm (mv_ne hs (op_rim hz hs w1))
  have hb : bs (fX1_near r d (fX1_bit (nI (pl j)))) (upB (nbS rt dn (fun _ => true) j 4) j true) := bs_congr (bs_near hz hr hd (bs_bit hj)) (fun t _ => by
    have := nb_near (O := fun _ => true) (t := t) hz hj
    unfold upB
    by_cases e : t = j
    · rw [if_pos e]
      exact nearS_self (decide_eq_true e)
    · rw [if_neg e, ← this, decide_eq_false e]
      simp)
  unfold fX1_neighbours
  rw [bs_count hb, cn_up hn 36 hj, nb_cn hz cj 4 (Nat.le_refl 4)]
  exact nI_sub (a := nbC rt dn (fun _ => true) j 4 + 1) (b := 1) (by omega)
set_option maxRecDepth 20000 in
theorem Mneighbours {R C : Nat} {rt dn : Nat → Bool} {mr md : Nat → Int32} (hz : Mz R C rt dn) (hm : ∀ i, i < 36 → mr i = b2i (rt i) ∧ md i = b2i (dn i)) {j : Nat} (cj : isC R C j) : fX10_neighbours (nI R) (nI C) mr md (nI j) = some (nI (nbr rt dn j)) := by
  have h1 : qlp qFU (lb_X10_neighbours_1 (nI R) (nI C) mr md (nI j)) ((0 : Int32), (0 : Int32)) = some (nI (nbC rt dn (fun _ => true) j 4)) := by
    refine qlp_seq (f := lb_X10_neighbours_1 (nI R) (nI C) mr md (nI j)) (fun s => (nI (nbC rt dn (fun _ => true) j s), nI s)) 4 _ (fun s hs4 => ?_) ?_ qFU (qFU_gt (by decide))
    · rw [ls_X10_neighbours_1, if_neg (n4 hs4), Mopen hz hm cj hs4, qob_some, qun1_eq, if01, qob_some, qun1_eq, b2i_nI, nI_add, nI_1]
      have en : nbC rt dn (fun _ => true) j (s + 1) = nbC rt dn (fun _ => true) j s + (opS rt dn j s && true).toNat := rfl
      rw [en, Bool.and_true]
    · rw [ls_X10_neighbours_1, if_pos (y4 (Nat.le_refl 4) (by decide))]
  rw [le_X10_neighbours, h1, qob_some]
  rfl
set_option maxRecDepth 20000 in
theorem Ccells {R C : Nat} {rt dn : Nat → Bool} {r d : Int64} (hz : Mz R C rt dn) (hr : bs r rt) (hd : bs d dn) {lo hi : Nat} (hlo : lo < 10) (hhi : hi < 10) : fX7_cellsWithNeighbours (cwv R C) r d (nI lo) (nI hi) = some (nI (cn (fun j => cellS R C j && (decide (lo ≤ nbr rt dn j) && decide (nbr rt dn j ≤ hi))) 36)) := by
  obtain ⟨e, g1, rfl⟩ := qlp_pl (f := lb_X7_cellsWithNeighbours_1 (cwv R C) r d (nI lo) (nI hi)) (fun k j st => st = (nI (cn (fun j => cellS R C j && (decide (lo ≤ nbr rt dn j) && decide (nbr rt dn j ≤ hi))) j), nI k)) (fun e => e = nI (cn (fun j => cellS R C j && (decide (lo ≤ nbr rt dn j) && decide (nbr rt dn j ≤ hi))) 36))
    (by
      rintro j st hj rfl
      have en : cn (fun j => cellS R C j && (decide (lo ≤ nbr rt dn j) && decide (nbr rt dn j ≤ hi))) (j + 1) = cn (fun j => cellS R C j && (decide (lo ≤ nbr rt dn j) && decide (nbr rt dn j ≤ hi))) j + (cellS R C j && (decide (lo ≤ nbr rt dn j) && decide (nbr rt dn j ≤ hi))).toNat := rfl
      rw [ls_X7_cellsWithNeighbours_1, if_neg (n48 (pl_lt hj)), bs_has (cwv_ok hz.1.2 hz.2.1.2) hj, en]
      have hle := nbr_le rt dn j
      cases hc : cellS R C j with
      | false =>
        rw [if_pos b0f]
        exact ⟨_, rfl, by rw [nI_1]; rfl⟩
      | true =>
        rw [if_neg b0t, Cneighbours hz hr hd (cellS_iff.mp hc)]
        by_cases q1 : lo ≤ nbr rt dn j
        · rw [if_neg (nI_nlt q1 (by omega)), decide_eq_true q1]
          by_cases q2 : nbr rt dn j ≤ hi
          · rw [if_neg (nI_nlt q2 (by omega)), decide_eq_true q2]
            exact ⟨_, rfl, by rw [nI_1, nI_1]; rfl⟩
          · rw [if_pos (nI_lt (by omega) (by omega)), decide_eq_false q2]
            exact ⟨_, rfl, by rw [nI_1]; rfl⟩
        · rw [if_pos (nI_lt (by omega) (by omega)), decide_eq_false q1]
          exact ⟨_, rfl, by rw [nI_1]; rfl⟩)
    (by
      rintro k j st hk hno rfl
      rw [ls_X7_cellsWithNeighbours_1, if_neg (n48 hk), has_in _ hk, out_no hz hno, if_pos b0f]
      exact ⟨_, rfl, by rw [nI_1]⟩)
    (by
      rintro st rfl
      exact ⟨_, by rw [ls_X7_cellsWithNeighbours_1, if_pos (y48 (Nat.le_refl 48) (by decide))], rfl⟩)
    ((0 : Int32), (0 : Int32)) rfl
  rw [le_X7_cellsWithNeighbours, g1, qob_some]
set_option maxRecDepth 20000 in
theorem Mends {R C : Nat} {rt dn : Nat → Bool} {mr md : Nat → Int32} (hz : Mz R C rt dn) (hm : ∀ i, i < 36 → mr i = b2i (rt i) ∧ md i = b2i (dn i)) : qlp qFU (lb_X10_about_1 (nI R) (nI C) mr md) ((0 : Int32), (0 : Int32), (0 : Int32)) = some (nI (cn (fun j => cellS R C j && (decide (1 ≤ nbr rt dn j) && decide (nbr rt dn j ≤ 1))) 36), nI (cn (fun j => cellS R C j && (decide (3 ≤ nbr rt dn j) && decide (nbr rt dn j ≤ 4))) 36)) := by
  have hRC := hz.1
  have hCC := hz.2.1
  refine qlp_seq (f := lb_X10_about_1 (nI R) (nI C) mr md) (fun k => (nI (cn (fun j => cellS R C j && (decide (1 ≤ nbr rt dn j) && decide (nbr rt dn j ≤ 1))) k), nI (cn (fun j => cellS R C j && (decide (3 ≤ nbr rt dn j) && decide (nbr rt dn j ≤ 4))) k), nI k)) 36 _ (fun k hk => ?_) ?_ qFU (qFU_gt (by decide))
  · have e1 : cn (fun j => cellS R C j && (decide (1 ≤ nbr rt dn j) && decide (nbr rt dn j ≤ 1))) (k + 1) = cn (fun j => cellS R C j && (decide (1 ≤ nbr rt dn j) && decide (nbr rt dn j ≤ 1))) k + (cellS R C k && (decide (1 ≤ nbr rt dn k) && decide (nbr rt dn k ≤ 1))).toNat := rfl
    have e2 : cn (fun j => cellS R C j && (decide (3 ≤ nbr rt dn j) && decide (nbr rt dn j ≤ 4))) (k + 1) = cn (fun j => cellS R C j && (decide (3 ≤ nbr rt dn j) && decide (nbr rt dn j ≤ 4))) k + (cellS R C k && (decide (3 ≤ nbr rt dn k) && decide (nbr rt dn k ≤ 4))).toNat := rfl
    rw [ls_X10_about_1, if_neg (n36 hk), isThere_ok R (by omega) C (by omega) k hk, e1, e2]
    cases hc : cellS R C k with
    | false =>
      rw [if_pos b0f, qob_some, qun1_eq, if_pos b0f, qob_some, qun1_eq, nI_1, nI_p0, nI_p0]
      rfl
    | true =>
      have hle := nbr_le rt dn k
      rw [if_neg b0t, if_neg b0t, Mneighbours hz hm (cellS_iff.mp hc), qob_some, qun1_eq, qob_some, qun1_eq, Bool.true_and, Bool.true_and]
      generalize nbr rt dn k = v at hle
      have hv : ∀ v, v ≤ 4 → (if nI v = 1 then some (1 : Int32) else some 0) = some (nI (decide (1 ≤ v) && decide (v ≤ 1)).toNat) ∧ (if nI v ≤ (2 : Int32) then some (0 : Int32) else some 1) = some (nI (decide (3 ≤ v) && decide (v ≤ 4)).toNat) := by decide +kernel
      rw [(hv v hle).1, (hv v hle).2, qob_some, qun1_eq, qob_some, qun1_eq, nI_add, nI_add, nI_1]
  · rw [ls_X10_about_1, if_pos (y36 (Nat.le_refl 36) (by decide))]
/-! parts counted by the class -/
def rs (R C : Nat) (rt dn : Nat → Bool) (t : Nat) : Nat → Bool := fun j => cellS R C j && decide (ls (fc R C rt dn j) t = 99)
theorem rs_iff {R C : Nat} {rt dn : Nat → Bool} {t j : Nat} (ht : t ≤ 99) : rs R C rt dn t j = true ↔ isC R C j ∧ ∀ i, i < t → isC R C i → cnn rt dn i j = false := by
  unfold rs
  rw [Bool.and_eq_true, cellS_iff, decide_eq_true_eq, ls_99 t ht]
  refine and_congr_right (fun _ => forall_congr' (fun i => forall_congr' (fun _ => ?_)))
  unfold fc
  constructor
  · intro h ci
    rw [cellS_iff.mpr ci, Bool.true_and] at h
    exact h
  · intro h
    cases q : cellS R C i with
    | false => rfl
    | true => rw [Bool.true_and]; exact h (cellS_iff.mp q)
theorem cn_stop {S : Nat → Bool} {t : Nat} : ∀ n, t ≤ n → (∀ k, t ≤ k → k < n → S k = false) → cn S n = cn S t
  | 0, h, _ => by rw [show t = 0 by omega]
  | n + 1, h, q => by
    by_cases e : t = n + 1
    · rw [e]
    · show cn S n + (S n).toNat = _
      rw [q n (by omega) (by omega), cn_stop n (by omega) (fun k h1 h2 => q k h1 (by omega))]
      rfl
set_option maxRecDepth 20000 in
theorem Cparts {R C : Nat} {rt dn : Nat → Bool} {r d : Int64} (hz : Mz R C rt dn) (hr : bs r rt) (hd : bs d dn) : fX7_parts (cwv R C) r d = some (nI (cn (firsts R C rt dn) 36)) := by
  have hf : ∀ k, k ≤ 99 → (firsts R C rt dn k = true ↔ rs R C rt dn k k = true) := fun k _ => Iff.rfl
  obtain ⟨e, g1, rfl⟩ := qlp_idx (f := lb_X7_parts_1 (cwv R C) r d) (fun i st => ∃ t x, i ≤ t ∧ t ≤ 36 ∧ st = (nI (cn (firsts R C rt dn) t), x, nI i) ∧ bs x (rs R C rt dn t)) 36 (fun e => e = nI (cn (firsts R C rt dn) 36)) (by
    rintro i st hi ⟨t, x, hit, ht, rfl, hx⟩
    rw [ls_X7_parts_1]
    by_cases h : i = 36
    · right
      subst h
      have : t = 36 := by omega
      subst this
      exact ⟨_, by rw [if_pos (y36 (Nat.le_refl 36) (by decide))], rfl⟩
    · rw [if_neg (n36 (by omega))]
      by_cases q : lg_cmp x 0 = 0
      · right
        refine ⟨_, by rw [if_pos q], ?_⟩
        have hem := (bs_eq hx bs_0).mp (lg_0.mp q)
        rw [cn_stop (S := firsts R C rt dn) 36 ht (fun k h1 h2 => ?_)]
        cases w : firsts R C rt dn k with
        | false => rfl
        | true =>
          have w2 := (rs_iff (by omega)).mp ((hf k (by omega)).mp w)
          have := hem k h2
          rw [(rs_iff (t := t) (by omega)).mpr ⟨w2.1, fun i hi => w2.2 i (by omega)⟩] at this
          cases this
      · left
        refine ⟨by omega, ?_⟩
        have hex : ∃ j, j < 36 ∧ rs R C rt dn t j = true := by
          apply Classical.byContradiction
          intro hno
          apply q
          rw [lg_0, bs_eq hx bs_0]
          intro j hj
          cases w : rs R C rt dn t j with
          | false => rfl
          | true => exact absurd ⟨j, hj, w⟩ hno
        obtain ⟨j, hj, hjr⟩ := hex
        obtain ⟨m, m1, m2, m3⟩ := ls_first hjr
        have hm36 : m < 36 := by omega
        obtain ⟨cm, m4⟩ := (rs_iff (by omega)).mp m2
        have hle : fX1_least x = nI (pl m) := by
          refine least_at (pl_lt hm36) (by rw [bs_pl hx hm36]; exact m2) (fun p hp => ?_)
          rcases place_two (k := p) (by have := pl_lt hm36; omega) with hno | ⟨j, hj, rfl⟩
          · exact bs_not hx hno
          · rw [bs_pl hx hj]
            exact m3 j (by unfold pl at hp; omega)
        have htm : t ≤ m := by
          by_cases l : m < t
          · have := m4 m l cm
            rw [cnn_self] at this; cases this
          · omega
        have up : ∀ i k, isC R C i → isC R C k → cnn rt dn i k = true → (∀ i', i' < t → isC R C i' → cnn rt dn i' k = false) → rs R C rt dn t i = true := fun i k ci ck hik hk => (rs_iff (by omega)).mpr ⟨ci, fun i' h1 c1 => by
          cases w : cnn rt dn i' i with
          | false => rfl
          | true =>
            have := hk i' h1 c1
            rw [cnn_trans hz c1 (isC_lt hz ck) w hik] at this
            cases this⟩
        obtain ⟨D, hL⟩ := LF_ex hz cm
        obtain ⟨y, c1, c2⟩ := Cpart hz hr hd cm hL
        have hfm : firsts R C rt dn m = true := (hf m (by omega)).mpr ((rs_iff (by omega)).mpr ⟨cm, fun i h1 ci => by
          cases w : cnn rt dn i m with
          | false => rfl
          | true =>
            have := m3 i h1
            rw [up i m ci cm w m4] at this
            cases this⟩)
        have hcn : cn (firsts R C rt dn) (m + 1) = cn (firsts R C rt dn) t + 1 := by
          show cn (firsts R C rt dn) m + (firsts R C rt dn m).toNat = _
          rw [hfm, cn_stop (S := firsts R C rt dn) m htm (fun k h1 h2 => ?_)]
          · rfl
          · cases w : firsts R C rt dn k with
            | false => rfl
            | true =>
              have w2 := (rs_iff (by omega)).mp ((hf k (by omega)).mp w)
              have := m3 k h2
              rw [(rs_iff (t := t) (by omega)).mpr ⟨w2.1, fun i hi => w2.2 i (by omega)⟩] at this
              cases this
        rw [if_neg q, hle, c1, qob_some, qun1_eq]
        refine ⟨_, rfl, m + 1, _, by omega, by omega, by rw [hcn, nI_1, nI_1], bs_congr (bs_andn hx c2) (fun k hk => ?_)⟩
        rw [← cnn_iff hz hL hk, Bool.eq_iff_iff, Bool.and_eq_true, Bool.not_eq_true', rs_iff (by omega), rs_iff (by omega)]
        constructor
        · rintro ⟨⟨ck, w1⟩, w2⟩
          refine ⟨ck, fun i h1 ci => ?_⟩
          by_cases e : i = m
          · rw [e]; exact w2
          · cases w : cnn rt dn i k with
            | false => rfl
            | true =>
              have := m3 i (by omega)
              rw [up i k ci ck w w1] at this
              cases this
        · rintro ⟨ck, w⟩
          exact ⟨⟨ck, fun i h1 ci => w i (by omega) ci⟩, w m (by omega) cm⟩) qFU (qFU_gt (by decide)) ((0 : Int32), cwv R C, (0 : Int32)) ⟨0, cwv R C, Nat.le_refl 0, by omega, rfl, bs_congr (cwv_ok hz.1.2 hz.2.1.2) (fun j _ => by
      rw [Bool.eq_iff_iff, rs_iff (by omega), cellS_iff]
      exact ⟨fun c => ⟨c, fun i hi => absurd hi (Nat.not_lt_zero i)⟩, fun w => w.1⟩)⟩
  rw [le_X7_parts, g1, qob_some]
/-! bridges counted -/
def brV (R C : Nat) (r d : Int64) (i s : Nat) : Bool := decide ((fX7_isBridge (cwv R C) r d (nI (pl i)) (nI s)).map (fun q => q.1) = some 1)
theorem brV_ok {R C : Nat} {rt dn : Nat → Bool} {r d : Int64} {mr md ms : Nat → Int32} (hz : Mz R C rt dn) (hr : bs r rt) (hd : bs d dn) (hm : ∀ i, i < 36 → mr i = b2i (rt i) ∧ md i = b2i (dn i)) (hsh : ∀ i, i < 36 → ms i = 0) {i s : Nat} (hi : isC R C i) (hs : s < 4) (ho : opS rt dn i s = true) (m_dist m_queue : Nat → Int32) :
    fX7_isBridge (cwv R C) r d (nI (pl i)) (nI s) = some (b2i (brV R C r d i s), r, d) ∧ ∃ (mr' md' di' qu' : Nat → Int32), fX10_isBridge (nI R) (nI C) mr md m_dist m_queue ms (nI i) (nI s) = some (b2i (brV R C r d i s), mr', md', di', qu') ∧ (∀ i, i < 36 → mr' i = b2i (rt i) ∧ md' i = b2i (dn i)) := by
  obtain ⟨v, r', d', mr', md', di', qu', g1, g2, g3, g4, g5⟩ := bridge_both hz hr hd hm hsh hi hs ho m_dist m_queue
  have er : r' = r := bs_ext g3 hr (fun _ _ => rfl)
  have ed : d' = d := bs_ext g4 hd (fun _ _ => rfl)
  subst er
  subst ed
  have ev : brV R C r' d' i s = v := by
    unfold brV
    rw [g1]
    cases v <;> rfl
  rw [ev]
  exact ⟨g1, mr', md', di', qu', g2, g5⟩
def brC (R C : Nat) (rt dn : Nat → Bool) (r d : Int64) : Nat → Nat
  | 0 => 0
  | k + 1 => brC R C rt dn r d k + (rt k && brV R C r d k 1).toNat + (dn k && brV R C r d k 2).toNat
theorem brC_le (R C : Nat) (rt dn : Nat → Bool) (r d : Int64) : ∀ k, brC R C rt dn r d k ≤ 2 * k
  | 0 => Nat.le_refl 0
  | k + 1 => by
    have := brC_le R C rt dn r d k
    have h1 : (rt k && brV R C r d k 1).toNat ≤ 1 := by cases (rt k && brV R C r d k 1) <;> decide
    have h2 : (dn k && brV R C r d k 2).toNat ≤ 1 := by cases (dn k && brV R C r d k 2) <;> decide
    show brC R C rt dn r d k + (rt k && brV R C r d k 1).toNat + (dn k && brV R C r d k 2).toNat ≤ 2 * (k + 1)
    omega
theorem op_cell {R C : Nat} {rt dn : Nat → Bool} (hz : Mz R C rt dn) {j s : Nat} (h : s = 1 ∨ s = 2) (ho : opS rt dn j s = true) : isC R C j := by
  cases hc : cellS R C j with
  | true => exact cellS_iff.mp hc
  | false => rw [op_out hz hc h] at ho; cases ho
/-- the class at a cell's side: a bridge or not -/
theorem Cbr1 {R C : Nat} {rt dn : Nat → Bool} {r d : Int64} (hz : Mz R C rt dn) (hr : bs r rt) (hd : bs d dn) {j s : Nat} (hj : j < 36) (h : s = 1 ∨ s = 2) : fX7_isBridge (cwv R C) r d (nI (pl j)) (nI s) = some (b2i (opS rt dn j s && brV R C r d j s), r, d) := by
  cases ho : opS rt dn j s with
  | true =>
    rw [Bool.true_and]
    exact (brV_ok (mr := fun i => b2i (rt i)) (md := fun i => b2i (dn i)) (ms := fun _ => 0) hz hr hd (fun _ _ => ⟨rfl, rfl⟩) (fun _ _ => rfl) (op_cell hz h ho) (by omega) ho (fun _ => 0) (fun _ => 0)).1
  | false =>
    unfold fX7_isBridge fX1_neighbour
    rw [Copen hr hd hj (by omega), ho, if_pos b0f, if_pos rfl]
    rfl
theorem Cbr1_out {R C : Nat} {rt dn : Nat → Bool} {r d : Int64} (hr : bs r rt) (hd : bs d dn) {k s : Nat} (hk : k < 48) (hn : ¬ k % 8 < 6) (h : s = 1 ∨ s = 2) : fX7_isBridge (cwv R C) r d (nI k) (nI s) = some (0, r, d) := by
  unfold fX7_isBridge fX1_neighbour
  rw [isOpen_no hr hd hk hn h, if_pos rfl, if_pos rfl]
set_option maxRecDepth 20000 in
theorem Cbrs {R C : Nat} {rt dn : Nat → Bool} {r d : Int64} (hz : Mz R C rt dn) (hr : bs r rt) (hd : bs d dn) : fX7_bridges (cwv R C) r d = some (nI (brC R C rt dn r d 36), r, d) := by
  obtain ⟨e, g1, rfl⟩ := qlp_pl (f := lb_X7_bridges_1 (cwv R C)) (fun k j st => st = (nI (brC R C rt dn r d j), nI k, r, d)) (fun e => e = (nI (brC R C rt dn r d 36), r, d))
    (by
      rintro j st hj rfl
      have hin : qlp qFU (lb_X7_bridges_2 (cwv R C) (nI (pl j))) (nI (brC R C rt dn r d j), (1 : Int32), r, d) = some (nI (brC R C rt dn r d (j + 1)), r, d) := by
        refine qlp_seq (f := lb_X7_bridges_2 (cwv R C) (nI (pl j))) (fun i => (nI (brC R C rt dn r d j + (if 0 < i then (rt j && brV R C r d j 1).toNat else 0) + (if 1 < i then (dn j && brV R C r d j 2).toNat else 0)), nI (i + 1), r, d)) 2 _ (fun i hi => ?_) ?_ qFU (qFU_gt (by decide))
        · rw [ls_X7_bridges_2, if_neg (n2l (by omega)), Cbr1 hz hr hd hj (by omega), qob_some, qun3_eq]
          rcases (show i = 0 ∨ i = 1 by omega) with rfl | rfl
          · have e : opS rt dn j (0 + 1) = rt j := rfl
            rw [e]
            cases (rt j && brV R C r d j (0 + 1)) with
            | false => rw [if_pos b0f, nI_1]; rfl
            | true => rw [if_neg b0t, nI_1, nI_1]; rfl
          · have e : opS rt dn j (1 + 1) = dn j := rfl
            rw [e]
            cases (dn j && brV R C r d j (1 + 1)) with
            | false => rw [if_pos b0f, nI_1]; rfl
            | true => rw [if_neg b0t, nI_1, nI_1]; rfl
        · rw [ls_X7_bridges_2, if_pos (y2l (by decide) (by decide))]
          rfl
      rw [ls_X7_bridges_1, if_neg (n48 (pl_lt hj)), hin, qob_some]
      exact ⟨_, rfl, by rw [nI_1]⟩)
    (by
      rintro k j st hk hno rfl
      have hin : qlp qFU (lb_X7_bridges_2 (cwv R C) (nI k)) (nI (brC R C rt dn r d j), (1 : Int32), r, d) = some (nI (brC R C rt dn r d j), r, d) := by
        refine qlp_seq (f := lb_X7_bridges_2 (cwv R C) (nI k)) (fun i => (nI (brC R C rt dn r d j), nI (i + 1), r, d)) 2 _ (fun i hi => ?_) ?_ qFU (qFU_gt (by decide))
        · rw [ls_X7_bridges_2, if_neg (n2l (by omega)), Cbr1_out hr hd hk hno (by omega), qob_some, qun3_eq, if_pos rfl, nI_1]
        · rw [ls_X7_bridges_2, if_pos (y2l (by decide) (by decide))]
      rw [ls_X7_bridges_1, if_neg (n48 hk), hin, qob_some]
      exact ⟨_, rfl, by rw [nI_1]⟩)
    (by
      rintro st rfl
      exact ⟨_, by rw [ls_X7_bridges_1, if_pos (y48 (Nat.le_refl 48) (by decide))], rfl⟩)
    ((0 : Int32), (0 : Int32), r, d) rfl
  rw [le_X7_bridges, g1, qob_some]
set_option maxRecDepth 20000 in
theorem Mbr1 {R C : Nat} {rt dn : Nat → Bool} {r d : Int64} {mr md ms : Nat → Int32} (hz : Mz R C rt dn) (hr : bs r rt) (hd : bs d dn) (hm : ∀ i, i < 36 → mr i = b2i (rt i) ∧ md i = b2i (dn i)) (hsh : ∀ i, i < 36 → ms i = 0) {j s : Nat} (h : s = 1 ∨ s = 2) (di qu : Nat → Int32) :
    ∃ mr' md' di' qu', (if b2i (opS rt dn j s) = 0 then some ((0 : Int32), mr, md, di, qu) else Option.bind (fX10_isBridge (nI R) (nI C) mr md di qu ms (nI j) (nI s)) (qun5 fun (r_2 : Int32) (m_right_6 : Nat → Int32) (m_down_6 : Nat → Int32) (m_dist_6 : Nat → Int32) (m_queue_6 : Nat → Int32) => if r_2 = 0 then some (0, m_right_6, m_down_6, m_dist_6, m_queue_6) else some (1, m_right_6, m_down_6, m_dist_6, m_queue_6))) = some (nI (opS rt dn j s && brV R C r d j s).toNat, mr', md', di', qu') ∧ ∀ i, i < 36 → mr' i = b2i (rt i) ∧ md' i = b2i (dn i) := by
  cases ho : opS rt dn j s with
  | false => exact ⟨mr, md, di, qu, by rw [if_pos b0f]; rfl, hm⟩
  | true =>
    obtain ⟨-, mr', md', di', qu', g1, g2⟩ := brV_ok hz hr hd hm hsh (op_cell hz h ho) (show s < 4 by omega) ho di qu
    refine ⟨mr', md', di', qu', ?_, g2⟩
    rw [if_neg b0t, g1, qob_some, qun5_eq, Bool.true_and]
    cases brV R C r d j s
    · rw [if_pos b0f]; rfl
    · rw [if_neg b0t]; rfl
set_option maxRecDepth 20000 in
theorem Mbrs {R C : Nat} {rt dn : Nat → Bool} {r d : Int64} {mr md ms : Nat → Int32} (hz : Mz R C rt dn) (hr : bs r rt) (hd : bs d dn) (hm : ∀ i, i < 36 → mr i = b2i (rt i) ∧ md i = b2i (dn i)) (hsh : ∀ i, i < 36 → ms i = 0) (di qu : Nat → Int32) :
    ∃ mr' md' di' qu', fX10_bridges (nI R) (nI C) mr md di qu ms = some (nI (brC R C rt dn r d 36), mr', md', di', qu') ∧ ∀ i, i < 36 → mr' i = b2i (rt i) ∧ md' i = b2i (dn i) := by
  obtain ⟨e, g1, mr', md', di', qu', rfl, g2⟩ := qlp_idx (f := lb_X10_bridges_1 (nI R) (nI C) ms) (fun k st => ∃ (mr' md' di' qu' : Nat → Int32), st = (nI (brC R C rt dn r d k), nI k, mr', md', di', qu') ∧ ∀ i, i < 36 → mr' i = b2i (rt i) ∧ md' i = b2i (dn i)) 36 (fun e => ∃ (mr' md' di' qu' : Nat → Int32), e = (nI (brC R C rt dn r d 36), mr', md', di', qu') ∧ ∀ i, i < 36 → mr' i = b2i (rt i) ∧ md' i = b2i (dn i)) (by
    rintro k st hk ⟨mr', md', di', qu', rfl, hm'⟩
    rw [ls_X10_bridges_1]
    by_cases h : k = 36
    · right
      subst h
      exact ⟨_, by rw [if_pos (y36 (Nat.le_refl 36) (by decide))], mr', md', di', qu', rfl, hm'⟩
    · left
      have hk36 : k < 36 := by omega
      obtain ⟨mr2, md2, di2, qu2, a1, a2⟩ := Mbr1 (r := r) (d := d) hz hr hd hm' hsh (j := k) (s := 1) (Or.inl rfl) di' qu'
      obtain ⟨mr3, md3, di3, qu3, b1, b2⟩ := Mbr1 (r := r) (d := d) hz hr hd a2 hsh (j := k) (s := 2) (Or.inr rfl) di2 qu2
      have o1 : opS rt dn k 1 = rt k := rfl
      have o2 : opS rt dn k 2 = dn k := rfl
      rw [o1] at a1
      rw [o2] at b1
      refine ⟨hk36, (nI (brC R C rt dn r d (k + 1)), nI (k + 1), mr3, md3, di3, qu3), ?_, mr3, md3, di3, qu3, rfl, b2⟩
      rw [if_neg (n36 hk36), qgd_nI hk36 (by decide), nI_clamp (by omega), (hm' k hk36).1]
      have a1 : (if b2i (rt k) = 0 then some ((0 : Int32), mr', md', di', qu') else Option.bind (fX10_isBridge (nI R) (nI C) mr' md' di' qu' ms (nI k) 1) (qun5 fun (r_2 : Int32) (m_right_6 : Nat → Int32) (m_down_6 : Nat → Int32) (m_dist_6 : Nat → Int32) (m_queue_6 : Nat → Int32) => if r_2 = 0 then some (0, m_right_6, m_down_6, m_dist_6, m_queue_6) else some (1, m_right_6, m_down_6, m_dist_6, m_queue_6))) = _ := a1
      have b1 : (if b2i (dn k) = 0 then some ((0 : Int32), mr2, md2, di2, qu2) else Option.bind (fX10_isBridge (nI R) (nI C) mr2 md2 di2 qu2 ms (nI k) 2) (qun5 fun (r_2 : Int32) (m_right_6 : Nat → Int32) (m_down_6 : Nat → Int32) (m_dist_6 : Nat → Int32) (m_queue_6 : Nat → Int32) => if r_2 = 0 then some (0, m_right_6, m_down_6, m_dist_6, m_queue_6) else some (1, m_right_6, m_down_6, m_dist_6, m_queue_6))) = _ := b1
      rw [a1, qob_some, qun5_eq, qgd_nI hk36 (by decide), (a2 k hk36).2, b1, qob_some, qun5_eq, nI_add, nI_add, nI_1]
      rfl) qFU (qFU_gt (by decide)) ((0 : Int32), (0 : Int32), mr, md, di, qu) ⟨mr, md, di, qu, rfl, hm⟩
  refine ⟨mr', md', di', qu', ?_, g2⟩
  rw [le_X10_bridges, g1, qob_some]
/-! must counted -/
def mustB (rt dn : Nat → Bool) (D : Nat → Nat) (a b : Nat) : Nat → Bool := fun j => Pt D b && (decide (j = a) || decide (j = b) || badM rt dn D a b j)
set_option maxRecDepth 20000 in
theorem Mmust {R C : Nat} {rt dn : Nat → Bool} {mr md ms : Nat → Int32} (hz : Mz R C rt dn) (hm : ∀ i, i < 36 → mr i = b2i (rt i) ∧ md i = b2i (dn i)) (hsh : ∀ i, i < 36 → ms i = 0) {a b i : Nat} (ha : isC R C a) (hb : isC R C b) (ci : isC R C i) {D : Nat → Nat} (hL : LF R C rt dn (fun _ => false) a D) (di qu : Nat → Int32) :
    ∃ di' qu' ms', fX10_isMust (nI R) (nI C) (nI a) (nI b) mr md di qu ms (nI i) = some (b2i (mustB rt dn D a b i), di', qu', ms') ∧ ∀ i, i < 36 → ms' i = 0 := by
  have hi := isC_lt hz ci
  have ha36 := isC_lt hz ha
  have hb36 := isC_lt hz hb
  obtain ⟨d1, u1, D', g1, g2⟩ := Mfar (sh := fun _ => false) (ms := ms) hz hm (fun i hi => by rw [hsh i hi]; rfl) ha hb36 di qu
  have eD : D' b = D b := by rw [LF_dN hz g2 hb36, LF_dN hz hL hb36]
  have hsm := hL.2.1 b hb36
  unfold fX10_isMust mustB
  rw [g1, qob_some, qun3_eq, eD]
  by_cases e9 : D b = 9999
  · have hP : Pt D b = false := decide_eq_false (fun q => q e9)
    rw [if_pos (show nI (D b) = 9999 by rw [e9]; rfl), hP]
    exact ⟨d1, u1, ms, rfl, hsh⟩
  · have hP : Pt D b = true := decide_eq_true e9
    rw [if_neg (show ¬ nI (D b) = 9999 from nI_ne (b := 9999) (by omega) (by decide) e9), hP]
    by_cases ea : i = a
    · subst ea
      rw [if_pos rfl]
      exact ⟨d1, u1, ms, by simp; rfl, hsh⟩
    · rw [if_neg (show ¬ nI i = nI a from nI_ne (by omega) (by omega) ea)]
      by_cases eb : i = b
      · subst eb
        rw [if_pos rfl]
        exact ⟨d1, u1, ms, by simp; rfl, hsh⟩
      · rw [if_neg (show ¬ nI i = nI b from nI_ne (by omega) (by omega) eb), qgd_nI hi (by decide), nI_clamp (by omega)]
        obtain ⟨d2, u2, D1, g3, g4⟩ := Mfar (sh := fun k => decide (k = i)) (ms := upd ms i (qnb 1)) hz hm (fun k hk => by
          unfold upd
          by_cases e : k = i
          · rw [if_pos e]; simp [e]; rfl
          · rw [if_neg e, hsh k hk]; simp [e]; rfl) ha hb36 d1 u1
        have hsm1 := g4.2.1 b hb36
        rw [g3, qob_some, qun3_eq, bad_iff hz ha36 hb36 ea hL hP g4]
        have hs2 : ∀ k, k < 36 → upd (upd ms i (qnb 1)) i (qnb 0) k = 0 := by
          intro k hk
          unfold upd
          by_cases e : k = i
          · rw [if_pos e]; rfl
          · rw [if_neg e, if_neg e]; exact hsh k hk
        by_cases f9 : D1 b = 9999
        · rw [if_pos (show nI (D1 b) = 9999 by rw [f9]; rfl), qob_some, qun1_eq, qgd_nI hi (by decide)]
          exact ⟨d2, u2, _, by simp [ea, eb, f9]; rfl, hs2⟩
        · rw [if_neg (show ¬ nI (D1 b) = 9999 from nI_ne (b := 9999) (by omega) (by decide) f9), qob_some, qun1_eq, qgd_nI hi (by decide)]
          exact ⟨d2, u2, _, by simp [ea, eb, f9]; rfl, hs2⟩
theorem mustB_cell {R C : Nat} {rt dn : Nat → Bool} (hz : Mz R C rt dn) {a b i : Nat} (ha : isC R C a) (hb : isC R C b) (hi : i < 36) {D : Nat → Nat} (hL : LF R C rt dn (fun _ => false) a D) (h : mustB rt dn D a b i = true) : isC R C i := by
  unfold mustB at h
  rw [Bool.and_eq_true, Bool.or_eq_true, Bool.or_eq_true, decide_eq_true_eq, decide_eq_true_eq] at h
  rcases h.2 with (q | q) | q
  · rw [q]; exact ha
  · rw [q]; exact hb
  · unfold badM at q
    rw [Bool.and_eq_true] at q
    have := of_decide_eq_true q.1
    rcases hL.2.1 i hi with w | w
    · exact absurd w this
    · exact w.2
set_option maxRecDepth 20000 in
theorem Mmusts {R C : Nat} {rt dn : Nat → Bool} {mr md ms : Nat → Int32} (hz : Mz R C rt dn) (hm : ∀ i, i < 36 → mr i = b2i (rt i) ∧ md i = b2i (dn i)) (hsh : ∀ i, i < 36 → ms i = 0) {a b : Nat} (ha : isC R C a) (hb : isC R C b) {D : Nat → Nat} (hL : LF R C rt dn (fun _ => false) a D) (di qu : Nat → Int32) :
    ∃ di' qu' ms', qlp qFU (lb_X10_about_2 (nI R) (nI C) (nI a) (nI b) mr md 9) ((0 : Int32), (0 : Int32), di, qu, ms) = some (nI (cn (mustB rt dn D a b) 36), di', qu', ms') ∧ ∀ i, i < 36 → ms' i = 0 := by
  have hRC := hz.1
  have hCC := hz.2.1
  obtain ⟨e, g1, di', qu', ms', rfl, g2⟩ := qlp_idx (f := lb_X10_about_2 (nI R) (nI C) (nI a) (nI b) mr md 9) (fun k st => ∃ (di' qu' ms' : Nat → Int32), st = (nI (cn (mustB rt dn D a b) k), nI k, di', qu', ms') ∧ ∀ i, i < 36 → ms' i = 0) 36 (fun e => ∃ (di' qu' ms' : Nat → Int32), e = (nI (cn (mustB rt dn D a b) 36), di', qu', ms') ∧ ∀ i, i < 36 → ms' i = 0) (by
    rintro k st hk ⟨di', qu', ms', rfl, hs'⟩
    rw [ls_X10_about_2]
    by_cases h : k = 36
    · right
      subst h
      exact ⟨_, by rw [if_pos (y36 (Nat.le_refl 36) (by decide))], di', qu', ms', rfl, hs'⟩
    · left
      have hk36 : k < 36 := by omega
      refine ⟨hk36, ?_⟩
      have en : cn (mustB rt dn D a b) (k + 1) = cn (mustB rt dn D a b) k + (mustB rt dn D a b k).toNat := rfl
      rw [if_neg (n36 hk36), if_pos rfl, isThere_ok R (by omega) C (by omega) k hk36, en]
      cases hc : cellS R C k with
      | false =>
        have : mustB rt dn D a b k = false := by
          cases q : mustB rt dn D a b k with
          | false => rfl
          | true => rw [cellS_iff.mpr (mustB_cell hz ha hb hk36 hL q)] at hc; cases hc
        rw [if_pos b0f, qob_some, qun4_eq, this]
        exact ⟨_, rfl, di', qu', ms', by rw [nI_1, nI_p0]; rfl, hs'⟩
      | true =>
        obtain ⟨d2, u2, s2, m1, m2⟩ := Mmust hz hm hs' ha hb (cellS_iff.mp hc) hL di' qu'
        rw [if_neg b0t, m1, qob_some, qun4_eq]
        cases mustB rt dn D a b k
        · rw [if_pos b0f, qob_some, qun4_eq]
          exact ⟨_, rfl, d2, u2, s2, by rw [nI_1, nI_p0]; rfl, m2⟩
        · rw [if_neg b0t, qob_some, qun4_eq]
          exact ⟨_, rfl, d2, u2, s2, by rw [nI_1, nI_1]; rfl, m2⟩) qFU (qFU_gt (by decide)) ((0 : Int32), (0 : Int32), di, qu, ms) ⟨di, qu, ms, rfl, hsh⟩
  exact ⟨di', qu', ms', g1, g2⟩

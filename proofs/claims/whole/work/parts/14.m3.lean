/-! maze -/
def psT (C j : Nat) : Nat := j / 6 * (C + 1) + j % 6
def mzR (tx : Nat → Nat) (R C : Nat) : Nat → Bool := fun j => cellS R C j && decide ((tx (psT C j) - 48) % 2 = 1)
def mzD (tx : Nat → Nat) (R C : Nat) : Nat → Bool := fun j => cellS R C j && decide (2 ≤ tx (psT C j) - 48)
theorem psT_d {C j : Nat} (h : j % 6 < C) : psT C j / (C + 1) = j / 6 ∧ psT C j % (C + 1) = j % 6 := by
  unfold psT
  rw [Nat.add_comm]
  constructor
  · rw [Nat.add_mul_div_right _ _ (by omega), Nat.div_eq_of_lt (by omega), Nat.zero_add]
  · rw [Nat.add_mul_mod_self_right, Nat.mod_eq_of_lt (by omega)]
theorem rdF_Mz {tx : Nat → Nat} {len R C : Nat} {rd : Nat → Int32} (h : rdF tx len R C rd) : Mz R C (mzR tx R C) (mzD tx R C) := by
  obtain ⟨h1, h2, h3, h4, h5, h6, h7⟩ := h
  refine ⟨h1, h2, fun j q => ?_, fun j q => ?_⟩
  · unfold mzR at q
    rw [Bool.and_eq_true, cellS_iff, decide_eq_true_eq] at q
    refine ⟨q.1.1, ?_⟩
    have hc := q.1.2
    by_cases e : j % 6 + 1 = C
    · have := h6 (j / 6) q.1.1
      have w := q.2
      unfold psT at w
      rw [show C - 1 = j % 6 by omega] at this
      omega
    · omega
  · unfold mzD at q
    rw [Bool.and_eq_true, cellS_iff, decide_eq_true_eq] at q
    refine ⟨?_, q.1.2⟩
    have hr := q.1.1
    by_cases e : j / 6 + 1 = R
    · have := h7 (j % 6) q.1.2
      have w := q.2
      unfold psT at w
      rw [show R - 1 = j / 6 by omega] at this
      omega
    · omega
theorem Mz_sub {R C : Nat} {rt dn A B : Nat → Bool} (hz : Mz R C rt dn) (hA : ∀ j, A j = true → rt j = true) (hB : ∀ j, B j = true → dn j = true) : Mz R C A B := ⟨hz.1, hz.2.1, fun j q => hz.2.2.1 j (hA j q), fun j q => hz.2.2.2 j (hB j q)⟩
/-- an opening to the right or down set as it is told; at the rim nothing is set -/
theorem CsetA {R C : Nat} {A B : Nat → Bool} {r d : Int64} (hz : Mz R C A B) (hr : bs r A) (hd : bs d B) {j s : Nat} (cj : isC R C j) (hs : s = 1 ∨ s = 2) {v : Bool} (hv : rimB R C j s = false → v = false) :
    ∃ r' d', fX1_setOpen (cwv R C) r d (nI (pl j)) (nI s) (b2i v) = (r', d') ∧ bs r' (if s = 1 then upB A j v else A) ∧ bs d' (if s = 2 then upB B j v else B) := by
  have hs4 : s < 4 := by omega
  cases hrim : rimB R C j s with
  | true =>
    obtain ⟨r', d', c1, c2, c3⟩ := Cset hz hr hd cj hs4 hrim v
    refine ⟨r', d', c1, ?_, ?_⟩
    · rcases hs with rfl | rfl
      · exact c2
      · exact c2
    · rcases hs with rfl | rfl
      · exact c3
      · exact c3
  | false =>
    have hvf := hv hrim
    subst hvf
    have hA : ∀ S : Nat → Bool, S j = false → upB S j false = S := fun S q => by
      funext k
      unfold upB
      by_cases e : k = j
      · rw [if_pos e, e, q]
      · rw [if_neg e]
    refine ⟨r, d, ?_, ?_, ?_⟩
    · unfold fX1_setOpen
      rw [Cbeside R (by have := hz.1; omega) C (by have := hz.2.1; omega) j (isC_lt hz cj) s hs4 cj, hrim, if_neg Bool.false_ne_true, if_pos rfl]
    · rcases hs with rfl | rfl
      · rw [if_pos rfl, hA A]
        · exact hr
        · cases q : A j with
          | false => rfl
          | true => have := op_rim hz hs4 (show opS A B j 1 = true from q); rw [hrim] at this; cases this
      · rw [if_neg (by decide)]
        exact hr
    · rcases hs with rfl | rfl
      · rw [if_neg (by decide)]
        exact hd
      · rw [if_pos rfl, hA B]
        · exact hd
        · cases q : B j with
          | false => rfl
          | true => have := op_rim hz hs4 (show opS A B j 2 = true from q); rw [hrim] at this; cases this
set_option maxRecDepth 20000 in
theorem Cwidth {tx : Nat → Nat} {len R C : Nat} {rd sb : Nat → Int32} (h : rdF tx len R C rd) (hlen : len ≤ 41) (ht : ∀ j, j < len → tx j < 256 ∧ sb j = nI (tx j)) : fX5_firstWidth (nI len) sb = some (nI C) := by
  obtain ⟨h1, h2, h3, h4, h5, h6, h7⟩ := h
  have hmul : R = 1 ∨ 2 * (C + 1) ≤ R * (C + 1) := by
    by_cases q : R = 1
    · exact Or.inl q
    · exact Or.inr (Nat.mul_le_mul_right _ (by omega))
  have hlC : C ≤ len := by
    rcases hmul with q | q
    · rw [q] at h3; omega
    · omega
  have hs : qlp qFU (lb_X5_firstWidth_1 (nI len) sb) (0 : Int32) = some (nI C) := by
    refine qlp_seq (f := lb_X5_firstWidth_1 (nI len) sb) (fun k => nI k) C _ (fun k hk => ?_) ?_ qFU (qFU_gt (by omega))
    · have hd := (h4 0 k (by omega) hk).1
      rw [Nat.zero_mul, Nat.zero_add] at hd
      rw [ls_X5_firstWidth_1, if_neg (nI_ge (by omega) (by omega)), if_neg (show ¬ (6 : Int32) ≤ nI k from nI_ge (b := 6) (by omega) (by decide)), qgd_nI (by omega) (by decide), nI_clamp (by omega), (ht k (by omega)).2, if_neg (show ¬ nI (tx k) = (47 : Int32) from nI_ne (b := 47) (by omega) (by decide) (by omega)), nI_1]
    · rw [ls_X5_firstWidth_1]
      by_cases q1 : len ≤ C
      · rw [if_pos (nI_le q1 (by omega))]
      · rw [if_neg (nI_ge (by omega) (by omega))]
        by_cases q2 : 6 ≤ C
        · rw [if_pos (show (6 : Int32) ≤ nI C from nI_le (a := 6) q2 (by omega))]
        · have hR : 0 + 1 < R := by
            rcases hmul with q | q
            · rw [q] at h3; omega
            · by_cases w : R = 1
              · rw [w] at h3; omega
              · omega
          have h47 := h5 0 hR
          rw [Nat.zero_mul, Nat.zero_add] at h47
          rw [if_neg (show ¬ (6 : Int32) ≤ nI C from nI_ge (b := 6) (by omega) (by decide)), qgd_nI (by omega) (by decide), nI_clamp (by omega), (ht C (by omega)).2, h47, if_pos (show nI 47 = (47 : Int32) from rfl)]
  rw [le_X5_firstWidth, hs, qob_some]
theorem qgz_nI {α : Type} {n : Nat} (h : 0 < n) (hn : n < 2 ^ 31) (t : Option α) : qgz (nI n) t = t := by
  unfold qgz
  exact if_neg (show ¬ nI n = 0 from nI_ne (b := 0) hn (by decide) (by omega))
set_option maxRecDepth 20000 in
set_option maxHeartbeats 1000000 in
theorem Ccopy {tx : Nat → Nat} {len R C : Nat} {rd sb : Nat → Int32} (h : rdF tx len R C rd) (hlen : len ≤ 41) (ht : ∀ j, j < len → tx j < 256 ∧ sb j = nI (tx j)) (x1 x2 x3 x4 : Int32) (y1 y2 y3 : Int64) :
    ∃ r' d', fX5_copyTo (nI len) sb x1 x2 x3 x4 y1 y2 y3 = some (nI R, nI C, 0, nI (pl (6 * (R - 1) + (C - 1))), cwv R C, r', d') ∧ bs r' (mzR tx R C) ∧ bs d' (mzD tx R C) := by
  have hz := rdF_Mz h
  have hw := Cwidth h hlen ht
  obtain ⟨h1, h2, h3, h4, h5, h6, h7⟩ := h
  have hAz : ∀ n, Mz R C (fun j => mzR tx R C j && decide (psT C j < n)) (fun j => mzD tx R C j && decide (psT C j < n)) := fun n => Mz_sub hz (fun j q => by rw [Bool.and_eq_true] at q; exact q.1) (fun j q => by rw [Bool.and_eq_true] at q; exact q.1)
  obtain ⟨e, g1, r', d', rfl, g2, g3⟩ := qlp_idx (f := lb_X5_copyTo_1 (nI len) sb (nI C) (cwv R C)) (fun n st => ∃ r' d', st = (nI n, r', d') ∧ bs r' (fun j => mzR tx R C j && decide (psT C j < n)) ∧ bs d' (fun j => mzD tx R C j && decide (psT C j < n))) len (fun e => ∃ r' d', e = (r', d') ∧ bs r' (mzR tx R C) ∧ bs d' (mzD tx R C)) (by
    rintro n st hn ⟨r', d', rfl, b1, b2⟩
    rw [ls_X5_copyTo_1]
    by_cases hend : n = len
    · right
      subst hend
      have full : ∀ j, cellS R C j = true → psT C j < n := fun j q => by
        have cj := cellS_iff.mp q
        unfold psT
        have : (j / 6 + 1) * (C + 1) ≤ R * (C + 1) := Nat.mul_le_mul_right _ (by have := cj.1; omega)
        rw [Nat.succ_mul] at this
        have := cj.2
        omega
      refine ⟨_, by rw [if_pos (nI_le (Nat.le_refl n) (by omega))], r', d', rfl, bs_congr b1 (fun j _ => ?_), bs_congr b2 (fun j _ => ?_)⟩
      · unfold mzR
        cases q : cellS R C j with
        | false => rfl
        | true => rw [decide_eq_true (full j q), Bool.and_true]
      · unfold mzD
        cases q : cellS R C j with
        | false => rfl
        | true => rw [decide_eq_true (full j q), Bool.and_true]
    · left
      have hnl : n < len := by omega
      have hdm : (C + 1) * (n / (C + 1)) + n % (C + 1) = n := Nat.div_add_mod n (C + 1)
      have hmlt : n % (C + 1) < C + 1 := Nat.mod_lt _ (by omega)
      have hrR : n / (C + 1) < R := (Nat.div_lt_iff_lt_mul (by omega)).mpr (by omega)
      refine ⟨hnl, ?_⟩
      rw [if_neg (nI_ge hnl (by omega)), if_neg (show ¬ (41 : Int32) ≤ nI n from nI_ge (b := 41) (by omega) (by decide)), nI_1 C, qgz_nI (by omega) (by omega), qgz_nI (by omega) (by omega), nI_rem (by omega) (by omega) (by omega), nI_div (by omega) (by omega) (by omega)]
      generalize hq : n / (C + 1) = q at hdm hrR ⊢
      generalize hc : n % (C + 1) = c at hdm hmlt ⊢
      rw [Nat.mul_comm] at hdm
      by_cases hcC : C ≤ c
      · rw [if_pos (nI_le hcC (by omega))]
        have no : ∀ j, isC R C j → psT C j ≠ n := fun j cj w => by
          have := (psT_d cj.2).2
          rw [w, hc] at this
          have := cj.2
          omega
        refine ⟨_, rfl, r', d', by rw [nI_1], bs_congr b1 (fun j _ => ?_), bs_congr b2 (fun j _ => ?_)⟩
        · unfold mzR
          cases w : cellS R C j with
          | false => rfl
          | true =>
            have := no j (cellS_iff.mp w)
            rw [show decide (psT C j < n + 1) = decide (psT C j < n) from decide_eq_decide.mpr (by omega)]
        · unfold mzD
          cases w : cellS R C j with
          | false => rfl
          | true =>
            have := no j (cellS_iff.mp w)
            rw [show decide (psT C j < n + 1) = decide (psT C j < n) from decide_eq_decide.mpr (by omega)]
      · rw [if_neg (nI_ge (by omega) (by omega))]
        have c6 : c < 6 := by omega
        have q6 : q < 6 := by omega
        have cj : isC R C (6 * q + c) := ⟨by omega, by omega⟩
        have epl : (nI q * 8 + nI c : Int32) = nI (pl (6 * q + c)) := by
          rw [show (nI q * 8 : Int32) = nI (q * 8) from nI_mul q 8, nI_add]
          congr 1
          unfold pl
          omega
        have epos : psT C (6 * q + c) = n := by
          unfold psT
          rw [show (6 * q + c) / 6 = q by omega, show (6 * q + c) % 6 = c by omega]
          exact hdm
        have hdig := (h4 q c hrR (by omega)).1
        rw [hdm] at hdig
        have hci := c_in (tx n - 48) (by omega)
        rw [show 48 + (tx n - 48) = tx n by omega] at hci
        have vR : mzR tx R C (6 * q + c) = decide ((tx n - 48) % 2 = 1) := by unfold mzR; rw [cellS_iff.mpr cj, epos, Bool.true_and]
        have vD : mzD tx R C (6 * q + c) = decide (2 ≤ tx n - 48) := by unfold mzD; rw [cellS_iff.mpr cj, epos, Bool.true_and]
        have nxt : ∀ (S : Nat → Bool), (∀ j, S j = true → isC R C j) → ∀ j, j < 36 → upB (fun j => S j && decide (psT C j < n)) (6 * q + c) (S (6 * q + c)) j = (S j && decide (psT C j < n + 1)) := fun S hS j _ => by
          unfold upB
          by_cases e : j = 6 * q + c
          · subst e
            rw [if_pos rfl, epos, decide_eq_true (by omega), Bool.and_true]
          · rw [if_neg e]
            show (S j && decide (psT C j < n)) = _
            cases w : S j with
            | false => rfl
            | true =>
              have cj2 := hS j w
              have : psT C j ≠ n := fun w2 => e (by
                have := psT_d cj2.2
                rw [w2, hq, hc] at this
                omega)
              rw [show decide (psT C j < n + 1) = decide (psT C j < n) from decide_eq_decide.mpr (by omega)]
        simp only [qbd]
        rw [epl, qgd_nI (by omega) (by decide), nI_clamp (by omega), (ht n hnl).2, hci.2.2.1, hci.2.2.2.1, ← vR, ← vD]
        obtain ⟨r1, d1, c1, c2, c3⟩ := CsetA (hAz n) b1 b2 cj (s := 1) (Or.inl rfl) (v := mzR tx R C (6 * q + c)) (fun w => by
          cases w2 : mzR tx R C (6 * q + c) with
          | false => rfl
          | true => have := op_rim hz (s := 1) (by decide) (show opS (mzR tx R C) (mzD tx R C) (6 * q + c) 1 = true from w2); rw [w] at this; cases this)
        rw [if_pos rfl] at c2
        rw [if_neg (by decide)] at c3
        have c2 := bs_congr c2 (nxt (mzR tx R C) (fun j w => by unfold mzR at w; rw [Bool.and_eq_true, cellS_iff] at w; exact w.1))
        have hz1 : Mz R C (fun j => mzR tx R C j && decide (psT C j < n + 1)) (fun j => mzD tx R C j && decide (psT C j < n)) := Mz_sub hz (fun j q => by rw [Bool.and_eq_true] at q; exact q.1) (fun j q => by rw [Bool.and_eq_true] at q; exact q.1)
        obtain ⟨r2, d2, c4, c5, c6'⟩ := CsetA hz1 c2 c3 cj (s := 2) (Or.inr rfl) (v := mzD tx R C (6 * q + c)) (fun w => by
          cases w2 : mzD tx R C (6 * q + c) with
          | false => rfl
          | true => have := op_rim hz (s := 2) (by decide) (show opS (mzR tx R C) (mzD tx R C) (6 * q + c) 2 = true from w2); rw [w] at this; cases this)
        rw [if_neg (by decide)] at c5
        rw [if_pos rfl] at c6'
        have c6' := bs_congr c6' (nxt (mzD tx R C) (fun j w => by unfold mzD at w; rw [Bool.and_eq_true, cellS_iff] at w; exact w.1))
        rw [show fX1_setOpen (cwv R C) r' d' (nI (pl (6 * q + c))) 1 (b2i (mzR tx R C (6 * q + c))) = _ from c1, qun2_eq, show fX1_setOpen (cwv R C) r1 d1 (nI (pl (6 * q + c))) 2 (b2i (mzD tx R C (6 * q + c))) = _ from c4, qun2_eq]
        exact ⟨_, rfl, r2, d2, by rw [nI_1], c5, c6'⟩) qFU (qFU_gt (by omega)) ((0 : Int32), (0 : Int64), (0 : Int64)) ⟨0, 0, rfl, bs_congr bs_0 (fun j _ => by simp), bs_congr bs_0 (fun j _ => by simp)⟩
  refine ⟨r', d', ?_, g2, g3⟩
  have eR : (nI len + 1 : Int32) / nI (C + 1) = nI R := by
    rw [nI_1, nI_div (by omega) (by omega) (by omega), h3, Nat.mul_div_cancel _ (by omega)]
  rw [le_X5_copyTo, hw, qob_some, qun1_eq, if_pos (show (1 : Int32) ≤ nI C from nI_le (a := 1) (by omega) (by omega)), nI_1 C, qgz_nI (by omega) (by omega), eR, Cshut h1 h2, qob_some, qun7_eq, g1, qob_some]
set_option maxRecDepth 20000 in
theorem Mshut {R C : Nat} (hR : 1 ≤ R ∧ R ≤ 6) (hC : 1 ≤ C ∧ C ≤ 6) (x1 x2 x3 x4 : Int32) (mr md : Nat → Int32) : ∃ mr' md', fX10_shutAll x1 x2 x3 x4 mr md (nI R) (nI C) = some (nI R, nI C, 0, nI (6 * (R - 1) + (C - 1)), mr', md') ∧ ∀ i, i < 36 → mr' i = 0 ∧ md' i = 0 := by
  obtain ⟨e, g1, mr', md', rfl, g2⟩ := qlp_idx (f := lb_X10_shutAll_1) (fun k st => ∃ mr' md', st = (nI k, mr', md') ∧ ∀ j, j < k → mr' j = 0 ∧ md' j = 0) 36 (fun e => ∃ mr' md', e = (mr', md') ∧ ∀ j, j < 36 → mr' j = 0 ∧ md' j = 0) (by
    rintro k st hk ⟨mr', md', rfl, h⟩
    rw [ls_X10_shutAll_1]
    by_cases q : k = 36
    · right
      subst q
      exact ⟨_, by rw [if_pos (y36 (Nat.le_refl 36) (by decide))], mr', md', rfl, h⟩
    · left
      have hk36 : k < 36 := by omega
      refine ⟨hk36, _, by rw [if_neg (n36 hk36), qgd_nI hk36 (by decide), qgd_nI hk36 (by decide), nI_clamp (by omega)], _, _, by rw [nI_1], fun j hj => ?_⟩
      unfold upd
      by_cases e2 : j = k
      · rw [if_pos e2, if_pos e2]; exact ⟨rfl, rfl⟩
      · rw [if_neg e2, if_neg e2]; exact h j (by omega)) qFU (qFU_gt (by decide)) ((0 : Int32), mr, md) ⟨mr, md, rfl, fun j hj => absurd hj (Nat.not_lt_zero j)⟩
  refine ⟨mr', md', ?_, g2⟩
  have eb : (((6 * (nI R - 1)) + nI C) - 1 : Int32) = nI (6 * (R - 1) + (C - 1)) := by
    rw [show (nI R - 1 : Int32) = nI (R - 1) from nI_sub (b := 1) hR.1, show (6 * nI (R - 1) : Int32) = nI (6 * (R - 1)) from nI_mul 6 (R - 1), nI_add, show (nI (6 * (R - 1) + C) - 1 : Int32) = nI (6 * (R - 1) + C - 1) from nI_sub (b := 1) (by omega), show 6 * (R - 1) + C - 1 = 6 * (R - 1) + (C - 1) by omega]
  rw [le_X10_shutAll, g1, qob_some, qun2_eq, eb]
def doB (r c j : Nat) : Bool := decide (j / 6 < r) || (decide (j / 6 = r) && decide (j % 6 < c))
theorem doB_s {r c j : Nat} (hc : c < 6) : doB r (c + 1) j = (doB r c j || decide (j = 6 * r + c)) := by
  unfold doB
  rw [Bool.eq_iff_iff]
  simp only [Bool.or_eq_true, Bool.and_eq_true, decide_eq_true_eq]
  omega
set_option maxRecDepth 20000 in
theorem Mmz2 {tx : Nat → Nat} {len R C : Nat} {rd : Nat → Int32} (h : rdF tx len R C rd) {r : Nat} (hr : r < R) {mr md : Nat → Int32} (hm : ∀ j, j < 36 → mr j = b2i (mzR tx R C j && doB r 0 j) ∧ md j = b2i (mzD tx R C j && doB r 0 j)) :
    ∃ mr' md', qlp qFU (lb_X10_maze_2 rd (nI C) (nI r)) ((0 : Int32), mr, md) = some (mr', md') ∧ ∀ j, j < 36 → mr' j = b2i (mzR tx R C j && doB (r + 1) 0 j) ∧ md' j = b2i (mzD tx R C j && doB (r + 1) 0 j) := by
  obtain ⟨h1, h2, h3, h4, h5, h6, h7⟩ := h
  obtain ⟨e, g1, mr', md', rfl, g2⟩ := qlp_idx (f := lb_X10_maze_2 rd (nI C) (nI r)) (fun c st => ∃ mr' md', st = (nI c, mr', md') ∧ ∀ j, j < 36 → mr' j = b2i (mzR tx R C j && doB r c j) ∧ md' j = b2i (mzD tx R C j && doB r c j)) C (fun e => ∃ mr' md', e = (mr', md') ∧ ∀ j, j < 36 → mr' j = b2i (mzR tx R C j && doB (r + 1) 0 j) ∧ md' j = b2i (mzD tx R C j && doB (r + 1) 0 j)) (by
    rintro c st hc ⟨mr', md', rfl, hm'⟩
    rw [ls_X10_maze_2]
    by_cases q : c = C
    · right
      subst q
      have key : ∀ j, cellS R c j = true → doB r c j = doB (r + 1) 0 j := fun j w => by
        have cj := cellS_iff.mp w
        unfold doB
        have := cj.2
        rw [Bool.eq_iff_iff]
        simp only [Bool.or_eq_true, Bool.and_eq_true, decide_eq_true_eq]
        omega
      refine ⟨_, by rw [if_pos (nI_le (Nat.le_refl c) (by omega))], mr', md', rfl, fun j hj => ?_⟩
      rw [(hm' j hj).1, (hm' j hj).2]
      unfold mzR mzD
      cases w : cellS R c j with
      | false => exact ⟨rfl, rfl⟩
      | true => rw [key j w]; exact ⟨rfl, rfl⟩
    · left
      have hcC : c < C := by omega
      have hd := h4 r c hr hcC
      have hlt : 6 * r + c < 36 := by omega
      have ei : ((6 * nI r) + nI c : Int32) = nI (6 * r + c) := by rw [show (6 * nI r : Int32) = nI (6 * r) from nI_mul 6 r, nI_add]
      have ep : psT C (6 * r + c) = r * (C + 1) + c := by
        unfold psT
        rw [show (6 * r + c) / 6 = r by omega, show (6 * r + c) % 6 = c by omega]
      have cj : cellS R C (6 * r + c) = true := cellS_iff.mpr ⟨by omega, by omega⟩
      have vR : mzR tx R C (6 * r + c) = decide ((tx (r * (C + 1) + c) - 48) % 2 = 1) := by unfold mzR; rw [cj, ep, Bool.true_and]
      have vD : mzD tx R C (6 * r + c) = decide (2 ≤ tx (r * (C + 1) + c) - 48) := by unfold mzD; rw [cj, ep, Bool.true_and]
      have hci := c_in (tx (r * (C + 1) + c) - 48) (by omega)
      have upk : ∀ (m : Nat → Int32) (S : Nat → Bool), (∀ j, j < 36 → m j = b2i (S j && doB r c j)) → ∀ j, j < 36 → upd m (6 * r + c) (qnb (b2i (S (6 * r + c)))) j = b2i (S j && doB r (c + 1) j) := by
        intro m S w j hj
        unfold upd
        rw [doB_s (by omega)]
        by_cases e : j = 6 * r + c
        · rw [if_pos e, qnb_b2i, e]
          simp
        · rw [if_neg e, decide_eq_false e, Bool.or_false]
          exact w j hj
      refine ⟨hcC, (nI (c + 1), upd mr' (6 * r + c) (qnb (b2i (mzR tx R C (6 * r + c)))), upd md' (6 * r + c) (qnb (b2i (mzD tx R C (6 * r + c))))), ?_, _, _, rfl, fun j hj => ⟨upk mr' (mzR tx R C) (fun j hj => (hm' j hj).1) j hj, upk md' (mzD tx R C) (fun j hj => (hm' j hj).2) j hj⟩⟩
      have e1 : (if qrem (nI (tx (r * (C + 1) + c) - 48)) 2 = 1 then some (1 : Int32) else some 0) = some (b2i (mzR tx R C (6 * r + c))) := by
        rw [vR]
        by_cases w : (tx (r * (C + 1) + c) - 48) % 2 = 1
        · rw [if_pos (hci.2.2.2.2.1.mpr w), decide_eq_true w]; rfl
        · rw [if_neg (fun x => w (hci.2.2.2.2.1.mp x)), decide_eq_false w]; rfl
      rw [if_neg (nI_ge hcC (by omega)), ei, qgd_nI hlt (by decide), nI_clamp (by omega), hd.2, e1, qob_some, qun1_eq, qgd_nI hlt (by decide)]
      simp only [qbd]
      rw [qgd_nI hlt (by decide), qgd_nI hlt (by decide), qgd_nI hlt (by decide), nI_1, vD]
      by_cases w : 2 ≤ tx (r * (C + 1) + c) - 48
      · rw [if_neg (fun x => (hci.2.2.2.2.2.2.mp x) w), decide_eq_true w]
        rfl
      · rw [if_pos (hci.2.2.2.2.2.2.mpr w), decide_eq_false w]
        rfl) qFU (qFU_gt (by omega)) ((0 : Int32), mr, md) ⟨mr, md, rfl, hm⟩
  exact ⟨mr', md', g1, g2⟩
set_option maxRecDepth 20000 in
theorem Mmz1 {tx : Nat → Nat} {len R C : Nat} {rd : Nat → Int32} (h : rdF tx len R C rd) {mr md : Nat → Int32} (hm : ∀ j, j < 36 → mr j = 0 ∧ md j = 0) :
    ∃ mr' md', qlp qFU (lb_X10_maze_1 rd (nI R) (nI C)) ((0 : Int32), mr, md) = some (mr', md') ∧ ∀ j, j < 36 → mr' j = b2i (mzR tx R C j) ∧ md' j = b2i (mzD tx R C j) := by
  have hR := h.1
  obtain ⟨e, g1, mr', md', rfl, g2⟩ := qlp_idx (f := lb_X10_maze_1 rd (nI R) (nI C)) (fun r st => ∃ mr' md', st = (nI r, mr', md') ∧ ∀ j, j < 36 → mr' j = b2i (mzR tx R C j && doB r 0 j) ∧ md' j = b2i (mzD tx R C j && doB r 0 j)) R (fun e => ∃ mr' md', e = (mr', md') ∧ ∀ j, j < 36 → mr' j = b2i (mzR tx R C j) ∧ md' j = b2i (mzD tx R C j)) (by
    rintro r st hr ⟨mr', md', rfl, hm'⟩
    rw [ls_X10_maze_1]
    by_cases q : r = R
    · right
      subst q
      refine ⟨_, by rw [if_pos (nI_le (Nat.le_refl r) (by omega))], mr', md', rfl, fun j hj => ?_⟩
      rw [(hm' j hj).1, (hm' j hj).2]
      unfold mzR mzD doB
      cases w : cellS r C j with
      | false => exact ⟨rfl, rfl⟩
      | true =>
        rw [decide_eq_true (cellS_iff.mp w).1, Bool.true_or, Bool.and_true, Bool.and_true]
        exact ⟨rfl, rfl⟩
    · left
      obtain ⟨mr2, md2, b1, b2⟩ := Mmz2 h (show r < R by omega) hm'
      exact ⟨by omega, (nI (r + 1), mr2, md2), by rw [if_neg (nI_ge (by omega) (by omega)), b1, qob_some, ← nI_1], mr2, md2, rfl, b2⟩) qFU (qFU_gt (by omega)) ((0 : Int32), mr, md) ⟨mr, md, rfl, fun j hj => by
      have : doB 0 0 j = false := by unfold doB; simp
      rw [this, Bool.and_false, Bool.and_false]
      exact hm j hj⟩
  exact ⟨mr', md', g1, g2⟩
set_option maxRecDepth 20000 in
theorem st_maze {sc_length : Int32} {sc_bytes : Nat → Int32} {g_rows : Int32} {g_columns : Int32} {g_a : Int32} {g_b : Int32} {g_cells : Int64} {g_right : Int64} {g_down : Int64} {m_textSize : Int32} {m_text : Nat → Int32} {m_rows : Int32} {m_columns : Int32} {m_a : Int32} {m_b : Int32} {m_right : Nat → Int32} {m_down : Nat → Int32} {m_shut : Nat → Int32} {m_keptFigures : Nat → Int32} {m_keptNumbers : Nat → Int32} {m_isKept : Nat → Int32} {m_thrown : Int32} {m_readRows : Int32} {m_readColumns : Int32} {m_read : Nat → Int32} {sl_f : Nat → Option Nat} {k0 k1 : Option (Nat × KG)}  (h : Rel sc_length sc_bytes (g_rows, g_columns, g_a, g_b, g_cells, g_right, g_down) sl_f k0 k1 m_textSize m_text m_rows m_columns m_a m_b m_right m_down m_shut m_keptFigures m_keptNumbers m_isKept) : ∃ (r : Int32) (g_rows' : Int32) (g_columns' : Int32) (g_a' : Int32) (g_b' : Int32) (g_cells' : Int64) (g_right' : Int64) (g_down' : Int64) (m_thrown' : Int32) (m_rows' : Int32) (m_columns' : Int32) (m_a' : Int32) (m_b' : Int32) (m_readRows' : Int32) (m_readColumns' : Int32) (m_right' : Nat → Int32) (m_down' : Nat → Int32) (m_read' : Nat → Int32), fX9_maze sc_length sc_bytes g_rows g_columns g_a g_b g_cells g_right g_down = some (r, g_rows', g_columns', g_a', g_b', g_cells', g_right', g_down') ∧ fX10_maze m_thrown m_textSize m_rows m_columns m_a m_b m_readRows m_readColumns m_text m_right m_down m_read = some (r, m_thrown', m_rows', m_columns', m_a', m_b', m_readRows', m_readColumns', m_right', m_down', m_read') ∧ Rel sc_length sc_bytes (g_rows', g_columns', g_a', g_b', g_cells', g_right', g_down') sl_f k0 k1 m_textSize m_text m_rows' m_columns' m_a' m_b' m_right' m_down' m_shut m_keptFigures m_keptNumbers m_isKept := by
  obtain ⟨R, C, rt, dn, a, b, n, tx, z0, z1, hz, ha, hb, rfl, rfl, rfl, rfl, rfl, hr, hd, rfl, rfl, rfl, rfl, hm, ht, hsh, h0, h1, e0, e1⟩ := id h.un
  obtain ⟨t1, rfl, rfl, t4⟩ := id ht
  obtain ⟨v, rr, rc, rd, g1, g2, g3⟩ := read_both t1 t4 m_readRows m_readColumns m_read
  rw [le_X10_maze]
  unfold fX9_maze
  rw [g1, g2, qob_some, qun1_eq, qob_some, qun4_eq]
  by_cases hv : v = -9
  · obtain ⟨R', C', rfl, rfl, hF⟩ := g3 hv
    obtain ⟨r', d', c1, c2, c3⟩ := Ccopy hF t1 (fun j hj => ⟨(t4 j hj).1, (t4 j hj).2.1⟩) (nI R) (nI C) (nI (pl a)) (nI (pl b)) (cwv R C) g_right g_down
    obtain ⟨mr1, md1, m1, m2⟩ := Mshut hF.1 hF.2.1 (nI R) (nI C) (nI a) (nI b) m_right m_down
    obtain ⟨mr2, md2, m3, m4⟩ := Mmz1 hF m2
    have hR := hF.1
    have hC := hF.2.1
    have hRel := Rel.mk (sc_length := nI n) (sc_bytes := sc_bytes) (sl_f := sl_f) (rdF_Mz hF) (a := 0) (b := 6 * (R' - 1) + (C' - 1)) ⟨by omega, by omega⟩ ⟨by omega, by omega⟩ c2 c3 m4 ht hsh h0 h1 e0 e1
    rw [if_pos hv, if_pos hv, c1, qob_some, qun7_eq, m1, qob_some, qun6_eq, m3, qob_some]
    exact ⟨_, _, _, _, _, _, _, _, _, _, _, _, _, _, _, _, _, _, rfl, rfl, hRel⟩
  · rw [if_neg hv, if_neg hv]
    exact ⟨_, _, _, _, _, _, _, _, _, _, _, _, _, _, _, _, _, _, rfl, rfl, h⟩

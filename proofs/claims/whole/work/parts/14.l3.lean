/-! turned by the reference; same, turn -/
def ctr (t : Nat) (o : Nat → Bool) : Nat → Nat
  | 0 => 0
  | s + 1 => ctr t o s + (if o s && (decide (1 ≤ tS t s) && decide (tS t s ≤ 2)) then tS t s else 0)
theorem ctr_congr {t : Nat} {o p : Nat → Bool} : ∀ n, (∀ s, s < n → o s = p s) → ctr t o n = ctr t p n
  | 0, _ => rfl
  | n + 1, h => by
    show ctr t o n + (if o n && _ then _ else 0) = ctr t p n + (if p n && _ then _ else 0)
    rw [ctr_congr n (fun s hs => h s (by omega)), h n (by omega)]
theorem ctr4_all : ∀ t, t < 8 → ∀ b0 b1 b2 b3 : Bool, ctr t (fun s => if s = 0 then b0 else if s = 1 then b1 else if s = 2 then b2 else b3) 4 = ((fun s => if s = 0 then b0 else if s = 1 then b1 else if s = 2 then b2 else b3) (tS (tv t) 1)).toNat + 2 * ((fun s => if s = 0 then b0 else if s = 1 then b1 else if s = 2 then b2 else b3) (tS (tv t) 2)).toNat := by decide +kernel
theorem ctr4 {t : Nat} (ht : t < 8) (o : Nat → Bool) : ctr t o 4 = (o (tS (tv t) 1)).toNat + 2 * (o (tS (tv t) 2)).toNat := by
  have e : ∀ s, s < 4 → o s = (fun s => if s = 0 then o 0 else if s = 1 then o 1 else if s = 2 then o 2 else o 3) s := by
    intro s hs
    rcases (show s = 0 ∨ s = 1 ∨ s = 2 ∨ s = 3 by omega) with rfl | rfl | rfl | rfl <;> rfl
  have hv := (tS_facts t ht 0 (by decide)).2.2.2.2.2.2.1
  rw [ctr_congr 4 e, ctr4_all t ht, ← e _ (tS_facts (tv t) hv 1 (by decide)).1, ← e _ (tS_facts (tv t) hv 2 (by decide)).1]
theorem in12 : ∀ u, u < 4 → fX10_in (nI u).toInt64 1 2 = b2i (decide (1 ≤ u) && decide (u ≤ 2)) := by decide +kernel
def fgT (R C : Nat) (rt dn : Nat → Bool) (t j : Nat) : Nat := (rtT R C rt dn t j).toNat + 2 * (dnT R C rt dn t j).toNat
theorem ctr_le (t : Nat) (o : Nat → Bool) : ∀ n, ctr t o n ≤ 3 * n
  | 0 => Nat.le_refl 0
  | n + 1 => by
    have := ctr_le t o n
    have h : tS t n < 4 := Nat.mod_lt _ (by decide)
    show ctr t o n + (if o n && (decide (1 ≤ tS t n) && decide (tS t n ≤ 2)) then tS t n else 0) ≤ 3 * (n + 1)
    split <;> omega
set_option maxRecDepth 20000 in
theorem Mlt3 {R C : Nat} {rt dn : Nat → Bool} {mr md : Nat → Int32} (hz : Mz R C rt dn) (hm : ∀ i, i < 36 → mr i = b2i (rt i) ∧ md i = b2i (dn i)) {t : Nat} (ht : t < 8) {i : Nat} (hi : i < 36) {td : Nat → Int32} (h0 : isC R C i → td (tI R C t i) = 0) :
    ∃ td', qlp qFU (lb_X10_layTurned_3 (nI R) (nI C) mr md (nI t) (nI i)) ((0 : Int32), td) = some td' ∧ (isC R C i → td' (tI R C t i) = nI (ctr t (opS rt dn i) 4) ∧ ∀ j, j ≠ tI R C t i → td' j = td j) ∧ (¬ isC R C i → td' = td) := by
  have hRC := hz.1
  have hCC := hz.2.1
  cases hc : cellS R C i with
  | false =>
    have hn : ¬ isC R C i := fun q => by rw [cellS_iff.mpr q] at hc; cases hc
    refine ⟨td, ?_, fun q => absurd q hn, fun _ => rfl⟩
    refine qlp_seq (f := lb_X10_layTurned_3 (nI R) (nI C) mr md (nI t) (nI i)) (fun _ => ((0 : Int32), td)) 0 _ (fun k hk => absurd hk (Nat.not_lt_zero k)) ?_ qFU (qFU_gt (by decide))
    rw [ls_X10_layTurned_3, if_neg (by decide), isThere_ok R (by omega) C (by omega) i hi, hc, if_pos b0f]
  | true =>
    have ci := cellS_iff.mp hc
    have hT := tI_cell hz ht ci
    have h36 := isC_lt (MzE (t := t) hz) hT.1
    obtain ⟨e, g1, g2, g3⟩ := qlp_idx (f := lb_X10_layTurned_3 (nI R) (nI C) mr md (nI t) (nI i)) (fun s st => ∃ td', st = (nI s, td') ∧ td' (tI R C t i) = nI (ctr t (opS rt dn i) s) ∧ ∀ j, j ≠ tI R C t i → td' j = td j) 4 (fun e => e (tI R C t i) = nI (ctr t (opS rt dn i) 4) ∧ ∀ j, j ≠ tI R C t i → e j = td j) (by
      rintro s st hs ⟨td', rfl, a1, a2⟩
      rw [ls_X10_layTurned_3]
      by_cases h : s = 4
      · right
        subst h
        exact ⟨td', by rw [if_pos (y4 (Nat.le_refl 4) (by decide))], a1, a2⟩
      · left
        have hs4 : s < 4 := by omega
        have hf := tS_facts t ht s hs4
        have en : ctr t (opS rt dn i) (s + 1) = ctr t (opS rt dn i) s + (if opS rt dn i s && (decide (1 ≤ tS t s) && decide (tS t s ≤ 2)) then tS t s else 0) := rfl
        refine ⟨hs4, ?_⟩
        rw [if_neg (n4 hs4), isThere_ok R (by omega) C (by omega) i hi, hc, if_neg b0t, Mopen hz hm ci hs4, qob_some, qun1_eq, en, hf.2.2.2.2.2.1, in12 _ hf.1, tI_m hz ht ci]
        cases ho : opS rt dn i s with
        | false =>
          rw [if_pos b0f, Bool.false_and, if_neg Bool.false_ne_true]
          exact ⟨_, rfl, td', by rw [nI_1], a1, a2⟩
        | true =>
          rw [if_neg b0t, Bool.true_and]
          cases hq : (decide (1 ≤ tS t s) && decide (tS t s ≤ 2)) with
          | false =>
            rw [if_pos b0f, if_neg Bool.false_ne_true]
            exact ⟨_, rfl, td', by rw [nI_1], a1, a2⟩
          | true =>
            rw [if_neg b0t, if_pos rfl, qob_some, qun1_eq, qgd_nI h36 (by decide), qgd_nI h36 (by decide)]
            simp only [qbd]
            rw [nI_clamp (by omega), a1, nI_add]
            refine ⟨_, rfl, _, by rw [nI_1], ?_, fun j hj => ?_⟩
            · unfold upd; rw [if_pos rfl]
            · unfold upd; rw [if_neg hj]; exact a2 j hj) qFU (qFU_gt (by decide)) ((0 : Int32), td) ⟨td, rfl, h0 ci, fun _ _ => rfl⟩
    exact ⟨e, g1, fun _ => ⟨g2, g3⟩, fun q => absurd ci q⟩
set_option maxRecDepth 20000 in
theorem Mlt1 (td : Nat → Int32) : ∃ td', qlp qFU (lb_X10_layTurned_1) ((0 : Int32), td) = some td' ∧ ∀ i, i < 36 → td' i = 0 := by
  obtain ⟨e, g1, g2⟩ := qlp_idx (f := lb_X10_layTurned_1) (fun k st => ∃ d', st = (nI k, d') ∧ ∀ j, j < k → d' j = 0) 36 (fun e => ∀ j, j < 36 → e j = 0) (by
    rintro k st hk ⟨d', rfl, h⟩
    rw [ls_X10_layTurned_1]
    by_cases q : k = 36
    · right
      subst q
      exact ⟨d', by rw [if_pos (y36 (Nat.le_refl 36) (by decide))], h⟩
    · left
      have hk36 : k < 36 := by omega
      refine ⟨hk36, _, by rw [if_neg (n36 hk36), qgd_nI hk36 (by decide), nI_clamp (by omega)], _, by rw [nI_1], fun j hj => ?_⟩
      unfold upd
      by_cases e2 : j = k
      · rw [if_pos e2]
      · rw [if_neg e2]; exact h j (by omega)) qFU (qFU_gt (by decide)) ((0 : Int32), td) ⟨td, rfl, fun j hj => absurd hj (Nat.not_lt_zero j)⟩
  exact ⟨e, g1, g2⟩
set_option maxRecDepth 20000 in
theorem Mlt {R C : Nat} {rt dn : Nat → Bool} {mr md : Nat → Int32} (hz : Mz R C rt dn) (hm : ∀ i, i < 36 → mr i = b2i (rt i) ∧ md i = b2i (dn i)) {t : Nat} (ht : t < 8) (x1 x2 : Int32) (td : Nat → Int32) :
    ∃ td', fX10_layTurned (nI R) (nI C) x1 x2 mr md td (nI t) = some (nI (tR R C t), nI (tC R C t), td') ∧ ∀ j, j < 36 → td' j = nI (fgT R C rt dn t j) := by
  obtain ⟨t0, z1, z2⟩ := Mlt1 td
  obtain ⟨e, g1, g2⟩ := qlp_idx (f := lb_X10_layTurned_2 (nI R) (nI C) mr md (nI t)) (fun k st => ∃ td', st = (nI k, td') ∧ ∀ j, j < 36 → td' j = if cellS (tR R C t) (tC R C t) j = true ∧ tI (tR R C t) (tC R C t) (tv t) j < k then nI (fgT R C rt dn t j) else 0) 36 (fun e => ∀ j, j < 36 → e j = nI (fgT R C rt dn t j)) (by
    rintro k st hk ⟨td', rfl, h⟩
    rw [ls_X10_layTurned_2]
    by_cases q : k = 36
    · right
      subst q
      refine ⟨td', by rw [if_pos (y36 (Nat.le_refl 36) (by decide))], fun j hj => ?_⟩
      rw [h j hj]
      cases hc : cellS (tR R C t) (tC R C t) j with
      | true => rw [if_pos ⟨rfl, isC_lt hz (tI_back hz ht (cellS_iff.mp hc)).1⟩]
      | false =>
        rw [if_neg (fun w => Bool.false_ne_true w.1)]
        unfold fgT rtT dnT
        rw [hc]
        rfl
    · left
      have hk36 : k < 36 := by omega
      obtain ⟨t2, b1, b2, b3⟩ := Mlt3 hz hm ht hk36 (td := td') (fun ck => by
        have hT := tI_cell hz ht ck
        rw [h _ (isC_lt (MzE (t := t) hz) hT.1), if_neg (fun w => by have := w.2; rw [hT.2] at this; omega)])
      refine ⟨hk36, (nI (k + 1), t2), by rw [if_neg (n36 hk36), b1, qob_some, ← nI_1], t2, rfl, fun j hj => ?_⟩
      have key : (cellS (tR R C t) (tC R C t) j = true ∧ tI (tR R C t) (tC R C t) (tv t) j < k + 1) ↔ ((cellS (tR R C t) (tC R C t) j = true ∧ tI (tR R C t) (tC R C t) (tv t) j < k) ∨ (isC R C k ∧ j = tI R C t k)) := by
        constructor
        · rintro ⟨w1, w2⟩
          by_cases e : tI (tR R C t) (tC R C t) (tv t) j = k
          · have hb := tI_back hz ht (cellS_iff.mp w1)
            rw [e] at hb
            exact Or.inr ⟨hb.1, hb.2.symm⟩
          · exact Or.inl ⟨w1, by omega⟩
        · rintro (⟨w1, w2⟩ | ⟨w1, rfl⟩)
          · exact ⟨w1, by omega⟩
          · have hT := tI_cell hz ht w1
            exact ⟨cellS_iff.mpr hT.1, by rw [hT.2]; omega⟩
      by_cases ck : isC R C k
      · by_cases e : j = tI R C t k
        · rw [if_pos (key.mpr (Or.inr ⟨ck, e⟩)), e, (b2 ck).1, ctr4 ht]
          unfold fgT
          rw [(tT_of hz ht ck).1, (tT_of hz ht ck).2]
        · rw [(b2 ck).2 j e, h j hj]
          by_cases w : cellS (tR R C t) (tC R C t) j = true ∧ tI (tR R C t) (tC R C t) (tv t) j < k
          · rw [if_pos w, if_pos (key.mpr (Or.inl w))]
          · rw [if_neg w, if_neg (fun v => by
              rcases key.mp v with v | v
              · exact w v
              · exact e v.2)]
      · rw [b3 ck, h j hj]
        by_cases w : cellS (tR R C t) (tC R C t) j = true ∧ tI (tR R C t) (tC R C t) (tv t) j < k
        · rw [if_pos w, if_pos (key.mpr (Or.inl w))]
        · rw [if_neg w, if_neg (fun v => by
            rcases key.mp v with v | v
            · exact w v
            · exact ck v.1)]) qFU (qFU_gt (by decide)) ((0 : Int32), t0) ⟨t0, rfl, fun j hj => by rw [z2 j hj, if_neg (fun w => Nat.not_lt_zero _ w.2)]⟩
  refine ⟨e, ?_, g2⟩
  have hp : ∀ t, t < 8 → (qrem (nI t) 2 = 0 ↔ ¬ t % 2 = 1) := by decide +kernel
  have e1 : (if qrem (nI t) 2 = 0 then some (nI R) else some (nI C)) = some (nI (tR R C t)) := by
    unfold tR
    by_cases q : t % 2 = 1
    · rw [if_pos q, if_neg (fun w => (hp t ht).mp w q)]
    · rw [if_neg q, if_pos ((hp t ht).mpr q)]
  have e2 : (if qrem (nI t) 2 = 0 then some (nI C) else some (nI R)) = some (nI (tC R C t)) := by
    unfold tC
    by_cases q : t % 2 = 1
    · rw [if_pos q, if_neg (fun w => (hp t ht).mp w q)]
    · rw [if_neg q, if_pos ((hp t ht).mpr q)]
  rw [le_X10_layTurned, e1, qob_some, qun1_eq, e2, qob_some, qun1_eq, z1, qob_some, qun1_eq, g1, qob_some]
def alB (g : Nat → Bool) : Nat → Bool
  | 0 => true
  | k + 1 => alB g k && g k
theorem alB_iff {g : Nat → Bool} : ∀ n, alB g n = true ↔ ∀ i, i < n → g i = true
  | 0 => ⟨fun _ i hi => absurd hi (Nat.not_lt_zero i), fun _ => rfl⟩
  | n + 1 => by
    show (alB g n && g n) = true ↔ _
    rw [Bool.and_eq_true, alB_iff n]
    constructor
    · rintro ⟨h1, h2⟩ i hi
      by_cases e : i = n
      · rw [e]; exact h2
      · exact h1 i (by omega)
    · intro h
      exact ⟨fun i hi => h i (by omega), h n (by omega)⟩
theorem fig_eq : ∀ a b c d : Bool, decide (nI (a.toNat + 2 * b.toNat) = nI (c.toNat + 2 * d.toNat)) = (decide (a = c) && decide (b = d)) := by decide +kernel
def smT (R C : Nat) (rt dn : Nat → Bool) (t : Nat) : Bool := (decide (tR R C t = R) && decide (tC R C t = C)) && alB (fun i => decide (rtT R C rt dn t i = rt i) && decide (dnT R C rt dn t i = dn i)) 36
set_option maxRecDepth 20000 in
theorem Msame {R C : Nat} {rt dn : Nat → Bool} {mr md td : Nat → Int32} (hz : Mz R C rt dn) (hm : ∀ i, i < 36 → mr i = b2i (rt i) ∧ md i = b2i (dn i)) {t : Nat} (hT : ∀ j, j < 36 → td j = nI (fgT R C rt dn t j)) : fX10_isSame (nI R) (nI C) (nI (tR R C t)) (nI (tC R C t)) mr md td = some (b2i (smT R C rt dn t)) := by
  have hRC := hz.1
  have hCC := hz.2.1
  have hok := tR_ok (t := t) hz
  have e0 : (if nI (tR R C t) = nI R then if nI (tC R C t) = nI C then some (1 : Int32) else some 0 else some 0) = some (b2i (decide (tR R C t = R) && decide (tC R C t = C))) := by
    by_cases q1 : tR R C t = R
    · rw [if_pos (by rw [q1]), decide_eq_true q1]
      by_cases q2 : tC R C t = C
      · rw [if_pos (by rw [q2]), decide_eq_true q2]; rfl
      · rw [if_neg (nI_ne (by omega) (by omega) q2), decide_eq_false q2]; rfl
    · rw [if_neg (nI_ne (by omega) (by omega) q1), decide_eq_false q1]; rfl
  have hs : qlp qFU (lb_X10_isSame_1 mr md td) (b2i (decide (tR R C t = R) && decide (tC R C t = C)), (0 : Int32)) = some (b2i (smT R C rt dn t)) := by
    have h := qlp_seq (f := lb_X10_isSame_1 mr md td) (fun k => (b2i ((decide (tR R C t = R) && decide (tC R C t = C)) && alB (fun i => decide (rtT R C rt dn t i = rt i) && decide (dnT R C rt dn t i = dn i)) k), nI k)) 36 (b2i (smT R C rt dn t)) (fun k hk => by
      rw [ls_X10_isSame_1, if_neg (n36 hk)]
      have ea : alB (fun i => decide (rtT R C rt dn t i = rt i) && decide (dnT R C rt dn t i = dn i)) (k + 1) = (alB (fun i => decide (rtT R C rt dn t i = rt i) && decide (dnT R C rt dn t i = dn i)) k && (decide (rtT R C rt dn t k = rt k) && decide (dnT R C rt dn t k = dn k))) := rfl
      rw [ea, ← Bool.and_assoc]
      cases ((decide (tR R C t = R) && decide (tC R C t = C)) && alB (fun i => decide (rtT R C rt dn t i = rt i) && decide (dnT R C rt dn t i = dn i)) k) with
      | false => rw [if_pos b0f, nI_1]; rfl
      | true =>
        rw [if_neg b0t, qgd_nI hk (by decide), nI_clamp (by omega), Mfig (hm k hk).1 (hm k hk).2 hk, qob_some, qun1_eq, hT k hk, Bool.true_and, ← fig_eq]
        unfold fgT
        by_cases q : nI ((rtT R C rt dn t k).toNat + 2 * (dnT R C rt dn t k).toNat) = nI ((rt k).toNat + 2 * (dn k).toNat)
        · rw [if_pos q, decide_eq_true q, nI_1]; rfl
        · rw [if_neg q, decide_eq_false q, nI_1]; rfl) (by
      rw [ls_X10_isSame_1, if_pos (y36 (Nat.le_refl 36) (by decide))]
      rfl) qFU (qFU_gt (by decide))
    have e1 : ((decide (tR R C t = R) && decide (tC R C t = C)) && alB (fun i => decide (rtT R C rt dn t i = rt i) && decide (dnT R C rt dn t i = dn i)) 0) = (decide (tR R C t = R) && decide (tC R C t = C)) := Bool.and_true _
    rw [e1] at h
    exact h
  rw [le_X10_isSame, e0, qob_some, qun1_eq, hs, qob_some, qun1_eq, qnb_b2i]
theorem Csame {R C : Nat} {rt dn : Nat → Bool} {r d r' d' : Int64} (hz : Mz R C rt dn) (hr : bs r rt) (hd : bs d dn) {t : Nat} (hr' : bs r' (rtT R C rt dn t)) (hd' : bs d' (dnT R C rt dn t)) : fX1_looksLike (nI (tR R C t)) (nI (tC R C t)) r' d' (nI R) (nI C) r d = b2i (smT R C rt dn t) := by
  have hRC := hz.1
  have hCC := hz.2.1
  have hok := tR_ok (t := t) hz
  have hal : alB (fun i => decide (rtT R C rt dn t i = rt i) && decide (dnT R C rt dn t i = dn i)) 36 = true ↔ (r' = r ∧ d' = d) := by
    rw [alB_iff, bs_eq hr' hr, bs_eq hd' hd]
    constructor
    · intro h
      refine ⟨fun i hi => ?_, fun i hi => ?_⟩
      · have := h i hi
        rw [Bool.and_eq_true, decide_eq_true_eq, decide_eq_true_eq] at this
        exact this.1
      · have := h i hi
        rw [Bool.and_eq_true, decide_eq_true_eq, decide_eq_true_eq] at this
        exact this.2
    · rintro ⟨h1, h2⟩ i hi
      rw [Bool.and_eq_true, decide_eq_true_eq, decide_eq_true_eq]
      exact ⟨h1 i hi, h2 i hi⟩
  unfold fX1_looksLike smT
  by_cases q1 : tR R C t = R
  · rw [if_pos (by rw [q1]), decide_eq_true q1]
    by_cases q2 : tC R C t = C
    · rw [if_pos (by rw [q2]), decide_eq_true q2]
      by_cases q3 : r' = r
      · rw [if_pos (lg_0.mpr q3)]
        by_cases q4 : d' = d
        · rw [if_pos (lg_0.mpr q4), hal.mpr ⟨q3, q4⟩]; rfl
        · rw [if_neg (fun w => q4 (lg_0.mp w))]
          cases w : alB (fun i => decide (rtT R C rt dn t i = rt i) && decide (dnT R C rt dn t i = dn i)) 36 with
          | false => rfl
          | true => exact absurd (hal.mp w).2 q4
      · rw [if_neg (fun w => q3 (lg_0.mp w))]
        cases w : alB (fun i => decide (rtT R C rt dn t i = rt i) && decide (dnT R C rt dn t i = dn i)) 36 with
        | false => rfl
        | true => exact absurd (hal.mp w).1 q3
    · rw [if_neg (nI_ne (by omega) (by omega) q2), decide_eq_false q2]; rfl
  · rw [if_neg (nI_ne (by omega) (by omega) q1), decide_eq_false q1]; rfl
theorem fig_back : ∀ x y : Bool, (if qrem (nI (x.toNat + 2 * y.toNat)) 2 = 1 then some (1 : Int32) else some 0) = some (b2i x) ∧ decide (nI (x.toNat + 2 * y.toNat) ≤ (1 : Int32)) = !y := by decide +kernel
set_option maxRecDepth 20000 in
theorem Mcopy {R C : Nat} {rt dn : Nat → Bool} {t : Nat} {td : Nat → Int32} (hT : ∀ j, j < 36 → td j = nI (fgT R C rt dn t j)) (mr md : Nat → Int32) : ∃ mr' md', qlp qFU (lb_X10_turn_1 td) ((0 : Int32), mr, md) = some (mr', md') ∧ ∀ i, i < 36 → mr' i = b2i (rtT R C rt dn t i) ∧ md' i = b2i (dnT R C rt dn t i) := by
  obtain ⟨e, g1, mr', md', rfl, g2⟩ := qlp_idx (f := lb_X10_turn_1 td) (fun k st => ∃ mr' md', st = (nI k, mr', md') ∧ ∀ i, i < k → mr' i = b2i (rtT R C rt dn t i) ∧ md' i = b2i (dnT R C rt dn t i)) 36 (fun e => ∃ mr' md', e = (mr', md') ∧ ∀ i, i < 36 → mr' i = b2i (rtT R C rt dn t i) ∧ md' i = b2i (dnT R C rt dn t i)) (by
    rintro k st hk ⟨mr', md', rfl, h⟩
    rw [ls_X10_turn_1]
    by_cases q : k = 36
    · right
      subst q
      exact ⟨_, by rw [if_pos (y36 (Nat.le_refl 36) (by decide))], mr', md', rfl, h⟩
    · left
      have hk36 : k < 36 := by omega
      have hb := fig_back (rtT R C rt dn t k) (dnT R C rt dn t k)
      have upk : ∀ (m : Nat → Int32) (S : Nat → Bool), (∀ i, i < k → m i = b2i (S i)) → ∀ i, i < k + 1 → upd m k (qnb (b2i (S k))) i = b2i (S i) := by
        intro m S w i hi
        unfold upd
        by_cases e : i = k
        · rw [if_pos e, qnb_b2i, e]
        · rw [if_neg e]; exact w i (by omega)
      refine ⟨hk36, (nI (k + 1), upd mr' k (qnb (b2i (rtT R C rt dn t k))), upd md' k (qnb (b2i (dnT R C rt dn t k)))), ?_, _, _, rfl, fun i hi => ⟨upk mr' (rtT R C rt dn t) (fun i hi => (h i hi).1) i hi, upk md' (dnT R C rt dn t) (fun i hi => (h i hi).2) i hi⟩⟩
      rw [if_neg (n36 hk36), qgd_nI hk36 (by decide), nI_clamp (by omega), hT k hk36]
      unfold fgT
      rw [hb.1, qob_some, qun1_eq, qgd_nI hk36 (by decide), qgd_nI hk36 (by decide), qgd_nI hk36 (by decide), qgd_nI hk36 (by decide), nI_1]
      have h2 := hb.2
      cases hd : dnT R C rt dn t k with
      | false =>
        rw [hd] at h2
        rw [if_pos (of_decide_eq_true h2)]
        rfl
      | true =>
        rw [hd] at h2
        rw [if_neg (of_decide_eq_false h2)]
        rfl) qFU (qFU_gt (by decide)) ((0 : Int32), mr, md) ⟨mr, md, rfl, fun i hi => absurd hi (Nat.not_lt_zero i)⟩
  exact ⟨mr', md', g1, g2⟩
theorem t_two (p : Int32) : (p < 0 ∨ ¬ p < 8) ∧ fX10_in p.toInt64 0 7 = 0 ∨ ∃ t, t < 8 ∧ p = nI t ∧ ¬ p < 0 ∧ p < 8 ∧ ¬ fX10_in p.toInt64 0 7 = 0 := by
  by_cases h : p < 0
  · exact Or.inl ⟨Or.inl h, in_neg h _⟩
  · obtain ⟨q, hq, rfl⟩ := nI_of h
    have hin : fX10_in (nI q).toInt64 0 7 = b2i (decide (q ≤ 7)) := in_nI (m := 7) hq (by decide)
    by_cases h7 : q < 8
    · exact Or.inr ⟨q, h7, rfl, h, nI_lt (b := 8) h7 (by decide), by rw [hin, decide_eq_true (by omega)]; decide⟩
    · exact Or.inl ⟨Or.inr (nI_nlt (a := q) (b := 8) (by omega) hq), by rw [hin, decide_eq_false (by omega)]; rfl⟩
set_option maxRecDepth 20000 in
theorem st_same {sc_length : Int32} {sc_bytes : Nat → Int32} {g_rows : Int32} {g_columns : Int32} {g_a : Int32} {g_b : Int32} {g_cells : Int64} {g_right : Int64} {g_down : Int64} {m_textSize : Int32} {m_text : Nat → Int32} {m_rows : Int32} {m_columns : Int32} {m_a : Int32} {m_b : Int32} {m_right : Nat → Int32} {m_down : Nat → Int32} {m_shut : Nat → Int32} {m_keptFigures : Nat → Int32} {m_keptNumbers : Nat → Int32} {m_isKept : Nat → Int32} {tn_rows : Int32} {tn_columns : Int32} {tn_a : Int32} {tn_b : Int32} {tn_cells : Int64} {tn_right : Int64} {tn_down : Int64} {m_thrown : Int32} {m_turnedRows : Int32} {m_turnedColumns : Int32} {m_turned : Nat → Int32} {sl_f : Nat → Option Nat} {k0 k1 : Option (Nat × KG)} {p1 : Int32} (h : Rel sc_length sc_bytes (g_rows, g_columns, g_a, g_b, g_cells, g_right, g_down) sl_f k0 k1 m_textSize m_text m_rows m_columns m_a m_b m_right m_down m_shut m_keptFigures m_keptNumbers m_isKept) : ∃ (r : Int32) (tn_rows' : Int32) (tn_columns' : Int32) (tn_a' : Int32) (tn_b' : Int32) (tn_cells' : Int64) (tn_right' : Int64) (tn_down' : Int64) (m_thrown' : Int32) (m_turnedRows' : Int32) (m_turnedColumns' : Int32) (m_turned' : Nat → Int32), fX9_same g_rows g_columns g_a g_b g_right g_down tn_rows tn_columns tn_a tn_b tn_cells tn_right tn_down p1 = some (r, tn_rows', tn_columns', tn_a', tn_b', tn_cells', tn_right', tn_down') ∧ fX10_same m_thrown m_rows m_columns m_turnedRows m_turnedColumns m_right m_down m_turned p1 = some (r, m_thrown', m_turnedRows', m_turnedColumns', m_turned') ∧ Rel sc_length sc_bytes (g_rows, g_columns, g_a, g_b, g_cells, g_right, g_down) sl_f k0 k1 m_textSize m_text m_rows m_columns m_a m_b m_right m_down m_shut m_keptFigures m_keptNumbers m_isKept := by
  obtain ⟨R, C, rt, dn, a, b, n, tx, z0, z1, hz, ha, hb, rfl, rfl, rfl, rfl, rfl, hr, hd, rfl, rfl, rfl, rfl, hm, ht, hsh, h0, h1, e0, e1⟩ := id h.un
  unfold fX9_same fX10_same
  rcases t_two p1 with ⟨q, q2⟩ | ⟨t, ht8, rfl, q1, q2, q3⟩
  · rw [if_pos q2]
    by_cases q0 : p1 < 0
    · rw [if_pos q0]
      exact ⟨_, _, _, _, _, _, _, _, _, _, _, _, rfl, rfl, h⟩
    · rw [if_neg q0, if_neg (q.resolve_left q0)]
      exact ⟨_, _, _, _, _, _, _, _, _, _, _, _, rfl, rfl, h⟩
  · obtain ⟨r', d', c1, c2, c3⟩ := Cturn hz hr hd ht8 ha hb tn_rows tn_columns tn_a tn_b tn_cells tn_right tn_down
    obtain ⟨td', m1, m2⟩ := Mlt hz hm ht8 m_turnedRows m_turnedColumns m_turned
    rw [if_neg q1, if_pos q2, if_neg q3, c1, qob_some, qun7_eq, m1, qob_some, qun3_eq, Msame hz hm m2, qob_some, qun1_eq, Csame hz hr hd c2 c3]
    cases smT R C rt dn t
    · exact ⟨_, _, _, _, _, _, _, _, _, _, _, _, rfl, rfl, h⟩
    · exact ⟨_, _, _, _, _, _, _, _, _, _, _, _, rfl, rfl, h⟩
set_option maxRecDepth 20000 in
theorem st_turn {sc_length : Int32} {sc_bytes : Nat → Int32} {g_rows : Int32} {g_columns : Int32} {g_a : Int32} {g_b : Int32} {g_cells : Int64} {g_right : Int64} {g_down : Int64} {m_textSize : Int32} {m_text : Nat → Int32} {m_rows : Int32} {m_columns : Int32} {m_a : Int32} {m_b : Int32} {m_right : Nat → Int32} {m_down : Nat → Int32} {m_shut : Nat → Int32} {m_keptFigures : Nat → Int32} {m_keptNumbers : Nat → Int32} {m_isKept : Nat → Int32} {tn_rows : Int32} {tn_columns : Int32} {tn_a : Int32} {tn_b : Int32} {tn_cells : Int64} {tn_right : Int64} {tn_down : Int64} {m_thrown : Int32} {m_turnedRows : Int32} {m_turnedColumns : Int32} {m_turned : Nat → Int32} {sl_f : Nat → Option Nat} {k0 k1 : Option (Nat × KG)} {p1 : Int32} (h : Rel sc_length sc_bytes (g_rows, g_columns, g_a, g_b, g_cells, g_right, g_down) sl_f k0 k1 m_textSize m_text m_rows m_columns m_a m_b m_right m_down m_shut m_keptFigures m_keptNumbers m_isKept) : ∃ (r : Int32) (g_rows' : Int32) (g_columns' : Int32) (g_a' : Int32) (g_b' : Int32) (g_cells' : Int64) (g_right' : Int64) (g_down' : Int64) (tn_rows' : Int32) (tn_columns' : Int32) (tn_a' : Int32) (tn_b' : Int32) (tn_cells' : Int64) (tn_right' : Int64) (tn_down' : Int64) (m_thrown' : Int32) (m_rows' : Int32) (m_columns' : Int32) (m_a' : Int32) (m_b' : Int32) (m_turnedRows' : Int32) (m_turnedColumns' : Int32) (m_right' : Nat → Int32) (m_down' : Nat → Int32) (m_turned' : Nat → Int32), fX9_turn g_rows g_columns g_a g_b g_cells g_right g_down tn_rows tn_columns tn_a tn_b tn_cells tn_right tn_down p1 = some (r, g_rows', g_columns', g_a', g_b', g_cells', g_right', g_down', tn_rows', tn_columns', tn_a', tn_b', tn_cells', tn_right', tn_down') ∧ fX10_turn m_thrown m_rows m_columns m_a m_b m_turnedRows m_turnedColumns m_right m_down m_turned p1 = some (r, m_thrown', m_rows', m_columns', m_a', m_b', m_turnedRows', m_turnedColumns', m_right', m_down', m_turned') ∧ Rel sc_length sc_bytes (g_rows', g_columns', g_a', g_b', g_cells', g_right', g_down') sl_f k0 k1 m_textSize m_text m_rows' m_columns' m_a' m_b' m_right' m_down' m_shut m_keptFigures m_keptNumbers m_isKept := by
  obtain ⟨R, C, rt, dn, a, b, n, tx, z0, z1, hz, ha, hb, rfl, rfl, rfl, rfl, rfl, hr, hd, rfl, rfl, rfl, rfl, hm, ht, hsh, h0, h1, e0, e1⟩ := id h.un
  rw [le_X10_turn]
  unfold fX9_turn
  rcases t_two p1 with ⟨q, q2⟩ | ⟨t, ht8, rfl, q1, q2, q3⟩
  · rw [if_pos q2]
    by_cases q0 : p1 < 0
    · rw [if_pos q0]
      exact ⟨_, _, _, _, _, _, _, _, _, _, _, _, _, _, _, _, _, _, _, _, _, _, _, _, _, rfl, rfl, h⟩
    · rw [if_neg q0, if_neg (q.resolve_left q0)]
      exact ⟨_, _, _, _, _, _, _, _, _, _, _, _, _, _, _, _, _, _, _, _, _, _, _, _, _, rfl, rfl, h⟩
  · obtain ⟨r', d', c1, c2, c3⟩ := Cturn hz hr hd ht8 ha hb tn_rows tn_columns tn_a tn_b tn_cells tn_right tn_down
    obtain ⟨td', m1, m2⟩ := Mlt hz hm ht8 m_turnedRows m_turnedColumns m_turned
    obtain ⟨mr', md', m3, m4⟩ := Mcopy m2 m_right m_down
    have hR := Rel.mk (sc_length := sc_length) (sc_bytes := sc_bytes) (sl_f := sl_f) (tT_Mz hz ht8) (tI_cell hz ht8 ha).1 (tI_cell hz ht8 hb).1 c2 c3 m4 ht hsh h0 h1 e0 e1
    rw [if_neg q1, if_pos q2, if_neg q3, c1, qob_some, qun7_eq, m1, qob_some, qun3_eq, Msame hz hm m2, qob_some, qun1_eq, Csame hz hr hd c2 c3, tI_m hz ht8 ha, tI_m hz ht8 hb]
    cases smT R C rt dn t
    · refine ⟨1, nI (tR R C t), nI (tC R C t), nI (pl (tI R C t a)), nI (pl (tI R C t b)), cwv (tR R C t) (tC R C t), r', d', nI (tR R C t), nI (tC R C t), nI (pl (tI R C t a)), nI (pl (tI R C t b)), cwv (tR R C t) (tC R C t), r', d', 0, nI (tR R C t), nI (tC R C t), nI (tI R C t a), nI (tI R C t b), nI (tR R C t), nI (tC R C t), mr', md', td', ?_, ?_, hR⟩
      · rw [if_pos b0f, qob_some]
        rfl
      · rw [if_pos b0f, qob_some, qun1_eq, qob_some, qun1_eq, qob_some, qun1_eq, m3, qob_some]
    · refine ⟨0, nI (tR R C t), nI (tC R C t), nI (pl (tI R C t a)), nI (pl (tI R C t b)), cwv (tR R C t) (tC R C t), r', d', nI (tR R C t), nI (tC R C t), nI (pl (tI R C t a)), nI (pl (tI R C t b)), cwv (tR R C t) (tC R C t), r', d', 0, nI (tR R C t), nI (tC R C t), nI (tI R C t a), nI (tI R C t b), nI (tR R C t), nI (tC R C t), mr', md', td', ?_, ?_, hR⟩
      · rw [if_neg b0t, qob_some]
        rfl
      · rw [if_neg b0t, qob_some, qun1_eq, qob_some, qun1_eq, qob_some, qun1_eq, m3, qob_some]

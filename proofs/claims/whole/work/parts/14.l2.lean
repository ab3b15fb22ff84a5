/-! turned by the class -/
theorem Cshut_all : ∀ R, R < 7 → ∀ C, C < 7 → (!(decide (0 < R) && decide (0 < C)) || decide (qlp qFU (lb_X1_shutAll_1 (nI R) (nI C)) ((0 : Int32), (0 : Int64)) = some (cwv R C) ∧ ((((nI R - 1) * 8) + nI C) - 1 : Int32) = nI (pl (6 * (R - 1) + (C - 1))))) = true := by decide +kernel
theorem Cshut {R C : Nat} (hR : 1 ≤ R ∧ R ≤ 6) (hC : 1 ≤ C ∧ C ≤ 6) (x1 x2 x3 x4 : Int32) (y1 y2 y3 : Int64) : fX1_shutAll x1 x2 x3 x4 y1 y2 y3 (nI R) (nI C) = some (nI R, nI C, 0, nI (pl (6 * (R - 1) + (C - 1))), cwv R C, 0, 0) := by
  have h := Cshut_all R (by omega) C (by omega)
  rw [decide_eq_true (show 0 < R by omega), decide_eq_true (show 0 < C by omega)] at h
  simp only [Bool.and_self, Bool.not_true, Bool.false_or, decide_eq_true_eq] at h
  rw [le_X1_shutAll, h.1, qob_some, qun1_eq, h.2]
def tst (R C : Nat) (rt dn : Nat → Bool) (t : Nat) (AB : (Nat → Bool) × (Nat → Bool)) (k s : Nat) : (Nat → Bool) × (Nat → Bool) := if opS rt dn k s then (sr AB.1 (tI R C t k) (tS t s) true, sd AB.2 (tI R C t k) (tS t s) true) else AB
def tiA (R C : Nat) (rt dn : Nat → Bool) (t : Nat) (AB : (Nat → Bool) × (Nat → Bool)) (k : Nat) : Nat → (Nat → Bool) × (Nat → Bool)
  | 0 => AB
  | i + 1 => tst R C rt dn t (tiA R C rt dn t AB k i) k (i + 1)
def tA (R C : Nat) (rt dn : Nat → Bool) (t : Nat) : Nat → (Nat → Bool) × (Nat → Bool)
  | 0 => (fun _ => false, fun _ => false)
  | k + 1 => tiA R C rt dn t (tA R C rt dn t k) k 2
theorem tA_s (R C : Nat) (rt dn : Nat → Bool) (t k : Nat) : tA R C rt dn t (k + 1) = tst R C rt dn t (tst R C rt dn t (tA R C rt dn t k) k 1) k 2 := rfl
set_option maxRecDepth 20000 in
theorem Ctin {R C : Nat} {rt dn : Nat → Bool} {r d : Int64} (hz : Mz R C rt dn) (hr : bs r rt) (hd : bs d dn) {t : Nat} (ht : t < 8) {k : Nat} (hk : k < 36) {AB : (Nat → Bool) × (Nat → Bool)} (hAB : Mz (tR R C t) (tC R C t) AB.1 AB.2) {ra da : Int64} (h1 : bs ra AB.1) (h2 : bs da AB.2) :
    ∃ r' d', qlp qFU (lb_X1_turnOf_2 (nI R) (nI C) r d (nI t) (cwv (tR R C t) (tC R C t)) (nI (pl k))) ((1 : Int32), ra, da) = some (r', d') ∧ bs r' (tiA R C rt dn t AB k 2).1 ∧ bs d' (tiA R C rt dn t AB k 2).2 ∧ Mz (tR R C t) (tC R C t) (tiA R C rt dn t AB k 2).1 (tiA R C rt dn t AB k 2).2 := by
  obtain ⟨e, g1, r', d', rfl, g2⟩ := qlp_idx (f := lb_X1_turnOf_2 (nI R) (nI C) r d (nI t) (cwv (tR R C t) (tC R C t)) (nI (pl k)))
    (fun i st => ∃ r' d', st = (nI (i + 1), r', d') ∧ bs r' (tiA R C rt dn t AB k i).1 ∧ bs d' (tiA R C rt dn t AB k i).2 ∧ Mz (tR R C t) (tC R C t) (tiA R C rt dn t AB k i).1 (tiA R C rt dn t AB k i).2) 2
    (fun e => ∃ r' d', e = (r', d') ∧ bs r' (tiA R C rt dn t AB k 2).1 ∧ bs d' (tiA R C rt dn t AB k 2).2 ∧ Mz (tR R C t) (tC R C t) (tiA R C rt dn t AB k 2).1 (tiA R C rt dn t AB k 2).2) (by
    rintro i st hi ⟨r', d', rfl, b1, b2, b3⟩
    rw [ls_X1_turnOf_2]
    by_cases h : i = 2
    · right
      subst h
      exact ⟨_, by rw [if_pos (y2l (by decide) (by decide))], r', d', rfl, b1, b2, b3⟩
    · left
      refine ⟨by omega, ?_⟩
      have es : tiA R C rt dn t AB k (i + 1) = tst R C rt dn t (tiA R C rt dn t AB k i) k (i + 1) := rfl
      rw [if_neg (n2l (by omega)), Copen hr hd hk (by omega), es]
      generalize tiA R C rt dn t AB k i = W at b1 b2 b3 ⊢
      unfold tst
      cases ho : opS rt dn k (i + 1) with
      | false =>
        rw [if_pos b0f, if_neg Bool.false_ne_true]
        exact ⟨_, rfl, r', d', by rw [nI_1], b1, b2, b3⟩
      | true =>
        have ck := op_cell hz (show i + 1 = 1 ∨ i + 1 = 2 by omega) ho
        have hs4 : i + 1 < 4 := by omega
        have hc := tI_cell hz ht ck
        have hf := tS_facts t ht (i + 1) hs4
        have hrim : rimB (tR R C t) (tC R C t) (tI R C t k) (tS t (i + 1)) = true := by
          rw [(tI_mv hz ht ck hs4).1]
          exact op_rim hz hs4 ho
        obtain ⟨r2, d2, c1, c2, c3⟩ := Cset b3 b1 b2 hc.1 hf.1 hrim true
        rw [if_neg b0t, if_pos rfl, tI_c hz ht ck, tS_class t ht (i + 1) (by omega) (by omega), show fX1_setOpen (cwv (tR R C t) (tC R C t)) r' d' (nI (pl (tI R C t k))) (nI (tS t (i + 1))) 1 = _ from c1]
        exact ⟨_, rfl, r2, d2, by rw [nI_1], c2, c3, set_Mz b3 hc.1 hf.1 hrim true⟩) qFU (qFU_gt (by decide)) ((1 : Int32), ra, da) ⟨ra, da, rfl, h1, h2, hAB⟩
  exact ⟨r', d', g1, g2⟩
theorem sr_iff {A : Nat → Bool} {x u j : Nat} (hu : u < 4) : sr A x u true j = true ↔ A j = true ∨ (u = 1 ∧ j = x) ∨ (u = 3 ∧ j = x - 1) := by
  unfold sr upB
  rcases (show u = 0 ∨ u = 1 ∨ u = 2 ∨ u = 3 by omega) with rfl | rfl | rfl | rfl
  · simp
  · by_cases e : j = x <;> simp [e]
  · simp
  · by_cases e : j = x - 1 <;> simp [e]
theorem sd_iff {A : Nat → Bool} {x u j : Nat} (hu : u < 4) : sd A x u true j = true ↔ A j = true ∨ (u = 2 ∧ j = x) ∨ (u = 0 ∧ j = x - 6) := by
  unfold sd upB
  rcases (show u = 0 ∨ u = 1 ∨ u = 2 ∨ u = 3 by omega) with rfl | rfl | rfl | rfl
  · by_cases e : j = x - 6 <;> simp [e]
  · simp
  · by_cases e : j = x <;> simp [e]
  · simp
theorem tst_iff {R C : Nat} {rt dn : Nat → Bool} {t : Nat} (ht : t < 8) {AB : (Nat → Bool) × (Nat → Bool)} {k s j : Nat} (hs : s < 4) : ((tst R C rt dn t AB k s).1 j = true ↔ AB.1 j = true ∨ (opS rt dn k s = true ∧ ((tS t s = 1 ∧ j = tI R C t k) ∨ (tS t s = 3 ∧ j = mvN (tI R C t k) 3)))) ∧ ((tst R C rt dn t AB k s).2 j = true ↔ AB.2 j = true ∨ (opS rt dn k s = true ∧ ((tS t s = 2 ∧ j = tI R C t k) ∨ (tS t s = 0 ∧ j = mvN (tI R C t k) 0)))) := by
  have hf := tS_facts t ht s hs
  unfold tst
  cases ho : opS rt dn k s with
  | false =>
    rw [if_neg Bool.false_ne_true]
    simp
  | true =>
    rw [if_pos rfl]
    dsimp only
    rw [sr_iff hf.1, sd_iff hf.1]
    simp [mvN]
theorem tA_iff {R C : Nat} {rt dn : Nat → Bool} {t : Nat} (ht : t < 8) (j : Nat) : ∀ k, ((tA R C rt dn t k).1 j = true ↔ ∃ i s, i < k ∧ (s = 1 ∨ s = 2) ∧ opS rt dn i s = true ∧ ((tS t s = 1 ∧ j = tI R C t i) ∨ (tS t s = 3 ∧ j = mvN (tI R C t i) 3))) ∧ ((tA R C rt dn t k).2 j = true ↔ ∃ i s, i < k ∧ (s = 1 ∨ s = 2) ∧ opS rt dn i s = true ∧ ((tS t s = 2 ∧ j = tI R C t i) ∨ (tS t s = 0 ∧ j = mvN (tI R C t i) 0)))
  | 0 => ⟨⟨fun h => absurd h Bool.false_ne_true, fun ⟨i, s, hi, _⟩ => absurd hi (Nat.not_lt_zero i)⟩, ⟨fun h => absurd h Bool.false_ne_true, fun ⟨i, s, hi, _⟩ => absurd hi (Nat.not_lt_zero i)⟩⟩
  | k + 1 => by
    have ih := tA_iff (R := R) (C := C) (rt := rt) (dn := dn) ht j k
    rw [tA_s, (tst_iff ht (by decide)).1, (tst_iff ht (by decide)).1, (tst_iff ht (by decide)).2, (tst_iff ht (by decide)).2, ih.1, ih.2]
    have gen : ∀ (P : Nat → Nat → Prop), (((∃ i s, i < k ∧ (s = 1 ∨ s = 2) ∧ P i s) ∨ P k 1) ∨ P k 2) ↔ ∃ i s, i < k + 1 ∧ (s = 1 ∨ s = 2) ∧ P i s := by
      intro P
      constructor
      · rintro ((⟨i, s, hi, hs, p⟩ | p) | p)
        · exact ⟨i, s, by omega, hs, p⟩
        · exact ⟨k, 1, by omega, Or.inl rfl, p⟩
        · exact ⟨k, 2, by omega, Or.inr rfl, p⟩
      · rintro ⟨i, s, hi, hs, p⟩
        by_cases e : i = k
        · subst e
          rcases hs with rfl | rfl
          · exact Or.inl (Or.inr p)
          · exact Or.inr p
        · exact Or.inl (Or.inl ⟨i, s, by omega, hs, p⟩)
    exact ⟨gen (fun i s => opS rt dn i s = true ∧ ((tS t s = 1 ∧ j = tI R C t i) ∨ (tS t s = 3 ∧ j = mvN (tI R C t i) 3))), gen (fun i s => opS rt dn i s = true ∧ ((tS t s = 2 ∧ j = tI R C t i) ∨ (tS t s = 0 ∧ j = mvN (tI R C t i) 0)))⟩
theorem tA_eq {R C : Nat} {rt dn : Nat → Bool} (hz : Mz R C rt dn) {t : Nat} (ht : t < 8) (j : Nat) : (tA R C rt dn t 36).1 j = rtT R C rt dn t j ∧ (tA R C rt dn t 36).2 j = dnT R C rt dn t j := by
  have h := tA_iff (R := R) (C := C) (rt := rt) (dn := dn) ht j 36
  constructor
  · rw [Bool.eq_iff_iff, h.1]
    unfold rtT
    rw [Bool.and_eq_true, cellS_iff]
    exact (hit_gen hz ht (Or.inl ⟨rfl, rfl⟩)).symm
  · rw [Bool.eq_iff_iff, h.2]
    unfold dnT
    rw [Bool.and_eq_true, cellS_iff]
    exact (hit_gen hz ht (Or.inr ⟨rfl, rfl⟩)).symm
set_option maxRecDepth 20000 in
theorem Cturn {R C : Nat} {rt dn : Nat → Bool} {r d : Int64} (hz : Mz R C rt dn) (hr : bs r rt) (hd : bs d dn) {t : Nat} (ht : t < 8) {a b : Nat} (ha : isC R C a) (hb : isC R C b) (x1 x2 x3 x4 : Int32) (y1 y2 y3 : Int64) :
    ∃ r' d', fX1_turnOf x1 x2 x3 x4 y1 y2 y3 (nI R) (nI C) (nI (pl a)) (nI (pl b)) r d (nI t) = some (nI (tR R C t), nI (tC R C t), nI (pl (tI R C t a)), nI (pl (tI R C t b)), cwv (tR R C t) (tC R C t), r', d') ∧ bs r' (rtT R C rt dn t) ∧ bs d' (dnT R C rt dn t) := by
  have hok := tR_ok (t := t) hz
  obtain ⟨e, g1, r', d', rfl, g2, g3, -⟩ := qlp_pl (f := lb_X1_turnOf_1 (nI R) (nI C) r d (nI t) (cwv (tR R C t) (tC R C t)))
    (fun k j st => ∃ r' d', st = (nI k, r', d') ∧ bs r' (tA R C rt dn t j).1 ∧ bs d' (tA R C rt dn t j).2 ∧ Mz (tR R C t) (tC R C t) (tA R C rt dn t j).1 (tA R C rt dn t j).2)
    (fun e => ∃ r' d', e = (r', d') ∧ bs r' (tA R C rt dn t 36).1 ∧ bs d' (tA R C rt dn t 36).2 ∧ Mz (tR R C t) (tC R C t) (tA R C rt dn t 36).1 (tA R C rt dn t 36).2)
    (by
      rintro j st hj ⟨r', d', rfl, b1, b2, b3⟩
      obtain ⟨r2, d2, c1, c2, c3, c4⟩ := Ctin hz hr hd ht hj b3 b1 b2
      rw [ls_X1_turnOf_1, if_neg (n48 (pl_lt hj)), c1, qob_some]
      exact ⟨_, rfl, r2, d2, by rw [nI_1], c2, c3, c4⟩)
    (by
      rintro k j st hk hno ⟨r', d', rfl, b⟩
      have hin : qlp qFU (lb_X1_turnOf_2 (nI R) (nI C) r d (nI t) (cwv (tR R C t) (tC R C t)) (nI k)) ((1 : Int32), r', d') = some (r', d') := by
        refine qlp_seq (f := lb_X1_turnOf_2 (nI R) (nI C) r d (nI t) (cwv (tR R C t) (tC R C t)) (nI k)) (fun i => (nI (i + 1), r', d')) 2 _ (fun i hi => ?_) ?_ qFU (qFU_gt (by decide))
        · rw [ls_X1_turnOf_2, if_neg (n2l (by omega)), isOpen_no hr hd hk hno (by omega), if_pos rfl, nI_1]
        · rw [ls_X1_turnOf_2, if_pos (y2l (by decide) (by decide))]
      rw [ls_X1_turnOf_1, if_neg (n48 hk), hin, qob_some]
      exact ⟨_, rfl, r', d', by rw [nI_1], b⟩)
    (by
      rintro st ⟨r', d', rfl, b⟩
      exact ⟨_, by rw [ls_X1_turnOf_1, if_pos (y48 (Nat.le_refl 48) (by decide))], r', d', rfl, b⟩)
    ((0 : Int32), (0 : Int64), (0 : Int64)) ⟨0, 0, rfl, bs_0, bs_0, MzE hz⟩
  refine ⟨r', d', ?_, bs_congr g2 (fun j _ => (tA_eq hz ht j).1), bs_congr g3 (fun j _ => (tA_eq hz ht j).2)⟩
  have hp : ∀ t, t < 8 → (if qrem (nI t) 2 = 1 then some (1 : Int32) else some 0) = some (nI (t % 2)) := by decide +kernel
  rw [le_X1_turnOf, hp t ht, qob_some, qun1_eq]
  have e1 : (if nI (t % 2) = 0 then some (nI R) else some (nI C)) = some (nI (tR R C t)) := by
    unfold tR
    by_cases q : t % 2 = 1
    · rw [if_pos q, q]; rfl
    · rw [if_neg q, show t % 2 = 0 by omega]; rfl
  have e2 : (if nI (t % 2) = 0 then some (nI C) else some (nI R)) = some (nI (tC R C t)) := by
    unfold tC
    by_cases q : t % 2 = 1
    · rw [if_pos q, q]; rfl
    · rw [if_neg q, show t % 2 = 0 by omega]; rfl
  rw [e1, qob_some, qun1_eq, e2, qob_some, qun1_eq, Cshut hok.1 hok.2, qob_some, qun7_eq, g1, qob_some, qun2_eq]
  simp only [qbd]
  rw [tI_c hz ht ha, tI_c hz ht hb]

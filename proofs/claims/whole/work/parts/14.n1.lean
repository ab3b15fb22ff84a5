/-! mazes made by seeds: the draw, the list of hedges -/
theorem lN_tn (x : Int64) : lN (tn x) = x := by
  apply Int64.toBitVec_inj.mp
  show BitVec.ofNat 64 x.toBitVec.toNat = x.toBitVec
  simp
theorem draw_ok (x : Int64) {n : Nat} (h0 : 0 < n) (hn : n < 100) : ∃ k y, k < n ∧ fX3_draw x (nI n) = some (nI k, y) ∧ fX10_next x (nI n) = some (nI k, y) := by
  generalize hy : (x * 6364136223846793005) + 1442695040888963407 = y
  have hq : qushr y 33 = lN (tn y / 2 ^ 33) := by
    rw [← lN_tn (qushr y 33), lit_nI 33, tn_ushr y (by decide)]
  have hlt : tn y / 2 ^ 33 < 2 ^ 31 := by have := tn_lt y; omega
  have hr : (qreml (qushr y 33) (nI n).toInt64).toInt32 = nI (tn y / 2 ^ 33 % n) := by
    rw [hq, nI_l (by omega)]
    show (lN (tn y / 2 ^ 33) - lN (tn y / 2 ^ 33) / lN n * lN n).toInt32 = _
    rw [pk_lRem (by omega) h0 (by omega), lN_i]
  have hz : ¬ (nI n).toInt64 = 0 := by
    rw [nI_l (by omega)]
    intro q
    have : lN n = lN 0 := q
    rw [pk_lEQ (by omega) (by decide)] at this
    omega
  refine ⟨tn y / 2 ^ 33 % n, y, Nat.mod_lt _ h0, ?_, ?_⟩
  · unfold fX3_draw
    simp only [qbd]
    rw [hy, if_pos (show (1 : Int32) ≤ nI n from nI_le (a := 1) (by omega) (by omega)), qgl, if_neg hz, hr]
  · unfold fX10_next
    simp only [qbd]
    rw [hy, qgl, if_neg hz, hr]
def vdH (R C j s : Nat) : Bool := cellS R C j && rimB R C j s
def cH (R C : Nat) : Nat → Nat
  | 0 => 0
  | j + 1 => cH R C j + (vdH R C j 1).toNat + (vdH R C j 2).toNat
theorem cH_60 : ∀ R, R < 7 → ∀ C, C < 7 → cH R C 36 ≤ 60 := by decide +kernel
theorem cH_mono {R C : Nat} {i : Nat} : ∀ j, i ≤ j → cH R C i ≤ cH R C j
  | 0, h => by rw [show i = 0 by omega]; exact Nat.le_refl _
  | j + 1, h => by
    by_cases e : i = j + 1
    · rw [e]; exact Nat.le_refl _
    · have := cH_mono (R := R) (C := C) (i := i) j (by omega)
      show cH R C i ≤ cH R C j + (vdH R C j 1).toNat + (vdH R C j 2).toNat
      omega
/-- an entry of the list: a cell and a side of it, not at the rim -/
def vdE (R C v : Nat) : Prop := isC R C (v / 4) ∧ (v % 4 = 1 ∨ v % 4 = 2) ∧ rimB R C (v / 4) (v % 4) = true
def enE (v : Nat) : Nat := 4 * pl (v / 4) + v % 4
/-- both lists hold the same n hedges -/
def LI (R C n : Nat) (hg ml : Nat → Int32) : Prop := ∃ L : Nat → Nat, ∀ k, k < n → vdE R C (L k) ∧ hg k = nI (enE (L k)) ∧ ml k = nI (L k)
theorem LI_add {R C n : Nat} {hg ml : Nat → Int32} (h : LI R C n hg ml) {j s : Nat} (cj : isC R C j) (hs : s = 1 ∨ s = 2) (hrim : rimB R C j s = true) : LI R C (n + 1) (upd hg n (nI (4 * pl j + s))) (upd ml n (nI (4 * j + s))) := by
  obtain ⟨L, hL⟩ := h
  have e1 : (4 * j + s) / 4 = j := by omega
  have e2 : (4 * j + s) % 4 = s := by omega
  refine ⟨upN L n (4 * j + s), fun k hk => ?_⟩
  by_cases e : k = n
  · subst e
    rw [upN_same]
    unfold vdE enE
    rw [e1, e2]
    exact ⟨⟨cj, hs, hrim⟩, pk_us, pk_us⟩
  · rw [upN_ne e]
    unfold upd
    rw [if_neg e, if_neg e]
    exact hL k (by omega)
set_option maxRecDepth 20000 in
theorem Clist2 {R C : Nat} {rt dn : Nat → Bool} {r d : Int64} (hz : Mz R C rt dn) (hr : bs r (fun _ => false)) (hd : bs d (fun _ => false)) {j : Nat} (hj : j < 36) (hg : Nat → Int32) :
    qlp qFU (lb_X3_listHedges_2 (cwv R C) r d (nI (pl j))) (nI (cH R C j), (1 : Int32), hg) = some (nI (cH R C (j + 1)), if vdH R C j 2 then upd (if vdH R C j 1 then upd hg (cH R C j) (nI (4 * pl j + 1)) else hg) (cH R C j + (vdH R C j 1).toNat) (nI (4 * pl j + 2)) else (if vdH R C j 1 then upd hg (cH R C j) (nI (4 * pl j + 1)) else hg)) := by
  have hRC := hz.1
  have hCC := hz.2.1
  have h60 := cH_60 R (by omega) C (by omega)
  have hm := cH_mono (R := R) (C := C) (i := j + 1) 36 (by omega)
  have en : cH R C (j + 1) = cH R C j + (vdH R C j 1).toNat + (vdH R C j 2).toNat := rfl
  have hz0 : Mz R C (fun _ => false) (fun _ => false) := ⟨hz.1, hz.2.1, fun i h => absurd h Bool.false_ne_true, fun i h => absurd h Bool.false_ne_true⟩
  have hop : ∀ s, opS (fun _ => false) (fun _ => false) j s = false := fun s => by unfold opS; split <;> simp
  have hpl := pl_lt hj
  have one : ∀ s, s < 4 → ∀ n h', n + (vdH R C j s).toNat ≤ 60 → s ≤ 2 → lb_X3_listHedges_2 (cwv R C) r d (nI (pl j)) (nI n, nI s, h') = some (Sum.inl (nI (n + (vdH R C j s).toNat), nI (s + 1), if vdH R C j s then upd h' n (nI (4 * pl j + s)) else h')) := by
    intro s hs n h' hn hs2
    rw [ls_X3_listHedges_2, if_neg (n2l hs2), Chedge hz0 hr hd hj hs, hop, Bool.not_false, Bool.and_true]
    unfold vdH at hn ⊢
    cases hv : (cellS R C j && rimB R C j s) with
    | false =>
      rw [if_pos b0f, if_neg Bool.false_ne_true, nI_1]
      rfl
    | true =>
      rw [hv] at hn
      have hn : n + 1 ≤ 60 := hn
      rw [if_neg b0t, if_pos rfl, if_neg (show ¬ (60 : Int32) ≤ nI n from nI_ge (b := 60) (by omega) (by decide)), qgd_nI (by omega) (by decide), nI_clamp (by omega), show (nI (pl j) * 4 : Int32) = nI (pl j * 4) from nI_mul (pl j) 4, nI_add, nI_1, nI_1, Nat.mul_comm (pl j) 4]
      rfl
  refine qlp_seq (f := lb_X3_listHedges_2 (cwv R C) r d (nI (pl j))) (fun i => if i = 0 then (nI (cH R C j), (1 : Int32), hg) else if i = 1 then (nI (cH R C j + (vdH R C j 1).toNat), (2 : Int32), if vdH R C j 1 then upd hg (cH R C j) (nI (4 * pl j + 1)) else hg) else (nI (cH R C j + (vdH R C j 1).toNat + (vdH R C j 2).toNat), (3 : Int32), if vdH R C j 2 then upd (if vdH R C j 1 then upd hg (cH R C j) (nI (4 * pl j + 1)) else hg) (cH R C j + (vdH R C j 1).toNat) (nI (4 * pl j + 2)) else (if vdH R C j 1 then upd hg (cH R C j) (nI (4 * pl j + 1)) else hg))) 2 _ (fun i hi => ?_) ?_ qFU (qFU_gt (by decide))
  · rcases (show i = 0 ∨ i = 1 by omega) with rfl | rfl
    · exact one 1 (by decide) (cH R C j) hg (by omega) (by decide)
    · exact one 2 (by decide) (cH R C j + (vdH R C j 1).toNat) _ (by omega) (by decide)
  · show lb_X3_listHedges_2 (cwv R C) r d (nI (pl j)) (nI (cH R C j + (vdH R C j 1).toNat + (vdH R C j 2).toNat), (3 : Int32), _) = _
    rw [ls_X3_listHedges_2, if_pos (by decide)]
    rfl
set_option maxRecDepth 20000 in
theorem Clist2o {R C : Nat} {rt dn : Nat → Bool} (hz : Mz R C rt dn) (r d : Int64) {k : Nat} (hk : k < 48) (hno : ¬ k % 8 < 6) (n : Int32) (hg : Nat → Int32) : qlp qFU (lb_X3_listHedges_2 (cwv R C) r d (nI k)) (n, (1 : Int32), hg) = some (n, hg) := by
  refine qlp_seq (f := lb_X3_listHedges_2 (cwv R C) r d (nI k)) (fun i => (n, nI (i + 1), hg)) 2 _ (fun i hi => ?_) ?_ qFU (qFU_gt (by decide))
  · rw [ls_X3_listHedges_2, if_neg (n2l (by omega)), Chedge_out hz r d hk (by omega) hno, if_pos rfl, nI_1]
  · rw [ls_X3_listHedges_2, if_pos (y2l (by decide) (by decide))]
set_option maxRecDepth 20000 in
theorem Mlist2 {R C : Nat} {rt dn : Nat → Bool} (hz : Mz R C rt dn) {j : Nat} (hj : j < 36) (ml : Nat → Int32) :
    qlp qFU (lb_X10_makeList_2 (nI R) (nI C) (nI j)) (nI (cH R C j), (1 : Int32), ml) = some (nI (cH R C (j + 1)), if vdH R C j 2 then upd (if vdH R C j 1 then upd ml (cH R C j) (nI (4 * j + 1)) else ml) (cH R C j + (vdH R C j 1).toNat) (nI (4 * j + 2)) else (if vdH R C j 1 then upd ml (cH R C j) (nI (4 * j + 1)) else ml)) := by
  have hRC := hz.1
  have hCC := hz.2.1
  have h60 := cH_60 R (by omega) C (by omega)
  have hm := cH_mono (R := R) (C := C) (i := j + 1) 36 (by omega)
  have en : cH R C (j + 1) = cH R C j + (vdH R C j 1).toNat + (vdH R C j 2).toNat := rfl
  have one : ∀ s, s < 3 → ∀ n h', n + (vdH R C j s).toNat ≤ 60 → lb_X10_makeList_2 (nI R) (nI C) (nI j) (nI n, nI s, h') = some (Sum.inl (nI (n + (vdH R C j s).toNat), nI (s + 1), if vdH R C j s then upd h' n (nI (4 * j + s)) else h')) := by
    intro s hs n h' hn
    rw [ls_X10_makeList_2, if_neg (n3 hs), isThere_ok R (by omega) C (by omega) j hj]
    unfold vdH at hn ⊢
    cases hc : cellS R C j with
    | false =>
      rw [if_pos b0f, Bool.false_and, if_neg Bool.false_ne_true, nI_1]
      rfl
    | true =>
      have cj := cellS_iff.mp hc
      rw [hc] at hn
      rw [if_neg b0t, Bool.true_and, Mbeside R (by omega) C (by omega) j hj s (by omega) cj]
      cases hrim : rimB R C j s with
      | false =>
        rw [if_neg Bool.false_ne_true, if_pos rfl, if_neg Bool.false_ne_true, nI_1]
        rfl
      | true =>
        rw [hrim] at hn
        have hn : n + 1 ≤ 60 := hn
        have hmv := (rim_lt hRC.2 hCC.2 (show s < 4 by omega) cj hrim).1
        rw [if_pos rfl, if_neg (nI_m9 (by omega)), if_pos rfl, qgd_nI (by omega) (by decide), nI_clamp (by omega), show (4 * nI j : Int32) = nI (4 * j) from nI_mul 4 j, nI_add, nI_1, nI_1]
        rfl
  refine qlp_seq (f := lb_X10_makeList_2 (nI R) (nI C) (nI j)) (fun i => if i = 0 then (nI (cH R C j), (1 : Int32), ml) else if i = 1 then (nI (cH R C j + (vdH R C j 1).toNat), (2 : Int32), if vdH R C j 1 then upd ml (cH R C j) (nI (4 * j + 1)) else ml) else (nI (cH R C j + (vdH R C j 1).toNat + (vdH R C j 2).toNat), (3 : Int32), if vdH R C j 2 then upd (if vdH R C j 1 then upd ml (cH R C j) (nI (4 * j + 1)) else ml) (cH R C j + (vdH R C j 1).toNat) (nI (4 * j + 2)) else (if vdH R C j 1 then upd ml (cH R C j) (nI (4 * j + 1)) else ml))) 2 _ (fun i hi => ?_) ?_ qFU (qFU_gt (by decide))
  · rcases (show i = 0 ∨ i = 1 by omega) with rfl | rfl
    · exact one 1 (by decide) (cH R C j) ml (by omega)
    · exact one 2 (by decide) (cH R C j + (vdH R C j 1).toNat) _ (by omega)
  · show lb_X10_makeList_2 (nI R) (nI C) (nI j) (nI (cH R C j + (vdH R C j 1).toNat + (vdH R C j 2).toNat), (3 : Int32), _) = _
    rw [ls_X10_makeList_2, if_pos (by decide)]
    rfl
def fH (R C : Nat) (g : Nat → Nat) (hg : Nat → Int32) : Nat → (Nat → Int32)
  | 0 => hg
  | j + 1 => if vdH R C j 2 then upd (if vdH R C j 1 then upd (fH R C g hg j) (cH R C j) (nI (4 * g j + 1)) else fH R C g hg j) (cH R C j + (vdH R C j 1).toNat) (nI (4 * g j + 2)) else (if vdH R C j 1 then upd (fH R C g hg j) (cH R C j) (nI (4 * g j + 1)) else fH R C g hg j)
theorem fH_LI {R C : Nat} (hg ml : Nat → Int32) : ∀ j, LI R C (cH R C j) (fH R C pl hg j) (fH R C id ml j)
  | 0 => ⟨fun _ => 0, fun k hk => absurd hk (Nat.not_lt_zero k)⟩
  | j + 1 => by
    have ih := fH_LI (R := R) (C := C) hg ml j
    have h1 : LI R C (cH R C j + (vdH R C j 1).toNat) (if vdH R C j 1 then upd (fH R C pl hg j) (cH R C j) (nI (4 * pl j + 1)) else fH R C pl hg j) (if vdH R C j 1 then upd (fH R C id ml j) (cH R C j) (nI (4 * id j + 1)) else fH R C id ml j) := by
      cases hv : vdH R C j 1 with
      | false => rw [if_neg Bool.false_ne_true, if_neg Bool.false_ne_true]; exact ih
      | true =>
        unfold vdH at hv
        rw [Bool.and_eq_true, cellS_iff] at hv
        rw [if_pos rfl, if_pos rfl]
        exact LI_add ih hv.1 (Or.inl rfl) hv.2
    show LI R C (cH R C j + (vdH R C j 1).toNat + (vdH R C j 2).toNat) (if vdH R C j 2 then upd _ _ _ else _) (if vdH R C j 2 then upd _ _ _ else _)
    cases hv : vdH R C j 2 with
    | false => rw [if_neg Bool.false_ne_true, if_neg Bool.false_ne_true]; exact h1
    | true =>
      unfold vdH at hv
      rw [Bool.and_eq_true, cellS_iff] at hv
      rw [if_pos rfl, if_pos rfl]
      exact LI_add h1 hv.1 (Or.inr rfl) hv.2
set_option maxRecDepth 20000 in
theorem list_both {R C : Nat} {rt dn : Nat → Bool} {r d : Int64} (hz : Mz R C rt dn) (hr : bs r (fun _ => false)) (hd : bs d (fun _ => false)) (hg ml : Nat → Int32) :
    ∃ hg' ml', fX3_listHedges hg (cwv R C) r d = some (nI (cH R C 36), hg') ∧ qlp qFU (lb_X10_makeList_1 (nI R) (nI C)) ((0 : Int32), (0 : Int32), ml) = some (nI (cH R C 36), ml') ∧ LI R C (cH R C 36) hg' ml' := by
  refine ⟨fH R C pl hg 36, fH R C id ml 36, ?_, ?_, fH_LI hg ml 36⟩
  · obtain ⟨e, g1, rfl⟩ := qlp_pl (f := lb_X3_listHedges_1 (cwv R C) r d) (fun k j st => st = (nI (cH R C j), nI k, fH R C pl hg j)) (fun e => e = (nI (cH R C 36), fH R C pl hg 36))
      (by
        rintro j st hj rfl
        rw [ls_X3_listHedges_1, if_neg (n48 (pl_lt hj)), Clist2 hz hr hd hj, qob_some]
        exact ⟨_, rfl, by rw [nI_1]; rfl⟩)
      (by
        rintro k j st hk hno rfl
        rw [ls_X3_listHedges_1, if_neg (n48 hk), Clist2o hz r d hk hno, qob_some]
        exact ⟨_, rfl, by rw [nI_1]⟩)
      (by
        rintro st rfl
        exact ⟨_, by rw [ls_X3_listHedges_1, if_pos (y48 (Nat.le_refl 48) (by decide))], rfl⟩)
      ((0 : Int32), (0 : Int32), hg) rfl
    rw [le_X3_listHedges, g1, qob_some]
  · refine qlp_seq (f := lb_X10_makeList_1 (nI R) (nI C)) (fun j => (nI (cH R C j), nI j, fH R C id ml j)) 36 _ (fun j hj => ?_) ?_ qFU (qFU_gt (by decide))
    · rw [ls_X10_makeList_1, if_neg (n36 hj), Mlist2 hz hj, qob_some, qun2_eq, nI_1]
      rfl
    · rw [ls_X10_makeList_1, if_pos (y36 (Nat.le_refl 36) (by decide))]
/-! the list shuffled by both -/
theorem LI_swap {R C n : Nat} {hg ml : Nat → Int32} (h : LI R C n hg ml) {k j : Nat} (hk : k < n) (hj : j < n) : LI R C n (upd (upd hg k (hg j)) j (hg k)) (upd (upd ml k (ml j)) j (ml k)) := by
  obtain ⟨L, hL⟩ := h
  refine ⟨upN (upN L k (L j)) j (L k), fun m hm => ?_⟩
  unfold upd upN
  by_cases e1 : m = j
  · rw [if_pos e1, if_pos e1, if_pos e1]
    exact hL k hk
  · rw [if_neg e1, if_neg e1, if_neg e1]
    by_cases e2 : m = k
    · rw [if_pos e2, if_pos e2, if_pos e2]
      exact hL j hj
    · rw [if_neg e2, if_neg e2, if_neg e2]
      exact hL m hm
theorem nI_dec {k : Nat} (h : 0 < k) : (nI k + (-1) : Int32) = nI (k - 1) := by
  rw [← Int32.sub_eq_add_neg]
  exact nI_sub (b := 1) h
set_option maxRecDepth 20000 in
theorem shuf_both {R C n : Nat} {hg ml : Nat → Int32} (hn : n ≤ 60) (h : LI R C n hg ml) (x : Int64) :
    ∃ x' hg' ml', fX3_shuffle x hg (nI n) = some (x', hg') ∧ qlp qFU lb_X10_makeList_3 ((nI n - 1 : Int32), x, ml) = some (x', ml') ∧ LI R C n hg' ml' := by
  have hmin : qmin (nI n) 60 = nI n := by
    unfold qmin
    by_cases q : n = 60
    · rw [q]; rfl
    · rw [if_neg (show ¬ (60 : Int32) < nI n from nI_nlt (a := 60) (by omega) (by decide))]
  rcases Nat.eq_zero_or_pos n with h0 | h0
  · subst h0
    refine ⟨x, hg, ml, ?_, ?_, h⟩
    · have : qlp qFU lb_X3_shuffle_1 ((nI 0 - 1 : Int32), x, hg) = some (x, hg) := qlp_seq (f := lb_X3_shuffle_1) (fun _ => ((nI 0 - 1 : Int32), x, hg)) 0 _ (fun i hi => absurd hi (Nat.not_lt_zero i)) (by rw [ls_X3_shuffle_1, if_pos (by decide)]) qFU (qFU_gt (by decide))
      rw [le_X3_shuffle, hmin, this, qob_some]
    · exact qlp_seq (f := lb_X10_makeList_3) (fun _ => ((nI 0 - 1 : Int32), x, ml)) 0 _ (fun i hi => absurd hi (Nat.not_lt_zero i)) (by rw [ls_X10_makeList_3, if_pos (by decide)]) qFU (qFU_gt (by decide))
  · have e1 : (nI n - 1 : Int32) = nI (n - 1) := nI_sub (b := 1) h0
    obtain ⟨e, e', g1, g2, x', hg', ml', rfl, rfl, g3⟩ := qlp_two (f := lb_X3_shuffle_1) (g := lb_X10_makeList_3) (fun i s s' => ∃ x hg ml, s = (nI (n - 1 - i), x, hg) ∧ s' = (nI (n - 1 - i), x, ml) ∧ LI R C n hg ml) (n - 1) (fun e e' => ∃ x hg ml, e = (x, hg) ∧ e' = (x, ml) ∧ LI R C n hg ml) (by
      rintro i s s' hi ⟨x, hg, ml, rfl, rfl, hl⟩
      rw [ls_X3_shuffle_1, ls_X10_makeList_3]
      by_cases q : n - 1 - i = 0
      · right
        rw [q, if_pos (by decide), if_pos (by decide)]
        exact ⟨_, _, rfl, rfl, x, hg, ml, rfl, rfl, hl⟩
      · left
        obtain ⟨k, y, d1, d2, d3⟩ := draw_ok x (n := n - 1 - i + 1) (by omega) (by omega)
        rw [if_neg (show ¬ nI (n - 1 - i) < (1 : Int32) from nI_nlt (b := 1) (by omega) (by omega)), if_neg (show ¬ nI (n - 1 - i) ≤ (0 : Int32) from nI_ge (a := 0) (by omega) (by omega)), nI_1, d2, d3, qob_some, qun2_eq, qob_some, qun2_eq, qgd_nI (by omega) (by decide), qgd_nI (by omega) (by decide), qgd_nI (by omega) (by decide), qgd_nI (by omega) (by decide), qgd_nI (by omega) (by decide), qgd_nI (by omega) (by decide)]
        simp only [qbd]
        rw [qgd_nI (by omega) (by decide), qgd_nI (by omega) (by decide), nI_clamp (show n - 1 - i < 2 ^ 31 by omega), nI_clamp (show k < 2 ^ 31 by omega), nI_dec (by omega)]
        exact ⟨by omega, _, _, rfl, rfl, y, _, _, by rw [show n - 1 - (i + 1) = n - 1 - i - 1 by omega], by rw [show n - 1 - (i + 1) = n - 1 - i - 1 by omega], LI_swap hl (by omega) (by omega)⟩) qFU qFU (qFU_gt (by omega)) (qFU_gt (by omega)) (nI (n - 1), x, hg) (nI (n - 1), x, ml) ⟨x, hg, ml, rfl, rfl, h⟩
    refine ⟨x', hg', ml', ?_, ?_, g3⟩
    · rw [le_X3_shuffle, hmin, e1, g1, qob_some]
    · rw [e1, g2]
/-! hedges between two parts taken away by both -/
theorem en_div {v : Nat} : enE v / 4 = pl (v / 4) ∧ enE v % 4 = v % 4 := by unfold enE; omega
set_option maxRecDepth 20000 in
theorem join_both {R C n : Nat} {hg ml ms : Nat → Int32} (hn : n ≤ 60) (h : LI R C n hg ml) {rt dn : Nat → Bool} {r d : Int64} {mr md : Nat → Int32} (hz : Mz R C rt dn) (hr : bs r rt) (hd : bs d dn) (hm : ∀ i, i < 36 → mr i = b2i (rt i) ∧ md i = b2i (dn i)) (hsh : ∀ i, i < 36 → ms i = 0) (di qu pa : Nat → Int32) :
    ∃ rt' dn' r' d' mr' md' di' qu' pa', qlp qFU (lb_X3_joinParts_1 (cwv R C) (nI n) hg) ((0 : Int32), r, d) = some (r', d') ∧ qlp qFU (lb_X10_makeList_4 (nI R) (nI C) ms (nI n) ml) ((0 : Int32), mr, md, di, qu, pa) = some (mr', md', di', qu', pa') ∧ Mz R C rt' dn' ∧ bs r' rt' ∧ bs d' dn' ∧ ∀ i, i < 36 → mr' i = b2i (rt' i) ∧ md' i = b2i (dn' i) := by
  have hRC := hz.1
  have hCC := hz.2.1
  obtain ⟨L, hL⟩ := h
  obtain ⟨e, e', g1, g2, rt', dn', r', d', mr', md', di', qu', pa', rfl, rfl, g3⟩ := qlp_two (f := lb_X3_joinParts_1 (cwv R C) (nI n) hg) (g := lb_X10_makeList_4 (nI R) (nI C) ms (nI n) ml)
    (fun k s s' => ∃ rt' dn' r' d' mr' md' di' qu' pa', s = (nI k, r', d') ∧ s' = (nI k, mr', md', di', qu', pa') ∧ Mz R C rt' dn' ∧ bs r' rt' ∧ bs d' dn' ∧ ∀ i, i < 36 → mr' i = b2i (rt' i) ∧ md' i = b2i (dn' i)) n
    (fun e e' => ∃ rt' dn' r' d' mr' md' di' qu' pa', e = (r', d') ∧ e' = (mr', md', di', qu', pa') ∧ Mz R C rt' dn' ∧ bs r' rt' ∧ bs d' dn' ∧ ∀ i, i < 36 → mr' i = b2i (rt' i) ∧ md' i = b2i (dn' i)) (by
    rintro k s s' hk ⟨rt', dn', r', d', mr', md', di', qu', pa', rfl, rfl, hz', hr', hd', hm'⟩
    rw [ls_X3_joinParts_1, ls_X10_makeList_4]
    by_cases q : k = n
    · right
      subst q
      rw [if_pos (nI_le (Nat.le_refl k) (by omega)), if_pos (nI_le (Nat.le_refl k) (by omega))]
      exact ⟨_, _, rfl, rfl, rt', dn', r', d', mr', md', di', qu', pa', rfl, rfl, hz', hr', hd', hm'⟩
    · left
      have hkn : k < n := by omega
      obtain ⟨⟨v1, v2, v3⟩, l1, l2⟩ := hL k hkn
      have hi36 := isC_lt hz v1
      have hpl := pl_lt hi36
      have hs4 : L k % 4 < 4 := by omega
      have hmv := rim_lt hRC.2 hCC.2 hs4 v1 v3
      have hpm := pl_lt hmv.1
      have hen : enE (L k) < 2 ^ 31 := by unfold enE; omega
      have d1 : (nI (enE (L k)) / 4 : Int32) = nI (pl (L k / 4)) := by rw [show (nI (enE (L k)) / 4 : Int32) = nI (enE (L k) / 4) from nI_div (d := 4) hen (by decide) (by decide), en_div.1]
      have d2 : qrem (nI (enE (L k))) 4 = nI (L k % 4) := by rw [show qrem (nI (enE (L k))) 4 = nI (enE (L k) % 4) from nI_rem (d := 4) hen (by decide) (by decide), en_div.2]
      have d3 : (nI (L k) / 4 : Int32) = nI (L k / 4) := nI_div (d := 4) (by omega) (by decide) (by decide)
      have d4 : qrem (nI (L k)) 4 = nI (L k % 4) := nI_rem (d := 4) (by omega) (by decide) (by decide)
      obtain ⟨D, hLF⟩ := LF_ex hz' v1
      obtain ⟨y, c1, c2⟩ := Cpart hz' hr' hd' v1 hLF
      obtain ⟨di2, qu2, pa2, m1, m2⟩ := Mparts (ms := ms) hz' hm' hsh di' qu' pa'
      obtain ⟨r2, d2', s1, s2, s3⟩ := Cset hz' hr' hd' v1 hs4 v3 true
      obtain ⟨mr2, md2, s4, s5⟩ := Mset hz' hm' v1 hs4 v3 true
      rw [if_neg (nI_ge hkn (by omega)), if_neg (show ¬ (60 : Int32) ≤ nI k from nI_ge (b := 60) (by omega) (by decide)), if_neg (nI_ge hkn (by omega)), qgd_nI (show k < 60 by omega) (by decide), qgd_nI (show k < 60 by omega) (by decide), qgd_nI (show k < 60 by omega) (by decide), qgd_nI (show k < 60 by omega) (by decide), nI_clamp (show k < 2 ^ 31 by omega), l1, l2, d1, d2, d3, d4, c1, qob_some, qun1_eq, m1, qob_some, qun4_eq, Cbeside R (by omega) C (by omega) _ hi36 _ hs4 v1, Mbeside R (by omega) C (by omega) _ hi36 _ hs4 v1, v3, if_pos rfl, if_pos rfl, bs_has c2 hmv.1, qgd_nI hi36 (by decide), qgd_nI hmv.1 (by decide), nI_clamp (show L k / 4 < 2 ^ 31 by omega), nI_clamp (show mvN (L k / 4) (L k % 4) < 2 ^ 31 by omega), m2 _ hi36, m2 _ hmv.1]
      have hpe := part_eq hz' v1 (t := mvN (L k / 4) (L k % 4)) hmv.1
      rw [cnn_iff hz' hLF hmv.1] at hpe
      cases hc : decide (D (mvN (L k / 4) (L k % 4)) ≠ 9999) with
      | false =>
        rw [hc] at hpe
        rw [if_pos b0f, if_neg (fun w => Bool.false_ne_true (hpe.mp w.symm)), show fX10_set (nI R) (nI C) mr' md' (nI (L k / 4)) (nI (L k % 4)) 1 = _ from s4, qob_some]
        simp only [qbd]
        rw [show fX1_setOpen (cwv R C) r' d' (nI (pl (L k / 4))) (nI (L k % 4)) 1 = _ from s1, qun2_eq]
        exact ⟨hkn, _, _, rfl, rfl, _, _, r2, d2', mr2, md2, di2, qu2, pa2, by rw [nI_1], by rw [nI_1], set_Mz hz' v1 hs4 v3 true, s2, s3, s5⟩
      | true =>
        rw [hc] at hpe
        rw [if_neg b0t, if_pos (hpe.mpr rfl).symm]
        exact ⟨hkn, _, _, rfl, rfl, rt', dn', r', d', mr', md', di2, qu2, pa2, by rw [nI_1], by rw [nI_1], hz', hr', hd', hm'⟩) qFU qFU (qFU_gt (by omega)) (qFU_gt (by omega)) ((0 : Int32), r, d) ((0 : Int32), mr, md, di, qu, pa) ⟨rt, dn, r, d, mr, md, di, qu, pa, rfl, rfl, hz, hr, hd, hm⟩
  exact ⟨rt', dn', r', d', mr', md', di', qu', pa', g1, g2, g3⟩

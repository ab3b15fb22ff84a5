/-! the runner and the hunter: the class; chase -/
def BF (R C : Nat) (bf : Nat → Int64) (X : Nat → Nat → Bool) : Prop := ∀ i, isC R C i → bs (bf (pl i)) (fun j => cellS R C j && X i j)
set_option maxRecDepth 20000 in
theorem Cbegin {R C : Nat} {rt dn : Nat → Bool} (hz : Mz R C rt dn) (b : Nat) (ho : Bool) (bf : Nat → Int64) : ∃ bf', fX2_beginWith bf (b2i ho) = some bf' ∧ BF R C bf' (Cs rt dn b ho 0) := by
  obtain ⟨e, g1, g2⟩ := qlp_idx (f := lb_X2_beginWith_1 (b2i ho)) (fun k st => ∃ bf', st = (nI k, bf') ∧ ∀ i, isC R C i → pl i < k → bs (bf' (pl i)) (fun j => cellS R C j && Cs rt dn b ho 0 i j)) 48 (fun e => ∀ i, isC R C i → bs (e (pl i)) (fun j => cellS R C j && Cs rt dn b ho 0 i j)) (by
    rintro k st hk ⟨bf', rfl, h⟩
    rw [ls_X2_beginWith_1]
    by_cases q : k = 48
    · right
      subst q
      exact ⟨bf', by rw [if_pos (y48 (Nat.le_refl _) (by decide))], fun i ci => h i ci (pl_lt (isC_lt hz ci))⟩
    · left
      have hk' : k < 48 := by omega
      refine ⟨hk', ?_⟩
      rw [if_neg (n48 hk'), qgd_nI hk' (by decide), qgd_nI hk' (by decide), nI_clamp (by omega)]
      cases ho with
      | false =>
        rw [if_pos b0f]
        refine ⟨_, rfl, _, by rw [nI_1], fun i ci hi => ?_⟩
        by_cases e : pl i = k
        · rw [e, updL_s, ← e]
          refine bs_congr (bs_bit (isC_lt hz ci)) (fun j _ => ?_)
          rw [Cs_0]
          by_cases w : j = i
          · subst w; simp [cellS_iff.mpr ci]
          · simp [w, show ¬ i = j from fun x => w x.symm]
        · rw [updL_n e]
          exact h i ci (by omega)
      | true =>
        rw [if_neg b0t]
        refine ⟨_, rfl, _, by rw [nI_1], fun i ci hi => ?_⟩
        by_cases e : pl i = k
        · rw [e, updL_s]
          exact bs_congr bs_0 (fun j _ => by rw [Cs_0]; simp)
        · rw [updL_n e]
          exact h i ci (by omega)) qFU (qFU_gt (by decide)) ((0 : Int32), bf) ⟨bf, rfl, fun i _ hi => absurd hi (Nat.not_lt_zero _)⟩
  exact ⟨e, by rw [le_X2_beginWith, g1, qob_some], g2⟩
theorem near_cell {R C : Nat} {rt dn S : Nat → Bool} (hz : Mz R C rt dn) (hS : ∀ i, S i = true → isC R C i) {j : Nat} (q : nearS rt dn S j = true) : isC R C j := by
  rcases (near_iff hz j).mp q with w | ⟨s, hs, ho, w⟩
  · exact hS j w
  · obtain ⟨a1, a2, a3⟩ := op_sym hz hs ho
    have := (op_isC hz (hS _ w) a1 a2).1
    rw [a3] at this
    exact this
set_option maxRecDepth 20000 in
theorem Chunter {R C : Nat} {rt dn : Nat → Bool} {r d : Int64} (hz : Mz R C rt dn) (hr : bs r rt) (hd : bs d dn) {b : Nat} (cb : isC R C b) (ho : Bool) {X : Nat → Nat → Bool} {bf : Nat → Int64} (hB : BF R C bf X) (af : Nat → Int64) :
    ∃ af', fX2_lookBackOverHunter bf af (nI (pl b)) (cwv R C) r d (b2i ho) = some af' ∧ BF R C af' (aft rt dn b ho X) := by
  have hb := isC_lt hz cb
  have hpb := pl_lt hb
  have hcw := cwv_ok hz.1.2 hz.2.1.2
  obtain ⟨e, g1, g2⟩ := qlp_idx (f := lb_X2_lookBackOverHunter_1 bf (nI (pl b)) (cwv R C) r d (b2i ho)) (fun k st => ∃ af', st = (nI k, af') ∧ ∀ i, isC R C i → pl i < k → bs (af' (pl i)) (fun j => cellS R C j && aft rt dn b ho X i j)) 48 (fun e => ∀ i, isC R C i → bs (e (pl i)) (fun j => cellS R C j && aft rt dn b ho X i j)) (by
    rintro k st hk ⟨af', rfl, h⟩
    rw [ls_X2_lookBackOverHunter_1]
    by_cases q : k = 48
    · right
      subst q
      exact ⟨af', by rw [if_pos (y48 (Nat.le_refl _) (by decide))], fun i ci => h i ci (pl_lt (isC_lt hz ci))⟩
    · left
      have hk' : k < 48 := by omega
      refine ⟨hk', ?_⟩
      rw [if_neg (n48 hk')]
      have put : ∀ v : Int64, (∀ i, isC R C i → pl i = k → bs v (fun j => cellS R C j && aft rt dn b ho X i j)) → ∃ s', some (Sum.inl ((nI k + 1), vp_updL af' k v)) = some (Sum.inl s' : (Int32 × (Nat → Int64)) ⊕ (Nat → Int64)) ∧ ∃ af', s' = (nI (k + 1), af') ∧ ∀ i, isC R C i → pl i < k + 1 → bs (af' (pl i)) (fun j => cellS R C j && aft rt dn b ho X i j) := by
        intro v hv
        refine ⟨_, rfl, _, by rw [nI_1], fun i ci hi => ?_⟩
        by_cases e : pl i = k
        · rw [e, updL_s]
          exact hv i ci e
        · rw [updL_n e]
          exact h i ci (by omega)
      by_cases eb : k = pl b
      · rw [if_pos (by rw [eb])]
        have eib : ∀ i, isC R C i → pl i = k → i = b := fun i ci w => pl_inj (isC_lt hz ci) hb (by rw [w, eb])
        cases ho with
        | false =>
          rw [if_pos b0f, qob_some, qun1_eq, qgd_nI hk' (by decide), nI_clamp (by omega)]
          refine put _ (fun i ci w => ?_)
          rw [eb]
          refine bs_congr (bs_bit hb) (fun j _ => ?_)
          unfold aft
          rw [if_pos (eib i ci w), if_neg Bool.false_ne_true]
          by_cases e : j = b
          · subst e; simp [cellS_iff.mpr cb]
          · simp [e]
        | true =>
          rw [if_neg b0t, qob_some, qun1_eq, qgd_nI hk' (by decide), nI_clamp (by omega)]
          refine put _ (fun i ci w => ?_)
          rw [eb]
          refine bs_congr (bs_andn hcw (bs_bit hb)) (fun j _ => ?_)
          unfold aft
          rw [if_pos (eib i ci w), if_pos rfl]
          by_cases e : j = b
          · subst e; simp
          · simp [e]
      · rw [if_neg (nI_ne (by omega) (by omega) eb)]
        have nib : ∀ i, isC R C i → pl i = k → i ≠ b := fun i ci w q => eb (by rw [← w, q])
        cases ho with
        | false =>
          rw [if_pos b0f, qgd_nI hk' (by decide), qgd_nI hk' (by decide), nI_clamp (by omega)]
          refine put _ (fun i ci w => ?_)
          have hi := hB i ci
          rw [w] at hi
          refine bs_congr (bs_near hz hr hd hi) (fun j hj => ?_)
          unfold aft
          rw [if_neg (nib i ci w), if_neg Bool.false_ne_true]
          cases hc : cellS R C j with
          | false =>
            cases q : nearS rt dn (fun j => cellS R C j && X i j) j with
            | false => rfl
            | true =>
              have := near_cell hz (fun t ht => by rw [Bool.and_eq_true, cellS_iff] at ht; exact ht.1) q
              rw [cellS_iff.mpr this] at hc
              cases hc
          | true =>
            rw [Bool.true_and]
            exact near_cg hz (cellS_iff.mp hc) (fun t ct => by rw [cellS_iff.mpr ct, Bool.true_and])
        | true =>
          rw [if_neg b0t, qgd_nI hk' (by decide), qgd_nI hk' (by decide), nI_clamp (by omega)]
          refine put _ (fun i ci w => ?_)
          have hi := hB i ci
          rw [w] at hi
          refine bs_congr (bs_andn hcw (bs_near hz hr hd (bs_andn hcw hi))) (fun j hj => ?_)
          unfold aft
          rw [if_neg (nib i ci w), if_pos rfl]
          cases hc : cellS R C j with
          | false => rfl
          | true =>
            rw [Bool.true_and, Bool.true_and]
            congr 1
            exact near_cg hz (cellS_iff.mp hc) (fun t ct => by rw [cellS_iff.mpr ct, Bool.true_and, Bool.true_and])) qFU (qFU_gt (by decide)) ((0 : Int32), af) ⟨af, rfl, fun i _ hi => absurd hi (Nat.not_lt_zero _)⟩
  exact ⟨e, by rw [le_X2_lookBackOverHunter, g1, qob_some], g2⟩
set_option maxRecDepth 20000 in
theorem Cchoice {R C : Nat} {rt dn : Nat → Bool} {r d : Int64} (hz : Mz R C rt dn) (hr : bs r rt) (hd : bs d dn) (ho : Bool) {Y : Nat → Nat → Bool} {af : Nat → Int64} (hA : BF R C af Y) {i : Nat} (ci : isC R C i) :
    ∃ x, fX2_overChoices af (cwv R C) r d (nI (pl i)) (b2i ho) = some x ∧ bs x (fun j => cellS R C j && (if ho then nearS rt dn (fun t => Y t j) i else !nearS rt dn (fun t => !Y t j) i)) := by
  have hi := isC_lt hz ci
  have hpi := pl_lt hi
  obtain ⟨e, g1, g2⟩ := qlp_idx (f := lb_X2_overChoices_1 af (cwv R C) r d (nI (pl i)) (b2i ho)) (fun s st => ∃ x S, st = (x, nI s) ∧ bs x S ∧ ∀ j, j < 36 → (S j = true ↔ isC R C j ∧ (if ho then (Y i j = true ∨ ∃ s', s' < s ∧ opS rt dn i s' = true ∧ Y (mvN i s') j = true) else (Y i j = true ∧ ∀ s', s' < s → opS rt dn i s' = true → Y (mvN i s') j = true)))) 4 (fun e => ∃ S, bs e S ∧ ∀ j, j < 36 → (S j = true ↔ isC R C j ∧ (if ho then (Y i j = true ∨ ∃ s', s' < 4 ∧ opS rt dn i s' = true ∧ Y (mvN i s') j = true) else (Y i j = true ∧ ∀ s', s' < 4 → opS rt dn i s' = true → Y (mvN i s') j = true)))) (by
    rintro s st hs ⟨x, S, rfl, hx, hS⟩
    rw [ls_X2_overChoices_1]
    by_cases q : s = 4
    · right
      subst q
      exact ⟨x, by rw [if_pos (y4 (Nat.le_refl 4) (by decide))], S, hx, hS⟩
    · left
      have hs4 : s < 4 := by omega
      refine ⟨hs4, ?_⟩
      rw [if_neg (n4 hs4)]
      simp only [qbd]
      rw [Cneigh hz hr hd ci hs4]
      cases hop : opS rt dn i s with
      | false =>
        rw [if_neg Bool.false_ne_true, if_pos rfl]
        refine ⟨_, rfl, x, S, by rw [nI_1], hx, fun j hj => (hS j hj).trans (and_congr_right (fun cj => ?_))⟩
        cases ho with
        | true =>
          rw [if_pos rfl, if_pos rfl]
          refine or_congr_right ⟨fun ⟨s', a1, a2⟩ => ⟨s', by omega, a2⟩, fun ⟨s', a1, a2, a3⟩ => ⟨s', ?_, a2, a3⟩⟩
          by_cases e : s' = s
          · subst e; rw [hop] at a2; cases a2
          · omega
        | false =>
          rw [if_neg Bool.false_ne_true, if_neg Bool.false_ne_true]
          refine and_congr_right (fun _ => ⟨fun w s' a1 a2 => ?_, fun w s' a1 a2 => w s' (by omega) a2⟩)
          by_cases e : s' = s
          · subst e; rw [hop] at a2; cases a2
          · exact w s' (by omega) a2
      | true =>
        have hmv := op_isC hz ci hs4 hop
        have hpm := pl_lt hmv.2
        rw [if_pos rfl, if_neg (nI_m1 (by omega)), qgd_nI hpm (by decide), qgd_nI hpm (by decide), nI_clamp (by omega)]
        have ha := hA _ hmv.1
        cases ho with
        | true =>
          rw [if_neg b0t]
          refine ⟨_, rfl, _, _, by rw [nI_1], bs_or hx ha, fun j hj => ?_⟩
          have := hS j hj
          rw [if_pos rfl] at this ⊢
          rw [Bool.or_eq_true, this, Bool.and_eq_true, cellS_iff]
          constructor
          · rintro (⟨c, w | ⟨s', a1, a2⟩⟩ | ⟨c, w⟩)
            · exact ⟨c, Or.inl w⟩
            · exact ⟨c, Or.inr ⟨s', by omega, a2⟩⟩
            · exact ⟨c, Or.inr ⟨s, by omega, hop, w⟩⟩
          · rintro ⟨c, w | ⟨s', a1, a2, a3⟩⟩
            · exact Or.inl ⟨c, Or.inl w⟩
            · by_cases e : s' = s
              · subst e; exact Or.inr ⟨c, a3⟩
              · exact Or.inl ⟨c, Or.inr ⟨s', by omega, a2, a3⟩⟩
        | false =>
          rw [if_pos b0f]
          refine ⟨_, rfl, _, _, by rw [nI_1], bs_and hx ha, fun j hj => ?_⟩
          have := hS j hj
          rw [if_neg Bool.false_ne_true] at this ⊢
          rw [Bool.and_eq_true, this, Bool.and_eq_true, cellS_iff]
          constructor
          · rintro ⟨⟨c, w1, w2⟩, -, w3⟩
            refine ⟨c, w1, fun s' a1 a2 => ?_⟩
            by_cases e : s' = s
            · subst e; exact w3
            · exact w2 s' (by omega) a2
          · rintro ⟨c, w1, w2⟩
            exact ⟨⟨c, w1, fun s' a1 a2 => w2 s' (by omega) a2⟩, c, w2 s (by omega) hop⟩) qFU (qFU_gt (by decide)) (af (pl i), (0 : Int32)) ⟨af (pl i), _, rfl, hA i ci, fun j hj => by
      rw [Bool.and_eq_true, cellS_iff]
      refine and_congr_right (fun _ => ?_)
      cases ho with
      | true =>
        rw [if_pos rfl]
        exact ⟨fun w => Or.inl w, fun w => by
          rcases w with w | ⟨s', a1, _⟩
          · exact w
          · exact absurd a1 (Nat.not_lt_zero s')⟩
      | false =>
        rw [if_neg Bool.false_ne_true]
        exact ⟨fun w => ⟨w, fun s' a1 => absurd a1 (Nat.not_lt_zero s')⟩, fun w => w.1⟩⟩
  obtain ⟨S, h1, h2⟩ := g2
  refine ⟨e, ?_, bs_congr h1 (fun j hj => ?_)⟩
  · rw [le_X2_overChoices, qgd_nI hpi (by decide), nI_clamp (by omega), g1, qob_some]
  · rw [Bool.eq_iff_iff, h2 j hj, Bool.and_eq_true, cellS_iff]
    refine and_congr_right (fun _ => ?_)
    cases ho with
    | true =>
      rw [if_pos rfl, if_pos rfl, near_iff hz]
    | false =>
      rw [if_neg Bool.false_ne_true, if_neg Bool.false_ne_true, ← oS_all hz (P := fun t => Y t j)]
      constructor
      · rintro ⟨w1, w2⟩ s t hs ht
        rcases ht with ⟨a1, a2, rfl⟩ | ⟨-, rfl⟩
        · exact w2 s a1 a2
        · exact w1
      · intro w
        exact ⟨w 4 i (by decide) (Or.inr ⟨rfl, rfl⟩), fun s' a1 a2 => w s' _ (by omega) (Or.inl ⟨a1, a2, rfl⟩)⟩
set_option maxRecDepth 20000 in
theorem Crunner {R C : Nat} {rt dn : Nat → Bool} {r d : Int64} (hz : Mz R C rt dn) (hr : bs r rt) (hd : bs d dn) {b : Nat} (ho : Bool) {X : Nat → Nat → Bool} {bf af : Nat → Int64} (hB : BF R C bf X) (hA : BF R C af (aft rt dn b ho X)) :
    ∃ v bf', fX2_lookBackOverRunner bf af (cwv R C) r d (b2i ho) = some (b2i v, bf') ∧ BF R C bf' (Cst rt dn b ho X) ∧ (v = false → ∀ i j, isC R C i → isC R C j → Cst rt dn b ho X i j = X i j) := by
  have hcw := cwv_ok hz.1.2 hz.2.1.2
  obtain ⟨e, g1, v, bf', rfl, g2, g3⟩ := qlp_pl (f := lb_X2_lookBackOverRunner_1 af (cwv R C) r d (b2i ho))
    (fun k j st => ∃ v bf', st = (b2i v, nI k, bf') ∧ (∀ i, isC R C i → i < j → bs (bf' (pl i)) (fun t => cellS R C t && Cst rt dn b ho X i t)) ∧ (∀ i, isC R C i → j ≤ i → bf' (pl i) = bf (pl i)) ∧ (v = false → ∀ i t, i < j → isC R C i → isC R C t → Cst rt dn b ho X i t = X i t))
    (fun e => ∃ v bf', e = (b2i v, bf') ∧ BF R C bf' (Cst rt dn b ho X) ∧ (v = false → ∀ i t, isC R C i → isC R C t → Cst rt dn b ho X i t = X i t))
    (by
      rintro j st hj ⟨v, bf', rfl, h1, h2, h3⟩
      have hpj := pl_lt hj
      rw [ls_X2_lookBackOverRunner_1, if_neg (n48 hpj), bs_has hcw hj]
      cases hc : cellS R C j with
      | false =>
        have nj : ¬ isC R C j := fun w => by rw [cellS_iff.mpr w] at hc; cases hc
        have ne : ∀ i, isC R C i → i ≠ j := fun i ci w => nj (w ▸ ci)
        rw [if_pos b0f]
        refine ⟨_, rfl, v, bf', by rw [nI_1], fun i ci hi => h1 i ci (by have := ne i ci; omega), fun i ci hi => h2 i ci (by omega), fun w i t hi ci ct => h3 w i t (by have := ne i ci; omega) ci ct⟩
      | true =>
        have cj := cellS_iff.mp hc
        obtain ⟨x, c1, c2⟩ := Cchoice hz hr hd ho hA cj
        have hwon : ∃ w, (if b2i ho = 0 then some (x ||| fX1_bit (nI (pl j))) else some (x &&& (fX1_bit (nI (pl j)) ^^^ (-1)))) = some w ∧ bs w (fun t => cellS R C t && Cst rt dn b ho X j t) := by
          cases ho with
          | false =>
            refine ⟨_, by rw [if_pos b0f], bs_congr (bs_or c2 (bs_bit hj)) (fun t _ => ?_)⟩
            unfold Cst
            rw [if_neg Bool.false_ne_true, if_neg Bool.false_ne_true]
            by_cases e : t = j
            · subst e; simp [hc]
            · simp [e, show ¬ j = t from fun q => e q.symm]
          | true =>
            refine ⟨_, by rw [if_neg b0t], bs_congr (bs_andn c2 (bs_bit hj)) (fun t _ => ?_)⟩
            unfold Cst
            rw [if_pos rfl, if_pos rfl]
            by_cases e : t = j
            · subst e; simp
            · simp [e, show ¬ j = t from fun q => e q.symm]
        obtain ⟨w, w1, w2⟩ := hwon
        rw [if_neg b0t, c1, qob_some, qun1_eq, w1, qob_some, qun1_eq, qgd_nI hpj (by decide), nI_clamp (by omega), h2 j cj (Nat.le_refl j)]
        have hbj := hB j cj
        have heq := bs_eq w2 hbj
        have fin : ∀ v', (v' = false → v = false ∧ w = bf (pl j)) → ∃ s', Option.bind (some (b2i v')) (qun1 fun (s_2 : Int32) => qgd (nI (pl j)) 48 (some (Sum.inl (s_2, (nI (pl j) + 1), (vp_updL bf' (pl j) w))))) = some (Sum.inl s' : (Int32 × Int32 × (Nat → Int64)) ⊕ (Int32 × (Nat → Int64))) ∧ ∃ v bf', s' = (b2i v, nI (pl j + 1), bf') ∧ (∀ i, isC R C i → i < j + 1 → bs (bf' (pl i)) (fun t => cellS R C t && Cst rt dn b ho X i t)) ∧ (∀ i, isC R C i → j + 1 ≤ i → bf' (pl i) = bf (pl i)) ∧ (v = false → ∀ i t, i < j + 1 → isC R C i → isC R C t → Cst rt dn b ho X i t = X i t) := by
          intro v' hv'
          rw [qob_some, qun1_eq, qgd_nI hpj (by decide)]
          refine ⟨_, rfl, v', _, by rw [nI_1], fun i ci hi => ?_, fun i ci hi => ?_, fun q i t hi ci ct => ?_⟩
          · by_cases e : i = j
            · subst e
              rw [updL_s]
              exact w2
            · rw [updL_n (fun q => e (pl_inj (isC_lt hz ci) hj q))]
              exact h1 i ci (by omega)
          · rw [updL_n (fun q => by have := pl_inj (isC_lt hz ci) hj q; omega)]
            exact h2 i ci (by omega)
          · obtain ⟨q1, q2⟩ := hv' q
            by_cases e : i = j
            · subst e
              have := heq.mp q2 t (isC_lt hz ct)
              rw [cellS_iff.mpr ct, Bool.true_and, Bool.true_and] at this
              exact this
            · exact h3 q1 i t (by omega) ci ct
        cases v with
        | true =>
          rw [if_neg b0t]
          exact fin true (fun q => by cases q)
        | false =>
          rw [if_pos b0f]
          by_cases q : w = bf (pl j)
          · rw [if_pos (lg_0.mpr q)]
            exact fin false (fun _ => ⟨rfl, q⟩)
          · rw [if_neg (fun x => q (lg_0.mp x))]
            exact fin true (fun x => by cases x))
    (by
      rintro k j st hk hno ⟨v, bf', rfl, h⟩
      rw [ls_X2_lookBackOverRunner_1, if_neg (n48 hk), has_in _ hk, out_no hz hno, if_pos b0f]
      exact ⟨_, rfl, v, bf', by rw [nI_1], h⟩)
    (by
      rintro st ⟨v, bf', rfl, h1, h2, h3⟩
      exact ⟨_, by rw [ls_X2_lookBackOverRunner_1, if_pos (y48 (Nat.le_refl _) (by decide))], v, bf', rfl, fun i ci => h1 i ci (isC_lt hz ci), fun w i t ci ct => h3 w i t (isC_lt hz ci) ci ct⟩)
    ((0 : Int32), (0 : Int32), bf) ⟨false, bf, rfl, fun i _ hi => absurd hi (Nat.not_lt_zero i), fun _ _ _ => rfl, fun _ i t hi => absurd hi (Nat.not_lt_zero i)⟩
  refine ⟨v, bf', ?_, g2, g3⟩
  rw [le_X2_lookBackOverRunner, g1, qob_some, qun2_eq, qnb_b2i]
theorem lab_36 {R C : Nat} {rt dn : Nat → Bool} {b : Nat} {ho : Bool} {n i j : Nat} (hj : j < 36) : labK R C rt dn b ho n (36 * i + j) = lab R C rt dn b ho n i j := by
  unfold labK
  rw [show (36 * i + j) / 36 = i by omega, show (36 * i + j) % 36 = j by omega]
set_option maxRecDepth 20000 in
theorem Cwon {R C : Nat} {rt dn : Nat → Bool} {r d : Int64} (hz : Mz R C rt dn) (hr : bs r rt) (hd : bs d dn) {b i j : Nat} (cb : isC R C b) (ci : isC R C i) (cj : isC R C j) (ho : Bool) (bf af : Nat → Int64) {v : Nat} (hv : chV R C rt dn b ho (36 * i + j) v) :
    ∃ bf' af', fX2_turnsTillWon bf af (nI (pl b)) (cwv R C) r d (nI (pl i)) (nI (pl j)) (b2i ho) = some (farV v, bf', af') := by
  have hi := isC_lt hz ci
  have hj := isC_lt hz cj
  have hb := isC_lt hz cb
  have hpi := pl_lt hi
  have hpj := pl_lt hj
  have hpb := pl_lt hb
  have hv : (v = 9999 ∧ ∀ m, lab R C rt dn b ho m i j = false) ∨ (v ≤ 1296 ∧ lab R C rt dn b ho v i j = true ∧ ∀ m, m < v → lab R C rt dn b ho m i j = false) := by
    rcases hv with ⟨h1, h2⟩ | ⟨h1, h2, h3⟩
    · exact Or.inl ⟨h1, fun m => by rw [← lab_36 hj]; exact h2 m⟩
    · exact Or.inr ⟨h1, by rw [← lab_36 hj]; exact h2, fun m hm => by rw [← lab_36 hj]; exact h3 m hm⟩
  rw [le_X2_turnsTillWon]
  by_cases eb : i = b
  · have hl : ∀ m, lab R C rt dn b ho m i j = ho := fun m => by rw [lab_c ci cj, if_pos eb]
    rw [if_pos (by rw [eb])]
    cases ho with
    | true =>
      have : v = 0 := by
        rcases hv with ⟨-, h⟩ | ⟨-, -, h⟩
        · have := h 0; rw [hl] at this; cases this
        · by_cases q : v = 0
          · exact q
          · have := h 0 (by omega); rw [hl] at this; cases this
      subst this
      exact ⟨bf, af, by rw [if_neg b0t]; rfl⟩
    | false =>
      have : v = 9999 := by
        rcases hv with ⟨h, -⟩ | ⟨-, h, -⟩
        · exact h
        · rw [hl] at h; cases h
      subst this
      exact ⟨bf, af, by rw [if_pos b0f]; rfl⟩
  · rw [if_neg (nI_ne (by omega) (by omega) (fun q => eb (pl_inj hi hb q)))]
    have hl : ∀ m, lab R C rt dn b ho m i j = Cs rt dn b ho m i j := fun m => by rw [lab_c ci cj, if_neg eb]
    by_cases ej : i = j
    · subst ej
      rw [if_pos rfl, qob_some, Sum.elim_inl]
      cases ho with
      | true =>
        have : v = 9999 := by
          rcases hv with ⟨h, -⟩ | ⟨-, h, -⟩
          · exact h
          · rw [hl] at h; exact absurd rfl (Cs_ne v h)
        subst this
        exact ⟨bf, af, by rw [if_neg b0t]; rfl⟩
      | false =>
        have : v = 0 := by
          rcases hv with ⟨-, h⟩ | ⟨-, -, h⟩
          · have := h 0; rw [hl, Cs_eq] at this; cases this
          · by_cases q : v = 0
            · exact q
            · have := h 0 (by omega); rw [hl, Cs_eq] at this; cases this
        subst this
        exact ⟨bf, af, by rw [if_pos b0f]; rfl⟩
    · have h0 : Cs rt dn b ho 0 i j = false := by rw [Cs_0]; simp [ej]
      obtain ⟨b0, z1, z2⟩ := Cbegin hz b ho bf
      obtain ⟨e, g1, bf', af', g2⟩ := qlp_idx (f := lb_X2_turnsTillWon_1 (nI (pl b)) (cwv R C) r d (nI (pl i)) (nI (pl j)) (b2i ho)) (fun n st => ∃ bf af, st = (nI (n + 1), bf, af) ∧ BF R C bf (Cs rt dn b ho n) ∧ ∀ m, m ≤ n → Cs rt dn b ho m i j = false) 1296
        (fun (e : ((Nat → Int64) × (Nat → Int64)) ⊕ (Unit ⊕ (Int32 × (Nat → Int64) × (Nat → Int64)))) => ∃ bf' af', Sum.elim (qun2 fun (hu_before_2 : Nat → Int64) (hu_after_1 : Nat → Int64) => some (Sum.inr ((-9 : Int32), hu_before_2, hu_after_1))) some e = some (Sum.inr (farV v, bf', af') : Unit ⊕ (Int32 × (Nat → Int64) × (Nat → Int64)))) (by
        rintro n st hn ⟨bf, af, rfl, hB, hno⟩
        rw [ls_X2_turnsTillWon_1]
        by_cases q : n = 1296
        · right
          subst q
          have hv9 : v = 9999 := by
            rcases hv with ⟨h, -⟩ | ⟨h, h2, -⟩
            · exact h
            · have := hno v h
              rw [← hl, h2] at this
              cases this
          refine ⟨_, by rw [if_pos (show (1296 : Int32) < nI (1296 + 1) from nI_lt (a := 1296) (by omega) (by decide))], bf, af, ?_⟩
          rw [hv9]
          rfl
        · obtain ⟨a1, c1, c2⟩ := Chunter hz hr hd cb ho hB af
          obtain ⟨w, b1, c3, c4, c5⟩ := Crunner hz hr hd ho hB c2
          have hbi := c4 i ci
          rw [if_neg (show ¬ (1296 : Int32) < nI (n + 1) from nI_nlt (a := 1296) (by omega) (by decide)), c1, qob_some, qun1_eq, c3, qob_some, qun2_eq, qgd_nI hpi (by decide), nI_clamp (by omega), bs_has hbi hj, cellS_iff.mpr cj, Bool.true_and, ← Cs_s]
          cases hq : Cs rt dn b ho (n + 1) i j with
          | true =>
            right
            have hvn : v = n + 1 := by
              rcases hv with ⟨-, h⟩ | ⟨-, h2, h3⟩
              · have := h (n + 1); rw [hl, hq] at this; cases this
              · rcases Nat.lt_trichotomy v (n + 1) with g | g | g
                · have := hno v (by omega); rw [← hl, h2] at this; cases this
                · exact g
                · have := h3 (n + 1) g; rw [hl, hq] at this; cases this
            refine ⟨_, by rw [if_neg b0t], b1, a1, ?_⟩
            rw [hvn]
            unfold farV
            rw [if_neg (by omega)]
            rfl
          | false =>
            rw [if_pos b0f]
            cases w with
            | true =>
              left
              refine ⟨by omega, (nI (n + 1 + 1), b1, a1), by rw [if_neg b0t, nI_1], b1, a1, rfl, c4, fun m hm => ?_⟩
              by_cases e : m = n + 1
              · rw [e]; exact hq
              · exact hno m (by omega)
            | false =>
              right
              have hv9 : v = 9999 := by
                rcases hv with ⟨h, -⟩ | ⟨-, h2, -⟩
                · exact h
                · exfalso
                  have hst : ∀ i j, isC R C i → isC R C j → lab R C rt dn b ho (n + 1) i j = lab R C rt dn b ho n i j := fun i j ci cj => by
                    rw [lab_c ci cj, lab_c ci cj, Cs_s, c5 rfl i j ci cj]
                  by_cases g : v ≤ n
                  · have := hno v g; rw [← hl, h2] at this; cases this
                  · have := (lab_stab hz hst (v - n) i j ci cj).1
                    rw [show n + (v - n) = v by omega, h2, hl, hno n (Nat.le_refl n)] at this
                    cases this
              refine ⟨_, by rw [if_pos b0f], b1, a1, ?_⟩
              rw [hv9]
              rfl) qFU (qFU_gt (by decide)) ((1 : Int32), b0, af) ⟨b0, af, rfl, z2, fun m hm => by rw [show m = 0 by omega]; exact h0⟩
      refine ⟨bf', af', ?_⟩
      rw [if_neg (nI_ne (by omega) (by omega) (fun q => ej (pl_inj hi hj q))), if_neg (nI_pos (by omega)), if_pos (show nI (pl i) < (48 : Int32) from nI_lt (b := 48) hpi (by decide)), z1, qob_some, qun1_eq, g1, qob_some, g2, qob_some]
      rfl
set_option maxRecDepth 20000 in
theorem st_chase {sc_length : Int32} {sc_bytes : Nat → Int32} {g_rows : Int32} {g_columns : Int32} {g_a : Int32} {g_b : Int32} {g_cells : Int64} {g_right : Int64} {g_down : Int64} {m_textSize : Int32} {m_text : Nat → Int32} {m_rows : Int32} {m_columns : Int32} {m_a : Int32} {m_b : Int32} {m_right : Nat → Int32} {m_down : Nat → Int32} {m_shut : Nat → Int32} {m_keptFigures : Nat → Int32} {m_keptNumbers : Nat → Int32} {m_isKept : Nat → Int32} {hu_before : Nat → Int64} {hu_after : Nat → Int64} {m_thrown : Int32} {m_turns : Nat → Int32} {sl_f : Nat → Option Nat} {k0 k1 : Option (Nat × KG)} {p1 : Int32} {p2 : Int32} {p3 : Bool} (h : Rel sc_length sc_bytes (g_rows, g_columns, g_a, g_b, g_cells, g_right, g_down) sl_f k0 k1 m_textSize m_text m_rows m_columns m_a m_b m_right m_down m_shut m_keptFigures m_keptNumbers m_isKept) : ∃ (r : Int32) (hu_before' : Nat → Int64) (hu_after' : Nat → Int64) (m_thrown' : Int32) (m_turns' : Nat → Int32), fX9_chase g_rows g_columns g_b g_cells g_right g_down hu_before hu_after p1 p2 (b2i p3) = some (r, hu_before', hu_after') ∧ fX10_chase m_thrown m_rows m_columns m_b m_right m_down m_turns p1 p2 (b2i p3) = some (r, m_thrown', m_turns') ∧ Rel sc_length sc_bytes (g_rows, g_columns, g_a, g_b, g_cells, g_right, g_down) sl_f k0 k1 m_textSize m_text m_rows m_columns m_a m_b m_right m_down m_shut m_keptFigures m_keptNumbers m_isKept := by
  obtain ⟨R, C, rt, dn, a, b, n, tx, z0, z1, hz, ha, hb, rfl, rfl, rfl, rfl, rfl, hr, hd, rfl, rfl, rfl, rfl, hm, ht, hsh, h0, h1, e0, e1⟩ := id h.un
  unfold fX9_chase fX10_chase
  rcases cell_two hz p1 with ⟨q1, q2⟩ | ⟨i, hi, ci, q1, q3, n1, n2⟩
  · rw [if_pos q1, if_pos q2]
    exact ⟨_, _, _, _, _, rfl, rfl, h⟩
  · rw [if_neg n1, if_neg n2]
    rcases cell_two hz p2 with ⟨u1, u2⟩ | ⟨j, hj, cj, u1, u3, v1, v2⟩
    · rw [if_pos u1, if_pos u2]
      exact ⟨_, _, _, _, _, rfl, rfl, h⟩
    · obtain ⟨tn', m1, m2⟩ := MlayT hz hm hb p3 m_turns
      obtain ⟨v, m3, m4⟩ := m2 (36 * i + j) (by omega)
      obtain ⟨bf', af', c1⟩ := Cwon hz hr hd hb ci cj p3 hu_before hu_after m4
      have hv2 : v = 9999 ∨ v ≤ 1296 := by
        rcases m4 with ⟨w, -⟩ | ⟨w, -⟩
        · exact Or.inl w
        · exact Or.inr w
      rw [if_neg v1, if_neg v2, q1, u1, q3, u3, c1, qob_some, m1, qob_some, qun1_eq, idx36, qgd_nI (by omega) (by decide), nI_clamp (by omega)]
      simp only [qbd]
      rw [m3]
      refine ⟨farV v, bf', af', 0, tn', rfl, ?_, h⟩
      unfold farV
      by_cases e : v = 9999
      · rw [if_pos e, if_pos (show (9999 : Int32) ≤ nI v by rw [e]; decide)]
      · rw [if_neg e, if_neg (show ¬ (9999 : Int32) ≤ nI v from nI_ge (b := 9999) (by omega) (by decide))]

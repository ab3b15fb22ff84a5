/-! thread, seen -/
def fnP (rt dn V : Nat → Bool) (p s : Nat) : Bool := opS rt dn p s && !V (mvN p s)
set_option maxRecDepth 20000 in
theorem Cnew {R C : Nat} {rt dn V : Nat → Bool} {r d x : Int64} (hz : Mz R C rt dn) (hr : bs r rt) (hd : bs d dn) (hx : bs x V) {p : Nat} (cp : isC R C p) :
    (fX8_firstNew (nI (pl p)) x (cwv R C) r d = some (-1) ∧ ∀ s, s < 4 → fnP rt dn V p s = false) ∨ ∃ s0, s0 < 4 ∧ fX8_firstNew (nI (pl p)) x (cwv R C) r d = some (nI (pl (mvN p s0))) ∧ fnP rt dn V p s0 = true ∧ ∀ s, s < s0 → fnP rt dn V p s = false := by
  obtain ⟨e, g1, g2⟩ := qlp_idx (f := lb_X8_firstNew_1 (nI (pl p)) x (cwv R C) r d) (fun s st => st = nI s ∧ ∀ s', s' < s → fnP rt dn V p s' = false) 4
    (fun (e : Unit ⊕ Int32) => (e = .inl () ∧ ∀ s, s < 4 → fnP rt dn V p s = false) ∨ ∃ s0, s0 < 4 ∧ e = .inr (nI (pl (mvN p s0))) ∧ fnP rt dn V p s0 = true ∧ ∀ s, s < s0 → fnP rt dn V p s = false) (by
    rintro s st hs ⟨rfl, h⟩
    rw [ls_X8_firstNew_1]
    by_cases q : s = 4
    · right
      subst q
      exact ⟨_, by rw [if_pos (y4 (Nat.le_refl 4) (by decide))], Or.inl ⟨rfl, h⟩⟩
    · have hs4 : s < 4 := by omega
      rw [if_neg (n4 hs4)]
      simp only [qbd]
      rw [Cneigh hz hr hd cp hs4]
      have next : fnP rt dn V p s = false → ∀ s', s' < s + 1 → fnP rt dn V p s' = false := fun w s' hs' => by
        by_cases e : s' = s
        · subst e; exact w
        · exact h s' (by omega)
      cases ho : opS rt dn p s with
      | false =>
        left
        exact ⟨hs4, nI (s + 1), by rw [if_neg Bool.false_ne_true, if_pos rfl, nI_1], rfl, next (by unfold fnP; rw [ho]; rfl)⟩
      | true =>
        have hm := op_isC hz cp hs4 ho
        have := pl_lt hm.2
        rw [if_pos rfl, if_neg (nI_m1 (by omega)), bs_has hx hm.2]
        cases hV : V (mvN p s) with
        | false =>
          right
          exact ⟨_, by rw [if_pos b0f], Or.inr ⟨s, hs4, rfl, by unfold fnP; rw [ho, hV]; rfl, h⟩⟩
        | true =>
          left
          exact ⟨hs4, nI (s + 1), by rw [if_neg b0t, nI_1], rfl, next (by unfold fnP; rw [ho, hV]; rfl)⟩) qFU (qFU_gt (by decide)) (0 : Int32) ⟨rfl, fun s' hs' => absurd hs' (Nat.not_lt_zero s')⟩
  rw [le_X8_firstNew, g1, qob_some]
  rcases g2 with ⟨rfl, g2⟩ | ⟨s0, h4, rfl, g2, g3⟩
  · exact Or.inl ⟨rfl, g2⟩
  · exact Or.inr ⟨s0, h4, rfl, g2, g3⟩
theorem dn3 : ∀ i, i < 4 → (3 - nI i : Int32) + (-1) = 3 - nI (i + 1) ∧ (3 - nI i : Int32) = nI (3 - i) ∧ ¬ (3 - nI i : Int32) < 0 := by decide +kernel
theorem dn3e : (3 - nI 4 : Int32) < 0 := by decide +kernel
set_option maxRecDepth 20000 in
theorem Mnew {R C : Nat} {rt dn V : Nat → Bool} {mr md mw : Nat → Int32} (hz : Mz R C rt dn) (hm : ∀ i, i < 36 → mr i = b2i (rt i) ∧ md i = b2i (dn i)) (hw : ∀ i, i < 36 → mw i = b2i (V i)) {p : Nat} (cp : isC R C p) :
    (qlp qFU (lb_X10_goThread_3 (nI R) (nI C) mr md (nI p) mw) ((-9 : Int32), (3 : Int32)) = some (-9) ∧ ∀ s, s < 4 → fnP rt dn V p s = false) ∨ ∃ s0, s0 < 4 ∧ qlp qFU (lb_X10_goThread_3 (nI R) (nI C) mr md (nI p) mw) ((-9 : Int32), (3 : Int32)) = some (nI (mvN p s0)) ∧ fnP rt dn V p s0 = true ∧ ∀ s, s < s0 → fnP rt dn V p s = false := by
  have hRC := hz.1
  have hCC := hz.2.1
  have hp := isC_lt hz cp
  obtain ⟨e, g1, g2⟩ := qlp_idx (f := lb_X10_goThread_3 (nI R) (nI C) mr md (nI p) mw) (fun i st => ∃ v, st = (v, 3 - nI i) ∧ ((v = -9 ∧ ∀ s, s < 4 → 4 - i ≤ s → fnP rt dn V p s = false) ∨ ∃ s0, s0 < 4 ∧ 4 - i ≤ s0 ∧ v = nI (mvN p s0) ∧ fnP rt dn V p s0 = true ∧ ∀ s, s < s0 → 4 - i ≤ s → fnP rt dn V p s = false)) 4
    (fun v => (v = -9 ∧ ∀ s, s < 4 → fnP rt dn V p s = false) ∨ ∃ s0, s0 < 4 ∧ v = nI (mvN p s0) ∧ fnP rt dn V p s0 = true ∧ ∀ s, s < s0 → fnP rt dn V p s = false) (by
    rintro i st hi ⟨v, rfl, h⟩
    rw [ls_X10_goThread_3]
    by_cases q : i = 4
    · right
      subst q
      refine ⟨v, by rw [if_pos dn3e], ?_⟩
      rcases h with ⟨h1, h2⟩ | ⟨s0, h1, h2, h3, h4, h5⟩
      · exact Or.inl ⟨h1, fun s hs => h2 s hs (by omega)⟩
      · exact Or.inr ⟨s0, h1, h3, h4, fun s hs => h5 s hs (by omega)⟩
    · left
      have hi4 : i < 4 := by omega
      obtain ⟨a1, a2, a3⟩ := dn3 i hi4
      have hs4 : 3 - i < 4 := by omega
      refine ⟨hi4, ?_⟩
      rw [if_neg a3, a1, a2, Mopen hz hm cp hs4, qob_some, qun1_eq, Mbeside R (by omega) C (by omega) p hp (3 - i) hs4 cp]
      have keep : fnP rt dn V p (3 - i) = false → ∃ s', some (Sum.inl (v, 3 - nI (i + 1))) = some (Sum.inl s' : (Int32 × Int32) ⊕ Int32) ∧ ∃ v, s' = (v, 3 - nI (i + 1)) ∧ ((v = -9 ∧ ∀ s, s < 4 → 4 - (i + 1) ≤ s → fnP rt dn V p s = false) ∨ ∃ s0, s0 < 4 ∧ 4 - (i + 1) ≤ s0 ∧ v = nI (mvN p s0) ∧ fnP rt dn V p s0 = true ∧ ∀ s, s < s0 → 4 - (i + 1) ≤ s → fnP rt dn V p s = false) := by
        intro w
        refine ⟨_, rfl, v, rfl, ?_⟩
        rcases h with ⟨h1, h2⟩ | ⟨s0, h1, h2, h3, h4, h5⟩
        · refine Or.inl ⟨h1, fun s hs hge => ?_⟩
          by_cases e : s = 3 - i
          · subst e; exact w
          · exact h2 s hs (by omega)
        · refine Or.inr ⟨s0, h1, by omega, h3, h4, fun s hs hge => ?_⟩
          by_cases e : s = 3 - i
          · subst e; exact w
          · exact h5 s hs (by omega)
      cases ho : opS rt dn p (3 - i) with
      | false =>
        rw [if_pos b0f]
        exact keep (by unfold fnP; rw [ho]; rfl)
      | true =>
        have hmv := op_isC hz cp hs4 ho
        rw [if_neg b0t, op_rim hz hs4 ho, if_pos rfl, qgd_nI hmv.2 (by decide), nI_clamp (by omega), hw _ hmv.2]
        cases hV : V (mvN p (3 - i)) with
        | false =>
          rw [if_pos b0f]
          exact ⟨_, rfl, _, rfl, Or.inr ⟨3 - i, hs4, by omega, rfl, by unfold fnP; rw [ho, hV]; rfl, fun s hs hge => by omega⟩⟩
        | true =>
          rw [if_neg b0t]
          exact keep (by unfold fnP; rw [ho, hV]; rfl)) qFU (qFU_gt (by decide)) ((-9 : Int32), (3 : Int32)) ⟨-9, rfl, Or.inl ⟨rfl, fun s hs hge => by omega⟩⟩
  rcases g2 with ⟨rfl, g2⟩ | ⟨s0, h4, rfl, g2, g3⟩
  · exact Or.inl ⟨g1, g2⟩
  · exact Or.inr ⟨s0, h4, g1, g2, g3⟩
theorem new_two {rt dn V : Nat → Bool} {p s0 s1 : Nat} (h1 : fnP rt dn V p s0 = true) (h2 : ∀ s, s < s0 → fnP rt dn V p s = false) (h3 : fnP rt dn V p s1 = true) (h4 : ∀ s, s < s1 → fnP rt dn V p s = false) : s0 = s1 := by
  rcases Nat.lt_trichotomy s0 s1 with q | q | q
  · rw [h4 s0 q] at h1; cases h1
  · exact q
  · rw [h2 s1 q] at h3; cases h3
set_option maxRecDepth 20000 in
theorem Mwas (mw : Nat → Int32) : ∃ mw', qlp qFU (lb_X10_goThread_1) ((0 : Int32), mw) = some mw' ∧ ∀ i, i < 36 → mw' i = 0 := by
  obtain ⟨e, g1, g2⟩ := qlp_idx (f := lb_X10_goThread_1) (fun k st => ∃ d', st = (nI k, d') ∧ ∀ j, j < k → d' j = 0) 36 (fun e => ∀ j, j < 36 → e j = 0) (by
    rintro k st hk ⟨d', rfl, h⟩
    rw [ls_X10_goThread_1]
    by_cases q : k = 36
    · right
      subst q
      exact ⟨d', by rw [if_pos (y36 (Nat.le_refl 36) (by decide))], h⟩
    · left
      have hk36 : k < 36 := by omega
      refine ⟨hk36, _, by rw [if_neg (n36 hk36), qgd_nI hk36 (by decide), nI_clamp (by omega)], _, by rw [nI_1], fun j hj => ?_⟩
      unfold upd
      by_cases e2 : j = k
      · rw [if_pos e2]; rfl
      · rw [if_neg e2]; exact h j (by omega)) qFU (qFU_gt (by decide)) ((0 : Int32), mw) ⟨mw, rfl, fun j hj => absurd hj (Nat.not_lt_zero j)⟩
  exact ⟨e, g1, g2⟩
/-- class and reference on the thread: at p, seen V, parents pa, depths dp -/
def thI (R C a : Nat) (V : Nat → Bool) (pa dp : Nat → Nat) (cf bk : Nat → Int32) : Prop :=
  V a = true ∧ (∀ i, V i = true → isC R C i) ∧ bk a = -9 ∧ dp a = 0 ∧ ∀ i, i < 36 → V i = true → i ≠ a → V (pa i) = true ∧ cf (pl i) = nI (pl (pa i)) ∧ bk i = nI (pa i) ∧ dp i = dp (pa i) + 1
set_option maxRecDepth 20000 in
set_option maxHeartbeats 1000000 in
theorem thread_both {R C : Nat} {rt dn : Nat → Bool} {r d : Int64} {mr md : Nat → Int32} (hz : Mz R C rt dn) (hr : bs r rt) (hd : bs d dn) (hm : ∀ i, i < 36 → mr i = b2i (rt i) ∧ md i = b2i (dn i)) {a b : Nat} (ha : isC R C a) (hb : isC R C b) (wp : Int32) (wv0 : Int64) (cf : Nat → Int32) (at0 cm0 : Int32) (bk mw : Nat → Int32) :
    ∃ (rr p' : Int32) (v' : Int64) (cf' : Nat → Int32) (at' : Int32) (bk' mw' : Nat → Int32), fX8_followThread wp wv0 cf (nI (pl a)) (nI (pl b)) (cwv R C) r d = some (rr, p', v', cf') ∧ fX10_goThread (nI R) (nI C) (nI a) (nI b) at0 cm0 mr md bk mw = some (rr, at', fJ13_bitCount_95d88 v', bk', mw') := by
  have ha36 := isC_lt hz ha
  have hb36 := isC_lt hz hb
  have hpa := pl_lt ha36
  have hpb := pl_lt hb36
  obtain ⟨mw1, w1, w2⟩ := Mwas mw
  have i1 : ∀ i, (fun i => decide (i = a)) i = true → isC R C i := fun i hi => by
    rw [of_decide_eq_true hi]
    exact ha
  have i2 : ∀ i, i < 36 → upd mw1 a (qnb 1) i = b2i ((fun i => decide (i = a)) i) := fun i hi => by
    unfold upd
    by_cases e : i = a
    · rw [if_pos e]; simp [e]; rfl
    · rw [if_neg e, w2 i hi]; simp [e]; rfl
  have i3 : cn (fun i => decide (i = a)) 36 = 1 := by
    have h1 : cn (upB (fun _ => false) a true) 36 = cn (fun _ => false) 36 + 1 := cn_up rfl 36 ha36
    rw [cn_0 36 (fun _ _ => rfl)] at h1
    rw [Nat.zero_add] at h1
    refine Eq.trans (cn_congr 36 (fun i _ => ?_)) h1
    unfold upB
    by_cases e : i = a
    · simp [e]
    · simp [e]
  obtain ⟨e, e', g1, g2, rr, p', v', cf', at', bk', mw', g3, g4⟩ := qlp_two (f := lb_X8_followThread_1 (nI (pl a)) (nI (pl b)) (cwv R C) r d) (g := lb_X10_goThread_2 (nI R) (nI C) (nI b) mr md)
    (fun n s s' => ∃ p V pa dp x cf bk mw, isC R C p ∧ V p = true ∧ thI R C a V pa dp cf bk ∧ bs x V ∧ (∀ i, i < 36 → mw i = b2i (V i)) ∧ n + dp p + 2 = 2 * cn V 36 ∧ s = (nI n, nI (pl p), x, cf) ∧ s' = (nI n, nI p, nI (cn V 36), bk, mw)) 71
    (fun e e' => ∃ (rr p' : Int32) (v' : Int64) (cf' : Nat → Int32) (at' : Int32) (bk' mw' : Nat → Int32), Sum.elim (qun3 fun (wk_place_1 : Int32) (wk_visited_1 : Int64) (wk_cameFrom_1 : Nat → Int32) => some ((-9 : Int32), wk_place_1, wk_visited_1, wk_cameFrom_1)) some e = some (rr, p', v', cf') ∧ Sum.elim (qun5 fun (x1_1 : Int32) (m_at_1 : Int32) (m_came_1 : Int32) (m_back_1 : Nat → Int32) (m_was_2 : Nat → Int32) => some (x1_1, m_at_1, m_came_1, m_back_1, m_was_2)) some e' = some (rr, at', fJ13_bitCount_95d88 v', bk', mw')) (by
    rintro n s s' hn ⟨p, V, pa, dp, x, cf, bk, mw, cp, hVp, ⟨t1, t2, t3, t4, t5⟩, hx, hw, hc, rfl, rfl⟩
    have hp36 := isC_lt hz cp
    have hpp := pl_lt hp36
    have hcn := cn_le V 36
    rw [ls_X8_followThread_1, ls_X10_goThread_2, if_neg (show ¬ (72 : Int32) < nI n from nI_nlt (a := 72) (by omega) (by decide))]
    by_cases eb : p = b
    · right
      subst eb
      rw [if_pos rfl, if_pos rfl]
      exact ⟨_, _, rfl, rfl, nI n, nI (pl p), x, cf, nI p, bk, mw, rfl, by rw [bs_count hx]; rfl⟩
    · rw [if_neg (nI_ne (by omega) (by omega) (fun q => eb (pl_inj hp36 hb36 q))), if_neg (nI_ne (by omega) (by omega) eb)]
      rcases Cnew hz hr hd hx cp with ⟨c1, c2⟩ | ⟨s0, h4, c1, c2, c3⟩
      · rcases Mnew hz hm hw cp with ⟨m1, m2⟩ | ⟨s1, h4', m1, m2, m3⟩
        · rw [c1, m1, qob_some, qun1_eq, qob_some, qun1_eq, if_pos rfl, if_pos rfl, qgd_nI hp36 (by decide), nI_clamp (n := p) (by omega)]
          by_cases ea : p = a
          · right
            subst ea
            rw [if_pos rfl, if_pos t3, qob_some]
            exact ⟨_, _, rfl, rfl, -9, nI (pl p), x, cf, nI p, bk, mw, rfl, by rw [bs_count hx]; rfl⟩
          · left
            obtain ⟨u1, u2, u3, u4⟩ := t5 p hp36 hVp ea
            have cq := t2 _ u1
            have hq36 := isC_lt hz cq
            rw [if_neg (nI_ne (by omega) (by omega) (fun q => ea (pl_inj hp36 ha36 q))), bs_has (cwv_ok hz.1.2 hz.2.1.2) hp36, cellS_iff.mpr cp, if_neg b0t, qgd_nI hpp (by decide), nI_clamp (by omega), u3, if_neg (nI_m9 (by omega)), qob_some]
            refine ⟨by omega, _, _, rfl, ?_, pa p, V, pa, dp, x, cf, bk, mw, cq, u1, ⟨t1, t2, t3, t4, t5⟩, hx, hw, by omega, by rw [nI_1, u2], rfl⟩
            rw [Sum.elim_inl, if_pos rfl, qgd_nI hp36 (by decide), ← nI_1, ← u3]
            rfl
        · rw [c2 s1 h4'] at m2; cases m2
      · rcases Mnew hz hm hw cp with ⟨m1, m2⟩ | ⟨s1, h4', m1, m2, m3⟩
        · rw [m2 s0 h4] at c2; cases c2
        · have es := new_two c2 c3 m2 m3
          subst es
          left
          have c2' := c2
          unfold fnP at c2'
          rw [Bool.and_eq_true, Bool.not_eq_true'] at c2'
          obtain ⟨ho, hV⟩ := c2'
          have hmv := op_isC hz cp h4 ho
          have hpm := pl_lt hmv.2
          have hma : mvN p s0 ≠ a := fun q => by rw [q, t1] at hV; cases hV
          have hne : ∀ i, V i = true → i ≠ mvN p s0 := fun i hi q => by rw [q, hV] at hi; cases hi
          have hcu := cn_up hV 36 hmv.2
          rw [c1, m1, qob_some, qun1_eq, qob_some, qun1_eq, if_neg (nI_m1 (by omega)), if_neg (nI_m9 (by omega)), qgd_nI hpm (by decide), nI_clamp (by omega), qob_some]
          have hcl := cn_le (upB V (mvN p s0) true) 36
          refine ⟨by omega, (nI (n + 1), nI (pl (mvN p s0)), x ||| fX1_bit (nI (pl (mvN p s0))), upd cf (pl (mvN p s0)) (nI (pl p))), (nI (n + 1), nI (mvN p s0), nI (cn (upB V (mvN p s0) true) 36), upd bk (mvN p s0) (nI p), upd mw (mvN p s0) (qnb 1)), ?_, ?_, mvN p s0, upB V (mvN p s0) true, upN pa (mvN p s0) p, upN dp (mvN p s0) (dp p + 1), _, _, _, _, hmv.1, if_pos rfl, ⟨?_, ?_, ?_, ?_, ?_⟩, bs_up hx hmv.2 true, upd_b2i hw (mvN p s0) true, ?_, rfl, rfl⟩
          · simp only [qbd]
            rw [nI_1]
          · rw [Sum.elim_inl, if_neg (nI_m9 (by omega)), qgd_nI hmv.2 (by decide), qgd_nI hmv.2 (by decide), nI_clamp (by omega), hcu, nI_1, nI_1]
          · unfold upB; rw [if_neg hma.symm]; exact t1
          · intro i hi
            unfold upB at hi
            by_cases e : i = mvN p s0
            · rw [e]; exact hmv.1
            · rw [if_neg e] at hi; exact t2 i hi
          · unfold upd; rw [if_neg hma.symm]; exact t3
          · rw [upN_ne hma.symm]; exact t4
          · intro i hi hVi hia
            by_cases e : i = mvN p s0
            · subst e
              rw [upN_same, upN_same]
              refine ⟨?_, ?_, ?_, ?_⟩
              · unfold upB; rw [if_neg (hne p hVp)]; exact hVp
              · unfold upd; rw [if_pos rfl]
              · unfold upd; rw [if_pos rfl]
              · rw [upN_ne (hne p hVp)]
            · unfold upB at hVi
              rw [if_neg e] at hVi
              obtain ⟨u1, u2, u3, u4⟩ := t5 i hi hVi hia
              rw [upN_ne e, upN_ne e]
              refine ⟨?_, ?_, ?_, ?_⟩
              · unfold upB; rw [if_neg (hne _ u1)]; exact u1
              · unfold upd; rw [if_neg (fun q => e (pl_inj hi hmv.2 q))]; exact u2
              · unfold upd; rw [if_neg e]; exact u3
              · rw [upN_ne (hne _ u1)]; exact u4
          · rw [upN_same, hcu]; omega) qFU qFU (qFU_gt (by decide)) (qFU_gt (by decide)) ((0 : Int32), nI (pl a), fX1_bit (nI (pl a)), cf) ((0 : Int32), nI a, (1 : Int32), upd bk a (-9), upd mw1 a (qnb 1))
    ⟨a, fun i => decide (i = a), fun _ => 0, fun _ => 0, fX1_bit (nI (pl a)), cf, upd bk a (-9), upd mw1 a (qnb 1), ha, decide_eq_true rfl, ⟨decide_eq_true rfl, i1, if_pos rfl, rfl, fun i _ hi hne => absurd (of_decide_eq_true hi) hne⟩, bs_bit ha36, i2, by rw [i3]; rfl, rfl, by rw [i3]; rfl⟩
  refine ⟨rr, p', v', cf', at', bk', mw', ?_, ?_⟩
  · rw [le_X8_followThread, g1, qob_some]
    exact g3
  · rw [le_X10_goThread, w1, qob_some, qun1_eq, qgd_nI ha36 (by decide), qgd_nI ha36 (by decide), nI_clamp (by omega), g2, qob_some]
    exact g4
set_option maxRecDepth 20000 in
theorem st_thread {sc_length : Int32} {sc_bytes : Nat → Int32} {g_rows : Int32} {g_columns : Int32} {g_a : Int32} {g_b : Int32} {g_cells : Int64} {g_right : Int64} {g_down : Int64} {m_textSize : Int32} {m_text : Nat → Int32} {m_rows : Int32} {m_columns : Int32} {m_a : Int32} {m_b : Int32} {m_right : Nat → Int32} {m_down : Nat → Int32} {m_shut : Nat → Int32} {m_keptFigures : Nat → Int32} {m_keptNumbers : Nat → Int32} {m_isKept : Nat → Int32} {wk_place : Int32} {wk_visited : Int64} {wk_cameFrom : Nat → Int32} {m_thrown : Int32} {m_at : Int32} {m_came : Int32} {m_back : Nat → Int32} {m_was : Nat → Int32} {sl_f : Nat → Option Nat} {k0 k1 : Option (Nat × KG)}  (h : Rel sc_length sc_bytes (g_rows, g_columns, g_a, g_b, g_cells, g_right, g_down) sl_f k0 k1 m_textSize m_text m_rows m_columns m_a m_b m_right m_down m_shut m_keptFigures m_keptNumbers m_isKept) : ∃ (r : Int32) (wk_place' : Int32) (wk_visited' : Int64) (wk_cameFrom' : Nat → Int32) (m_thrown' : Int32) (m_at' : Int32) (m_came' : Int32) (m_back' : Nat → Int32) (m_was' : Nat → Int32), fX9_thread g_a g_b g_cells g_right g_down wk_place wk_visited wk_cameFrom = some (r, wk_place', wk_visited', wk_cameFrom') ∧ fX10_thread m_thrown m_rows m_columns m_a m_b m_at m_came m_right m_down m_back m_was = some (r, m_thrown', m_at', m_came', m_back', m_was') ∧ Rel sc_length sc_bytes (g_rows, g_columns, g_a, g_b, g_cells, g_right, g_down) sl_f k0 k1 m_textSize m_text m_rows m_columns m_a m_b m_right m_down m_shut m_keptFigures m_keptNumbers m_isKept := by
  obtain ⟨R, C, rt, dn, a, b, n, tx, z0, z1, hz, ha, hb, rfl, rfl, rfl, rfl, rfl, hr, hd, rfl, rfl, rfl, rfl, hm, ht, hsh, h0, h1, e0, e1⟩ := id h.un
  obtain ⟨rr, p', v', cf', at', bk', mw', g1, g2⟩ := thread_both hz hr hd hm ha hb wk_place wk_visited wk_cameFrom m_at m_came m_back m_was
  unfold fX9_thread fX10_thread
  rw [g1, g2, qob_some, qob_some]
  exact ⟨_, _, _, _, _, _, _, _, _, rfl, rfl, h⟩
set_option maxRecDepth 20000 in
theorem st_seen {sc_length : Int32} {sc_bytes : Nat → Int32} {g_rows : Int32} {g_columns : Int32} {g_a : Int32} {g_b : Int32} {g_cells : Int64} {g_right : Int64} {g_down : Int64} {m_textSize : Int32} {m_text : Nat → Int32} {m_rows : Int32} {m_columns : Int32} {m_a : Int32} {m_b : Int32} {m_right : Nat → Int32} {m_down : Nat → Int32} {m_shut : Nat → Int32} {m_keptFigures : Nat → Int32} {m_keptNumbers : Nat → Int32} {m_isKept : Nat → Int32} {wk_place : Int32} {wk_visited : Int64} {wk_cameFrom : Nat → Int32} {m_thrown : Int32} {m_at : Int32} {m_came : Int32} {m_back : Nat → Int32} {m_was : Nat → Int32} {sl_f : Nat → Option Nat} {k0 k1 : Option (Nat × KG)}  (h : Rel sc_length sc_bytes (g_rows, g_columns, g_a, g_b, g_cells, g_right, g_down) sl_f k0 k1 m_textSize m_text m_rows m_columns m_a m_b m_right m_down m_shut m_keptFigures m_keptNumbers m_isKept) : ∃ (r : Int32) (wk_place' : Int32) (wk_visited' : Int64) (wk_cameFrom' : Nat → Int32) (m_thrown' : Int32) (m_at' : Int32) (m_came' : Int32) (m_back' : Nat → Int32) (m_was' : Nat → Int32), fX9_seen g_a g_b g_cells g_right g_down wk_place wk_visited wk_cameFrom = some (r, wk_place', wk_visited', wk_cameFrom') ∧ fX10_seen m_thrown m_rows m_columns m_a m_b m_at m_came m_right m_down m_back m_was = some (r, m_thrown', m_at', m_came', m_back', m_was') ∧ Rel sc_length sc_bytes (g_rows, g_columns, g_a, g_b, g_cells, g_right, g_down) sl_f k0 k1 m_textSize m_text m_rows m_columns m_a m_b m_right m_down m_shut m_keptFigures m_keptNumbers m_isKept := by
  obtain ⟨R, C, rt, dn, a, b, n, tx, z0, z1, hz, ha, hb, rfl, rfl, rfl, rfl, rfl, hr, hd, rfl, rfl, rfl, rfl, hm, ht, hsh, h0, h1, e0, e1⟩ := id h.un
  obtain ⟨rr, p', v', cf', at', bk', mw', g1, g2⟩ := thread_both hz hr hd hm ha hb wk_place wk_visited wk_cameFrom m_at m_came m_back m_was
  unfold fX9_seen fX10_seen
  rw [g1, g2, qob_some, qob_some]
  exact ⟨_, _, _, _, _, _, _, _, _, rfl, rfl, h⟩

/-! mazes made by seeds: way 1 -/
theorem qlp_two2 {S S' E E' : Type} {f : S → Option (S ⊕ E)} {g : S' → Option (S' ⊕ E')} (I : Nat → S → S' → Prop) (N : Nat) (post : E → E' → Prop)
    (hs : ∀ i s s', i ≤ N → I i s s' → (i < N ∧ ∃ t t', f s = some (.inl t) ∧ g s' = some (.inl t') ∧ I (i + 1) t t') ∨ (∃ e t' e', f s = some (.inr e) ∧ g s' = some (.inl t') ∧ g t' = some (.inr e') ∧ post e e')) (n n' : Nat) (hn : N < n) (hn' : N + 1 < n') (s : S) (s' : S') (h0 : I 0 s s') : ∃ e e', qlp n f s = some e ∧ qlp n' g s' = some e' ∧ post e e' := by
  have fin : ∀ {s s' e t' e'} {n n' : Nat}, f s = some (.inr e) → g s' = some (.inl t') → g t' = some (.inr e') → 0 < n → 1 < n' → qlp n f s = some e ∧ qlp n' g s' = some e' := by
    intro s s' e t' e' n n' h1 h2 h3 hn hn'
    obtain ⟨n, rfl⟩ : ∃ m, n = m + 1 := ⟨n - 1, by omega⟩
    obtain ⟨n', rfl⟩ : ∃ m, n' = m + 1 + 1 := ⟨n' - 2, by omega⟩
    rw [qlp_succ, qlp_succ, h1, h2]
    refine ⟨rfl, ?_⟩
    show qlp (n' + 1) g t' = some e'
    rw [qlp_succ, h3]
    rfl
  have key : ∀ k i s s', i + k = N → I i s s' → ∀ n n', k < n → k + 1 < n' → ∃ e e', qlp n f s = some e ∧ qlp n' g s' = some e' ∧ post e e' := by
    intro k
    induction k with
    | zero =>
      intro i s s' hi hI n n' hn hn'
      rcases hs i s s' (by omega) hI with ⟨h, -⟩ | ⟨e, t', e', h1, h2, h3, h4⟩
      · omega
      · have := fin (n := n) (n' := n') h1 h2 h3 (by omega) (by omega)
        exact ⟨e, e', this.1, this.2, h4⟩
    | succ k ih =>
      intro i s s' hi hI n n' hn hn'
      rcases hs i s s' (by omega) hI with ⟨h, t, t', h1, h2, h3⟩ | ⟨e, t', e', h1, h2, h3, h4⟩
      · obtain ⟨n, rfl⟩ : ∃ m, n = m + 1 := ⟨n - 1, by omega⟩
        obtain ⟨n', rfl⟩ : ∃ m, n' = m + 1 := ⟨n' - 1, by omega⟩
        rw [qlp_succ, qlp_succ, h1, h2]
        exact ih (i + 1) t t' (by omega) h3 n n' (by omega) (by omega)
      · have := fin (n := n) (n' := n') h1 h2 h3 (by omega) (by omega)
        exact ⟨e, e', this.1, this.2, h4⟩
  exact key N 0 s s' (by omega) h0 n n' hn hn'
def nwP (R C : Nat) (V : Nat → Bool) (p s : Nat) : Bool := rimB R C p s && !V (mvN p s)
theorem Cnw {R C : Nat} {rt dn V : Nat → Bool} {x : Int64} (hz : Mz R C rt dn) (hx : bs x V) {p s : Nat} (cp : isC R C p) (hs : s < 4) : fX3_isNew (cwv R C) (nI (pl p)) (nI s) x = b2i (nwP R C V p s) := by
  have hp := isC_lt hz cp
  unfold fX3_isNew nwP
  rw [Cbeside R (by have := hz.1; omega) C (by have := hz.2.1; omega) p hp s hs cp]
  cases hrim : rimB R C p s with
  | false =>
    rw [if_neg Bool.false_ne_true, has_out _ (Or.inl (by decide))]
    rfl
  | true =>
    have hmv := rim_lt hz.1.2 hz.2.1.2 hs cp hrim
    rw [if_pos rfl, bs_has (bs_andn (cwv_ok hz.1.2 hz.2.1.2) hx) hmv.1, cellS_iff.mpr hmv.2, Bool.true_and, qnb_b2i]
/-- whether the reference finds a side new -/
theorem Mnw {R C : Nat} {rt dn V : Nat → Bool} {mw : Nat → Int32} (hz : Mz R C rt dn) (hw : ∀ i, i < 36 → mw i = b2i (V i)) {p s : Nat} (cp : isC R C p) (hs : s < 4) :
    (if (fX10_beside (nI R) (nI C) (nI p) (nI s)) = (-9) then some (0 : Int32) else qgd (fX10_beside (nI R) (nI C) (nI p) (nI s)) 36 (if (mw ((fX10_beside (nI R) (nI C) (nI p) (nI s))).toNatClampNeg) = 0 then some 1 else some 0)) = some (b2i (nwP R C V p s)) := by
  have hp := isC_lt hz cp
  unfold nwP
  rw [Mbeside R (by have := hz.1; omega) C (by have := hz.2.1; omega) p hp s hs cp]
  cases hrim : rimB R C p s with
  | false => rw [if_neg Bool.false_ne_true, if_pos rfl]; rfl
  | true =>
    have hmv := rim_lt hz.1.2 hz.2.1.2 hs cp hrim
    rw [if_pos rfl, if_neg (nI_m9 (by omega)), qgd_nI hmv.1 (by decide), nI_clamp (by omega), hw _ hmv.1]
    cases V (mvN p s)
    · rw [if_pos b0f]; rfl
    · rw [if_neg b0t]; rfl
set_option maxRecDepth 20000 in
theorem Cnws {R C : Nat} {rt dn V : Nat → Bool} {x : Int64} (hz : Mz R C rt dn) (hx : bs x V) {p : Nat} (cp : isC R C p) : fX3_newSides (cwv R C) (nI (pl p)) x = some (nI (cn (nwP R C V p) 4)) := by
  have h : qlp qFU (lb_X3_newSides_1 (cwv R C) (nI (pl p)) x) ((0 : Int32), (0 : Int32)) = some (nI (cn (nwP R C V p) 4)) := by
    refine qlp_seq (f := lb_X3_newSides_1 (cwv R C) (nI (pl p)) x) (fun s => (nI (cn (nwP R C V p) s), nI s)) 4 _ (fun s hs => ?_) ?_ qFU (qFU_gt (by decide))
    · have en : cn (nwP R C V p) (s + 1) = cn (nwP R C V p) s + (nwP R C V p s).toNat := rfl
      rw [ls_X3_newSides_1, if_neg (n4 hs), Cnw hz hx cp hs, en]
      cases nwP R C V p s
      · rw [if_pos b0f, nI_1]; rfl
      · rw [if_neg b0t, nI_1, nI_1]; rfl
    · rw [ls_X3_newSides_1, if_pos (y4 (Nat.le_refl 4) (by decide))]
  rw [le_X3_newSides, h, qob_some]
set_option maxRecDepth 20000 in
theorem Mnws {R C : Nat} {rt dn V : Nat → Bool} {mw : Nat → Int32} (hz : Mz R C rt dn) (hw : ∀ i, i < 36 → mw i = b2i (V i)) {p : Nat} (cp : isC R C p) : fX10_freshSides (nI R) (nI C) mw (nI p) = some (nI (cn (nwP R C V p) 4)) := by
  have h : qlp qFU (lb_X10_freshSides_1 (nI R) (nI C) mw (nI p)) ((0 : Int32), (0 : Int32)) = some (nI (cn (nwP R C V p) 4)) := by
    refine qlp_seq (f := lb_X10_freshSides_1 (nI R) (nI C) mw (nI p)) (fun s => (nI (cn (nwP R C V p) s), nI s)) 4 _ (fun s hs => ?_) ?_ qFU (qFU_gt (by decide))
    · have en : cn (nwP R C V p) (s + 1) = cn (nwP R C V p) s + (nwP R C V p s).toNat := rfl
      rw [ls_X10_freshSides_1, if_neg (n4 hs), Mnw hz hw cp hs, qob_some, qun1_eq, b2i_nI, nI_add, nI_1, en]
    · rw [ls_X10_freshSides_1, if_pos (y4 (Nat.le_refl 4) (by decide))]
  rw [le_X10_freshSides, h, qob_some]
theorem cn_pick {P : Nat → Bool} {k : Nat} : ∀ n, k < cn P n → ∃ s, s < n ∧ P s = true ∧ cn P s = k
  | 0, h => absurd h (Nat.not_lt_zero k)
  | n + 1, h => by
    by_cases q : k < cn P n
    · obtain ⟨s, h1, h2, h3⟩ := cn_pick n q
      exact ⟨s, by omega, h2, h3⟩
    · have h : k < cn P n + (P n).toNat := h
      cases hp : P n with
      | false =>
        rw [hp] at h
        have h : k < cn P n + 0 := h
        omega
      | true =>
        rw [hp] at h
        have h : k < cn P n + 1 := h
        exact ⟨n, by omega, hp, by omega⟩
theorem cn_step {P : Nat → Bool} {s t : Nat} (h : P s = true) (hst : s < t) : cn P s < cn P t := by
  have h1 : cn P (s + 1) = cn P s + 1 := by show cn P s + (P s).toNat = _; rw [h]; rfl
  have : ∀ t, s + 1 ≤ t → cn P (s + 1) ≤ cn P t := by
    intro t
    induction t with
    | zero => intro q; omega
    | succ t ih =>
      intro q
      by_cases e : s + 1 = t + 1
      · rw [e]; exact Nat.le_refl _
      · have := ih (by omega)
        show cn P (s + 1) ≤ cn P t + (P t).toNat
        omega
  have := this t hst
  omega
theorem cn_mn {P : Nat → Bool} {s : Nat} : ∀ t, s ≤ t → cn P s ≤ cn P t
  | 0, h => by rw [show s = 0 by omega]; exact Nat.le_refl _
  | t + 1, h => by
    by_cases e : s = t + 1
    · rw [e]; exact Nat.le_refl _
    · have := cn_mn (P := P) (s := s) t (by omega)
      show cn P s ≤ cn P t + (P t).toNat
      omega
set_option maxRecDepth 20000 in
theorem Cpick {R C : Nat} {rt dn V : Nat → Bool} {x : Int64} (hz : Mz R C rt dn) (hx : bs x V) {p s0 k : Nat} (cp : isC R C p) (h4 : s0 < 4) (hP : nwP R C V p s0 = true) (hk : cn (nwP R C V p) s0 = k) : fX3_newSide (cwv R C) (nI (pl p)) x (nI k) = some (nI s0) := by
  have hk4 : k ≤ 4 := by have := cn_le (nwP R C V p) s0; omega
  obtain ⟨e, g1, rfl⟩ := qlp_idx (f := lb_X3_newSide_1 (cwv R C) (nI (pl p)) x (nI k)) (fun s st => s ≤ s0 ∧ st = (nI (cn (nwP R C V p) s), nI s)) 4 (fun e => e = Sum.inr (nI s0)) (by
    rintro s st hs ⟨hle, rfl⟩
    have hs4 : s < 4 := by omega
    have en : cn (nwP R C V p) (s + 1) = cn (nwP R C V p) s + (nwP R C V p s).toNat := rfl
    have hcs := cn_le (nwP R C V p) s
    rw [ls_X3_newSide_1, if_neg (n4 hs4), Cnw hz hx cp hs4]
    by_cases e : s = s0
    · right
      subst e
      exact ⟨_, by rw [hP, if_neg b0t, if_pos (by rw [hk])], rfl⟩
    · left
      refine ⟨hs4, (nI (cn (nwP R C V p) (s + 1)), nI (s + 1)), ?_, by omega, rfl⟩
      rw [en]
      cases hq : nwP R C V p s with
      | false => rw [if_pos b0f, nI_1]; rfl
      | true =>
        have := cn_step hq (show s < s0 by omega)
        rw [if_neg b0t, if_neg (nI_ne (by omega) (by omega) (by omega)), nI_1, nI_1]; rfl) qFU (qFU_gt (by decide)) ((0 : Int32), (0 : Int32)) ⟨Nat.zero_le _, rfl⟩
  rw [le_X3_newSide, g1, qob_some]
  rfl
set_option maxRecDepth 20000 in
theorem Mpick {R C : Nat} {rt dn V : Nat → Bool} {mw : Nat → Int32} (hz : Mz R C rt dn) (hw : ∀ i, i < 36 → mw i = b2i (V i)) {p s0 k : Nat} (cp : isC R C p) (h4 : s0 < 4) (hP : nwP R C V p s0 = true) (hk : cn (nwP R C V p) s0 = k) : qlp qFU (lb_X10_makePath_3 (nI R) (nI C) (nI p) mw) (nI k, (0 : Int32)) = some (nI s0) := by
  have hRC := hz.1
  have hCC := hz.2.1
  have hp36 := isC_lt hz cp
  have hk4 : k ≤ 4 := by have := cn_le (nwP R C V p) s0; omega
  obtain ⟨e, g1, rfl⟩ := qlp_idx (f := lb_X10_makePath_3 (nI R) (nI C) (nI p) mw) (fun s st => s ≤ s0 ∧ st = (nI (k - cn (nwP R C V p) s), nI s)) 4 (fun e => e = nI s0) (by
    rintro s st hs ⟨hle, rfl⟩
    have hs4 : s < 4 := by omega
    have en : cn (nwP R C V p) (s + 1) = cn (nwP R C V p) s + (nwP R C V p s).toNat := rfl
    have hcs := cn_mn (P := nwP R C V p) s0 hle
    rw [ls_X10_makePath_3, Mnw hz hw cp hs4]
    have first : (if (fX10_beside (nI R) (nI C) (nI p) (nI s)) = (-9) then some (Sum.inl ()) else qgd (fX10_beside (nI R) (nI C) (nI p) (nI s)) 36 (if (mw ((fX10_beside (nI R) (nI C) (nI p) (nI s))).toNatClampNeg) = 0 then if nI (k - cn (nwP R C V p) s) ≤ 0 then some (Sum.inr (Sum.inr (nI s))) else some (Sum.inl ()) else some (Sum.inl ()))) = (if nwP R C V p s && decide (k - cn (nwP R C V p) s = 0) then some (Sum.inr (Sum.inr (nI s))) else some (Sum.inl ()) : Option (Unit ⊕ ((Int32 × Int32) ⊕ Int32))) := by
      unfold nwP
      rw [Mbeside R (by omega) C (by omega) p hp36 s hs4 cp]
      cases hrim : rimB R C p s with
      | false => rw [if_neg Bool.false_ne_true, if_pos rfl]; rfl
      | true =>
        have hmv := rim_lt hRC.2 hCC.2 hs4 cp hrim
        rw [if_pos rfl, if_neg (nI_m9 (by omega)), qgd_nI hmv.1 (by decide), nI_clamp (by omega), hw _ hmv.1]
        cases V (mvN p s)
        · rw [if_pos b0f]
          by_cases w : k - cn (fun s => rimB R C p s && !V (mvN p s)) s = 0
          · rw [if_pos (show nI _ ≤ (0 : Int32) from nI_le (b := 0) (by omega) (by decide)), decide_eq_true w]
            rfl
          · rw [if_neg (show ¬ nI _ ≤ (0 : Int32) from nI_ge (a := 0) (by omega) (by omega)), decide_eq_false w]
            rfl
        · rw [if_neg b0t]; rfl
    rw [first]
    by_cases e : s = s0
    · right
      subst e
      refine ⟨nI s, ?_, rfl⟩
      rw [hP, hk, Nat.sub_self]
      rfl
    · left
      refine ⟨hs4, (nI (k - cn (nwP R C V p) (s + 1)), nI (s + 1)), ?_, by omega, rfl⟩
      rw [en]
      cases hq : nwP R C V p s with
      | false =>
        rw [Bool.false_and, if_neg Bool.false_ne_true, qob_some, Sum.elim_inl, qob_some, qun1_eq, nI_1]
        show some (Sum.inl (nI (k - cn (nwP R C V p) s) - nI 0, nI (s + 1))) = _
        rw [nI_sub (Nat.zero_le _)]
        rfl
      | true =>
        have := cn_step hq (show s < s0 by omega)
        rw [Bool.true_and, decide_eq_false (show ¬ k - cn (nwP R C V p) s = 0 by omega), if_neg Bool.false_ne_true, qob_some, Sum.elim_inl, qob_some, qun1_eq, nI_1]
        show some (Sum.inl (nI (k - cn (nwP R C V p) s) - nI 1, nI (s + 1))) = some (Sum.inl (nI (k - (cn (nwP R C V p) s + 1)), nI (s + 1)))
        rw [nI_sub (by omega), Nat.sub_sub]) qFU (qFU_gt (by decide)) (nI k, (0 : Int32)) ⟨Nat.zero_le _, rfl⟩
  exact g1
set_option maxRecDepth 20000 in
theorem Mwas2 (mw : Nat → Int32) : ∃ mw', qlp qFU (lb_X10_makePath_1) ((0 : Int32), mw) = some mw' ∧ ∀ i, i < 36 → mw' i = 0 := Mwas mw
set_option maxRecDepth 20000 in
set_option maxHeartbeats 1000000 in
theorem wander_both {R C : Nat} {rt dn : Nat → Bool} {r d : Int64} {mr md : Nat → Int32} (hz : Mz R C rt dn) (hr : bs r rt) (hd : bs d dn) (hm : ∀ i, i < 36 → mr i = b2i (rt i) ∧ md i = b2i (dn i)) (mx x : Int64) (cf : Nat → Int32) (bk mw : Nat → Int32) :
    ∃ (rt' dn' : Nat → Bool) (x' : Int64) (cf' : Nat → Int32) (r' d' : Int64) (mr' md' bk' mw' : Nat → Int32), fX3_wander mx cf (cwv R C) r d x = some (x', cf', r', d') ∧ fX10_makePath (nI R) (nI C) x mr md bk mw = some (x', mr', md', bk', mw') ∧ Mz R C rt' dn' ∧ bs r' rt' ∧ bs d' dn' ∧ ∀ i, i < 36 → mr' i = b2i (rt' i) ∧ md' i = b2i (dn' i) := by
  have hRC := hz.1
  have hCC := hz.2.1
  have ha : isC R C 0 := ⟨by omega, by omega⟩
  obtain ⟨mw1, w1, w2⟩ := Mwas2 mw
  have i1 : ∀ i, (fun i => decide (i = 0)) i = true → isC R C i := fun i hi => by
    rw [of_decide_eq_true hi]
    exact ha
  have i2 : ∀ i, i < 36 → upd mw1 0 (qnb 1) i = b2i ((fun i => decide (i = 0)) i) := fun i hi => by
    unfold upd
    by_cases e : i = 0
    · rw [if_pos e]; simp [e]; rfl
    · rw [if_neg e, w2 i hi]; simp [e]; rfl
  have i3 : cn (fun i => decide (i = 0)) 36 = 1 := by
    have h1 : cn (upB (fun _ => false) 0 true) 36 = cn (fun _ => false) 36 + 1 := cn_up rfl 36 (by decide)
    rw [cn_0 36 (fun _ _ => rfl)] at h1
    rw [Nat.zero_add] at h1
    refine Eq.trans (cn_congr 36 (fun i _ => ?_)) h1
    unfold upB
    by_cases e : i = 0
    · simp [e]
    · simp [e]
  obtain ⟨e, e', g1, g2, rt', dn', x', cf', r', d', mr', md', bk', mw', g3, rfl, g4⟩ := qlp_two2 (f := lb_X3_wander_1 (cwv R C)) (g := lb_X10_makePath_2 (nI R) (nI C))
    (fun n s s' => ∃ p V pa dp xv x cf r d mr md bk mw rt dn, isC R C p ∧ V p = true ∧ thI R C 0 V pa dp cf bk ∧ bs xv V ∧ (∀ i, i < 36 → mw i = b2i (V i)) ∧ n + dp p + 2 = 2 * cn V 36 ∧ (Mz R C rt dn ∧ bs r rt ∧ bs d dn ∧ ∀ i, i < 36 → mr i = b2i (rt i) ∧ md i = b2i (dn i)) ∧ s = (nI (pl p), xv, nI n, x, cf, r, d) ∧ s' = (nI p, x, mr, md, bk, mw)) 71
    (fun e e' => ∃ (rt' dn' : Nat → Bool) (x' : Int64) (cf' : Nat → Int32) (r' d' : Int64) (mr' md' bk' mw' : Nat → Int32), Sum.elim (qun4 fun (mk_x_1 : Int64) (mk_cameFrom_1 : Nat → Int32) (g_right_1 : Int64) (g_down_1 : Int64) => some (mk_x_1, mk_cameFrom_1, g_right_1, g_down_1)) some e = some (x', cf', r', d') ∧ e' = (x', mr', md', bk', mw') ∧ Mz R C rt' dn' ∧ bs r' rt' ∧ bs d' dn' ∧ ∀ i, i < 36 → mr' i = b2i (rt' i) ∧ md' i = b2i (dn' i)) (by
    rintro n s s' hn ⟨p, V, pa, dp, xv, x, cf, r, d, mr, md, bk, mw, rt, dn, cp, hVp, ⟨t1, t2, t3, t4, t5⟩, hx, hw, hc, ⟨hz, hr, hd, hm⟩, rfl, rfl⟩
    have hp36 := isC_lt hz cp
    have hpp := pl_lt hp36
    have hcn := cn_le V 36
    rw [ls_X3_wander_1, ls_X10_makePath_2, if_neg (show ¬ (72 : Int32) ≤ nI n from nI_ge (b := 72) (by omega) (by decide)), if_neg (nI_m9 (by omega)), Cnws hz hx cp, Mnws hz hw cp, qob_some, qun1_eq, qob_some, qun1_eq]
    have hc4 := cn_le (nwP R C V p) 4
    by_cases q0 : cn (nwP R C V p) 4 = 0
    · rw [if_pos (show nI (cn (nwP R C V p) 4) ≤ (0 : Int32) from nI_le (b := 0) (by omega) (by decide)), if_pos (show nI (cn (nwP R C V p) 4) = (0 : Int32) by rw [q0]; rfl), qgd_nI hp36 (by decide), nI_clamp (n := p) (by omega)]
      by_cases ea : p = 0
      · right
        subst ea
        rw [if_pos (show nI (pl 0) = (0 : Int32) from rfl), t3]
        exact ⟨_, _, _, rfl, rfl, by rw [ls_X10_makePath_2, if_pos rfl], rt, dn, x, cf, r, d, mr, md, bk, mw, rfl, rfl, hz, hr, hd, hm⟩
      · left
        obtain ⟨u1, u2, u3, u4⟩ := t5 p hp36 hVp ea
        have cq := t2 _ u1
        have hpn : pl p ≠ 0 := by unfold pl; omega
        have hhs : ¬ fX1_has (cwv R C) (nI (pl p)) = (0 : Int32) := by
          rw [bs_has (cwv_ok hRC.2 hCC.2) hp36, cellS_iff.mpr cp]
          exact b0t
        rw [if_neg (show ¬ nI (pl p) = (0 : Int32) from nI_ne (b := 0) (by omega) (by decide) hpn), if_neg hhs, qgd_nI hpp (by decide), nI_clamp (by omega), u2, u3]
        exact ⟨by omega, _, _, rfl, rfl, pa p, V, pa, dp, xv, x, cf, r, d, mr, md, bk, mw, rt, dn, cq, u1, ⟨t1, t2, t3, t4, t5⟩, hx, hw, by omega, ⟨hz, hr, hd, hm⟩, by rw [nI_1], rfl⟩
    · left
      obtain ⟨k, y, d1, d2, d3⟩ := draw_ok x (n := cn (nwP R C V p) 4) (by omega) (by omega)
      obtain ⟨s0, h4, hP, hck⟩ := cn_pick (P := nwP R C V p) 4 d1
      have hP' := hP
      unfold nwP at hP'
      rw [Bool.and_eq_true, Bool.not_eq_true'] at hP'
      obtain ⟨hrim, hV⟩ := hP'
      have hmv := rim_lt hRC.2 hCC.2 h4 cp hrim
      have hpm := pl_lt hmv.1
      have hma : mvN p s0 ≠ 0 := fun q => by rw [q, t1] at hV; cases hV
      have hne : ∀ i, V i = true → i ≠ mvN p s0 := fun i hi q => by rw [q, hV] at hi; cases hi
      have hcu := cn_up hV 36 hmv.1
      have hcl := cn_le (upB V (mvN p s0) true) 36
      obtain ⟨r2, dd2, s1, s2, s3⟩ := Cset hz hr hd cp h4 hrim true
      obtain ⟨mr2, md2, s4, s5⟩ := Mset hz hm cp h4 hrim true
      rw [if_neg (show ¬ nI (cn (nwP R C V p) 4) ≤ (0 : Int32) from nI_ge (a := 0) (by omega) (by omega)), if_neg (show ¬ nI (cn (nwP R C V p) 4) = (0 : Int32) from nI_ne (b := 0) (by omega) (by decide) q0), d2, d3, qob_some, qun2_eq, qob_some, qun2_eq, Cpick hz hx cp h4 hP hck, Mpick hz hw cp h4 hP hck, qob_some, qun1_eq, qob_some, qun1_eq, Cbeside R (by omega) C (by omega) p hp36 s0 h4 cp, Mbeside R (by omega) C (by omega) p hp36 s0 h4 cp, hrim, if_pos rfl, if_pos rfl, if_neg (nI_m1 (by omega)), show fX10_set (nI R) (nI C) mr md (nI p) (nI s0) 1 = _ from s4, qob_some, qun2_eq, qgd_nI hmv.1 (by decide)]
      simp only [qbd]
      rw [show fX1_setOpen (cwv R C) r d (nI (pl p)) (nI s0) 1 = _ from s1, qun2_eq, qgd_nI hpm (by decide), qgd_nI hmv.1 (by decide), nI_clamp (show pl (mvN p s0) < 2 ^ 31 by omega), nI_clamp (show mvN p s0 < 2 ^ 31 by omega), nI_1]
      refine ⟨by omega, _, _, rfl, rfl, mvN p s0, upB V (mvN p s0) true, upN pa (mvN p s0) p, upN dp (mvN p s0) (dp p + 1), _, y, _, r2, dd2, mr2, md2, _, _, sr rt p s0 true, sd dn p s0 true, hmv.2, if_pos rfl, ⟨?_, ?_, ?_, ?_, ?_⟩, bs_up hx hmv.1 true, upd_b2i hw (mvN p s0) true, ?_, ⟨set_Mz hz cp h4 hrim true, s2, s3, s5⟩, rfl, rfl⟩
      · unfold upB; rw [if_neg hma.symm]; exact t1
      · intro i hi
        unfold upB at hi
        by_cases e : i = mvN p s0
        · rw [e]; exact hmv.2
        · rw [if_neg e] at hi; exact t2 i hi
      · unfold upd; rw [if_neg hma.symm]; exact t3
      · rw [upN_ne hma.symm]; exact t4
      · intro i hi hVi hia
        by_cases e : i = mvN p s0
        · subst e
          rw [upN_same, upN_same]
          refine ⟨?_, ?_, ?_, ?_⟩
          · unfold upB; rw [if_neg (hne p hVp)]; exact hVp
          · unfold upd; rw [if_pos rfl]
          · unfold upd; rw [if_pos rfl]
          · rw [upN_ne (hne p hVp)]
        · unfold upB at hVi
          rw [if_neg e] at hVi
          obtain ⟨u1, u2, u3, u4⟩ := t5 i hi hVi hia
          rw [upN_ne e, upN_ne e]
          refine ⟨?_, ?_, ?_, ?_⟩
          · unfold upB; rw [if_neg (hne _ u1)]; exact u1
          · unfold upd; rw [if_neg (fun q => e (pl_inj hi hmv.1 q))]; exact u2
          · unfold upd; rw [if_neg e]; exact u3
          · rw [upN_ne (hne _ u1)]; exact u4
      · rw [upN_same, hcu]; omega) qFU qFU (qFU_gt (by decide)) (qFU_gt (by decide)) ((0 : Int32), fX1_bit 0, (0 : Int32), x, cf, r, d) ((0 : Int32), x, mr, md, upd bk 0 (-9), upd mw1 0 (qnb 1))
    ⟨0, fun i => decide (i = 0), fun _ => 0, fun _ => 0, fX1_bit 0, x, cf, r, d, mr, md, upd bk 0 (-9), upd mw1 0 (qnb 1), rt, dn, ha, decide_eq_true rfl, ⟨decide_eq_true rfl, i1, if_pos rfl, rfl, fun i _ hi hne => absurd (of_decide_eq_true hi) hne⟩, bs_bit (i := 0) (by decide), i2, by rw [i3]; rfl, ⟨hz, hr, hd, hm⟩, rfl, rfl⟩
  refine ⟨rt', dn', x', cf', r', d', mr', md', bk', mw', ?_, ?_, g4⟩
  · rw [le_X3_wander, g1, qob_some]
    exact g3
  · rw [le_X10_makePath, w1, qob_some, qun1_eq, qgd_lit0 (by decide) (by decide), qgd_lit0 (by decide) (by decide), sb_cl0, g2, qob_some]
theorem r_two (p : Int32) : (p < 1 ∨ 6 < p) ∧ fX10_in p.toInt64 1 6 = 0 ∨ ∃ R, (1 ≤ R ∧ R ≤ 6) ∧ p = nI R ∧ ¬ p < 1 ∧ ¬ 6 < p ∧ ¬ fX10_in p.toInt64 1 6 = 0 := by
  have tx : p.toInt64.toInt = p.toInt := Int32.toInt_toInt64 p
  have t1 : (1 : Int64).toInt = 1 := rfl
  have t6 : (6 : Int64).toInt = 6 := rfl
  have s1 : (1 : Int32).toInt = 1 := rfl
  have s6 : (6 : Int32).toInt = 6 := rfl
  rw [in_spec]
  by_cases h1 : p < 1
  · left
    refine ⟨Or.inl h1, ?_⟩
    rw [Int32.lt_iff_toInt_lt, s1] at h1
    rw [decide_eq_false (show ¬ (1 : Int64) ≤ p.toInt64 by rw [Int64.le_iff_toInt_le, t1, tx]; omega)]
    rfl
  · by_cases h6 : 6 < p
    · left
      refine ⟨Or.inr h6, ?_⟩
      rw [Int32.lt_iff_toInt_lt, s6] at h6
      rw [decide_eq_false (show ¬ p.toInt64 ≤ (6 : Int64) by rw [Int64.le_iff_toInt_le, t6, tx]; omega), Bool.and_false]
      rfl
    · right
      have h0 : ¬ p < 0 := by
        rw [Int32.lt_iff_toInt_lt] at h1 ⊢
        have : (0 : Int32).toInt = 0 := rfl
        omega
      obtain ⟨q, hq, rfl⟩ := nI_of h0
      rw [Int32.lt_iff_toInt_lt, s1, nI_toInt hq] at h1
      rw [Int32.lt_iff_toInt_lt, s6, nI_toInt hq] at h6
      refine ⟨q, by omega, rfl, by rw [Int32.lt_iff_toInt_lt, s1, nI_toInt hq]; omega, by rw [Int32.lt_iff_toInt_lt, s6, nI_toInt hq]; omega, ?_⟩
      rw [decide_eq_true (show (1 : Int64) ≤ (nI q).toInt64 by rw [Int64.le_iff_toInt_le, t1, tx, nI_toInt hq]; omega), decide_eq_true (show (nI q).toInt64 ≤ (6 : Int64) by rw [Int64.le_iff_toInt_le, t6, tx, nI_toInt hq]; omega)]
      decide
theorem w_two (p : Int32) : (p < 0 ∨ ¬ p ≤ 1) ∧ fX10_in p.toInt64 0 1 = 0 ∨ (p = 0 ∨ p = 1) ∧ ¬ p < 0 ∧ p ≤ 1 ∧ ¬ fX10_in p.toInt64 0 1 = 0 := by
  by_cases h : p < 0
  · exact Or.inl ⟨Or.inl h, in_neg h _⟩
  · obtain ⟨q, hq, rfl⟩ := nI_of h
    have hin : fX10_in (nI q).toInt64 0 1 = b2i (decide (q ≤ 1)) := in_nI (m := 1) hq (by decide)
    by_cases h1 : q ≤ 1
    · refine Or.inr ⟨?_, h, nI_le (b := 1) h1 (by decide), by rw [hin, decide_eq_true h1]; decide⟩
      rcases (show q = 0 ∨ q = 1 by omega) with rfl | rfl
      · exact Or.inl rfl
      · exact Or.inr rfl
    · exact Or.inl ⟨Or.inr (nI_ge (a := 1) (by omega) hq), by rw [hin, decide_eq_false h1]; rfl⟩
set_option maxRecDepth 20000 in
set_option maxHeartbeats 1000000 in
theorem st_make {sc_length : Int32} {sc_bytes : Nat → Int32} {g_rows : Int32} {g_columns : Int32} {g_a : Int32} {g_b : Int32} {g_cells : Int64} {g_right : Int64} {g_down : Int64} {m_textSize : Int32} {m_text : Nat → Int32} {m_rows : Int32} {m_columns : Int32} {m_a : Int32} {m_b : Int32} {m_right : Nat → Int32} {m_down : Nat → Int32} {m_shut : Nat → Int32} {m_keptFigures : Nat → Int32} {m_keptNumbers : Nat → Int32} {m_isKept : Nat → Int32} {mk_x : Int64} {mk_hedges : Nat → Int32} {mk_cameFrom : Nat → Int32} {m_thrown : Int32} {m_draw : Int64} {m_dist : Nat → Int32} {m_queue : Nat → Int32} {m_parts : Nat → Int32} {m_back : Nat → Int32} {m_was : Nat → Int32} {m_list : Nat → Int32} {sl_f : Nat → Option Nat} {k0 k1 : Option (Nat × KG)} {p1 : Int32} {p2 : Int32} {p3 : Int64} {p4 : Int32} (h : Rel sc_length sc_bytes (g_rows, g_columns, g_a, g_b, g_cells, g_right, g_down) sl_f k0 k1 m_textSize m_text m_rows m_columns m_a m_b m_right m_down m_shut m_keptFigures m_keptNumbers m_isKept) : ∃ (r : Int32) (g_rows' : Int32) (g_columns' : Int32) (g_a' : Int32) (g_b' : Int32) (g_cells' : Int64) (g_right' : Int64) (g_down' : Int64) (mk_x' : Int64) (mk_hedges' : Nat → Int32) (mk_cameFrom' : Nat → Int32) (m_thrown' : Int32) (m_rows' : Int32) (m_columns' : Int32) (m_a' : Int32) (m_b' : Int32) (m_draw' : Int64) (m_right' : Nat → Int32) (m_down' : Nat → Int32) (m_dist' : Nat → Int32) (m_queue' : Nat → Int32) (m_parts' : Nat → Int32) (m_back' : Nat → Int32) (m_was' : Nat → Int32) (m_list' : Nat → Int32), fX9_make g_rows g_columns g_a g_b g_cells g_right g_down mk_x mk_hedges mk_cameFrom p1 p2 p3 p4 = some (r, g_rows', g_columns', g_a', g_b', g_cells', g_right', g_down', mk_x', mk_hedges', mk_cameFrom') ∧ fX10_make m_thrown m_rows m_columns m_a m_b m_draw m_right m_down m_dist m_queue m_shut m_parts m_back m_was m_list p1 p2 p3 p4 = some (r, m_thrown', m_rows', m_columns', m_a', m_b', m_draw', m_right', m_down', m_dist', m_queue', m_parts', m_back', m_was', m_list') ∧ Rel sc_length sc_bytes (g_rows', g_columns', g_a', g_b', g_cells', g_right', g_down') sl_f k0 k1 m_textSize m_text m_rows' m_columns' m_a' m_b' m_right' m_down' m_shut m_keptFigures m_keptNumbers m_isKept := by
  obtain ⟨R0, C0, rt, dn, a, b, n, tx, z0, z1, hz, ha, hb, rfl, rfl, rfl, rfl, rfl, hr, hd, rfl, rfl, rfl, rfl, hm, ht, hsh, h0, h1, e0, e1⟩ := id h.un
  unfold fX9_make fX10_make
  rcases r_two p1 with ⟨q, q2⟩ | ⟨R, hR, rfl, c1, c2, c3⟩
  · rw [if_pos q2]
    by_cases q0 : p1 < 1
    · rw [if_pos q0]
      exact ⟨_, _, _, _, _, _, _, _, _, _, _, _, _, _, _, _, _, _, _, _, _, _, _, _, _, rfl, rfl, h⟩
    · rw [if_neg q0, if_pos (q.resolve_left q0)]
      exact ⟨_, _, _, _, _, _, _, _, _, _, _, _, _, _, _, _, _, _, _, _, _, _, _, _, _, rfl, rfl, h⟩
  rw [if_neg c1, if_neg c2, if_neg c3]
  rcases r_two p2 with ⟨q, q2⟩ | ⟨C, hC, rfl, c4, c5, c6⟩
  · rw [if_pos q2]
    by_cases q0 : p2 < 1
    · rw [if_pos q0]
      exact ⟨_, _, _, _, _, _, _, _, _, _, _, _, _, _, _, _, _, _, _, _, _, _, _, _, _, rfl, rfl, h⟩
    · rw [if_neg q0, if_pos (q.resolve_left q0)]
      exact ⟨_, _, _, _, _, _, _, _, _, _, _, _, _, _, _, _, _, _, _, _, _, _, _, _, _, rfl, rfl, h⟩
  rw [if_neg c4, if_neg c5, if_neg c6]
  rcases w_two p4 with ⟨q, q2⟩ | ⟨hw, c7, c8, c9⟩
  · rw [if_pos q2]
    by_cases q0 : p4 < 0
    · rw [if_pos q0]
      exact ⟨_, _, _, _, _, _, _, _, _, _, _, _, _, _, _, _, _, _, _, _, _, _, _, _, _, rfl, rfl, h⟩
    · rw [if_neg q0, if_neg (q.resolve_left q0)]
      exact ⟨_, _, _, _, _, _, _, _, _, _, _, _, _, _, _, _, _, _, _, _, _, _, _, _, _, rfl, rfl, h⟩
  have hzE : Mz R C (fun _ => false) (fun _ => false) := ⟨hR, hC, fun i h => absurd h Bool.false_ne_true, fun i h => absurd h Bool.false_ne_true⟩
  obtain ⟨mr1, md1, m1, m2⟩ := Mshut hR hC (nI R0) (nI C0) (nI a) (nI b) m_right m_down
  have ca : isC R C 0 := ⟨by omega, by omega⟩
  have cb : isC R C (6 * (R - 1) + (C - 1)) := ⟨by omega, by omega⟩
  rw [if_neg c7, if_pos c8, if_neg c9, Cshut hR hC, qob_some, qun7_eq, m1, qob_some, qun6_eq]
  rcases hw with rfl | rfl
  · rw [if_pos rfl, if_pos rfl]
    have h60 := cH_60 R (by omega) C (by omega)
    obtain ⟨hg1, ml1, l1, l2, l3⟩ := list_both hzE bs_0 bs_0 mk_hedges m_list
    obtain ⟨x2, hg2, ml2, f1, f2, f3⟩ := shuf_both h60 l3 p3
    obtain ⟨rt', dn', r', d', mr', md', di', qu', pa', j1, j2, j3, j4, j5, j6⟩ := join_both h60 f3 hzE bs_0 bs_0 (fun i hi => m2 i hi) hsh m_dist m_queue m_parts
    rw [le_X3_joinParts, l1, qob_some, qun2_eq, f1, qob_some, qun2_eq, j1, qob_some, qun2_eq, qob_some, qun4_eq, qob_some, le_X10_makeList, l2, qob_some, qun2_eq, f2, qob_some, qun2_eq, j2, qob_some, qun5_eq, qob_some]
    exact ⟨_, _, _, _, _, _, _, _, _, _, _, _, _, _, _, _, _, _, _, _, _, _, _, _, _, rfl, rfl, Rel.mk j3 ca cb j4 j5 j6 ht hsh h0 h1 e0 e1⟩
  · rw [if_neg (by decide), if_neg (by decide)]
    obtain ⟨rt', dn', x', cf', r', d', mr', md', bk', mw', j1, j2, j3, j4, j5, j6⟩ := wander_both hzE bs_0 bs_0 (fun i hi => m2 i hi) mk_x p3 mk_cameFrom m_back m_was
    rw [j1, qob_some, qun4_eq, qob_some, j2, qob_some]
    exact ⟨_, _, _, _, _, _, _, _, _, _, _, _, _, _, _, _, _, _, _, _, _, _, _, _, _, rfl, rfl, Rel.mk j3 ca cb j4 j5 j6 ht hsh h0 h1 e0 e1⟩

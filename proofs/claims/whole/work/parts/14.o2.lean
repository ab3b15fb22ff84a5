/-! the runner and the hunter: the reference's numbers -/
def oS (rt dn : Nat → Bool) (i s t : Nat) : Prop := (s < 4 ∧ opS rt dn i s = true ∧ t = mvN i s) ∨ (s = 4 ∧ t = i)
theorem oS_near {R C : Nat} {rt dn : Nat → Bool} (hz : Mz R C rt dn) {P : Nat → Bool} {i : Nat} : (∃ s t, s < 5 ∧ oS rt dn i s t ∧ P t = true) ↔ nearS rt dn P i = true := by
  rw [near_iff hz]
  constructor
  · rintro ⟨s, t, hs, (⟨h1, h2, rfl⟩ | ⟨h1, rfl⟩), q⟩
    · exact Or.inr ⟨s, h1, h2, q⟩
    · exact Or.inl q
  · rintro (q | ⟨s, hs, ho, q⟩)
    · exact ⟨4, i, by decide, Or.inr ⟨rfl, rfl⟩, q⟩
    · exact ⟨s, _, by omega, Or.inl ⟨hs, ho, rfl⟩, q⟩
theorem oS_all {R C : Nat} {rt dn : Nat → Bool} (hz : Mz R C rt dn) {P : Nat → Bool} {i : Nat} : (∀ s t, s < 5 → oS rt dn i s t → P t = true) ↔ (!nearS rt dn (fun x => !P x) i) = true := by
  rw [Bool.not_eq_true']
  constructor
  · intro h
    cases w : nearS rt dn (fun x => !P x) i with
    | false => rfl
    | true =>
      obtain ⟨s, t, h1, h2, h3⟩ := (oS_near hz).mpr w
      rw [h s t h1 h2] at h3
      cases h3
  · intro h s t hs ho
    cases q : P t with
    | true => rfl
    | false =>
      have := (oS_near (P := fun x => !P x) hz).mp ⟨s, t, hs, ho, by show (!P t) = true; rw [q]; rfl⟩
      rw [h] at this
      cases this
theorem oS_fun {rt dn : Nat → Bool} {i s t t' : Nat} (h : oS rt dn i s t) (h' : oS rt dn i s t') : t = t' := by
  unfold oS at h h'
  rcases h with ⟨a, -, rfl⟩ | ⟨a, rfl⟩
  · rcases h' with ⟨-, -, rfl⟩ | ⟨b, rfl⟩
    · rfl
    · omega
  · rcases h' with ⟨b, -, rfl⟩ | ⟨-, rfl⟩
    · omega
    · rfl
theorem oS_isC {R C : Nat} {rt dn : Nat → Bool} (hz : Mz R C rt dn) {i s t : Nat} (ci : isC R C i) (h : oS rt dn i s t) : isC R C t := by
  rcases h with ⟨h1, h2, rfl⟩ | ⟨-, rfl⟩
  · exact (op_isC hz ci h1 h2).1
  · exact ci
theorem Mgoes {R C : Nat} {rt dn : Nat → Bool} {mr md : Nat → Int32} (hz : Mz R C rt dn) (hm : ∀ i, i < 36 → mr i = b2i (rt i) ∧ md i = b2i (dn i)) {i s : Nat} (ci : isC R C i) (hs : s < 5) :
    (fX10_goes (nI R) (nI C) mr md (nI i) (nI s) = some (-9) ∧ ∀ t, ¬ oS rt dn i s t) ∨ ∃ t, isC R C t ∧ t < 36 ∧ fX10_goes (nI R) (nI C) mr md (nI i) (nI s) = some (nI t) ∧ oS rt dn i s t := by
  have hi := isC_lt hz ci
  unfold fX10_goes
  by_cases h4 : s = 4
  · right
    subst h4
    exact ⟨i, ci, hi, by rw [if_pos (show nI 4 = (4 : Int32) from rfl)], Or.inr ⟨rfl, rfl⟩⟩
  · have hs4 : s < 4 := by omega
    rw [if_neg (show ¬ nI s = (4 : Int32) from nI_ne (b := 4) (by omega) (by decide) h4), Mopen hz hm ci hs4, qob_some, qun1_eq]
    cases ho : opS rt dn i s with
    | false =>
      left
      refine ⟨by rw [if_pos b0f], fun t q => ?_⟩
      rcases q with ⟨-, q, -⟩ | ⟨q, -⟩
      · rw [ho] at q; cases q
      · omega
    | true =>
      right
      have hmv := op_isC hz ci hs4 ho
      refine ⟨mvN i s, hmv.1, hmv.2, ?_, Or.inl ⟨hs4, ho, rfl⟩⟩
      rw [if_neg b0t, Mbeside R (by have := hz.1; omega) C (by have := hz.2.1; omega) i hi s hs4 ci, op_rim hz hs4 ho, if_pos rfl]
theorem y5 {k : Nat} (h : 5 ≤ k) (hk : k < 2 ^ 31) : (5 : Int32) ≤ nI k := nI_le (a := 5) h hk
theorem n5 {k : Nat} (h : k < 5) : ¬ (5 : Int32) ≤ nI k := nI_ge (b := 5) h (by decide)
def tnA (R C : Nat) (tn : Nat → Int32) (A : Nat → Nat → Nat) : Prop := ∀ i j, isC R C i → isC R C j → tn (36 * i + j) = nI (A i j) ∧ A i j ≤ 9999
def Qh (rt dn : Nat → Bool) (b : Nat) (A : Nat → Nat → Nat) (m r h : Nat) : Prop := (r = b ∧ r ≠ h) ∨ (r ≠ h ∧ ∀ s t, s < 5 → oS rt dn h s t → t ≠ r ∧ A r t ≤ m)
def Qc (rt dn : Nat → Bool) (b : Nat) (A : Nat → Nat → Nat) (m r h : Nat) : Prop := r = h ∨ (r ≠ b ∧ ∃ s t, s < 5 ∧ oS rt dn h s t ∧ (t = r ∨ A r t ≤ m))
theorem idx36 (r t : Nat) : ((36 * nI r) + nI t : Int32) = nI (36 * r + t) := by rw [show (36 * nI r : Int32) = nI (36 * r) from nI_mul 36 r, nI_add]
set_option maxRecDepth 20000 in
theorem Mhome {R C : Nat} {rt dn : Nat → Bool} {mr md tn : Nat → Int32} (hz : Mz R C rt dn) (hm : ∀ i, i < 36 → mr i = b2i (rt i) ∧ md i = b2i (dn i)) {A : Nat → Nat → Nat} (hA : tnA R C tn A) {b r h : Nat} (hb : b < 36) (cr : isC R C r) (ch : isC R C h) :
    ∃ v, v ≤ 9999 ∧ 1 ≤ v ∧ fX10_homeBehind (nI R) (nI C) (nI b) mr md tn (nI r) (nI h) = some (nI v) ∧ ∀ m, m + 1 < 9999 → (v ≤ m + 1 ↔ Qh rt dn b A m r h) := by
  have hr := isC_lt hz cr
  have hh := isC_lt hz ch
  rw [le_X10_homeBehind]
  by_cases ebh : r = b ∧ r ≠ h
  · refine ⟨1, by decide, by decide, ?_, fun m _ => ⟨fun _ => Or.inl ebh, fun _ => by omega⟩⟩
    rw [if_pos (by rw [ebh.1]), if_neg (nI_ne (by omega) (by omega) ebh.2), qob_some]
    rfl
  · have e0 : (if nI r = nI b then if nI r = nI h then some (Sum.inl () : Unit ⊕ Int32) else some (Sum.inr 1) else some (Sum.inl ())) = some (Sum.inl ()) := by
      by_cases q : r = b
      · have : r = h := Classical.byContradiction (fun w => ebh ⟨q, w⟩)
        rw [if_pos (by rw [q]), if_pos (by rw [this])]
      · rw [if_neg (nI_ne (by omega) (by omega) q)]
    rw [e0, qob_some, Sum.elim_inl]
    by_cases erh : r = h
    · refine ⟨9999, by decide, by decide, ?_, fun m hm => ⟨fun w => by omega, fun w => ?_⟩⟩
      · have hl : qlp qFU (lb_X10_homeBehind_1 (nI R) (nI C) mr md tn (nI r) (nI h)) ((9999 : Int32), (0 : Int32)) = some 9999 := qlp_seq (f := lb_X10_homeBehind_1 (nI R) (nI C) mr md tn (nI r) (nI h)) (fun _ => ((9999 : Int32), (0 : Int32))) 0 _ (fun i hi => absurd hi (Nat.not_lt_zero i)) (by rw [ls_X10_homeBehind_1, if_neg (by decide), if_pos (by decide)]) qFU (qFU_gt (by decide))
        rw [if_pos (by rw [erh]), qob_some, qun1_eq, hl, qob_some, qun1_eq, if_pos (by decide)]
        rfl
      · rcases w with ⟨-, w⟩ | ⟨w, -⟩
        · exact absurd erh w
        · exact absurd erh w
    · rw [if_neg (nI_ne (by omega) (by omega) erh), qob_some, qun1_eq]
      obtain ⟨e, g1, x, rfl, g2, g3⟩ := qlp_idx (f := lb_X10_homeBehind_1 (nI R) (nI C) mr md tn (nI r) (nI h)) (fun s st => ∃ x, st = (nI x, nI s) ∧ x ≤ 9999 ∧ ∀ m, m < 9999 → (x ≤ m ↔ ∀ s' t, s' < s → oS rt dn h s' t → t ≠ r ∧ A r t ≤ m)) 5 (fun e => ∃ x, e = nI x ∧ x ≤ 9999 ∧ ∀ m, m < 9999 → (x ≤ m ↔ ∀ s' t, s' < 5 → oS rt dn h s' t → t ≠ r ∧ A r t ≤ m)) (by
        rintro s st hs ⟨x, rfl, hx, hI⟩
        rw [ls_X10_homeBehind_1]
        by_cases q5 : s = 5
        · right
          subst q5
          exact ⟨_, by rw [if_pos (y5 (Nat.le_refl 5) (by decide))], x, rfl, hx, hI⟩
        · have hs5 : s < 5 := by omega
          rw [if_neg (n5 hs5)]
          by_cases q9 : x = 9999
          · right
            refine ⟨_, by rw [if_pos (show (9999 : Int32) ≤ nI x by rw [q9]; decide)], x, rfl, hx, fun m hm => ⟨fun w => by omega, fun w => ?_⟩⟩
            exact (hI m hm).mpr (fun s' t h1 h2 => w s' t (by omega) h2)
          · left
            refine ⟨hs5, ?_⟩
            rw [if_neg (show ¬ (9999 : Int32) ≤ nI x from nI_ge (b := 9999) (by omega) (by decide))]
            rcases Mgoes hz hm ch hs5 with ⟨a1, a2⟩ | ⟨t, ct, t36, a1, a2⟩
            · rw [a1, qob_some, qun1_eq, if_pos rfl]
              refine ⟨_, rfl, x, by rw [nI_1], hx, fun m hm => (hI m hm).trans ⟨fun w s' t h1 h2 => ?_, fun w s' t h1 h2 => w s' t (by omega) h2⟩⟩
              by_cases e : s' = s
              · subst e; exact absurd h2 (a2 t)
              · exact w s' t (by omega) h2
            · rw [a1, qob_some, qun1_eq, if_neg (nI_m9 (by omega))]
              have hat := hA r t cr ct
              have hval : ∃ u, (if nI t = nI r then some (9999 : Int32) else qgd ((36 * nI r) + nI t) 1296 (some (tn (((36 * nI r) + nI t)).toNatClampNeg))) = some (nI u) ∧ u ≤ 9999 ∧ ∀ m, m < 9999 → (u ≤ m ↔ t ≠ r ∧ A r t ≤ m) := by
                by_cases e : t = r
                · refine ⟨9999, by rw [if_pos (by rw [e])]; rfl, Nat.le_refl _, fun m hm => ⟨fun w => by omega, fun w => absurd e w.1⟩⟩
                · refine ⟨A r t, ?_, hat.2, fun m hm => ⟨fun w => ⟨e, w⟩, fun w => w.2⟩⟩
                  rw [if_neg (nI_ne (by omega) (by omega) e), idx36, qgd_nI (by omega) (by decide), nI_clamp (by omega), hat.1]
              obtain ⟨u, u1, u2, u3⟩ := hval
              rw [u1, qob_some, qun1_eq]
              have nxt : ∀ m, m < 9999 → ((x ≤ m ∧ u ≤ m) ↔ ∀ s' t, s' < s + 1 → oS rt dn h s' t → t ≠ r ∧ A r t ≤ m) := by
                intro m hm
                rw [hI m hm, u3 m hm]
                constructor
                · rintro ⟨w1, w2⟩ s' t' h1 h2
                  by_cases e : s' = s
                  · subst e
                    rw [oS_fun h2 a2]
                    exact w2
                  · exact w1 s' t' (by omega) h2
                · intro w
                  exact ⟨fun s' t' h1 h2 => w s' t' (by omega) h2, w s t (by omega) a2⟩
              by_cases l : u ≤ x
              · rw [if_pos (nI_le l (by omega))]
                exact ⟨_, rfl, x, by rw [nI_1], hx, fun m hm => ⟨fun w => (nxt m hm).mp ⟨w, by omega⟩, fun w => ((nxt m hm).mpr w).1⟩⟩
              · rw [if_neg (nI_ge (by omega) (by omega))]
                exact ⟨_, rfl, u, by rw [nI_1], u2, fun m hm => ⟨fun w => (nxt m hm).mp ⟨by omega, w⟩, fun w => ((nxt m hm).mpr w).2⟩⟩) qFU (qFU_gt (by decide)) ((0 : Int32), (0 : Int32)) ⟨0, rfl, Nat.zero_le _, fun m hm => ⟨fun _ s' t h1 => absurd h1 (Nat.not_lt_zero s'), fun _ => Nat.zero_le m⟩⟩
      rw [g1, qob_some, qun1_eq]
      have hQ : ∀ m, m < 9999 → (Qh rt dn b A m r h ↔ x ≤ m) := by
        intro m hm
        rw [g3 m hm]
        unfold Qh
        constructor
        · rintro (w | w)
          · exact absurd w ebh
          · exact w.2
        · intro w
          exact Or.inr ⟨erh, w⟩
      by_cases q9 : x = 9999
      · rw [if_pos (show (9999 : Int32) ≤ nI x by rw [q9]; decide)]
        exact ⟨9999, Nat.le_refl _, by decide, rfl, fun m hm => by rw [hQ m (by omega)]; omega⟩
      · rw [if_neg (show ¬ (9999 : Int32) ≤ nI x from nI_ge (b := 9999) (by omega) (by decide)), nI_1]
        exact ⟨x + 1, by omega, by omega, rfl, fun m hm => by rw [hQ m (by omega)]; omega⟩
set_option maxRecDepth 20000 in
theorem Mcaught {R C : Nat} {rt dn : Nat → Bool} {mr md tn : Nat → Int32} (hz : Mz R C rt dn) (hm : ∀ i, i < 36 → mr i = b2i (rt i) ∧ md i = b2i (dn i)) {A : Nat → Nat → Nat} (hA : tnA R C tn A) {b r h : Nat} (hb : b < 36) (cr : isC R C r) (ch : isC R C h) :
    ∃ v, v ≤ 9999 ∧ (v ≤ 0 ↔ r = h) ∧ fX10_caughtBehind (nI R) (nI C) (nI b) mr md tn (nI r) (nI h) = some (nI v) ∧ ∀ m, m + 1 < 9999 → (v ≤ m + 1 ↔ Qc rt dn b A m r h) := by
  have hr := isC_lt hz cr
  have hh := isC_lt hz ch
  rw [le_X10_caughtBehind]
  by_cases erh : r = h
  · refine ⟨0, Nat.zero_le _, ⟨fun _ => erh, fun _ => Nat.le_refl 0⟩, ?_, fun m _ => ⟨fun _ => Or.inl erh, fun _ => Nat.zero_le _⟩⟩
    have e0 : ∀ z : Option (Unit ⊕ Int32), (if nI r = nI b then some (Sum.inl ()) else if nI r = nI h then some (Sum.inl ()) else z) = some (Sum.inl ()) := fun z => by
      rw [if_pos (show nI r = nI h by rw [erh])]
      split <;> rfl
    rw [e0, qob_some, Sum.elim_inl, if_pos (by rw [erh])]
    rfl
  · by_cases erb : r = b
    · refine ⟨9999, Nat.le_refl _, ⟨fun w => by omega, fun w => absurd w erh⟩, ?_, fun m hm => ⟨fun w => by omega, fun w => ?_⟩⟩
      · rw [if_pos (by rw [erb]), qob_some, Sum.elim_inl, if_neg (nI_ne (by omega) (by omega) erh)]
        rfl
      · rcases w with w | ⟨w, -⟩
        · exact absurd w erh
        · exact absurd erb w
    · rw [if_neg (nI_ne (by omega) (by omega) erb), if_neg (nI_ne (by omega) (by omega) erh)]
      obtain ⟨e, g1, x, rfl, g2, g3⟩ := qlp_idx (f := lb_X10_caughtBehind_1 (nI R) (nI C) mr md tn (nI r) (nI h)) (fun s st => ∃ x, st = (nI x, nI s) ∧ x ≤ 9999 ∧ ∀ m, m < 9999 → (x ≤ m ↔ ∃ s' t, s' < s ∧ oS rt dn h s' t ∧ (t = r ∨ A r t ≤ m))) 5 (fun e => ∃ x, e = nI x ∧ x ≤ 9999 ∧ ∀ m, m < 9999 → (x ≤ m ↔ ∃ s' t, s' < 5 ∧ oS rt dn h s' t ∧ (t = r ∨ A r t ≤ m))) (by
        rintro s st hs ⟨x, rfl, hx, hI⟩
        rw [ls_X10_caughtBehind_1]
        by_cases q5 : s = 5
        · right
          subst q5
          exact ⟨_, by rw [if_pos (y5 (Nat.le_refl 5) (by decide))], x, rfl, hx, hI⟩
        · have hs5 : s < 5 := by omega
          left
          refine ⟨hs5, ?_⟩
          rw [if_neg (n5 hs5)]
          rcases Mgoes hz hm ch hs5 with ⟨a1, a2⟩ | ⟨t, ct, t36, a1, a2⟩
          · rw [a1, qob_some, qun1_eq, if_pos rfl]
            refine ⟨_, rfl, x, by rw [nI_1], hx, fun m hm => (hI m hm).trans ⟨fun ⟨s', t, h1, h2⟩ => ⟨s', t, by omega, h2⟩, fun ⟨s', t, h1, h2, h3⟩ => ⟨s', t, ?_, h2, h3⟩⟩⟩
            by_cases e : s' = s
            · subst e; exact absurd h2 (a2 t)
            · omega
          · rw [a1, qob_some, qun1_eq, if_neg (nI_m9 (by omega))]
            have hat := hA r t cr ct
            have hval : ∃ u, (if nI t = nI r then some (0 : Int32) else qgd ((36 * nI r) + nI t) 1296 (some (tn (((36 * nI r) + nI t)).toNatClampNeg))) = some (nI u) ∧ u ≤ 9999 ∧ ∀ m, m < 9999 → (u ≤ m ↔ t = r ∨ A r t ≤ m) := by
              by_cases e : t = r
              · refine ⟨0, by rw [if_pos (by rw [e])]; rfl, Nat.zero_le _, fun m hm => ⟨fun _ => Or.inl e, fun _ => Nat.zero_le _⟩⟩
              · refine ⟨A r t, ?_, hat.2, fun m hm => ⟨fun w => Or.inr w, fun w => w.resolve_left e⟩⟩
                rw [if_neg (nI_ne (by omega) (by omega) e), idx36, qgd_nI (by omega) (by decide), nI_clamp (by omega), hat.1]
            obtain ⟨u, u1, u2, u3⟩ := hval
            rw [u1, qob_some, qun1_eq]
            have nxt : ∀ m, m < 9999 → ((x ≤ m ∨ u ≤ m) ↔ ∃ s' t, s' < s + 1 ∧ oS rt dn h s' t ∧ (t = r ∨ A r t ≤ m)) := by
              intro m hm
              rw [hI m hm, u3 m hm]
              constructor
              · rintro (⟨s', t', h1, h2⟩ | w)
                · exact ⟨s', t', by omega, h2⟩
                · exact ⟨s, t, by omega, a2, w⟩
              · rintro ⟨s', t', h1, h2, h3⟩
                by_cases e : s' = s
                · subst e
                  rw [oS_fun h2 a2] at h3
                  exact Or.inr h3
                · exact Or.inl ⟨s', t', by omega, h2, h3⟩
            by_cases l : x ≤ u
            · rw [if_pos (nI_le l (by omega))]
              exact ⟨_, rfl, x, by rw [nI_1], hx, fun m hm => ⟨fun w => (nxt m hm).mp (Or.inl w), fun w => by have := (nxt m hm).mpr w; omega⟩⟩
            · rw [if_neg (nI_ge (by omega) (by omega))]
              exact ⟨_, rfl, u, by rw [nI_1], u2, fun m hm => ⟨fun w => (nxt m hm).mp (Or.inr w), fun w => by have := (nxt m hm).mpr w; omega⟩⟩) qFU (qFU_gt (by decide)) ((9999 : Int32), (0 : Int32)) ⟨9999, rfl, Nat.le_refl _, fun m hm => ⟨fun w => by omega, fun ⟨s', t, h1, _⟩ => absurd h1 (Nat.not_lt_zero s')⟩⟩
      rw [g1, qob_some, qun1_eq]
      have hQ : ∀ m, m < 9999 → (Qc rt dn b A m r h ↔ x ≤ m) := by
        intro m hm
        rw [g3 m hm]
        unfold Qc
        constructor
        · rintro (w | w)
          · exact absurd w erh
          · exact w.2
        · intro w
          exact Or.inr ⟨erb, w⟩
      by_cases q9 : x = 9999
      · rw [if_pos (show (9999 : Int32) ≤ nI x by rw [q9]; decide), qob_some]
        exact ⟨9999, Nat.le_refl _, ⟨fun w => by omega, fun w => absurd w erh⟩, rfl, fun m hm => by rw [hQ m (by omega)]; omega⟩
      · rw [if_neg (show ¬ (9999 : Int32) ≤ nI x from nI_ge (b := 9999) (by omega) (by decide)), nI_1, qob_some]
        exact ⟨x + 1, by omega, ⟨fun w => by omega, fun w => absurd w erh⟩, rfl, fun m hm => by rw [hQ m (by omega)]; omega⟩
set_option maxRecDepth 20000 in
theorem Mturns {R C : Nat} {rt dn : Nat → Bool} {mr md tn : Nat → Int32} (hz : Mz R C rt dn) (hm : ∀ i, i < 36 → mr i = b2i (rt i) ∧ md i = b2i (dn i)) {A : Nat → Nat → Nat} (hA : tnA R C tn A) {b i j : Nat} (hb : b < 36) (ci : isC R C i) (cj : isC R C j) (ho : Bool) :
    ∃ v, v ≤ 9999 ∧ fX10_turnsOf (nI R) (nI C) (nI b) mr md tn (nI i) (nI j) (b2i ho) = some (nI v) ∧ (v ≤ 0 ↔ if i = b then ho = true else (ho = false ∧ i = j)) ∧ ∀ m, m + 1 < 9999 → (v ≤ m + 1 ↔ if i = b then ho = true else if ho = true then (i ≠ j ∧ ∃ s t, s < 5 ∧ oS rt dn i s t ∧ Qh rt dn b A m t j) else (i = j ∨ ∀ s t, s < 5 → oS rt dn i s t → Qc rt dn b A m t j)) := by
  have hi := isC_lt hz ci
  have hj := isC_lt hz cj
  rw [le_X10_turnsOf]
  by_cases eb : i = b
  · rw [if_pos (by rw [eb]), if_pos eb]
    cases ho with
    | true => exact ⟨0, Nat.zero_le _, by rw [if_neg b0t]; rfl, ⟨fun _ => rfl, fun _ => Nat.le_refl _⟩, fun m _ => by rw [if_pos eb]; exact ⟨fun _ => rfl, fun _ => Nat.zero_le _⟩⟩
    | false => exact ⟨9999, Nat.le_refl _, by rw [if_pos b0f]; rfl, ⟨fun w => by omega, fun w => by cases w⟩, fun m hm => by rw [if_pos eb]; exact ⟨fun w => by omega, fun w => by cases w⟩⟩
  · rw [if_neg (nI_ne (by omega) (by omega) eb), if_neg eb]
    by_cases ej : i = j
    · rw [if_pos (by rw [ej])]
      cases ho with
      | true => exact ⟨9999, Nat.le_refl _, by rw [if_neg b0t]; rfl, ⟨fun w => by omega, fun w => by cases w.1⟩, fun m hm => by rw [if_neg eb, if_pos rfl]; exact ⟨fun w => by omega, fun w => absurd ej w.1⟩⟩
      | false => exact ⟨0, Nat.zero_le _, by rw [if_pos b0f]; rfl, ⟨fun _ => ⟨rfl, ej⟩, fun _ => Nat.le_refl _⟩, fun m _ => by rw [if_neg eb, if_neg Bool.false_ne_true]; exact ⟨fun _ => Or.inl ej, fun _ => Nat.zero_le _⟩⟩
    · rw [if_neg (nI_ne (by omega) (by omega) ej)]
      cases ho with
      | true =>
        rw [if_neg b0t, qob_some, qun1_eq]
        obtain ⟨e, g1, x, rfl, g2, g3, g4⟩ := qlp_idx (f := lb_X10_turnsOf_1 (nI R) (nI C) (nI b) mr md tn (nI i) (nI j) (b2i true)) (fun s st => ∃ x, st = (nI x, nI s) ∧ x ≤ 9999 ∧ 1 ≤ x ∧ ∀ m, m + 1 < 9999 → (x ≤ m + 1 ↔ ∃ s' t, s' < s ∧ oS rt dn i s' t ∧ Qh rt dn b A m t j)) 5 (fun e => ∃ x, e = nI x ∧ x ≤ 9999 ∧ 1 ≤ x ∧ ∀ m, m + 1 < 9999 → (x ≤ m + 1 ↔ ∃ s' t, s' < 5 ∧ oS rt dn i s' t ∧ Qh rt dn b A m t j)) (by
          rintro s st hs ⟨x, rfl, hx, hx1, hI⟩
          rw [ls_X10_turnsOf_1]
          by_cases q5 : s = 5
          · right
            subst q5
            exact ⟨_, by rw [if_pos (y5 (Nat.le_refl 5) (by decide))], x, rfl, hx, hx1, hI⟩
          · have hs5 : s < 5 := by omega
            left
            refine ⟨hs5, ?_⟩
            rw [if_neg (n5 hs5)]
            rcases Mgoes hz hm ci hs5 with ⟨a1, a2⟩ | ⟨t, ct, t36, a1, a2⟩
            · rw [a1, qob_some, qun1_eq, if_pos rfl]
              refine ⟨_, rfl, x, by rw [nI_1], hx, hx1, fun m hm => (hI m hm).trans ⟨fun ⟨s', t, h1, h2⟩ => ⟨s', t, by omega, h2⟩, fun ⟨s', t, h1, h2, h3⟩ => ⟨s', t, ?_, h2, h3⟩⟩⟩
              by_cases e : s' = s
              · subst e; exact absurd h2 (a2 t)
              · omega
            · obtain ⟨u, u1, u2, u3, u4⟩ := Mhome hz hm hA hb ct cj
              rw [a1, qob_some, qun1_eq, if_neg (nI_m9 (by omega)), if_neg b0t, u3, qob_some, qun1_eq, qob_some, qun1_eq, if_neg b0t]
              have nxt : ∀ m, m + 1 < 9999 → ((x ≤ m + 1 ∨ u ≤ m + 1) ↔ ∃ s' t, s' < s + 1 ∧ oS rt dn i s' t ∧ Qh rt dn b A m t j) := by
                intro m hm
                rw [hI m hm, u4 m hm]
                constructor
                · rintro (⟨s', t', h1, h2⟩ | w)
                  · exact ⟨s', t', by omega, h2⟩
                  · exact ⟨s, t, by omega, a2, w⟩
                · rintro ⟨s', t', h1, h2, h3⟩
                  by_cases e : s' = s
                  · subst e
                    rw [oS_fun h2 a2] at h3
                    exact Or.inr h3
                  · exact Or.inl ⟨s', t', by omega, h2, h3⟩
              by_cases l : x ≤ u
              · rw [if_pos (nI_le l (by omega))]
                exact ⟨_, rfl, x, by rw [nI_1], hx, hx1, fun m hm => ⟨fun w => (nxt m hm).mp (Or.inl w), fun w => by have := (nxt m hm).mpr w; omega⟩⟩
              · rw [if_neg (nI_ge (by omega) (by omega))]
                exact ⟨_, rfl, u, by rw [nI_1], u1, u2, fun m hm => ⟨fun w => (nxt m hm).mp (Or.inr w), fun w => by have := (nxt m hm).mpr w; omega⟩⟩) qFU (qFU_gt (by decide)) ((9999 : Int32), (0 : Int32)) ⟨9999, rfl, Nat.le_refl _, by decide, fun m hm => ⟨fun w => by omega, fun ⟨s', t, h1, _⟩ => absurd h1 (Nat.not_lt_zero s')⟩⟩
        rw [g1, qob_some]
        refine ⟨x, g2, rfl, ⟨fun w => by omega, fun w => by cases w.1⟩, fun m hm => ?_⟩
        rw [if_neg eb, if_pos rfl, g4 m hm]
        exact ⟨fun w => ⟨ej, w⟩, fun w => w.2⟩
      | false =>
        rw [if_pos b0f, qob_some, qun1_eq]
        obtain ⟨e, g1, x, rfl, g2, g3, g4⟩ := qlp_idx (f := lb_X10_turnsOf_1 (nI R) (nI C) (nI b) mr md tn (nI i) (nI j) (b2i false)) (fun s st => ∃ x, st = (nI x, nI s) ∧ x ≤ 9999 ∧ (x ≤ 0 ↔ ∀ s' t, s' < s → oS rt dn i s' t → t = j) ∧ ∀ m, m + 1 < 9999 → (x ≤ m + 1 ↔ ∀ s' t, s' < s → oS rt dn i s' t → Qc rt dn b A m t j)) 5 (fun e => ∃ x, e = nI x ∧ x ≤ 9999 ∧ (x ≤ 0 ↔ ∀ s' t, s' < 5 → oS rt dn i s' t → t = j) ∧ ∀ m, m + 1 < 9999 → (x ≤ m + 1 ↔ ∀ s' t, s' < 5 → oS rt dn i s' t → Qc rt dn b A m t j)) (by
          rintro s st hs ⟨x, rfl, hx, hx1, hI⟩
          rw [ls_X10_turnsOf_1]
          by_cases q5 : s = 5
          · right
            subst q5
            exact ⟨_, by rw [if_pos (y5 (Nat.le_refl 5) (by decide))], x, rfl, hx, hx1, hI⟩
          · have hs5 : s < 5 := by omega
            left
            refine ⟨hs5, ?_⟩
            rw [if_neg (n5 hs5)]
            have ext : ∀ (P : Nat → Prop), (∀ t, ¬ oS rt dn i s t) → ((∀ s' t, s' < s → oS rt dn i s' t → P t) ↔ ∀ s' t, s' < s + 1 → oS rt dn i s' t → P t) := fun P a2 => ⟨fun w s' t h1 h2 => by
              by_cases e : s' = s
              · subst e; exact absurd h2 (a2 t)
              · exact w s' t (by omega) h2, fun w s' t h1 h2 => w s' t (by omega) h2⟩
            have ext2 : ∀ (P : Nat → Prop) (t : Nat), oS rt dn i s t → (((∀ s' t, s' < s → oS rt dn i s' t → P t) ∧ P t) ↔ ∀ s' t, s' < s + 1 → oS rt dn i s' t → P t) := fun P t a2 => ⟨fun w s' t' h1 h2 => by
              by_cases e : s' = s
              · subst e
                rw [oS_fun h2 a2]
                exact w.2
              · exact w.1 s' t' (by omega) h2, fun w => ⟨fun s' t' h1 h2 => w s' t' (by omega) h2, w s t (by omega) a2⟩⟩
            rcases Mgoes hz hm ci hs5 with ⟨a1, a2⟩ | ⟨t, ct, t36, a1, a2⟩
            · rw [a1, qob_some, qun1_eq, if_pos rfl]
              exact ⟨_, rfl, x, by rw [nI_1], hx, hx1.trans (ext (fun t => t = j) a2), fun m hm => (hI m hm).trans (ext (fun t => Qc rt dn b A m t j) a2)⟩
            · obtain ⟨u, u1, u2, u3, u4⟩ := Mcaught hz hm hA hb ct cj
              rw [a1, qob_some, qun1_eq, if_neg (nI_m9 (by omega)), if_pos b0f, u3, qob_some, qun1_eq, qob_some, qun1_eq, if_pos b0f]
              have n0 : (x ≤ 0 ∧ u ≤ 0) ↔ ∀ s' t, s' < s + 1 → oS rt dn i s' t → t = j := by rw [hx1, u2]; exact ext2 (fun t => t = j) t a2
              have nxt : ∀ m, m + 1 < 9999 → ((x ≤ m + 1 ∧ u ≤ m + 1) ↔ ∀ s' t, s' < s + 1 → oS rt dn i s' t → Qc rt dn b A m t j) := fun m hm => by rw [hI m hm, u4 m hm]; exact ext2 (fun t => Qc rt dn b A m t j) t a2
              by_cases l : u ≤ x
              · rw [if_pos (nI_le l (by omega))]
                exact ⟨_, rfl, x, by rw [nI_1], hx, ⟨fun w => n0.mp ⟨w, by omega⟩, fun w => (n0.mpr w).1⟩, fun m hm => ⟨fun w => (nxt m hm).mp ⟨w, by omega⟩, fun w => ((nxt m hm).mpr w).1⟩⟩
              · rw [if_neg (nI_ge (by omega) (by omega))]
                exact ⟨_, rfl, u, by rw [nI_1], u1, ⟨fun w => n0.mp ⟨by omega, w⟩, fun w => (n0.mpr w).2⟩, fun m hm => ⟨fun w => (nxt m hm).mp ⟨by omega, w⟩, fun w => ((nxt m hm).mpr w).2⟩⟩) qFU (qFU_gt (by decide)) ((0 : Int32), (0 : Int32)) ⟨0, rfl, Nat.zero_le _, ⟨fun _ s' t h1 => absurd h1 (Nat.not_lt_zero s'), fun _ => Nat.le_refl 0⟩, fun m hm => ⟨fun _ s' t h1 => absurd h1 (Nat.not_lt_zero s'), fun _ => Nat.zero_le _⟩⟩
        rw [g1, qob_some]
        refine ⟨x, g2, rfl, ⟨fun w => absurd (g3.mp w 4 i (by decide) (Or.inr ⟨rfl, rfl⟩)) ej, fun w => absurd w.2 ej⟩, fun m hm => ?_⟩
        rw [if_neg eb, if_neg Bool.false_ne_true, g4 m hm]
        exact ⟨fun w => Or.inr w, fun w => w.resolve_left ej⟩

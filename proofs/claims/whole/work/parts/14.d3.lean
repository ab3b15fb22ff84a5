/-! two loops in step; a hand kept on the hedge -/
theorem qlp_two {S S' E E' : Type} {f : S → Option (S ⊕ E)} {g : S' → Option (S' ⊕ E')} (I : Nat → S → S' → Prop) (N : Nat) (post : E → E' → Prop)
    (hs : ∀ i s s', i ≤ N → I i s s' → (i < N ∧ ∃ t t', f s = some (.inl t) ∧ g s' = some (.inl t') ∧ I (i + 1) t t') ∨ (∃ e e', f s = some (.inr e) ∧ g s' = some (.inr e') ∧ post e e')) (n n' : Nat) (hn : N < n) (hn' : N < n') (s : S) (s' : S') (h0 : I 0 s s') : ∃ e e', qlp n f s = some e ∧ qlp n' g s' = some e' ∧ post e e' := by
  have key : ∀ k i s s', i + k = N → I i s s' → ∀ n n', k < n → k < n' → ∃ e e', qlp n f s = some e ∧ qlp n' g s' = some e' ∧ post e e' := by
    intro k
    induction k with
    | zero =>
      intro i s s' hi hI n n' hn hn'
      obtain ⟨n, rfl⟩ : ∃ m, n = m + 1 := ⟨n - 1, by omega⟩
      obtain ⟨n', rfl⟩ : ∃ m, n' = m + 1 := ⟨n' - 1, by omega⟩
      rw [qlp_succ, qlp_succ]
      rcases hs i s s' (by omega) hI with ⟨h, -⟩ | ⟨e, e', h1, h2, h3⟩
      · omega
      · rw [h1, h2]; exact ⟨e, e', rfl, rfl, h3⟩
    | succ k ih =>
      intro i s s' hi hI n n' hn hn'
      obtain ⟨n, rfl⟩ : ∃ m, n = m + 1 := ⟨n - 1, by omega⟩
      obtain ⟨n', rfl⟩ : ∃ m, n' = m + 1 := ⟨n' - 1, by omega⟩
      rw [qlp_succ, qlp_succ]
      rcases hs i s s' (by omega) hI with ⟨h, t, t', h1, h2, h3⟩ | ⟨e, e', h1, h2, h3⟩
      · rw [h1, h2]; exact ih (i + 1) t t' (by omega) h3 n n' (by omega) (by omega)
      · rw [h1, h2]; exact ⟨e, e', rfl, rfl, h3⟩
  exact key N 0 s s' (by omega) h0 n n' hn hn'
def hN (rg : Bool) : Nat := if rg then 1 else 3
def sideK (l : Nat) (rg : Bool) (k : Nat) : Nat := (l + hN rg + k * (4 - hN rg)) % 4
theorem sideK_C : ∀ rg : Bool, ∀ l, l < 4 → ∀ k, k < 4 → qrem ((nI l + nI (hN rg)) + (nI k * (4 - nI (hN rg)))) 4 = nI (sideK l rg k) := by decide +kernel
theorem sideK_M : ∀ rg : Bool, ∀ l, l < 4 → ∀ k, k < 4 → (if nI k = 3 then some (qrem (nI l + 2) 4) else if nI k = 0 then some (qrem (nI l + nI (hN rg)) 4) else if nI k = 1 then some (qrem (nI l + 0) 4) else some (qrem (nI l + (4 - nI (hN rg))) 4)) = some (nI (sideK l rg k)) := by decide +kernel
theorem sideK_lt (l : Nat) (rg : Bool) (k : Nat) : sideK l rg k < 4 := Nat.mod_lt _ (by decide)
set_option maxRecDepth 20000 in
theorem hand_both {R C : Nat} {rt dn : Nat → Bool} {r d : Int64} {mr md : Nat → Int32} (hz : Mz R C rt dn) (hr : bs r rt) (hd : bs d dn) (hm : ∀ i, i < 36 → mr i = b2i (rt i) ∧ md i = b2i (dn i)) {i l : Nat} (hi : isC R C i) (hl : l < 4) (rg : Bool) :
    ∃ i' l', isC R C i' ∧ l' < 4 ∧ fX8_goByHand (nI (pl i)) (nI l) (nI (hN rg)) (cwv R C) r d = some (nI (pl i'), nI l') ∧ fX10_handStep (nI R) (nI C) (nI i) (nI l) mr md (b2i rg) = some (nI i', nI l') := by
  have hlt := isC_lt hz hi
  obtain ⟨e, e', g1, g2, i', l', a1, a2, a3, a4⟩ := qlp_two (f := qun1 fun (x1_1 : Int32) => if 4 ≤ x1_1 then some (Sum.inr (Sum.inl ())) else qbd (qrem ((nI l + nI (hN rg)) + (x1_1 * (4 - nI (hN rg)))) 4) (fun (x2_1 : Int32) => qbd (fX1_neighbour (cwv R C) r d (nI (pl i)) x2_1) (fun (x3_1 : Int32) => if x3_1 = (-1) then some (Sum.inl (x1_1 + 1)) else some (Sum.inr (Sum.inr (x3_1, x2_1))))))
    (g := qun1 fun (x3_1 : Int32) => if 4 ≤ x3_1 then some (Sum.inr (Sum.inl ())) else Option.bind (if x3_1 = 3 then some (qrem (nI l + 2) 4) else if x3_1 = 0 then some (qrem (nI l + nI (hN rg)) 4) else if x3_1 = 1 then some (qrem (nI l + 0) 4) else some (qrem (nI l + (4 - nI (hN rg))) 4)) (qun1 fun (s_2 : Int32) => Option.bind (fX10_isOpen (nI R) (nI C) mr md (nI i) s_2) (qun1 fun (r_1 : Int32) => if r_1 = 0 then some (Sum.inl (x3_1 + 1)) else qbd (fX10_beside (nI R) (nI C) (nI i) s_2) (fun (m_at_1 : Int32) => some (Sum.inr (Sum.inr (m_at_1, s_2)))))))
    (fun k x y => x = nI k ∧ y = nI k) 4 (fun (e e' : Unit ⊕ (Int32 × Int32)) => ∃ i' l', isC R C i' ∧ l' < 4 ∧ Sum.elim (fun _ => some (nI (pl i), nI l)) some e = some (nI (pl i'), nI l') ∧ Sum.elim (fun _ => some (nI i, nI l)) some e' = some (nI i', nI l')) (by
    rintro k x y hk ⟨rfl, rfl⟩
    by_cases h : 4 ≤ k
    · right
      refine ⟨.inl (), .inl (), ?_, ?_, i, l, hi, hl, rfl, rfl⟩
      · rw [qun1_eq, if_pos (show (4 : Int32) ≤ nI k from nI_le (a := 4) h (by omega))]
      · rw [qun1_eq, if_pos (show (4 : Int32) ≤ nI k from nI_le (a := 4) h (by omega))]
    · have hk4 : k < 4 := by omega
      have hs := sideK_lt l rg k
      rw [qun1_eq, qun1_eq, if_neg (show ¬ (4 : Int32) ≤ nI k from nI_ge (b := 4) hk4 (by decide)), if_neg (show ¬ (4 : Int32) ≤ nI k from nI_ge (b := 4) hk4 (by decide)), sideK_M rg l hl k hk4, sideK_C rg l hl k hk4, qob_some, qun1_eq, Mopen hz hm hi hs, qob_some, qun1_eq]
      simp only [qbd]
      rw [Cneigh hz hr hd hi hs]
      cases ho : opS rt dn i (sideK l rg k) with
      | false =>
        left
        exact ⟨hk4, nI (k + 1), nI (k + 1), by rw [if_neg Bool.false_ne_true, if_pos rfl, nI_1], by rw [if_pos (show b2i false = 0 from rfl), nI_1], rfl, rfl⟩
      | true =>
        right
        have hc := op_isC hz hi hs ho
        have hp := pl_lt hc.2
        refine ⟨.inr (nI (pl (mvN i (sideK l rg k))), nI (sideK l rg k)), .inr (nI (mvN i (sideK l rg k)), nI (sideK l rg k)), ?_, ?_, _, _, hc.1, hs, rfl, rfl⟩
        · rw [if_pos rfl, if_neg (nI_m1 (by omega))]
        · rw [if_neg (show ¬ b2i true = 0 by decide), Mbeside R (by have := hz.1; omega) C (by have := hz.2.1; omega) i hlt _ hs hi, op_rim hz hs ho, if_pos rfl]) qFU qFU (qFU_gt (by decide)) (qFU_gt (by decide)) (0 : Int32) (0 : Int32) ⟨rfl, rfl⟩
  refine ⟨i', l', a1, a2, ?_, ?_⟩
  · unfold fX8_goByHand
    rw [g1, qob_some]
    exact a3
  · unfold fX10_handStep
    have e1 : (if b2i rg = 0 then some 3 else some 1) = some (nI (hN rg)) := by cases rg <;> rfl
    rw [e1, qob_some, qun1_eq, g2, qob_some]
    exact a4
theorem begin_C (pl_ lk hd_ ga p1 : Int32) (rg : Bool) : fX8_beginByHand pl_ lk hd_ ga p1 (b2i rg) = (ga, p1, nI (hN rg)) := by
  cases rg <;> rfl
set_option maxRecDepth 20000 in
set_option maxHeartbeats 1000000 in
theorem st_hand {sc_length : Int32} {sc_bytes : Nat → Int32} {g_rows : Int32} {g_columns : Int32} {g_a : Int32} {g_b : Int32} {g_cells : Int64} {g_right : Int64} {g_down : Int64} {m_textSize : Int32} {m_text : Nat → Int32} {m_rows : Int32} {m_columns : Int32} {m_a : Int32} {m_b : Int32} {m_right : Nat → Int32} {m_down : Nat → Int32} {m_shut : Nat → Int32} {m_keptFigures : Nat → Int32} {m_keptNumbers : Nat → Int32} {m_isKept : Nat → Int32} {wk_place : Int32} {wk_look : Int32} {wk_hand : Int32} {m_thrown : Int32} {m_at : Int32} {m_looks : Int32} {sl_f : Nat → Option Nat} {k0 k1 : Option (Nat × KG)} {p1 : Int32} {p2 : Bool} (h : Rel sc_length sc_bytes (g_rows, g_columns, g_a, g_b, g_cells, g_right, g_down) sl_f k0 k1 m_textSize m_text m_rows m_columns m_a m_b m_right m_down m_shut m_keptFigures m_keptNumbers m_isKept) : ∃ (r : Int32) (wk_place' : Int32) (wk_look' : Int32) (wk_hand' : Int32) (m_thrown' : Int32) (m_at' : Int32) (m_looks' : Int32), fX9_hand g_a g_b g_cells g_right g_down wk_place wk_look wk_hand p1 (b2i p2) = some (r, wk_place', wk_look', wk_hand') ∧ fX10_hand m_thrown m_rows m_columns m_a m_b m_at m_looks m_right m_down p1 (b2i p2) = some (r, m_thrown', m_at', m_looks') ∧ Rel sc_length sc_bytes (g_rows, g_columns, g_a, g_b, g_cells, g_right, g_down) sl_f k0 k1 m_textSize m_text m_rows m_columns m_a m_b m_right m_down m_shut m_keptFigures m_keptNumbers m_isKept := by
  obtain ⟨R, C, rt, dn, a, b, n, tx, z0, z1, hz, ha, hb, rfl, rfl, rfl, rfl, rfl, hr, hd, rfl, rfl, rfl, rfl, hm, ht, hsh, h0, h1, e0, e1⟩ := id h.un
  unfold fX9_hand fX10_hand
  rcases side_two p1 with ⟨u1, u2⟩ | ⟨s, hs, rfl, v1, v2⟩
  · rw [if_pos u1, if_pos u2]
    exact ⟨_, _, _, _, _, _, _, rfl, rfl, h⟩
  · rw [if_neg v1, if_neg v2]
    have hal := isC_lt hz ha
    have hbl := isC_lt hz hb
    obtain ⟨e, e', g1, g2, k, i', l', a1, a2⟩ := qlp_two (f := qun3 fun (x3_1 : Int32) (wk_place_3 : Int32) (wk_look_3 : Int32) => if 144 < x3_1 then some (Sum.inr (Sum.inl (wk_place_3, wk_look_3))) else if wk_place_3 = nI (pl b) then some (Sum.inr (Sum.inr (x3_1, wk_place_3, wk_look_3, nI (hN p2)))) else Option.bind (fX8_goByHand wk_place_3 wk_look_3 (nI (hN p2)) (cwv R C) g_right g_down) (qun2 fun (wk_place_4 : Int32) (wk_look_4 : Int32) => some (Sum.inl ((x3_1 + 1), wk_place_4, wk_look_4))))
      (g := qun3 fun (x3_1 : Int32) (m_at_2 : Int32) (m_looks_2 : Int32) => if 144 < x3_1 then some (Sum.inr (Sum.inl (m_at_2, m_looks_2))) else if m_at_2 = nI b then some (Sum.inr (Sum.inr (x3_1, 0, m_at_2, m_looks_2))) else Option.bind (fX10_handStep (nI R) (nI C) m_at_2 m_looks_2 m_right m_down (b2i p2)) (qun2 fun (m_at_3 : Int32) (m_looks_3 : Int32) => some (Sum.inl ((x3_1 + 1), m_at_3, m_looks_3))))
      (fun k x y => ∃ i l, isC R C i ∧ l < 4 ∧ x = (nI k, nI (pl i), nI l) ∧ y = (nI k, nI i, nI l)) 145 (fun (e : (Int32 × Int32) ⊕ (Int32 × Int32 × Int32 × Int32)) (e' : (Int32 × Int32) ⊕ (Int32 × Int32 × Int32 × Int32)) => ∃ (k i l : Int32) (j : Int32), Sum.elim (qun2 fun (wk_place_2 : Int32) (wk_look_2 : Int32) => some ((-9), wk_place_2, wk_look_2, nI (hN p2))) some e = some (k, i, l, nI (hN p2)) ∧ Sum.elim (qun2 fun (m_at_1 : Int32) (m_looks_1 : Int32) => some ((-9), (0 : Int32), m_at_1, m_looks_1)) some e' = some (k, 0, j, l)) (by
      rintro k x y hk ⟨i, l, hi, hl, rfl, rfl⟩
      have hil := isC_lt hz hi
      have hpi := pl_lt hil
      have hpb := pl_lt hbl
      rw [qun3_eq, qun3_eq]
      by_cases h : 144 < k
      · right
        rw [if_pos (show (144 : Int32) < nI k from nI_lt (a := 144) h (by omega)), if_pos (show (144 : Int32) < nI k from nI_lt (a := 144) h (by omega))]
        exact ⟨_, _, rfl, rfl, _, _, _, _, rfl, rfl⟩
      · rw [if_neg (show ¬ (144 : Int32) < nI k from nI_nlt (b := k) (a := 144) (by omega) (by decide)), if_neg (show ¬ (144 : Int32) < nI k from nI_nlt (b := k) (a := 144) (by omega) (by decide))]
        by_cases e : i = b
        · right
          subst e
          rw [if_pos rfl, if_pos rfl]
          exact ⟨_, _, rfl, rfl, _, _, _, _, rfl, rfl⟩
        · left
          rw [if_neg (nI_ne (by omega) (by omega) (fun q => e (pl_inj hil hbl q))), if_neg (nI_ne (by omega) (by omega) e)]
          obtain ⟨i', l', b1, b2, b3, b4⟩ := hand_both hz hr hd hm hi hl p2
          rw [b3, b4, qob_some, qob_some, qun2_eq, qun2_eq]
          exact ⟨by omega, _, _, rfl, rfl, i', l', b1, b2, by rw [nI_1], by rw [nI_1]⟩) qFU qFU (qFU_gt (by decide)) (qFU_gt (by decide)) ((0 : Int32), nI (pl a), nI s) ((0 : Int32), nI a, nI s) ⟨a, s, ha, hs, rfl, rfl⟩
    refine ⟨k, i', l', nI (hN p2), 0, a1, l', ?_, ?_, h⟩
    · unfold fX8_handSteps
      rw [begin_C]
      show Option.bind (Option.bind (qlp qFU _ ((0 : Int32), nI (pl a), nI s)) _) _ = _
      rw [g1, qob_some, a2.1]
      rfl
    · rw [g2, qob_some, a2.2]

/-! the text read by both -/
theorem Mmayf {c row col W : Nat} (hc : c < 256) (hr : row < 6) (hcol : col ≤ 6) (hW : W ≤ 6) :
    (if (fX10_in ((nI c - 48 : Int32).toInt64) 0 3) = 0 then some (0 : Int32) else if nI (LW W) ≤ nI col then some 0 else if b2i (decide (col + 1 = LW W)) = 0 then if nI (row + 1) = 6 then if 1 < (nI c - 48) then some 0 else some 1 else some 1 else if (qrem (nI c - 48) 2) = 1 then some 0 else if nI (row + 1) = 6 then if 1 < (nI c - 48) then some 0 else some 1 else some 1) = some (b2i (figOk c row col W)) := by
  have hL := LW_lt hW
  unfold figOk
  by_cases q : 48 ≤ c ∧ c ≤ 51
  · obtain ⟨v, rfl⟩ : ∃ v, c = 48 + v := ⟨c - 48, by omega⟩
    have hv : v < 4 := by omega
    obtain ⟨i1, i2, -, -, i5, i6, i7⟩ := c_in v hv
    rw [i2, if_neg (by decide), i1, decide_eq_true q.1, decide_eq_true q.2, Bool.true_and, Bool.true_and, show 48 + v - 48 = v by omega]
    unfold fitB
    by_cases q1 : col < LW W
    · rw [if_neg (nI_ge q1 (by omega)), decide_eq_true q1, Bool.true_and]
      have rest : (if nI (row + 1) = (6 : Int32) then if (1 : Int32) < nI v then some (0 : Int32) else some 1 else some 1) = some (b2i (!(decide (2 ≤ v) && decide (row = 5)))) := by
        by_cases r5 : row = 5
        · rw [if_pos (show nI (row + 1) = 6 by rw [r5]; rfl), decide_eq_true r5, Bool.and_true]
          by_cases w : 2 ≤ v
          · rw [if_pos (i6.mpr w), decide_eq_true w]; rfl
          · rw [if_neg (fun x => w (i6.mp x)), decide_eq_false w]; rfl
        · rw [if_neg (show ¬ nI (row + 1) = 6 from nI_ne (b := 6) (by omega) (by decide) (by omega)), decide_eq_false r5, Bool.and_false]; rfl
      rw [rest]
      by_cases q2 : col + 1 = LW W
      · rw [decide_eq_true q2, if_neg b0t, Bool.and_true]
        by_cases w : v % 2 = 1
        · rw [if_pos (i5.mpr w), decide_eq_true w]; rfl
        · rw [if_neg (fun x => w (i5.mp x)), decide_eq_false w, Bool.not_false, Bool.true_and]
      · rw [decide_eq_false q2, if_pos b0f, Bool.and_false, Bool.not_false, Bool.true_and]
    · rw [if_pos (nI_le (by omega) (by omega)), decide_eq_false q1]; rfl
  · have ho := c_out c hc
    have hx : (decide (c < 48) || decide (51 < c)) = true := by
      rw [Bool.or_eq_true, decide_eq_true_eq, decide_eq_true_eq]; omega
    rw [hx, Bool.not_true, Bool.false_or, Bool.and_eq_true, Bool.or_eq_true, decide_eq_true_eq, decide_eq_true_eq, decide_eq_true_eq] at ho
    have hf : (decide (48 ≤ c) && decide (c ≤ 51)) = false := by
      cases w : (decide (48 ≤ c) && decide (c ≤ 51)) with
      | false => rfl
      | true => rw [Bool.and_eq_true, decide_eq_true_eq, decide_eq_true_eq] at w; exact absurd w q
    rw [if_pos ho.2, hf]; rfl
theorem Mwh {row col W : Nat} {ro : Bool} (hr : row < 6) (hcol : col ≤ 6) (hW : W ≤ 6) (h4 : W = 0 ↔ row = 0) :
    (if nI col ≤ 0 then some (0 : Int32) else if b2i ro = 0 then if b2i (decide (row = 0)) = 0 then if nI col = nI (LW W) then some 1 else some 0 else some 1 else some 0) = some (b2i (mE col W ro)) := by
  have hL := LW_lt hW
  unfold mE
  by_cases q : 0 < col
  · rw [if_neg (show ¬ nI col ≤ (0 : Int32) from nI_ge (a := 0) (b := col) q (by omega)), decide_eq_true q, Bool.true_and]
    cases ro with
    | true => rw [if_neg b0t]; rfl
    | false =>
      rw [if_pos b0f]
      by_cases q2 : row = 0
      · rw [decide_eq_true q2, if_neg b0t, decide_eq_true (h4.mpr q2)]; rfl
      · have hW0 : ¬ W = 0 := fun w => q2 (h4.mp w)
        have eL : LW W = W := if_neg hW0
        rw [decide_eq_false q2, if_pos b0f, decide_eq_false hW0, eL]
        by_cases q3 : col = W
        · rw [if_pos (by rw [q3]), decide_eq_true q3]; rfl
        · rw [if_neg (nI_ne (by omega) (by omega) q3), decide_eq_false q3]; rfl
  · rw [if_pos (show nI col ≤ (0 : Int32) from nI_le (b := 0) (by omega) (by decide)), decide_eq_false q]; rfl
set_option maxRecDepth 20000 in
set_option maxHeartbeats 2000000 in
theorem read_both {len : Nat} {tx : Nat → Nat} {sb mt : Nat → Int32} (hlen : len ≤ 41) (ht : ∀ j, j < len → tx j < 256 ∧ sb j = nI (tx j) ∧ mt j = nI (tx j)) (rr0 rc0 : Int32) (rd0 : Nat → Int32) :
    ∃ v rr rc rd, fX5_firstFault (nI len) sb = some v ∧ fX10_readMaze (nI len) rr0 rc0 mt rd0 = some (v, rr, rc, rd) ∧ (v = -9 → ∃ R C, rr = nI R ∧ rc = nI C ∧ rdF tx len R C rd) := by
  obtain ⟨e, e', g1, g2, v, rr, rc, rd, g3, g4, g5⟩ := qlp_two (f := lb_X5_firstFault_1 (nI len) sb) (g := lb_X10_readMaze_1 (nI len) mt)
    (fun n s s' => ∃ row col W ro dw rd, n ≤ len ∧ prI tx n row col W ro dw rd ∧ s = (nI row, nI col, nI W, b2i ro, b2i dw, nI n) ∧ s' = (nI col, b2i dw, nI n, nI (row + 1), nI (LW W), rd)) len
    (fun e e' => ∃ v rr rc rd, Sum.elim (qun4 fun (x2_1 : Int32) (x3_1 : Int32) (x4_1 : Int32) (x5_1 : Int32) => if (fX5_rowMayEnd x2_1 x3_1 x4_1) = 0 then some (nI len) else if x5_1 = 0 then some (-9) else some (nI len)) some e = some v ∧
      Sum.elim (qun5 fun (x1_1 : Int32) (x2_1 : Int32) (m_readRows_1 : Int32) (m_readColumns_1 : Int32) (m_read_1 : Nat → Int32) => Option.bind (if x1_1 ≤ 0 then some 0 else qgd (((6 * (m_readRows_1 - 1)) + x1_1) - 1) 36 (if (qrem (m_read_1 ((((6 * (m_readRows_1 - 1)) + x1_1) - 1)).toNatClampNeg) 2) = 1 then some 1 else some 0)) (qun1 fun (s_1 : Int32) => if x1_1 = 0 then some (nI len, m_readRows_1, m_readColumns_1, m_read_1) else if m_readRows_1 ≤ 1 then if s_1 = 0 then if x2_1 = 0 then some ((-9), m_readRows_1, x1_1, m_read_1) else some (nI len, m_readRows_1, m_readColumns_1, m_read_1) else some (nI len, m_readRows_1, m_readColumns_1, m_read_1) else if x1_1 < m_readColumns_1 then some (nI len, m_readRows_1, m_readColumns_1, m_read_1) else if s_1 = 0 then if x2_1 = 0 then some ((-9), m_readRows_1, x1_1, m_read_1) else some (nI len, m_readRows_1, m_readColumns_1, m_read_1) else some (nI len, m_readRows_1, m_readColumns_1, m_read_1))) some e' = some (v, rr, rc, rd) ∧ (v = -9 → ∃ R C, rr = nI R ∧ rc = nI C ∧ rdF tx len R C rd)) (by
    rintro n s s' hn ⟨row, col, W, ro, dw, rd, hnl, hp, rfl, rfl⟩
    have hgr := prI_gr hp
    have hp' := hp
    obtain ⟨h1, h2, h3, h4, -⟩ := hp'
    have hL := LW_lt h2
    have eGR := Mgr (rd := rd) (ro := ro) h1 (show col ≤ 6 by omega) hgr.1 hgr.2
    rw [ls_X5_firstFault_1, ls_X10_readMaze_1]
    by_cases hend : n = len
    · right
      subst hend
      rw [if_pos (nI_le (Nat.le_refl n) (by omega)), if_pos (nI_le (Nat.le_refl n) (by omega))]
      refine ⟨_, _, rfl, rfl, ?_⟩
      rw [Sum.elim_inl, Sum.elim_inl, qun4_eq, qun5_eq, Cmay ro (by omega) (by omega), eGR, qob_some, qun1_eq]
      have no : ∀ rc rd, ∃ v rr rc' rd', some (nI n) = some v ∧ some (nI n, nI (row + 1), rc, rd) = some (v, rr, rc', rd') ∧ (v = -9 → ∃ R C, rr = nI R ∧ rc' = nI C ∧ rdF tx n R C rd') := fun rc rd => ⟨_, _, rc, rd, rfl, rfl, fun w => absurd w (nI_m9 (by omega))⟩
      by_cases c0 : col = 0
      · have hm : mE col W ro = false := by unfold mE; rw [decide_eq_false (by omega)]; rfl
        rw [hm, if_pos b0f, if_pos (show nI col = 0 by rw [c0]; rfl)]
        exact no _ _
      · rw [if_neg (show ¬ nI col = 0 from nI_ne (b := 0) (by omega) (by decide) c0)]
        by_cases r0 : row = 0
        · rw [if_pos (show nI (row + 1) ≤ (1 : Int32) from nI_le (b := 1) (by omega) (by decide))]
          have hm : mE col W ro = !ro := by
            unfold mE
            rw [decide_eq_true (show 0 < col by omega), decide_eq_true (h4.mpr r0)]
            simp
          rw [hm]
          cases hro : ro with
          | true =>
            rw [if_pos (show b2i (!true) = 0 from rfl), if_neg b0t]
            exact no _ _
          | false =>
            rw [if_neg (show ¬ b2i (!false) = 0 by decide), if_pos b0f]
            cases hdw : dw with
            | true =>
              rw [if_neg b0t, if_neg b0t]
              exact no _ _
            | false =>
              rw [if_pos b0f, if_pos b0f]
              refine ⟨-9, _, _, rd, rfl, rfl, fun _ => ⟨row + 1, col, rfl, rfl, ?_⟩⟩
              rw [hdw, hro] at hp
              exact prI_end hp (by rw [hro] at hm; exact hm)
        · rw [if_neg (show ¬ nI (row + 1) ≤ (1 : Int32) from nI_ge (a := 1) (by omega) (by omega))]
          have hW0 : ¬ W = 0 := fun w => r0 (h4.mp w)
          have eL : LW W = W := if_neg hW0
          by_cases cW : col = W
          · have hm : mE col W ro = !ro := by
              unfold mE
              rw [decide_eq_true (show 0 < col by omega), decide_eq_true cW]
              simp
            rw [if_neg (show ¬ nI col < nI (LW W) from nI_nlt (by omega) (by omega)), hm]
            cases hro : ro with
            | true =>
              rw [if_pos (show b2i (!true) = 0 from rfl), if_neg b0t]
              exact no _ _
            | false =>
              rw [if_neg (show ¬ b2i (!false) = 0 by decide), if_pos b0f]
              cases hdw : dw with
              | true =>
                rw [if_neg b0t, if_neg b0t]
                exact no _ _
              | false =>
                rw [if_pos b0f, if_pos b0f]
                refine ⟨-9, _, _, rd, rfl, rfl, fun _ => ⟨row + 1, col, rfl, rfl, ?_⟩⟩
                rw [hdw, hro] at hp
                exact prI_end hp (by rw [hro] at hm; exact hm)
          · have hm : mE col W ro = false := by
              unfold mE
              rw [decide_eq_false hW0, decide_eq_false cW]
              simp
            rw [if_pos (show nI col < nI (LW W) from nI_lt (by omega) (by omega)), hm, if_pos b0f]
            exact no _ _
    · have hnlt : n < len := by omega
      obtain ⟨t1, t2, t3⟩ := ht n hnlt
      have e1 : (if nI (row + 1) = (1 : Int32) then some (1 : Int32) else some 0) = some (b2i (decide (row = 0))) := by
        by_cases r0 : row = 0
        · rw [if_pos (show nI (row + 1) = 1 by rw [r0]; rfl), decide_eq_true r0]; rfl
        · rw [if_neg (show ¬ nI (row + 1) = 1 from nI_ne (b := 1) (by omega) (by decide) (by omega)), decide_eq_false r0]; rfl
      have e2 : (if nI col = (nI (LW W) - 1 : Int32) then some (1 : Int32) else some 0) = some (b2i (decide (col + 1 = LW W))) := by
        rw [show (nI (LW W) - 1 : Int32) = nI (LW W - 1) from nI_sub (b := 1) hL.1]
        by_cases q : col + 1 = LW W
        · rw [if_pos (by rw [show col = LW W - 1 by omega]), decide_eq_true q]; rfl
        · rw [if_neg (nI_ne (by omega) (by omega) (by omega)), decide_eq_false q]; rfl
      rw [if_neg (nI_ge hnlt (by omega)), if_neg (show ¬ (41 : Int32) ≤ nI n from nI_ge (b := 41) (by omega) (by decide)), qgd_nI (show n < 41 by omega) (by decide), qgd_nI (show n < 41 by omega) (by decide), if_neg (nI_ge hnlt (by omega)), e1, qob_some, qun1_eq, eGR, qob_some, qun1_eq, qgd_nI (show n < 41 by omega) (by decide), qgd_nI (show n < 41 by omega) (by decide), nI_clamp (show n < 2 ^ 31 by omega), t2, t3, e2, qob_some, qun1_eq, Mmayf t1 h1 (by omega) h2, qob_some, qun1_eq, Mwh h1 (by omega) h2 h4, qob_some, qun1_eq, Cmay ro (by omega) (by omega)]
      rw [Cfig (n := n) dw t1 h1 (show col ≤ 6 by omega) h2]
      have hfault : ∃ e e', (some (Sum.inr (Sum.inr (nI n) : (Int32 × Int32 × Int32 × Int32) ⊕ Int32)) : Option ((Int32 × Int32 × Int32 × Int32 × Int32 × Int32) ⊕ ((Int32 × Int32 × Int32 × Int32) ⊕ Int32))) = some (Sum.inr e) ∧ (some (Sum.inr (Sum.inr (nI n, nI (row + 1), nI (LW W), rd) : (Int32 × Int32 × Int32 × Int32 × (Nat → Int32)) ⊕ (Int32 × Int32 × Int32 × (Nat → Int32)))) : Option ((Int32 × Int32 × Int32 × Int32 × Int32 × (Nat → Int32)) ⊕ ((Int32 × Int32 × Int32 × Int32 × (Nat → Int32)) ⊕ (Int32 × Int32 × Int32 × (Nat → Int32))))) = some (Sum.inr e') ∧ ∃ v rr rc rd, Sum.elim (qun4 fun (x2_1 : Int32) (x3_1 : Int32) (x4_1 : Int32) (x5_1 : Int32) => if (fX5_rowMayEnd x2_1 x3_1 x4_1) = 0 then some (nI len) else if x5_1 = 0 then some (-9) else some (nI len)) some e = some v ∧
          Sum.elim (qun5 fun (x1_1 : Int32) (x2_1 : Int32) (m_readRows_1 : Int32) (m_readColumns_1 : Int32) (m_read_1 : Nat → Int32) => Option.bind (if x1_1 ≤ 0 then some 0 else qgd (((6 * (m_readRows_1 - 1)) + x1_1) - 1) 36 (if (qrem (m_read_1 ((((6 * (m_readRows_1 - 1)) + x1_1) - 1)).toNatClampNeg) 2) = 1 then some 1 else some 0)) (qun1 fun (s_1 : Int32) => if x1_1 = 0 then some (nI len, m_readRows_1, m_readColumns_1, m_read_1) else if m_readRows_1 ≤ 1 then if s_1 = 0 then if x2_1 = 0 then some ((-9), m_readRows_1, x1_1, m_read_1) else some (nI len, m_readRows_1, m_readColumns_1, m_read_1) else some (nI len, m_readRows_1, m_readColumns_1, m_read_1) else if x1_1 < m_readColumns_1 then some (nI len, m_readRows_1, m_readColumns_1, m_read_1) else if s_1 = 0 then if x2_1 = 0 then some ((-9), m_readRows_1, x1_1, m_read_1) else some (nI len, m_readRows_1, m_readColumns_1, m_read_1) else some (nI len, m_readRows_1, m_readColumns_1, m_read_1))) some e' = some (v, rr, rc, rd) ∧ (v = -9 → ∃ R C, rr = nI R ∧ rc = nI C ∧ rdF tx len R C rd) :=
        ⟨_, _, rfl, rfl, nI n, nI (row + 1), nI (LW W), rd, rfl, rfl, fun w => absurd w (nI_m9 (by omega))⟩
      by_cases h47 : tx n = 47
      · rw [h47, if_pos (show nI 47 = (47 : Int32) from rfl), if_pos (show nI 47 = (47 : Int32) from rfl), fig47, if_neg Bool.false_ne_true]
        by_cases r5 : row < 5
        · rw [if_neg (show ¬ (5 : Int32) ≤ nI row from nI_ge (b := 5) r5 (by decide)), if_neg (show ¬ nI (row + 1) = (6 : Int32) from nI_ne (b := 6) (by omega) (by decide) (by omega))]
          cases hm : mE col W ro with
          | false =>
            right
            rw [if_pos b0f, if_pos b0f]
            exact hfault
          | true =>
            left
            have hc1 : 0 < col := by
              unfold mE at hm
              rw [Bool.and_eq_true, Bool.and_eq_true, decide_eq_true_eq] at hm
              exact hm.1.1
            rw [if_neg b0t, if_neg b0t]
            refine ⟨hnlt, _, _, rfl, rfl, row + 1, 0, col, false, false, rd, by omega, prI_slash hp h47 r5 hm, by rw [nI_1, nI_1]; rfl, ?_⟩
            rw [nI_1, nI_1, show LW col = col from if_neg (by omega)]
            rfl
        · right
          have e5 : row = 5 := by omega
          rw [if_pos (show (5 : Int32) ≤ nI row from nI_le (a := 5) (by omega) (by omega)), if_pos (show nI (row + 1) = (6 : Int32) by rw [e5]; rfl)]
          cases hm : mE col W ro with
          | false => rw [if_pos b0f]; exact hfault
          | true => rw [if_neg b0t]; exact hfault
      · have n47 : ¬ nI (tx n) = (47 : Int32) := nI_ne (b := 47) (by omega) (by decide) h47
        rw [if_neg n47, if_neg n47]
        cases hf : figOk (tx n) row col W with
        | false =>
          right
          rw [if_neg Bool.false_ne_true, if_pos b0f]
          exact hfault
        | true =>
          left
          obtain ⟨f1, f2, f3⟩ := prI_fig hp hf
          have hq : 48 ≤ tx n ∧ tx n ≤ 51 := by
            unfold figOk at hf
            rw [Bool.and_eq_true, Bool.and_eq_true, decide_eq_true_eq, decide_eq_true_eq] at hf
            exact hf.1
          have hci := c_in (tx n - 48) (by omega)
          rw [show 48 + (tx n - 48) = tx n by omega] at hci
          have ei : ((6 * (nI (row + 1) - 1)) + nI col : Int32) = nI (6 * row + col) := by
            rw [show (nI (row + 1) - 1 : Int32) = nI row from nI_sub (a := row + 1) (b := 1) (by omega), show (6 * nI row : Int32) = nI (6 * row) from nI_mul 6 row, nI_add]
          rw [if_pos rfl, if_neg b0t, ei, qgd_nI f1 (by decide)]
          simp only [qbd]
          rw [nI_clamp (show 6 * row + col < 2 ^ 31 by omega), hci.1]
          have ed : (if b2i dw = 0 then if nI (tx n - 48) ≤ (1 : Int32) then some (0 : Int32) else some 1 else some 1) = some (b2i (dw || decide (2 ≤ tx n - 48))) := by
            cases dw with
            | true => rw [if_neg b0t]; rfl
            | false =>
              rw [if_pos b0f, Bool.false_or]
              by_cases w : 2 ≤ tx n - 48
              · rw [if_neg (fun x => (hci.2.2.2.2.2.2.mp x) w), decide_eq_true w]; rfl
              · rw [if_pos (hci.2.2.2.2.2.2.mpr w), decide_eq_false w]; rfl
          rw [ed, qob_some, qun1_eq]
          exact ⟨hnlt, _, _, rfl, rfl, row, col + 1, W, _, _, _, by omega, f3, rfl, by rw [nI_1, nI_1]⟩) qFU qFU (qFU_gt (by omega)) (qFU_gt (by omega)) ((0 : Int32), (0 : Int32), (0 : Int32), (0 : Int32), (0 : Int32), (0 : Int32)) ((0 : Int32), (0 : Int32), (0 : Int32), (1 : Int32), (6 : Int32), rd0)
    ⟨0, 0, 0, false, false, rd0, Nat.zero_le _, ⟨by decide, by decide, Nat.zero_le _, Iff.rfl, fun _ => rfl, fun q => absurd q (Nat.lt_irrefl 0), 0, fun q => absurd q (Nat.lt_irrefl 0), rfl, ⟨fun r c q => by omega, fun r q => absurd q (Nat.not_lt_zero r)⟩, fun _ c q => absurd q (Nat.not_lt_zero c)⟩, rfl, rfl⟩
  refine ⟨v, rr, rc, rd, ?_, ?_, g5⟩
  · rw [le_X5_firstFault, g1, qob_some]
    exact g3
  · rw [le_X10_readMaze, g2, qob_some]
    exact g4
set_option maxRecDepth 20000 in
theorem st_fault {sc_length : Int32} {sc_bytes : Nat → Int32} {g_rows : Int32} {g_columns : Int32} {g_a : Int32} {g_b : Int32} {g_cells : Int64} {g_right : Int64} {g_down : Int64} {m_textSize : Int32} {m_text : Nat → Int32} {m_rows : Int32} {m_columns : Int32} {m_a : Int32} {m_b : Int32} {m_right : Nat → Int32} {m_down : Nat → Int32} {m_shut : Nat → Int32} {m_keptFigures : Nat → Int32} {m_keptNumbers : Nat → Int32} {m_isKept : Nat → Int32} {m_thrown : Int32} {m_readRows : Int32} {m_readColumns : Int32} {m_read : Nat → Int32} {sl_f : Nat → Option Nat} {k0 k1 : Option (Nat × KG)}  (h : Rel sc_length sc_bytes (g_rows, g_columns, g_a, g_b, g_cells, g_right, g_down) sl_f k0 k1 m_textSize m_text m_rows m_columns m_a m_b m_right m_down m_shut m_keptFigures m_keptNumbers m_isKept) : ∃ (r : Int32) (m_thrown' : Int32) (m_readRows' : Int32) (m_readColumns' : Int32) (m_read' : Nat → Int32), fX9_fault sc_length sc_bytes = some r ∧ fX10_fault m_thrown m_textSize m_readRows m_readColumns m_text m_read = some (r, m_thrown', m_readRows', m_readColumns', m_read') ∧ Rel sc_length sc_bytes (g_rows, g_columns, g_a, g_b, g_cells, g_right, g_down) sl_f k0 k1 m_textSize m_text m_rows m_columns m_a m_b m_right m_down m_shut m_keptFigures m_keptNumbers m_isKept := by
  obtain ⟨R, C, rt, dn, a, b, n, tx, z0, z1, hz, ha, hb, rfl, rfl, rfl, rfl, rfl, hr, hd, rfl, rfl, rfl, rfl, hm, ht, hsh, h0, h1, e0, e1⟩ := id h.un
  obtain ⟨t1, rfl, rfl, t4⟩ := id ht
  obtain ⟨v, rr, rc, rd, g1, g2, -⟩ := read_both t1 t4 m_readRows m_readColumns m_read
  unfold fX9_fault fX10_fault
  rw [g1, g2, qob_some, qob_some]
  exact ⟨_, _, _, _, _, rfl, rfl, h⟩

/-! the members of a part, in their order -/
theorem Qex (S : Nat → Bool) (m : Nat) : ∃ Q : Nat → Nat, (∀ k, k < cn S m → Q k < m ∧ S (Q k) = true ∧ cn S (Q k) = k) ∧ (∀ k l, k < cn S m → l < cn S m → Q k = Q l → k = l) ∧ (∀ c, c < m → S c = true → cn S c < cn S m ∧ Q (cn S c) = c) := by
  have H : ∀ k, k < cn S m → ∃ s, s < m ∧ S s = true ∧ cn S s = k := fun k hk => cn_pick m hk
  obtain ⟨Q, h1⟩ : ∃ Q : Nat → Nat, ∀ k, k < cn S m → Q k < m ∧ S (Q k) = true ∧ cn S (Q k) = k := ⟨fun k => if h : k < cn S m then Classical.choose (H k h) else 0, fun k hk => by
    dsimp only
    rw [dif_pos hk]
    exact Classical.choose_spec (H k hk)⟩
  refine ⟨Q, h1, fun k l hk hl e => ?_, fun c hc hS => ?_⟩
  · have a := (h1 k hk).2.2
    have b := (h1 l hl).2.2
    rw [e, b] at a
    exact a.symm
  · have hlt := cn_step hS hc
    refine ⟨hlt, ?_⟩
    obtain ⟨a1, a2, a3⟩ := h1 _ hlt
    rcases Nat.lt_trichotomy (Q (cn S c)) c with w | w | w
    · have := cn_step a2 w; omega
    · exact w
    · have := cn_step hS w; omega
theorem upd_s (f : Nat → Int32) (k : Nat) (v : Int32) : upd f k v k = v := if_pos rfl
theorem upd_n {f : Nat → Int32} {k j : Nat} {v : Int32} (h : j ≠ k) : upd f k v j = f j := if_neg h
theorem cn_s (S : Nat → Bool) (n : Nat) : cn S (n + 1) = cn S n + (S n).toNat := rfl
set_option maxRecDepth 20000 in
theorem Clist {x : Int64} {S : Nat → Bool} (hx : bs x S) (hS : cn S 36 ≤ 16) (c : Int32) (od : Nat → Int32) : ∃ od', fX6_list c od x = some (nI (cn S 36), od') ∧ ∀ t, t < 36 → S t = true → od' (cn S t) = nI (pl t) := by
  obtain ⟨e, g1, od', rfl, g2⟩ := qlp_pl (f := lb_X6_list_1 x) (fun k j st => ∃ od', st = (nI k, nI (cn S j), od') ∧ ∀ t, t < j → S t = true → od' (cn S t) = nI (pl t)) (fun e => ∃ od', e = (nI (cn S 36), od') ∧ ∀ t, t < 36 → S t = true → od' (cn S t) = nI (pl t))
    (by
      rintro j st hj ⟨od', rfl, a⟩
      have hle := cn_mn (P := S) (s := j) 36 (by omega)
      rw [ls_X6_list_1, if_neg (n48 (pl_lt hj)), bs_has hx hj, cn_s]
      cases hs : S j with
      | false =>
        rw [if_pos b0f, nI_1]
        refine ⟨_, rfl, od', rfl, fun t ht h => ?_⟩
        by_cases e : t = j
        · rw [e, hs] at h; cases h
        · exact a t (by omega) h
      | true =>
        have hlt := cn_step hs hj
        rw [if_neg b0t]
        unfold fX6_add
        rw [if_neg (show ¬ (16 : Int32) ≤ nI (cn S j) from nI_ge (b := 16) (by omega) (by decide)), qgd_nI (show cn S j < 16 by omega) (by decide), qob_some, qun2_eq, nI_1, nI_1, nI_clamp (by omega)]
        refine ⟨_, rfl, _, rfl, fun t ht h => ?_⟩
        by_cases e : t = j
        · rw [e, upd_s]
        · have := cn_step h (show t < j by omega)
          rw [upd_n (by omega)]
          exact a t (by omega) h)
    (by
      rintro k j st hk hm ⟨od', rfl, a⟩
      rw [ls_X6_list_1, if_neg (n48 hk), has_in x hk, bs_not hx (fun w => hm w.1), if_pos b0f, nI_1]
      exact ⟨_, rfl, od', rfl, a⟩)
    (by
      rintro st ⟨od', rfl, a⟩
      rw [ls_X6_list_1, if_pos (y48 (Nat.le_refl 48) (by decide))]
      exact ⟨_, rfl, od', rfl, a⟩) ((0 : Int32), (0 : Int32), od) ⟨od, rfl, fun t ht => absurd ht (Nat.not_lt_zero t)⟩
  exact ⟨od', by rw [le_X6_list, g1, qob_some], g2⟩
set_option maxRecDepth 20000 in
theorem Mmem {R C : Nat} {rt dn : Nat → Bool} {mr md ms : Nat → Int32} (hz : Mz R C rt dn) (hm : ∀ i, i < 36 → mr i = b2i (rt i) ∧ md i = b2i (dn i)) (hsh : ∀ i, i < 36 → ms i = 0) {z : Nat} (cz : isC R C z) {S : Nat → Bool} {p2 : Int32} (hS : ∀ t, t < 36 → S t = (cnn rt dn z t && !decide (nI t = p2))) (di qu pa mb pc : Nat → Int32) :
    ∃ di' qu' pa' mb' pc', fX10_layMembers (nI R) (nI C) mr md di qu ms pa mb pc (nI z) p2 = some (nI (cn S 36), di', qu', pa', mb', pc') ∧ (∀ t, t < 36 → S t = true → mb' (cn S t) = nI t) ∧ (∀ t, t < 36 → pc' t = if S t then nI (cn S t) else -9) ∧ ∀ t, t < 36 → (pa' t = pa' z ↔ cnn rt dn z t = true) := by
  obtain ⟨di', qu', pa', m1, m2⟩ := Mparts hz hm hsh di qu pa
  have z36 := isC_lt hz cz
  have hp : ∀ t, t < 36 → (pa' t = pa' z ↔ cnn rt dn z t = true) := fun t ht => by rw [m2 t ht, m2 z z36]; exact part_eq hz cz ht
  obtain ⟨e, g1, mb', pc', rfl, g2, g3⟩ := qlp_idx (f := lb_X10_layMembers_1 (nI z) p2 pa') (fun k st => ∃ mb' pc', st = (nI (cn S k), nI k, mb', pc') ∧ (∀ t, t < k → S t = true → mb' (cn S t) = nI t) ∧ (∀ t, t < k → pc' t = if S t then nI (cn S t) else -9)) 36 (fun e => ∃ mb' pc', e = (nI (cn S 36), mb', pc') ∧ (∀ t, t < 36 → S t = true → mb' (cn S t) = nI t) ∧ (∀ t, t < 36 → pc' t = if S t then nI (cn S t) else -9)) (by
    rintro k st hk ⟨mb', pc', rfl, a1, a2⟩
    rw [ls_X10_layMembers_1]
    by_cases q1 : k = 36
    · right
      subst q1
      exact ⟨_, by rw [if_pos (y36 (Nat.le_refl 36) (by decide))], mb', pc', rfl, a1, a2⟩
    · left
      have h36 : k < 36 := by omega
      refine ⟨h36, ?_⟩
      have hle := cn_mn (P := S) (s := k) 36 (by omega)
      have hc := cn_le S k
      rw [if_neg (n36 h36), qgd_nI h36 (by decide), qgd_nI h36 (by decide), nI_clamp (show k < 2 ^ 31 by omega), nI_clamp (show z < 2 ^ 31 by omega), nI_clamp (show cn S k < 2 ^ 31 by omega), qgd_nI (show cn S k < 36 by omega) (by decide), qgd_nI h36 (by decide), nI_1, nI_1, cn_s]
      have key : S k = false → ∃ mb2 pc2, (nI (cn S k), nI (k + 1), mb', upd pc' k (-9)) = (nI (cn S k + (S k).toNat), nI (k + 1), mb2, pc2) ∧ (∀ t, t < k + 1 → S t = true → mb2 (cn S t) = nI t) ∧ (∀ t, t < k + 1 → pc2 t = if S t then nI (cn S t) else -9) := fun hs => by
        refine ⟨mb', upd pc' k (-9), by rw [hs]; rfl, fun t ht h => ?_, fun t ht => ?_⟩
        · by_cases e : t = k
          · rw [e, hs] at h; cases h
          · exact a1 t (by omega) h
        · by_cases e : t = k
          · rw [e, upd_s, hs, if_neg Bool.false_ne_true]
          · rw [upd_n e]
            exact a2 t (by omega)
      have hSk := hS k h36
      by_cases w : pa' k = pa' z
      · rw [if_pos w]
        rw [(hp k h36).mp w, Bool.true_and] at hSk
        by_cases v : nI k = p2
        · rw [if_pos v]
          rw [decide_eq_true v] at hSk
          exact ⟨_, rfl, key hSk⟩
        · rw [if_neg v]
          rw [decide_eq_false v, Bool.not_false] at hSk
          rw [qbd_e, hSk]
          refine ⟨_, rfl, _, _, rfl, fun t ht h => ?_, fun t ht => ?_⟩
          · by_cases e : t = k
            · rw [e, upd_s]
            · have := cn_step h (show t < k by omega)
              rw [upd_n (by omega)]
              exact a1 t (by omega) h
          · by_cases e : t = k
            · rw [e, upd_s, hSk, if_pos rfl]
            · rw [upd_n e, upd_n e]
              exact a2 t (by omega)
      · rw [if_neg w]
        have : cnn rt dn z k = false := by
          cases q : cnn rt dn z k with
          | false => rfl
          | true => exact absurd ((hp k h36).mpr q) w
        rw [this, Bool.false_and] at hSk
        exact ⟨_, rfl, key hSk⟩) qFU (qFU_gt (by omega)) ((0 : Int32), (0 : Int32), mb, pc) ⟨mb, pc, rfl, fun t ht => absurd ht (Nat.not_lt_zero t), fun t ht => absurd ht (Nat.not_lt_zero t)⟩
  exact ⟨di', qu', pa', mb', pc', by rw [le_X10_layMembers, m1, qob_some, qun4_eq, qgd_nI z36 (by decide), g1, qob_some], g2, g3, hp⟩

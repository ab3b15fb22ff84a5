/-! the equations are laid: by the class, by the reference -/
theorem nI64 {a : Nat} (h : a < 2 ^ 31) : (nI a).toInt64.toInt = (a : Int) := (Int32.toInt_toInt64 _).trans (nI_toInt h)
theorem nbr31 (rt dn : Nat → Bool) (j : Nat) : nbr rt dn j < 2 ^ 31 := by have := nbr_le rt dn j; omega
theorem z64 : (0 : Int64).toInt = 0 := rfl
theorem LA_n (rt dn : Nat → Bool) (Q : Nat → Nat) (n i : Nat) : LA rt dn Q n i n = (nbr rt dn (Q i) : Int) := if_pos rfl
theorem LA_d (rt dn : Nat → Bool) (Q : Nat → Nat) {n i : Nat} (h : i < n) : LA rt dn Q n i i = (nbr rt dn (Q i) : Int) := by
  unfold LA
  rw [if_neg (by omega), if_pos rfl]
theorem LA_o (rt dn : Nat → Bool) (Q : Nat → Nat) {n i j : Nat} (h : j < n) (hij : i ≠ j) : LA rt dn Q n i j = if adB rt dn (Q i) (Q j) then -1 else 0 := by
  unfold LA
  rw [if_neg (by omega), if_neg hij]
theorem nb_adB {R C : Nat} {rt dn : Nat → Bool} (hz : Mz R C rt dn) {a c : Nat} (ha : a < 36) (h : c ≠ a) : nearS rt dn (fun i => decide (i = a)) c = adB rt dn a c := by
  have := nb_near (O := fun _ => true) (t := c) hz ha
  rw [decide_eq_false h, Bool.not_false, Bool.and_true, Bool.and_true] at this
  exact this
set_option maxRecDepth 20000 in
theorem Cfil2 {R C : Nat} {rt dn : Nat → Bool} (hz : Mz R C rt dn) {n i : Nat} {Q : Nat → Nat} (hn : n ≤ 15) (hi : i < n) (hQ : ∀ k, k < n → isC R C (Q k)) (hinj : ∀ k l, k < n → l < n → Q k = Q l → k = l) {od : Nat → Int32} (ho : ∀ k, k < n → od k = nI (pl (Q k))) {x : Int64} (hx : bs x (nearS rt dn (fun t => decide (t = Q i)))) (T : Nat → Nat → Int64) :
    ∃ T', qlp qFU (lb_X6_fillTable_2 (nI n) od (nI i) x) ((0 : Int32), T) = some T' ∧ (∀ a, a ≠ i → T' a = T a) ∧ ∀ j, j < n → j ≠ i → (T' i j).toInt = LA rt dn Q n i j := by
  obtain ⟨e, g1, g2, g3⟩ := qlp_idx (f := lb_X6_fillTable_2 (nI n) od (nI i) x) (fun t st => ∃ T', st = (nI t, T') ∧ (∀ a, a ≠ i → T' a = T a) ∧ ∀ j, j < t → j ≠ i → (T' i j).toInt = LA rt dn Q n i j) n (fun e => (∀ a, a ≠ i → e a = T a) ∧ ∀ j, j < n → j ≠ i → (e i j).toInt = LA rt dn Q n i j) (by
    rintro t st ht ⟨T', rfl, a1, a2⟩
    rw [ls_X6_fillTable_2]
    by_cases q1 : t = n
    · right
      subst q1
      exact ⟨T', by rw [if_pos (nI_le (Nat.le_refl _) (by omega))], a1, a2⟩
    · left
      refine ⟨by omega, ?_⟩
      have e36 := isC_lt hz (hQ t (by omega))
      rw [if_neg (nI_ge (by omega) (by omega)), if_neg (show ¬ (16 : Int32) ≤ nI t from nI_ge (b := 16) (by omega) (by decide)), qgd_nI (show i < 16 by omega) (by decide), qgd_nI (show t < 16 by omega) (by decide), qgd_nI (show t < 17 by omega) (by decide), qgd_nI (show t < 17 by omega) (by decide), nI_clamp (show i < 2 ^ 31 by omega), nI_clamp (show t < 2 ^ 31 by omega), ho t (by omega), bs_has hx e36]
      simp only [qbd]
      have key : ∀ v : Int64, (t ≠ i → v.toInt = LA rt dn Q n i t) → ∃ T2, (nI t + 1, updT T' i t v) = (nI (t + 1), T2) ∧ (∀ a, a ≠ i → T2 a = T a) ∧ ∀ j, j < t + 1 → j ≠ i → (T2 i j).toInt = LA rt dn Q n i j := fun v hv => ⟨updT T' i t v, by rw [nI_1], fun a ha => by rw [updT_n _ _ _ ha]; exact a1 a ha, fun j h1 h2 => by
        rw [updT_s]
        by_cases e : j = t
        · subst e
          rw [updL_s]
          exact hv h2
        · rw [updL_n e]
          exact a2 j (by omega) h2⟩
      have hne : t ≠ i → Q t ≠ Q i := fun h w => h (hinj t i (by omega) hi w)
      cases hb : nearS rt dn (fun t => decide (t = Q i)) (Q t) with
      | false =>
        rw [if_pos b0f]
        exact ⟨_, rfl, key 0 (fun h => by
          rw [LA_o rt dn Q (by omega) (fun w => h w.symm), ← nb_adB hz (isC_lt hz (hQ i hi)) (hne h), hb]
          rfl)⟩
      | true =>
        rw [if_neg b0t]
        exact ⟨_, rfl, key (-1) (fun h => by
          rw [LA_o rt dn Q (by omega) (fun w => h w.symm), ← nb_adB hz (isC_lt hz (hQ i hi)) (hne h), hb]
          rfl)⟩) qFU (qFU_gt (by omega)) ((0 : Int32), T) ⟨T, rfl, fun _ _ => rfl, fun j h => absurd h (Nat.not_lt_zero j)⟩
  exact ⟨e, g1, g2, g3⟩
set_option maxRecDepth 20000 in
theorem Cfill {R C : Nat} {rt dn : Nat → Bool} {r d : Int64} (hz : Mz R C rt dn) (hr : bs r rt) (hd : bs d dn) {n : Nat} {Q : Nat → Nat} (hn : n ≤ 15) (hQ : ∀ k, k < n → isC R C (Q k)) (hinj : ∀ k l, k < n → l < n → Q k = Q l → k = l) {od : Nat → Int32} (ho : ∀ k, k < n → od k = nI (pl (Q k))) (T : Nat → Nat → Int64) :
    ∃ T', fX6_fillTable (nI n) od r d T = some T' ∧ ∀ i j, i < n → j ≤ n → (T' i j).toInt = LA rt dn Q n i j := by
  obtain ⟨e, g1, g2⟩ := qlp_idx (f := lb_X6_fillTable_1 (nI n) od r d) (fun i st => ∃ T', st = (nI i, T') ∧ ∀ a j, a < i → a < n → j ≤ n → (T' a j).toInt = LA rt dn Q n a j) n (fun e => ∀ i j, i < n → j ≤ n → (e i j).toInt = LA rt dn Q n i j) (by
    rintro i st hi ⟨T', rfl, a1⟩
    rw [ls_X6_fillTable_1]
    by_cases q1 : i = n
    · right
      subst q1
      exact ⟨T', by rw [if_pos (nI_le (Nat.le_refl _) (by omega))], fun a j h1 h2 => a1 a j h1 h1 h2⟩
    · left
      have hin : i < n := by omega
      obtain ⟨T2, b1, b2, b3⟩ := Cfil2 (i := i) hz hn hin hQ hinj ho (bs_near hz hr hd (bs_bit (isC_lt hz (hQ i hin)))) T'
      refine ⟨hin, ?_⟩
      rw [if_neg (nI_ge (by omega) (by omega)), if_neg (show ¬ (16 : Int32) ≤ nI i from nI_ge (b := 16) (by omega) (by decide)), qgd_nI (show i < 16 by omega) (by decide), nI_clamp (show i < 2 ^ 31 by omega), nI_clamp (show n < 2 ^ 31 by omega), ho i hin]
      simp only [qbd]
      rw [b1, qob_some, qun1_eq, qgd_nI (show i < 16 by omega) (by decide), qgd_nI (show i < 16 by omega) (by decide), qgd_nI (show i < 17 by omega) (by decide), qgd_nI (show i < 16 by omega) (by decide), qgd_nI (show i < 16 by omega) (by decide), qgd_nI (show i < 17 by omega) (by decide), qgd_nI (show n < 17 by omega) (by decide), Cneighbours hz hr hd (hQ i hin), nI_1]
      refine ⟨_, rfl, _, rfl, fun a j h1 h2 h3 => ?_⟩
      by_cases e : a = i
      · subst e
        rw [updT_s, updT_s, updL_s]
        by_cases e2 : j = n
        · subst e2
          rw [updL_s, LA_n, nI64 (nbr31 _ _ _)]
        · rw [updL_n e2]
          by_cases e3 : j = a
          · subst e3
            rw [updL_s, LA_d rt dn Q hin, nI64 (nbr31 _ _ _)]
          · rw [updL_n e3]
            exact b3 j (by omega) e3
      · rw [updT_n _ _ _ e, updT_n _ _ _ e, b2 a e]
        exact a1 a j (by omega) h2 h3) qFU (qFU_gt (by omega)) ((0 : Int32), T) ⟨T, rfl, fun a j h => absurd h (Nat.not_lt_zero a)⟩
  exact ⟨e, by rw [le_X6_fillTable, g1, qob_some], g2⟩
theorem Mzero (T : Nat → Int64) : ∃ T', qlp qFU lb_X10_layMatrix_1 ((0 : Int32), T) = some T' ∧ ∀ k, k < 256 → T' k = 0 := by
  obtain ⟨e, g1, g2⟩ := qlp_idx (f := lb_X10_layMatrix_1) (fun t st => ∃ T', st = (nI t, T') ∧ ∀ k, k < t → T' k = 0) 256 (fun e => ∀ k, k < 256 → e k = 0) (by
    rintro t st ht ⟨T', rfl, a1⟩
    rw [ls_X10_layMatrix_1]
    by_cases q1 : t = 256
    · right
      subst q1
      exact ⟨T', by rw [if_pos (show (256 : Int32) ≤ nI 256 from nI_le (a := 256) (Nat.le_refl _) (by omega))], a1⟩
    · left
      refine ⟨by omega, ?_⟩
      rw [if_neg (show ¬ (256 : Int32) ≤ nI t from nI_ge (b := 256) (by omega) (by decide)), qgd_nI (show t < 256 by omega) (by decide), nI_clamp (by omega), nI_1]
      exact ⟨_, rfl, _, rfl, fun k hk => by
        by_cases e : k = t
        · subst e; rw [updL_s]
        · rw [updL_n e]; exact a1 k (by omega)⟩) qFU (qFU_gt (by omega)) ((0 : Int32), T) ⟨T, rfl, fun k h => absurd h (Nat.not_lt_zero k)⟩
  exact ⟨e, g1, g2⟩
theorem nbS_s {rt dn : Nat → Bool} {a s : Nat} (h : opS rt dn a s = true) : nbS rt dn (fun _ => true) a (s + 1) = upB (nbS rt dn (fun _ => true) a s) (mvN a s) true := by
  show (if opS rt dn a s && true then upB (nbS rt dn (fun _ => true) a s) (mvN a s) true else nbS rt dn (fun _ => true) a s) = _
  rw [h, Bool.and_true, if_pos rfl]
theorem nbS_n {rt dn : Nat → Bool} {a s : Nat} (h : opS rt dn a s = false) : nbS rt dn (fun _ => true) a (s + 1) = nbS rt dn (fun _ => true) a s := by
  show (if opS rt dn a s && true then upB (nbS rt dn (fun _ => true) a s) (mvN a s) true else nbS rt dn (fun _ => true) a s) = _
  rw [h, Bool.and_true, if_neg Bool.false_ne_true]
theorem nbS_new {R C : Nat} {rt dn : Nat → Bool} (hz : Mz R C rt dn) {a s : Nat} (hs : s < 4) (h : opS rt dn a s = true) : nbS rt dn (fun _ => true) a s (mvN a s) = false := by
  cases w : nbS rt dn (fun _ => true) a s (mvN a s) with
  | false => rfl
  | true =>
    obtain ⟨s', hs', w1, w2, w3⟩ := (nbS_iff s).mp w
    have := mv_inj (by omega) (by omega) (op_rim hz (by omega) h) (op_rim hz (by omega) w1) w3
    omega
set_option maxRecDepth 20000 in
theorem Mlay3 {R C : Nat} {rt dn : Nat → Bool} {mr md : Nat → Int32} (hz : Mz R C rt dn) (hm : ∀ i, i < 36 → mr i = b2i (rt i) ∧ md i = b2i (dn i)) {n k : Nat} {Q : Nat → Nat} (hn : n ≤ 15) (hk : k < n) (hQ : ∀ k, k < n → isC R C (Q k)) (hinj : ∀ k l, k < n → l < n → Q k = Q l → k = l) {mb pc : Nat → Int32} (hmb : ∀ k, k < n → mb k = nI (Q k)) (hpc : ∀ c, isC R C c → (∃ j, j < n ∧ Q j = c ∧ pc c = nI j) ∨ ((∀ j, j < n → Q j ≠ c) ∧ pc c = -9)) {T : Nat → Int64} (h0 : ∀ j, j < n → (T (16 * k + j)).toInt = if j = k then (nbr rt dn (Q k) : Int) else 0) :
    ∃ T', qlp qFU (lb_X10_layMatrix_3 (nI R) (nI C) mr md mb pc (nI k)) ((0 : Int32), T) = some T' ∧ (∀ x, (∀ j, j < n → x ≠ 16 * k + j) → T' x = T x) ∧ ∀ j, j < n → (T' (16 * k + j)).toInt = LA rt dn Q n k j := by
  have ck := hQ k hk
  have kk : ∀ s, s ≤ 4 → nbS rt dn (fun _ => true) (Q k) s (Q k) = false := fun s hs => by
    cases w : nbS rt dn (fun _ => true) (Q k) s (Q k) with
    | false => rfl
    | true =>
      obtain ⟨s', hs', w1, w2, w3⟩ := (nbS_iff s).mp w
      exact absurd w3.symm (mv_ne (by omega) (op_rim hz (by omega) w1))
  obtain ⟨e, g1, g2, g3⟩ := qlp_idx (f := lb_X10_layMatrix_3 (nI R) (nI C) mr md mb pc (nI k)) (fun s st => ∃ T', st = (nI s, T') ∧ (∀ x, (∀ j, j < n → x ≠ 16 * k + j) → T' x = T x) ∧ ∀ j, j < n → (T' (16 * k + j)).toInt = if j = k then (nbr rt dn (Q k) : Int) else if nbS rt dn (fun _ => true) (Q k) s (Q j) then -1 else 0) 4 (fun e => (∀ x, (∀ j, j < n → x ≠ 16 * k + j) → e x = T x) ∧ ∀ j, j < n → (e (16 * k + j)).toInt = LA rt dn Q n k j) (by
    rintro s st hs ⟨T', rfl, a1, a2⟩
    rw [ls_X10_layMatrix_3]
    by_cases q1 : s = 4
    · right
      subst q1
      refine ⟨T', by rw [if_pos (y4 (Nat.le_refl 4) (by decide))], a1, fun j hj => ?_⟩
      rw [a2 j hj]
      by_cases e : j = k
      · subst e
        rw [if_pos rfl, LA_d rt dn Q hj]
      · rw [if_neg e, LA_o rt dn Q hj (fun w => e w.symm)]
        rfl
    · left
      have hs4 : s < 4 := by omega
      refine ⟨hs4, ?_⟩
      rw [if_neg (n4 hs4), nI_clamp (show k < 2 ^ 31 by omega), hmb k hk, Mopen hz hm ck hs4, qob_some, qun1_eq]
      cases ho : opS rt dn (Q k) s with
      | false =>
        rw [if_pos b0f, qob_some, qun1_eq, if_pos rfl, nI_1]
        exact ⟨_, rfl, T', rfl, a1, fun j hj => by rw [nbS_n ho]; exact a2 j hj⟩
      | true =>
        obtain ⟨cm, m36⟩ := op_isC hz ck hs4 ho
        rw [if_neg b0t, Mbeside R (by have := hz.1; omega) C (by have := hz.2.1; omega) (Q k) (isC_lt hz ck) s hs4 ck, if_pos (op_rim hz hs4 ho), qgd_nI m36 (by decide), nI_clamp (by omega), qob_some, qun1_eq, nbS_s ho]
        rcases hpc (mvN (Q k) s) cm with ⟨j, hj, ej, w⟩ | ⟨hno, w⟩
        · rw [w, if_neg (nI_m9 (by omega)), i16, qgd_nI (show 16 * k + j < 256 by omega) (by decide), qgd_nI (show 16 * k + j < 256 by omega) (by decide), nI_clamp (by omega), nI_1]
          simp only [qbd]
          have hjk : j ≠ k := fun q => mv_ne hs4 (op_rim hz hs4 ho) (by rw [← ej, q])
          refine ⟨_, rfl, _, rfl, fun x hx => ?_, fun j' hj' => ?_⟩
          · rw [updL_n (hx j hj)]
            exact a1 x hx
          · unfold upB
            by_cases e : j' = j
            · subst e
              rw [updL_s, if_neg hjk, if_pos ej, if_pos rfl]
              have := a2 j' hj'
              rw [if_neg hjk, ej, nbS_new hz hs4 ho, if_neg Bool.false_ne_true] at this
              rw [Int64.toInt_sub, this]
              rfl
            · rw [updL_n (by omega), if_neg (show ¬ Q j' = mvN (Q k) s from fun q => e (hinj j' j hj' hj (q.trans ej.symm)))]
              exact a2 j' hj'
        · rw [w, if_pos rfl, nI_1]
          refine ⟨_, rfl, T', rfl, a1, fun j hj => ?_⟩
          unfold upB
          rw [if_neg (hno j hj)]
          exact a2 j hj) qFU (qFU_gt (by omega)) ((0 : Int32), T) ⟨T, rfl, fun _ _ => rfl, fun j hj => by rw [h0 j hj]; rfl⟩
  exact ⟨e, g1, g2, g3⟩
theorem Mlay2v {rt dn : Nat → Bool} {n k : Nat} {Q : Nat → Nat} (hn : n ≤ 15) (hk : k < n) {T' : Nat → Int64} {v : Int64} (hv : v.toInt = (nbr rt dn (Q k) : Int)) (a1 : ∀ x, 16 * k ≤ x → x < 256 → T' x = 0) (j : Nat) (hj : j < n) : (vp_updL (vp_updL T' (16 * k + k) v) (16 * k + n) v (16 * k + j)).toInt = if j = k then (nbr rt dn (Q k) : Int) else 0 := by
  rw [updL_n (by omega)]
  by_cases e : j = k
  · subst e
    rw [updL_s, if_pos rfl, hv]
  · rw [updL_n (by omega), if_neg e, a1 _ (by omega) (by omega), z64]
theorem qbd_e {α β : Type} (a : α) (f : α → Option β) : qbd a f = f a := rfl
set_option maxRecDepth 20000 in
theorem Mlay2e {R C : Nat} {rt dn : Nat → Bool} {mr md : Nat → Int32} (hz : Mz R C rt dn) (hm : ∀ i, i < 36 → mr i = b2i (rt i) ∧ md i = b2i (dn i)) {n k : Nat} {Q : Nat → Nat} (hn : n ≤ 15) (hk : k < n) (hQ : ∀ k, k < n → isC R C (Q k)) {mb pc : Nat → Int32} (hmb : ∀ k, k < n → mb k = nI (Q k)) {T' T2 : Nat → Int64} (b1 : qlp qFU (lb_X10_layMatrix_3 (nI R) (nI C) mr md mb pc (nI k)) ((0 : Int32), vp_updL (vp_updL T' (16 * k + k) (nI (nbr rt dn (Q k))).toInt64) (16 * k + n) (nI (nbr rt dn (Q k))).toInt64) = some T2) :
    lb_X10_layMatrix_2 (nI R) (nI C) mr md mb pc (nI n) (nI k, T') = some (Sum.inl (nI (k + 1), T2)) := by
  rw [ls_X10_layMatrix_2, if_neg (nI_ge hk (by omega)), qgd_nI (show k < 36 by omega) (by decide), nI_clamp (show k < 2 ^ 31 by omega), hmb k hk, Mneighbours hz hm (hQ k hk), qob_some, qun1_eq, i16, qgd_nI (show 16 * k + k < 256 by omega) (by decide), i16 k n, nI_clamp (show 16 * k + k < 2 ^ 31 by omega), nI_clamp (show 16 * k + n < 2 ^ 31 by omega)]
  rw [qbd_e, qob_some, qun1_eq, qgd_nI (show 16 * k + n < 256 by omega) (by decide), qbd_e, b1, qob_some, qun1_eq, nI_1]
theorem Mlay2n {rt dn : Nat → Bool} {n k : Nat} {Q : Nat → Nat} (hn : n ≤ 15) (hk : k < n) {T' T2 : Nat → Int64} {v : Int64} (hv : v.toInt = (nbr rt dn (Q k) : Int)) (a1 : ∀ x, 16 * k ≤ x → x < 256 → T' x = 0) (a2 : ∀ i j, i < k → i < n → j ≤ n → (T' (16 * i + j)).toInt = LA rt dn Q n i j) (b2 : ∀ x, (∀ j, j < n → x ≠ 16 * k + j) → T2 x = vp_updL (vp_updL T' (16 * k + k) v) (16 * k + n) v x) (b3 : ∀ j, j < n → (T2 (16 * k + j)).toInt = LA rt dn Q n k j) : (∀ x, 16 * (k + 1) ≤ x → x < 256 → T2 x = 0) ∧ ∀ i j, i < k + 1 → i < n → j ≤ n → (T2 (16 * i + j)).toInt = LA rt dn Q n i j := by
  refine ⟨fun x h1 h2 => ?_, fun i j h1 h2 h3 => ?_⟩
  · rw [b2 x (fun j hj => by omega), updL_n (by omega), updL_n (by omega)]
    exact a1 x (by omega) h2
  · by_cases e : i = k
    · subst e
      by_cases e2 : j = n
      · subst e2
        rw [b2 _ (fun j' hj' => by omega), updL_s, LA_n, hv]
      · exact b3 j (by omega)
    · rw [b2 _ (fun j' hj' => by omega), updL_n (by omega), updL_n (by omega)]
      exact a2 i j (by omega) h2 h3
set_option maxRecDepth 20000 in
theorem MlayM {R C : Nat} {rt dn : Nat → Bool} {mr md : Nat → Int32} (hz : Mz R C rt dn) (hm : ∀ i, i < 36 → mr i = b2i (rt i) ∧ md i = b2i (dn i)) {n : Nat} {Q : Nat → Nat} (hn : n ≤ 15) (hQ : ∀ k, k < n → isC R C (Q k)) (hinj : ∀ k l, k < n → l < n → Q k = Q l → k = l) {mb pc : Nat → Int32} (hmb : ∀ k, k < n → mb k = nI (Q k)) (hpc : ∀ c, isC R C c → (∃ j, j < n ∧ Q j = c ∧ pc c = nI j) ∨ ((∀ j, j < n → Q j ≠ c) ∧ pc c = -9)) (T : Nat → Int64) :
    ∃ T', fX10_layMatrix (nI R) (nI C) mr md T mb pc (nI n) = some T' ∧ ∀ i j, i < n → j ≤ n → (T' (16 * i + j)).toInt = LA rt dn Q n i j := by
  obtain ⟨T0, z1, z2⟩ := Mzero T
  obtain ⟨e, g1, g2⟩ := qlp_idx (f := lb_X10_layMatrix_2 (nI R) (nI C) mr md mb pc (nI n)) (fun k st => ∃ T', st = (nI k, T') ∧ (∀ x, 16 * k ≤ x → x < 256 → T' x = 0) ∧ ∀ i j, i < k → i < n → j ≤ n → (T' (16 * i + j)).toInt = LA rt dn Q n i j) n (fun e => ∀ i j, i < n → j ≤ n → (e (16 * i + j)).toInt = LA rt dn Q n i j) (by
    rintro k st hk ⟨T', rfl, a1, a2⟩
    by_cases q1 : k = n
    · right
      subst q1
      exact ⟨T', by rw [ls_X10_layMatrix_2, if_pos (nI_le (Nat.le_refl _) (by omega))], fun i j h1 h2 => a2 i j h1 h1 h2⟩
    · left
      have hkn : k < n := by omega
      obtain ⟨T2, b1, b2, b3⟩ := Mlay3 (k := k) hz hm hn hkn hQ hinj hmb hpc (Mlay2v hn hkn (nI64 (nbr31 rt dn (Q k))) a1)
      exact ⟨hkn, _, Mlay2e hz hm hn hkn hQ hmb b1, T2, rfl, Mlay2n hn hkn (nI64 (nbr31 rt dn (Q k))) a1 a2 b2 b3⟩) qFU (qFU_gt (by omega)) ((0 : Int32), T0) ⟨T0, rfl, fun x _ h => z2 x h, fun i j h => absurd h (Nat.not_lt_zero i)⟩
  exact ⟨e, by rw [le_X10_layMatrix, z1, qob_some, qun1_eq, g1, qob_some], g2⟩

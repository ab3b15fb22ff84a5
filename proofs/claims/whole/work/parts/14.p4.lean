/-! the equations of a part: neighbours, less 1 for each that is a member -/
def adB (rt dn : Nat → Bool) (a c : Nat) : Bool := nbS rt dn (fun _ => true) a 4 c
theorem adB_iff {rt dn : Nat → Bool} {a c : Nat} : adB rt dn a c = true ↔ ∃ s, s < 4 ∧ opS rt dn a s = true ∧ c = mvN a s := by
  unfold adB
  rw [nbS_iff]
  exact ⟨fun ⟨s, h1, h2, _, h3⟩ => ⟨s, h1, h2, h3⟩, fun ⟨s, h1, h2, h3⟩ => ⟨s, h1, h2, rfl, h3⟩⟩
theorem adB_sym {R C : Nat} {rt dn : Nat → Bool} (hz : Mz R C rt dn) {a c : Nat} (h : adB rt dn a c = true) : adB rt dn c a = true := by
  obtain ⟨s, h1, h2, rfl⟩ := adB_iff.mp h
  obtain ⟨a1, a2, a3⟩ := op_sym hz h1 h2
  exact adB_iff.mpr ⟨oppN s, a1, a2, a3.symm⟩
theorem adB_irr {R C : Nat} {rt dn : Nat → Bool} (hz : Mz R C rt dn) (a : Nat) : adB rt dn a a = false := by
  cases q : adB rt dn a a with
  | false => rfl
  | true =>
    obtain ⟨s, h1, h2, h3⟩ := adB_iff.mp q
    exact absurd h3.symm (mv_ne h1 (op_rim hz h1 h2))
def LA (rt dn : Nat → Bool) (Q : Nat → Nat) (n i j : Nat) : Int := if j = n then (nbr rt dn (Q i) : Int) else if i = j then (nbr rt dn (Q i) : Int) else if adB rt dn (Q i) (Q j) then -1 else 0
/-- Q lists the part of z, but for z -/
def MQz (R C : Nat) (rt dn : Nat → Bool) (z : Nat) (Q : Nat → Nat) (n : Nat) : Prop := isC R C z ∧ (∀ k, k < n → isC R C (Q k) ∧ cnn rt dn z (Q k) = true ∧ Q k ≠ z) ∧ (∀ k l, k < n → l < n → Q k = Q l → k = l) ∧ (∀ c, c < 36 → cnn rt dn z c = true → c ≠ z → ∃ k, k < n ∧ Q k = c)
theorem cn_rm {S : Nat → Bool} {z n : Nat} (hz : z < n) (h : S z = true) : cn S n = cn (upB S z false) n + 1 := by
  have h1 := cn_up (S := upB S z false) (k := z) (by unfold upB; rw [if_pos rfl]) n hz
  rw [← h1]
  refine cn_congr n (fun i _ => ?_)
  unfold upB
  by_cases e : i = z
  · rw [if_pos e, e, h]
  · rw [if_neg e, if_neg e]
theorem cn_inj {Q : Nat → Nat} {m : Nat} : ∀ n (S : Nat → Bool), (∀ k, k < n → Q k < m) → (∀ k l, k < n → l < n → Q k = Q l → k = l) → cn (fun j => S (Q j)) n ≤ cn S m
  | 0, _, _, _ => Nat.zero_le _
  | n + 1, S, h1, h2 => by
    show cn (fun j => S (Q j)) n + (S (Q n)).toNat ≤ cn S m
    cases hs : S (Q n) with
    | false => exact cn_inj n S (fun k hk => h1 k (by omega)) (fun k l hk hl => h2 k l (by omega) (by omega))
    | true =>
      have ih := cn_inj n (upB S (Q n) false) (fun k hk => h1 k (by omega)) (fun k l hk hl => h2 k l (by omega) (by omega))
      have e : cn (fun j => upB S (Q n) false (Q j)) n = cn (fun j => S (Q j)) n := cn_congr n (fun j hj => by
        unfold upB
        rw [if_neg (fun w => by have := h2 j n (by omega) (by omega) w; omega)])
      rw [e] at ih
      rw [cn_rm (h1 n (by omega)) hs]
      exact Nat.succ_le_succ ih
theorem sm_LA {R C : Nat} {rt dn : Nat → Bool} (hz : Mz R C rt dn) {Q : Nat → Nat} {n i : Nat} : ∀ m, m ≤ n → sm (fun j => if j < 0 then 0 else LA rt dn Q n i j) m = (if i < m then (nbr rt dn (Q i) : Int) else 0) - (cn (fun j => adB rt dn (Q i) (Q j)) m : Int)
  | 0, _ => rfl
  | m + 1, hm => by
    show sm (fun j => if j < 0 then 0 else LA rt dn Q n i j) m + (if m < 0 then 0 else LA rt dn Q n i m) = (if i < m + 1 then (nbr rt dn (Q i) : Int) else 0) - ((cn (fun j => adB rt dn (Q i) (Q j)) m + (adB rt dn (Q i) (Q m)).toNat : Nat) : Int)
    rw [sm_LA hz m (by omega), if_neg (Nat.not_lt_zero m)]
    unfold LA
    rw [if_neg (show ¬ m = n by omega)]
    by_cases e : i = m
    · subst e
      rw [if_pos rfl, if_neg (Nat.lt_irrefl i), if_pos (by omega), adB_irr hz]
      simp
      omega
    · rw [if_neg e]
      cases hq : adB rt dn (Q i) (Q m) with
      | true =>
        rw [if_pos rfl]
        by_cases l : i < m
        · rw [if_pos l, if_pos (by omega)]
          simp
          omega
        · rw [if_neg l, if_neg (by omega)]
          simp
          omega
      | false =>
        rw [if_neg Bool.false_ne_true]
        by_cases l : i < m
        · rw [if_pos l, if_pos (by omega)]
          simp
        · rw [if_neg l, if_neg (by omega)]
          simp
theorem adB_cn {R C : Nat} {rt dn : Nat → Bool} (hz : Mz R C rt dn) {a : Nat} (ca : isC R C a) : cn (adB rt dn a) 36 = nbr rt dn a := nb_cn hz ca 4 (Nat.le_refl 4)
theorem LA_GQ {R C : Nat} {rt dn : Nat → Bool} (hz : Mz R C rt dn) {z n : Nat} {Q : Nat → Nat} (hQ : MQz R C rt dn z Q n) : GQ n 0 1 (LA rt dn Q n) := by
  obtain ⟨cz, h1, h2, h3⟩ := hQ
  have hz36 := isC_lt hz cz
  obtain ⟨D, hL⟩ := LF_ex hz cz
  have h36 : ∀ k, k < n → Q k < 36 := fun k hk => isC_lt hz (h1 k hk).1
  have rs0 : ∀ i, i < n → rS n 0 (LA rt dn Q n) i = (nbr rt dn (Q i) : Int) - (cn (fun j => adB rt dn (Q i) (Q j)) n : Int) := fun i hi => by
    unfold rS
    rw [sm_LA hz n (Nat.le_refl n), if_pos hi]
  have rsz : ∀ i, i < n → adB rt dn (Q i) z = true → 0 < rS n 0 (LA rt dn Q n) i := fun i hi w => by
    rw [rs0 i hi]
    have a1 := cn_rm hz36 w
    rw [adB_cn hz (h1 i hi).1] at a1
    have a2 := cn_inj n (upB (adB rt dn (Q i)) z false) h36 h2
    have a3 : cn (fun j => upB (adB rt dn (Q i)) z false (Q j)) n = cn (fun j => adB rt dn (Q i) (Q j)) n := cn_congr n (fun j hj => by
      unfold upB
      rw [if_neg (h1 j hj).2.2])
    omega
  refine ⟨by decide, fun i j _ hi _ hj => ?_, fun i j _ hi _ hj e => ?_, fun i _ hi => ?_, fun i _ hi => ?_, fun i _ hi => ?_⟩
  · unfold LA
    rw [if_neg (show ¬ j = n by omega), if_neg (show ¬ i = n by omega)]
    by_cases e : i = j
    · rw [if_pos e, if_pos e.symm, e]
    · rw [if_neg e, if_neg (show ¬ j = i from fun q => e q.symm)]
      cases q : adB rt dn (Q i) (Q j) with
      | true => rw [adB_sym hz q]
      | false =>
        cases q2 : adB rt dn (Q j) (Q i) with
        | false => rfl
        | true => rw [adB_sym hz q2] at q; cases q
  · unfold LA
    rw [if_neg (by omega), if_neg e]
    split
    · decide
    · decide
  · rw [rs0 i hi]
    have a2 := cn_inj n (adB rt dn (Q i)) h36 h2
    rw [adB_cn hz (h1 i hi).1] at a2
    omega
  · unfold LA
    rw [if_neg (by omega), if_pos rfl]
    have := nbr_le rt dn (Q i)
    omega
  · have key : ∀ d i, i < n → D (Q i) = d + 1 → D (Q i) ≠ 9999 → Pt' n 0 (LA rt dn Q n) d i := by
      intro d
      induction d with
      | zero =>
        intro i hi hd h9
        obtain ⟨u, s, g1, g2, g3, g4, g5, -⟩ := hL.2.2.2 (Q i) (h36 i hi) h9 (h1 i hi).2.2
        have hu : u = z := by
          by_cases e : u = z
          · exact e
          · obtain ⟨u', s', -, -, -, w, -⟩ := hL.2.2.2 u g5 (by omega) e
            omega
        subst hu
        exact rsz i hi (adB_sym hz (adB_iff.mpr ⟨s, g1, g2, g3.symm⟩))
      | succ d ih =>
        intro i hi hd h9
        obtain ⟨u, s, g1, g2, g3, g4, g5, -⟩ := hL.2.2.2 (Q i) (h36 i hi) h9 (h1 i hi).2.2
        have hz0 := hL.1
        have hsm := hL.2.1 (Q i) (h36 i hi)
        have hu : u ≠ z := fun q => by rw [q, hz0] at g4; omega
        obtain ⟨j, hj, ej⟩ := h3 u g5 (by rw [cnn_iff hz hL g5]; exact decide_eq_true (by omega)) hu
        subst ej
        refine Or.inr ⟨j, Nat.zero_le j, hj, ?_, ih j hj (by omega) (by omega)⟩
        have hne : i ≠ j := fun q => by subst q; omega
        unfold LA
        rw [if_neg (by omega), if_neg hne, adB_sym hz (adB_iff.mpr ⟨s, g1, g2, g3.symm⟩), if_pos rfl]
        decide
    have hc := (h1 i hi).2.1
    rw [cnn_iff hz hL (h36 i hi), decide_eq_true_eq] at hc
    have hsm := hL.2.1 (Q i) (h36 i hi)
    have h0 : D (Q i) ≠ 0 := fun q => by
      obtain ⟨u, s, -, -, -, w, -⟩ := hL.2.2.2 (Q i) (h36 i hi) hc (h1 i hi).2.2
      omega
    exact ⟨D (Q i) - 1, key (D (Q i) - 1) i hi (by omega) hc⟩
theorem pow4 : ∀ k, k < 16 → (4 : Int) ^ k ≤ 1073741824 ∧ (k < 15 → 4 * (4 : Int) ^ k ≤ 1073741824) := by decide +kernel
theorem HE_n {n : Nat} {A : Nat → Nat → Int} (h : GQ n 0 1 A) (hn : n ≤ 15) : HE n n A := by
  refine ⟨fun k hk => ?_, fun k i j hk h1 h2 h3 h4 => ?_, fun k i j hk h1 h2 h3 h4 => ?_⟩
  · have a1 := GQ_pow h k (by omega)
    have a2 := (pow4 k (by omega)).1
    exact ⟨(GQ_all h k (by omega)).1.1, by omega⟩
  · have a1 := GQ_bound h hk h1 h2 h3 h4
    have a2 := (pow4 k (by omega)).2 (by omega)
    omega
  · have a1 := (GQ_all h (k + 1) (by omega)).2
    rw [sylv (elm_ex k (fun l hl => by have := a1 l (by omega); omega) i) j, Dkk]

/-! a hedge put in, taken away -/
def upB (f : Nat → Bool) (k : Nat) (v : Bool) : Nat → Bool := fun j => if j = k then v else f j
def sr (rt : Nat → Bool) (i s : Nat) (v : Bool) : Nat → Bool := if s = 1 then upB rt i v else if s = 3 then upB rt (i - 1) v else rt
def sd (dn : Nat → Bool) (i s : Nat) (v : Bool) : Nat → Bool := if s = 2 then upB dn i v else if s = 0 then upB dn (i - 6) v else dn
set_option maxRecDepth 20000 in
theorem set_Mz {R C : Nat} {rt dn : Nat → Bool} (hz : Mz R C rt dn) {i s : Nat} (hi : isC R C i) (hs : s < 4) (hrim : rimB R C i s = true) (v : Bool) : Mz R C (sr rt i s v) (sd dn i s v) := by
  obtain ⟨hR, hC, h1, h2⟩ := hz
  obtain ⟨i1, i2⟩ := hi
  have hm := rim_lt hR.2 hC.2 hs ⟨i1, i2⟩ hrim
  unfold rimB at hrim
  refine ⟨hR, hC, fun j hj => ?_, fun j hj => ?_⟩
  · unfold sr at hj
    match s, hs with
    | 0, _ => exact h1 j (by simpa using hj)
    | 1, _ =>
      simp [upB] at hj hrim
      by_cases e : j = i
      · subst e; exact ⟨i1, hrim⟩
      · exact h1 j (by simpa [e] using hj)
    | 2, _ => exact h1 j (by simpa using hj)
    | 3, _ =>
      simp [upB] at hj hrim
      by_cases e : j = i - 1
      · subst e; omega
      · exact h1 j (by simpa [e] using hj)
  · unfold sd at hj
    match s, hs with
    | 0, _ =>
      simp [upB] at hj hrim
      by_cases e : j = i - 6
      · subst e; omega
      · exact h2 j (by simpa [e] using hj)
    | 1, _ => exact h2 j (by simpa using hj)
    | 2, _ =>
      simp [upB] at hj hrim
      by_cases e : j = i
      · subst e; exact ⟨hrim, i2⟩
      · exact h2 j (by simpa [e] using hj)
    | 3, _ => exact h2 j (by simpa using hj)
theorem bs_up {x : Int64} {S : Nat → Bool} (hx : bs x S) {k : Nat} (hk : k < 36) (v : Bool) : bs (if v then x ||| fX1_bit (nI (pl k)) else x &&& (fX1_bit (nI (pl k)) ^^^ (-1))) (upB S k v) := by
  cases v with
  | true =>
    exact bs_congr (bs_or hx (bs_bit hk)) (fun i _ => by
      unfold upB
      by_cases e : i = k <;> simp [e])
  | false =>
    exact bs_congr (bs_andn hx (bs_bit hk)) (fun i _ => by
      unfold upB
      by_cases e : i = k <;> simp [e])
set_option maxRecDepth 20000 in
theorem Cset {R C : Nat} {rt dn : Nat → Bool} {r d : Int64} (hz : Mz R C rt dn) (hr : bs r rt) (hd : bs d dn) {i s : Nat} (hi : isC R C i) (hs : s < 4) (hrim : rimB R C i s = true) (v : Bool) :
    ∃ r' d', fX1_setOpen (cwv R C) r d (nI (pl i)) (nI s) (b2i v) = (r', d') ∧ bs r' (sr rt i s v) ∧ bs d' (sd dn i s v) := by
  have hRC := hz.1
  have hCC := hz.2.1
  have hlt : i < 36 := by obtain ⟨h1, h2⟩ := hi; omega
  have hmv := rim_lt hRC.2 hCC.2 hs hi hrim
  have hp1 := pl_lt hlt
  have hp2 := pl_lt hmv.1
  unfold fX1_setOpen
  rw [Cbeside R (by omega) C (by omega) i hlt s hs hi, hrim, if_pos rfl, if_neg (nI_m1 (by omega))]
  have hmin : qmin (nI (pl i)) (nI (pl (mvN i s))) = nI (pl (if s = 1 ∨ s = 2 then i else mvN i s)) := by
    unfold qmin
    unfold rimB at hrim
    match s, hs with
    | 0, _ => simp at hrim; rw [if_pos (nI_lt (by unfold pl mvN; simp; omega) (by omega))]; rfl
    | 1, _ => rw [if_neg (nI_nlt (by unfold pl mvN; simp at hrim; simp; omega) (by omega))]; rfl
    | 2, _ => rw [if_neg (nI_nlt (by unfold pl mvN; simp; omega) (by omega))]; rfl
    | 3, _ => simp at hrim; rw [if_pos (nI_lt (by unfold pl mvN; simp; omega) (by omega))]; rfl
  rw [hmin]
  unfold qbd
  match s, hs with
  | 0, _ =>
    have hb := bs_up hd (k := i - 6) (by omega) v
    cases v
    · exact ⟨_, _, rfl, hr, hb⟩
    · exact ⟨_, _, rfl, hr, hb⟩
  | 1, _ =>
    have hb := bs_up hr (k := i) hlt v
    cases v
    · exact ⟨_, _, rfl, hb, hd⟩
    · exact ⟨_, _, rfl, hb, hd⟩
  | 2, _ =>
    have hb := bs_up hd (k := i) hlt v
    cases v
    · exact ⟨_, _, rfl, hr, hb⟩
    · exact ⟨_, _, rfl, hr, hb⟩
  | 3, _ =>
    have hb := bs_up hr (k := i - 1) (by omega) v
    cases v
    · exact ⟨_, _, rfl, hb, hd⟩
    · exact ⟨_, _, rfl, hb, hd⟩
theorem upd_b2i {m : Nat → Int32} {S : Nat → Bool} (h : ∀ i, i < 36 → m i = b2i (S i)) (k : Nat) (v : Bool) : ∀ i, i < 36 → upd m k (qnb (b2i v)) i = b2i (upB S k v i) := by
  intro i hi
  unfold upd upB
  rw [qnb_b2i]
  by_cases e : i = k
  · rw [if_pos e, if_pos e]
  · rw [if_neg e, if_neg e]; exact h i hi
set_option maxRecDepth 20000 in
theorem Mset {R C : Nat} {rt dn : Nat → Bool} {mr md : Nat → Int32} (hz : Mz R C rt dn) (hm : ∀ i, i < 36 → mr i = b2i (rt i) ∧ md i = b2i (dn i)) {i s : Nat} (hi : isC R C i) (hs : s < 4) (hrim : rimB R C i s = true) (v : Bool) :
    ∃ mr' md', fX10_set (nI R) (nI C) mr md (nI i) (nI s) (b2i v) = some (mr', md') ∧ ∀ j, j < 36 → mr' j = b2i (sr rt i s v j) ∧ md' j = b2i (sd dn i s v j) := by
  have hRC := hz.1
  have hCC := hz.2.1
  have hlt : i < 36 := by obtain ⟨h1, h2⟩ := hi; omega
  have hmv := rim_lt hRC.2 hCC.2 hs hi hrim
  have h1 : ∀ j, j < 36 → mr j = b2i (rt j) := fun j hj => (hm j hj).1
  have h2 : ∀ j, j < 36 → md j = b2i (dn j) := fun j hj => (hm j hj).2
  unfold fX10_set
  rw [Mbeside R (by omega) C (by omega) i hlt s hs hi, hrim, if_pos rfl]
  match s, hs with
  | 0, _ =>
    show ∃ mr' md', qgd (nI (mvN i 0)) 36 (qbd (upd md (nI (mvN i 0)).toNatClampNeg (qnb (b2i v))) (fun m1 => some (mr, m1))) = some (mr', md') ∧ _
    rw [qgd_nI hmv.1 (by decide), nI_clamp (by omega)]
    exact ⟨_, _, rfl, fun j hj => ⟨h1 j hj, upd_b2i h2 _ v j hj⟩⟩
  | 1, _ =>
    show ∃ mr' md', qgd (nI i) 36 (some (upd mr (nI i).toNatClampNeg (qnb (b2i v)), md)) = some (mr', md') ∧ _
    rw [qgd_nI hlt (by decide), nI_clamp (by omega)]
    exact ⟨_, _, rfl, fun j hj => ⟨upd_b2i h1 _ v j hj, h2 j hj⟩⟩
  | 2, _ =>
    show ∃ mr' md', qgd (nI i) 36 (some (mr, upd md (nI i).toNatClampNeg (qnb (b2i v)))) = some (mr', md') ∧ _
    rw [qgd_nI hlt (by decide), nI_clamp (by omega)]
    exact ⟨_, _, rfl, fun j hj => ⟨h1 j hj, upd_b2i h2 _ v j hj⟩⟩
  | 3, _ =>
    show ∃ mr' md', qgd (nI (mvN i 3)) 36 (qbd (upd mr (nI (mvN i 3)).toNatClampNeg (qnb (b2i v))) (fun m1 => some (m1, md))) = some (mr', md') ∧ _
    rw [qgd_nI hmv.1 (by decide), nI_clamp (by omega)]
    exact ⟨_, _, rfl, fun j hj => ⟨upd_b2i h1 _ v j hj, h2 j hj⟩⟩

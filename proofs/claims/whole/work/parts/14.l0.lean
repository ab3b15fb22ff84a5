/-! turned: the geometry -/
def tI (R C t i : Nat) : Nat :=
  if t % 4 = 1 then 6 * (if 4 ≤ t then C - 1 - i % 6 else i % 6) + (R - 1 - i / 6)
  else if t % 4 = 2 then 6 * (R - 1 - i / 6) + (C - 1 - (if 4 ≤ t then C - 1 - i % 6 else i % 6))
  else if t % 4 = 3 then 6 * (C - 1 - (if 4 ≤ t then C - 1 - i % 6 else i % 6)) + i / 6
  else 6 * (i / 6) + (if 4 ≤ t then C - 1 - i % 6 else i % 6)
def tS (t s : Nat) : Nat := ((if 4 ≤ t ∧ s % 2 = 1 then 4 - s else s) + t) % 4
/-- the turn that turns it back -/
def tv (t : Nat) : Nat := if t = 1 then 3 else if t = 3 then 1 else t
def tR (R C t : Nat) : Nat := if t % 2 = 1 then C else R
def tC (R C t : Nat) : Nat := if t % 2 = 1 then R else C
theorem tS_facts : ∀ t, t < 8 → ∀ s, s < 4 → tS t s < 4 ∧ tS (tv t) (tS t s) = s ∧ tS t (tS (tv t) s) = s ∧ tS t (oppN s) = oppN (tS t s) ∧ tS (tv t) (oppN s) = oppN (tS (tv t) s) ∧ fX10_turnedSide (nI s) (nI t) = nI (tS t s) ∧ tv t < 8 ∧ tv (tv t) = t ∧ tv t % 2 = t % 2 := by decide +kernel
theorem tS_class : ∀ t, t < 8 → ∀ s, s < 3 → 0 < s → fX1_turnedSide (nI s) (nI t) = nI (tS t s) := by decide +kernel
theorem tI_class : ∀ R, R < 7 → ∀ C, C < 7 → ∀ t, t < 8 → ∀ i, i < 36 → (!(decide (i / 6 < R) && decide (i % 6 < C)) || decide (fX1_turnedPlace (nI R) (nI C) (nI (pl i)) (nI t) = nI (pl (tI R C t i)))) = true := by decide +kernel
theorem tI_ref : ∀ R, R < 7 → ∀ C, C < 7 → ∀ t, t < 8 → ∀ i, i < 36 → (!(decide (i / 6 < R) && decide (i % 6 < C)) || decide (fX10_turnedAt (nI R) (nI C) (nI i) (nI t) = some (nI (tI R C t i)))) = true := by decide +kernel
theorem tI_facts : ∀ R, R < 7 → ∀ C, C < 7 → ∀ t, t < 8 → ∀ i, i < 36 → (!(decide (i / 6 < R) && decide (i % 6 < C)) || ((decide (tI R C t i / 6 < tR R C t) && decide (tI R C t i % 6 < tC R C t)) && decide (tI (tR R C t) (tC R C t) (tv t) (tI R C t i) = i))) = true := by decide +kernel
theorem tI_move : ∀ R, R < 7 → ∀ C, C < 7 → ∀ t, t < 8 → ∀ i, i < 36 → ∀ s, s < 4 → (!(decide (i / 6 < R) && decide (i % 6 < C)) || (rimB (tR R C t) (tC R C t) (tI R C t i) (tS t s) == rimB R C i s && (!rimB R C i s || decide (mvN (tI R C t i) (tS t s) = tI R C t (mvN i s))))) = true := by decide +kernel

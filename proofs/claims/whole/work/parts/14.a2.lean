/-! what class and reference hold in common: a maze z = (rows, columns, right openings, down openings, A, B), cells told as 6 times the row and the column -/
def Mz (R C : Nat) (rt dn : Nat → Bool) : Prop := (1 ≤ R ∧ R ≤ 6) ∧ (1 ≤ C ∧ C ≤ 6) ∧ (∀ i, rt i = true → i / 6 < R ∧ i % 6 + 1 < C) ∧ (∀ i, dn i = true → i / 6 + 1 < R ∧ i % 6 < C)
def isC (R C i : Nat) : Prop := i / 6 < R ∧ i % 6 < C
/-- the class's place of a cell -/
def pl (i : Nat) : Nat := 8 * (i / 6) + i % 6
def cellS (R C : Nat) : Nat → Bool := fun i => decide (i / 6 < R) && decide (i % 6 < C)
/-- the bits of x are the set S of cells -/
def bs (x : Int64) (S : Nat → Bool) : Prop := ∀ p, tb x p = (decide (p % 8 < 6) && decide (p < 48) && S (6 * (p / 8) + p % 8))
abbrev Mzt : Type := Nat × Nat × (Nat → Bool) × (Nat → Bool) × Nat × Nat
abbrev KG : Type := Int32 × Int32 × Int32 × Int32 × Int64 × Int64 × Int64
abbrev zR (z : Mzt) : Nat := z.1
abbrev zC (z : Mzt) : Nat := z.2.1
abbrev zr (z : Mzt) : Nat → Bool := z.2.2.1
abbrev zd (z : Mzt) : Nat → Bool := z.2.2.2.1
abbrev za (z : Mzt) : Nat := z.2.2.2.2.1
abbrev zb (z : Mzt) : Nat := z.2.2.2.2.2
def Good (z : Mzt) : Prop := Mz (zR z) (zC z) (zr z) (zd z) ∧ isC (zR z) (zC z) (za z) ∧ isC (zR z) (zC z) (zb z)
def GC (z : Mzt) (v : KG) : Prop := v.1 = nI (zR z) ∧ v.2.1 = nI (zC z) ∧ v.2.2.1 = nI (pl (za z)) ∧ v.2.2.2.1 = nI (pl (zb z)) ∧ bs v.2.2.2.2.1 (cellS (zR z) (zC z)) ∧ bs v.2.2.2.2.2.1 (zr z) ∧ bs v.2.2.2.2.2.2 (zd z)
def GM (z : Mzt) (m_rows m_columns m_a m_b : Int32) (m_right m_down : Nat → Int32) : Prop := m_rows = nI (zR z) ∧ m_columns = nI (zC z) ∧ m_a = nI (za z) ∧ m_b = nI (zb z) ∧ ∀ i, i < 36 → m_right i = b2i (zr z i) ∧ m_down i = b2i (zd z i)
def TX (n : Nat) (tx : Nat → Nat) (sc_length : Int32) (sc_bytes : Nat → Int32) (m_textSize : Int32) (m_text : Nat → Int32) : Prop := n ≤ 41 ∧ sc_length = nI n ∧ m_textSize = nI n ∧ ∀ j, j < n → tx j < 256 ∧ sc_bytes j = nI (tx j) ∧ m_text j = nI (tx j)
def SK (s : Nat) (zk : Option Mzt) (k : Option (Nat × KG)) (kF kN iK : Nat → Int32) : Prop := match zk, k with
  | none, none => iK s = 0
  | some z, some q => iK s = 1 ∧ Good z ∧ GC z q.2 ∧ (kN (4 * s) = nI (zR z) ∧ kN (4 * s + 1) = nI (zC z) ∧ kN (4 * s + 2) = nI (za z) ∧ kN (4 * s + 3) = nI (zb z)) ∧ ∀ i, i < 36 → kF (36 * s + i) = nI ((zr z i).toNat + 2 * (zd z i).toNat)
  | _, _ => False
def Rel (sc_length : Int32) (sc_bytes : Nat → Int32) (g : KG) (sl_f : Nat → Option Nat) (k0 k1 : Option (Nat × KG)) (m_textSize : Int32) (m_text : Nat → Int32) (m_rows m_columns m_a m_b : Int32) (m_right m_down m_shut m_keptFigures m_keptNumbers m_isKept : Nat → Int32) : Prop :=
  ∃ (z : Mzt) (n : Nat) (tx : Nat → Nat) (z0 z1 : Option Mzt), Good z ∧ GC z g ∧ GM z m_rows m_columns m_a m_b m_right m_down ∧ TX n tx sc_length sc_bytes m_textSize m_text ∧ (∀ i, i < 36 → m_shut i = 0) ∧ SK 0 z0 k0 m_keptFigures m_keptNumbers m_isKept ∧ SK 1 z1 k1 m_keptFigures m_keptNumbers m_isKept ∧ sl_f 0 = k0.map (fun q => q.1) ∧ sl_f 1 = k1.map (fun q => q.1)
theorem rel_init : Rel 0 (fun _ => 0) (1, 1, 0, 0, 1, 0, 0) (fun _ => none) none none 0 (fun _ => 0) 1 1 0 0 (fun _ => 0) (fun _ => 0) (fun _ => 0) (fun _ => 0) (fun _ => 0) (fun _ => 0) := by
  have h0 : bs 0 (fun _ => false) := fun p => by rw [tb_0]; simp
  refine ⟨(1, 1, fun _ => false, fun _ => false, 0, 0), 0, fun _ => 0, none, none, ⟨⟨⟨by decide, by decide⟩, ⟨by decide, by decide⟩, fun i h => (by cases h), fun i h => (by cases h)⟩, ⟨by decide, by decide⟩, ⟨by decide, by decide⟩⟩, ⟨rfl, rfl, rfl, rfl, ?_, h0, h0⟩, ⟨rfl, rfl, rfl, rfl, fun i _ => ⟨rfl, rfl⟩⟩, ⟨by decide, rfl, rfl, fun j h => absurd h (Nat.not_lt_zero j)⟩, fun _ _ => rfl, rfl, rfl, rfl, rfl⟩
  intro p
  show tb 1 p = _
  by_cases h : p < 64
  · have key : ∀ p, p < 64 → tb 1 p = (decide (p % 8 < 6) && decide (p < 48) && cellS 1 1 (6 * (p / 8) + p % 8)) := by decide +kernel
    exact key p h
  · rw [tb_ge (by omega)]
    simp [show ¬ p < 48 by omega]

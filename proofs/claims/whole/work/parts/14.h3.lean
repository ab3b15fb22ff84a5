/-! shortCut: the reference's inner loop -/
theorem sci_two {R C : Nat} {rt dn : Nat → Bool} (hz : Mz R C rt dn) {a b k : Nat} (ha : isC R C a) (hb : b < 36) {st : Nat × Int32} (h : st.1 = 9999 ∨ st.1 < 36) : ∀ i, i < 3 → (sci R C rt dn a b k st i).1 = 9999 ∨ (sci R C rt dn a b k st i).1 < 36
  | 0, _ => h
  | i + 1, hi => sc1_two hz ha hb (by omega) (sci_two hz ha hb h i (by omega))
theorem scB_two {R C : Nat} {rt dn : Nat → Bool} (hz : Mz R C rt dn) {a b : Nat} (ha : isC R C a) (hb : b < 36) : ∀ k, (scB R C rt dn a b k).1 = 9999 ∨ (scB R C rt dn a b k).1 < 36
  | 0 => by
    have w := dN_two (t := a) (j := b) hz ha hb
    rw [show scB R C rt dn a b 0 = (dN rt dn a b, -9) by unfold scB; rfl]
    dsimp only
    exact w
  | k + 1 => sci_two hz ha hb (scB_two hz ha hb k) 2 (by decide)

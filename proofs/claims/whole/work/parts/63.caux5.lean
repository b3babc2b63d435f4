theorem lw_30 {x : Int32} (h : 0 ≤ x ∧ x ≤ 30) : 0 ≤ x ∧ x ≤ nI 31 - 1 := h

abbrev LwP (f : Nat → Int32) : Prop := (zLeast 0 ≤ f 0 ∧ f 0 ≤ zMost 0) ∧ (zLeast 1 ≤ f 1 ∧ f 1 ≤ zMost 1) ∧ (zLeast 2 ≤ f 2 ∧ f 2 ≤ zMost 2) ∧ (zLeast 3 ≤ f 3 ∧ f 3 ≤ zMost 3) ∧ (zLeast 4 ≤ f 4 ∧ f 4 ≤ zMost 4) ∧ (zLeast 5 ≤ f 5 ∧ f 5 ≤ zMost 5) ∧ (zLeast 6 ≤ f 6 ∧ f 6 ≤ zMost 6) ∧ (zLeast 7 ≤ f 7 ∧ f 7 ≤ zMost 7)
theorem LwP_of {f : Nat → Int32} (h : ∀ i, i < 8 → (zLeast i ≤ f i ∧ f i ≤ zMost i)) : LwP f := ⟨h 0 (by decide), h 1 (by decide), h 2 (by decide), h 3 (by decide), h 4 (by decide), h 5 (by decide), h 6 (by decide), h 7 (by decide)⟩
theorem LwP_all {f : Nat → Int32} (g : LwP f) (i : Nat) (hi : i < 8) : zLeast i ≤ f i ∧ f i ≤ zMost i := by
  obtain ⟨g0, g1, g2, g3, g4, g5, g6, g7⟩ := g
  rcases (show i = 0 ∨ i = 1 ∨ i = 2 ∨ i = 3 ∨ i = 4 ∨ i = 5 ∨ i = 6 ∨ i = 7 by omega) with rfl | rfl | rfl | rfl | rfl | rfl | rfl | rfl
  · exact g0
  · exact g1
  · exact g2
  · exact g3
  · exact g4
  · exact g5
  · exact g6
  · exact g7

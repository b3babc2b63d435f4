theorem sk_o {S : zS} {x : Int32} (k : S.1 10 0 ≤ 12) (c : ¬ (0 ≤ x ∧ x ≤ nI 12 - 1)) : ¬ (0 ≤ x ∧ x ≤ nI (S.1 10 0) - 1) := fun z => c (by
  obtain ⟨h1, h2⟩ := ix_lt z (by omega)
  rw [h2]; exact z_wi1 (by omega) (by decide))
theorem sk_i {S : zS} {x : Int32} (k : S.1 10 0 ≤ 12) (c : 0 ≤ x ∧ x ≤ nI 12 - 1) (h : x.toNatClampNeg < S.1 10 0) : 0 ≤ x ∧ x ≤ nI (S.1 10 0) - 1 := by
  obtain ⟨h1, h2⟩ := ix_lt c (by decide)
  rw [h2]; exact z_wi1 h (by omega)

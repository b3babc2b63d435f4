theorem lw_30 {x : Int32} (h : 0 ≤ x ∧ x ≤ 30) : 0 ≤ x ∧ x ≤ nI 31 - 1 := h

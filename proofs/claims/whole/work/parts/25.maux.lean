theorem z_self {v : Int32} (h : 0 ≤ v) : nI v.toNatClampNeg = v := by
  have h1 : ¬ v < 0 := fun q => by rw [i_lt] at q; rw [i_le] at h; omega
  obtain ⟨j, hj, rfl⟩ := nI_of h1
  rw [nI_clamp hj]
theorem cN_sN' (S : zS) (k i : Nat) {v : Int32} (h : 0 ≤ v) : upd (cN S k) i v = cN (sN S k i v.toNatClampNeg) k := by
  rw [← cN_sN, z_self h]
theorem z_le01 {x : Int32} (h : 1 ≤ x) : 0 ≤ x := by
  rw [i_le] at h ⊢
  have h1 : (1 : Int32).toInt = 1 := by decide
  have h0 : (0 : Int32).toInt = 0 := by decide
  omega
theorem pts_a {S : zS} {j : Nat} (g2 : S.1 2 j ≤ 2) (_ : ¬ 2 ≤ nI (S.1 2 j)) (c15 : nI (S.1 2 j) ≤ 0) : some (Value.int (10 * nI (S.1 4 j) - 0)) = some (.int (pts S j)) := by
  have h : S.1 2 j = 0 := by
    have := (nI_leI (by omega) (by decide)).mp (show nI (S.1 2 j) ≤ nI 0 from c15)
    omega
  rw [pts, if_pos h, Int32.sub_zero]
theorem pts_b {S : zS} {j : Nat} (g2 : S.1 2 j ≤ 2) (c39 : ¬ 2 ≤ nI (S.1 2 j)) (c15 : ¬ nI (S.1 2 j) ≤ 0) : some (Value.int (10 * nI (S.1 4 j) - 2 * nI (S.1 5 j))) = some (.int (pts S j)) := by
  have h : ¬ S.1 2 j = 0 := fun h => c15 (by rw [h]; decide)
  have h2 : ¬ 2 ≤ S.1 2 j := fun h => c39 ((nI_leI (a := 2) (by decide) (by omega)).mpr h)
  rw [pts, if_neg h, if_pos (by omega)]
theorem pts_x {S : zS} {j : Nat} (g2 : S.1 2 j ≤ 2) (c39 : 2 ≤ nI (S.1 2 j)) : ¬ nI (S.1 2 j) ≤ 0 := by
  have h2 := (nI_leI (a := 2) (by decide) (by omega)).mp c39
  intro h
  have := (nI_leI (by omega) (by decide)).mp (show nI (S.1 2 j) ≤ nI 0 from h)
  omega
theorem pts_fin : ∀ r, r < 10 → ∀ f, f < 10 → (10 * nI r - 2 * nI f < 0 → -((3 - (10 * nI r - 2 * nI f)) / 4) = zfd (10 * nI r - 2 * nI f)) ∧ (¬ 10 * nI r - 2 * nI f < 0 → (10 * nI r - 2 * nI f) / 4 = zfd (10 * nI r - 2 * nI f)) := by
  decide +kernel
theorem pts_2 {S : zS} {j : Nat} (g2 : S.1 2 j ≤ 2) (c39 : 2 ≤ nI (S.1 2 j)) : pts S j = 10 * nI (S.1 4 j) - 2 * nI (S.1 5 j) - zfd (10 * nI (S.1 4 j) - 2 * nI (S.1 5 j)) := by
  have h2 := (nI_leI (a := 2) (by decide) (by omega)).mp c39
  rw [pts, if_neg (by omega), if_neg (by omega)]
theorem pts_c {S : zS} {j : Nat} (g2 : S.1 2 j ≤ 2) (g4 : S.1 4 j ≤ 9) (g5 : S.1 5 j ≤ 9) (c39 : 2 ≤ nI (S.1 2 j)) (c45 : 10 * nI (S.1 4 j) - 2 * nI (S.1 5 j) < 0) : some (Value.int (10 * nI (S.1 4 j) - 2 * nI (S.1 5 j) - -((3 - (10 * nI (S.1 4 j) - 2 * nI (S.1 5 j))) / 4))) = some (.int (pts S j)) := by
  rw [pts_2 g2 c39, (pts_fin _ (by omega) _ (by omega)).1 c45]
theorem pts_d {S : zS} {j : Nat} (g2 : S.1 2 j ≤ 2) (g4 : S.1 4 j ≤ 9) (g5 : S.1 5 j ≤ 9) (c39 : 2 ≤ nI (S.1 2 j)) (c45 : ¬ 10 * nI (S.1 4 j) - 2 * nI (S.1 5 j) < 0) : some (Value.int (10 * nI (S.1 4 j) - 2 * nI (S.1 5 j) - (10 * nI (S.1 4 j) - 2 * nI (S.1 5 j)) / 4)) = some (.int (pts S j)) := by
  rw [pts_2 g2 c39, (pts_fin _ (by omega) _ (by omega)).2 c45]

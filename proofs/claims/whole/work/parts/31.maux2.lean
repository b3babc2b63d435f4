theorem n0 {v : Nat} (h : v ≤ 2) (c : nI v = 0) : v = 0 := nI_inj (by omega) (by decide) (show nI v = nI 0 from c)
theorem mks_0 {S : zS} {j : Nat} (g2 : S.1 2 j ≤ 2) (h : nI (S.1 2 j) = 0) : mks S j = 1 := by rw [mks, if_pos (n0 g2 h)]
theorem mks_1 {S : zS} {j : Nat} (g2 : S.1 2 j ≤ 2) (h : nI (S.1 2 j) = 1) : mks S j = 11 := by
  have h1 : S.1 2 j = 1 := nI_inj (by omega) (by decide) (show nI (S.1 2 j) = nI 1 from h)
  rw [mks, if_neg (by omega), if_pos h1]
theorem mks_2 {S : zS} {j : Nat} (g2 : S.1 2 j ≤ 2) (h : ¬ nI (S.1 2 j) = 0) (h1 : ¬ nI (S.1 2 j) = 1) : mks S j = 111 := by
  rw [mks, if_neg (fun q => h (by rw [q]; rfl)), if_neg (fun q => h1 (by rw [q]; rfl))]
theorem z_cl {x hi : Int32} {n : Nat} (h : 0 ≤ x ∧ x ≤ hi) (hn : hi.toInt = n) : x.toNatClampNeg ≤ n := by
  have h1 := h.2
  rw [i_le, hn] at h1
  have h0 := h.1
  rw [i_le] at h0
  have e0 : (0 : Int32).toInt = 0 := by decide
  have : x.toNatClampNeg = x.toInt.toNat := rfl
  omega
theorem law_y {x : Int32} (h : 0 ≤ x ∧ x ≤ 30) : x.toNatClampNeg ≤ 30 := z_cl h (by decide)
theorem law_ix0 {x : Int32} {j : Nat} (h : x = nI j) : 7 * x = nI (7 * j) := by rw [h]; exact pk_mul 7 j
theorem law_ix {x : Int32} {j : Nat} (h : x = nI j) (k : Nat) : 7 * x + nI k = nI (7 * j + k) := by rw [law_ix0 h, nI_add]
theorem law_10 {x : Int32} {j : Nat} (h : x = nI j) : 10 * x = nI (10 * j) := by rw [h]; exact pk_mul 10 j
theorem law_st {x : Int32} {j t : Nat} (hj : j ≤ 30) (h : x = nI j) (ht : t < 1000) (c : ¬ nI t < 10 * x) : 10 * j ≤ t := by
  rw [law_10 h] at c
  exact Nat.not_lt.mp (fun q => c (nI_lt q (by omega)))
theorem law_gt {x : Int32} {j t : Nat} (hj : j ≤ 30) (h : x = nI j) (ht : t < 1000) (c : nI t < 10 * x) : ¬ 10 * j ≤ t := by
  rw [law_10 h] at c
  exact Nat.not_le.mpr ((nI_ltI (by omega) (by omega)).mp c)
theorem yr_div {x : Int32} {d : Nat} (hd : d ≤ 400) (h : x = nI d) : x / 10 = nI (d / 10) := by rw [h]; exact pk_div (d := 10) (by omega) (by decide) (by decide)
theorem yr_le {x : Int32} {d : Nat} (hd : d ≤ 400) (h : x = nI d) (c : x / 10 ≤ 30) : d / 10 ≤ 30 := by
  rw [yr_div hd h] at c
  exact (nI_leI (by omega) (by decide)).mp (show nI (d / 10) ≤ nI 30 from c)
theorem yr_gt {x : Int32} {d : Nat} (hd : d ≤ 400) (h : x = nI d) (c : ¬ x / 10 ≤ 30) : ¬ d / 10 ≤ 30 := by
  rw [yr_div hd h] at c
  exact fun q => c (nI_le q (by decide))
theorem yr_t {x : Int32} {d : Nat} (hd : d ≤ 400) (h : x = nI d) (c : d / 10 ≤ 30) : x / 10 = nI (min (d / 10) 30 + 1) - 1 := by
  rw [nI_pred, yr_div hd h, Nat.min_eq_left c]
theorem yr_f {d : Nat} (c : ¬ d / 10 ≤ 30) : (30 : Int32) = nI (min (d / 10) 30 + 1) - 1 := by
  rw [nI_pred, Nat.min_eq_right (by omega)]; rfl
theorem nI_m1 (k : Nat) : nI k + Int32.ofInt (-1) = nI k - 1 := by rw [Int32.sub_eq_add_neg]; rfl
theorem yr_no {S : zS} {k : Nat} (c : nI (S.1 9 k) = 0) : ¬ S.1 9 k = 1 := fun h => by rw [h] at c; exact absurd c (by decide)
theorem yr_yes {S : zS} {k : Nat} (k9 : ∀ y, S.1 9 y ≤ 1) (c : ¬ nI (S.1 9 k) = 0) : S.1 9 k = 1 := by
  have h := k9 k
  have h0 : ¬ S.1 9 k = 0 := fun q => c (by rw [q]; rfl)
  omega
theorem yrS_le (S : zS) : ∀ k, k ≤ 31 → yrS S k ≤ 31
  | 0, _ => Nat.le_refl 31
  | k + 1, h => by
    rw [yrS]
    by_cases c : S.1 9 k = 1
    · rw [if_pos c]; omega
    · rw [if_neg c]; exact yrS_le S k (by omega)
theorem yx_le (S : zS) (d : Nat) : yx S d ≤ 31 := yrS_le S _ (by omega)
theorem yx_lt (S : zS) (d : Nat) : yx S d < 2 ^ 31 := by have := yx_le S d; omega
theorem lw_lt (S : zS) (d : Nat) {k : Nat} (hk : k < 7) : 7 * yx S d + k < 224 := by have := yx_le S d; omega
theorem lw_ix {S : zS} {d k : Nat} {y : Int32} (h : y = nI k) : 7 * nI (yx S d) + y = nI (7 * yx S d + k) := by
  rw [h, show (7 : Int32) * nI (yx S d) = nI (7 * yx S d) from pk_mul 7 _, nI_add]
theorem fr_ge {y : Int32} {k : Nat} (h : y = nI k) (hk : k ≤ 7) (c : 7 ≤ y) : ¬ k < 7 := by
  rw [h] at c
  exact Nat.not_lt.mpr ((nI_leI (a := 7) (by decide) (by omega)).mp c)
theorem fr_lt {y : Int32} {k : Nat} (h : y = nI k) (hk : k ≤ 7) (c : ¬ 7 ≤ y) : k < 7 := by
  rw [h] at c
  exact Nat.not_le.mp (fun q => c (nI_le (a := 7) q (by omega)))
theorem ix_lt {x : Int32} {n : Nat} (c : 0 ≤ x ∧ x ≤ nI n - 1) (hn : n < 100000) : x.toNatClampNeg < n ∧ x = nI x.toNatClampNeg := by
  refine ⟨?_, (z_self c.1).symm⟩
  rcases Nat.eq_zero_or_pos n with h0 | h0
  · exfalso
    subst h0
    have h1 := c.1
    have h2 := c.2
    rw [i_le] at h1 h2
    rw [show (nI 0 - 1 : Int32).toInt = -1 by decide] at h2
    rw [show (0 : Int32).toInt = 0 by decide] at h1
    omega
  · have h2 := c
    rw [nI_sub1 h0] at h2
    have := z_cl h2 (nI_toInt (by omega))
    omega
theorem day_add {x : Int32} {t j : Nat} (h : x = nI j) : nI t + x = nI (t + j) := by rw [h, nI_add]

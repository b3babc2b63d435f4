theorem yr_min {x : Int32} {d : Nat} (hd : d ≤ 400) (h : x = nI d) : (if nI 31 - 1 < x / 10 then nI 31 - 1 else x / 10) = nI (min (d / 10) 30 + 1) - 1 := by
  rw [nI_pred, yr_div hd h, nI_pred (min (d / 10) 30)]
  by_cases c : d / 10 ≤ 30
  · rw [if_neg (nI_nlt c (by decide)), Nat.min_eq_left c]
  · rw [if_pos (nI_lt (by omega) (by omega)), Nat.min_eq_right (by omega)]
theorem fLa_y {S : zS} {X : Nat → Nat → Nat} {k : Nat} (h : S.1 9 k = 1) : va_rf (fLa S X k) = .ref (X 7 k) := by rw [fLa, if_pos h]; rfl
theorem fLa_n {S : zS} {X : Nat → Nat → Nat} {k : Nat} (h : ¬ S.1 9 k = 1) : va_rf (fLa S X k) = .null := by rw [fLa, if_neg h]; rfl
theorem fEn_y {S : zS} {X : Nat → Nat → Nat} {k : Nat} (h : k < S.1 20 0) : va_rf (fEn S X k) = .ref (X 6 k) := by rw [fEn, if_pos h]; rfl
theorem fEn_n {S : zS} {X : Nat → Nat → Nat} {k : Nat} (h : ¬ k < S.1 20 0) : va_rf (fEn S X k) = .null := by rw [fEn, if_neg h]; rfl
theorem fHo_y {S : zS} {X : Nat → Nat → Nat} {k : Nat} (h : k < S.1 1 0) : va_rf (fHo S X k) = .ref (X 1 k) := by rw [fHo, if_pos h]; rfl
theorem fHo_n {S : zS} {X : Nat → Nat → Nat} {k : Nat} (h : ¬ k < S.1 1 0) : va_rf (fHo S X k) = .null := by rw [fHo, if_neg h]; rfl
theorem fLi_y {S : zS} {X : Nat → Nat → Nat} {k : Nat} (h : k < S.1 10 0) : va_rf (fLi S X k) = .ref (X 5 k) := by rw [fLi, if_pos h]; rfl
theorem fLi_n {S : zS} {X : Nat → Nat → Nat} {k : Nat} (h : ¬ k < S.1 10 0) : va_rf (fLi S X k) = .null := by rw [fLi, if_neg h]; rfl
theorem lo_y {S : zS} {X : Nat → Nat → Nat} {d k : Nat} (h9 : S.1 9 k = 1) (e : yx S d = k) (hk : k < 31) : some (va_rf (fLa S X k)) = some (.ref (lwA S X d)) := by
  rw [fLa_y h9, lwA, if_neg (by omega), e]
theorem lo_n {S : zS} {X : Nat → Nat → Nat} {d : Nat} (h : yx S d = 31) : some (Value.ref (X 0 5)) = some (.ref (lwA S X d)) := by rw [lwA, if_pos h]
theorem eix_m9 (S : zS) (X : Nat → Nat → Nat) : va_rf ((eix S (-9)).map (X 6)) = .null := by
  rw [eix, if_neg (fun h => absurd h.1 (by decide))]; rfl
theorem eix_e {S : zS} {X : Nat → Nat → Nat} {k : Nat} (h : k < S.1 20 0) (hn : S.1 20 0 ≤ 20) : va_rf ((eix S (nI k)).map (X 6)) = .ref (X 6 k) := by rw [eix_in h hn]; rfl
theorem bar_c {S : zS} {nn j k : Nat} (hS : ok S nn) (h : lat S j = some k) : nI (S.1 22 k) + lwC S (S.1 22 k) 6 = bar S j := by rw [lwC_k hS _ (by decide)]; exact bar_s h
theorem hl_z {k : Nat} (h : k < 2 ^ 31) (c : ¬ 0 < nI k) : k = 0 := by
  rcases Nat.eq_zero_or_pos k with q | q
  · exact q
  · exact absurd (nI_lt (a := 0) q h) c
theorem hl_nz {k : Nat} (c : 0 < nI k) : ¬ k = 0 := fun q => by rw [q] at c; exact absurd c (by decide)
theorem hl_0 {S : zS} {i : Nat} (hi : i < S.1 1 0) (h : S.1 18 i = 0) : nI (ctL S (min i (S.1 1 0))) = nI (ctL S (min (i + 1) (S.1 1 0))) := by
  rw [show min i (S.1 1 0) = i by omega, show min (i + 1) (S.1 1 0) = i + 1 by omega, ctL, if_pos h]; rfl
theorem hl_out {S : zS} {i : Nat} (hi : ¬ i < S.1 1 0) : nI (ctL S (min i (S.1 1 0))) = nI (ctL S (min (i + 1) (S.1 1 0))) := by
  rw [show min i (S.1 1 0) = S.1 1 0 by omega, show min (i + 1) (S.1 1 0) = S.1 1 0 by omega]
theorem hl_1 {S : zS} {i : Nat} (hi : i < S.1 1 0) (h : ¬ S.1 18 i = 0) : nI (ctL S (min i (S.1 1 0))) + Int32.ofInt 1 = nI (ctL S (min (i + 1) (S.1 1 0))) := by
  rw [show min i (S.1 1 0) = i by omega, show min (i + 1) (S.1 1 0) = i + 1 by omega]
  exact ctL_1 h
theorem lt_0' {S : zS} {i : Nat} (k9 : S.1 9 i ≤ 1) (h : ¬ S.1 9 i = 1) (hi : i < 31) : nI (ctT S (min i 31)) = nI (ctT S (min (i + 1) 31)) := by
  rw [show min i 31 = i by omega, show min (i + 1) 31 = i + 1 by omega, ctT, if_pos (by omega)]; rfl
theorem lt_1 {S : zS} {i : Nat} (h : S.1 9 i = 1) (hi : i < 31) : nI (ctT S (min i 31)) + Int32.ofInt 1 = nI (ctT S (min (i + 1) 31)) := by
  rw [show min i 31 = i by omega, show min (i + 1) 31 = i + 1 by omega, ctT, if_neg (by omega)]
  exact nI_1 _
theorem se_in {S : zS} {x y : Int32} {k : Nat} (h : k < S.1 20 0) (hn : S.1 20 0 ≤ 20) (hx : x = nI k) (hy : 0 ≤ y ∧ y ≤ 6) : sp_entry S x y = (ev S k y.toNatClampNeg, S) := by
  rw [sp_entry, if_pos ⟨by rw [hx]; exact z_wi1 h (by omega), hy⟩, hx, nI_clamp (by omega)]
theorem se_6f {S : zS} {k : Nat} (c : ¬ S.1 26 k = 0) : (ev S k (6 : Int32).toNatClampNeg, S) = (0, S) := by
  show (ev S k 6, S) = _
  rw [ev_6, if_neg c]
theorem se_6t {S : zS} {k : Nat} (c : S.1 26 k = 0) : (ev S k (6 : Int32).toNatClampNeg, S) = (1, S) := by
  show (ev S k 6, S) = _
  rw [ev_6, if_pos c]
theorem se_out {S : zS} {x y : Int32} (h : y.toInt < 0 ∨ 6 < y.toInt) : sp_entry S x y = (-1000000000, S) := by
  rw [sp_entry, if_neg]
  rintro ⟨-, h1, h2⟩
  rw [i_le] at h1 h2
  rw [show (0 : Int32).toInt = 0 by decide] at h1
  rw [show (6 : Int32).toInt = 6 by decide] at h2
  omega
theorem se_none {S : zS} {x y : Int32} (h : eix S x = none) : sp_entry S x y = (-1000000000, S) := by
  rw [sp_entry, if_neg]
  rintro ⟨h1, -⟩
  rw [eix, if_pos h1] at h
  cases h
theorem cnt_out7 {x : Int32} (q0 : ¬ x = 0) (q1 : ¬ x = 1) (q2 : ¬ x = 2) (q3 : ¬ x = 3) (q4 : ¬ x = 4) (q5 : ¬ x = 5) (q6 : ¬ x = 6) : x.toInt < 0 ∨ 6 < x.toInt := by
  have a := cnt_out q0 q1 q2 q3 q4 q5
  have a6 : ¬ x.toInt = 6 := fun h => q6 (Int32.toInt_inj.mp h)
  omega
theorem fr_v {S : zS} {nn : Nat} (hS : ok S nn) (d : Nat) {k : Nat} (hk : k ≤ 7) : (if k < 7 then lw S d k else if yx S d = 31 then -9 else nI (yx S d)) = lwC S d k := by
  by_cases c : k < 7
  · rw [if_pos c, lwC_k hS d c]
  · rw [if_neg c, show k = 7 by omega, lwC_7]

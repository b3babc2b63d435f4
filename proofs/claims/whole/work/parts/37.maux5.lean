theorem yrS_cong {S T : zS} (e9 : S.1 9 = T.1 9) : ∀ k, yrS S k = yrS T k
  | 0 => rfl
  | k + 1 => by rw [yrS, yrS, e9, yrS_cong e9 k]
theorem lw_cong {S T : zS} (e9 : S.1 9 = T.1 9) (e8 : S.2.1 8 = T.2.1 8) (d k : Nat) : lw S d k = lw T d k := by
  rw [lw, lw, e8, yx, yx, yrS_cong e9]
theorem pts_cong {S T : zS} (e2 : S.1 2 = T.1 2) (e4 : S.1 4 = T.1 4) (e5 : S.1 5 = T.1 5) (j : Nat) : pts S j = pts T j := by rw [pts, pts, e2, e4, e5]
theorem clc_cong {S T : zS} (e2 : S.1 2 = T.1 2) (e3 : S.1 3 = T.1 3) (e4 : S.1 4 = T.1 4) (e5 : S.1 5 = T.1 5) (e9 : S.1 9 = T.1 9) (e8 : S.2.1 8 = T.2.1 8) (e15 : S.1 15 = T.1 15) (e11 : S.2.1 11 = T.2.1 11) (e12 : S.2.1 12 = T.2.1 12) (e13 : S.2.1 13 = T.2.1 13) (e14 : S.2.1 14 = T.2.1 14) (j d : Nat) (f : Nat → Int32) : ∀ k, clc S j d f k = clc T j d f k
  | 0 => rfl
  | k + 1 => by
    have hv : vl S j d k = vl T j d k := by rw [vl, vl, e13, e12, lw_cong e9 e8, pts_cong e2 e4 e5]
    rw [clc, clc, e15, e11, e3, e14, hv, clc_cong e2 e3 e4 e5 e9 e8 e15 e11 e12 e13 e14 j d f k]
theorem hv_cong {S T : zS} (e2 : S.1 2 = T.1 2) (e3 : S.1 3 = T.1 3) (e4 : S.1 4 = T.1 4) (e5 : S.1 5 = T.1 5) (e9 : S.1 9 = T.1 9) (e10 : S.1 10 = T.1 10) (e8 : S.2.1 8 = T.2.1 8) (e15 : S.1 15 = T.1 15) (e6 : S.2.1 6 = T.2.1 6) (e11 : S.2.1 11 = T.2.1 11) (e12 : S.2.1 12 = T.2.1 12) (e13 : S.2.1 13 = T.2.1 13) (e14 : S.2.1 14 = T.2.1 14) (j d w : Nat) : hv S j d w = hv T j d w := by
  have a0 : hcnt S j d = hcnt T j d := by rw [hcnt, hcnt, e10, clc_cong e2 e3 e4 e5 e9 e8 e15 e11 e12 e13 e14]
  have b0 : h0 S j d = h0 T j d := by rw [h0, h0, a0, e10, clc_cong e2 e3 e4 e5 e9 e8 e15 e11 e12 e13 e14]
  have b1 : h1 S j d = h1 T j d := by rw [h1, h1, b0, e3, lw_cong e9 e8]
  have b2 : h2 S j d = h2 T j d := by rw [h2, h2, e6, lw_cong e9 e8]
  have b3 : h3 S j d = h3 T j d := by rw [h3, h3, b0, b1, b2]
  rw [hv, hv, a0, b0, b1, b2, b3]
theorem hv_ask (S : zS) (i t u j d w : Nat) : hv (sN (sN S 21 i t) 22 i u) j d w = hv S j d w := hv_cong (S := sN (sN S 21 i t) 22 i u) (T := S) rfl rfl rfl rfl rfl rfl rfl rfl rfl rfl rfl rfl rfl j d w
theorem hv_23 (S : zS) (i : Nat) (v : Int32) (j d w : Nat) : hv (sG S 23 i v) j d w = hv S j d w := hv_cong (S := sG S 23 i v) (T := S) rfl rfl rfl rfl rfl rfl rfl rfl rfl rfl rfl rfl rfl j d w
theorem hv_24 (S : zS) (i : Nat) (v : Int32) (j d w : Nat) : hv (sG S 24 i v) j d w = hv S j d w := hv_cong (S := sG S 24 i v) (T := S) rfl rfl rfl rfl rfl rfl rfl rfl rfl rfl rfl rfl rfl j d w
theorem ask_ix0 {S T : zS} (h : T.1 20 0 = S.1 20 0) : 3 * nI (T.1 20 0) + 0 = nI (3 * S.1 20 0) := by rw [h, Int32.add_zero]; exact pk_mul 3 _
theorem ask_ix {S T : zS} (h : T.1 20 0 = S.1 20 0) (k : Nat) : 3 * nI (T.1 20 0) + nI k = nI (3 * S.1 20 0 + k) := by rw [h, show (3 : Int32) * nI (S.1 20 0) = nI (3 * S.1 20 0) from pk_mul 3 _, nI_add]
theorem ask_ok {S : zS} {j : Nat} (h : ¬ S.1 18 j = 0) (c : (if nI (S.1 0 0) < bar S j then bar S j else nI (S.1 0 0)) ≤ nI (S.1 0 0)) : ¬ (S.1 18 j = 0 ∨ nI (S.1 0 0) < bar S j) := by
  rintro (q | q)
  · exact h q
  · rw [if_pos q] at c
    exact z_nl c q
theorem ask_late {S : zS} {j : Nat} (c : ¬ (if nI (S.1 0 0) < bar S j then bar S j else nI (S.1 0 0)) ≤ nI (S.1 0 0)) : nI (S.1 0 0) < bar S j := by
  by_cases q : nI (S.1 0 0) < bar S j
  · exact q
  · rw [if_neg q] at c
    exact absurd (show nI (S.1 0 0) ≤ nI (S.1 0 0) by rw [i_le]; omega) c
theorem ok_ask {S : zS} {nn j : Nat} (h : ok S nn) : ok (sN (sN S 21 (S.1 20 0) j) 22 (S.1 20 0) (S.1 0 0)) nn := by
  obtain ⟨a1, a2, a3, a4, a5, a6, a7, a8, a9, a10, a11, a12⟩ := h
  have e21 : ∀ e, e < S.1 20 0 → (sN (sN S 21 (S.1 20 0) j) 22 (S.1 20 0) (S.1 0 0)).1 21 e = S.1 21 e := fun e he => by
    show (if 21 = 21 ∧ e = S.1 20 0 then j else S.1 21 e) = _
    rw [if_neg (by omega)]
  have e22 : ∀ e, e < S.1 20 0 → (sN (sN S 21 (S.1 20 0) j) 22 (S.1 20 0) (S.1 0 0)).1 22 e = S.1 22 e := fun e he => by
    show (if 22 = 22 ∧ e = S.1 20 0 then S.1 0 0 else S.1 22 e) = _
    rw [if_neg (by omega)]
  refine ⟨a1, a2, a3, a4, a5, a6, a7, a8, a9, fun e he => ?_, fun e e' h1 h2 => ?_, a12⟩
  · have q := a10 e he
    rw [e21 e he, e22 e he]
    exact q
  · have he' : e' < S.1 20 0 := h2
    rw [e22 e (by omega), e22 e' he']
    exact a11 e e' h1 h2

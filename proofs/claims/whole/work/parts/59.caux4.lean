def bndN (S : zS) (j : Nat) : Nat → Option Nat
  | 0 => none
  | k + 1 => if S.1 21 k = j ∧ S.1 26 k = 0 ∧ S.1 25 k = S.1 18 j then some k else bndN S j k
def bef (S : zS) (j k : Nat) : Int32 := if S.1 22 k = S.1 16 j then S.2.1 17 j else dd S j (S.1 22 k - 1)
def bfv (S : zS) (j : Nat) : Option Nat → Int32
  | none => S.2.1 17 j
  | some k => bef S j k
def yst (S : zS) (j k : Nat) : Int32 := if k = 0 then S.2.1 17 j else dd S j (S.1 16 j + k - 1)
theorem bndN_some {S : zS} {j i : Nat} : ∀ {k : Nat}, bndN S j k = some i → i < k ∧ S.1 21 i = j ∧ S.1 26 i = 0 ∧ S.1 25 i = S.1 18 j
  | 0, h => by cases h
  | k + 1, h => by
    rw [bndN] at h
    by_cases c : S.1 21 k = j ∧ S.1 26 k = 0 ∧ S.1 25 k = S.1 18 j
    · rw [if_pos c] at h
      have h2 : k = i := Option.some.inj h
      rw [← h2]
      exact ⟨Nat.lt_succ_self k, c⟩
    · rw [if_neg c] at h
      obtain ⟨a, b⟩ := bndN_some h
      exact ⟨Nat.lt_succ_of_lt a, b⟩
theorem bndN_lo {S : zS} {j t : Nat} : ∀ {k : Nat}, (∀ i, i < k → S.1 22 i ≤ t) → bndS S j t k = bndN S j k
  | 0, _ => rfl
  | k + 1, h => by
    rw [bndS, bndN, bndN_lo (fun i hi => h i (by omega))]
    by_cases c : S.1 21 k = j ∧ S.1 26 k = 0 ∧ S.1 25 k = S.1 18 j
    · rw [if_pos c, if_pos ⟨c.1, c.2.1, c.2.2, h k (by omega)⟩]
    · rw [if_neg c, if_neg (fun z => c ⟨z.1, z.2.1, z.2.2.1⟩)]
theorem bndN_hi {S : zS} {j t m : Nat} : ∀ {k : Nat}, m ≤ k → (∀ i, m ≤ i → i < k → t < S.1 22 i) → bndS S j t k = bndS S j t m
  | 0, h, _ => by rw [show m = 0 by omega]
  | k + 1, h, hz => by
    by_cases q : m = k + 1
    · rw [q]
    · rw [bndS, if_neg (fun z => absurd z.2.2.2 (Nat.not_le.mpr (hz k (by omega) (by omega)))), bndN_hi (by omega) (fun i h1 h2 => hz i h1 (by omega))]
theorem bndN_eq {S : zS} {j t m : Nat} (hlo : ∀ i, i < m → S.1 22 i ≤ t) (hhi : ∀ i, m ≤ i → i < S.1 20 0 → t < S.1 22 i) (hm : m ≤ S.1 20 0) : bndS S j t (S.1 20 0) = bndN S j m := by
  rw [bndN_hi hm hhi, bndN_lo hlo]
theorem wd_max {a t : Nat} (h : a ≤ t) (ht : t ≤ 300) : (if nI a < 0 then 0 else nI a) = nI (a + 0) := by rw [if_neg (nI_pos (by omega))]; rfl
theorem wd_bI {k : Nat} : ¬ (if k = 0 then (1 : Int32) else 0) = 0 ↔ k = 0 := by
  by_cases c : k = 0
  · rw [if_pos c]; exact ⟨fun _ => c, fun _ => by decide⟩
  · rw [if_neg c]; exact ⟨fun h => absurd rfl h, fun h => absurd h c⟩
theorem wd_b {S : zS} {nn j k : Nat} {x : Int32} (hS : ok S nn) (hi : k < S.1 20 0) (hj : j < S.1 1 0) (hx : x = nI j) (c : ¬ (if S.1 26 k = 0 then (1 : Int32) else 0) = 0 ∧ nI (S.1 21 k) = x ∧ nI (S.1 25 k) = nI (S.1 18 j)) : S.1 21 k = j ∧ S.1 26 k = 0 ∧ S.1 25 k = S.1 18 j := by
  have k1 := hS.1
  have w := hS.2.2.2.2.2.2.2.2.2.1 k hi
  have l1 := (hS.2.2.2.2.2.2.1 (S.1 21 k)).1
  have l2 := (hS.2.2.2.2.2.2.1 j).1
  have hn := hS.2.2.2.2.2.2.2.2.2.2.2
  exact ⟨nI_inj (by omega) (by omega) (c.2.1.trans hx), wd_bI.mp c.1, nI_inj (by omega) (by omega) c.2.2⟩
theorem wd_nb {S : zS} {nn j k : Nat} {x : Int32} (_ : ok S nn) (_ : k < S.1 20 0) (_ : j < S.1 1 0) (hx : x = nI j) (c : ¬ (¬ (if S.1 26 k = 0 then (1 : Int32) else 0) = 0 ∧ nI (S.1 21 k) = x ∧ nI (S.1 25 k) = nI (S.1 18 j))) : ¬ (S.1 21 k = j ∧ S.1 26 k = 0 ∧ S.1 25 k = S.1 18 j) := fun z => c ⟨wd_bI.mpr z.2.1, by rw [z.1, hx], by rw [z.2.2]⟩
theorem wd_bef {S : zS} {nn j k i : Nat} (hS : ok S nn) (hi : i < S.1 20 0) (hb : S.1 21 i = j ∧ S.1 26 i = 0 ∧ S.1 25 i = S.1 18 j) (hd : S.1 22 i ≤ S.1 16 j + k) (hh : 0 < k → S.1 16 j + k ≤ S.1 22 i) : yst S j k = bfv S j (some i) := by
  have w := (hS.2.2.2.2.2.2.2.2.2.1 i hi).2.2.2
  rw [hb.1] at w
  have hge := w hb.2.2
  show _ = bef S j i
  rw [yst, bef]
  by_cases q : k = 0
  · rw [if_pos q, if_pos (by omega)]
  · have := hh (by omega)
    rw [if_neg q, if_neg (by omega), show S.1 22 i = S.1 16 j + k by omega]
theorem wd_dv {S : zS} {nn j k i : Nat} {fd : Nat → Int32} (hS : ok S nn) (hj : j < S.1 1 0) (h18 : ¬ S.1 18 j = 0) (hb : bndS S j (S.1 16 j + k) (S.1 20 0) = some i) (hle : S.1 22 i ≤ S.1 16 j + k) (ht : S.1 16 j + k < 100000) : (if bfv S j (some i) < S.2.1 23 i then (if bfv S j (some i) + lwC S (S.1 22 i) 5 * ((nI (S.1 16 j + k) - nI (S.1 22 i)) / 10 + 1) < S.2.1 23 i then bfv S j (some i) + lwC S (S.1 22 i) 5 * ((nI (S.1 16 j + k) - nI (S.1 22 i)) / 10 + 1) else S.2.1 23 i) else S.2.1 23 i) = dv S j (S.1 16 j + k) (duT S j fd k) := by
  obtain ⟨b1, b2, b3, b4, b5⟩ := bnd_some hb
  have w := (hS.2.2.2.2.2.2.2.2.2.1 i b1).2.2.2
  rw [b2] at w
  have hge := w b4
  have hbe : bfv S j (some i) = if S.1 22 i = S.1 16 j then S.2.1 17 j else duT S j fd k (S.1 22 i - 1) := by
    show bef S j i = _
    rw [bef]
    by_cases q : S.1 22 i = S.1 16 j
    · rw [if_pos q, if_pos q]
    · rw [if_neg q, if_neg q, ← dd_e S j fd hS hj h18 (t := S.1 22 i - 1) (u := S.1 16 j + k - 1) (by omega) (by omega), show S.1 16 j + k - 1 + 1 - S.1 16 j = k by omega]
  rw [dv_s hb, stp, ← hbe, lwC_k hS _ (by decide), ris_e _ _ hle ht]
theorem wd_y {S : zS} {nn j k : Nat} {fd : Nat → Int32} (hS : ok S nn) (hj : j < S.1 1 0) (h18 : ¬ S.1 18 j = 0) : upd (duT S j fd k) (S.1 16 j + k) (dv S j (S.1 16 j + k) (duT S j fd k)) (S.1 16 j + k) = yst S j (k + 1) := by
  rw [yst, if_neg (by omega), show S.1 16 j + (k + 1) - 1 = S.1 16 j + k by omega, ← dd_e S j fd hS hj h18 (t := S.1 16 j + k) (u := S.1 16 j + k) (by omega) (by omega), show S.1 16 j + k + 1 - S.1 16 j = k + 1 by omega]
  rfl
theorem wd_end {S : zS} {j k t : Nat} (h : S.1 16 j + k = t + 1) (hlt : S.1 16 j ≤ t) : yst S j k = dd S j t := by
  rw [yst, if_neg (by omega), show S.1 16 j + k - 1 = t by omega]
theorem wd_le {a t : Nat} {y : Int32} (hy : y = nI t) (ha : a < 100000) (ht : t < 100000) (c : ¬ y < nI a) : a ≤ t := by
  rw [hy] at c
  exact Nat.not_lt.mp (fun z => c (nI_lt z (by omega)))
theorem wd_nc {a t n : Nat} {y : Int32} (hy : y = nI t) (ha : a < 100000) (ht : t < 100000) (hn : n < 2 ^ 31) (c : ¬ (0 < nI n ∧ ¬ y < nI a)) : n = 0 ∨ t < a := by
  by_cases q : n = 0
  · exact Or.inl q
  · refine Or.inr (Nat.not_le.mp (fun z => c ⟨nI_lt (a := 0) (by omega) hn, ?_⟩))
    rw [hy]
    exact nI_nlt z (by omega)
theorem ow_c {S : zS} {j k : Nat} {a P : Int32} (h : a = dd S j (S.1 16 j + k)) (hk : S.1 16 j + k < 301) : P + (a - rowS S j (S.1 16 j + k)) = P + (dd S j (S.1 16 j + k) - S.2.1 19 (301 * j + (S.1 16 j + k))) := by
  rw [h, rowS, if_pos hk]
theorem psum_shift (f : Nat → Int32) (m : Nat) : ∀ k, psum f (m + k) = psum f m + psum (fun i => f (m + i)) k
  | 0 => by rw [psum, Int32.add_zero]; rfl
  | k + 1 => by rw [show m + (k + 1) = (m + k) + 1 from rfl, psum, psum_shift f m k, psum, Int32.add_assoc]
theorem psum_sub (f g : Nat → Int32) : ∀ k, psum (fun i => f i - g i) k = psum f k - psum g k
  | 0 => by rw [psum, psum, psum]; rfl
  | k + 1 => by
    rw [psum, psum, psum, psum_sub f g k]
    apply Int32.toBitVec_inj.mp
    simp only [Int32.toBitVec_add, Int32.toBitVec_sub, BitVec.sub_eq_add_neg, BitVec.neg_add]
    ac_rfl
theorem ow_end {S : zS} {nn j k t : Nat} (hS : ok S nn) (hj : j < S.1 1 0) (ht : t ≤ 300) (hlt : S.1 16 j ≤ t) (hk : S.1 16 j + k = t + 1) : (-psum (fun t => S.2.1 19 (301 * j + t)) (t + 1) + psum (fun k => dd S j (S.1 16 j + k)) (t + 1 - S.1 16 j), S) = (psum (fun i => dd S j (S.1 16 j + i) - S.2.1 19 (301 * j + (S.1 16 j + i))) k, S) := by
  have k1 := hS.1
  rw [show t + 1 - S.1 16 j = k by omega, ← hk, psum_shift, psum_0 (S.1 16 j) _ (fun i hi => hS.2.2.2.2.2.2.2.2.1 j i (by omega) (by omega) (Or.inr (Or.inl hi))), Int32.zero_add, psum_sub]
  rw [Int32.sub_eq_add_neg, Int32.add_comm]

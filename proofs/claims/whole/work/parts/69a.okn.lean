/-! WHAT HOLDS OF A STATE HOLDS BEHIND EVERY CALL -/
theorem ok_up {S : zS} {n : Nat} (h : ok S n) (hn : n + 1 < 1000000) : ok S (n + 1) := by
  obtain ⟨a1, a2, a3, a4, a5, a6, a7, a8, a9, a10, a11, a12⟩ := h
  exact ⟨a1, a2, a3, a4, a5, a6, fun h => ⟨Nat.le_succ_of_le (a7 h).1, (a7 h).2⟩, a8, a9, a10, a11, hn⟩
theorem cl_up {x c : Int32} {k : Nat} (h : x ≤ c) (hk : c.toNatClampNeg = k) : x.toNatClampNeg ≤ k := by
  rw [← hk]
  have h1 := (i_le x c).mp h
  show x.toInt.toNat ≤ c.toInt.toNat
  omega
theorem cl_dn {x c : Int32} {k : Nat} (h : c ≤ x) (hk : c.toNatClampNeg = k) : k ≤ x.toNatClampNeg := by
  rw [← hk]
  have h1 := (i_le c x).mp h
  show c.toInt.toNat ≤ x.toInt.toNat
  omega
theorem hix_lt {S : zS} {x : Int32} {j : Nat} (hn : S.1 1 0 ≤ 8) (h : hix S x = some j) : j < S.1 1 0 := by
  by_cases hc : 0 ≤ x ∧ x ≤ nI (S.1 1 0) - 1
  · obtain ⟨i, hi, -, he⟩ := hix_yes hn hc
    rw [he] at h
    cases h
    exact hi
  · rw [hix_no hc] at h
    cases h
theorem on_home {S : zS} {n : Nat} (h : ok S n) (hn : n + 1 < 1000000) (k a r f : Int32) : ok (sp_home S k a r f).2 (n + 1) := by
  rw [sp_home]
  split
  · rename_i hc
    split
    · exact ok_up h hn
    · rename_i h8
      obtain ⟨a1, a2, a3, a4, a5, a6, a7, a8, a9, a10, a11, a12⟩ := ok_up h hn
      have k1 := cl_up (k := 2) hc.1.2 (by decide)
      have k2 := cl_up (k := 2) hc.2.1.2 (by decide)
      have k3 := cl_up (k := 9) hc.2.2.1.2 (by decide)
      have k4 := cl_dn (k := 1) hc.2.2.1.1 (by decide)
      have k5 := cl_up (k := 9) hc.2.2.2.2 (by decide)
      refine ⟨⟨?_, a1.2.1, a1.2.2.1, a1.2.2.2⟩, ?_, a3, a4, a5, a6, a7, ?_, a9, ?_, a11, a12⟩
      · show S.1 1 0 + 1 ≤ 8
        omega
      · intro i hi
        have hi : i < S.1 1 0 + 1 := hi
        by_cases e : i = S.1 1 0
        · subst e
          simp [sN, sG]
          exact ⟨k1, k2, k4, k3, k5⟩
        · have := a2 i (by omega)
          simp [sN, sG, e]
          exact this
      · intro i hi
        have hi : S.1 1 0 + 1 ≤ i := hi
        exact a8 i (by omega)
      · intro i hi
        exact ⟨Nat.lt_succ_of_lt (a10 i hi).1, (a10 i hi).2⟩
  · exact ok_up h hn
theorem on_faults {S : zS} {n : Nat} (h : ok S n) (hn : n + 1 < 1000000) (x v : Int32) : ok (sp_faults S x v).2 (n + 1) := by
  rw [sp_faults]
  split
  · exact ok_up h hn
  · split
    · exact ok_up h hn
    · exact ok_up h hn
theorem on_points {S : zS} {n : Nat} (h : ok S n) (hn : n + 1 < 1000000) (x : Int32) : ok (sp_points S x).2 (n + 1) := by
  rw [sp_points]
  split
  · exact ok_up h hn
  · exact ok_up h hn
theorem on_law {S : zS} {n : Nat} (h : ok S n) (hn : n + 1 < 1000000) (y a b c w le st ba : Int32) : ok (sp_law S y a b c w le st ba).2 (n + 1) := by
  rw [sp_law]
  split
  · rename_i hc
    split
    · exact ok_up h hn
    · obtain ⟨a1, a2, a3, a4, a5, a6, a7, a8, a9, a10, a11, a12⟩ := ok_up h hn
      have k1 := cl_up (k := 30) hc.1.2 (by decide)
      refine ⟨a1, a2, ?_, ?_, a5, a6, a7, a8, a9, a10, a11, a12⟩
      · intro i
        show (if 9 = 9 ∧ i = y.toNatClampNeg then 1 else S.1 9 i) ≤ 1
        split
        · exact Nat.le_refl 1
        · exact a3 i
      · intro k hk
        have e : ∀ q, q < 7 → ¬ (217 + k = 7 * y.toNatClampNeg + q) := fun q hq z => by omega
        have e0 : ¬ (217 + k = 7 * y.toNatClampNeg) := e 0 (by omega)
        have e1 := e 1 (by omega)
        have e2 := e 2 (by omega)
        have e3 := e 3 (by omega)
        have e4 := e 4 (by omega)
        have e5 := e 5 (by omega)
        have e6 := e 6 (by omega)
        show (sLaw S y.toNatClampNeg a b c w le st ba).2.1 8 (217 + k) = zDef k
        rw [sLaw]
        simp only [sN, sG, true_and, e0, e1, e2, e3, e4, e5, e6, if_false]
        exact a4 k hk
  · exact ok_up h hn
theorem on_like {S : zS} {n : Nat} (h : ok S n) (hn : n + 1 < 1000000) (a p r : Int32) : ok (sp_like S a p r).2 (n + 1) := by
  rw [sp_like]
  split
  · split
    · exact ok_up h hn
    · rename_i h8
      obtain ⟨a1, a2, a3, a4, a5, a6, a7, a8, a9, a10, a11, a12⟩ := ok_up h hn
      refine ⟨⟨a1.1, ?_, a1.2.2.1, a1.2.2.2⟩, a2, a3, a4, ?_, a6, a7, a8, a9, a10, a11, a12⟩
      · show S.1 10 0 + 1 ≤ 12
        omega
      · intro i
        show (if 15 = 15 ∧ i = S.1 10 0 then 0 else S.1 15 i) ≤ 1
        split
        · exact Nat.zero_le 1
        · exact a5 i
  · exact ok_up h hn
theorem on_strike {S : zS} {n : Nat} (h : ok S n) (hn : n + 1 < 1000000) (x : Int32) : ok (sp_strike S x).2 (n + 1) := by
  rw [sp_strike]
  split
  · split
    · obtain ⟨a1, a2, a3, a4, a5, a6, a7, a8, a9, a10, a11, a12⟩ := ok_up h hn
      refine ⟨a1, a2, a3, a4, ?_, a6, a7, a8, a9, a10, a11, a12⟩
      intro i
      show (if 15 = 15 ∧ i = x.toNatClampNeg then 1 else S.1 15 i) ≤ 1
      split
      · exact Nat.le_refl 1
      · exact a5 i
    · exact ok_up h hn
  · exact ok_up h hn
theorem on_days {S : zS} {n : Nat} (h : ok S n) (hn : n + 1 < 1000000) (x : Int32) : ok (sp_days S x).2 (n + 1) := by
  rw [sp_days]
  split
  · split
    · exact ok_up h hn
    · rename_i h3
      obtain ⟨a1, a2, a3, a4, a5, a6, a7, a8, a9, a10, a11, a12⟩ := ok_up h hn
      refine ⟨⟨a1.1, a1.2.1, a1.2.2.1, ?_⟩, a2, a3, a4, a5, a6, ?_, a8, ?_, ?_, a11, a12⟩
      · show S.1 0 0 + x.toNatClampNeg ≤ 300
        omega
      · intro i
        exact ⟨(a7 i).1, Nat.le_trans (a7 i).2.1 (Nat.le_add_right _ _), (a7 i).2.2⟩
      · intro i d hi hd hc
        refine a9 i d hi hd ?_
        rcases hc with hc | hc
        · have hc : S.1 0 0 + x.toNatClampNeg < d := hc
          exact Or.inl (by omega)
        · exact Or.inr hc
      · intro i hi
        exact ⟨(a10 i hi).1, Nat.le_trans (a10 i hi).2.1 (Nat.le_add_right _ _), (a10 i hi).2.2⟩
  · exact ok_up h hn
theorem on_force {S : zS} {n : Nat} (h : ok S n) (hn : n + 1 < 1000000) (d w : Int32) : ok (sp_force S d w).2 (n + 1) := by
  rw [sp_force]
  split
  · exact ok_up h hn
  · exact ok_up h hn
theorem on_head {S : zS} {n : Nat} (h : ok S n) (hn : n + 1 < 1000000) (x d w : Int32) : ok (sp_head S x d w).2 (n + 1) := by
  rw [sp_head]
  split
  · exact ok_up h hn
  · split
    · exact ok_up h hn
    · exact ok_up h hn
theorem on_let {S : zS} {n : Nat} (h : ok S n) (hn : n + 1 < 1000000) (x r : Int32) : ok (sp_let S x r).2 (n + 1) := by
  rw [sp_let]
  split
  · exact ok_up h hn
  · rename_i j hj
    split
    · have hj := hix_lt h.1.1 hj
      have b7 := h.2.2.2.2.2.2.1
      obtain ⟨a1, a2, a3, a4, a5, a6, a7, a8, a9, a10, a11, a12⟩ := ok_up h hn
      refine ⟨a1, a2, a3, a4, a5, a6, ?_, ?_, ?_, ?_, a11, a12⟩
      · intro i
        by_cases e : i = j
        · subst e
          have := (b7 i).1
          simp [sN, sG, sZ]
          omega
        · have := a7 i
          simp [sN, sG, sZ, e]
          exact this
      · intro i hi
        have hi : S.1 1 0 ≤ i := hi
        have e : ¬ i = j := by omega
        simp [sN, sG, sZ, e]
        exact a8 i hi
      · intro i d hi hd hc
        show (if 19 = 19 ∧ 301 * j ≤ 301 * i + d ∧ 301 * i + d < 301 * j + 301 then 0 else S.2.1 19 (301 * i + d)) = 0
        by_cases e : i = j
        · subst e
          rw [if_pos ⟨rfl, by omega, by omega⟩]
        · rw [if_neg (fun z => e (by omega))]
          refine a9 i d hi hd ?_
          simp [sN, sG, sZ, e] at hc
          exact hc
      · intro i hi
        have q := a10 i hi
        refine ⟨q.1, q.2.1, ?_⟩
        by_cases e : S.1 21 i = j
        · have e1 := q.2.2.1
          have e2 : (sZ (sN (sG (sN S 16 j (S.1 0 0)) 17 j r) 18 j (S.1 18 j + 1)) j).1 18 (S.1 21 i) = S.1 18 j + 1 := by simp [sN, sG, sZ, e]
          rw [e] at e1
          refine ⟨?_, ?_⟩
          · show S.1 25 i ≤ (sZ (sN (sG (sN S 16 j (S.1 0 0)) 17 j r) 18 j (S.1 18 j + 1)) j).1 18 (S.1 21 i)
            rw [e2]
            omega
          · intro z
            have z : S.1 25 i = (sZ (sN (sG (sN S 16 j (S.1 0 0)) 17 j r) 18 j (S.1 18 j + 1)) j).1 18 (S.1 21 i) := z
            rw [e2] at z
            omega
        · have q2 := q.2.2
          simp [sN, sG, sZ, e]
          exact q2
    · exact ok_up h hn
theorem on_ask {S : zS} {n : Nat} (h : ok S n) (hn : n + 1 < 1000000) (x : Int32) : ok (sp_ask S x).2 (n + 1) := by
  rw [sp_ask]
  split
  · exact ok_up h hn
  · rename_i j hj
    split
    · exact ok_up h hn
    · split
      · exact ok_up h hn
      · rename_i h20
        have hj := hix_lt h.1.1 hj
        obtain ⟨a1, a2, a3, a4, a5, a6, a7, a8, a9, a10, a11, a12⟩ := ok_up h hn
        have v21 : ∀ i, (sAsk S j).1 21 i = if i = S.1 20 0 then j else S.1 21 i := fun i => by simp [sAsk, sN, sG]
        have v22 : ∀ i, (sAsk S j).1 22 i = if i = S.1 20 0 then S.1 0 0 else S.1 22 i := fun i => by simp [sAsk, sN, sG]
        have v25 : ∀ i, (sAsk S j).1 25 i = if i = S.1 20 0 then S.1 18 j else S.1 25 i := fun i => by simp [sAsk, sN, sG]
        have v26 : ∀ i, (sAsk S j).1 26 i = if i = S.1 20 0 then 0 else S.1 26 i := fun i => by simp [sAsk, sN, sG]
        refine ⟨⟨a1.1, a1.2.1, ?_, a1.2.2.2⟩, a2, a3, a4, a5, ?_, a7, a8, a9, ?_, ?_, a12⟩
        · show S.1 20 0 + 1 ≤ 20
          omega
        · intro i
          show (sAsk S j).1 26 i ≤ 1
          rw [v26]
          split
          · exact Nat.zero_le 1
          · exact a6 i
        · intro i hi
          have hi : i < S.1 20 0 + 1 := hi
          show (sAsk S j).1 21 i < S.1 1 0 ∧ (sAsk S j).1 22 i ≤ S.1 0 0 ∧ (sAsk S j).1 25 i ≤ S.1 18 ((sAsk S j).1 21 i) ∧ ((sAsk S j).1 25 i = S.1 18 ((sAsk S j).1 21 i) → S.1 16 ((sAsk S j).1 21 i) ≤ (sAsk S j).1 22 i)
          rw [v21, v22, v25]
          by_cases e : i = S.1 20 0
          · rw [if_pos e, if_pos e, if_pos e]
            exact ⟨hj, Nat.le_refl _, Nat.le_refl _, fun _ => (a7 j).2.1⟩
          · rw [if_neg e, if_neg e, if_neg e]
            exact a10 i (by omega)
        · intro i i' hi hi'
          have hi' : i' < S.1 20 0 + 1 := hi'
          show (sAsk S j).1 22 i ≤ (sAsk S j).1 22 i'
          rw [v22, v22]
          by_cases e : i' = S.1 20 0
          · rw [if_pos e]
            by_cases e2 : i = S.1 20 0
            · rw [if_pos e2]
              exact Nat.le_refl _
            · rw [if_neg e2]
              exact (a10 i (by omega)).2.1
          · rw [if_neg e, if_neg (by omega)]
            exact a11 i i' hi (by omega)
theorem on_open {S : zS} {n : Nat} (h : ok S n) (hn : n + 1 < 1000000) (x : Int32) : ok (sp_open S x).2 (n + 1) := by
  rw [sp_open]
  split
  · exact ok_up h hn
  · exact ok_up h hn
theorem on_appeal {S : zS} {n : Nat} (h : ok S n) (hn : n + 1 < 1000000) (x : Int32) : ok (sp_appeal S x).2 (n + 1) := by
  rw [sp_appeal]
  split
  · exact ok_up h hn
  · split
    · exact ok_up h hn
    · rename_i e _
      split
      · exact ok_up h hn
      · obtain ⟨a1, a2, a3, a4, a5, a6, a7, a8, a9, a10, a11, a12⟩ := ok_up h hn
        refine ⟨a1, a2, a3, a4, a5, ?_, a7, a8, a9, a10, a11, a12⟩
        intro i
        show (if 26 = 26 ∧ i = e then 1 else S.1 26 i) ≤ 1
        split
        · exact Nat.le_refl 1
        · exact a6 i
theorem on_entry {S : zS} {n : Nat} (h : ok S n) (hn : n + 1 < 1000000) (x w : Int32) : ok (sp_entry S x w).2 (n + 1) := by
  rw [sp_entry]
  split
  · exact ok_up h hn
  · exact ok_up h hn
theorem on_latest {S : zS} {n : Nat} (h : ok S n) (hn : n + 1 < 1000000) (x : Int32) : ok (sp_latest S x).2 (n + 1) := by
  rw [sp_latest]
  split
  · exact ok_up h hn
  · exact ok_up h hn
theorem on_due {S : zS} {n : Nat} (h : ok S n) (hn : n + 1 < 1000000) (x d : Int32) : ok (sp_due S x d).2 (n + 1) := by
  rw [sp_due]
  split
  · exact ok_up h hn
  · split
    · split
      · exact ok_up h hn
      · exact ok_up h hn
    · exact ok_up h hn
theorem on_pay {S : zS} {n : Nat} (h : ok S n) (hn : n + 1 < 1000000) (x v : Int32) : ok (sp_pay S x v).2 (n + 1) := by
  rw [sp_pay]
  split
  · exact ok_up h hn
  · rename_i j hj
    split
    · split
      · exact ok_up h hn
      · rename_i h18
        split
        · exact ok_up h hn
        · have hj := hix_lt h.1.1 hj
          obtain ⟨a1, a2, a3, a4, a5, a6, a7, a8, a9, a10, a11, a12⟩ := ok_up h hn
          refine ⟨a1, a2, a3, a4, a5, a6, a7, a8, ?_, a10, a11, a12⟩
          intro i d hi hd hc
          show (if 19 = 19 ∧ 301 * i + d = 301 * j + S.1 0 0 then S.2.1 19 (301 * j + S.1 0 0) + v else S.2.1 19 (301 * i + d)) = 0
          have hday := a1.2.2.2
          by_cases e : 301 * i + d = 301 * j + S.1 0 0
          · exfalso
            have e1 : i = j := by omega
            subst e1
            have e2 : d = S.1 0 0 := by omega
            subst e2
            rcases hc with hc | hc | hc
            · exact Nat.lt_irrefl _ hc
            · exact absurd (a7 i).2.1 (Nat.not_le.mpr hc)
            · exact h18 hc
          · rw [if_neg (fun z => e z.2)]
            exact a9 i d hi hd hc
    · exact ok_up h hn
theorem on_owed {S : zS} {n : Nat} (h : ok S n) (hn : n + 1 < 1000000) (x d : Int32) : ok (sp_owed S x d).2 (n + 1) := by
  rw [sp_owed]
  split
  · exact ok_up h hn
  · split
    · exact ok_up h hn
    · exact ok_up h hn
theorem on_count {S : zS} {n : Nat} (h : ok S n) (hn : n + 1 < 1000000) (x : Int32) : ok (sp_count S x).2 (n + 1) := ok_up h hn

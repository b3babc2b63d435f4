def sZk (S : zS) (j k : Nat) : zS := (S.1, fun a b => if a = 19 ∧ 301 * j ≤ b ∧ b < 301 * j + k then 0 else S.2.1 a b, S.2.2)
theorem sZk_0 (S : zS) (j : Nat) : S.2.1 19 = (sZk S j 0).2.1 19 := by
  funext b
  show _ = if 19 = 19 ∧ 301 * j ≤ b ∧ b < 301 * j + 0 then 0 else S.2.1 19 b
  rw [if_neg (by omega)]
theorem sZk_s (S : zS) (j k : Nat) : upd ((sZk S j k).2.1 19) (301 * j + k) 0 = (sZk S j (k + 1)).2.1 19 := by
  funext b
  show (if b = 301 * j + k then (0 : Int32) else if 19 = 19 ∧ 301 * j ≤ b ∧ b < 301 * j + k then 0 else S.2.1 19 b) = if 19 = 19 ∧ 301 * j ≤ b ∧ b < 301 * j + (k + 1) then 0 else S.2.1 19 b
  by_cases h1 : b = 301 * j + k
  · rw [if_pos h1, if_pos (by omega)]
  · rw [if_neg h1]
    by_cases h2 : 301 * j ≤ b ∧ b < 301 * j + k
    · rw [if_pos ⟨rfl, h2⟩, if_pos (by omega)]
    · rw [if_neg (fun q => h2 q.2), if_neg (by omega)]
theorem cL_let (S : zS) (j : Nat) (r : Int32) : upd (cL S) j (nI (S.1 0 0)) = cL (sN (sG (sN S 16 j (S.1 0 0)) 17 j r) 18 j (S.1 18 j + 1)) := by
  funext h
  by_cases c : h = j
  · subst c
    simp [upd, cL, sN, sG]
  · simp [upd, cL, sN, sG, c]
theorem let_end {cT : Nat → ClassId} {S S1 : zS} {X : Nat → Nat} {cz : Int32} {f27 f29 : Nat → Int32} {G : zG} {x r : Int32} {j k : Nat} (hh : hix S x = some j) (c16 : 1 ≤ r ∧ r ≤ 5000) (hS1 : S1 = sN (sG (sN S 16 j (S.1 0 0)) 17 j r) 18 j (S.1 18 j + 1)) (hk : k = 301) (hM : MD cT (sZk S1 j k) X cz f27 f29 G) : mQ cT X (sp_let S x r) (some (.int 1)) G := by
  subst hk
  subst hS1
  refine mQ_of (S := sZ (sN (sG (sN S 16 j (S.1 0 0)) 17 j r) 18 j (S.1 18 j + 1)) j) ?_ ⟨_, _, _, hM⟩
  rw [sp_let, hh]
  simp only []
  rw [if_pos c16]
theorem pd_ix {x : Int32} {j : Nat} (h : x = nI j) (k : Nat) : 301 * x + nI k = nI (301 * j + k) := by
  rw [h, show (301 : Int32) * nI j = nI (301 * j) from pk_mul 301 j, nI_add]
theorem cL_z {S : zS} {j : Nat} (h : S.1 18 j = 0) : cL S j = -1 := by rw [cL]; exact if_pos h
theorem cL_nz {S : zS} {j : Nat} (h : ¬ S.1 18 j = 0) : cL S j = nI (S.1 16 j) := by rw [cL]; exact if_neg h
theorem cL_pos {S : zS} {j : Nat} (c : 0 ≤ cL S j) : ¬ S.1 18 j = 0 := fun h => by rw [cL_z h] at c; exact absurd c (by decide)
theorem cL_nlt {S : zS} {j : Nat} (c : ¬ cL S j < 0) : ¬ S.1 18 j = 0 := fun h => by rw [cL_z h] at c; exact c (by decide)
theorem cL_neg {S : zS} {j t : Nat} (h : S.1 16 j ≤ t) (ht : t ≤ 300) (c : ¬ 0 ≤ cL S j) : S.1 18 j = 0 := by
  by_cases q : S.1 18 j = 0
  · exact q
  · rw [cL_nz q] at c
    exact absurd (nI_pos' (by omega)) c
theorem cL_lt {S : zS} {j t : Nat} (h : S.1 16 j ≤ t) (ht : t ≤ 300) (c : cL S j < 0) : S.1 18 j = 0 := by
  by_cases q : S.1 18 j = 0
  · exact q
  · rw [cL_nz q] at c
    exact absurd c (nI_pos (by omega))
theorem cnt_out {x : Int32} (q0 : ¬ x = 0) (q1 : ¬ x = 1) (q2 : ¬ x = 2) (q3 : ¬ x = 3) (q4 : ¬ x = 4) (q5 : ¬ x = 5) : x.toInt < 0 ∨ 5 < x.toInt := by
  have a0 : ¬ x.toInt = 0 := fun h => q0 (Int32.toInt_inj.mp h)
  have a1 : ¬ x.toInt = 1 := fun h => q1 (Int32.toInt_inj.mp h)
  have a2 : ¬ x.toInt = 2 := fun h => q2 (Int32.toInt_inj.mp h)
  have a3 : ¬ x.toInt = 3 := fun h => q3 (Int32.toInt_inj.mp h)
  have a4 : ¬ x.toInt = 4 := fun h => q4 (Int32.toInt_inj.mp h)
  have a5 : ¬ x.toInt = 5 := fun h => q5 (Int32.toInt_inj.mp h)
  omega
theorem ctL_1 {S : zS} {i : Nat} (h : ¬ S.1 18 i = 0) : nI (ctL S i) + 1 = nI (ctL S (i + 1)) := by rw [ctL, if_neg h, nI_1]
theorem ctL_0 {S : zS} {i : Nat} (h : S.1 18 i = 0) : nI (ctL S i) + 0 = nI (ctL S (i + 1)) := by rw [ctL, if_pos h, Int32.add_zero]; rfl
theorem ctT_0 {S : zS} {i : Nat} (k9 : S.1 9 i ≤ 1) (c : nI (S.1 9 i) = 0) : nI (ctT S i) + 0 = nI (ctT S (i + 1)) := by rw [ctT, if_pos (n0 (Nat.le_succ_of_le k9) c), Int32.add_zero]; rfl
theorem ctT_1 {S : zS} {i : Nat} (c : ¬ nI (S.1 9 i) = 0) : nI (ctT S i) + 1 = nI (ctT S (i + 1)) := by rw [ctT, if_neg (fun h => c (by rw [h]; rfl)), nI_1]
theorem ev_6 (S : zS) (e : Nat) : ev S e 6 = if S.1 26 e = 0 then 1 else 0 := rfl
theorem en_ix {x y : Int32} {a b : Nat} (hx : x = nI a) (hy : y = nI b) (h3 : 3 ≤ b) : 3 * x + y - 3 = nI (3 * a + (b - 3)) := by
  rw [hx, hy, show (3 : Int32) * nI a = nI (3 * a) from pk_mul 3 a, nI_add, show nI (3 * a + b) - 3 = nI (3 * a + b) - nI 3 from rfl, pk_sub (by omega)]
  congr 1
  omega
theorem bnd_someS {S : zS} {j t e : Nat} : ∀ {k : Nat}, bndS S j t k = some e → e < k ∧ S.1 21 e = j ∧ S.1 26 e = 0 ∧ S.1 25 e = S.1 18 j ∧ S.1 22 e ≤ t
  | 0, h => by cases h
  | k + 1, h => by
    rw [bndS] at h
    by_cases c : S.1 21 k = j ∧ S.1 26 k = 0 ∧ S.1 25 k = S.1 18 j ∧ S.1 22 k ≤ t
    · rw [if_pos c] at h
      have h2 : k = e := Option.some.inj h
      rw [← h2]
      exact ⟨Nat.lt_succ_self k, c⟩
    · rw [if_neg c] at h
      obtain ⟨a, b⟩ := bnd_someS h
      exact ⟨Nat.lt_succ_of_lt a, b⟩
theorem bnd_some {S : zS} {j t e : Nat} (h : bndS S j t (S.1 20 0) = some e) : e < S.1 20 0 ∧ S.1 21 e = j ∧ S.1 26 e = 0 ∧ S.1 25 e = S.1 18 j ∧ S.1 22 e ≤ t := bnd_someS h
theorem dv_n {S : zS} {j t : Nat} {f : Nat → Int32} (h : bndS S j t (S.1 20 0) = none) : S.2.1 17 j = dv S j t f := by unfold dv; rw [h]
theorem dv_s {S : zS} {j t e : Nat} {f : Nat → Int32} (h : bndS S j t (S.1 20 0) = some e) : dv S j t f = stp S e t (if S.1 22 e = S.1 16 j then S.2.1 17 j else f (S.1 22 e - 1)) := by unfold dv; rw [h]
theorem ris_e (o v : Int32) {d t : Nat} (h : d ≤ t) (ht : t < 100000) : o + v * ((nI t - nI d) / 10 + 1) = o + v * nI ((t - d) / 10 + 1) := by
  rw [pk_sub h, show nI (t - d) / 10 = nI ((t - d) / 10) from pk_div (d := 10) (by omega) (by decide) (by decide), nI_1]
theorem dv_1 {S : zS} {j t e : Nat} {f : Nat → Int32} (h : bndS S j t (S.1 20 0) = some e) (c : S.2.1 23 e ≤ if S.1 22 e = S.1 16 j then S.2.1 17 j else f (S.1 22 e - 1)) : S.2.1 23 e = dv S j t f := by
  rw [dv_s h, stp, if_neg (z_nl c)]
theorem dv_2 {S : zS} {j t e : Nat} {f : Nat → Int32} (h : bndS S j t (S.1 20 0) = some e) (c : ¬ S.2.1 23 e ≤ if S.1 22 e = S.1 16 j then S.2.1 17 j else f (S.1 22 e - 1)) (c2 : (if S.1 22 e = S.1 16 j then S.2.1 17 j else f (S.1 22 e - 1)) + lw S (S.1 22 e) 5 * nI ((t - S.1 22 e) / 10 + 1) ≤ S.2.1 23 e) : (if S.1 22 e = S.1 16 j then S.2.1 17 j else f (S.1 22 e - 1)) + lw S (S.1 22 e) 5 * nI ((t - S.1 22 e) / 10 + 1) = dv S j t f := by
  rw [dv_s h, stp, if_pos (z_lg c)]
  generalize (if S.1 22 e = S.1 16 j then S.2.1 17 j else f (S.1 22 e - 1)) + lw S (S.1 22 e) 5 * nI ((t - S.1 22 e) / 10 + 1) = v at c2 ⊢
  by_cases q : v < S.2.1 23 e
  · rw [if_pos q]
  · rw [if_neg q]
    apply Int32.toInt_inj.mp
    rw [i_le] at c2; rw [i_lt] at q; omega
theorem dv_3 {S : zS} {j t e : Nat} {f : Nat → Int32} (h : bndS S j t (S.1 20 0) = some e) (c : ¬ S.2.1 23 e ≤ if S.1 22 e = S.1 16 j then S.2.1 17 j else f (S.1 22 e - 1)) (c2 : ¬ (if S.1 22 e = S.1 16 j then S.2.1 17 j else f (S.1 22 e - 1)) + lw S (S.1 22 e) 5 * nI ((t - S.1 22 e) / 10 + 1) ≤ S.2.1 23 e) : S.2.1 23 e = dv S j t f := by
  rw [dv_s h, stp, if_pos (z_lg c), if_neg (fun q => c2 (by rw [i_le]; rw [i_lt] at q; omega))]
theorem duT_stay (S : zS) (j : Nat) (f : Nat → Int32) (i : Nat) : ∀ k, i < k → duT S j f k (S.1 16 j + i) = duT S j f (i + 1) (S.1 16 j + i)
  | 0, h => absurd h (Nat.not_lt_zero i)
  | k + 1, h => by
    by_cases q : i = k
    · rw [q]
    · rw [show duT S j f (k + 1) = upd (duT S j f k) (S.1 16 j + k) (dv S j (S.1 16 j + k) (duT S j f k)) from rfl]
      show (if S.1 16 j + i = S.1 16 j + k then _ else _) = _
      rw [if_neg (by omega)]
      exact duT_stay S j f i k (by omega)
theorem dv_cong {S : zS} {nn j k : Nat} {f g : Nat → Int32} (hS : ok S nn) (h : ∀ i, i < k → f (S.1 16 j + i) = g (S.1 16 j + i)) : dv S j (S.1 16 j + k) f = dv S j (S.1 16 j + k) g := by
  cases hb : bndS S j (S.1 16 j + k) (S.1 20 0) with
  | none => rw [← dv_n hb, ← dv_n hb]
  | some e =>
    obtain ⟨b1, b2, b3, b4, b5⟩ := bnd_some hb
    have w := hS.2.2.2.2.2.2.2.2.2.1 e b1
    rw [b2] at w
    have hge := w.2.2.2 b4
    rw [dv_s hb, dv_s hb]
    by_cases q : S.1 22 e = S.1 16 j
    · rw [if_pos q, if_pos q]
    · rw [if_neg q, if_neg q]
      have hx := h (S.1 22 e - 1 - S.1 16 j) (by omega)
      rw [show S.1 16 j + (S.1 22 e - 1 - S.1 16 j) = S.1 22 e - 1 by omega] at hx
      rw [hx]
theorem duT_cong {S : zS} {nn j : Nat} (f g : Nat → Int32) (hS : ok S nn) : ∀ k i, i < k → duT S j f k (S.1 16 j + i) = duT S j g k (S.1 16 j + i)
  | 0, i, h => absurd h (Nat.not_lt_zero i)
  | k + 1, i, h => by
    have ih := duT_cong (j := j) f g hS k
    show (if S.1 16 j + i = S.1 16 j + k then dv S j (S.1 16 j + k) (duT S j f k) else duT S j f k (S.1 16 j + i)) = (if S.1 16 j + i = S.1 16 j + k then dv S j (S.1 16 j + k) (duT S j g k) else duT S j g k (S.1 16 j + i))
    by_cases q : i = k
    · rw [if_pos (by omega), if_pos (by omega)]
      exact dv_cong hS ih
    · rw [if_neg (by omega), if_neg (by omega)]
      exact ih i (by omega)
theorem dd_e (S : zS) {nn : Nat} (j : Nat) (f : Nat → Int32) (hS : ok S nn) (_ : j < S.1 1 0) (_ : ¬ S.1 18 j = 0) {t u : Nat} (h1 : S.1 16 j ≤ t) (h2 : t ≤ u) : duT S j f (u + 1 - S.1 16 j) t = dd S j t := by
  obtain ⟨i, rfl⟩ : ∃ i, t = S.1 16 j + i := ⟨t - S.1 16 j, by omega⟩
  rw [duT_stay S j f i _ (by omega), dd, show S.1 16 j + i + 1 - S.1 16 j = i + 1 by omega]
  exact duT_cong f _ hS (i + 1) i (Nat.lt_succ_self i)
theorem due_c {S : zS} {j t : Nat} (h : ¬ S.1 18 j = 0) (hlt : S.1 16 j ≤ t) : ¬ (S.1 18 j = 0 ∨ t < S.1 16 j) := by omega
theorem ow_s {A P a b : Int32} (h : a = b) : A + P + a = A + (P + b) := by rw [h, Int32.add_assoc]

def zfill (f : Nat → Int32) (k : Nat) : Nat → Int32 := fun d => if d < k then 0 else f d
theorem zfill_0 (f : Nat → Int32) : zfill f 0 = f := by funext d; simp [zfill]
theorem zfill_s (f : Nat → Int32) (k : Nat) : upd (zfill f k) k 0 = zfill f (k + 1) := by
  funext d
  show (if d = k then (0 : Int32) else if d < k then 0 else f d) = if d < k + 1 then 0 else f d
  by_cases h1 : d = k
  · rw [if_pos h1, if_pos (by omega)]
  · rw [if_neg h1]
    by_cases h2 : d < k
    · rw [if_pos h2, if_pos (by omega)]
    · rw [if_neg h2, if_neg (by omega)]
theorem up_same {G : zG} {b : Nat} {x : va_E} (h : G b = some x) : G = va_up G b (some x) := by
  funext q
  by_cases c : q = b
  · rw [c, va_up_self, h]
  · rw [va_up_ne _ _ c]
theorem lwA_cong {S T : zS} (X : Nat → Nat → Nat) (e9 : S.1 9 = T.1 9) (d : Nat) : lwA S X d = lwA T X d := by
  rw [lwA, lwA, yx, yx, yrS_cong e9]
section CU
variable {cT : Nat → ClassId} {S T : zS} {X : Nat → Nat → Nat} {ct md sc rp : Int32} {fo fd : Nat → Int32} {G : zG} {ct' md' sc' rp' : Int32} {fo' fd' : Nat → Int32}
theorem fC6 {b : Nat} (e20 : S.1 20 = T.1 20) (e21 : S.1 21 = T.1 21) (e22 : S.1 22 = T.1 22) (e25 : S.1 25 = T.1 25) (e26 : S.1 26 = T.1 26) (e9 : S.1 9 = T.1 9) (e23 : S.2.1 23 = T.2.1 23) (e24 : S.2.1 24 = T.2.1 24) : fC cT S X ct md sc rp fo fd 6 b = fC cT T X ct' md' sc' rp' fo' fd' 6 b := by
  show (if b < S.1 20 0 then some (Sum.inr (0, [Value.int (nI (S.1 21 b)), .int (nI (S.1 25 b)), .int (nI (S.1 22 b)), .ref (lwA S X (S.1 22 b)), .int (S.2.1 23 b), .int (S.2.1 24 (3 * b)), .int (S.2.1 24 (3 * b + 1)), .int (S.2.1 24 (3 * b + 2)), .int (if S.1 26 b = 0 then 1 else 0)])) else none) = (if b < T.1 20 0 then some (Sum.inr (0, [Value.int (nI (T.1 21 b)), .int (nI (T.1 25 b)), .int (nI (T.1 22 b)), .ref (lwA T X (T.1 22 b)), .int (T.2.1 23 b), .int (T.2.1 24 (3 * b)), .int (T.2.1 24 (3 * b + 1)), .int (T.2.1 24 (3 * b + 2)), .int (if T.1 26 b = 0 then 1 else 0)])) else none)
  rw [e20, e21, e22, e25, e26, e23, e24, lwA_cong X e9]
theorem ne1 {j : Nat} (hj : j < S.1 1 0) : fC cT S X ct md sc rp fo fd 1 j ≠ none := by show (if j < S.1 1 0 then _ else _) ≠ none; rw [if_pos hj]; exact fun z => by cases z
theorem ne3 {j : Nat} (hj : j < S.1 1 0) : fC cT S X ct md sc rp fo fd 3 j ≠ none := by show (if j < S.1 1 0 then _ else _) ≠ none; rw [if_pos hj]; exact fun z => by cases z
theorem ne4 {j : Nat} (hj : j < S.1 1 0) : fC cT S X ct md sc rp fo fd 4 j ≠ none := by show (if j < S.1 1 0 then _ else _) ≠ none; rw [if_pos hj]; exact fun z => by cases z
theorem ne5 {j : Nat} (hj : j < S.1 10 0) : fC cT S X ct md sc rp fo fd 5 j ≠ none := by show (if j < S.1 10 0 then _ else _) ≠ none; rw [if_pos hj]; exact fun z => by cases z
theorem ne6 {j : Nat} (hj : j < S.1 20 0) : fC cT S X ct md sc rp fo fd 6 j ≠ none := by show (if j < S.1 20 0 then _ else _) ≠ none; rw [if_pos hj]; exact fun z => by cases z
theorem fr_faults (hF : FR cT S X ct md sc rp fo fd G) {j : Nat} (hj : j < S.1 1 0) (v : Int32) : FR cT (sG S 6 j v) X ct md sc rp fo fd (va_up G (X 1 j) (some (.inr (3, [.ref (X 2 j), .int (nI (S.1 3 j)), .ref (X 3 j), .int v])))) := by
  refine Pic.set hF 1 j (ne1 hj) _ (fun a b => ?_)
  by_cases q : a = 1 ∧ b = j
  · obtain ⟨rfl, rfl⟩ := q
    rw [if_pos ⟨rfl, rfl⟩]
    show (if b < S.1 1 0 then some (Sum.inr (3, [Value.ref (X 2 b), .int (nI (S.1 3 b)), .ref (X 3 b), .int (if 6 = 6 ∧ b = b then v else S.2.1 6 b)])) else none) = _
    rw [if_pos hj, if_pos ⟨rfl, rfl⟩]
  · rw [if_neg q]
    rcases a with _ | _ | _ | _ | _ | _ | _ | _ | _ | a
    · rcases b with _ | _ | _ | _ | _ | _ | _ | _ | _ | _ | b <;> rfl
    · show (if b < S.1 1 0 then some (Sum.inr (3, [Value.ref (X 2 b), .int (nI (S.1 3 b)), .ref (X 3 b), .int (if 6 = 6 ∧ b = j then v else S.2.1 6 b)])) else none) = _
      rw [if_neg (c := 6 = 6 ∧ b = j) (fun z => q ⟨rfl, z.2⟩)]
      rfl
    · rfl
    · rfl
    · rfl
    · rfl
    · exact fC6 rfl rfl rfl rfl rfl rfl rfl rfl
    · rfl
    · rfl
    · rfl
theorem fr_o (hF : FR cT S X ct md sc rp fo fd G) (T : zS) (hT : ∃ (t : Nat) (u : Int64), T = sT (sN S 0 0 t) u) : FR cT T X ct md sc rp fo fd (va_up G (X 0 0) (some (.inr (9, [.ref (X 0 1), .ref (X 0 2), .ref (X 0 3), .ref (X 0 4), .ref (X 0 5), .ref (X 0 7), .ref (X 0 9), .int (nI (S.1 1 0)), .int (nI (S.1 10 0)), .int (nI (S.1 20 0)), .int (nI (T.1 0 0)), .long T.2.2])))) := by
  obtain ⟨t, u, rfl⟩ := hT
  refine Pic.set hF 0 0 (fun z => by cases z) _ (fun a b => ?_)
  by_cases q : a = 0 ∧ b = 0
  · obtain ⟨rfl, rfl⟩ := q
    rfl
  · rw [if_neg q]
    rcases a with _ | _ | _ | _ | _ | _ | _ | _ | _ | a
    · rcases b with _ | _ | _ | _ | _ | _ | _ | _ | _ | _ | b
      · exact absurd ⟨rfl, rfl⟩ q
      all_goals rfl
    · rfl
    · rfl
    · rfl
    · rfl
    · rfl
    · exact fC6 rfl rfl rfl rfl rfl rfl rfl rfl
    · rfl
    · rfl
    · rfl
theorem fr_strike (hF : FR cT S X ct md sc rp fo fd G) {j : Nat} (hj : j < S.1 10 0) : FR cT (sN S 15 j 1) X ct md sc rp fo fd (va_up G (X 5 j) (some (.inr (6, [.int (S.2.1 11 j), .int (S.2.1 12 j), .int (S.2.1 13 j), .int (S.2.1 14 j), .int 1])))) := by
  refine Pic.set hF 5 j (ne5 hj) _ (fun a b => ?_)
  by_cases q : a = 5 ∧ b = j
  · obtain ⟨rfl, rfl⟩ := q
    rw [if_pos ⟨rfl, rfl⟩]
    show (if b < S.1 10 0 then some (Sum.inr (6, [Value.int (S.2.1 11 b), .int (S.2.1 12 b), .int (S.2.1 13 b), .int (S.2.1 14 b), .int (nI (if 15 = 15 ∧ b = b then 1 else S.1 15 b))])) else none) = _
    rw [if_pos hj, if_pos ⟨rfl, rfl⟩]
    rfl
  · rw [if_neg q]
    rcases a with _ | _ | _ | _ | _ | _ | _ | _ | _ | a
    · rcases b with _ | _ | _ | _ | _ | _ | _ | _ | _ | _ | b <;> rfl
    · rfl
    · rfl
    · rfl
    · rfl
    · show (if b < S.1 10 0 then some (Sum.inr (6, [Value.int (S.2.1 11 b), .int (S.2.1 12 b), .int (S.2.1 13 b), .int (S.2.1 14 b), .int (nI (if 15 = 15 ∧ b = j then 1 else S.1 15 b))])) else none) = _
      rw [if_neg (c := 15 = 15 ∧ b = j) (fun z => q ⟨rfl, z.2⟩)]
      rfl
    · exact fC6 rfl rfl rfl rfl rfl rfl rfl rfl
    · rfl
    · rfl
    · rfl
theorem fr_appeal (hF : FR cT S X ct md sc rp fo fd G) {j : Nat} (hj : j < S.1 20 0) : FR cT (sN S 26 j 1) X ct md sc rp fo fd (va_up G (X 6 j) (some (.inr (0, [.int (nI (S.1 21 j)), .int (nI (S.1 25 j)), .int (nI (S.1 22 j)), .ref (lwA S X (S.1 22 j)), .int (S.2.1 23 j), .int (S.2.1 24 (3 * j)), .int (S.2.1 24 (3 * j + 1)), .int (S.2.1 24 (3 * j + 2)), .int 0])))) := by
  refine Pic.set hF 6 j (ne6 hj) _ (fun a b => ?_)
  by_cases q : a = 6 ∧ b = j
  · obtain ⟨rfl, rfl⟩ := q
    rw [if_pos ⟨rfl, rfl⟩]
    show (if b < S.1 20 0 then some (Sum.inr (0, [Value.int (nI (S.1 21 b)), .int (nI (S.1 25 b)), .int (nI (S.1 22 b)), .ref (lwA (sN S 26 b 1) X (S.1 22 b)), .int (S.2.1 23 b), .int (S.2.1 24 (3 * b)), .int (S.2.1 24 (3 * b + 1)), .int (S.2.1 24 (3 * b + 2)), .int (if (if 26 = 26 ∧ b = b then 1 else S.1 26 b) = 0 then 1 else 0)])) else none) = _
    rw [if_pos hj, lwA_cong X (S := sN S 26 b 1) (T := S) rfl, if_pos (c := 26 = 26 ∧ b = b) ⟨rfl, rfl⟩]
    rfl
  · rw [if_neg q]
    rcases a with _ | _ | _ | _ | _ | _ | _ | _ | _ | a
    · rcases b with _ | _ | _ | _ | _ | _ | _ | _ | _ | _ | b <;> rfl
    · rfl
    · rfl
    · rfl
    · rfl
    · rfl
    · show (if b < S.1 20 0 then some (Sum.inr (0, [Value.int (nI (S.1 21 b)), .int (nI (S.1 25 b)), .int (nI (S.1 22 b)), .ref (lwA (sN S 26 j 1) X (S.1 22 b)), .int (S.2.1 23 b), .int (S.2.1 24 (3 * b)), .int (S.2.1 24 (3 * b + 1)), .int (S.2.1 24 (3 * b + 2)), .int (if (if 26 = 26 ∧ b = j then 1 else S.1 26 b) = 0 then 1 else 0)])) else none) = _
      rw [lwA_cong X (S := sN S 26 j 1) (T := S) rfl, if_neg (c := 26 = 26 ∧ b = j) (fun z => q ⟨rfl, z.2⟩)]
      rfl
    · rfl
    · rfl
    · rfl
/-- the scratch cells -/
theorem fr_7 (hF : FR cT S X ct md sc rp fo fd G) : FR cT S X ct' md' sc' rp' fo fd (va_up G (X 0 7) (some (.inr (2, [.ref (X 0 8), .int ct', .int md', .int sc', .int rp'])))) := by
  refine Pic.set hF 0 7 (fun z => by cases z) _ (fun a b => ?_)
  by_cases q : a = 0 ∧ b = 7
  · obtain ⟨rfl, rfl⟩ := q
    rfl
  · rw [if_neg q]
    rcases a with _ | _ | _ | _ | _ | _ | _ | _ | _ | a
    · rcases b with _ | _ | _ | _ | _ | _ | _ | _ | _ | _ | b
      all_goals first | rfl | exact absurd ⟨rfl, rfl⟩ q
    all_goals rfl
theorem fr_8 (hF : FR cT S X ct md sc rp fo fd G) : FR cT S X ct md sc rp fo' fd (va_up G (X 0 8) (some (.inl (cT 0, 12, .inl fo')))) := by
  refine Pic.set hF 0 8 (fun z => by cases z) _ (fun a b => ?_)
  by_cases q : a = 0 ∧ b = 8
  · obtain ⟨rfl, rfl⟩ := q
    rfl
  · rw [if_neg q]
    rcases a with _ | _ | _ | _ | _ | _ | _ | _ | _ | a
    · rcases b with _ | _ | _ | _ | _ | _ | _ | _ | _ | _ | b
      all_goals first | rfl | exact absurd ⟨rfl, rfl⟩ q
    all_goals rfl
theorem fr_9 (hF : FR cT S X ct md sc rp fo fd G) : FR cT S X ct md sc rp fo fd' (va_up G (X 0 9) (some (.inl (cT 0, 301, .inl fd')))) := by
  refine Pic.set hF 0 9 (fun z => by cases z) _ (fun a b => ?_)
  by_cases q : a = 0 ∧ b = 9
  · obtain ⟨rfl, rfl⟩ := q
    rfl
  · rw [if_neg q]
    rcases a with _ | _ | _ | _ | _ | _ | _ | _ | _ | a
    · rcases b with _ | _ | _ | _ | _ | _ | _ | _ | _ | _ | b
      all_goals first | rfl | exact absurd ⟨rfl, rfl⟩ q
    all_goals rfl
/-- a letting and its sums, both at once: the state changes at one home alone -/
theorem fr_34 (hF : FR cT S X ct md sc rp fo fd G) {j : Nat} (hj : j < S.1 1 0) (e1 : ∀ k, k = 0 ∨ k = 1 ∨ k = 2 ∨ k = 3 ∨ k = 4 ∨ k = 5 ∨ k = 9 ∨ k = 10 ∨ k = 15 ∨ k = 20 ∨ k = 21 ∨ k = 22 ∨ k = 25 ∨ k = 26 → T.1 k = S.1 k) (e2 : ∀ k, k = 6 ∨ k = 8 ∨ k = 11 ∨ k = 12 ∨ k = 13 ∨ k = 14 ∨ k = 23 ∨ k = 24 → T.2.1 k = S.2.1 k) (e3 : T.2.2 = S.2.2) (e4 : ∀ h, h ≠ j → T.1 18 h = S.1 18 h ∧ T.1 16 h = S.1 16 h ∧ T.2.1 17 h = S.2.1 17 h ∧ rowS T h = rowS S h) {v : Int32} (hv : v = psum (rowS T j) 301) :
    FR cT T X ct md sc rp fo fd (va_up (va_up G (X 4 j) (some (.inl (cT 0, 301, .inl (rowS T j))))) (X 3 j) (some (.inr (5, [.ref (X 4 j), .int (nI (T.1 18 j)), .int (nI (T.1 16 j)), .int (T.2.1 17 j), .int v])))) := by
  subst hv
  have h1 : Pic (fun a b => if a = 4 ∧ b = j then some (.inl (cT 0, 301, .inl (rowS T j))) else fC cT S X ct md sc rp fo fd a b) X (va_up G (X 4 j) (some (.inl (cT 0, 301, .inl (rowS T j))))) := Pic.set hF 4 j (ne4 hj) _ (fun a b => rfl)
  refine Pic.set h1 3 j (by rw [if_neg (by omega)]; exact ne3 hj) _ (fun a b => ?_)
  have hnH : T.1 1 = S.1 1 := e1 1 (by omega)
  by_cases q : a = 3 ∧ b = j
  · obtain ⟨rfl, rfl⟩ := q
    rw [if_pos ⟨rfl, rfl⟩]
    show (if b < T.1 1 0 then some (Sum.inr (5, [Value.ref (X 4 b), .int (nI (T.1 18 b)), .int (nI (T.1 16 b)), .int (T.2.1 17 b), .int (psum (rowS T b) 301)])) else none) = _
    rw [hnH, if_pos hj]
  · rw [if_neg q]
    by_cases q4 : a = 4 ∧ b = j
    · rw [if_pos q4]
      obtain ⟨rfl, rfl⟩ := q4
      show (if b < T.1 1 0 then some (.inl (cT 0, 301, .inl (rowS T b))) else none : Option va_E) = _
      rw [hnH, if_pos hj]
    · rw [if_neg q4]
      rcases a with _ | _ | _ | _ | _ | _ | _ | _ | _ | a
      · have e20 : T.1 20 = S.1 20 := e1 20 (by omega)
        have e10 : T.1 10 = S.1 10 := e1 10 (by omega)
        have e0 : T.1 0 = S.1 0 := e1 0 (by omega)
        have e9 : T.1 9 = S.1 9 := e1 9 (by omega)
        rcases b with _ | _ | _ | _ | _ | _ | _ | _ | _ | _ | b
        · show some (Sum.inr (9, [Value.ref (X 0 1), .ref (X 0 2), .ref (X 0 3), .ref (X 0 4), .ref (X 0 5), .ref (X 0 7), .ref (X 0 9), .int (nI (T.1 1 0)), .int (nI (T.1 10 0)), .int (nI (T.1 20 0)), .int (nI (T.1 0 0)), .long T.2.2])) = _
          rw [hnH, e20, e10, e0, e3]; rfl
        · show (some (.inl (cT 2, 8, .inr (.inr (.inr (.inr (fHo T X)))))) : Option va_E) = _
          unfold fHo; rw [hnH]; rfl
        · show (some (.inl (cT 3, 12, .inr (.inr (.inr (.inr (fLi T X)))))) : Option va_E) = _
          unfold fLi; rw [e10]; rfl
        · show (some (.inl (cT 4, 20, .inr (.inr (.inr (.inr (fEn T X)))))) : Option va_E) = _
          unfold fEn; rw [e20]; rfl
        · show (some (.inl (cT 5, 31, .inr (.inr (.inr (.inr (fLa T X)))))) : Option va_E) = _
          unfold fLa; rw [e9]; rfl
        all_goals rfl
      · show (if b < T.1 1 0 then some (Sum.inr (3, [Value.ref (X 2 b), .int (nI (T.1 3 b)), .ref (X 3 b), .int (T.2.1 6 b)])) else none) = _
        rw [hnH, e1 3 (by omega), e2 6 (by omega)]; rfl
      · show (if b < T.1 1 0 then some (bdy T b) else none) = _
        rw [hnH, bdy, e1 2 (by omega), e1 4 (by omega), e1 5 (by omega)]; rfl
      · have hb : b ≠ j := fun z => q ⟨rfl, z⟩
        obtain ⟨g1, g2, g3, g4⟩ := e4 b hb
        show (if b < T.1 1 0 then some (Sum.inr (5, [Value.ref (X 4 b), .int (nI (T.1 18 b)), .int (nI (T.1 16 b)), .int (T.2.1 17 b), .int (psum (rowS T b) 301)])) else none) = _
        rw [hnH, g1, g2, g3, g4]; rfl
      · have hb : b ≠ j := fun z => q4 ⟨rfl, z⟩
        obtain ⟨g1, g2, g3, g4⟩ := e4 b hb
        show (if b < T.1 1 0 then some (.inl (cT 0, 301, .inl (rowS T b))) else none : Option va_E) = _
        rw [hnH, g4]; rfl
      · show (if b < T.1 10 0 then some (Sum.inr (6, [Value.int (T.2.1 11 b), .int (T.2.1 12 b), .int (T.2.1 13 b), .int (T.2.1 14 b), .int (nI (T.1 15 b))])) else none) = _
        rw [e1 10 (by omega), e2 11 (by omega), e2 12 (by omega), e2 13 (by omega), e2 14 (by omega), e1 15 (by omega)]; rfl
      · exact fC6 (e1 20 (by omega)) (e1 21 (by omega)) (e1 22 (by omega)) (e1 25 (by omega)) (e1 26 (by omega)) (e1 9 (by omega)) (e2 23 (by omega)) (e2 24 (by omega))
      · show (if b < 31 ∧ T.1 9 b = 1 then some (Sum.inr (4, [Value.ref (X 8 b)])) else none) = _
        rw [e1 9 (by omega)]; rfl
      · show (if b < 31 ∧ T.1 9 b = 1 then some (.inl (cT 0, 8, .inl (lwF T b))) else none : Option va_E) = _
        unfold lwF; rw [e1 9 (by omega), e2 8 (by omega)]; rfl
      · rfl
end CU

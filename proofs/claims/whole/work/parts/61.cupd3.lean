def xU (X : Nat → Nat → Nat) (k i q : Nat) : Nat → Nat → Nat := fun a b => if a = k ∧ b = i then q else X a b
theorem Pic.ren {c c' : Nat → Nat → Option va_E} {X : Nat → Nat → Nat} {G : zG} (h : Pic c X G) (k i q : Nat) (hq : G q = none) (e : va_E) (hc : ∀ a b, c' a b = if a = k ∧ b = i then some e else c a b) : Pic c' (xU X k i q) (va_up G q (some e)) := by
  have h0 : Pic (fun a b => if a = k ∧ b = i then none else c a b) X G := ⟨fun a b e1 hab => h.1 a b e1 (by
    by_cases z : a = k ∧ b = i
    · have hab' : (if a = k ∧ b = i then none else c a b) = some e1 := hab
      rw [if_pos z] at hab'; cases hab'
    · have hab' : (if a = k ∧ b = i then none else c a b) = some e1 := hab
      rw [if_neg z] at hab'; exact hab'), fun a b a' b' h1 h2 hx => h.2 a b a' b' (by
    intro z; apply h1; show (if a = k ∧ b = i then none else c a b) = none; rw [z]; by_cases y : a = k ∧ b = i <;> simp [y]) (by
    intro z; apply h2; show (if a' = k ∧ b' = i then none else c a' b') = none; rw [z]; by_cases y : a' = k ∧ b' = i <;> simp [y]) hx⟩
  refine Pic.new h0 k i q hq (fun a b => rfl) (if_pos ⟨rfl, rfl⟩) e (fun a b => ?_)
  rw [hc]
  by_cases z : a = k ∧ b = i
  · rw [if_pos z, if_pos z]
  · rw [if_neg z, if_neg z]
    show _ = if a = k ∧ b = i then none else c a b
    rw [if_neg z]
theorem Pic.garb {c : Nat → Nat → Option va_E} {X : Nat → Nat → Nat} {G : zG} (h : Pic c X G) (q : Nat) (hq : G q = none) (e : va_E) : Pic c X (va_up G q (some e)) := by
  refine ⟨fun a b e1 hab => ?_, h.2⟩
  have h1 := h.1 a b e1 hab
  have hne : X a b ≠ q := fun z => by rw [z, hq] at h1; cases h1
  rw [va_up_ne _ _ hne]
  exact h1
theorem lwA_cong2 {S T : zS} {X Y : Nat → Nat → Nat} {d : Nat} (e : yx S d = yx T d) (e5 : X 0 5 = Y 0 5) (e7 : ¬ yx T d = 31 → X 7 (yx T d) = Y 7 (yx T d)) : lwA S X d = lwA T Y d := by
  rw [lwA, lwA, e]
  by_cases c : yx T d = 31
  · rw [if_pos c, if_pos c, e5]
  · rw [if_neg c, if_neg c, e7 c]
theorem yx_cong {S T : zS} (e9 : S.1 9 = T.1 9) (d : Nat) : yx S d = yx T d := by rw [yx, yx, yrS_cong e9]
theorem qcong {c : ClassId} {n : Nat} {f g : Nat → Option Nat} (h : ∀ i, f i = g i) : (some (.inl (c, n, .inr (.inr (.inr (.inr f))))) : Option va_E) = some (.inl (c, n, .inr (.inr (.inr (.inr g))))) := by rw [show f = g from funext h]
section C3
variable {cT : Nat → ClassId} {S T : zS} {X Y : Nat → Nat → Nat} {ct md sc rp : Int32} {fo fd : Nat → Int32} {G : zG} {ct' md' sc' rp' : Int32} {fo' fd' : Nat → Int32}
theorem fC6x {b : Nat} (e20 : b < S.1 20 0 ↔ b < T.1 20 0) (hb : b < T.1 20 0 → S.1 21 b = T.1 21 b ∧ S.1 25 b = T.1 25 b ∧ S.1 22 b = T.1 22 b ∧ S.1 26 b = T.1 26 b ∧ S.2.1 23 b = T.2.1 23 b ∧ S.2.1 24 (3 * b) = T.2.1 24 (3 * b) ∧ S.2.1 24 (3 * b + 1) = T.2.1 24 (3 * b + 1) ∧ S.2.1 24 (3 * b + 2) = T.2.1 24 (3 * b + 2) ∧ lwA S X (T.1 22 b) = lwA T Y (T.1 22 b)) : fC cT S X ct md sc rp fo fd 6 b = fC cT T Y ct' md' sc' rp' fo' fd' 6 b := by
  show (if b < S.1 20 0 then some (Sum.inr (0, [Value.int (nI (S.1 21 b)), .int (nI (S.1 25 b)), .int (nI (S.1 22 b)), .ref (lwA S X (S.1 22 b)), .int (S.2.1 23 b), .int (S.2.1 24 (3 * b)), .int (S.2.1 24 (3 * b + 1)), .int (S.2.1 24 (3 * b + 2)), .int (if S.1 26 b = 0 then 1 else 0)])) else none) = (if b < T.1 20 0 then some (Sum.inr (0, [Value.int (nI (T.1 21 b)), .int (nI (T.1 25 b)), .int (nI (T.1 22 b)), .ref (lwA T Y (T.1 22 b)), .int (T.2.1 23 b), .int (T.2.1 24 (3 * b)), .int (T.2.1 24 (3 * b + 1)), .int (T.2.1 24 (3 * b + 2)), .int (if T.1 26 b = 0 then 1 else 0)])) else none)
  by_cases c : b < T.1 20 0
  · obtain ⟨g1, g2, g3, g4, g5, g6, g7, g8, g9⟩ := hb c
    rw [if_pos c, if_pos (e20.mpr c), g1, g2, g3, g4, g5, g6, g7, g8, g9]
  · rw [if_neg c, if_neg (fun z => c (e20.mp z))]
theorem fr_like (hF : FR cT S X ct md sc rp fo fd G) {q : Nat} (hq : G q = none) (x p r : Int32) : FR cT (sN (sN (sG (sG (sG (sG S 11 (S.1 10 0) x) 12 (S.1 10 0) p) 13 (S.1 10 0) r) 14 (S.1 10 0) (nI (S.1 0 0))) 15 (S.1 10 0) 0) 10 0 (S.1 10 0 + 1)) (xU X 5 (S.1 10 0) q) ct md sc rp fo fd
    (va_up (va_up (va_up G q (some (.inr (6, [.int x, .int p, .int r, .int (nI (S.1 0 0)), .int 0])))) (X 0 2) (some (.inl (cT 3, 12, .inr (.inr (.inr (.inr (va_up (fLi S X) (S.1 10 0) (some q))))))))) (X 0 0) (some (.inr (9, [.ref (X 0 1), .ref (X 0 2), .ref (X 0 3), .ref (X 0 4), .ref (X 0 5), .ref (X 0 7), .ref (X 0 9), .int (nI (S.1 1 0)), .int (nI (S.1 10 0 + 1)), .int (nI (S.1 20 0)), .int (nI (S.1 0 0)), .long S.2.2])))) := by
  have h1 := Pic.ren (c' := fun a b => if a = 5 ∧ b = S.1 10 0 then some (.inr (6, [.int x, .int p, .int r, .int (nI (S.1 0 0)), .int 0])) else fC cT S X ct md sc rp fo fd a b) hF 5 (S.1 10 0) q hq _ (fun a b => rfl)
  have h2 := Pic.set (c' := fun a b => if a = 0 ∧ b = 2 then some (.inl (cT 3, 12, .inr (.inr (.inr (.inr (va_up (fLi S X) (S.1 10 0) (some q))))))) else if a = 5 ∧ b = S.1 10 0 then some (.inr (6, [.int x, .int p, .int r, .int (nI (S.1 0 0)), .int 0])) else fC cT S X ct md sc rp fo fd a b) h1 0 2 (by show (some _ : Option va_E) ≠ none; exact fun z => by cases z) _ (fun a b => rfl)
  refine Pic.set h2 0 0 (by show (some _ : Option va_E) ≠ none; exact fun z => by cases z) _ (fun a b => ?_)
  rcases a with _ | _ | _ | _ | _ | _ | _ | _ | _ | a
  · rcases b with _ | _ | _ | _ | _ | _ | _ | _ | _ | _ | b
    · rfl
    · rfl
    · show (some (.inl (cT 3, 12, .inr (.inr (.inr (.inr (fun i => if i < S.1 10 0 + 1 then some (if 5 = 5 ∧ i = S.1 10 0 then q else X 5 i) else none)))))) : Option va_E) = some (.inl (cT 3, 12, .inr (.inr (.inr (.inr (va_up (fLi S X) (S.1 10 0) (some q)))))))
      refine qcong (fun i => ?_)
      show _ = if i = S.1 10 0 then some q else if i < S.1 10 0 then some (X 5 i) else none
      by_cases z : i = S.1 10 0
      · rw [if_pos z, if_pos (by omega), if_pos ⟨rfl, z⟩]
      · rw [if_neg z, if_neg (c := 5 = 5 ∧ i = S.1 10 0) (fun y => z y.2)]
        by_cases y : i < S.1 10 0
        · rw [if_pos y, if_pos (by omega)]
        · rw [if_neg y, if_neg (by omega)]
    all_goals rfl
  · rfl
  · rfl
  · rfl
  · rfl
  · show (if b < S.1 10 0 + 1 then some (Sum.inr (6, [Value.int (if 11 = 11 ∧ b = S.1 10 0 then x else S.2.1 11 b), .int (if 12 = 12 ∧ b = S.1 10 0 then p else S.2.1 12 b), .int (if 13 = 13 ∧ b = S.1 10 0 then r else S.2.1 13 b), .int (if 14 = 14 ∧ b = S.1 10 0 then nI (S.1 0 0) else S.2.1 14 b), .int (nI (if 15 = 15 ∧ b = S.1 10 0 then 0 else S.1 15 b))])) else none) = (if 5 = 5 ∧ b = S.1 10 0 then some (Sum.inr (6, [Value.int x, .int p, .int r, .int (nI (S.1 0 0)), .int 0])) else if b < S.1 10 0 then some (Sum.inr (6, [Value.int (S.2.1 11 b), .int (S.2.1 12 b), .int (S.2.1 13 b), .int (S.2.1 14 b), .int (nI (S.1 15 b))])) else none)
    by_cases z : b = S.1 10 0
    · simp [z]; rfl
    · simp only [z, and_false, if_false]
      by_cases y : b < S.1 10 0
      · rw [if_pos y, if_pos (by omega)]
      · rw [if_neg y, if_neg (by omega)]
  · show _ = fC cT S X ct md sc rp fo fd 6 b
    exact fC6x Iff.rfl (fun _ => ⟨rfl, rfl, rfl, rfl, rfl, rfl, rfl, rfl, lwA_cong2 (yx_cong (by rfl) _) rfl (fun _ => rfl)⟩)
  · rfl
  · rfl
  · rfl

theorem fr_ask {j : Nat} (hF : FR cT S X (nI (hcnt S j (S.1 0 0))) (h0 S j (S.1 0 0)) (h1 S j (S.1 0 0)) (h2 S j (S.1 0 0)) fo fd G) {q : Nat} (hq : G q = none) {v : Int32} (hv : v = h3 S j (S.1 0 0)) : FR cT (sAsk S j) (xU X 6 (S.1 20 0) q) (nI (hcnt S j (S.1 0 0))) (h0 S j (S.1 0 0)) (h1 S j (S.1 0 0)) (h2 S j (S.1 0 0)) fo fd
    (va_up (va_up (va_up G q (some (.inr (0, [.int (nI j), .int (nI (S.1 18 j)), .int (nI (S.1 0 0)), .ref (lwA S X (S.1 0 0)), .int v, .int (h0 S j (S.1 0 0)), .int (h1 S j (S.1 0 0)), .int (h2 S j (S.1 0 0)), .int 1])))) (X 0 3) (some (.inl (cT 4, 20, .inr (.inr (.inr (.inr (va_up (fEn S X) (S.1 20 0) (some q))))))))) (X 0 0) (some (.inr (9, [.ref (X 0 1), .ref (X 0 2), .ref (X 0 3), .ref (X 0 4), .ref (X 0 5), .ref (X 0 7), .ref (X 0 9), .int (nI (S.1 1 0)), .int (nI (S.1 10 0)), .int (nI (S.1 20 0 + 1)), .int (nI (S.1 0 0)), .long S.2.2])))) := by
  subst hv
  have a1 := Pic.ren (c' := fun a b => if a = 6 ∧ b = S.1 20 0 then some (.inr (0, [.int (nI j), .int (nI (S.1 18 j)), .int (nI (S.1 0 0)), .ref (lwA S X (S.1 0 0)), .int (h3 S j (S.1 0 0)), .int (h0 S j (S.1 0 0)), .int (h1 S j (S.1 0 0)), .int (h2 S j (S.1 0 0)), .int 1])) else fC cT S X (nI (hcnt S j (S.1 0 0))) (h0 S j (S.1 0 0)) (h1 S j (S.1 0 0)) (h2 S j (S.1 0 0)) fo fd a b) hF 6 (S.1 20 0) q hq _ (fun a b => rfl)
  have a2 := Pic.set (c' := fun a b => if a = 0 ∧ b = 3 then some (.inl (cT 4, 20, .inr (.inr (.inr (.inr (va_up (fEn S X) (S.1 20 0) (some q))))))) else if a = 6 ∧ b = S.1 20 0 then some (.inr (0, [.int (nI j), .int (nI (S.1 18 j)), .int (nI (S.1 0 0)), .ref (lwA S X (S.1 0 0)), .int (h3 S j (S.1 0 0)), .int (h0 S j (S.1 0 0)), .int (h1 S j (S.1 0 0)), .int (h2 S j (S.1 0 0)), .int 1])) else fC cT S X (nI (hcnt S j (S.1 0 0))) (h0 S j (S.1 0 0)) (h1 S j (S.1 0 0)) (h2 S j (S.1 0 0)) fo fd a b) a1 0 3 (by show (some _ : Option va_E) ≠ none; exact fun z => by cases z) _ (fun a b => rfl)
  refine Pic.set a2 0 0 (by show (some _ : Option va_E) ≠ none; exact fun z => by cases z) _ (fun a b => ?_)
  rcases a with _ | _ | _ | _ | _ | _ | _ | _ | _ | a
  · rcases b with _ | _ | _ | _ | _ | _ | _ | _ | _ | _ | b
    · rfl
    · rfl
    · rfl
    · show (some (.inl (cT 4, 20, .inr (.inr (.inr (.inr (fun i => if i < S.1 20 0 + 1 then some (if 6 = 6 ∧ i = S.1 20 0 then q else X 6 i) else none)))))) : Option va_E) = some (.inl (cT 4, 20, .inr (.inr (.inr (.inr (va_up (fEn S X) (S.1 20 0) (some q)))))))
      refine qcong (fun i => ?_)
      show _ = if i = S.1 20 0 then some q else if i < S.1 20 0 then some (X 6 i) else none
      by_cases z : i = S.1 20 0
      · rw [if_pos z, if_pos (by omega), if_pos ⟨rfl, z⟩]
      · rw [if_neg z, if_neg (c := 6 = 6 ∧ i = S.1 20 0) (fun y => z y.2)]
        by_cases y : i < S.1 20 0
        · rw [if_pos y, if_pos (by omega)]
        · rw [if_neg y, if_neg (by omega)]
    all_goals rfl
  · rfl
  · rfl
  · rfl
  · rfl
  · rfl
  · by_cases z : b = S.1 20 0
    · subst z
      show fC cT (sAsk S j) (xU X 6 (S.1 20 0) q) _ _ _ _ fo fd 6 (S.1 20 0) = (if 6 = 6 ∧ S.1 20 0 = S.1 20 0 then some (Sum.inr (0, [Value.int (nI j), .int (nI (S.1 18 j)), .int (nI (S.1 0 0)), .ref (lwA S X (S.1 0 0)), .int (h3 S j (S.1 0 0)), .int (h0 S j (S.1 0 0)), .int (h1 S j (S.1 0 0)), .int (h2 S j (S.1 0 0)), .int 1])) else _)
      rw [if_pos ⟨rfl, rfl⟩]
      have e21 : (sAsk S j).1 21 (S.1 20 0) = j := by simp [sAsk, sN, sG]
      have e22 : (sAsk S j).1 22 (S.1 20 0) = S.1 0 0 := by simp [sAsk, sN, sG]
      have e25 : (sAsk S j).1 25 (S.1 20 0) = S.1 18 j := by simp [sAsk, sN, sG]
      have e26 : (sAsk S j).1 26 (S.1 20 0) = 0 := by simp [sAsk, sN, sG]
      have e23 : (sAsk S j).2.1 23 (S.1 20 0) = h3 S j (S.1 0 0) := by simp [sAsk, sN, sG]
      have e240 : (sAsk S j).2.1 24 (3 * S.1 20 0) = h0 S j (S.1 0 0) := by simp [sAsk, sN, sG]
      have e241 : (sAsk S j).2.1 24 (3 * S.1 20 0 + 1) = h1 S j (S.1 0 0) := by simp [sAsk, sN, sG]
      have e242 : (sAsk S j).2.1 24 (3 * S.1 20 0 + 2) = h2 S j (S.1 0 0) := by simp [sAsk, sN, sG]
      have elw : lwA (sAsk S j) (xU X 6 (S.1 20 0) q) (S.1 0 0) = lwA S X (S.1 0 0) := lwA_cong2 (yx_cong (by rfl) _) rfl (fun _ => rfl)
      show (if S.1 20 0 < S.1 20 0 + 1 then some (Sum.inr (0, [Value.int (nI ((sAsk S j).1 21 (S.1 20 0))), .int (nI ((sAsk S j).1 25 (S.1 20 0))), .int (nI ((sAsk S j).1 22 (S.1 20 0))), .ref (lwA (sAsk S j) (xU X 6 (S.1 20 0) q) ((sAsk S j).1 22 (S.1 20 0))), .int ((sAsk S j).2.1 23 (S.1 20 0)), .int ((sAsk S j).2.1 24 (3 * S.1 20 0)), .int ((sAsk S j).2.1 24 (3 * S.1 20 0 + 1)), .int ((sAsk S j).2.1 24 (3 * S.1 20 0 + 2)), .int (if (sAsk S j).1 26 (S.1 20 0) = 0 then 1 else 0)])) else none) = _
      rw [if_pos (by omega), e21, e22, e25, e26, e23, e240, e241, e242, elw]
      rfl
    · show fC cT (sAsk S j) (xU X 6 (S.1 20 0) q) _ _ _ _ fo fd 6 b = (if 6 = 6 ∧ b = S.1 20 0 then _ else fC cT S X _ _ _ _ fo fd 6 b)
      rw [if_neg (fun y => z y.2)]
      refine fC6x (by show b < S.1 20 0 + 1 ↔ _; omega) (fun hb => ?_)
      refine ⟨?_, ?_, ?_, ?_, ?_, ?_, ?_, ?_, lwA_cong2 (yx_cong (by rfl) _) rfl (fun _ => rfl)⟩
      · simp [sAsk, sN, sG, z]
      · simp [sAsk, sN, sG, z]
      · simp [sAsk, sN, sG, z]
      · simp [sAsk, sN, sG, z]
      · simp [sAsk, sN, sG, z]
      · show (if 24 = 24 ∧ 3 * b = 3 * S.1 20 0 + 2 then _ else if 24 = 24 ∧ 3 * b = 3 * S.1 20 0 + 1 then _ else if 24 = 24 ∧ 3 * b = 3 * S.1 20 0 then _ else S.2.1 24 (3 * b)) = _
        rw [if_neg (by omega), if_neg (by omega), if_neg (by omega)]
      · show (if 24 = 24 ∧ 3 * b + 1 = 3 * S.1 20 0 + 2 then _ else if 24 = 24 ∧ 3 * b + 1 = 3 * S.1 20 0 + 1 then _ else if 24 = 24 ∧ 3 * b + 1 = 3 * S.1 20 0 then _ else S.2.1 24 (3 * b + 1)) = _
        rw [if_neg (by omega), if_neg (by omega), if_neg (by omega)]
      · show (if 24 = 24 ∧ 3 * b + 2 = 3 * S.1 20 0 + 2 then _ else if 24 = 24 ∧ 3 * b + 2 = 3 * S.1 20 0 + 1 then _ else if 24 = 24 ∧ 3 * b + 2 = 3 * S.1 20 0 then _ else S.2.1 24 (3 * b + 2)) = _
        rw [if_neg (by omega), if_neg (by omega), if_neg (by omega)]
  · rfl
  · rfl
  · rfl
end C3

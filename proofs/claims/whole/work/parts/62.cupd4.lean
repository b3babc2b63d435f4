theorem yrS_law {S : zS} {y : Nat} {a b c w le st ba : Int32} : ∀ k, k ≤ y → yrS (sLaw S y a b c w le st ba) k = yrS S k
  | 0, _ => rfl
  | k + 1, h => by
    rw [yrS, yrS, yrS_law k (by omega)]
    have e : (sLaw S y a b c w le st ba).1 9 k = S.1 9 k := by
      show (if 9 = 9 ∧ k = y then 1 else S.1 9 k) = _
      rw [if_neg (by omega)]
    rw [e]
theorem yx_law {S : zS} {y d : Nat} {a b c w le st ba : Int32} (hd : d < 10 * y) : yx (sLaw S y a b c w le st ba) d = yx S d := yrS_law _ (by omega)
theorem yrS_lt {S : zS} : ∀ k, ¬ yrS S k = 31 → yrS S k < k
  | 0, h => absurd rfl h
  | k + 1, h => by
    rw [yrS] at h ⊢
    by_cases c : S.1 9 k = 1
    · rw [if_pos c]; omega
    · rw [if_neg c] at h ⊢
      have := yrS_lt k h
      omega
theorem law8_ne {S : zS} {y i : Nat} {a b c w le st ba : Int32} (h : i < 7 * y ∨ 7 * y + 7 ≤ i) : (sLaw S y a b c w le st ba).2.1 8 i = S.2.1 8 i := by
  show (if 8 = 8 ∧ i = 7 * y + 6 then _ else if 8 = 8 ∧ i = 7 * y + 5 then _ else if 8 = 8 ∧ i = 7 * y + 4 then _ else if 8 = 8 ∧ i = 7 * y + 3 then _ else if 8 = 8 ∧ i = 7 * y + 2 then _ else if 8 = 8 ∧ i = 7 * y + 1 then _ else if 8 = 8 ∧ i = 7 * y then _ else S.2.1 8 i) = _
  rw [if_neg (by omega), if_neg (by omega), if_neg (by omega), if_neg (by omega), if_neg (by omega), if_neg (by omega), if_neg (by omega)]
theorem law8_eq {S : zS} {y : Nat} {x a b c w le st ba : Int32} (hx : x = nI y) : upd (upd (upd (upd (upd (upd (upd (upd (fun _ => 0) 0 a) 1 b) 2 c) 3 w) 4 le) 5 st) 6 ba) 7 x = lwF (sLaw S y a b c w le st ba) y := by
  funext k
  rcases Nat.lt_or_ge k 8 with h | h
  · rcases (show k = 0 ∨ k = 1 ∨ k = 2 ∨ k = 3 ∨ k = 4 ∨ k = 5 ∨ k = 6 ∨ k = 7 by omega) with rfl | rfl | rfl | rfl | rfl | rfl | rfl | rfl
    · simp [upd, lwF, sLaw, sN, sG]
    · simp [upd, lwF, sLaw, sN, sG]
    · simp [upd, lwF, sLaw, sN, sG]
    · simp [upd, lwF, sLaw, sN, sG]
    · simp [upd, lwF, sLaw, sN, sG]
    · simp [upd, lwF, sLaw, sN, sG]
    · simp [upd, lwF, sLaw, sN, sG]
    · simp [upd, lwF, hx]
  · simp only [upd, lwF]
    rw [if_neg (by omega), if_neg (by omega), if_neg (by omega), if_neg (by omega), if_neg (by omega), if_neg (by omega), if_neg (by omega), if_neg (by omega), if_neg (by omega), if_neg (by omega)]
section C4
variable {cT : Nat → ClassId} {S T : zS} {X Y : Nat → Nat → Nat} {ct md sc rp : Int32} {fo fd : Nat → Int32} {G : zG}
theorem fr_law (hF : FR cT S X ct md sc rp fo fd G) {nn : Nat} (hS : ok S nn) {q p y : Nat} {a b c w le st ba : Int32} {f : Nat → Int32} (hq : G q = none) (hp : va_up G q (some (.inl (cT 0, 8, .inl f))) p = none) (hy : y ≤ 30) (ht : S.1 0 0 < 10 * y) (hf : f = lwF (sLaw S y a b c w le st ba) y) : FR cT (sLaw S y a b c w le st ba) (xU (xU X 8 y q) 7 y p) ct md sc rp fo fd
    (va_up (va_up (va_up G q (some (.inl (cT 0, 8, .inl f)))) p (some (.inr (4, [.ref q])))) (X 0 4) (some (.inl (cT 5, 31, .inr (.inr (.inr (.inr (va_up (fLa S X) y (some p))))))))) := by
  subst hf
  have a1 := Pic.ren (c' := fun a1 b1 => if a1 = 8 ∧ b1 = y then some (.inl (cT 0, 8, .inl (lwF (sLaw S y a b c w le st ba) y))) else fC cT S X ct md sc rp fo fd a1 b1) hF 8 y q hq _ (fun a b => rfl)
  have a2 := Pic.ren (c' := fun a1 b1 => if a1 = 7 ∧ b1 = y then some (.inr (4, [.ref q])) else if a1 = 8 ∧ b1 = y then some (.inl (cT 0, 8, .inl (lwF (sLaw S y a b c w le st ba) y))) else fC cT S X ct md sc rp fo fd a1 b1) a1 7 y p hp _ (fun a b => rfl)
  refine Pic.set a2 0 4 (by show (some _ : Option va_E) ≠ none; exact fun z => by cases z) _ (fun a1 b1 => ?_)
  have e9 : ∀ i, (sLaw S y a b c w le st ba).1 9 i = if i = y then 1 else S.1 9 i := fun i => by
    show (if 9 = 9 ∧ i = y then 1 else S.1 9 i) = _
    by_cases z : i = y
    · rw [if_pos ⟨rfl, z⟩, if_pos z]
    · rw [if_neg (fun y => z y.2), if_neg z]
  rcases a1 with _ | _ | _ | _ | _ | _ | _ | _ | _ | a1
  · rcases b1 with _ | _ | _ | _ | _ | _ | _ | _ | _ | _ | b1
    · rfl
    · rfl
    · rfl
    · rfl
    · show (some (.inl (cT 5, 31, .inr (.inr (.inr (.inr (fun i => if (sLaw S y a b c w le st ba).1 9 i = 1 then some (if 7 = 7 ∧ i = y then p else X 7 i) else none)))))) : Option va_E) = some (.inl (cT 5, 31, .inr (.inr (.inr (.inr (va_up (fLa S X) y (some p)))))))
      refine qcong (fun i => ?_)
      rw [e9]
      show _ = if i = y then some p else if S.1 9 i = 1 then some (X 7 i) else none
      by_cases z : i = y
      · rw [if_pos z, if_pos z, if_pos rfl, if_pos ⟨rfl, z⟩]
      · rw [if_neg z, if_neg z, if_neg (c := 7 = 7 ∧ i = y) (fun y => z y.2)]
    all_goals rfl
  · rfl
  · rfl
  · rfl
  · rfl
  · rfl
  · show _ = fC cT S X ct md sc rp fo fd 6 b1
    refine fC6x Iff.rfl (fun hb => ⟨rfl, rfl, rfl, rfl, rfl, rfl, rfl, rfl, ?_⟩)
    have hd := (hS.2.2.2.2.2.2.2.2.2.1 b1 hb).2.1
    refine lwA_cong2 (yx_law (by omega)) rfl (fun h31 => ?_)
    show (if 7 = 7 ∧ yx S (S.1 22 b1) = y then p else X 7 (yx S (S.1 22 b1))) = _
    have := yrS_lt (S := S) (min (S.1 22 b1 / 10) 30 + 1) h31
    rw [if_neg (by
      rintro ⟨-, z⟩
      have z' : yrS S (min (S.1 22 b1 / 10) 30 + 1) = y := z
      omega)]
  · show (if b1 < 31 ∧ (sLaw S y a b c w le st ba).1 9 b1 = 1 then some (Sum.inr (4, [Value.ref (if 7 = 7 ∧ False then p else if 8 = 8 ∧ b1 = y then q else X 8 b1)])) else none) = (if 7 = 7 ∧ b1 = y then some (Sum.inr (4, [Value.ref q])) else if b1 < 31 ∧ S.1 9 b1 = 1 then some (Sum.inr (4, [Value.ref (X 8 b1)])) else none)
    rw [e9]
    by_cases z : b1 = y
    · simp [z]; omega
    · simp [z]
  · show (if b1 < 31 ∧ (sLaw S y a b c w le st ba).1 9 b1 = 1 then some (.inl (cT 0, 8, .inl (lwF (sLaw S y a b c w le st ba) b1))) else none : Option va_E) = (if 8 = 8 ∧ b1 = y then some (.inl (cT 0, 8, .inl (lwF (sLaw S y a b c w le st ba) y))) else if b1 < 31 ∧ S.1 9 b1 = 1 then some (.inl (cT 0, 8, .inl (lwF S b1))) else none)
    rw [e9]
    by_cases z : b1 = y
    · subst z
      rw [if_pos (c := 8 = 8 ∧ b1 = b1) ⟨rfl, rfl⟩, if_pos (c := b1 = b1) rfl, if_pos ⟨by omega, rfl⟩]
    · have e : lwF (sLaw S y a b c w le st ba) b1 = lwF S b1 := by
        funext k
        show (if k < 7 then (sLaw S y a b c w le st ba).2.1 8 (7 * b1 + k) else if k = 7 then nI b1 else 0) = if k < 7 then S.2.1 8 (7 * b1 + k) else if k = 7 then nI b1 else 0
        by_cases hk : k < 7
        · rw [if_pos hk, if_pos hk, law8_ne (by omega)]
        · rw [if_neg hk, if_neg hk]
      rw [if_neg z, if_neg (c := 8 = 8 ∧ b1 = y) (fun y => z y.2), e]
  · rfl
end C4
theorem law_iff {x a b c w le st ba : Int32} : (∀ i, i < 8 → (zLeast i ≤ upd (upd (upd (upd (upd (upd (upd (upd (fun _ => 0) 0 a) 1 b) 2 c) 3 w) 4 le) 5 st) 6 ba) 7 x i ∧ upd (upd (upd (upd (upd (upd (upd (upd (fun _ => 0) 0 a) 1 b) 2 c) 3 w) 4 le) 5 st) 6 ba) 7 x i ≤ zMost i)) ↔ lawIn x a b c w le st ba := by
  constructor
  · intro h
    exact ⟨h 7 (by decide), h 0 (by decide), h 1 (by decide), h 2 (by decide), h 3 (by decide), h 4 (by decide), h 5 (by decide), h 6 (by decide)⟩
  · rintro ⟨g7, g0, g1, g2, g3, g4, g5, g6⟩ i hi
    rcases (show i = 0 ∨ i = 1 ∨ i = 2 ∨ i = 3 ∨ i = 4 ∨ i = 5 ∨ i = 6 ∨ i = 7 by omega) with rfl | rfl | rfl | rfl | rfl | rfl | rfl | rfl
    · exact g0
    · exact g1
    · exact g2
    · exact g3
    · exact g4
    · exact g5
    · exact g6
    · exact g7
theorem law_st' {x : Int32} {j t : Nat} (hj : j ≤ 30) (h : x = nI j) (ht : t < 1000) (c : ¬ nI t < x * 10) : 10 * j ≤ t := law_st hj h ht (by rw [Int32.mul_comm] at c; exact c)
theorem law_gt' {x : Int32} {j t : Nat} (hj : j ≤ 30) (h : x = nI j) (ht : t < 1000) (c : nI t < x * 10) : ¬ 10 * j ≤ t := law_gt hj h ht (by rw [Int32.mul_comm] at c; exact c)

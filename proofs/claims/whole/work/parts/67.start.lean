/-! THE START STATE -/
def S0 : zS := (fun _ _ => 0, fun k => if k = 8 then upd (upd (upd (fun _ => 0) 220 1) 222 500) 223 20 else fun _ => 0, 0)
theorem ok_S0 : ok S0 0 := by
  refine ⟨⟨by decide, by decide, by decide, by decide⟩, fun h hh => absurd hh (Nat.not_lt_zero h), fun y => Nat.zero_le 1, fun k hk => ?_, fun i => Nat.zero_le 1, fun e => Nat.zero_le 1, fun h => ⟨Nat.le_refl _, Nat.le_refl _, fun _ => ⟨rfl, rfl⟩⟩, fun h _ => rfl, fun h d _ _ _ => rfl, fun e he => absurd he (Nat.not_lt_zero e), fun e e' _ he => absurd he (Nat.not_lt_zero e'), by decide⟩
  rcases (show k = 0 ∨ k = 1 ∨ k = 2 ∨ k = 3 ∨ k = 4 ∨ k = 5 ∨ k = 6 by omega) with rfl | rfl | rfl | rfl | rfl | rfl | rfl <;> rfl
def mkX (l : List Nat) : Nat → Nat → Nat := fun _ i => l.getD i 0
def ftag : Option va_E → Nat
  | some (.inr (c, _)) => 1000 + c
  | some (.inl (_, n, .inl _)) => n
  | some (.inl (_, n, _)) => 400 + n
  | none => 0
def ftagI (t : Nat) : Nat := if t = 1009 then 0 else if t = 408 then 1 else if t = 412 then 2 else if t = 420 then 3 else if t = 431 then 4 else if t = 1004 then 5 else if t = 8 then 6 else if t = 1002 then 7 else if t = 12 then 8 else 9
theorem fC_S0 {cT : Nat → ClassId} {X : Nat → Nat → Nat} {ct md sc rp : Int32} {fo fd : Nat → Int32} {k i : Nat} (h : fC cT S0 X ct md sc rp fo fd k i ≠ none) : k = 0 ∧ i < 10 ∧ ftagI (ftag (fC cT S0 X ct md sc rp fo fd k i)) = i := by
  rcases k with _ | _ | _ | _ | _ | _ | _ | _ | _ | k
  · rcases i with _ | _ | _ | _ | _ | _ | _ | _ | _ | _ | i
    · exact ⟨rfl, by decide, rfl⟩
    · exact ⟨rfl, by decide, rfl⟩
    · exact ⟨rfl, by decide, rfl⟩
    · exact ⟨rfl, by decide, rfl⟩
    · exact ⟨rfl, by decide, rfl⟩
    · exact ⟨rfl, by decide, rfl⟩
    · exact ⟨rfl, by decide, rfl⟩
    · exact ⟨rfl, by decide, rfl⟩
    · exact ⟨rfl, by decide, rfl⟩
    · exact ⟨rfl, by decide, rfl⟩
    · exact absurd rfl h
  · exact absurd (show fC cT S0 X ct md sc rp fo fd 1 i = none from rfl) h
  · exact absurd (show fC cT S0 X ct md sc rp fo fd 2 i = none from rfl) h
  · exact absurd (show fC cT S0 X ct md sc rp fo fd 3 i = none from rfl) h
  · exact absurd (show fC cT S0 X ct md sc rp fo fd 4 i = none from rfl) h
  · exact absurd (show fC cT S0 X ct md sc rp fo fd 5 i = none from rfl) h
  · exact absurd (show fC cT S0 X ct md sc rp fo fd 6 i = none from rfl) h
  · exact absurd (show fC cT S0 X ct md sc rp fo fd 7 i = none from if_neg (fun z => absurd z.2 (show ¬ (0 = 1) by decide))) h
  · exact absurd (show fC cT S0 X ct md sc rp fo fd 8 i = none from if_neg (fun z => absurd z.2 (show ¬ (0 = 1) by decide))) h
  · exact absurd rfl h
theorem fr_zero {cT : Nat → ClassId} {G : zG} {a q1 q2 q3 q4 q5 q6 q7 q8 q9 : Nat} {f6 : Nat → Int32} (e6 : f6 = fL0)
    (h0 : G a = some (.inr (9, [.ref q1, .ref q2, .ref q3, .ref q4, .ref q5, .ref q7, .ref q9, .int 0, .int 0, .int 0, .int 0, .long 0])))
    (h1 : G q1 = some (.inl (cT 2, 8, .inr (.inr (.inr (.inr (fun _ => none)))))))
    (h2 : G q2 = some (.inl (cT 3, 12, .inr (.inr (.inr (.inr (fun _ => none)))))))
    (h3 : G q3 = some (.inl (cT 4, 20, .inr (.inr (.inr (.inr (fun _ => none)))))))
    (h4 : G q4 = some (.inl (cT 5, 31, .inr (.inr (.inr (.inr (fun _ => none)))))))
    (h5 : G q5 = some (.inr (4, [.ref q6]))) (h6 : G q6 = some (.inl (cT 0, 8, .inl f6)))
    (h7 : G q7 = some (.inr (2, [.ref q8, .int 0, .int 0, .int 0, .int 0]))) (h8 : G q8 = some (.inl (cT 0, 12, .inl (fun _ => 0)))) (h9 : G q9 = some (.inl (cT 0, 301, .inl (fun _ => 0)))) :
    FR cT S0 (mkX [a, q1, q2, q3, q4, q5, q6, q7, q8, q9]) 0 0 0 0 (fun _ => 0) (fun _ => 0) G := by
  subst e6
  have e1 : fHo S0 (mkX [a, q1, q2, q3, q4, q5, q6, q7, q8, q9]) = fun _ => none := funext fun i => if_neg (Nat.not_lt_zero i)
  have e2 : fLi S0 (mkX [a, q1, q2, q3, q4, q5, q6, q7, q8, q9]) = fun _ => none := funext fun i => if_neg (Nat.not_lt_zero i)
  have e3 : fEn S0 (mkX [a, q1, q2, q3, q4, q5, q6, q7, q8, q9]) = fun _ => none := funext fun i => if_neg (Nat.not_lt_zero i)
  have e4 : fLa S0 (mkX [a, q1, q2, q3, q4, q5, q6, q7, q8, q9]) = fun _ => none := funext fun i => if_neg (show ¬ (0 = 1) by decide)
  have key : ∀ i, i < 10 → G (mkX [a, q1, q2, q3, q4, q5, q6, q7, q8, q9] 0 i) = fC cT S0 (mkX [a, q1, q2, q3, q4, q5, q6, q7, q8, q9]) 0 0 0 0 (fun _ => 0) (fun _ => 0) 0 i := by
    intro i hi
    rcases (show i = 0 ∨ i = 1 ∨ i = 2 ∨ i = 3 ∨ i = 4 ∨ i = 5 ∨ i = 6 ∨ i = 7 ∨ i = 8 ∨ i = 9 by omega) with rfl | rfl | rfl | rfl | rfl | rfl | rfl | rfl | rfl | rfl
    · exact h0
    · show G q1 = some (.inl (cT 2, 8, .inr (.inr (.inr (.inr (fHo S0 (mkX [a, q1, q2, q3, q4, q5, q6, q7, q8, q9])))))))
      rw [e1]; exact h1
    · show G q2 = some (.inl (cT 3, 12, .inr (.inr (.inr (.inr (fLi S0 (mkX [a, q1, q2, q3, q4, q5, q6, q7, q8, q9])))))))
      rw [e2]; exact h2
    · show G q3 = some (.inl (cT 4, 20, .inr (.inr (.inr (.inr (fEn S0 (mkX [a, q1, q2, q3, q4, q5, q6, q7, q8, q9])))))))
      rw [e3]; exact h3
    · show G q4 = some (.inl (cT 5, 31, .inr (.inr (.inr (.inr (fLa S0 (mkX [a, q1, q2, q3, q4, q5, q6, q7, q8, q9])))))))
      rw [e4]; exact h4
    · exact h5
    · exact h6
    · exact h7
    · exact h8
    · exact h9
  refine ⟨fun k i e h => ?_, fun k i k' i' h1 h2 hx => ?_⟩
  · obtain ⟨rfl, hi, -⟩ := fC_S0 (k := k) (i := i) (by rw [h]; exact fun z => by cases z)
    exact (key i hi).trans h
  · obtain ⟨rfl, hi, t1⟩ := fC_S0 h1
    obtain ⟨rfl, hi', t2⟩ := fC_S0 h2
    refine ⟨rfl, ?_⟩
    rw [← t1, ← t2, ← key i hi, ← key i' hi', hx]
theorem fL0_eq : upd (upd (upd (upd (upd (upd (upd (upd (fun _ => 0) 0 0) 1 0) 2 0) 3 1) 4 0) 5 500) 6 20) 7 (-9) = fL0 := by
  funext k
  rcases Nat.lt_or_ge k 8 with h | h
  · rcases (show k = 0 ∨ k = 1 ∨ k = 2 ∨ k = 3 ∨ k = 4 ∨ k = 5 ∨ k = 6 ∨ k = 7 by omega) with rfl | rfl | rfl | rfl | rfl | rfl | rfl | rfl <;> rfl
  · simp only [upd, fL0]
    rw [if_neg (by omega), if_neg (by omega), if_neg (by omega), if_neg (by omega), if_neg (by omega), if_neg (by omega), if_neg (by omega), if_neg (by omega), if_neg (by omega), if_neg (by omega), if_neg (by omega), if_neg (by omega)]
/-- an array's cell, its numbers said otherwise -/
theorem z_recell {D : va_G} {A : Nat → Prop} {H0 : Heap} {G : zG} {H : Heap} {locs : List Loc} (hZ : zW D A H0 G H locs) {a n : Nat} {c : ClassId} {f : Nat → Int32} (g : Nat → Int32) (ha : G a = some (.inl (c, n, .inl f))) (h : ∀ i, i < n → f i = g i) : zW D A H0 (va_up G a (some (.inl (c, n, .inl g)))) H locs := by
  refine ⟨z_set hZ.1 ?_ (fun _ _ => rfl), z_upd_dom hZ.2.1 (hZ.2.1 a _ ha), hZ.2.2⟩
  have h1 : H[a]? = some (vp_cell c (n, .inl f)) := hZ.1 a _ ha
  show H[a]? = some (vp_cell c (n, .inl g))
  rw [h1, vp_cell_i, vp_cell_i]
  unfold arrV
  rw [show (fun j : Fin n => Value.int (f j.val)) = (fun j : Fin n => Value.int (g j.val)) from funext fun j => by rw [h j.val j.isLt]]
theorem cL0_eq : ∀ i, i < 8 → upd (upd (upd (upd (upd (upd (upd (upd (fun _ => 0) 0 (-1)) 1 (-1)) 2 (-1)) 3 (-1)) 4 (-1)) 5 (-1)) 6 (-1)) 7 (-1) i = cL S0 i := by
  intro k h
  rcases (show k = 0 ∨ k = 1 ∨ k = 2 ∨ k = 3 ∨ k = 4 ∨ k = 5 ∨ k = 6 ∨ k = 7 by omega) with rfl | rfl | rfl | rfl | rfl | rfl | rfl | rfl <;> rfl

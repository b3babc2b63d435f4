/-! THE CLASS'S PICTURE: its cells by name (kind, index); X: where each lies. -/
def fL0 : Nat → Int32 := fun k => if k = 3 then 1 else if k = 5 then 500 else if k = 6 then 20 else if k = 7 then -9 else 0
def rowS (S : zS) (h : Nat) : Nat → Int32 := fun d => if d < 301 then S.2.1 19 (301 * h + d) else 0
def lwF (S : zS) (y : Nat) : Nat → Int32 := fun k => if k < 7 then S.2.1 8 (7 * y + k) else if k = 7 then nI y else 0
def lwA (S : zS) (X : Nat → Nat → Nat) (d : Nat) : Nat := if yx S d = 31 then X 0 5 else X 7 (yx S d)
def lwB (S : zS) (X : Nat → Nat → Nat) (d : Nat) : Nat := if yx S d = 31 then X 0 6 else X 8 (yx S d)
def lwC (S : zS) (d : Nat) : Nat → Int32 := if yx S d = 31 then fL0 else lwF S (yx S d)
def bdy (S : zS) (h : Nat) : va_E := if S.1 2 h = 0 then .inr (8, [.int (nI (S.1 4 h))]) else if S.1 2 h = 1 then .inr (1, [.int (nI (S.1 4 h)), .int (nI (S.1 5 h))]) else .inr (7, [.int (nI (S.1 5 h)), .int (nI (S.1 4 h))])
def fHo (S : zS) (X : Nat → Nat → Nat) : Nat → Option Nat := fun i => if i < S.1 1 0 then some (X 1 i) else none
def fLi (S : zS) (X : Nat → Nat → Nat) : Nat → Option Nat := fun i => if i < S.1 10 0 then some (X 5 i) else none
def fEn (S : zS) (X : Nat → Nat → Nat) : Nat → Option Nat := fun i => if i < S.1 20 0 then some (X 6 i) else none
def fLa (S : zS) (X : Nat → Nat → Nat) : Nat → Option Nat := fun y => if S.1 9 y = 1 then some (X 7 y) else none
def fC (cT : Nat → ClassId) (S : zS) (X : Nat → Nat → Nat) (ct md sc rp : Int32) (fo fd : Nat → Int32) : Nat → Nat → Option va_E
  | 0, 0 => some (.inr (9, [.ref (X 0 1), .ref (X 0 2), .ref (X 0 3), .ref (X 0 4), .ref (X 0 5), .ref (X 0 7), .ref (X 0 9), .int (nI (S.1 1 0)), .int (nI (S.1 10 0)), .int (nI (S.1 20 0)), .int (nI (S.1 0 0)), .long S.2.2]))
  | 0, 1 => some (.inl (cT 2, 8, .inr (.inr (.inr (.inr (fHo S X))))))
  | 0, 2 => some (.inl (cT 3, 12, .inr (.inr (.inr (.inr (fLi S X))))))
  | 0, 3 => some (.inl (cT 4, 20, .inr (.inr (.inr (.inr (fEn S X))))))
  | 0, 4 => some (.inl (cT 5, 31, .inr (.inr (.inr (.inr (fLa S X))))))
  | 0, 5 => some (.inr (4, [.ref (X 0 6)]))
  | 0, 6 => some (.inl (cT 0, 8, .inl fL0))
  | 0, 7 => some (.inr (2, [.ref (X 0 8), .int ct, .int md, .int sc, .int rp]))
  | 0, 8 => some (.inl (cT 0, 12, .inl fo))
  | 0, 9 => some (.inl (cT 0, 301, .inl fd))
  | 1, h => if h < S.1 1 0 then some (.inr (3, [.ref (X 2 h), .int (nI (S.1 3 h)), .ref (X 3 h), .int (S.2.1 6 h)])) else none
  | 2, h => if h < S.1 1 0 then some (bdy S h) else none
  | 3, h => if h < S.1 1 0 then some (.inr (5, [.ref (X 4 h), .int (nI (S.1 18 h)), .int (nI (S.1 16 h)), .int (S.2.1 17 h), .int (psum (rowS S h) 301)])) else none
  | 4, h => if h < S.1 1 0 then some (.inl (cT 0, 301, .inl (rowS S h))) else none
  | 5, i => if i < S.1 10 0 then some (.inr (6, [.int (S.2.1 11 i), .int (S.2.1 12 i), .int (S.2.1 13 i), .int (S.2.1 14 i), .int (nI (S.1 15 i))])) else none
  | 6, i => if i < S.1 20 0 then some (.inr (0, [.int (nI (S.1 21 i)), .int (nI (S.1 25 i)), .int (nI (S.1 22 i)), .ref (lwA S X (S.1 22 i)), .int (S.2.1 23 i), .int (S.2.1 24 (3 * i)), .int (S.2.1 24 (3 * i + 1)), .int (S.2.1 24 (3 * i + 2)), .int (if S.1 26 i = 0 then 1 else 0)])) else none
  | 7, y => if y < 31 ∧ S.1 9 y = 1 then some (.inr (4, [.ref (X 8 y)])) else none
  | 8, y => if y < 31 ∧ S.1 9 y = 1 then some (.inl (cT 0, 8, .inl (lwF S y))) else none
  | _, _ => none
def Pic (c : Nat → Nat → Option va_E) (X : Nat → Nat → Nat) (G : zG) : Prop := (∀ k i e, c k i = some e → G (X k i) = some e) ∧ (∀ k i k' i', c k i ≠ none → c k' i' ≠ none → X k i = X k' i' → k = k' ∧ i = i')
def FR (cT : Nat → ClassId) (S : zS) (X : Nat → Nat → Nat) (ct md sc rp : Int32) (fo fd : Nat → Int32) (G : zG) : Prop := Pic (fC cT S X ct md sc rp fo fd) X G
def FRx (cT : Nat → ClassId) (S : zS) (X : Nat → Nat → Nat) (G : zG) : Prop := ∃ (ct md sc rp : Int32) (fo fd : Nat → Int32), FR cT S X ct md sc rp fo fd G
def fQ (cT : Nat → ClassId) (o : Nat) (res : Int32 × zS) : Option Value → zG → Prop := fun r G' => (∃ X, X 0 0 = o ∧ FRx cT res.2 X G') ∧ r = some (.int res.1)
theorem fQ_of {cT : Nat → ClassId} {X : Nat → Nat → Nat} {o : Nat} {res : Int32 × zS} {v : Int32} {S : zS} {G : zG} (hs : res = (v, S)) (ho : X 0 0 = o) (h : FRx cT S X G) : fQ cT o res (some (.int v)) G := by
  subst hs
  exact ⟨⟨X, ho, h⟩, rfl⟩
theorem Pic.set {c c' : Nat → Nat → Option va_E} {X : Nat → Nat → Nat} {G : zG} (h : Pic c X G) (k i : Nat) (hk : c k i ≠ none) (e : va_E) (hc : ∀ a b, c' a b = if a = k ∧ b = i then some e else c a b) : Pic c' X (va_up G (X k i) (some e)) := by
  have key : ∀ a b, c' a b ≠ none → c a b ≠ none := fun a b hab => by
    rw [hc] at hab
    by_cases q : a = k ∧ b = i
    · rw [q.1, q.2]; exact hk
    · rw [if_neg q] at hab; exact hab
  refine ⟨fun a b e1 hab => ?_, fun a b a' b' h1 h2 hx => h.2 a b a' b' (key a b h1) (key a' b' h2) hx⟩
  by_cases q : a = k ∧ b = i
  · rw [hc, if_pos q] at hab
    rw [q.1, q.2, va_up_self]
    exact hab
  · have hab' := hab
    rw [hc, if_neg q] at hab'
    have hne : X a b ≠ X k i := fun hx => q (h.2 a b k i (by rw [hab']; exact fun z => by cases z) hk hx)
    rw [va_up_ne _ _ hne]
    exact h.1 a b e1 hab'
theorem Pic.new {c c' : Nat → Nat → Option va_E} {X X' : Nat → Nat → Nat} {G : zG} (h : Pic c X G) (k i q : Nat) (hq : G q = none) (hX : ∀ a b, X' a b = if a = k ∧ b = i then q else X a b) (hk : c k i = none) (e : va_E) (hc : ∀ a b, c' a b = if a = k ∧ b = i then some e else c a b) : Pic c' X' (va_up G q (some e)) := by
  have live : ∀ a b, ¬ (a = k ∧ b = i) → c' a b ≠ none → X a b ≠ q := fun a b hab h1 hx => by
    rw [hc, if_neg hab] at h1
    cases hz : c a b with
    | none => exact h1 hz
    | some e1 =>
      have := h.1 a b e1 hz
      rw [hx, hq] at this
      cases this
  refine ⟨fun a b e1 hab => ?_, fun a b a' b' h1 h2 hx => ?_⟩
  · by_cases z : a = k ∧ b = i
    · rw [hc, if_pos z] at hab
      rw [hX, if_pos z, va_up_self]
      exact hab
    · have hne := live a b z (by rw [hab]; exact fun y => by cases y)
      rw [hX, if_neg z, va_up_ne _ _ hne]
      rw [hc, if_neg z] at hab
      exact h.1 a b e1 hab
  · rw [hX, hX] at hx
    by_cases z : a = k ∧ b = i
    · by_cases z' : a' = k ∧ b' = i
      · exact ⟨z.1.trans z'.1.symm, z.2.trans z'.2.symm⟩
      · rw [if_pos z, if_neg z'] at hx
        exact absurd hx.symm (live a' b' z' h2)
    · by_cases z' : a' = k ∧ b' = i
      · rw [if_neg z, if_pos z'] at hx
        exact absurd hx (live a b z h1)
      · rw [if_neg z, if_neg z'] at hx
        rw [hc, if_neg z] at h1
        rw [hc, if_neg z'] at h2
        exact h.2 a b a' b' h1 h2 hx
theorem Pic.cong {c c' : Nat → Nat → Option va_E} {X X' : Nat → Nat → Nat} {G : zG} (h : Pic c X G) (hX : ∀ a b, X' a b = X a b) (hc : ∀ a b, c' a b = c a b) : Pic c' X' G := by
  refine ⟨fun a b e1 hab => ?_, fun a b a' b' h1 h2 hx => ?_⟩
  · rw [hX]; rw [hc] at hab; exact h.1 a b e1 hab
  · rw [hX, hX] at hx; rw [hc] at h1 h2; exact h.2 a b a' b' h1 h2 hx
section FRA
variable {cT : Nat → ClassId} {S : zS} {X : Nat → Nat → Nat} {ct md sc rp : Int32} {fo fd : Nat → Int32} {G : zG}
theorem f00 (h : FR cT S X ct md sc rp fo fd G) : G (X 0 0) = some (.inr (9, [.ref (X 0 1), .ref (X 0 2), .ref (X 0 3), .ref (X 0 4), .ref (X 0 5), .ref (X 0 7), .ref (X 0 9), .int (nI (S.1 1 0)), .int (nI (S.1 10 0)), .int (nI (S.1 20 0)), .int (nI (S.1 0 0)), .long S.2.2])) := h.1 0 0 _ rfl
theorem f01 (h : FR cT S X ct md sc rp fo fd G) : G (X 0 1) = some (.inl (cT 2, 8, .inr (.inr (.inr (.inr (fHo S X)))))) := h.1 0 1 _ rfl
theorem f02 (h : FR cT S X ct md sc rp fo fd G) : G (X 0 2) = some (.inl (cT 3, 12, .inr (.inr (.inr (.inr (fLi S X)))))) := h.1 0 2 _ rfl
theorem f03 (h : FR cT S X ct md sc rp fo fd G) : G (X 0 3) = some (.inl (cT 4, 20, .inr (.inr (.inr (.inr (fEn S X)))))) := h.1 0 3 _ rfl
theorem f04 (h : FR cT S X ct md sc rp fo fd G) : G (X 0 4) = some (.inl (cT 5, 31, .inr (.inr (.inr (.inr (fLa S X)))))) := h.1 0 4 _ rfl
theorem f05 (h : FR cT S X ct md sc rp fo fd G) : G (X 0 5) = some (.inr (4, [.ref (X 0 6)])) := h.1 0 5 _ rfl
theorem f06 (h : FR cT S X ct md sc rp fo fd G) : G (X 0 6) = some (.inl (cT 0, 8, .inl fL0)) := h.1 0 6 _ rfl
theorem f07 (h : FR cT S X ct md sc rp fo fd G) : G (X 0 7) = some (.inr (2, [.ref (X 0 8), .int ct, .int md, .int sc, .int rp])) := h.1 0 7 _ rfl
theorem f08 (h : FR cT S X ct md sc rp fo fd G) : G (X 0 8) = some (.inl (cT 0, 12, .inl fo)) := h.1 0 8 _ rfl
theorem f09 (h : FR cT S X ct md sc rp fo fd G) : G (X 0 9) = some (.inl (cT 0, 301, .inl fd)) := h.1 0 9 _ rfl
theorem f1 (h : FR cT S X ct md sc rp fo fd G) {j : Nat} (hj : j < S.1 1 0) : G (X 1 j) = some (.inr (3, [.ref (X 2 j), .int (nI (S.1 3 j)), .ref (X 3 j), .int (S.2.1 6 j)])) := h.1 1 j _ (if_pos hj)
theorem f2 (h : FR cT S X ct md sc rp fo fd G) {j : Nat} (hj : j < S.1 1 0) : G (X 2 j) = some (bdy S j) := h.1 2 j _ (if_pos hj)
theorem f3 (h : FR cT S X ct md sc rp fo fd G) {j : Nat} (hj : j < S.1 1 0) : G (X 3 j) = some (.inr (5, [.ref (X 4 j), .int (nI (S.1 18 j)), .int (nI (S.1 16 j)), .int (S.2.1 17 j), .int (psum (rowS S j) 301)])) := h.1 3 j _ (if_pos hj)
theorem f4 (h : FR cT S X ct md sc rp fo fd G) {j : Nat} (hj : j < S.1 1 0) : G (X 4 j) = some (.inl (cT 0, 301, .inl (rowS S j))) := h.1 4 j _ (if_pos hj)
theorem f5 (h : FR cT S X ct md sc rp fo fd G) {j : Nat} (hj : j < S.1 10 0) : G (X 5 j) = some (.inr (6, [.int (S.2.1 11 j), .int (S.2.1 12 j), .int (S.2.1 13 j), .int (S.2.1 14 j), .int (nI (S.1 15 j))])) := h.1 5 j _ (if_pos hj)
theorem f6 (h : FR cT S X ct md sc rp fo fd G) {j : Nat} (hj : j < S.1 20 0) : G (X 6 j) = some (.inr (0, [.int (nI (S.1 21 j)), .int (nI (S.1 25 j)), .int (nI (S.1 22 j)), .ref (lwA S X (S.1 22 j)), .int (S.2.1 23 j), .int (S.2.1 24 (3 * j)), .int (S.2.1 24 (3 * j + 1)), .int (S.2.1 24 (3 * j + 2)), .int (if S.1 26 j = 0 then 1 else 0)])) := h.1 6 j _ (if_pos hj)
theorem f7 (h : FR cT S X ct md sc rp fo fd G) {y : Nat} (hy : y < 31 ∧ S.1 9 y = 1) : G (X 7 y) = some (.inr (4, [.ref (X 8 y)])) := h.1 7 y _ (if_pos hy)
theorem f8 (h : FR cT S X ct md sc rp fo fd G) {y : Nat} (hy : y < 31 ∧ S.1 9 y = 1) : G (X 8 y) = some (.inl (cT 0, 8, .inl (lwF S y))) := h.1 8 y _ (if_pos hy)
theorem yrS_told (S : zS) : ∀ k, k ≤ 31 → ¬ yrS S k = 31 → yrS S k < 31 ∧ S.1 9 (yrS S k) = 1
  | 0, _, h => absurd rfl h
  | k + 1, hk, h => by
    rw [yrS] at h ⊢
    by_cases c : S.1 9 k = 1
    · rw [if_pos c]; exact ⟨by omega, c⟩
    · rw [if_neg c] at h ⊢
      exact yrS_told S k (by omega) h
theorem yx_told {d : Nat} (h : ¬ yx S d = 31) : yx S d < 31 ∧ S.1 9 (yx S d) = 1 := yrS_told S _ (by omega) h
theorem fla (h : FR cT S X ct md sc rp fo fd G) (d : Nat) : G (lwA S X d) = some (.inr (4, [.ref (lwB S X d)])) := by
  unfold lwA lwB
  by_cases c : yx S d = 31
  · rw [if_pos c, if_pos c]; exact f05 h
  · rw [if_neg c, if_neg c]; exact f7 h (yx_told c)
theorem flb (h : FR cT S X ct md sc rp fo fd G) (d : Nat) : G (lwB S X d) = some (.inl (cT 0, 8, .inl (lwC S d))) := by
  unfold lwB lwC
  by_cases c : yx S d = 31
  · rw [if_pos c, if_pos c]; exact f06 h
  · rw [if_neg c, if_neg c]; exact f8 h (yx_told c)
theorem lwC_k {nn : Nat} (hS : ok S nn) (d : Nat) {k : Nat} (hk : k < 7) : lwC S d k = lw S d k := by
  rw [lwC, lw]
  by_cases c : yx S d = 31
  · rw [if_pos c, c, hS.2.2.2.1 k hk]
    rcases (show k = 0 ∨ k = 1 ∨ k = 2 ∨ k = 3 ∨ k = 4 ∨ k = 5 ∨ k = 6 by omega) with rfl | rfl | rfl | rfl | rfl | rfl | rfl <;> rfl
  · rw [if_neg c, lwF, if_pos hk]
theorem lwC_7 (S : zS) (d : Nat) : lwC S d 7 = if yx S d = 31 then -9 else nI (yx S d) := by
  rw [lwC]
  by_cases c : yx S d = 31
  · rw [if_pos c, if_pos c]; rfl
  · rw [if_neg c, if_neg c]; rfl
end FRA
def eix (S : zS) (x : Int32) : Option Nat := if 0 ≤ x ∧ x ≤ nI (S.1 20 0) - 1 then some x.toNatClampNeg else none
theorem hix_some {S : zS} {x : Int32} {j : Nat} (hn : S.1 1 0 ≤ 8) (h : hix S x = some j) : j < S.1 1 0 ∧ x = nI j := by
  by_cases c : 0 ≤ x ∧ x ≤ nI (S.1 1 0) - 1
  · obtain ⟨i, h1, h2, h3⟩ := hix_yes hn c
    rw [h3] at h
    have e : i = j := Option.some.inj h
    rw [← e]; exact ⟨h1, h2⟩
  · rw [hix_no c] at h; cases h
theorem eix_some {S : zS} {x : Int32} {j : Nat} (hn : S.1 20 0 ≤ 20) (h : eix S x = some j) : j < S.1 20 0 ∧ x = nI j := by
  by_cases c : 0 ≤ x ∧ x ≤ nI (S.1 20 0) - 1
  · rw [eix, if_pos c] at h
    have e : x.toNatClampNeg = j := Option.some.inj h
    obtain ⟨h1, h2⟩ := ix_lt c (by omega)
    rw [← e]; exact ⟨h1, h2⟩
  · rw [eix, if_neg c] at h; cases h
theorem eix_in {S : zS} {j : Nat} (hj : j < S.1 20 0) (hn : S.1 20 0 ≤ 20) : eix S (nI j) = some j := by
  rw [eix, if_pos (z_wi1 hj (by omega)), nI_clamp (by omega)]
theorem ha_1 {S : zS} {X : Nat → Nat → Nat} {x : Int32} (hn : S.1 1 0 ≤ 8) (c : 0 ≤ x ∧ x ≤ nI 8 - 1) : some (va_rf (fHo S X x.toNatClampNeg)) = some (va_rf ((hix S x).map (X 1))) := by
  obtain ⟨h1, h2⟩ := ix_lt c (by decide)
  rw [fHo]
  by_cases q : x.toNatClampNeg < S.1 1 0
  · rw [if_pos q, show hix S x = some x.toNatClampNeg by rw [h2, nI_clamp (by omega)]; exact hix_in q hn]; rfl
  · rw [if_neg q, hix_no (fun z => q (ix_lt z (by omega)).1)]; rfl
theorem ha_0 {S : zS} {X : Nat → Nat → Nat} {x : Int32} (hn : S.1 1 0 ≤ 8) (c : ¬ (0 ≤ x ∧ x ≤ nI 8 - 1)) : some Value.null = some (va_rf ((hix S x).map (X 1))) := by
  rw [hix_no (fun z => c (by
    obtain ⟨h1, h2⟩ := ix_lt z (by omega)
    rw [h2]; exact z_wi1 (by omega) (by decide)))]
  rfl
theorem ea_1 {S : zS} {X : Nat → Nat → Nat} {x : Int32} (hn : S.1 20 0 ≤ 20) (c : 0 ≤ x ∧ x ≤ nI 20 - 1) : some (va_rf (fEn S X x.toNatClampNeg)) = some (va_rf ((eix S x).map (X 6))) := by
  obtain ⟨h1, h2⟩ := ix_lt c (by decide)
  rw [fEn]
  by_cases q : x.toNatClampNeg < S.1 20 0
  · rw [if_pos q, show eix S x = some x.toNatClampNeg by rw [h2, nI_clamp (by omega)]; exact eix_in q hn]; rfl
  · rw [if_neg q, show eix S x = none by rw [eix, if_neg (fun z => q (ix_lt z (by omega)).1)]]; rfl
theorem ea_0 {S : zS} {X : Nat → Nat → Nat} {x : Int32} (hn : S.1 20 0 ≤ 20) (c : ¬ (0 ≤ x ∧ x ≤ nI 20 - 1)) : some Value.null = some (va_rf ((eix S x).map (X 6))) := by
  rw [show eix S x = none by rw [eix, if_neg (fun z => c (by
    obtain ⟨h1, h2⟩ := ix_lt z (by omega)
    rw [h2]; exact z_wi1 (by omega) (by decide)))]]
  rfl

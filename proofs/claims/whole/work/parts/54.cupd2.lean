theorem up_comm {G : zG} {a b : Nat} {x y : Option va_E} (h : a ≠ b) : va_up (va_up G a x) b y = va_up (va_up G b y) a x := by
  funext q
  by_cases h1 : q = a
  · subst h1
    rw [va_up_ne _ _ h, va_up_self, va_up_self]
  · by_cases h2 : q = b
    · subst h2
      rw [va_up_self, va_up_ne _ _ h1, va_up_self]
    · rw [va_up_ne _ _ h2, va_up_ne _ _ h1, va_up_ne _ _ h1, va_up_ne _ _ h2]
theorem psum_cong {f g : Nat → Int32} : ∀ k, (∀ i, i < k → f i = g i) → psum f k = psum g k
  | 0, _ => rfl
  | k + 1, h => by rw [psum, psum, psum_cong k (fun i hi => h i (by omega)), h k (by omega)]
theorem psum_upd {f : Nat → Int32} {t : Nat} {v : Int32} : ∀ k, t < k → psum (upd f t (f t + v)) k = psum f k + v
  | 0, h => absurd h (Nat.not_lt_zero t)
  | k + 1, h => by
    by_cases q : t = k
    · subst q
      rw [psum, psum, psum_cong t (g := f) (fun i hi => by simp only [upd, if_neg (show ¬ i = t by omega)]), show upd f t (f t + v) t = f t + v by simp [upd], Int32.add_assoc]
    · rw [psum, psum, psum_upd k (by omega), show upd f t (f t + v) k = f k by simp only [upd, if_neg (show ¬ k = t by omega)], Int32.add_assoc, Int32.add_assoc, Int32.add_comm v]
theorem psum_tail {f : Nat → Int32} {m : Nat} : ∀ k, m ≤ k → (∀ i, m ≤ i → i < k → f i = 0) → psum f k = psum f m
  | 0, h, _ => by rw [show m = 0 by omega]
  | k + 1, h, hz => by
    by_cases q : m = k + 1
    · rw [q]
    · rw [psum, psum_tail k (by omega) (fun i h1 h2 => hz i h1 (by omega)), hz k (by omega) (by omega), Int32.add_zero]
section C2
variable {cT : Nat → ClassId} {S T : zS} {X : Nat → Nat → Nat} {ct md sc rp : Int32} {fo fd : Nat → Int32} {G : zG}
theorem f2_0 (h : FR cT S X ct md sc rp fo fd G) {j : Nat} (hj : j < S.1 1 0) (hk : S.1 2 j = 0) : G (X 2 j) = some (.inr (8, [.int (nI (S.1 4 j))])) := by
  have := f2 h hj
  rw [bdy, if_pos hk] at this
  exact this
theorem f2_1 (h : FR cT S X ct md sc rp fo fd G) {j : Nat} (hj : j < S.1 1 0) (hk : S.1 2 j = 1) : G (X 2 j) = some (.inr (1, [.int (nI (S.1 4 j)), .int (nI (S.1 5 j))])) := by
  have := f2 h hj
  rw [bdy, if_neg (by omega), if_pos hk] at this
  exact this
theorem f2_2 (h : FR cT S X ct md sc rp fo fd G) {j : Nat} (hj : j < S.1 1 0) (hk : S.1 2 j = 2) : G (X 2 j) = some (.inr (7, [.int (nI (S.1 5 j)), .int (nI (S.1 4 j))])) := by
  have := f2 h hj
  rw [bdy, if_neg (by omega), if_neg (by omega)] at this
  exact this
theorem ptk_0 {j : Nat} (hk : S.1 2 j = 0) : 10 * nI (S.1 4 j) = pts S j := by rw [pts, if_pos hk]
theorem ptk_1 {j : Nat} (hk : S.1 2 j = 1) : 10 * nI (S.1 4 j) - 2 * nI (S.1 5 j) = pts S j := by rw [pts, if_neg (by omega), if_pos hk]
theorem ptk_2 {j : Nat} (hk : S.1 2 j = 2) : 10 * nI (S.1 4 j) - 2 * nI (S.1 5 j) - zfd (10 * nI (S.1 4 j) - 2 * nI (S.1 5 j)) = pts S j := by rw [pts, if_neg (by omega), if_neg (by omega)]
theorem mkk_0 {j : Nat} (hk : S.1 2 j = 0) : (1 : Int32).toInt64 = mks S j := by rw [mks, if_pos hk]; decide
theorem mkk_1 {j : Nat} (hk : S.1 2 j = 1) : ((1 : Int32) + 10).toInt64 = mks S j := by rw [mks, if_neg (by omega), if_pos hk]; decide
theorem mkk_2 {j : Nat} (hk : S.1 2 j = 2) : ((1 : Int32) + 10 + 100).toInt64 = mks S j := by rw [mks, if_neg (by omega), if_neg (by omega)]; decide
theorem sN_self (S : zS) (k i : Nat) : sN S k i (S.1 k i) = S := by
  have h : (fun a b => if a = k ∧ b = i then S.1 k i else S.1 a b) = S.1 := by
    funext a b
    by_cases q : a = k ∧ b = i
    · rw [if_pos q, q.1, q.2]
    · rw [if_neg q]
  show ((fun a b => if a = k ∧ b = i then S.1 k i else S.1 a b), S.2) = S
  rw [h]
theorem fr_tr (hF : FR cT S X ct md sc rp fo fd G) (u : Int64) : FR cT (sT S u) X ct md sc rp fo fd (va_up G (X 0 0) (some (.inr (9, [.ref (X 0 1), .ref (X 0 2), .ref (X 0 3), .ref (X 0 4), .ref (X 0 5), .ref (X 0 7), .ref (X 0 9), .int (nI (S.1 1 0)), .int (nI (S.1 10 0)), .int (nI (S.1 20 0)), .int (nI (S.1 0 0)), .long u])))) :=
  fr_o hF (sT S u) ⟨S.1 0 0, u, by rw [sN_self]⟩
theorem fr_days (hF : FR cT S X ct md sc rp fo fd G) (t : Nat) : FR cT (sN S 0 0 t) X ct md sc rp fo fd (va_up G (X 0 0) (some (.inr (9, [.ref (X 0 1), .ref (X 0 2), .ref (X 0 3), .ref (X 0 4), .ref (X 0 5), .ref (X 0 7), .ref (X 0 9), .int (nI (S.1 1 0)), .int (nI (S.1 10 0)), .int (nI (S.1 20 0)), .int (nI t), .long S.2.2])))) :=
  fr_o hF (sN S 0 0 t) ⟨t, S.2.2, rfl⟩
theorem fr_34x (hF : FR cT S X ct md sc rp fo fd G) {j : Nat} (hj : j < S.1 1 0) (e1 : ∀ k, k = 0 ∨ k = 1 ∨ k = 2 ∨ k = 3 ∨ k = 4 ∨ k = 5 ∨ k = 9 ∨ k = 10 ∨ k = 15 ∨ k = 20 ∨ k = 21 ∨ k = 22 ∨ k = 25 ∨ k = 26 → T.1 k = S.1 k) (e2 : ∀ k, k = 6 ∨ k = 8 ∨ k = 11 ∨ k = 12 ∨ k = 13 ∨ k = 14 ∨ k = 23 ∨ k = 24 → T.2.1 k = S.2.1 k) (e3 : T.2.2 = S.2.2) (e4 : ∀ h, h ≠ j → T.1 18 h = S.1 18 h ∧ T.1 16 h = S.1 16 h ∧ T.2.1 17 h = S.2.1 17 h ∧ rowS T h = rowS S h) {v n f r : Int32} {g : Nat → Int32} (hg : g = rowS T j) (hn : n = nI (T.1 18 j)) (hf : f = nI (T.1 16 j)) (hr : r = T.2.1 17 j) (hv : v = psum (rowS T j) 301) :
    FR cT T X ct md sc rp fo fd (va_up (va_up G (X 4 j) (some (.inl (cT 0, 301, .inl g)))) (X 3 j) (some (.inr (5, [.ref (X 4 j), .int n, .int f, .int r, .int v])))) := by
  subst hg; subst hn; subst hf; subst hr
  exact fr_34 hF hj e1 e2 e3 e4 hv
theorem row_pay {j t : Nat} (ht : t < 301) (v : Int32) : upd (rowS S j) t (rowS S j t + v) = rowS (sG S 19 (301 * j + t) (S.2.1 19 (301 * j + t) + v)) j := by
  funext d
  show (if d = t then (if t < 301 then S.2.1 19 (301 * j + t) else 0) + v else if d < 301 then S.2.1 19 (301 * j + d) else 0) = if d < 301 then (if 19 = 19 ∧ 301 * j + d = 301 * j + t then S.2.1 19 (301 * j + t) + v else S.2.1 19 (301 * j + d)) else 0
  rw [if_pos ht]
  by_cases h : d = t
  · rw [if_pos h, if_pos (by omega), if_pos ⟨rfl, by omega⟩]
  · rw [if_neg h]
    by_cases h2 : d < 301
    · rw [if_pos h2, if_pos h2, if_neg (by omega)]
    · rw [if_neg h2, if_neg h2]
theorem row_pay_ne {j t h : Nat} (ht : t < 301) (v : Int32) (hne : h ≠ j) : rowS (sG S 19 (301 * j + t) v) h = rowS S h := by
  funext d
  show (if d < 301 then (if 19 = 19 ∧ 301 * h + d = 301 * j + t then v else S.2.1 19 (301 * h + d)) else 0) = if d < 301 then S.2.1 19 (301 * h + d) else 0
  by_cases h2 : d < 301
  · rw [if_pos h2, if_pos h2, if_neg (by omega)]
  · rw [if_neg h2, if_neg h2]
theorem pay_e {nn j : Nat} (hS : ok S nn) (hj : j < S.1 1 0) : psum (rowS S j) 301 = psum (fun d => S.2.1 19 (301 * j + d)) (S.1 0 0 + 1) := by
  have k := hS.1
  rw [psum_cong 301 (g := fun d => S.2.1 19 (301 * j + d)) (fun i hi => by rw [rowS, if_pos hi])]
  exact psum_tail 301 (by omega) (fun i h1 h2 => hS.2.2.2.2.2.2.2.2.1 j i (by omega) h2 (Or.inl (by omega)))
theorem fr_pay (hF : FR cT S X ct md sc rp fo fd G) {j : Nat} (hj : j < S.1 1 0) (ht : S.1 0 0 ≤ 300) (v : Int32) : FR cT (sG S 19 (301 * j + S.1 0 0) (S.2.1 19 (301 * j + S.1 0 0) + v)) X ct md sc rp fo fd (va_up (va_up G (X 4 j) (some (.inl (cT 0, 301, .inl (upd (rowS S j) (S.1 0 0) (rowS S j (S.1 0 0) + v)))))) (X 3 j) (some (.inr (5, [.ref (X 4 j), .int (nI (S.1 18 j)), .int (nI (S.1 16 j)), .int (S.2.1 17 j), .int (psum (rowS S j) 301 + v)])))) := by
  refine fr_34x (T := sG S 19 (301 * j + S.1 0 0) (S.2.1 19 (301 * j + S.1 0 0) + v)) hF hj (fun k hk => rfl) (fun k hk => ?_) rfl (fun h hne => ⟨rfl, rfl, rfl, row_pay_ne (by omega) _ hne⟩) (row_pay (by omega) v) rfl rfl rfl ?_
  · funext b
    show (if k = 19 ∧ _ then _ else S.2.1 k b) = S.2.1 k b
    rw [if_neg (by omega)]
  · rw [← row_pay (by omega) v, psum_upd 301 (by omega)]
theorem row_let {j : Nat} (T : zS) : zfill (rowS T j) 301 = rowS (sZ T j) j := by
  funext d
  show (if d < 301 then 0 else if d < 301 then T.2.1 19 (301 * j + d) else 0) = if d < 301 then (if 19 = 19 ∧ 301 * j ≤ 301 * j + d ∧ 301 * j + d < 301 * j + 301 then 0 else T.2.1 19 (301 * j + d)) else 0
  by_cases h2 : d < 301
  · rw [if_pos h2, if_pos h2, if_pos (by omega)]
  · rw [if_neg h2, if_neg h2, if_neg h2]
theorem row_let_ne {j h : Nat} (T : zS) (hne : h ≠ j) : rowS (sZ T j) h = rowS T h := by
  funext d
  show (if d < 301 then (if 19 = 19 ∧ 301 * j ≤ 301 * h + d ∧ 301 * h + d < 301 * j + 301 then 0 else T.2.1 19 (301 * h + d)) else 0) = if d < 301 then T.2.1 19 (301 * h + d) else 0
  by_cases h2 : d < 301
  · rw [if_pos h2, if_pos h2, if_neg (by omega)]
  · rw [if_neg h2, if_neg h2]
theorem psum_0 : ∀ k (f : Nat → Int32), (∀ i, i < k → f i = 0) → psum f k = 0
  | 0, _, _ => rfl
  | k + 1, f, h => by rw [psum, psum_0 k f (fun i hi => h i (by omega)), h k (by omega)]; rfl
theorem fr_let (hF : FR cT S X ct md sc rp fo fd G) {j : Nat} (hj : j < S.1 1 0) (r : Int32) : FR cT (sZ (sN (sG (sN S 16 j (S.1 0 0)) 17 j r) 18 j (S.1 18 j + 1)) j) X ct md sc rp fo fd (va_up (va_up G (X 4 j) (some (.inl (cT 0, 301, .inl (zfill (rowS S j) 301))))) (X 3 j) (some (.inr (5, [.ref (X 4 j), .int (nI (S.1 18 j) + 1), .int (nI (S.1 0 0)), .int r, .int 0])))) := by
  have hrow : rowS (sZ (sN (sG (sN S 16 j (S.1 0 0)) 17 j r) 18 j (S.1 18 j + 1)) j) j = zfill (rowS S j) 301 := (row_let (j := j) (sN (sG (sN S 16 j (S.1 0 0)) 17 j r) 18 j (S.1 18 j + 1))).symm
  refine fr_34x (T := sZ (sN (sG (sN S 16 j (S.1 0 0)) 17 j r) 18 j (S.1 18 j + 1)) j) hF hj (fun k hk => ?_) (fun k hk => ?_) rfl (fun h hne => ⟨?_, ?_, ?_, ?_⟩) hrow.symm ?_ ?_ ?_ ?_
  · funext b
    show (if k = 18 ∧ b = j then _ else if k = 16 ∧ b = j then _ else S.1 k b) = S.1 k b
    rw [if_neg (by omega), if_neg (by omega)]
  · funext b
    show (if k = 19 ∧ _ then _ else if k = 17 ∧ b = j then _ else S.2.1 k b) = S.2.1 k b
    rw [if_neg (by omega), if_neg (by omega)]
  · show (if 18 = 18 ∧ h = j then S.1 18 j + 1 else S.1 18 h) = _
    rw [if_neg (by omega)]
  · show (if 16 = 16 ∧ h = j then S.1 0 0 else S.1 16 h) = _
    rw [if_neg (by omega)]
  · show (if 17 = 17 ∧ h = j then r else S.2.1 17 h) = _
    rw [if_neg (by omega)]
  · exact row_let_ne (sN (sG (sN S 16 j (S.1 0 0)) 17 j r) 18 j (S.1 18 j + 1)) hne
  · show _ = nI (if 18 = 18 ∧ j = j then S.1 18 j + 1 else S.1 18 j)
    rw [if_pos ⟨rfl, rfl⟩, nI_1]
  · show _ = nI (if 16 = 16 ∧ j = j then S.1 0 0 else S.1 16 j)
    rw [if_pos ⟨rfl, rfl⟩]
  · show _ = (if 17 = 17 ∧ j = j then r else S.2.1 17 j)
    rw [if_pos ⟨rfl, rfl⟩]
  · rw [hrow, psum_0 301 _ (fun i hi => by rw [zfill, if_pos hi])]
end C2

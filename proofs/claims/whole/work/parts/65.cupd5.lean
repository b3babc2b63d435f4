def bdE (x rm fl : Int32) : va_E := if x = 0 then .inr (8, [.int rm]) else if x = 1 then .inr (1, [.int rm, .int fl]) else .inr (7, [.int fl, .int rm])
def sHome (S : zS) (k a r f : Nat) : zS := sN (sG (sN (sN (sN (sN S 2 (S.1 1 0) k) 3 (S.1 1 0) a) 4 (S.1 1 0) r) 5 (S.1 1 0) f) 6 (S.1 1 0) 0) 1 0 (S.1 1 0 + 1)
def cU (c : Nat → Nat → Option va_E) (k i : Nat) (e : va_E) : Nat → Nat → Option va_E := fun a b => if a = k ∧ b = i then some e else c a b
theorem Pic.setA {c c' : Nat → Nat → Option va_E} {X : Nat → Nat → Nat} {G : zG} (h : Pic c X G) (k i : Nat) {p : Nat} (hp : X k i = p) (hk : c k i ≠ none) (e : va_E) (hc : ∀ a b, c' a b = if a = k ∧ b = i then some e else c a b) : Pic c' X (va_up G p (some e)) := by
  subst hp
  exact Pic.set h k i hk e hc
theorem psum_zero {f : Nat → Int32} (h : ∀ k, f k = 0) : ∀ n, psum f n = 0
  | 0 => rfl
  | n + 1 => by rw [psum, psum_zero h n, h n]; rfl
section C5
variable {cT : Nat → ClassId} {S : zS} {X : Nat → Nat → Nat} {ct md sc rp : Int32} {fo fd : Nat → Int32} {G : zG}
theorem sH_2 {k a r f i : Nat} : (sHome S k a r f).1 2 i = if i = S.1 1 0 then k else S.1 2 i := by
  show (if 2 = 2 ∧ i = S.1 1 0 then k else S.1 2 i) = _
  simp
theorem sH_3 {k a r f i : Nat} : (sHome S k a r f).1 3 i = if i = S.1 1 0 then a else S.1 3 i := by
  show (if 3 = 3 ∧ i = S.1 1 0 then a else S.1 3 i) = _
  simp
theorem sH_4 {k a r f i : Nat} : (sHome S k a r f).1 4 i = if i = S.1 1 0 then r else S.1 4 i := by
  show (if 4 = 4 ∧ i = S.1 1 0 then r else S.1 4 i) = _
  simp
theorem sH_5 {k a r f i : Nat} : (sHome S k a r f).1 5 i = if i = S.1 1 0 then f else S.1 5 i := by
  show (if 5 = 5 ∧ i = S.1 1 0 then f else S.1 5 i) = _
  simp
theorem sH_6 {k a r f i : Nat} : (sHome S k a r f).2.1 6 i = if i = S.1 1 0 then 0 else S.2.1 6 i := by
  show (if 6 = 6 ∧ i = S.1 1 0 then 0 else S.2.1 6 i) = _
  simp
theorem bdE_n {k a r f : Nat} (hk : k ≤ 2) : bdy (sHome S k a r f) (S.1 1 0) = bdE (nI k) (nI r) (nI f) := by
  rw [bdy, sH_2, sH_4, sH_5, if_pos rfl, if_pos rfl, if_pos rfl, bdE]
  rcases (show k = 0 ∨ k = 1 ∨ k = 2 by omega) with rfl | rfl | rfl
  · rw [if_pos rfl, if_pos (show nI 0 = 0 by decide)]
  · rw [if_neg (by decide), if_pos rfl, if_neg (by decide), if_pos (show nI 1 = 1 by decide)]
  · rw [if_neg (by decide), if_neg (by decide), if_neg (by decide), if_neg (by decide)]
theorem bdE_o {k a r f i : Nat} (h : ¬ i = S.1 1 0) : bdy (sHome S k a r f) i = bdy S i := by
  rw [bdy, bdy, sH_2, sH_4, sH_5, if_neg h, if_neg h, if_neg h]
theorem ok_row {nn : Nat} (hS : ok S nn) {h : Nat} (hh : h < 8) (h18 : S.1 18 h = 0) : rowS S h = fun _ => 0 := by
  funext d
  rw [rowS]
  by_cases c : d < 301
  · rw [if_pos c]; exact hS.2.2.2.2.2.2.2.2.1 h d hh c (Or.inr (Or.inr h18))
  · rw [if_neg c]
theorem fr_home (hF : FR cT S X ct md sc rp fo fd G) {nn : Nat} (hS : ok S nn) (hn : S.1 1 0 < 8) {q b r t : Nat} {e0 : va_E} {k a rr f : Nat} (hk : k ≤ 2) (h1 : G q = none) (h2 : va_up G q (some e0) b = none) (h3 : va_up (va_up G q (some e0)) b (some (bdE (nI k) (nI rr) (nI f))) r = none) (h4 : va_up (va_up (va_up G q (some e0)) b (some (bdE (nI k) (nI rr) (nI f)))) r (some (.inl (cT 0, 301, .inl (fun _ => 0)))) t = none) :
    FR cT (sHome S k a rr f) (xU (xU (xU (xU X 1 (S.1 1 0) q) 2 (S.1 1 0) b) 4 (S.1 1 0) r) 3 (S.1 1 0) t) ct md sc rp fo fd
      (va_up (va_up (va_up (va_up (va_up (va_up (va_up G q (some e0)) b (some (bdE (nI k) (nI rr) (nI f)))) r (some (.inl (cT 0, 301, .inl (fun _ => 0))))) t (some (.inr (5, [.ref r, .int 0, .int 0, .int 0, .int 0])))) q (some (.inr (3, [.ref b, .int (nI a), .ref t, .int 0])))) (X 0 1) (some (.inl (cT 2, 8, .inr (.inr (.inr (.inr (va_up (fHo S X) (S.1 1 0) (some q))))))))) (X 0 0) (some (.inr (9, [.ref (X 0 1), .ref (X 0 2), .ref (X 0 3), .ref (X 0 4), .ref (X 0 5), .ref (X 0 7), .ref (X 0 9), .int (nI (S.1 1 0 + 1)), .int (nI (S.1 10 0)), .int (nI (S.1 20 0)), .int (nI (S.1 0 0)), .long S.2.2])))) := by
  have a1 := Pic.ren (c' := cU (fC cT S X ct md sc rp fo fd) 1 (S.1 1 0) e0) hF 1 (S.1 1 0) q h1 _ (fun _ _ => rfl)
  have a2 := Pic.ren (c' := cU (cU (fC cT S X ct md sc rp fo fd) 1 (S.1 1 0) e0) 2 (S.1 1 0) (bdE (nI k) (nI rr) (nI f))) a1 2 (S.1 1 0) b h2 _ (fun _ _ => rfl)
  have a3 := Pic.ren (c' := cU (cU (cU (fC cT S X ct md sc rp fo fd) 1 (S.1 1 0) e0) 2 (S.1 1 0) (bdE (nI k) (nI rr) (nI f))) 4 (S.1 1 0) (.inl (cT 0, 301, .inl (fun _ => 0)))) a2 4 (S.1 1 0) r h3 _ (fun _ _ => rfl)
  have a4 := Pic.ren (c' := cU (cU (cU (cU (fC cT S X ct md sc rp fo fd) 1 (S.1 1 0) e0) 2 (S.1 1 0) (bdE (nI k) (nI rr) (nI f))) 4 (S.1 1 0) (.inl (cT 0, 301, .inl (fun _ => 0)))) 3 (S.1 1 0) (.inr (5, [.ref r, .int 0, .int 0, .int 0, .int 0]))) a3 3 (S.1 1 0) t h4 _ (fun _ _ => rfl)
  have x1 : ∀ i, xU (xU (xU (xU X 1 (S.1 1 0) q) 2 (S.1 1 0) b) 4 (S.1 1 0) r) 3 (S.1 1 0) t 1 i = if i = S.1 1 0 then q else X 1 i := fun i => by
    show (if 1 = 1 ∧ i = S.1 1 0 then q else X 1 i) = _
    simp
  have x2 : ∀ i, xU (xU (xU (xU X 1 (S.1 1 0) q) 2 (S.1 1 0) b) 4 (S.1 1 0) r) 3 (S.1 1 0) t 2 i = if i = S.1 1 0 then b else X 2 i := fun i => by
    show (if 2 = 2 ∧ i = S.1 1 0 then b else X 2 i) = _
    simp
  have x3 : ∀ i, xU (xU (xU (xU X 1 (S.1 1 0) q) 2 (S.1 1 0) b) 4 (S.1 1 0) r) 3 (S.1 1 0) t 3 i = if i = S.1 1 0 then t else X 3 i := fun i => by
    show (if 3 = 3 ∧ i = S.1 1 0 then t else X 3 i) = _
    simp
  have x4 : ∀ i, xU (xU (xU (xU X 1 (S.1 1 0) q) 2 (S.1 1 0) b) 4 (S.1 1 0) r) 3 (S.1 1 0) t 4 i = if i = S.1 1 0 then r else X 4 i := fun i => by
    show (if 4 = 4 ∧ i = S.1 1 0 then r else X 4 i) = _
    simp
  have a5 := Pic.setA (c' := cU (cU (cU (cU (cU (fC cT S X ct md sc rp fo fd) 1 (S.1 1 0) e0) 2 (S.1 1 0) (bdE (nI k) (nI rr) (nI f))) 4 (S.1 1 0) (.inl (cT 0, 301, .inl (fun _ => 0)))) 3 (S.1 1 0) (.inr (5, [.ref r, .int 0, .int 0, .int 0, .int 0]))) 1 (S.1 1 0) (.inr (3, [.ref b, .int (nI a), .ref t, .int 0]))) a4 1 (S.1 1 0) (by rw [x1, if_pos rfl]) (by
    show (if 1 = 1 ∧ S.1 1 0 = S.1 1 0 then some e0 else _) ≠ none
    rw [if_pos ⟨rfl, rfl⟩]; exact fun z => by cases z) _ (fun _ _ => rfl)
  have a6 := Pic.set (c' := cU (cU (cU (cU (cU (cU (fC cT S X ct md sc rp fo fd) 1 (S.1 1 0) e0) 2 (S.1 1 0) (bdE (nI k) (nI rr) (nI f))) 4 (S.1 1 0) (.inl (cT 0, 301, .inl (fun _ => 0)))) 3 (S.1 1 0) (.inr (5, [.ref r, .int 0, .int 0, .int 0, .int 0]))) 1 (S.1 1 0) (.inr (3, [.ref b, .int (nI a), .ref t, .int 0]))) 0 1 (.inl (cT 2, 8, .inr (.inr (.inr (.inr (va_up (fHo S X) (S.1 1 0) (some q)))))))) a5 0 1 (by show (some _ : Option va_E) ≠ none; exact fun z => by cases z) _ (fun _ _ => rfl)
  refine Pic.set a6 0 0 (by show (some _ : Option va_E) ≠ none; exact fun z => by cases z) _ (fun a1 b1 => ?_)
  have hz := hS.2.2.2.2.2.2.2.1 (S.1 1 0) (Nat.le_refl _)
  have hz2 := (hS.2.2.2.2.2.2.1 (S.1 1 0)).2.2 hz
  rcases a1 with _ | _ | _ | _ | _ | _ | _ | _ | _ | a1
  · rcases b1 with _ | _ | _ | _ | _ | _ | _ | _ | _ | _ | b1
    · rfl
    · show (some (.inl (cT 2, 8, .inr (.inr (.inr (.inr (fun i => if i < S.1 1 0 + 1 then some (xU (xU (xU (xU X 1 (S.1 1 0) q) 2 (S.1 1 0) b) 4 (S.1 1 0) r) 3 (S.1 1 0) t 1 i) else none)))))) : Option va_E) = some (.inl (cT 2, 8, .inr (.inr (.inr (.inr (va_up (fHo S X) (S.1 1 0) (some q)))))))
      refine qcong (fun i => ?_)
      rw [x1]
      show _ = if i = S.1 1 0 then some q else if i < S.1 1 0 then some (X 1 i) else none
      by_cases z : i = S.1 1 0
      · rw [if_pos z, if_pos (by omega), if_pos z]
      · rw [if_neg z, if_neg z]
        by_cases y : i < S.1 1 0
        · rw [if_pos y, if_pos (by omega)]
        · rw [if_neg y, if_neg (by omega)]
    all_goals rfl
  · show (if b1 < S.1 1 0 + 1 then some (.inr (3, [.ref (xU (xU (xU (xU X 1 (S.1 1 0) q) 2 (S.1 1 0) b) 4 (S.1 1 0) r) 3 (S.1 1 0) t 2 b1), .int (nI ((sHome S k a rr f).1 3 b1)), .ref (xU (xU (xU (xU X 1 (S.1 1 0) q) 2 (S.1 1 0) b) 4 (S.1 1 0) r) 3 (S.1 1 0) t 3 b1), .int ((sHome S k a rr f).2.1 6 b1)])) else none : Option va_E) = (if 1 = 1 ∧ b1 = S.1 1 0 then some (.inr (3, [.ref b, .int (nI a), .ref t, .int 0])) else if 1 = 1 ∧ b1 = S.1 1 0 then some e0 else if b1 < S.1 1 0 then some (.inr (3, [.ref (X 2 b1), .int (nI (S.1 3 b1)), .ref (X 3 b1), .int (S.2.1 6 b1)])) else none)
    rw [x2, x3, sH_3, sH_6]
    by_cases z : b1 = S.1 1 0
    · rw [if_pos (by omega), if_pos z, if_pos z, if_pos z, if_pos z, if_pos ⟨rfl, z⟩]
    · rw [if_neg z, if_neg z, if_neg z, if_neg z, if_neg (c := 1 = 1 ∧ b1 = S.1 1 0) (fun y => z y.2), if_neg (c := 1 = 1 ∧ b1 = S.1 1 0) (fun y => z y.2)]
      by_cases y : b1 < S.1 1 0
      · rw [if_pos y, if_pos (by omega)]
      · rw [if_neg y, if_neg (by omega)]
  · show (if b1 < S.1 1 0 + 1 then some (bdy (sHome S k a rr f) b1) else none : Option va_E) = (if 2 = 2 ∧ b1 = S.1 1 0 then some (bdE (nI k) (nI rr) (nI f)) else if b1 < S.1 1 0 then some (bdy S b1) else none)
    by_cases z : b1 = S.1 1 0
    · rw [if_pos (by omega), if_pos ⟨rfl, z⟩, z, bdE_n hk]
    · rw [if_neg (c := 2 = 2 ∧ b1 = S.1 1 0) (fun y => z y.2), bdE_o z]
      by_cases y : b1 < S.1 1 0
      · rw [if_pos y, if_pos (by omega)]
      · rw [if_neg y, if_neg (by omega)]
  · show (if b1 < S.1 1 0 + 1 then some (.inr (5, [.ref (xU (xU (xU (xU X 1 (S.1 1 0) q) 2 (S.1 1 0) b) 4 (S.1 1 0) r) 3 (S.1 1 0) t 4 b1), .int (nI (S.1 18 b1)), .int (nI (S.1 16 b1)), .int (S.2.1 17 b1), .int (psum (rowS S b1) 301)])) else none : Option va_E) = (if 3 = 3 ∧ b1 = S.1 1 0 then some (.inr (5, [.ref r, .int 0, .int 0, .int 0, .int 0])) else if b1 < S.1 1 0 then some (.inr (5, [.ref (X 4 b1), .int (nI (S.1 18 b1)), .int (nI (S.1 16 b1)), .int (S.2.1 17 b1), .int (psum (rowS S b1) 301)])) else none)
    rw [x4]
    by_cases z : b1 = S.1 1 0
    · rw [if_pos (by omega), if_pos z, if_pos ⟨rfl, z⟩, z, hz, hz2.1, hz2.2, ok_row hS hn hz, psum_zero (fun _ => rfl)]
      rfl
    · rw [if_neg z, if_neg (c := 3 = 3 ∧ b1 = S.1 1 0) (fun y => z y.2)]
      by_cases y : b1 < S.1 1 0
      · rw [if_pos y, if_pos (by omega)]
      · rw [if_neg y, if_neg (by omega)]
  · show (if b1 < S.1 1 0 + 1 then some (.inl (cT 0, 301, .inl (rowS S b1))) else none : Option va_E) = (if 4 = 4 ∧ b1 = S.1 1 0 then some (.inl (cT 0, 301, .inl (fun _ => 0))) else if b1 < S.1 1 0 then some (.inl (cT 0, 301, .inl (rowS S b1))) else none)
    by_cases z : b1 = S.1 1 0
    · rw [if_pos (by omega), if_pos ⟨rfl, z⟩, z, ok_row hS hn hz]
    · rw [if_neg (c := 4 = 4 ∧ b1 = S.1 1 0) (fun y => z y.2)]
      by_cases y : b1 < S.1 1 0
      · rw [if_pos y, if_pos (by omega)]
      · rw [if_neg y, if_neg (by omega)]
  · rfl
  · show _ = fC cT S X ct md sc rp fo fd 6 b1
    exact fC6x Iff.rfl (fun _ => ⟨rfl, rfl, rfl, rfl, rfl, rfl, rfl, rfl, lwA_cong2 (yx_cong (by rfl) _) rfl (fun _ => rfl)⟩)
  · rfl
  · rfl
  · rfl
theorem sHome_eq (S : zS) (k a r f : Nat) : sHome S k a r f = sN (sG (sN (sN (sN (sN S 2 (S.1 1 0) k) 3 (S.1 1 0) a) 4 (S.1 1 0) r) 5 (S.1 1 0) f) 6 (S.1 1 0) 0) 1 0 (S.1 1 0 + 1) := rfl
end C5

/-! THE STATE: whole numbers that serve as places or counts (S.1 k i: the model's field k at place i), other ints (S.2.1 k i), the trace (S.2.2). -/
abbrev zS : Type := (Nat → Nat → Nat) × (Nat → Nat → Int32) × Int64
def sN (S : zS) (k i v : Nat) : zS := (fun a b => if a = k ∧ b = i then v else S.1 a b, S.2)
def sG (S : zS) (k i : Nat) (v : Int32) : zS := (S.1, fun a b => if a = k ∧ b = i then v else S.2.1 a b, S.2.2)
def sT (S : zS) (t : Int64) : zS := (S.1, S.2.1, t)
def sZ (S : zS) (j : Nat) : zS := (S.1, fun a b => if a = 19 ∧ 301 * j ≤ b ∧ b < 301 * j + 301 then 0 else S.2.1 a b, S.2.2)
def cN (S : zS) (k : Nat) : Nat → Int32 := fun i => nI (S.1 k i)
def cL (S : zS) : Nat → Int32 := fun h => if S.1 18 h = 0 then -1 else nI (S.1 16 h)
theorem cN_sN (S : zS) (k i v : Nat) : upd (cN S k) i (nI v) = cN (sN S k i v) k := by
  funext j
  by_cases h : j = i
  · simp [upd, cN, sN, h]
  · simp [upd, cN, sN, h]
theorem cG_sG (S : zS) (k i : Nat) (v : Int32) : upd (S.2.1 k) i v = (sG S k i v).2.1 k := by
  funext j
  by_cases h : j = i
  · simp [upd, sG, h]
  · simp [upd, sG, h]
def mK : List Nat := [0, 2, 3, 4, 5, 6, 8, 9, 11, 12, 13, 14, 15, 16, 17, 18, 19, 21, 22, 23, 24, 25, 26, 27, 29]
def XI (X : Nat → Nat) : Prop := ∀ i j, i ∈ mK → j ∈ mK → X i = X j → i = j
/-- the model's cells -/
def MD (cT : Nat → ClassId) (S : zS) (X : Nat → Nat) (c28 : Int32) (f27 f29 : Nat → Int32) (G : zG) : Prop :=
  G (X 0) = some (.inr (10, [.int (nI (S.1 0 0)), .int (nI (S.1 1 0)), .ref (X 2), .ref (X 3), .ref (X 4), .ref (X 5), .ref (X 6), .long S.2.2, .ref (X 8), .ref (X 9), .int (nI (S.1 10 0)), .ref (X 11), .ref (X 12), .ref (X 13), .ref (X 14), .ref (X 15), .ref (X 16), .ref (X 17), .ref (X 18), .ref (X 19), .int (nI (S.1 20 0)), .ref (X 21), .ref (X 22), .ref (X 23), .ref (X 24), .ref (X 25), .ref (X 26), .ref (X 27), .int c28, .ref (X 29)])) ∧
  G (X 2) = some (.inl (cT 0, 8, .inl (cN S 2))) ∧
  G (X 3) = some (.inl (cT 0, 8, .inl (cN S 3))) ∧
  G (X 4) = some (.inl (cT 0, 8, .inl (cN S 4))) ∧
  G (X 5) = some (.inl (cT 0, 8, .inl (cN S 5))) ∧
  G (X 6) = some (.inl (cT 0, 8, .inl (S.2.1 6))) ∧
  G (X 8) = some (.inl (cT 0, 224, .inl (S.2.1 8))) ∧
  G (X 9) = some (.inl (cT 1, 31, .inl (cN S 9))) ∧
  G (X 11) = some (.inl (cT 0, 12, .inl (S.2.1 11))) ∧
  G (X 12) = some (.inl (cT 0, 12, .inl (S.2.1 12))) ∧
  G (X 13) = some (.inl (cT 0, 12, .inl (S.2.1 13))) ∧
  G (X 14) = some (.inl (cT 0, 12, .inl (S.2.1 14))) ∧
  G (X 15) = some (.inl (cT 1, 12, .inl (cN S 15))) ∧
  G (X 16) = some (.inl (cT 0, 8, .inl (cL S))) ∧
  G (X 17) = some (.inl (cT 0, 8, .inl (S.2.1 17))) ∧
  G (X 18) = some (.inl (cT 0, 8, .inl (cN S 18))) ∧
  G (X 19) = some (.inl (cT 0, 2408, .inl (S.2.1 19))) ∧
  G (X 21) = some (.inl (cT 0, 20, .inl (cN S 21))) ∧
  G (X 22) = some (.inl (cT 0, 20, .inl (cN S 22))) ∧
  G (X 23) = some (.inl (cT 0, 20, .inl (S.2.1 23))) ∧
  G (X 24) = some (.inl (cT 0, 60, .inl (S.2.1 24))) ∧
  G (X 25) = some (.inl (cT 0, 20, .inl (cN S 25))) ∧
  G (X 26) = some (.inl (cT 1, 20, .inl (cN S 26))) ∧
  G (X 27) = some (.inl (cT 0, 12, .inl f27)) ∧
  G (X 29) = some (.inl (cT 0, 301, .inl f29))
def MDx (cT : Nat → ClassId) (S : zS) (X : Nat → Nat) (G : zG) : Prop := ∃ (c28 : Int32) (f27 f29 : Nat → Int32), MD cT S X c28 f27 f29 G
def mQ (cT : Nat → ClassId) (X : Nat → Nat) (res : Int32 × zS) : Option Value → zG → Prop := fun r G' => MDx cT res.2 X G' ∧ r = some (.int res.1)
theorem mQ_of {cT : Nat → ClassId} {X : Nat → Nat} {res : Int32 × zS} {v : Int32} {S : zS} {G : zG} (hs : res = (v, S)) (h : MDx cT S X G) : mQ cT X res (some (.int v)) G := by
  subst hs
  exact ⟨h, rfl⟩
/-! WHAT THE CALLS ANSWER -/
def zDef : Nat → Int32 := fun k => if k = 3 then 1 else if k = 5 then 500 else if k = 6 then 20 else 0
def hix (S : zS) (x : Int32) : Option Nat := if 0 ≤ x ∧ x ≤ nI (S.1 1 0) - 1 then some x.toNatClampNeg else none
def sp_home (S : zS) (k a r f : Int32) : Int32 × zS :=
  if (0 ≤ k ∧ k ≤ 2) ∧ (0 ≤ a ∧ a ≤ 2) ∧ (1 ≤ r ∧ r ≤ 9) ∧ (0 ≤ f ∧ f ≤ 9) then
    if S.1 1 0 = 8 then (-3, S)
    else (nI (S.1 1 0), sN (sG (sN (sN (sN (sN S 2 (S.1 1 0) k.toNatClampNeg) 3 (S.1 1 0) a.toNatClampNeg) 4 (S.1 1 0) r.toNatClampNeg) 5 (S.1 1 0) f.toNatClampNeg) 6 (S.1 1 0) 0) 1 0 (S.1 1 0 + 1))
  else (-1, S)
def sp_faults (S : zS) (x n : Int32) : Int32 × zS := match hix S x with
  | none => (-1, S)
  | some j => if 0 ≤ n ∧ n ≤ 9 then (S.2.1 6 j, sG S 6 j n) else (-1, S)
def pts (S : zS) (j : Nat) : Int32 :=
  if S.1 2 j = 0 then 10 * nI (S.1 4 j) else if S.1 2 j = 1 then 10 * nI (S.1 4 j) - 2 * nI (S.1 5 j) else 10 * nI (S.1 4 j) - 2 * nI (S.1 5 j) - zfd (10 * nI (S.1 4 j) - 2 * nI (S.1 5 j))
def mks (S : zS) (j : Nat) : Int64 := if S.1 2 j = 0 then 1 else if S.1 2 j = 1 then 11 else 111
def sp_points (S : zS) (x : Int32) : Int32 × zS := match hix S x with
  | none => (-1, S)
  | some j => (pts S j, sT S (S.2.2 + mks S j))
abbrev lawIn (y a b c w le st ba : Int32) : Prop := (0 ≤ y ∧ y ≤ 30) ∧ (0 ≤ a ∧ a ≤ 90) ∧ (0 ≤ b ∧ b ≤ 90) ∧ (0 ≤ c ∧ c ≤ 90) ∧ (1 ≤ w ∧ w ≤ 9) ∧ (0 ≤ le ∧ le ≤ 20) ∧ (1 ≤ st ∧ st ≤ 500) ∧ (0 ≤ ba ∧ ba ≤ 60)
def sLaw (S : zS) (y : Nat) (a b c w le st ba : Int32) : zS :=
  sN (sG (sG (sG (sG (sG (sG (sG S 8 (7 * y) a) 8 (7 * y + 1) b) 8 (7 * y + 2) c) 8 (7 * y + 3) w) 8 (7 * y + 4) le) 8 (7 * y + 5) st) 8 (7 * y + 6) ba) 9 y 1
def sp_law (S : zS) (y a b c w le st ba : Int32) : Int32 × zS :=
  if lawIn y a b c w le st ba then
    if 10 * y.toNatClampNeg ≤ S.1 0 0 then (-2, S) else (1, sLaw S y.toNatClampNeg a b c w le st ba)
  else (-1, S)
def yrS (S : zS) : Nat → Nat
  | 0 => 31
  | y + 1 => if S.1 9 y = 1 then y else yrS S y
/-- the year of the law that is in force on a day; 31: the first one -/
def yx (S : zS) (d : Nat) : Nat := yrS S (min (d / 10) 30 + 1)
def lw (S : zS) (d k : Nat) : Int32 := S.2.1 8 (7 * yx S d + k)
def sp_force (S : zS) (d w : Int32) : Int32 × zS :=
  if (0 ≤ d ∧ d ≤ 400) ∧ (0 ≤ w ∧ w ≤ 7) then
    (if w.toNatClampNeg < 7 then lw S d.toNatClampNeg w.toNatClampNeg else if yx S d.toNatClampNeg = 31 then -9 else nI (yx S d.toNatClampNeg), S)
  else (-1, S)
def sp_like (S : zS) (a p r : Int32) : Int32 × zS :=
  if (0 ≤ a ∧ a ≤ 2) ∧ (0 ≤ p ∧ p ≤ 200) ∧ (1 ≤ r ∧ r ≤ 5000) then
    if S.1 10 0 = 12 then (-3, S)
    else (nI (S.1 10 0), sN (sN (sG (sG (sG (sG S 11 (S.1 10 0) a) 12 (S.1 10 0) p) 13 (S.1 10 0) r) 14 (S.1 10 0) (nI (S.1 0 0))) 15 (S.1 10 0) 0) 10 0 (S.1 10 0 + 1))
  else (-1, S)
def sp_strike (S : zS) (x : Int32) : Int32 × zS :=
  if 0 ≤ x ∧ x ≤ nI (S.1 10 0) - 1 then
    if S.1 15 x.toNatClampNeg = 0 then (1, sN S 15 x.toNatClampNeg 1) else (-2, S)
  else (-1, S)
def sp_days (S : zS) (x : Int32) : Int32 × zS :=
  if 1 ≤ x ∧ x ≤ 30 then
    if 300 < S.1 0 0 + x.toNatClampNeg then (-2, S) else (nI (S.1 0 0 + x.toNatClampNeg), sN S 0 0 (S.1 0 0 + x.toNatClampNeg))
  else (-1, S)
/-- a value goes in among the first k, which are in order -/
def insAt (v : Int32) : Nat → (Nat → Int32) → (Nat → Int32)
  | 0, f => upd f 0 v
  | k + 1, f => if v < f k then insAt v k (upd f (k + 1) (f k)) else upd f (k + 1) v
def vl (S : zS) (j d i : Nat) : Int32 := S.2.1 13 i + lw S d 3 * (pts S j - S.2.1 12 i)
def clc (S : zS) (j d : Nat) (f0 : Nat → Int32) : Nat → (Nat → Int32) × Nat
  | 0 => (f0, 0)
  | i + 1 => if S.1 15 i = 0 ∧ S.2.1 11 i = nI (S.1 3 j) ∧ ¬ nI d < S.2.1 14 i then (insAt (vl S j d i) (clc S j d f0 i).2 (clc S j d f0 i).1, (clc S j d f0 i).2 + 1) else clc S j d f0 i
def hcnt (S : zS) (j d : Nat) : Nat := (clc S j d (fun _ => 0) (S.1 10 0)).2
def h0 (S : zS) (j d : Nat) : Int32 := if hcnt S j d = 0 then 0 else (clc S j d (fun _ => 0) (S.1 10 0)).1 ((hcnt S j d - 1) / 2)
def h1 (S : zS) (j d : Nat) : Int32 := if h0 S j d < 0 then 0 else -(lw S d (S.1 3 j) * h0 S j d / 100)
def h2 (S : zS) (j d : Nat) : Int32 := -(lw S d 4 * S.2.1 6 j)
def h3 (S : zS) (j d : Nat) : Int32 := if 1 < h0 S j d + h1 S j d + h2 S j d then h0 S j d + h1 S j d + h2 S j d else 1
def hv (S : zS) (j d w : Nat) : Int32 := if w = 0 then h0 S j d else if w = 1 then h1 S j d else if w = 2 then h2 S j d else if w = 3 then h3 S j d else nI (hcnt S j d)
def sp_head (S : zS) (x d w : Int32) : Int32 × zS := match hix S x with
  | none => (-1000000000, S)
  | some j => if (0 ≤ d ∧ d ≤ 300) ∧ (0 ≤ w ∧ w ≤ 4) then (hv S j d.toNatClampNeg w.toNatClampNeg, S) else (-1000000000, S)
def sp_let (S : zS) (x r : Int32) : Int32 × zS := match hix S x with
  | none => (-1, S)
  | some j => if 1 ≤ r ∧ r ≤ 5000 then (1, sZ (sN (sG (sN S 16 j (S.1 0 0)) 17 j r) 18 j (S.1 18 j + 1)) j) else (-1, S)
def latS (S : zS) (j : Nat) : Nat → Option Nat
  | 0 => none
  | e + 1 => if S.1 21 e = j ∧ S.1 26 e = 0 then some e else latS S j e
def lat (S : zS) (j : Nat) : Option Nat := latS S j (S.1 20 0)
def bar (S : zS) (j : Nat) : Int32 := match lat S j with
  | none => 0
  | some e => nI (S.1 22 e) + lw S (S.1 22 e) 6
def sAsk (S : zS) (j : Nat) : zS :=
  sN (sN (sN (sG (sG (sG (sG (sN (sN S 21 (S.1 20 0) j) 22 (S.1 20 0) (S.1 0 0)) 23 (S.1 20 0) (h3 S j (S.1 0 0))) 24 (3 * S.1 20 0) (h0 S j (S.1 0 0))) 24 (3 * S.1 20 0 + 1) (h1 S j (S.1 0 0))) 24 (3 * S.1 20 0 + 2) (h2 S j (S.1 0 0))) 25 (S.1 20 0) (S.1 18 j)) 26 (S.1 20 0) 0) 20 0 (S.1 20 0 + 1)
def sp_ask (S : zS) (x : Int32) : Int32 × zS := match hix S x with
  | none => (-1, S)
  | some j => if S.1 18 j = 0 ∨ nI (S.1 0 0) < bar S j then (-2, S) else if S.1 20 0 = 20 then (-3, S) else (nI (S.1 20 0), sAsk S j)
def sp_open (S : zS) (x : Int32) : Int32 × zS := match hix S x with
  | none => (-1, S)
  | some j => (if nI (S.1 0 0) < bar S j then bar S j else nI (S.1 0 0), S)
def sp_appeal (S : zS) (x : Int32) : Int32 × zS := match hix S x with
  | none => (-1, S)
  | some j => match lat S j with
    | none => (-2, S)
    | some e => if S.1 22 e + 5 < S.1 0 0 then (-2, S) else (nI e, sN S 26 e 1)
def ev (S : zS) (e w : Nat) : Int32 := if w = 0 then nI (S.1 21 e) else if w = 1 then nI (S.1 22 e) else if w = 2 then S.2.1 23 e else if w = 6 then (if S.1 26 e = 0 then 1 else 0) else S.2.1 24 (3 * e + (w - 3))
def sp_entry (S : zS) (x w : Int32) : Int32 × zS :=
  if (0 ≤ x ∧ x ≤ nI (S.1 20 0) - 1) ∧ (0 ≤ w ∧ w ≤ 6) then (ev S x.toNatClampNeg w.toNatClampNeg, S) else (-1000000000, S)
def sp_latest (S : zS) (x : Int32) : Int32 × zS := match hix S x with
  | none => (-1, S)
  | some j => (match lat S j with | none => -9 | some e => nI e, S)
/-- the latest entry that binds on a day -/
def bndS (S : zS) (j t : Nat) : Nat → Option Nat
  | 0 => none
  | e + 1 => if S.1 21 e = j ∧ S.1 26 e = 0 ∧ S.1 25 e = S.1 18 j ∧ S.1 22 e ≤ t then some e else bndS S j t e
def stp (S : zS) (e t : Nat) (o : Int32) : Int32 := if o < S.2.1 23 e then (if o + lw S (S.1 22 e) 5 * nI ((t - S.1 22 e) / 10 + 1) < S.2.1 23 e then o + lw S (S.1 22 e) 5 * nI ((t - S.1 22 e) / 10 + 1) else S.2.1 23 e) else S.2.1 23 e
/-- what is due on a day, by what was due on the days ahead of it -/
def dv (S : zS) (j t : Nat) (f : Nat → Int32) : Int32 := match bndS S j t (S.1 20 0) with
  | none => S.2.1 17 j
  | some e => stp S e t (if S.1 22 e = S.1 16 j then S.2.1 17 j else f (S.1 22 e - 1))
/-- the table of dues behind k days of a letting -/
def duT (S : zS) (j : Nat) (f0 : Nat → Int32) : Nat → (Nat → Int32)
  | 0 => f0
  | k + 1 => upd (duT S j f0 k) (S.1 16 j + k) (dv S j (S.1 16 j + k) (duT S j f0 k))
def dd (S : zS) (j t : Nat) : Int32 := duT S j (fun _ => 0) (t + 1 - S.1 16 j) t
def sp_due (S : zS) (x d : Int32) : Int32 × zS := match hix S x with
  | none => (-1, S)
  | some j => if 0 ≤ d ∧ d ≤ nI (S.1 0 0) then (if S.1 18 j = 0 ∨ d.toNatClampNeg < S.1 16 j then (-2, S) else (dd S j d.toNatClampNeg, S)) else (-1, S)
def psum (f : Nat → Int32) : Nat → Int32
  | 0 => 0
  | k + 1 => psum f k + f k
def sp_pay (S : zS) (x v : Int32) : Int32 × zS := match hix S x with
  | none => (-1, S)
  | some j => if 0 ≤ v ∧ v ≤ 100000 then
      (if S.1 18 j = 0 then (-2, S) else if 1000000 < psum (fun d => S.2.1 19 (301 * j + d)) (S.1 0 0 + 1) + v then (-3, S)
       else (psum (fun d => S.2.1 19 (301 * j + d)) (S.1 0 0 + 1) + v, sG S 19 (301 * j + S.1 0 0) (S.2.1 19 (301 * j + S.1 0 0) + v)))
    else (-1, S)
def sp_owed (S : zS) (x d : Int32) : Int32 × zS := match hix S x with
  | none => (-1000000000, S)
  | some j => if (0 ≤ d ∧ d ≤ nI (S.1 0 0)) ∧ ¬ S.1 18 j = 0 ∧ ¬ d.toNatClampNeg < S.1 16 j then
      (-psum (fun t => S.2.1 19 (301 * j + t)) (d.toNatClampNeg + 1) + psum (fun k => dd S j (S.1 16 j + k)) (d.toNatClampNeg + 1 - S.1 16 j), S)
    else (-1000000000, S)
def ctL (S : zS) : Nat → Nat
  | 0 => 0
  | h + 1 => ctL S h + (if S.1 18 h = 0 then 0 else 1)
def ctT (S : zS) : Nat → Nat
  | 0 => 0
  | y + 1 => ctT S y + (if S.1 9 y = 0 then 0 else 1)
def sp_count (S : zS) (x : Int32) : Int32 × zS :=
  (if x = 0 then nI (S.1 1 0) else if x = 1 then nI (S.1 10 0) else if x = 2 then nI (S.1 20 0) else if x = 3 then nI (S.1 0 0) else if x = 4 then nI (ctL S (S.1 1 0)) else if x = 5 then nI (ctT S 31) else -1, S)
/-- what holds of every state that calls come to; n: how many calls there were -/
def ok (S : zS) (n : Nat) : Prop :=
  (S.1 1 0 ≤ 8 ∧ S.1 10 0 ≤ 12 ∧ S.1 20 0 ≤ 20 ∧ S.1 0 0 ≤ 300) ∧
  (∀ h, h < S.1 1 0 → S.1 2 h ≤ 2 ∧ S.1 3 h ≤ 2 ∧ 1 ≤ S.1 4 h ∧ S.1 4 h ≤ 9 ∧ S.1 5 h ≤ 9) ∧
  (∀ y, S.1 9 y ≤ 1) ∧ (∀ k, k < 7 → S.2.1 8 (217 + k) = zDef k) ∧
  (∀ i, S.1 15 i ≤ 1) ∧ (∀ e, S.1 26 e ≤ 1) ∧
  (∀ h, S.1 18 h ≤ n ∧ S.1 16 h ≤ S.1 0 0 ∧ (S.1 18 h = 0 → S.1 16 h = 0 ∧ S.2.1 17 h = 0)) ∧
  (∀ h, S.1 1 0 ≤ h → S.1 18 h = 0) ∧
  (∀ h d, h < 8 → d < 301 → (S.1 0 0 < d ∨ d < S.1 16 h ∨ S.1 18 h = 0) → S.2.1 19 (301 * h + d) = 0) ∧
  (∀ e, e < S.1 20 0 → S.1 21 e < S.1 1 0 ∧ S.1 22 e ≤ S.1 0 0 ∧ S.1 25 e ≤ S.1 18 (S.1 21 e) ∧ (S.1 25 e = S.1 18 (S.1 21 e) → S.1 16 (S.1 21 e) ≤ S.1 22 e)) ∧
  (∀ e e', e ≤ e' → e' < S.1 20 0 → S.1 22 e ≤ S.1 22 e') ∧ n < 1000000
theorem nI_inj {a b : Nat} (ha : a < 2 ^ 31) (hb : b < 2 ^ 31) (h : nI a = nI b) : a = b := (nI_eq ha hb).mp h
theorem hix_yes {S : zS} {x : Int32} (hn : S.1 1 0 ≤ 8) (h : 0 ≤ x ∧ x ≤ nI (S.1 1 0) - 1) : ∃ j, j < S.1 1 0 ∧ x = nI j ∧ hix S x = some j := by
  have hp : 0 < S.1 1 0 := by
    rcases Nat.eq_zero_or_pos (S.1 1 0) with h0 | h0
    · rw [h0] at h
      exfalso
      have h1 := h.1
      have h2 := h.2
      rw [i_le] at h1 h2
      rw [show (nI 0 - 1 : Int32).toInt = -1 by decide] at h2
      rw [show (0 : Int32).toInt = 0 by decide] at h1
      omega
    · exact h0
  have h' := h
  rw [nI_sub1 hp] at h'
  obtain ⟨j, hj, rfl⟩ := z_wn h' (by omega)
  refine ⟨j, by omega, rfl, ?_⟩
  rw [hix, if_pos h, nI_clamp (by omega)]
theorem hix_no {S : zS} {x : Int32} (h : ¬ (0 ≤ x ∧ x ≤ nI (S.1 1 0) - 1)) : hix S x = none := by rw [hix, if_neg h]
theorem hix_in {S : zS} {j : Nat} (hj : j < S.1 1 0) (hn : S.1 1 0 ≤ 8) : hix S (nI j) = some j := by
  rw [hix, if_pos (z_wi1 hj (by omega)), nI_clamp (by omega)]

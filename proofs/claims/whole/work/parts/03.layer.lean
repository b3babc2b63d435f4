/-! THE LAYER: a world is a partial map from addresses to cells; a method gets the whole map; what it leaves is the map again. -/
abbrev zG : Type := Nat → Option va_E
def zT (cT : Nat → ClassId) : List (ClassId × FieldType) := [(cT 0, .int), (cT 1, .boolean), (cT 2, .object "FairRents$Home"), (cT 3, .object "FairRents$Like"), (cT 4, .object "FairRents$Entry"), (cT 5, .object "FairRents$Law")]
def zP (D : va_G) (G : zG) (H : Heap) : Prop := ∀ (a : Nat) (e : va_E), G a = some e → va_at D vwCl (a, e) H
def zA (G : zG) (sz : Nat) : Nat → Prop := fun q => G q ≠ none ∨ sz ≤ q
def zW (D : va_G) (A : Nat → Prop) (H0 : Heap) (G : zG) (H : Heap) (locs : List Loc) : Prop := zP D G H ∧ (∀ (a : Nat) (e : va_E), G a = some e → A a) ∧ va_S A H0 H locs
def zLeast : Nat → Int32 := fun j => if j = 3 then 1 else if j = 5 then 1 else 0
def zMost : Nat → Int32 := fun j => if j = 0 then 90 else if j = 1 then 90 else if j = 2 then 90 else if j = 3 then 9 else if j = 4 then 20 else if j = 5 then 500 else if j = 6 then 60 else 30
/-- what a start has beside the world: links to private members of nest mates, and the two tables of a law's bounds -/
def zE (A : Nat → Prop) (U : State) : Prop := (va_Nw (.methodLinkNest RX9 42 yX2_init RX9) U ∧ va_Nw (.methodLinkNest RX3 19 yX5_init RX9) U ∧ va_Nw (.methodLinkNest RX4 15 yX9_within RX9) U ∧ va_Nw (.methodLinkNest RX2 74 yX9_within RX9) U ∧ va_Nw (.methodLinkNest RX5 32 yX9_within RX9) U) ∧ (va_AO "FairRents$Home" U ∧ va_AO "FairRents$Like" U ∧ va_AO "FairRents$Entry" U ∧ va_AO "FairRents$Law" U) ∧
  ∃ t1 t2 : Nat, va_Z "FairRents" "LAW_LEAST" "[I" (.ref t1) A U U.heap ∧ va_T .int t1 8 (fun j => .int (zLeast j)) A U U.heap ∧ va_Z "FairRents" "LAW_MOST" "[I" (.ref t2) A U U.heap ∧ va_T .int t2 8 (fun j => .int (zMost j)) A U U.heap
theorem z_one {D : va_G} {G : zG} {H : Heap} {a : Nat} {e : va_E} (h : zP D G H) (he : G a = some e) : va_P D vwCl [(a, e)] H := by
  intro k q hk
  have hz : k < 1 := (List.getElem?_eq_some_iff.mp hk).1
  rw [show k = 0 by omega] at hk
  cases hk
  exact h a e he
theorem z_set {D : va_G} {G : zG} {H H1 : Heap} {a : Nat} {e : va_E} (h : zP D G H) (he : va_at D vwCl (a, e) H1) (oq : ∀ q : Nat, q ≠ a → H1[q]? = H[q]?) : zP D (va_up G a (some e)) H1 := by
  intro b x hb
  by_cases hba : b = a
  · subst hba
    rw [va_up_self] at hb
    cases hb
    exact he
  · rw [va_up_ne _ _ hba] at hb
    exact (h b x hb).kept (oq b hba)
theorem z_none {D : va_G} {G : zG} {H : Heap} (h : zP D G H) {q : Nat} (hq : H.size ≤ q) : G q = none := by
  cases hg : G q with
  | none => rfl
  | some e => exact absurd (h q e hg).lt (Nat.not_lt.mpr hq)
theorem z_push {D : va_G} {G : zG} {H H1 : Heap} {e : va_E} (h : zP D G H) (he : va_at D vwCl (H.size, e) H1) (oq : ∀ q : Nat, q < H.size → H1[q]? = H[q]?) : zP D (va_up G H.size (some e)) H1 := by
  intro b x hb
  by_cases hba : b = H.size
  · subst hba
    rw [va_up_self] at hb
    cases hb
    exact he
  · rw [va_up_ne _ _ hba] at hb
    exact (h b x hb).kept (oq b (h b x hb).lt)
theorem z_ne {G : zG} {a b : Nat} {x y : va_E} (ha : G a = some x) (hb : G b = some y) (h : x ≠ y) : a ≠ b := fun e => h (Option.some.inj (ha.symm.trans (by rw [e]; exact hb)))
theorem z_nef {G : zG} {a b : Nat} {x : va_E} (ha : G a = some x) (hb : G b = none) : a ≠ b := fun e => by rw [e, hb] at ha; cases ha
theorem z_upd_dom {A : Nat → Prop} {G : zG} {a : Nat} {e : va_E} (h : ∀ (a : Nat) (e : va_E), G a = some e → A a) (ha : A a) : ∀ (b : Nat) (x : va_E), va_up G a (some e) b = some x → A b := by
  intro b x hb
  by_cases hba : b = a
  · rw [hba]; exact ha
  · rw [va_up_ne _ _ hba] at hb
    exact h b x hb
section ZR
variable {p : Program} {l : Launch} {e : Env} {R : Room} {s : State} {m : MethodId} {args : Array Value} {below : List Frame} {meth : Method} {c : Code} {H : Heap} {locs : List Loc} {cells slots : Nat} {Q : State → Prop}
variable {cc : ByteArray} {pc : Nat} {ls : Array Slot} {rest : List Value} {D : va_G} {A : Nat → Prop} {a : Nat} {tys : List (ClassId × FieldType)} {G : zG} {H0 : Heap}
theorem z_get (hexec : p.tables.exec = Jvm.exec) (hb : c.code = cc) {own ref C : String} {T : u_T} {N ci index : Nat} {Ts : List Cond} (hts : ∀ w ∈ Ts, w.before args s = true) (hin : ∀ w ∈ u_ws C T N, w ∈ Ts) (hown : s.vm.findClass own = some m.cls) (hK : va_K D vwCl tys s) (hZ : zW D A H0 G H locs) {fs : List Value} (he : G a = some (.inr (ci, fs))) (hc : vwCl[ci]? = some (C, T, N)) (k : Nat) (hk : k < N) (hlink : (Cond.fieldLink own index ref (T k).2.1 (T k).2.2.1).before args s = true) (hsame : ∀ x, s.fieldFound? (T k).1 (T k).2.1 (T k).2.2.1 = some x → s.fieldFound? ref (T k).2.1 (T k).2.2.1 = some x) {v : Value} (hv : fs[k]? = some v) (hdg : decode cc pc = .ok (.getfield index, 3))
    (kk : W p l e R s m args below meth c H locs cells slots Q (F0 m (pc + 3) ls (v :: rest))) : W p l e R s m args below meth c H locs cells slots Q (F0 m pc ls (.ref a :: rest)) :=
  va_get hexec hb hts hin hown hK (z_one hZ.1 he) 0 rfl hc k hk hlink hsame hv hdg kk
theorem z_put (hexec : p.tables.exec = Jvm.exec) (hb : c.code = cc) {own ref C : String} {T : u_T} {N ci index : Nat} {Ts : List Cond} (hts : ∀ w ∈ Ts, w.before args s = true) (hin : ∀ w ∈ u_ws C T N, w ∈ Ts) (ty0 : Nat → FieldType) (hty : ∀ k, k < N → parseFieldDescriptor (T k).2.2.1 = some (ty0 k)) (hnm : ∀ a, a < N → ∀ b, b < N → a ≠ b → (T a).2.1 ≠ (T b).2.1) (hown : s.vm.findClass own = some m.cls) (hK : va_K D vwCl tys s) (hZ : zW D A H0 G H locs) {fs fs' : List Value} (he : G a = some (.inr (ci, fs))) (hc : vwCl[ci]? = some (C, T, N)) (k : Nat) (hk : k < N) (hlink : (Cond.fieldLink own index ref (T k).2.1 (T k).2.2.1).before args s = true) (hsame : ∀ x, s.fieldFound? (T k).1 (T k).2.1 (T k).2.2.1 = some x → s.fieldFound? ref (T k).2.1 (T k).2.2.1 = some x) (hfin : (T k).2.2.2 = false) {ty : FieldType} {v : Value} (hd : parseFieldDescriptor (T k).2.2.1 = some ty) (hn : narrow ty v = v) (hfit : fits ty v = true) (hl : k < fs.length) (hfs : fs.set k v = fs')
    (hdg : decode cc pc = .ok (.putfield index, 3)) (kk : ∀ (H1 : Heap) (locs1 : List Loc), zW D A H0 (va_up G a (some (.inr (ci, fs')))) H1 locs1 → W p l e R s m args below meth c H1 locs1 cells slots Q (F0 m (pc + 3) ls rest)) : W p l e R s m args below meth c H locs cells slots Q (F0 m pc ls (v :: .ref a :: rest)) := by
  subst hfs
  have hap := va_apart (own := own) hts hin ty0 hty hnm hK hc
  obtain ⟨r, h1, cell, q1, q2, q3, q4⟩ := hZ.1 a _ he
  have hr : r = (C, T, N) := Option.some.inj (h1.symm.trans hc)
  subst hr
  obtain ⟨hS, hfc, kC, hkC, hkind⟩ := hK.1 ci _ hc
  obtain ⟨cf, kf, fi, f, hi, hsl⟩ := hS k hk
  have hlay := hts _ (hin _ (u_in_lay hk))
  unfold u_lay at hlay
  rw [if_neg (by rw [hfin]; decide)] at hlay
  have hst := (u_facts hfc hkC (u_lays hts hin hk) hi).1
  have h6 := u_store hfc hkC hkind hlay hi hd hn hfit
  refine W.putK hexec hb (f := f) ⟨hown, hlink, ⟨_, _, _, hsame _ hi⟩, hst⟩ (by rw [q2]; exact h6) q1 q3 (by rw [hsl]; exact k2_hasslot (q4 k hk)) rfl rfl hdg fun H' e1 e2 e3 => ?_
  rw [hsl] at e1 ⊢
  exact kk H' _ ⟨z_set hZ.1 ⟨_, hc, t_OB.to (V := updV (vp_V fs) k v) ⟨_, e1, q2, q3, t_set q4 hap hk v⟩ (fun j _ => vp_updV_set hl v j)⟩ e3, z_upd_dom hZ.2.1 (hZ.2.1 a _ he), hZ.2.2.put e2 e3 (hZ.2.1 a _ he)⟩
theorem z_putF (hexec : p.tables.exec = Jvm.exec) (hb : c.code = cc) {own ref C : String} {T : u_T} {N ci index : Nat} {Ts : List Cond} (hts : ∀ w ∈ Ts, w.before args s = true) (hin : ∀ w ∈ u_ws C T N, w ∈ Ts) (ty0 : Nat → FieldType) (hty : ∀ k, k < N → parseFieldDescriptor (T k).2.2.1 = some (ty0 k)) (hnm : ∀ a, a < N → ∀ b, b < N → a ≠ b → (T a).2.1 ≠ (T b).2.1) (hown : s.vm.findClass own = some m.cls) (hK : va_K D vwCl tys s) (hZ : zW D A H0 G H locs) {fs fs' : List Value} (he : G a = some (.inr (ci, fs))) (hc : vwCl[ci]? = some (C, T, N)) (k : Nat) (hk : k < N) (hlink : (Cond.fieldLink own index ref (T k).2.1 (T k).2.2.1).before args s = true) (hsame : ∀ x, s.fieldFound? (T k).1 (T k).2.1 (T k).2.2.1 = some x → s.fieldFound? ref (T k).2.1 (T k).2.2.1 = some x) (hfin : (T k).2.2.2 = true) (hin2 : meth.name = "<init>") (hdecl : (T k).1 = own) {ty : FieldType} {v : Value} (hd : parseFieldDescriptor (T k).2.2.1 = some ty) (hn : narrow ty v = v) (hfit : fits ty v = true) (hl : k < fs.length) (hfs : fs.set k v = fs')
    (hdg : decode cc pc = .ok (.putfield index, 3)) (kk : ∀ (H1 : Heap) (locs1 : List Loc), zW D A H0 (va_up G a (some (.inr (ci, fs')))) H1 locs1 → W p l e R s m args below meth c H1 locs1 cells slots Q (F0 m (pc + 3) ls rest)) : W p l e R s m args below meth c H locs cells slots Q (F0 m pc ls (v :: .ref a :: rest)) := by
  subst hfs
  have hap := va_apart (own := own) hts hin ty0 hty hnm hK hc
  obtain ⟨r, h1, cell, q1, q2, q3, q4⟩ := hZ.1 a _ he
  have hr : r = (C, T, N) := Option.some.inj (h1.symm.trans hc)
  subst hr
  obtain ⟨hS, hfc, kC, hkC, hkind⟩ := hK.1 ci _ hc
  obtain ⟨cf, kf, fi, f, hi, hsl⟩ := hS k hk
  have hlay := hts _ (hin _ (u_in_lay hk))
  unfold u_lay at hlay
  rw [if_pos hfin] at hlay
  have hst := (u_facts hfc hkC (u_lays hts hin hk) hi).1
  have hcf : m.cls = cf := by
    obtain ⟨_, _, c', _, _, _, -, -, hf', -, -, -, hown2, -⟩ := Cond.laysFinal_spec hlay
    have e1 : c' = cf := by have := hi.symm.trans hf'; simp at this; exact this.1.symm
    rw [hdecl] at hown2
    rw [← e1]; exact Option.some.inj (hown.symm.trans hown2)
  have h6 := u_fits hfc hkC hkind (Or.inr hlay) hi hd hn hfit
  refine W.putFinK hexec hb hown hlink (hsame _ hi) hst hcf hin2 (by rw [q2]; exact h6) q1 q3 (by rw [hsl]; exact k2_hasslot (q4 k hk)) rfl rfl hdg fun H' e1 e2 e3 => ?_
  rw [hsl] at e1 ⊢
  exact kk H' _ ⟨z_set hZ.1 ⟨_, hc, t_OB.to (V := updV (vp_V fs) k v) ⟨_, e1, q2, q3, t_set q4 hap hk v⟩ (fun j _ => vp_updV_set hl v j)⟩ e3, z_upd_dom hZ.2.1 (hZ.2.1 a _ he), hZ.2.2.put e2 e3 (hZ.2.1 a _ he)⟩
theorem z_iald (hexec : p.tables.exec = Jvm.exec) (hb : c.code = cc) {cT : Nat → ClassId} (hK : va_K D vwCl (zT cT) s) (hZ : zW D A H0 G H locs) {n : Nat} {f : Nat → Int32} (ha : G a = some (.inl (cT 0, n, .inl f))) (j : Nat) {i : Int32} (hi : i = nI j) (hj : j < n) (hn : n < 2 ^ 31) (hdg : decode cc pc = .ok (.iaload, 1))
    (kk : W p l e R s m args below meth c H locs cells slots Q (F0 m (pc + 1) ls (.int (f j) :: rest))) : W p l e R s m args below meth c H locs cells slots Q (F0 m pc ls (.int i :: .ref a :: rest)) := by
  subst hi
  refine va_iald hexec hb hK (z_one hZ.1 ha) 0 0 rfl rfl (vp_in_nI hj hn) hdg ?_
  rw [nI_clamp (Nat.lt_trans hj hn)]
  exact kk
theorem z_zald (hexec : p.tables.exec = Jvm.exec) (hb : c.code = cc) {cT : Nat → ClassId} (hK : va_K D vwCl (zT cT) s) (hZ : zW D A H0 G H locs) {n : Nat} {f : Nat → Int32} (ha : G a = some (.inl (cT 1, n, .inl f))) (j : Nat) {i : Int32} (hi : i = nI j) (hj : j < n) (hn : n < 2 ^ 31) (hdg : decode cc pc = .ok (.baload, 1))
    (kk : W p l e R s m args below meth c H locs cells slots Q (F0 m (pc + 1) ls (.int (f j) :: rest))) : W p l e R s m args below meth c H locs cells slots Q (F0 m pc ls (.int i :: .ref a :: rest)) := by
  subst hi
  refine va_zald hexec hb hK (z_one hZ.1 ha) 0 1 rfl rfl (vp_in_nI hj hn) hdg ?_
  rw [nI_clamp (Nat.lt_trans hj hn)]
  exact kk
theorem z_aald (hexec : p.tables.exec = Jvm.exec) (hb : c.code = cc) {cT : Nat → ClassId} (hK : va_K D vwCl (zT cT) s) (hZ : zW D A H0 G H locs) (t0 : Nat) {n : Nat} {C : String} {cA : ClassId} {f : Nat → Option Nat} (ha : G a = some (.inl (cA, n, .inr (.inr (.inr (.inr f)))))) (ht : (zT cT)[t0]? = some (cA, .object C)) (j : Nat) {i : Int32} (hi : i = nI j) (hj : j < n) (hn : n < 2 ^ 31) (hdg : decode cc pc = .ok (.aaload, 1))
    (kk : W p l e R s m args below meth c H locs cells slots Q (F0 m (pc + 1) ls (va_rf (f j) :: rest))) : W p l e R s m args below meth c H locs cells slots Q (F0 m pc ls (.int i :: .ref a :: rest)) := by
  subst hi
  refine va_aldq hexec hb hK (z_one hZ.1 ha) 0 t0 rfl ht (vp_in_nI hj hn) hdg ?_
  rw [nI_clamp (Nat.lt_trans hj hn)]
  exact kk
theorem z_alen (hexec : p.tables.exec = Jvm.exec) (hb : c.code = cc) {cT : Nat → ClassId} (hK : va_K D vwCl (zT cT) s) (hZ : zW D A H0 G H locs) (t0 : Nat) {cA : ClassId} {x : vp_A} (ha : G a = some (.inl (cA, x))) {ty : FieldType} (ht : (zT cT)[t0]? = some (cA, ty)) (hdg : decode cc pc = .ok (.arraylength, 1))
    (kk : W p l e R s m args below meth c H locs cells slots Q (F0 m (pc + 1) ls (.int (nI x.1) :: rest))) : W p l e R s m args below meth c H locs cells slots Q (F0 m pc ls (.ref a :: rest)) :=
  va_alen hexec hb hK (z_one hZ.1 ha) 0 t0 rfl ht rfl hdg kk
theorem z_iast (hexec : p.tables.exec = Jvm.exec) (hb : c.code = cc) {cT : Nat → ClassId} (hK : va_K D vwCl (zT cT) s) (hZ : zW D A H0 G H locs) {n : Nat} {f : Nat → Int32} (ha : G a = some (.inl (cT 0, n, .inl f))) (j : Nat) {i x : Int32} (hi : i = nI j) (hj : j < n) (hn : n < 2 ^ 31) (hdg : decode cc pc = .ok (.iastore, 1))
    (kk : ∀ (H1 : Heap) (locs1 : List Loc), zW D A H0 (va_up G a (some (.inl (cT 0, n, .inl (upd f j x))))) H1 locs1 → W p l e R s m args below meth c H1 locs1 cells slots Q (F0 m (pc + 1) ls rest)) : W p l e R s m args below meth c H locs cells slots Q (F0 m pc ls (.int x :: .int i :: .ref a :: rest)) := by
  have hin : vp_in i n := by rw [hi]; exact vp_in_nI hj hn
  have hc : i.toNatClampNeg = j := by rw [hi]; exact nI_clamp (Nat.lt_trans hj hn)
  refine W.iast hexec hb (hZ.1 a _ ha) ((hK.2 0 _ rfl).1 n (fun j => .int (f j))) (fun q => by cases q) (by show ¬ (i < 0 ∨ (arrV _ _ _).slots.size ≤ _); rw [arrV_size]; exact hin) rfl rfl hdg fun H1 e z oq => ?_
  refine kk H1 _ ⟨z_set hZ.1 ?_ oq, z_upd_dom hZ.2.1 (hZ.2.1 a _ ha), hZ.2.2.put z oq (hZ.2.1 a _ ha)⟩
  show H1[a]? = some (vp_cell _ _)
  rw [e, vp_cell_i, vp_cell_i, arrV_store, hc]
  congr 2
  funext q
  by_cases hq : q = j
  · subst hq
    simp [updV, upd]
  · simp [updV, upd, hq]
theorem z_zast (hexec : p.tables.exec = Jvm.exec) (hb : c.code = cc) {cT : Nat → ClassId} (hK : va_K D vwCl (zT cT) s) (hZ : zW D A H0 G H locs) {n : Nat} {f : Nat → Int32} (ha : G a = some (.inl (cT 1, n, .inl f))) (j : Nat) {i x : Int32} (hi : i = nI j) (hx : vp_nar .boolean x = x) (hj : j < n) (hn : n < 2 ^ 31) (hdg : decode cc pc = .ok (.bastore, 1))
    (kk : ∀ (H1 : Heap) (locs1 : List Loc), zW D A H0 (va_up G a (some (.inl (cT 1, n, .inl (upd f j x))))) H1 locs1 → W p l e R s m args below meth c H1 locs1 cells slots Q (F0 m (pc + 1) ls rest)) : W p l e R s m args below meth c H locs cells slots Q (F0 m pc ls (.int x :: .int i :: .ref a :: rest)) := by
  have hin : vp_in i n := by rw [hi]; exact vp_in_nI hj hn
  have hc : i.toNatClampNeg = j := by rw [hi]; exact nI_clamp (Nat.lt_trans hj hn)
  refine W.zast hexec hb (hZ.1 a _ ha) ((hK.2 1 _ rfl).1 n (fun j => .int (f j))) (fun q => by cases q) (by show ¬ (i < 0 ∨ (arrV _ _ _).slots.size ≤ _); rw [arrV_size]; exact hin) rfl rfl hdg fun H1 e z oq => ?_
  refine kk H1 _ ⟨z_set hZ.1 ?_ oq, z_upd_dom hZ.2.1 (hZ.2.1 a _ ha), hZ.2.2.put z oq (hZ.2.1 a _ ha)⟩
  show H1[a]? = some (vp_cell _ _)
  rw [e, vp_cell_i, vp_cell_i, arrV_store, hc]
  congr 2
  funext q
  by_cases hq : q = j
  · subst hq
    have hx2 : narrow .boolean (.int x) = .int x := by
      have h2 : vp_nar .boolean x = x := hx
      have h3 : narrow .boolean (.int x) = .int (vp_nar .boolean x) := rfl
      rw [h3, h2]
    simp only [updV, upd, if_true]
    exact hx2
  · simp [updV, upd, hq]
theorem z_aast (hexec : p.tables.exec = Jvm.exec) (hb : c.code = cc) {cT : Nat → ClassId} (hK : va_K D vwCl (zT cT) s) (hZ : zW D A H0 G H locs) (t0 ci : Nat) {n v : Nat} {r : vw_C} {cA : ClassId} {vs : List Value} {f : Nat → Option Nat} (ha : G a = some (.inl (cA, n, .inr (.inr (.inr (.inr f)))))) (ht : (zT cT)[t0]? = some (cA, .object r.1)) (hv : G v = some (.inr (ci, vs))) (hc : vwCl[ci]? = some r) (j : Nat) {i : Int32} (hi : i = nI j) (hj : j < n) (hn : n < 2 ^ 31) (hdg : decode cc pc = .ok (.aastore, 1))
    (kk : ∀ (H1 : Heap) (locs1 : List Loc), zW D A H0 (va_up G a (some (.inl (cA, n, .inr (.inr (.inr (.inr (va_up f j (some v))))))))) H1 locs1 → W p l e R s m args below meth c H1 locs1 cells slots Q (F0 m (pc + 1) ls rest)) : W p l e R s m args below meth c H locs cells slots Q (F0 m pc ls (.ref v :: .int i :: .ref a :: rest)) := by
  have hin : vp_in i n := by rw [hi]; exact vp_in_nI hj hn
  have hcl : i.toNatClampNeg = j := by rw [hi]; exact nI_clamp (Nat.lt_trans hj hn)
  have hlt : i.toNatClampNeg < n := Nat.not_le.mp fun q => hin (Or.inr q)
  have h0 : ¬ i < 0 := fun q => hin (Or.inl q)
  obtain ⟨r', hr', cellV, g1, g2, g3, -⟩ := hZ.1 v _ hv
  have hcls := (hK.1 ci r hc).2
  obtain ⟨kA, comp, k1, k2, k3, -⟩ := (hK.2 t0 _ ht).2
  have hcomp : comp = D.1 ci := Option.some.inj (k3.symm.trans hcls.1)
  subst hcomp
  obtain ⟨kC, hkC, -⟩ := hcls.2
  refine W.aast hexec hb (hZ.1 a _ ha) (fun q h => by cases h) (fun h => by cases h) k1 k2 rfl hkC ⟨h0, by show _ < (arrV _ _ _).slots.size; rw [arrV_size]; exact hlt⟩ g1 (fun q h => by rw [g3] at h; cases h) (by rw [g2]; exact hkC) (by rw [g2]; exact va_assign hcls) rfl rfl hdg fun H1 e z oq => ?_
  refine kk H1 _ ⟨z_set hZ.1 ?_ oq, z_upd_dom hZ.2.1 (hZ.2.1 a _ ha), hZ.2.2.put z oq (hZ.2.1 a _ ha)⟩
  show H1[a]? = some (vp_cell _ _)
  rw [e, vp_cell_q, vp_cell_q, arrV_store, hcl]
  congr 2
  funext q
  by_cases hq : q = j
  · subst hq
    simp [updV, va_up, va_rf]
  · simp [updV, va_up, hq]
theorem z_new {c0 : Code} (hexec : p.tables.exec = Jvm.exec) (hb : c0.code = cc) {own C : String} {T : u_T} {N ci index : Nat} {Ts : List Cond} (hts : ∀ w ∈ Ts, w.before args s = true) (hin : ∀ w ∈ u_ws C T N, w ∈ Ts) (ty : Nat → FieldType) (hty : ∀ k, k < N → parseFieldDescriptor (T k).2.2.1 = some (ty k)) (hown : s.vm.findClass own = some m.cls) (hcl : (Cond.classLink own index C).before args s = true) (hinst : (Cond.instantiable C N).before args s = true) (hini : (Cond.initialized C).before args s = true)
    (hK : va_K D vwCl tys s) (hZ : zW D A H0 G H locs) (hA : ∀ q, H0.size ≤ q → A q) (hc : vwCl[ci]? = some (C, T, N)) {fs : List Value} (hfs : ∀ j, j < N → defaultValue (ty j) = vp_V fs j) (hcells : cells + 1 ≤ R.cells) (hslots : slots + N ≤ R.slots) (hdg : decode cc pc = .ok (.new index, 3))
    (kk : ∀ (q : Nat) (H1 : Heap), G q = none → zW D A H0 (va_up G q (some (.inr (ci, fs)))) H1 locs →
      W p l e R s m args below meth c0 H1 locs (cells + 1) (slots + N) Q (F0 m (pc + 3) ls (.ref q :: rest))) : W p l e R s m args below meth c0 H locs cells slots Q (F0 m pc ls rest) := by
  have hKn := hK.1 ci _ hc
  refine W.newcK hexec hb hown hcl hinst hini rfl hdg hcells hslots hKn.2.1 rfl fun H1 kC hkC e1 z1 o1 => ?_
  refine kk H.size H1 (z_none hZ.1 (Nat.le_refl _)) ⟨z_push hZ.1 ⟨_, hc, (u_born ty hts hin hKn hkC e1 hty).to hfs⟩ o1, z_upd_dom hZ.2.1 (hA _ hZ.2.2.1), ⟨Nat.le_trans hZ.2.2.1 (by omega), fun x h1 h2 => (o1 x (Nat.lt_of_lt_of_le h1 hZ.2.2.1)).trans (hZ.2.2.2.1 x h1 h2), hZ.2.2.2.2⟩⟩
theorem z_newi (hexec : p.tables.exec = Jvm.exec) (hb : c.code = cc) {cT : Nat → ClassId} (harr : (Cond.arrayClass .int).before args s = true) (hK : va_K D vwCl (zT cT) s) (hZ : zW D A H0 G H locs) (hA : ∀ q, H0.size ≤ q → A q)
    (N : Nat) {n : Int32} (hi : n = nI N) (hN : N < 100000) (hcells : cells + 1 ≤ R.cells) (hslots : slots + N ≤ R.slots) (hdg : decode cc pc = .ok (.newarray .int, 2))
    (kk : ∀ (q : Nat) (H1 : Heap), G q = none → zW D A H0 (va_up G q (some (.inl (cT 0, N, .inl (fun _ => 0))))) H1 locs →
      W p l e R s m args below meth c H1 locs (cells + 1) (slots + N) Q (F0 m (pc + 2) ls (.ref q :: rest))) : W p l e R s m args below meth c H locs cells slots Q (F0 m pc ls (.int n :: rest)) := by
  subst hi
  refine va_newaK hexec hb (atype := .int) harr rfl hdg rfl (nI_pos (by omega)) (nI_clamp (by omega)) (by show N * 4 ≤ 536870912; omega) hcells hslots rfl fun H1 cA e1 z1 o1 hAr hNm => ?_
  have hcA : cA = cT 0 := by
    have h2 := (hK.2 0 _ (rfl : (zT cT)[0]? = some (cT 0, .int))).2
    exact Option.some.inj (hNm.symm.trans h2)
  subst hcA
  refine kk H.size H1 (z_none hZ.1 (Nat.le_refl _)) ⟨z_push hZ.1 ?_ o1, z_upd_dom hZ.2.1 (hA _ hZ.2.2.1), ⟨Nat.le_trans hZ.2.2.1 (by omega), fun x h1 h2 => (o1 x (Nat.lt_of_lt_of_le h1 hZ.2.2.1)).trans (hZ.2.2.2.1 x h1 h2), hZ.2.2.2.2⟩⟩
  show H1[H.size]? = some (vp_cell _ _)
  rw [vp_cell_i]
  exact e1
theorem z_newz (hexec : p.tables.exec = Jvm.exec) (hb : c.code = cc) {cT : Nat → ClassId} (harr : (Cond.arrayClass .boolean).before args s = true) (hK : va_K D vwCl (zT cT) s) (hZ : zW D A H0 G H locs) (hA : ∀ q, H0.size ≤ q → A q)
    (N : Nat) {n : Int32} (hi : n = nI N) (hN : N < 100000) (hcells : cells + 1 ≤ R.cells) (hslots : slots + N ≤ R.slots) (hdg : decode cc pc = .ok (.newarray .boolean, 2))
    (kk : ∀ (q : Nat) (H1 : Heap), G q = none → zW D A H0 (va_up G q (some (.inl (cT 1, N, .inl (fun _ => 0))))) H1 locs →
      W p l e R s m args below meth c H1 locs (cells + 1) (slots + N) Q (F0 m (pc + 2) ls (.ref q :: rest))) : W p l e R s m args below meth c H locs cells slots Q (F0 m pc ls (.int n :: rest)) := by
  subst hi
  refine va_newaK hexec hb (atype := .boolean) harr rfl hdg rfl (nI_pos (by omega)) (nI_clamp (by omega)) (by show N * 1 ≤ 536870912; omega) hcells hslots rfl fun H1 cA e1 z1 o1 hAr hNm => ?_
  have hcA : cA = cT 1 := by
    have h2 := (hK.2 1 _ (rfl : (zT cT)[1]? = some (cT 1, .boolean))).2
    exact Option.some.inj (hNm.symm.trans h2)
  subst hcA
  refine kk H.size H1 (z_none hZ.1 (Nat.le_refl _)) ⟨z_push hZ.1 ?_ o1, z_upd_dom hZ.2.1 (hA _ hZ.2.2.1), ⟨Nat.le_trans hZ.2.2.1 (by omega), fun x h1 h2 => (o1 x (Nat.lt_of_lt_of_le h1 hZ.2.2.1)).trans (hZ.2.2.2.1 x h1 h2), hZ.2.2.2.2⟩⟩
  show H1[H.size]? = some (vp_cell _ _)
  rw [vp_cell_i]
  exact e1
theorem z_newq (hexec : p.tables.exec = Jvm.exec) (hb : c.code = cc) {cT : Nat → ClassId} {own C : String} {index : Nat} (hown : s.vm.findClass own = some m.cls) (hclink : (Cond.classLink own index C).before args s = true) (hover : va_AO C s) (hK : va_K D vwCl (zT cT) s) (hZ : zW D A H0 G H locs) (hA : ∀ q, H0.size ≤ q → A q)
    (N t0 : Nat) (ht : (zT cT)[t0]? = some (cT t0, .object C)) {n : Int32} (hi : n = nI N) (hN : N < 100000) (hcells : cells + 1 ≤ R.cells) (hslots : slots + N ≤ R.slots) (hdg : decode cc pc = .ok (.anewarray index, 3))
    (kk : ∀ (q : Nat) (H1 : Heap), G q = none → zW D A H0 (va_up G q (some (.inl (cT t0, N, .inr (.inr (.inr (.inr (fun _ => none)))))))) H1 locs →
      W p l e R s m args below meth c H1 locs (cells + 1) (slots + N) Q (F0 m (pc + 3) ls (.ref q :: rest))) : W p l e R s m args below meth c H locs cells slots Q (F0 m pc ls (.int n :: rest)) := by
  have hcl : n.toNatClampNeg = N := by rw [hi]; exact nI_clamp (by omega)
  refine W.anew hexec hb hown hclink (va_AO.use hover) rfl hdg rfl (by rw [hi]; exact nI_pos (by omega)) (by rw [hcl]; omega) hcells (by rw [hcl]; exact hslots) fun cA kA comp f1 f2 f3 f4 => ?_
  rw [hcl]
  generalize hH1 : H.push ({ cls := cA, slots := Array.replicate N .null, vm := .none } : Cell) = H1
  have z1 : H1.size = H.size + 1 := by rw [← hH1, Array.size_push]
  have e1 : H1[H.size]? = some (arrV cA N (fun _ => .null)) := by rw [← hH1, Array.getElem?_push_size, ← arrV_new]
  have o1 : ∀ q : Nat, q < H.size → H1[q]? = H[q]? := fun q hq => by rw [← hH1, Array.getElem?_push, if_neg (Nat.ne_of_lt hq)]
  have hcA : cA = cT t0 := by
    obtain ⟨_, _, _, _, _, k4⟩ := (hK.2 t0 _ ht).2
    exact Option.some.inj (f1.symm.trans k4)
  subst hcA
  refine kk H.size H1 (z_none hZ.1 (Nat.le_refl _)) ⟨z_push hZ.1 ?_ o1, z_upd_dom hZ.2.1 (hA _ hZ.2.2.1), ⟨Nat.le_trans hZ.2.2.1 (by omega), fun x h1 h2 => (o1 x (Nat.lt_of_lt_of_le h1 hZ.2.2.1)).trans (hZ.2.2.2.1 x h1 h2), hZ.2.2.2.2⟩⟩
  show H1[H.size]? = some (vp_cell _ _)
  rw [vp_cell_q]
  exact e1
end ZR
/-- a method's start, its end, its contract -/
def zPre (D : va_G) (cT : Nat → ClassId) (av : List Value) (G : zG) (sz : Nat) : Array Value → State → Prop := fun v U => v = av.toArray ∧ U.heap.size = sz ∧ zP D G U.heap ∧ va_K D vwCl (zT cT) U ∧ zE (zA G sz) U
def zQ (D : va_G) (G : zG) (sz : Nat) (post : Option Value → zG → Prop) : Array Value → State → Outcome → State → Prop := fun _ st oc t => (∃ (r : Option Value) (G' : zG), oc = .returned r ∧ post r G' ∧ zP D G' t.heap ∧ ∀ (a : Nat) (e : va_E), G' a = some e → zA G sz a) ∧ va_F (zA G sz) st t
abbrev zM (l : Launch) (D : va_G) (cT : Nat → ClassId) (y : MethodName) (ws : List Cond) (rm : Room) (av : List Value) (G : zG) (sz : Nat) (post : Option Value → zG → Prop) : Prop := Met l y ws rm (zPre D cT av G sz) (zQ D G sz post) rm.cells rm.slots (zA G sz)
theorem zE.alike {A : Nat → Prop} {u U : State} (hh : u.heap = U.heap) (hW : u.WarmedH U.vm) (h : zE A u) : zE A U := by
  obtain ⟨⟨a1, a2, a3, a4, a5⟩, ⟨o1, o2, o3, o4⟩, t1, t2, b1, b2, b3, b4⟩ := h
  rw [hh] at b1 b2 b3 b4
  exact ⟨⟨a1.warmM hW, a2.warmM hW, a3.warmM hW, a4.warmM hW, a5.warmM hW⟩, ⟨o1.moved hW.alike, o2.moved hW.alike, o3.moved hW.alike, o4.moved hW.alike⟩, t1, t2, b1.moved hW.alike, b2.moved hW.alike, b3.moved hW.alike, b4.moved hW.alike⟩
theorem zE.same {A : Nat → Prop} {u U : State} (hh : u.heap = U.heap) (hv : u.vm = U.vm) (h : zE A u) : zE A U := by
  obtain ⟨⟨a1, a2, a3, a4, a5⟩, ⟨o1, o2, o3, o4⟩, t1, t2, b1, b2, b3, b4⟩ := h
  have ha : u.vm.Alike U.vm := by rw [hv]; exact Vm.Alike.refl U.vm
  rw [hh] at b1 b2 b3 b4
  exact ⟨⟨a1.same rfl hv, a2.same rfl hv, a3.same rfl hv, a4.same rfl hv, a5.same rfl hv⟩, ⟨o1.moved ha, o2.moved ha, o3.moved ha, o4.moved ha⟩, t1, t2, b1.moved ha, b2.moved ha, b3.moved ha, b4.moved ha⟩
theorem zA.sub {D : va_G} {A : Nat → Prop} {G : zG} {H0 H : Heap} {locs : List Loc} (hZ : zW D A H0 G H locs) (hA : ∀ q, H0.size ≤ q → A q) : ∀ q, zA G H.size q → A q := by
  intro q h
  rcases h with h | h
  · cases hg : G q with
    | none => exact absurd hg h
    | some e => exact hZ.2.1 q e hg
  · exact hA q (Nat.le_trans hZ.2.2.1 h)
/-- what beside the world a callee gets -/
theorem zE.pass {D : va_G} {A : Nat → Prop} {G : zG} {s U : State} {H : Heap} {locs : List Loc} (hE : zE A s) (hZ : zW D A s.heap G H locs) (hA : ∀ q, s.heap.size ≤ q → A q) (hU : U.heap = H) (hW : s.WarmedH U.vm) : zE (zA G H.size) U := by
  obtain ⟨⟨a1, a2, a3, a4, a5⟩, ⟨o1, o2, o3, o4⟩, t1, t2, b1, b2, b3, b4⟩ := hE
  have hk := hZ.2.2.2.1
  have hn := zA.sub hZ hA
  refine ⟨⟨a1.warmM hW, a2.warmM hW, a3.warmM hW, a4.warmM hW, a5.warmM hW⟩, ⟨o1.moved hW.alike, o2.moved hW.alike, o3.moved hW.alike, o4.moved hW.alike⟩, t1, t2, ?_, ?_, ?_, ?_⟩
  · rw [hU]; exact ((b1.kept hk).narrow hn).moved hW.alike
  · rw [hU]; exact ((b2.kept hk).narrow hn).moved hW.alike
  · rw [hU]; exact ((b3.kept hk).narrow hn).moved hW.alike
  · rw [hU]; exact ((b4.kept hk).narrow hn).moved hW.alike
theorem zPre.blind {D : va_G} {cT : Nat → ClassId} {av : List Value} {G : zG} {sz : Nat} : FrameBlind (zPre D cT av G sz) := fun a U g mk q => by
  obtain ⟨q0, q1, q2, q3, q4⟩ := q
  exact ⟨q0, q1, q2, va_K.moved (u := U) (U := U.calling g mk a) (Vm.Alike.refl U.vm) q3, q4.same rfl rfl⟩
/-- what holds all through a method -/
def zI (p : Program) (cc : ByteArray) (maxL : Nat) (ret : Option FieldType) (ws : List Cond) (y : MethodName) (D : va_G) (cT : Nat → ClassId) (A : Nat → Prop) (s : State) (m : MethodId) (args : Array Value) (meth : Method) (c : Code) : Prop :=
  p.tables.exec = Jvm.exec ∧ c.code = cc ∧ meth.sig.returnType = ret ∧ c.maxLocals = maxL ∧ (∀ w ∈ ws, w.before args s = true) ∧ s.vm.findClass y.cls = some m.cls ∧ meth.locks = false ∧ meth.name = y.name ∧ va_K D vwCl (zT cT) s ∧ (∀ q, s.heap.size ≤ q → A q) ∧ zE A s
theorem z_start {l : Launch} {D : va_G} {cT : Nat → ClassId} {y : MethodName} {ws ws' : List Cond} {rm : Room} {av : List Value} {G : zG} {sz : Nat} {post : Option Value → zG → Prop} {cc : ByteArray} {maxL : Nat} {ret : Option FieldType} (hy : plainName y.cls = true) (hw : ws = Cond.code y cc maxL ret :: ws') (hn : (lg_sl av).length ≤ maxL)
    (body : ∀ (p : Program) (e : Env) (s : State) (m : MethodId) (below : List Frame) (meth : Method) (c : Code) (ls : Array Slot), zI p cc maxL ret ws y D cT (zA G sz) s m av.toArray meth c → zW D (zA G sz) s.heap G s.heap [] → lv_has ls maxL (lv_args 0 av) →
      W p l e rm s m av.toArray below meth c s.heap [] 0 0 (MQ below (zQ D G sz post) av.toArray s rm.cells rm.slots (zA G sz)) (F0 m 0 ls [])) : zM l D cT y ws rm av G sz post := by
  refine Met.ofW (cc := cc) (maxL := maxL) (ret := ret) hy hw ?_
  intro p e s m args below meth c s₁ B hml hv
  obtain ⟨rfl, hsz, hP, hK, hE⟩ := hv
  have hl := lv_entry av (n := maxL) hn
  rw [lg_entry_eq]
  refine body p e s m below meth c _ ⟨B.exec, B.bytes, B.returns, hml, atoms_spec (ws := ws) B.pre, findClass_of_methodNamed B.named, B.notSynchronized, (name_of_methodNamed B.named B.method).1, hK, fun q h => Or.inr (by rw [← hsz]; exact h), hE⟩ ⟨hP, fun a e h => Or.inl (by rw [h]; exact fun q => by cases q), va_S.rf⟩ hl
section ZC
variable {p : Program} {l : Launch} {e : Env} {R : Room} {s : State} {m : MethodId} {args : Array Value} {below : List Frame} {meth : Method} {c : Code} {H : Heap} {locs : List Loc} {cells slots : Nat} {Q : State → Prop}
variable {cc : ByteArray} {pc : Nat} {ls : Array Slot} {rest st0 : List Value} {D : va_G} {A : Nat → Prop} {cT : Nat → ClassId} {G G0 : zG} {sz : Nat} {post : Option Value → zG → Prop}
theorem z_end {o : Option Value} (hZ : zW D (zA G0 sz) s.heap G H locs) (h : post o G) : ∀ t : State, t.heap = H → s.WarmedH t.vm → zQ D G0 sz post args s (.returned o) t := fun t ht _ => ⟨⟨o, G, rfl, h, by rw [ht]; exact hZ.1, hZ.2.1⟩, hZ.2.2.F ht⟩
theorem z_iret (hx : p.tables.exec = Jvm.exec) (hb : c.code = cc) (hr : meth.sig.returnType = some .int) (hlocks : meth.locks = false) (hZ : zW D (zA G0 sz) s.heap G H locs) {v : Int32} (hdg : decode cc pc = .ok (.ireturn, 1)) (h : post (some (.int v)) G) : W p l e R s m args below meth c H locs cells slots (MQ below (zQ D G0 sz post) args s cells slots (zA G0 sz)) (F0 m pc ls [.int v]) :=
  W.iret hx hb hr (z_end hZ h) hZ.2.2.2.2 hdg hlocks
theorem z_zret (hx : p.tables.exec = Jvm.exec) (hb : c.code = cc) (hr : meth.sig.returnType = some .boolean) (hlocks : meth.locks = false) (hZ : zW D (zA G0 sz) s.heap G H locs) {v : Int32} (hv : v = 0 ∨ v = 1) (hdg : decode cc pc = .ok (.ireturn, 1)) (h : post (some (.int v)) G) : W p l e R s m args below meth c H locs cells slots (MQ below (zQ D G0 sz post) args s cells slots (zA G0 sz)) (F0 m pc ls [.int v]) :=
  W.zret hx hb hr (by rcases hv with rfl | rfl <;> decide) (z_end hZ h) hZ.2.2.2.2 hdg hlocks
theorem z_vret (hx : p.tables.exec = Jvm.exec) (hb : c.code = cc) (hr : meth.sig.returnType = none) (hlocks : meth.locks = false) (hZ : zW D (zA G0 sz) s.heap G H locs) (hdg : decode cc pc = .ok (.return_, 1)) (h : post none G) : W p l e R s m args below meth c H locs cells slots (MQ below (zQ D G0 sz post) args s cells slots (zA G0 sz)) (F0 m pc ls []) :=
  W.vret hx hb hr (z_end hZ h) hZ.2.2.2.2 hdg hlocks
theorem z_lret (hx : p.tables.exec = Jvm.exec) (hb : c.code = cc) (hr : meth.sig.returnType = some .long) (hlocks : meth.locks = false) (hZ : zW D (zA G0 sz) s.heap G H locs) {v : Int64} (hdg : decode cc pc = .ok (.lreturn, 1)) (h : post (some (.long v)) G) : W p l e R s m args below meth c H locs cells slots (MQ below (zQ D G0 sz post) args s cells slots (zA G0 sz)) (F0 m pc ls [.long v]) :=
  W.lret hx hb hr (z_end hZ h) hZ.2.2.2.2 hdg hlocks
/-- behind a call -/
theorem z_call {a : Array Value} {mc ms : Nat} (hr : va_Run p l e R s m args below meth c H locs cells slots mc ms (F0 m pc ls st0) rest (zQ D G H.size post a) (zA G H.size)) (hZ : zW D A s.heap G H locs) (hA : ∀ q, s.heap.size ≤ q → A q)
    (kk : ∀ (r : Option Value) (G' : zG) (H1 : Heap) (locs1 : List Loc), post r G' → zW D A s.heap G' H1 locs1 → W p l e R s m args below meth c H1 locs1 (cells + mc) (slots + ms) Q (F0 m (pc + 3) ls (r.toList ++ rest))) : W p l e R s m args below meth c H locs cells slots Q (F0 m pc ls st0) := by
  intro T hT X
  obtain ⟨v, st₀, t, T', L, h0, X', hL, e1, e2, ⟨⟨r, G', hv, hp, hP', hd⟩, hz, hk⟩, st⟩ := hr T hT X
  cases hv
  have hsub := zA.sub hZ hA
  rw [h0] at hz hk
  obtain ⟨t2, a1, b1⟩ := kk v G' T'.heap (locs ++ L) hp ⟨by rw [e1]; exact hP', fun a e h => hsub a (hd a e h),
    ⟨Nat.le_trans hZ.2.2.1 (by rw [e1]; exact hz), fun q h1 h2 => by rw [e1, hk q (Nat.lt_of_lt_of_le h1 hZ.2.2.1) (fun z => h2 (hsub q z))]; exact hZ.2.2.2.1 q h1 h2, fun q hq => by
      rcases List.mem_append.mp hq with h | h
      · exact hZ.2.2.2.2 q h
      · exact hsub _ (hL q h)⟩⟩ T' rfl X'
  exact ⟨t2, st t2 a1, b1⟩
theorem z_preS {av : List Value} (hK : va_K D vwCl (zT cT) s) (hE : zE A s) (hZ : zW D A s.heap G H locs) (hA : ∀ q, s.heap.size ≤ q → A q) : PreS s H (zPre D cT av G H.size) av :=
  ⟨zPre.blind, fun U hU hW => ⟨rfl, by rw [hU], by rw [hU]; exact hZ.1, va_K.moved hW.alike hK, hE.pass hZ hA hU hW⟩⟩
theorem z_recv {ci : Nat} {q : vw_C} {fs : List Value} {b : Nat} (hK : va_K D vwCl (zT cT) s) (hZ : zW D A s.heap G H locs) (hc : vwCl[ci]? = some q) (he : G b = some (.inr (ci, fs))) : ∃ cell : Cell, H[b]? = some cell ∧ cell.vm.isStatics = false ∧ s.vm.findClass q.1 = some cell.cls := va_recv hK (z_one hZ.1 he) hc (q0 := 0) rfl
theorem z_preV {As : List Value} {ci : Nat} {q : vw_C} {fs : List Value} {b : Nat} (hK : va_K D vwCl (zT cT) s) (hE : zE A s) (hZ : zW D A s.heap G H locs) (hA : ∀ q, s.heap.size ≤ q → A q) (hc : vwCl[ci]? = some q) (he : G b = some (.inr (ci, fs))) : PreV s H q.1 b (zPre D cT (.ref b :: As) G H.size) As :=
  ⟨zPre.blind, z_recv hK hZ hc he, (z_preS hK hE hZ hA).2⟩
end ZC
section ZB
variable {p : Program} {l : Launch} {e : Env} {R : Room} {s : State} {m : MethodId} {args : Array Value} {below : List Frame} {meth : Method} {c : Code} {H : Heap} {locs : List Loc} {cells slots : Nat} {Q : State → Prop}
variable {cc : ByteArray} {pc : Nat} {ls : Array Slot} {rest : List Value}
theorem zb_eq (hexec : p.tables.exec = Jvm.exec) (hb : c.code = cc) {P : Prop} {_ : Decidable P} {off : Int} {tgt : Nat} (hdg : decode cc pc = .ok (.ifCond .eq off, 3)) (ht : (pc : Int) + off = (tgt : Int))
    (kt : ¬ P → W p l e R s m args below meth c H locs cells slots Q (F0 m tgt ls rest)) (kf : P → W p l e R s m args below meth c H locs cells slots Q (F0 m (pc + 3) ls rest)) : W p l e R s m args below meth c H locs cells slots Q (F0 m pc ls (.int (if P then 1 else 0) :: rest)) := by
  refine lv_if_eq hexec hb hdg ht (fun h => kt (fun hp => ?_)) (fun h => ?_)
  · rw [if_pos hp] at h; exact absurd h (by decide)
  · by_cases hp : P
    · exact kf hp
    · exact absurd (if_neg hp) h
theorem zb_ne (hexec : p.tables.exec = Jvm.exec) (hb : c.code = cc) {P : Prop} {_ : Decidable P} {off : Int} {tgt : Nat} (hdg : decode cc pc = .ok (.ifCond .ne off, 3)) (ht : (pc : Int) + off = (tgt : Int))
    (kt : P → W p l e R s m args below meth c H locs cells slots Q (F0 m tgt ls rest)) (kf : ¬ P → W p l e R s m args below meth c H locs cells slots Q (F0 m (pc + 3) ls rest)) : W p l e R s m args below meth c H locs cells slots Q (F0 m pc ls (.int (if P then 1 else 0) :: rest)) := by
  refine lv_if_ne hexec hb hdg ht (fun h => ?_) (fun h => kf (fun hp => ?_))
  · by_cases hp : P
    · exact kt hp
    · exact absurd (if_neg hp) h
  · rw [if_pos hp] at h; exact absurd h (by decide)
end ZB
theorem z_neOO {G : zG} {a b i j : Nat} {x y : List Value} (ha : G a = some (.inr (i, x))) (hb : G b = some (.inr (j, y))) (h : i ≠ j) : a ≠ b := z_ne ha hb (fun q => h (congrArg Prod.fst (Sum.inr.inj q)))
theorem z_neOA {G : zG} {a b i : Nat} {x : List Value} {y : ClassId × vp_A} (ha : G a = some (.inr (i, x))) (hb : G b = some (.inl y)) : a ≠ b := z_ne ha hb (fun q => by cases q)
theorem z_neAO {G : zG} {a b i : Nat} {x : List Value} {y : ClassId × vp_A} (ha : G a = some (.inl y)) (hb : G b = some (.inr (i, x))) : a ≠ b := z_ne ha hb (fun q => by cases q)
theorem z_neLL {G : zG} {a b n k : Nat} {c d : ClassId} {x y : (Nat → Int32) ⊕ (Nat → Int64) ⊕ (Nat → UInt32) ⊕ (Nat → UInt64) ⊕ (Nat → Option Nat)} (ha : G a = some (.inl (c, n, x))) (hb : G b = some (.inl (d, k, y))) (h : n ≠ k) : a ≠ b := z_ne ha hb (fun q => h (congrArg (fun w : ClassId × vp_A => w.2.1) (Sum.inl.inj q)))
theorem z_neIQ {G : zG} {a b n k : Nat} {c d : ClassId} {x : Nat → Int32} {y : Nat → Option Nat} (ha : G a = some (.inl (c, n, .inl x))) (hb : G b = some (.inl (d, k, .inr (.inr (.inr (.inr y)))))) : a ≠ b := z_ne ha hb (fun q => by
  have := congrArg (fun w : ClassId × vp_A => w.2.2) (Sum.inl.inj q)
  cases this)
def zR (d mc ms : Nat) : Room := { frames := d, cells := mc, slots := ms, locals := 40 * d }

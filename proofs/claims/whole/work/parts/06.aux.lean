section ZD
variable {p : Program} {l : Launch} {e : Env} {R : Room} {s : State} {m : MethodId} {args : Array Value} {below : List Frame} {meth : Method} {c : Code} {H : Heap} {locs : List Loc} {cells slots : Nat} {Q : State → Prop}
variable {cc : ByteArray} {pc : Nat} {ls : Array Slot} {rest : List Value} {D : va_G} {A : Nat → Prop} {cT : Nat → ClassId} {G G0 : zG} {sz : Nat} {post : Option Value → zG → Prop}
theorem z_aret (hx : p.tables.exec = Jvm.exec) (hb : c.code = cc) {n : String} (hr : meth.sig.returnType = some (.object n)) (hlocks : meth.locks = false) (hZ : zW D (zA G0 sz) s.heap G H locs) {v : Nat} (hdg : decode cc pc = .ok (.areturn, 1)) (h : post (some (.ref v)) G) : W p l e R s m args below meth c H locs cells slots (MQ below (zQ D G0 sz post) args s cells slots (zA G0 sz)) (F0 m pc ls [.ref v]) :=
  W.aret hx hb hr (Or.inl ⟨n, rfl⟩) (Or.inr ⟨v, rfl⟩) (z_end hZ h) hZ.2.2.2.2 hdg hlocks
theorem z_aretN (hx : p.tables.exec = Jvm.exec) (hb : c.code = cc) {n : String} (hr : meth.sig.returnType = some (.object n)) (hlocks : meth.locks = false) (hZ : zW D (zA G0 sz) s.heap G H locs) (hdg : decode cc pc = .ok (.areturn, 1)) (h : post (some .null) G) : W p l e R s m args below meth c H locs cells slots (MQ below (zQ D G0 sz post) args s cells slots (zA G0 sz)) (F0 m pc ls [.null]) :=
  W.aret hx hb hr (Or.inl ⟨n, rfl⟩) (Or.inl rfl) (z_end hZ h) hZ.2.2.2.2 hdg hlocks
theorem z_aretQ (hx : p.tables.exec = Jvm.exec) (hb : c.code = cc) {n : String} (hr : meth.sig.returnType = some (.object n)) (hlocks : meth.locks = false) (hZ : zW D (zA G0 sz) s.heap G H locs) {v : Option Nat} (hdg : decode cc pc = .ok (.areturn, 1)) (h : post (some (va_rf v)) G) : W p l e R s m args below meth c H locs cells slots (MQ below (zQ D G0 sz post) args s cells slots (zA G0 sz)) (F0 m pc ls [va_rf v]) :=
  W.aret hx hb hr (Or.inl ⟨n, rfl⟩) (va_rf_or v) (z_end hZ h) hZ.2.2.2.2 hdg hlocks
end ZD
theorem z_01 {P : Prop} {_ : Decidable P} : (if P then (1 : Int32) else 0) = 0 ∨ (if P then (1 : Int32) else 0) = 1 := by
  by_cases h : P
  · rw [if_pos h]; exact Or.inr rfl
  · rw [if_neg h]; exact Or.inl rfl
theorem i_lt (a b : Int32) : a < b ↔ a.toInt < b.toInt := Int32.lt_iff_toInt_lt
theorem i_le (a b : Int32) : a ≤ b ↔ a.toInt ≤ b.toInt := Int32.le_iff_toInt_le
theorem z_wl {x lo hi : Int32} (h : x < lo) : (some (Value.int 0)) = some (.int (if lo ≤ x ∧ x ≤ hi then 1 else 0)) := by
  rw [if_neg]
  rintro ⟨h1, h2⟩
  rw [i_lt] at h; rw [i_le] at h1; omega
theorem z_wr {x lo hi : Int32} (h : hi < x) : (some (Value.int 0)) = some (.int (if lo ≤ x ∧ x ≤ hi then 1 else 0)) := by
  rw [if_neg]
  rintro ⟨h1, h2⟩
  rw [i_lt] at h; rw [i_le] at h2; omega
theorem z_w1 {x lo hi : Int32} (h : ¬ x < lo) (h2 : ¬ hi < x) : (some (Value.int 1)) = some (.int (if lo ≤ x ∧ x ≤ hi then 1 else 0)) := by
  rw [if_pos]
  rw [i_lt] at h h2
  rw [i_le, i_le]
  omega
def zfd (x : Int32) : Int32 := if ¬ 0 ≤ (x ^^^ 4) ∧ ¬ x / 4 * 4 = x then x / 4 - 1 else x / 4
theorem nI_sub1 {n : Nat} (h : 0 < n) : nI n - 1 = nI (n - 1) := by
  obtain ⟨k, rfl⟩ : ∃ k, n = k + 1 := ⟨n - 1, by omega⟩
  exact nI_pred k
/-- a number within: which one -/
theorem z_wn {x : Int32} {n : Nat} (h : 0 ≤ x ∧ x ≤ nI n) (hn : n < 2 ^ 31) : ∃ j, j ≤ n ∧ x = nI j := by
  rw [i_le, i_le] at h
  rw [nI_toInt hn] at h
  have h0 : (0 : Int32).toInt = 0 := by decide
  rw [h0] at h
  refine ⟨x.toInt.toNat, by omega, ?_⟩
  apply Int32.toInt_inj.mp
  rw [nI_toInt (by omega)]
  omega
theorem z_wi {n j : Nat} (hj : j ≤ n) (hn : n < 2 ^ 31) : 0 ≤ nI j ∧ nI j ≤ nI n := ⟨nI_pos' (by omega), nI_le hj hn⟩
theorem z_nlt {x : Int32} (h : x ≤ 0) : ¬ 0 < x := fun q => by rw [i_lt] at q; rw [i_le] at h; omega
theorem z_lt {x : Int32} (h : ¬ x ≤ 0) : 0 < x := by rw [i_lt]; rw [i_le] at h; omega
theorem z_upn {G : zG} {a b : Nat} {x : Option va_E} (h : b ≠ a) (hn : va_up G a x b = none) : G b = none := by rw [va_up_ne _ _ h] at hn; exact hn
theorem z_up5 {G : zG} {a t q : Nat} {x y z w v : Option va_E} : va_up (va_up (va_up (va_up (va_up G a x) t y) q z) t w) a v = va_up (va_up (va_up G q z) t w) a v := by
  funext j
  by_cases h1 : j = a
  · simp [va_up, h1]
  · by_cases h2 : j = t
    · simp [va_up, h1, h2]
    · by_cases h3 : j = q
      · simp [va_up, h1, h2, h3]
      · simp [va_up, h1, h2, h3]
theorem z_startF {l : Launch} {D : va_G} {cT : Nat → ClassId} {y : MethodName} {ws ws' : List Cond} {rm : Room} {av : List Value} {G : zG} {sz : Nat} {post : Option Value → zG → Prop} {cc : ByteArray} {maxL : Nat} {ret : Option FieldType} (hy : plainFor y = true) (hw : ws = Cond.code y cc maxL ret :: ws') (hn : (lg_sl av).length ≤ maxL)
    (body : ∀ (p : Program) (e : Env) (s : State) (m : MethodId) (below : List Frame) (meth : Method) (c : Code) (ls : Array Slot), zI p cc maxL ret ws y D cT (zA G sz) s m av.toArray meth c → zW D (zA G sz) s.heap G s.heap [] → lv_has ls maxL (lv_args 0 av) →
      W p l e rm s m av.toArray below meth c s.heap [] 0 0 (MQ below (zQ D G sz post) av.toArray s rm.cells rm.slots (zA G sz)) (F0 m 0 ls [])) : zM l D cT y ws rm av G sz post := by
  refine MetFree.of_bodySF (code := cc) (maxLocals := maxL) (ret := ret) hy ?_ ?_
  · intro args s m h hn
    obtain ⟨meth, c, h1, h2, h3, h4, h5, h6, -, -⟩ := Cond.code_spec hn (atoms_spec (ws := ws) h _ (by rw [hw]; exact List.mem_cons_self))
    exact ⟨meth, c, h1, h2, h3, h4, h5, h6⟩
  · intro p e s m args below meth c s₁ B hml hv _
    have hh0 : s₁.heap = s.heap := by rw [B.state]; rfl
    have B' := B
    obtain ⟨rfl, hsz, hP, hK, hE⟩ := hv
    have hl := lv_entry av (n := maxL) hn
    have K : W p l e rm s m av.toArray below meth c s.heap [] 0 0 (MQ below (zQ D G sz post) av.toArray s rm.cells rm.slots (zA G sz)) (entryFrame m av.toArray maxL) := by
      rw [lg_entry_eq]
      exact body p e s m below meth c _ ⟨B.exec, B.bytes, B.returns, hml, atoms_spec (ws := ws) B.pre, findClass_of_methodNamed B.named, B.notSynchronized, (name_of_methodNamed B.named B.method).1, hK, fun q h => Or.inr (by rw [← hsz]; exact h), hE⟩ ⟨hP, fun a e h => Or.inl (by rw [h]; exact fun q => by cases q), va_S.rf⟩ hl
    obtain ⟨t, a1, o, b1, b2, b3⟩ := K s₁ hh0 (Stand.of_body B')
    exact ⟨t, o, a1, b1, b2, ⟨b3.1, b3.2⟩⟩
theorem z_wi1 {n j : Nat} (hj : j < n) (hn : n < 2 ^ 31) : 0 ≤ nI j ∧ nI j ≤ nI n - 1 := by
  rw [nI_sub1 (by omega)]
  exact z_wi (by omega) (by omega)

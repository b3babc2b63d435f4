/-! THE CLAIM OUT OF ONE WALK OF THE LAW'S BODY. Your part is whole_start (and what it stands on); all else here is the same for every law, but numbers. -/
def R_law : String := "FairRentsLaw"
def lw_P (b : Addr) (xs : List Int32) (args : Array Value) (s : State) : Prop := args = #[.ref b] ∧ s.IntsAt b xs ∧ xs.length ≤ 4608 ∧ (Jvm.Cond.and given_1 narrow_1).before args s = true
def lw_Q (_ : Array Value) (s : State) (o : Outcome) (t : State) : Prop := o = .returned (some (.int 1)) ∧ Framed s o t [] 600000 7302250
def lw_Z (below : List Frame) (a : Array Value) (s : State) : State → Prop := fun t => ∃ o, t.status = .running ∧ Ended t below o ∧ lw_Q a s o t
/-- the law's own end, with 1 on the stack, nothing written that was there before, its room as the claim has it -/
theorem lw_ret {p : Program} {l : Launch} {e : Env} {s : State} {m : MethodId} {below : List Frame} {meth : Method} {c : Code} {b : Nat} (hx : p.tables.exec = Jvm.exec) (hb : c.code = code) (hr : meth.sig.returnType = ret) (hlocks : meth.locks = false) {pc : Nat} {H : Heap} {ls : Array Slot} (hdg : decode code pc = .ok (.ireturn, 1)) : W p l e room_1 s m #[Value.ref b] below meth c H [] 600000 7302250 (lw_Z below #[Value.ref b] s) (F0 m pc ls [.int 1]) := by
  intro T hT X
  obtain ⟨fs, hret, hrun, hended, hW, hframe⟩ := X.leave (v := some (.int 1)) (hlocks := hlocks) (fun h => by rw [hr] at h; cases h)
  have hmeth' : T.vm.method? m = some meth := X.method'
  refine ⟨T.setFrames fs, ?_, .returned (some (.int 1)), hrun, hended, rfl, ⟨_, rfl⟩, hW, hframe⟩
  jvm_step X.here [X.here.top, hx, hb, hdg, hmeth', hr, ret, narrow_b1]
  (try refine ⟨rfl, ?_⟩); (try refine ⟨rfl, ?_⟩)
  first | (intro acts; rw [hret _ acts rfl rfl rfl]) | rw [hret _ _ rfl rfl rfl]
  exact Steps.refl _
/-- what holds at the law's entry: the machine, the code, the tables' words (any of lw_tbl by 'hts w (by decide +kernel)'), the script of L ints xs at the cell b, what the Statement gives of the start (any of its parts by flat_of_before) -/
def lw_At (p : Program) (s : State) (m : MethodId) (meth : Method) (c : Code) (b L : Nat) (xs : Nat → Int32) : Prop :=
  p.tables.exec = Jvm.exec ∧ c.code = code ∧ meth.sig.returnType = ret ∧ c.maxLocals = 4 ∧ s.vm.findClass R_law = some m.cls ∧ (∀ w ∈ lw_tbl, w.before #[Value.ref b] s = true) ∧ va_X b L xs s s.heap ∧ b < s.heap.size ∧ meth.locks = false ∧ (Jvm.Cond.and given_1 narrow_1).before #[Value.ref b] s = true
section Z2
variable {p : Program} {l : Launch} {e : Env} {R : Room} {s : State} {m : MethodId} {args : Array Value} {below : List Frame} {meth : Method} {c : Code} {H : Heap} {locs : List Loc} {cells slots : Nat} {Q : State → Prop}
variable {cc : ByteArray} {pc : Nat} {ls : Array Slot} {rest st0 : List Value} {D : va_G} {A : Nat → Prop} {cT : Nat → ClassId} {G G2 : zG} {post : Option Value → zG → Prop}
/-- two worlds lie apart -/
def zD (G1 G2 : zG) : Prop := ∀ q, G1 q ≠ none → G2 q = none
theorem zD.sym {G1 G2 : zG} (h : zD G1 G2) : zD G2 G1 := fun q hq => by
  cases hg : G1 q with
  | none => rfl
  | some e => exact absurd (h q (by rw [hg]; exact fun z => by cases z)) hq
/-- behind a call on the one world: the other stands -/
theorem z_call2 {a : Array Value} {mc ms : Nat} (hr : va_Run p l e R s m args below meth c H locs cells slots mc ms (F0 m pc ls st0) rest (zQ D G H.size post a) (zA G H.size)) (hZ : zW D A s.heap G H locs) (hA : ∀ q, s.heap.size ≤ q → A q) (hY : zW D A s.heap G2 H locs) (hD : zD G G2)
    (kk : ∀ (r : Option Value) (G' : zG) (H1 : Heap) (locs1 : List Loc), post r G' → zW D A s.heap G' H1 locs1 → zW D A s.heap G2 H1 locs1 → zD G' G2 → W p l e R s m args below meth c H1 locs1 (cells + mc) (slots + ms) Q (F0 m (pc + 3) ls (r.toList ++ rest))) : W p l e R s m args below meth c H locs cells slots Q (F0 m pc ls st0) := by
  intro T hT X
  obtain ⟨v, st₀, t, T', L, h0, X', hL, e1, e2, ⟨⟨r, G', hv, hp, hP', hd⟩, hz, hk⟩, st⟩ := hr T hT X
  cases hv
  have hsub := zA.sub hZ hA
  rw [h0] at hz hk
  have hS' : va_S A s.heap T'.heap (locs ++ L) := ⟨Nat.le_trans hZ.2.2.1 (by rw [e1]; exact hz), fun q h1 h2 => by rw [e1, hk q (Nat.lt_of_lt_of_le h1 hZ.2.2.1) (fun z => h2 (hsub q z))]; exact hZ.2.2.2.1 q h1 h2, fun q hq => by
      rcases List.mem_append.mp hq with h | h
      · exact hZ.2.2.2.2 q h
      · exact hsub _ (hL q h)⟩
  have hno : ∀ (b : Nat) (x : va_E), G2 b = some x → ¬ zA G H.size b := fun b x hb z => by
    rcases z with z | z
    · rw [hD b z] at hb
      cases hb
    · rw [z_none hY.1 z] at hb
      cases hb
  obtain ⟨t2, a1, b1⟩ := kk v G' T'.heap (locs ++ L) hp ⟨by rw [e1]; exact hP', fun a e h => hsub a (hd a e h), hS'⟩
    ⟨fun b x hb => (hY.1 b x hb).kept (by rw [e1]; exact hk b (hY.1 b x hb).lt (hno b x hb)), hY.2.1, hS'⟩ (fun q hq => by
      cases hg : G' q with
      | none => exact absurd hg hq
      | some x =>
        rcases hd q x hg with z | z
        · exact hD q z
        · exact z_none hY.1 z) T' rfl X'
  exact ⟨t2, st t2 a1, b1⟩
theorem z_sld (hexec : p.tables.exec = Jvm.exec) (hb : c.code = cc) {b L : Nat} {xs : Nat → Int32} {H0 : Heap} (hX : va_X b L xs s H0) (hbl : b < H0.size) (hbA : ¬ A b) (hS : va_S A H0 H locs) {i v : Int32} (hin : vp_in i L) (hv : xs i.toNatClampNeg = v) (hdg : decode cc pc = .ok (.iaload, 1))
    (kk : W p l e R s m args below meth c H locs cells slots Q (F0 m (pc + 1) ls (.int v :: rest))) : W p l e R s m args below meth c H locs cells slots Q (F0 m pc ls (.int i :: .ref b :: rest)) := by
  subst hv
  exact va_sld hexec hb hX hbl hbA hS hin hdg kk
theorem z_lcmp (hexec : p.tables.exec = Jvm.exec) (hb : c.code = cc) {v : Int64} (hdg : decode cc pc = .ok (.lcmp, 1))
    (kk : W p l e R s m args below meth c H locs cells slots Q (F0 m (pc + 1) ls (.int 0 :: rest))) : W p l e R s m args below meth c H locs cells slots Q (F0 m pc ls (.long v :: .long v :: rest)) := by
  intro T hT X
  obtain ⟨t, a, b⟩ := kk T hT X
  refine ⟨t, ?_, b⟩
  jvm_step X.here [X.here.top, hexec, hb, hdg]
  simpa using a
end Z2
theorem sc_in {k j L : Nat} {c : Int32} (hc : c = nI j) (hj : 9 * k + j < L) (hL : L ≤ 4608) : vp_in (nI (9 * k) + c) L := by
  subst hc
  rw [nI_add]
  exact vp_in_nI hj (by omega)
/-- the law's picture: the class's object and the reference's say one state -/
def lwJ (D : va_G) (cT : Nat → ClassId) (s : State) (S : zS) (a1 : Nat) (Y : Nat → Nat) (G1 G2 : zG) (H : Heap) (locs : List Loc) : Prop :=
  (∃ X, X 0 0 = a1 ∧ FRx cT S X G1) ∧ MDx cT S Y G2 ∧ XI Y ∧ zW D (fun q => s.heap.size ≤ q) s.heap G1 H locs ∧ zW D (fun q => s.heap.size ≤ q) s.heap G2 H locs ∧ zD G1 G2

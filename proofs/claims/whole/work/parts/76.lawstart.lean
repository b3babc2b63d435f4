set_option maxRecDepth 100000 in
set_option maxHeartbeats 4000000 in
theorem lw_known {s : State} {args : Array Value} (hts : ∀ w ∈ lw_tbl, w.before args s = true) : ∃ (D : va_G) (cT : Nat → ClassId), va_K D vwCl (zT cT) s := by
  obtain ⟨c0, i0, h0⟩ := u_known (C := RX0) (T := TX0) (N := 9) (n := 9) hts inX0 (hts (.instantiable RX0 9) (by decide +kernel))
  obtain ⟨c1, i1, h1⟩ := u_known (C := RX1) (T := TX1) (N := 2) (n := 2) hts inX1 (hts (.instantiable RX1 2) (by decide +kernel))
  obtain ⟨c2, i2, h2⟩ := u_known (C := RX2) (T := TX2) (N := 5) (n := 5) hts inX2 (hts (.instantiable RX2 5) (by decide +kernel))
  obtain ⟨c3, i3, h3⟩ := u_known (C := RX3) (T := TX3) (N := 4) (n := 4) hts inX3 (hts (.instantiable RX3 4) (by decide +kernel))
  obtain ⟨c4, i4, h4⟩ := u_known (C := RX4) (T := TX4) (N := 1) (n := 1) hts inX4 (hts (.instantiable RX4 1) (by decide +kernel))
  obtain ⟨c5, i5, h5⟩ := u_known (C := RX5) (T := TX5) (N := 5) (n := 5) hts inX5 (hts (.instantiable RX5 5) (by decide +kernel))
  obtain ⟨c6, i6, h6⟩ := u_known (C := RX6) (T := TX6) (N := 5) (n := 5) hts inX6 (hts (.instantiable RX6 5) (by decide +kernel))
  obtain ⟨c7, i7, h7⟩ := u_known (C := RX7) (T := TX7) (N := 2) (n := 2) hts inX7 (hts (.instantiable RX7 2) (by decide +kernel))
  obtain ⟨c8, i8, h8⟩ := u_known (C := RX8) (T := TX8) (N := 1) (n := 1) hts inX8 (hts (.instantiable RX8 1) (by decide +kernel))
  obtain ⟨c9, i9, h9⟩ := u_known (C := RX9) (T := TX9) (N := 12) (n := 12) hts inX9 (hts (.instantiable RX9 12) (by decide +kernel))
  obtain ⟨c10, i10, h10⟩ := u_known (C := RX10) (T := TX10) (N := 30) (n := 30) hts inX10 (hts (.instantiable RX10 30) (by decide +kernel))
  obtain ⟨a0, k0, z0, p0, q0, r0⟩ := Cond.arrayClass_spec (hts (.arrayClass .int) (by decide +kernel))
  obtain ⟨a1, k1, z1, p1, q1, r1⟩ := Cond.arrayClass_spec (hts (.arrayClass .boolean) (by decide +kernel))
  obtain ⟨z2, a2, k2, f2, g2, p2, q2, r2⟩ := Cond.arrayOver_spec (hts (.arrayOver (.object "FairRents$Home")) (by decide +kernel))
  obtain ⟨z3, a3, k3, f3, g3, p3, q3, r3⟩ := Cond.arrayOver_spec (hts (.arrayOver (.object "FairRents$Like")) (by decide +kernel))
  obtain ⟨z4, a4, k4, f4, g4, p4, q4, r4⟩ := Cond.arrayOver_spec (hts (.arrayOver (.object "FairRents$Entry")) (by decide +kernel))
  obtain ⟨z5, a5, k5, f5, g5, p5, q5, r5⟩ := Cond.arrayOver_spec (hts (.arrayOver (.object "FairRents$Law")) (by decide +kernel))
  refine ⟨(fun k => if k = 0 then c0 else if k = 1 then c1 else if k = 2 then c2 else if k = 3 then c3 else if k = 4 then c4 else if k = 5 then c5 else if k = 6 then c6 else if k = 7 then c7 else if k = 8 then c8 else if k = 9 then c9 else c10, fun k => if k = 0 then i0 else if k = 1 then i1 else if k = 2 then i2 else if k = 3 then i3 else if k = 4 then i4 else if k = 5 then i5 else if k = 6 then i6 else if k = 7 then i7 else if k = 8 then i8 else if k = 9 then i9 else i10), fun k => if k = 0 then a0 else if k = 1 then a1 else if k = 2 then a2 else if k = 3 then a3 else if k = 4 then a4 else a5, ?_, ?_⟩
  · intro k q hq
    match k, hq with
    | 0, hq => cases hq; exact h0
    | 1, hq => cases hq; exact h1
    | 2, hq => cases hq; exact h2
    | 3, hq => cases hq; exact h3
    | 4, hq => cases hq; exact h4
    | 5, hq => cases hq; exact h5
    | 6, hq => cases hq; exact h6
    | 7, hq => cases hq; exact h7
    | 8, hq => cases hq; exact h8
    | 9, hq => cases hq; exact h9
    | 10, hq => cases hq; exact h10
    | k + 11, hq => simp [vwCl] at hq
  · intro k q hq
    match k, hq with
    | 0, hq => cases hq; exact ⟨fun n z => ⟨fun k h => (by cases h), k0, q0, z0, r0⟩, p0⟩
    | 1, hq => cases hq; exact ⟨fun n z => ⟨fun k h => (by cases h), k1, q1, z1, r1⟩, p1⟩
    | 2, hq => cases hq; exact ⟨fun n z => ⟨fun k h => (by cases h), k2, p2, z2, q2⟩, k2, z2, p2, q2, f2, r2⟩
    | 3, hq => cases hq; exact ⟨fun n z => ⟨fun k h => (by cases h), k3, p3, z3, q3⟩, k3, z3, p3, q3, f3, r3⟩
    | 4, hq => cases hq; exact ⟨fun n z => ⟨fun k h => (by cases h), k4, p4, z4, q4⟩, k4, z4, p4, q4, f4, r4⟩
    | 5, hq => cases hq; exact ⟨fun n z => ⟨fun k h => (by cases h), k5, p5, z5, q5⟩, k5, z5, p5, q5, f5, r5⟩
    | k + 6, hq => simp [zT] at hq
set_option maxRecDepth 100000 in
set_option maxHeartbeats 4000000 in
theorem lw_env {s : State} {args : Array Value} (hts : ∀ w ∈ lw_tbl, w.before args s = true) (hgv : (Jvm.Cond.and given_1 narrow_1).before args s = true) : zE (fun q => s.heap.size ≤ q) s := by
  have hs := flat_of_before _ hgv
  have hA : ∀ a : Nat, a < s.heap.size → ¬ (fun q => s.heap.size ≤ q) a := fun a h => Nat.not_le.mpr h
  obtain ⟨t0, v0, T0⟩ := va_Tof (tm := .static "FairRents" "LAW_LEAST" "[I") (ty := .int) (N := 8) (f := fun j => .int (zLeast j)) (A := fun q => s.heap.size ≤ q) (by decide) (hs _ (by decide +kernel)) (va_eqt (hs _ (by decide +kernel))) (fun j hj => by
    rcases (show j = 0 ∨ j = 1 ∨ j = 2 ∨ j = 3 ∨ j = 4 ∨ j = 5 ∨ j = 6 ∨ j = 7 by omega) with rfl | rfl | rfl | rfl | rfl | rfl | rfl | rfl <;> exact va_eqt (hs _ (by decide +kernel))) hA
  obtain ⟨t1, v1, T1⟩ := va_Tof (tm := .static "FairRents" "LAW_MOST" "[I") (ty := .int) (N := 8) (f := fun j => .int (zMost j)) (A := fun q => s.heap.size ≤ q) (by decide) (hs _ (by decide +kernel)) (va_eqt (hs _ (by decide +kernel))) (fun j hj => by
    rcases (show j = 0 ∨ j = 1 ∨ j = 2 ∨ j = 3 ∨ j = 4 ∨ j = 5 ∨ j = 6 ∨ j = 7 by omega) with rfl | rfl | rfl | rfl | rfl | rfl | rfl | rfl <;> exact va_eqt (hs _ (by decide +kernel))) hA
  refine ⟨⟨va_Nw.of rfl (hts (.methodLinkNest RX9 42 yX2_init RX9) (by decide +kernel)), va_Nw.of rfl (hts (.methodLinkNest RX3 19 yX5_init RX9) (by decide +kernel)), va_Nw.of rfl (hts (.methodLinkNest RX4 15 yX9_within RX9) (by decide +kernel)), va_Nw.of rfl (hts (.methodLinkNest RX2 74 yX9_within RX9) (by decide +kernel)), va_Nw.of rfl (hts (.methodLinkNest RX5 32 yX9_within RX9) (by decide +kernel))⟩, ⟨va_AO.of (hts (.arrayOver (.object "FairRents$Home")) (by decide +kernel)), va_AO.of (hts (.arrayOver (.object "FairRents$Like")) (by decide +kernel)), va_AO.of (hts (.arrayOver (.object "FairRents$Entry")) (by decide +kernel)), va_AO.of (hts (.arrayOver (.object "FairRents$Law")) (by decide +kernel))⟩, t0, t1, va_Zref (hts (.laysStatic "FairRents" "LAW_LEAST" "[I") (by decide +kernel)) (hts (.initialized RX9) (by decide +kernel)) v0 hA, T0, va_Zref (hts (.laysStatic "FairRents" "LAW_MOST" "[I") (by decide +kernel)) (hts (.initialized RX9) (by decide +kernel)) v1 hA, T1⟩
theorem zW.old {D : va_G} {A : Nat → Prop} {H0 H : Heap} {G : zG} {locs : List Loc} {q : Nat} {e : va_E} (hZ : zW D A H0 (va_up G q (some e)) H locs) (hq : G q = none) : zW D A H0 G H locs :=
  ⟨fun a x h => hZ.1 a x (by rw [va_up_ne _ _ (z_nef h hq)]; exact h), fun a x h => hZ.2.1 a x (by rw [va_up_ne _ _ (z_nef h hq)]; exact h), hZ.2.2⟩
theorem zW.one {D : va_G} {A : Nat → Prop} {H0 H : Heap} {G : zG} {locs : List Loc} {q : Nat} {e : va_E} (hZ : zW D A H0 (va_up G q (some e)) H locs) : zW D A H0 (va_up (fun _ => none) q (some e)) H locs := by
  have key : ∀ (a : Nat) (x : va_E), va_up (fun _ => none) q (some e) a = some x → va_up G q (some e) a = some x := fun a x h => by
    by_cases ha : a = q
    · subst ha
      rw [va_up_self] at h ⊢
      exact h
    · rw [va_up_ne _ _ ha] at h
      cases h
  exact ⟨fun a x h => hZ.1 a x (key a x h), fun a x h => hZ.2.1 a x (key a x h), hZ.2.2⟩
theorem zD.one {G : zG} {q : Nat} {e : va_E} (hq : G q = none) : zD (va_up (fun _ => none) q (some e)) G := fun a ha => by
  by_cases h : a = q
  · subst h
    exact hq
  · rw [va_up_ne _ _ h] at ha
    exact absurd rfl ha
set_option maxHeartbeats 4000000 in
set_option maxRecDepth 100000 in
/-- THE LAW, from its entry -/
theorem whole_start {p : Program} {e : Env} {s : State} {m : MethodId} {below : List Frame} {meth : Method} {c : Code} (l : Launch) {b L : Nat} {xs : Nat → Int32} (hL : L ≤ 4608) (C0 : lw_At p s m meth c b L xs) : W p l e room_1 s m #[Value.ref b] below meth c s.heap [] 0 0 (lw_Z below #[Value.ref b] s) (entryFrame m ([Value.ref b] : List Value).toArray 4) := by
  obtain ⟨hx, hb, hr, hml, hown, hts, hX, hbl, hlocks, hgv⟩ := id C0
  obtain ⟨D, cT, hK⟩ := lw_known hts
  have hE := lw_env hts hgv
  have hts1 := fun w h => hts w (wsL_law_in w h)
  have hown : s.vm.findClass RL = some m.cls := hown
  have hA : ∀ q, s.heap.size ≤ q → (fun q => s.heap.size ≤ q) q := fun _ h => h
  have hZ : zW D (fun q => s.heap.size ≤ q) s.heap (fun _ => none) s.heap [] := ⟨fun a e h => (by cases h), fun a e h => (by cases h), va_S.rf⟩
  have hl := lv_entry ([.ref b]) (n := 4) (Nat.le_of_ble_eq_true rfl)
  rw [lg_entry_eq]
  generalize (lg_sl ([.ref b]) ++ List.replicate (4 - (lg_sl ([.ref b])).length) Slot.unset).toArray = ls at hl ⊢
  have hl : lv_has ls 4 [(0, .ref b)] := hl
  refine z_new (ci := 9) (fs := [.null, .null, .null, .null, .null, .null, .null, .int 0, .int 0, .int 0, .int 0, .long 0]) (C := RX9) (T := TX9) (N := 12) hx hb hts inX9 tyX9 tyX9_ok hown (hts (.classLink RL 7 RX9) (by decide +kernel)) (hts (.instantiable RX9 12) (by decide +kernel)) (hts (.initialized RX9) (by decide +kernel)) hK hZ hA rfl (fun j hj => by rcases (show j = 0 ∨ j = 1 ∨ j = 2 ∨ j = 3 ∨ j = 4 ∨ j = 5 ∨ j = 6 ∨ j = 7 ∨ j = 8 ∨ j = 9 ∨ j = 10 ∨ j = 11 by omega) with rfl | rfl | rfl | rfl | rfl | rfl | rfl | rfl | rfl | rfl | rfl | rfl <;> rfl) (Nat.le_of_ble_eq_true rfl) (Nat.le_of_ble_eq_true rfl) dL_law_0 (fun q1 H hf1 hZ => ?_)
  refine W.widen (k := 1) (n := 12) (by decide) (by decide) ?_
  refine lv_dup hx hb dL_law_3 rfl ?_
  refine z_call (va_runI (As := []) (rest := [.ref q1]) ⟨hx, hb, hml, hown, hts1⟩ (c_X9_init l D cT _ _ q1 (va_up_self _ _ _)) (cwI 0 hts1 gL_law_X9_init rfl rfl rfl (hts (.initialized RX9) (by decide +kernel)) (hts (.methodLink RL 9 yX9_init) (by decide +kernel)) (hts (.instanceMethod yX9_init) (by decide +kernel)) rfl (by decide +kernel) ⟨(Nat.le_of_ble_eq_true rfl), (Nat.le_of_ble_eq_true rfl)⟩) (z_preS hK hE hZ hA) rfl rfl hl.1 rfl (lv_room (Nat.le_of_ble_eq_true rfl)) dL_law_4 ⟨(Nat.le_of_ble_eq_true rfl), (Nat.le_of_ble_eq_true rfl)⟩) hZ hA (fun r G1 H locs hq hZ => ?_)
  obtain ⟨hF, rfl⟩ := hq
  refine W.eq (g2 := F0 m 7 ls [.ref q1]) rfl ?_
  refine W.widen (k := 10) (n := 410) (by decide) (by decide) ?_
  refine lv_astore_n (lv' := [(1, .ref q1), (0, .ref b)]) hx hb dL_law_7 rfl hl (by decide) rfl (fun ls hl => ?_)
  refine z_new (ci := 10) (fs := [.int 0, .int 0, .null, .null, .null, .null, .null, .long 0, .null, .null, .int 0, .null, .null, .null, .null, .null, .null, .null, .null, .null, .int 0, .null, .null, .null, .null, .null, .null, .null, .int 0, .null]) (C := RX10) (T := TX10) (N := 30) hx hb hts inX10 tyX10 tyX10_ok hown (hts (.classLink RL 10 RX10) (by decide +kernel)) (hts (.instantiable RX10 30) (by decide +kernel)) (hts (.initialized RX10) (by decide +kernel)) hK hZ hA rfl (fun j hj => by rcases (show j = 0 ∨ j = 1 ∨ j = 2 ∨ j = 3 ∨ j = 4 ∨ j = 5 ∨ j = 6 ∨ j = 7 ∨ j = 8 ∨ j = 9 ∨ j = 10 ∨ j = 11 ∨ j = 12 ∨ j = 13 ∨ j = 14 ∨ j = 15 ∨ j = 16 ∨ j = 17 ∨ j = 18 ∨ j = 19 ∨ j = 20 ∨ j = 21 ∨ j = 22 ∨ j = 23 ∨ j = 24 ∨ j = 25 ∨ j = 26 ∨ j = 27 ∨ j = 28 ∨ j = 29 by omega) with rfl | rfl | rfl | rfl | rfl | rfl | rfl | rfl | rfl | rfl | rfl | rfl | rfl | rfl | rfl | rfl | rfl | rfl | rfl | rfl | rfl | rfl | rfl | rfl | rfl | rfl | rfl | rfl | rfl | rfl <;> rfl) (Nat.le_of_ble_eq_true rfl) (Nat.le_of_ble_eq_true rfl) dL_law_8 (fun q2 H hf2 hZ => ?_)
  refine W.widen (k := 11) (n := 440) (by decide) (by decide) ?_
  have hZ1 := hZ.old hf2
  have hZ2 := hZ.one
  refine lv_dup hx hb dL_law_11 rfl ?_
  refine z_call2 (va_runI (As := []) (rest := [.ref q2]) ⟨hx, hb, hml, hown, hts1⟩ (c_X10_init l D cT _ _ q2 (va_up_self _ _ _)) (cwI 0 hts1 gL_law_X10_init rfl rfl rfl (hts (.initialized RX10) (by decide +kernel)) (hts (.methodLink RL 12 yX10_init) (by decide +kernel)) (hts (.instanceMethod yX10_init) (by decide +kernel)) rfl (by decide +kernel) ⟨(Nat.le_of_ble_eq_true rfl), (Nat.le_of_ble_eq_true rfl)⟩) (z_preS hK hE hZ2 hA) rfl rfl hl.1 rfl (lv_room (Nat.le_of_ble_eq_true rfl)) dL_law_12 ⟨(Nat.le_of_ble_eq_true rfl), (Nat.le_of_ble_eq_true rfl)⟩) hZ2 hA hZ1 (zD.one hf2) (fun r G2 H4 locs4 hq hW2 hW1 hD => ?_)
  obtain ⟨⟨Y, hY0, hXI, hM⟩, rfl⟩ := hq
  subst hY0
  refine W.eq (g2 := F0 m 15 ls [.ref (Y 0)]) rfl ?_
  refine W.widen (k := 35 + 4 * 0) (n := 3700 + 312 * 0) (by decide) (by decide) ?_
  refine lv_astore_n (lv' := [(2, .ref (Y 0)), (1, .ref q1), (0, .ref b)]) hx hb dL_law_15 rfl hl (by decide) rfl (fun ls hl => ?_)
  refine lv_iconst (v := 0) hx hb dL_law_16 (by decide) ?_
  refine lv_istore_n (lv' := [(3, .int (nI (9 * 0))), (2, .ref (Y 0)), (1, .ref q1), (0, .ref b)]) hx hb dL_law_17 rfl hl (by decide) rfl (fun ls hl => ?_)
  exact lw_loop hL C0 hK hE (L + 9) 0 (by omega) (by omega) ok_S0 ⟨hF, hM, hXI, hW1, hW2, hD.sym⟩ (lv_sub hl [3, 2, 1, 0] rfl)

set_option maxHeartbeats 4000000 in
set_option maxRecDepth 100000 in
theorem c_X9_bodyOf (l : Launch) (D : va_G) (cT : Nat → ClassId) (G : zG) (sz : Nat) (x rm fl : Int32)  : zM l D cT yX9_bodyOf wsX9_bodyOf (zR 4 1 2) [.int x, .int rm, .int fl] G sz (fun r G' => ∃ q, G q = none ∧ G' = va_up G q (some (bdE x rm fl)) ∧ r = some (.ref q)) := by
  refine z_start (cc := cX9_bodyOf) (maxL := 3) (ret := (some (.object "FairRents$Plain"))) (by decide) rfl (Nat.le_of_ble_eq_true rfl) ?_
  intro p e s m below meth c ls hI hZ hl
  obtain ⟨hx, hb, hr, hml, hts, hown, hlocks, hname, hK, hA, hE⟩ := hI
  have hl : lv_has ls 3 [(0, .int x), (1, .int rm), (2, .int fl)] := hl
  have hown : s.vm.findClass RX9 = some m.cls := hown
  have in_X1 : ∀ w ∈ u_ws RX1 TX1 2, w ∈ wsX9_bodyOf := by decide +kernel
  have in_X7 : ∀ w ∈ u_ws RX7 TX7 2, w ∈ wsX9_bodyOf := by decide +kernel
  have in_X8 : ∀ w ∈ u_ws RX8 TX8 1, w ∈ wsX9_bodyOf := by decide +kernel
  refine lv_iload_n hx hb dX9_bodyOf_0 rfl (lv_at hl 0 rfl) ?_
  by_cases c0 : x = 0
  · refine lv_lookup (off := 27) (tgt := 28) hx hb dX9_bodyOf_1 (by decide) (by rw [c0]; rfl) (by decide) ?_
    refine z_new (ci := 8) (fs := [.int 0]) (C := RX8) (T := TX8) (N := 1) hx hb hts in_X8 tyX8 tyX8_ok hown (hts (.classLink RX9 82 RX8) (by decide +kernel)) (hts (.instantiable RX8 1) (by decide +kernel)) (hts (.initialized RX8) (by decide +kernel)) hK hZ hA rfl (fun j hj => by rcases (show j = 0 by omega) with rfl <;> rfl) (Nat.le_of_ble_eq_true rfl) (Nat.le_of_ble_eq_true rfl) dX9_bodyOf_28 (fun q H hf_q hZ => ?_)
    refine W.widen (k := 1) (n := 1) (by decide) (by decide) ?_
    refine lv_dup hx hb dX9_bodyOf_31 rfl ?_
    refine lv_iload_n hx hb dX9_bodyOf_32 rfl (lv_at hl 1 rfl) ?_
    refine z_call (va_runI (As := [.int rm]) (rest := [.ref q]) ⟨hx, hb, hml, hown, hts⟩ (c_X8_init_X8 l D cT _ _ q rm (va_up_self _ _ _)) (cwI 1 hts gX9_bodyOf_X8_init rfl rfl rfl (hts (.initialized RX8) (by decide +kernel)) (hts (.methodLink RX9 222 yX8_init) (by decide +kernel)) (hts (.instanceMethod yX8_init) (by decide +kernel)) rfl (by decide +kernel) ⟨(Nat.le_of_ble_eq_true rfl), (Nat.le_of_ble_eq_true rfl)⟩) (z_preS hK hE hZ hA) rfl rfl hl.1 rfl (lv_room (Nat.le_of_ble_eq_true rfl)) dX9_bodyOf_33 ⟨(Nat.le_of_ble_eq_true rfl), (Nat.le_of_ble_eq_true rfl)⟩) hZ hA (fun r G33 H locs hq hZ => ?_)
    obtain ⟨hg, rfl⟩ := hq
    replace hg := hg.symm
    subst hg
    rw [bx_uu] at hZ
    refine W.eq (g2 := F0 m 36 ls [.ref q]) rfl ?_
    refine W.widen (k := 1) (n := 2) (Nat.le_of_ble_eq_true rfl) (Nat.le_of_ble_eq_true rfl) ?_
    exact z_aret hx hb hr hlocks hZ dX9_bodyOf_36 (⟨q, hf_q, by rw [bdE, if_pos c0], rfl⟩)
  by_cases c1 : x = 1
  · refine lv_lookup (off := 36) (tgt := 37) hx hb dX9_bodyOf_1 (by decide) (by rw [c1]; rfl) (by decide) ?_
    refine z_new (ci := 1) (fs := [.int 0, .int 0]) (C := RX1) (T := TX1) (N := 2) hx hb hts in_X1 tyX1 tyX1_ok hown (hts (.classLink RX9 225 RX1) (by decide +kernel)) (hts (.instantiable RX1 2) (by decide +kernel)) (hts (.initialized RX1) (by decide +kernel)) hK hZ hA rfl (fun j hj => by rcases (show j = 0 ∨ j = 1 by omega) with rfl | rfl <;> rfl) (Nat.le_of_ble_eq_true rfl) (Nat.le_of_ble_eq_true rfl) dX9_bodyOf_37 (fun q H hf_q hZ => ?_)
    refine W.widen (k := 1) (n := 2) (by decide) (by decide) ?_
    refine lv_dup hx hb dX9_bodyOf_40 rfl ?_
    refine lv_iload_n hx hb dX9_bodyOf_41 rfl (lv_at hl 1 rfl) ?_
    refine lv_iload_n hx hb dX9_bodyOf_42 rfl (lv_at hl 2 rfl) ?_
    refine z_call (va_runI (As := [.int rm, .int fl]) (rest := [.ref q]) ⟨hx, hb, hml, hown, hts⟩ (c_X1_init_X1 l D cT _ _ q rm fl (va_up_self _ _ _)) (cwI 2 hts gX9_bodyOf_X1_init rfl rfl rfl (hts (.initialized RX1) (by decide +kernel)) (hts (.methodLink RX9 227 yX1_init) (by decide +kernel)) (hts (.instanceMethod yX1_init) (by decide +kernel)) rfl (by decide +kernel) ⟨(Nat.le_of_ble_eq_true rfl), (Nat.le_of_ble_eq_true rfl)⟩) (z_preS hK hE hZ hA) rfl rfl hl.1 rfl (lv_room (Nat.le_of_ble_eq_true rfl)) dX9_bodyOf_43 ⟨(Nat.le_of_ble_eq_true rfl), (Nat.le_of_ble_eq_true rfl)⟩) hZ hA (fun r G43 H locs hq hZ => ?_)
    obtain ⟨hg, rfl⟩ := hq
    replace hg := hg.symm
    subst hg
    rw [bx_uu] at hZ
    refine W.eq (g2 := F0 m 46 ls [.ref q]) rfl ?_
    exact z_aret hx hb hr hlocks hZ dX9_bodyOf_46 (⟨q, hf_q, by rw [bdE, if_neg c0, if_pos c1], rfl⟩)
  refine lv_lookup (off := 46) (tgt := 47) hx hb dX9_bodyOf_1 (by decide) ((lv_osw c0 (by decide)).trans ((lv_osw c1 (by decide)).trans rfl)) (by decide) ?_
  refine z_new (ci := 7) (fs := [.int 0, .int 0]) (C := RX7) (T := TX7) (N := 2) hx hb hts in_X7 tyX7 tyX7_ok hown (hts (.classLink RX9 229 RX7) (by decide +kernel)) (hts (.instantiable RX7 2) (by decide +kernel)) (hts (.initialized RX7) (by decide +kernel)) hK hZ hA rfl (fun j hj => by rcases (show j = 0 ∨ j = 1 by omega) with rfl | rfl <;> rfl) (Nat.le_of_ble_eq_true rfl) (Nat.le_of_ble_eq_true rfl) dX9_bodyOf_47 (fun q H hf_q hZ => ?_)
  refine W.widen (k := 1) (n := 2) (by decide) (by decide) ?_
  refine lv_dup hx hb dX9_bodyOf_50 rfl ?_
  refine lv_iload_n hx hb dX9_bodyOf_51 rfl (lv_at hl 1 rfl) ?_
  refine lv_iload_n hx hb dX9_bodyOf_52 rfl (lv_at hl 2 rfl) ?_
  refine z_call (va_runI (As := [.int rm, .int fl]) (rest := [.ref q]) ⟨hx, hb, hml, hown, hts⟩ (c_X7_init l D cT _ _ q rm fl (va_up_self _ _ _)) (cwI 2 hts gX9_bodyOf_X7_init rfl rfl rfl (hts (.initialized RX7) (by decide +kernel)) (hts (.methodLink RX9 231 yX7_init) (by decide +kernel)) (hts (.instanceMethod yX7_init) (by decide +kernel)) rfl (by decide +kernel) ⟨(Nat.le_of_ble_eq_true rfl), (Nat.le_of_ble_eq_true rfl)⟩) (z_preS hK hE hZ hA) rfl rfl hl.1 rfl (lv_room (Nat.le_of_ble_eq_true rfl)) dX9_bodyOf_53 ⟨(Nat.le_of_ble_eq_true rfl), (Nat.le_of_ble_eq_true rfl)⟩) hZ hA (fun r G53 H locs hq hZ => ?_)
  obtain ⟨hg, rfl⟩ := hq
  replace hg := hg.symm
  subst hg
  rw [bx_uu] at hZ
  refine W.eq (g2 := F0 m 56 ls [.ref q]) rfl ?_
  exact z_aret hx hb hr hlocks hZ dX9_bodyOf_56 (⟨q, hf_q, by rw [bdE, if_neg c0, if_neg c1], rfl⟩)

set_option maxHeartbeats 4000000 in
set_option maxRecDepth 100000 in
theorem c_X9_home (l : Launch) (D : va_G) (cT : Nat → ClassId) (G : zG) (sz : Nat) (S : zS) (X : Nat → Nat → Nat) (ct md sc rp : Int32) (fo fd : Nat → Int32) (nn : Nat) (x ar rm fl : Int32) (hF : FR cT S X ct md sc rp fo fd G) (hS : ok S nn)  : zM l D cT yX9_home wsX9_home (zR 5 4 312) [.ref (X 0 0), .int x, .int ar, .int rm, .int fl] G sz (fQ cT (X 0 0) (sp_home S x ar rm fl)) := by
  refine z_start (cc := cX9_home) (maxL := 5) (ret := (some .int)) (by decide) rfl (Nat.le_of_ble_eq_true rfl) ?_
  intro p e s m below meth c ls hI hZ hl
  obtain ⟨hx, hb, hr, hml, hts, hown, hlocks, hname, hK, hA, hE⟩ := hI
  have hl : lv_has ls 5 [(0, .ref (X 0 0)), (1, .int x), (2, .int ar), (3, .int rm), (4, .int fl)] := hl
  have hown : s.vm.findClass RX9 = some m.cls := hown
  have in_X3 : ∀ w ∈ u_ws RX3 TX3 4, w ∈ wsX9_home := by decide +kernel
  have in_X9 : ∀ w ∈ u_ws RX9 TX9 12, w ∈ wsX9_home := by decide +kernel
  have fl_11 := hts (.fieldLink RX9 11 "FairRents" "homes" "[LFairRents$Home;") (by decide +kernel)
  have fl_55 := hts (.fieldLink RX9 55 "FairRents" "homesMade" "I") (by decide +kernel)
  obtain ⟨⟨k1, k10, k20, k0⟩, kH, k9, k8, k15, k26, kL, kLn, kP, kE, kEm, kn⟩ := id hS
  refine lv_iload_n hx hb dX9_home_0 rfl (lv_at hl 1 rfl) ?_
  refine lv_iconst (v := 0) hx hb dX9_home_1 (by decide) ?_
  refine lv_iconst (v := 2) hx hb dX9_home_2 (by decide) ?_
  refine z_call (va_runS (As := [.int x, .int 0, .int 2]) (rest := []) ⟨hx, hb, hml, hown, hts⟩ (c_X9_within l D cT _ _ x 0 2) (va_cwS 3 hts gX9_home_X9_within rfl rfl rfl (by decide +kernel) ⟨(Nat.le_of_ble_eq_true rfl), (Nat.le_of_ble_eq_true rfl)⟩) (z_preS hK hE hZ hA) rfl rfl hl.1 rfl (lv_room (Nat.le_of_ble_eq_true rfl)) dX9_home_3 ⟨(Nat.le_of_ble_eq_true rfl), (Nat.le_of_ble_eq_true rfl)⟩) hZ hA (fun r G3 H locs hq hZ => ?_)
  obtain ⟨hg, rfl⟩ := hq
  replace hg := hg.symm
  subst hg
  refine W.eq (g2 := F0 m 6 ls [.int (if 0 ≤ x ∧ x ≤ 2 then 1 else 0)]) rfl ?_
  refine zb_eq (tgt := 39) hx hb dX9_home_6 (by decide) (fun c6 => ?_) (fun c6 => ?_)
  · refine lv_iconst (v := (-1)) hx hb dX9_home_39 (by decide) ?_
    refine W.widen (k := 4) (n := 312) (Nat.le_of_ble_eq_true rfl) (Nat.le_of_ble_eq_true rfl) ?_
    exact z_iret hx hb hr hlocks hZ dX9_home_40 (fQ_of (by rw [sp_home, if_neg (fun h => c6 h.1)]) rfl ⟨_, _, _, _, _, _, hF⟩)
  · refine lv_iload_n hx hb dX9_home_9 rfl (lv_at hl 2 rfl) ?_
    refine lv_iconst (v := 0) hx hb dX9_home_10 (by decide) ?_
    refine lv_iconst (v := 2) hx hb dX9_home_11 (by decide) ?_
    refine z_call (va_runS (As := [.int ar, .int 0, .int 2]) (rest := []) ⟨hx, hb, hml, hown, hts⟩ (c_X9_within l D cT _ _ ar 0 2) (va_cwS 3 hts gX9_home_X9_within rfl rfl rfl (by decide +kernel) ⟨(Nat.le_of_ble_eq_true rfl), (Nat.le_of_ble_eq_true rfl)⟩) (z_preS hK hE hZ hA) rfl rfl hl.1 rfl (lv_room (Nat.le_of_ble_eq_true rfl)) dX9_home_12 ⟨(Nat.le_of_ble_eq_true rfl), (Nat.le_of_ble_eq_true rfl)⟩) hZ hA (fun r G12 H locs hq hZ => ?_)
    obtain ⟨hg, rfl⟩ := hq
    replace hg := hg.symm
    subst hg
    refine W.eq (g2 := F0 m 15 ls [.int (if 0 ≤ ar ∧ ar ≤ 2 then 1 else 0)]) rfl ?_
    refine zb_eq (tgt := 39) hx hb dX9_home_15 (by decide) (fun c15 => ?_) (fun c15 => ?_)
    · refine lv_iconst (v := (-1)) hx hb dX9_home_39 (by decide) ?_
      refine W.widen (k := 4) (n := 312) (Nat.le_of_ble_eq_true rfl) (Nat.le_of_ble_eq_true rfl) ?_
      exact z_iret hx hb hr hlocks hZ dX9_home_40 (fQ_of (by rw [sp_home, if_neg (fun h => c15 h.2.1)]) rfl ⟨_, _, _, _, _, _, hF⟩)
    · refine lv_iload_n hx hb dX9_home_18 rfl (lv_at hl 3 rfl) ?_
      refine lv_iconst (v := 1) hx hb dX9_home_19 (by decide) ?_
      refine lv_bipush (v := 9) hx hb dX9_home_20 (by decide) ?_
      refine z_call (va_runS (As := [.int rm, .int 1, .int 9]) (rest := []) ⟨hx, hb, hml, hown, hts⟩ (c_X9_within l D cT _ _ rm 1 9) (va_cwS 3 hts gX9_home_X9_within rfl rfl rfl (by decide +kernel) ⟨(Nat.le_of_ble_eq_true rfl), (Nat.le_of_ble_eq_true rfl)⟩) (z_preS hK hE hZ hA) rfl rfl hl.1 rfl (lv_room (Nat.le_of_ble_eq_true rfl)) dX9_home_22 ⟨(Nat.le_of_ble_eq_true rfl), (Nat.le_of_ble_eq_true rfl)⟩) hZ hA (fun r G22 H locs hq hZ => ?_)
      obtain ⟨hg, rfl⟩ := hq
      replace hg := hg.symm
      subst hg
      refine W.eq (g2 := F0 m 25 ls [.int (if 1 ≤ rm ∧ rm ≤ 9 then 1 else 0)]) rfl ?_
      refine zb_eq (tgt := 39) hx hb dX9_home_25 (by decide) (fun c25 => ?_) (fun c25 => ?_)
      · refine lv_iconst (v := (-1)) hx hb dX9_home_39 (by decide) ?_
        refine W.widen (k := 4) (n := 312) (Nat.le_of_ble_eq_true rfl) (Nat.le_of_ble_eq_true rfl) ?_
        exact z_iret hx hb hr hlocks hZ dX9_home_40 (fQ_of (by rw [sp_home, if_neg (fun h => c25 h.2.2.1)]) rfl ⟨_, _, _, _, _, _, hF⟩)
      · refine lv_iload hx hb dX9_home_28 (lv_at hl 4 rfl) ?_
        refine lv_iconst (v := 0) hx hb dX9_home_30 (by decide) ?_
        refine lv_bipush (v := 9) hx hb dX9_home_31 (by decide) ?_
        refine z_call (va_runS (As := [.int fl, .int 0, .int 9]) (rest := []) ⟨hx, hb, hml, hown, hts⟩ (c_X9_within l D cT _ _ fl 0 9) (va_cwS 3 hts gX9_home_X9_within rfl rfl rfl (by decide +kernel) ⟨(Nat.le_of_ble_eq_true rfl), (Nat.le_of_ble_eq_true rfl)⟩) (z_preS hK hE hZ hA) rfl rfl hl.1 rfl (lv_room (Nat.le_of_ble_eq_true rfl)) dX9_home_33 ⟨(Nat.le_of_ble_eq_true rfl), (Nat.le_of_ble_eq_true rfl)⟩) hZ hA (fun r G33 H locs hq hZ => ?_)
        obtain ⟨hg, rfl⟩ := hq
        replace hg := hg.symm
        subst hg
        refine W.eq (g2 := F0 m 36 ls [.int (if 0 ≤ fl ∧ fl ≤ 9 then 1 else 0)]) rfl ?_
        refine zb_ne (tgt := 41) hx hb dX9_home_36 (by decide) (fun c36 => ?_) (fun c36 => ?_)
        · refine lv_aload_n hx hb dX9_home_41 rfl (lv_at hl 0 rfl) ?_
          refine z_get (ci := 9) (fs := [.ref (X 0 1), .ref (X 0 2), .ref (X 0 3), .ref (X 0 4), .ref (X 0 5), .ref (X 0 7), .ref (X 0 9), .int (nI (S.1 1 0)), .int (nI (S.1 10 0)), .int (nI (S.1 20 0)), .int (nI (S.1 0 0)), .long S.2.2]) (C := RX9) (T := TX9) (N := 12) hx hb hts in_X9 hown hK hZ (f00 hF) rfl 7 (by decide) fl_55 (fun _ h9 => h9) rfl dX9_home_42 ?_
          refine lv_aload_n hx hb dX9_home_45 rfl (lv_at hl 0 rfl) ?_
          refine z_get (ci := 9) (fs := [.ref (X 0 1), .ref (X 0 2), .ref (X 0 3), .ref (X 0 4), .ref (X 0 5), .ref (X 0 7), .ref (X 0 9), .int (nI (S.1 1 0)), .int (nI (S.1 10 0)), .int (nI (S.1 20 0)), .int (nI (S.1 0 0)), .long S.2.2]) (C := RX9) (T := TX9) (N := 12) hx hb hts in_X9 hown hK hZ (f00 hF) rfl 0 (by decide) fl_11 (fun _ h9 => h9) rfl dX9_home_46 ?_
          refine z_alen hx hb hK hZ 2 (f01 hF) rfl dX9_home_49 ?_
          refine lv_icmp_lt (tgt := 56) hx hb dX9_home_50 (by decide) (fun c50 => ?_) (fun c50 => ?_)
          · have c8 : ¬ S.1 1 0 = 8 := fun h => absurd c50 (by rw [h]; exact (show ¬ nI 8 < nI 8 by decide))
            refine lv_aload_n hx hb dX9_home_56 rfl (lv_at hl 0 rfl) ?_
            refine z_get (ci := 9) (fs := [.ref (X 0 1), .ref (X 0 2), .ref (X 0 3), .ref (X 0 4), .ref (X 0 5), .ref (X 0 7), .ref (X 0 9), .int (nI (S.1 1 0)), .int (nI (S.1 10 0)), .int (nI (S.1 20 0)), .int (nI (S.1 0 0)), .long S.2.2]) (C := RX9) (T := TX9) (N := 12) hx hb hts in_X9 hown hK hZ (f00 hF) rfl 0 (by decide) fl_11 (fun _ h9 => h9) rfl dX9_home_57 ?_
            refine lv_aload_n hx hb dX9_home_60 rfl (lv_at hl 0 rfl) ?_
            refine z_get (ci := 9) (fs := [.ref (X 0 1), .ref (X 0 2), .ref (X 0 3), .ref (X 0 4), .ref (X 0 5), .ref (X 0 7), .ref (X 0 9), .int (nI (S.1 1 0)), .int (nI (S.1 10 0)), .int (nI (S.1 20 0)), .int (nI (S.1 0 0)), .long S.2.2]) (C := RX9) (T := TX9) (N := 12) hx hb hts in_X9 hown hK hZ (f00 hF) rfl 7 (by decide) fl_55 (fun _ h9 => h9) rfl dX9_home_61 ?_
            refine z_new (ci := 3) (fs := [.null, .int 0, .null, .int 0]) (C := RX3) (T := TX3) (N := 4) hx hb hts in_X3 tyX3 tyX3_ok hown (hts (.classLink RX9 9 RX3) (by decide +kernel)) (hts (.instantiable RX3 4) (by decide +kernel)) (hts (.initialized RX3) (by decide +kernel)) hK hZ hA rfl (fun j hj => by rcases (show j = 0 ∨ j = 1 ∨ j = 2 ∨ j = 3 by omega) with rfl | rfl | rfl | rfl <;> rfl) (Nat.le_of_ble_eq_true rfl) (Nat.le_of_ble_eq_true rfl) dX9_home_64 (fun q H hf_q hZ => ?_)
            have ne_X_0_0_q : X 0 0 ≠ q := z_nef (f00 hF) hf_q
            have ne_X_0_1_q : X 0 1 ≠ q := z_nef (f01 hF) hf_q
            have ne_X_0_2_q : X 0 2 ≠ q := z_nef (f02 hF) hf_q
            have ne_X_0_3_q : X 0 3 ≠ q := z_nef (f03 hF) hf_q
            have ne_X_0_4_q : X 0 4 ≠ q := z_nef (f04 hF) hf_q
            have ne_X_0_5_q : X 0 5 ≠ q := z_nef (f05 hF) hf_q
            have ne_X_0_6_q : X 0 6 ≠ q := z_nef (f06 hF) hf_q
            have ne_X_0_7_q : X 0 7 ≠ q := z_nef (f07 hF) hf_q
            have ne_X_0_8_q : X 0 8 ≠ q := z_nef (f08 hF) hf_q
            have ne_X_0_9_q : X 0 9 ≠ q := z_nef (f09 hF) hf_q
            refine W.widen (k := 1) (n := 4) (by decide) (by decide) ?_
            refine lv_dup hx hb dX9_home_67 rfl ?_
            refine lv_iload_n hx hb dX9_home_68 rfl (lv_at hl 1 rfl) ?_
            refine lv_iload_n hx hb dX9_home_69 rfl (lv_at hl 3 rfl) ?_
            refine lv_iload hx hb dX9_home_70 (lv_at hl 4 rfl) ?_
            refine z_call (va_runS (As := [.int x, .int rm, .int fl]) (rest := [.ref q, .ref q, .int (nI (S.1 1 0)), .ref (X 0 1)]) ⟨hx, hb, hml, hown, hts⟩ (c_X9_bodyOf l D cT _ _ x rm fl) (va_cwS 3 hts gX9_home_X9_bodyOf rfl rfl rfl (by decide +kernel) ⟨(Nat.le_of_ble_eq_true rfl), (Nat.le_of_ble_eq_true rfl)⟩) (z_preS hK hE hZ hA) rfl rfl hl.1 rfl (lv_room (Nat.le_of_ble_eq_true rfl)) dX9_home_72 ⟨(Nat.le_of_ble_eq_true rfl), (Nat.le_of_ble_eq_true rfl)⟩) hZ hA (fun r G72 H locs hq hZ => ?_)
            obtain ⟨b, hf_b, rfl, rfl⟩ := hq
            have ne_X_0_0_b : X 0 0 ≠ b := z_nef ((va_up_ne _ _ ne_X_0_0_q).trans (f00 hF)) hf_b
            have ne_X_0_1_b : X 0 1 ≠ b := z_nef ((va_up_ne _ _ ne_X_0_1_q).trans (f01 hF)) hf_b
            have ne_X_0_2_b : X 0 2 ≠ b := z_nef ((va_up_ne _ _ ne_X_0_2_q).trans (f02 hF)) hf_b
            have ne_X_0_3_b : X 0 3 ≠ b := z_nef ((va_up_ne _ _ ne_X_0_3_q).trans (f03 hF)) hf_b
            have ne_X_0_4_b : X 0 4 ≠ b := z_nef ((va_up_ne _ _ ne_X_0_4_q).trans (f04 hF)) hf_b
            have ne_X_0_5_b : X 0 5 ≠ b := z_nef ((va_up_ne _ _ ne_X_0_5_q).trans (f05 hF)) hf_b
            have ne_X_0_6_b : X 0 6 ≠ b := z_nef ((va_up_ne _ _ ne_X_0_6_q).trans (f06 hF)) hf_b
            have ne_X_0_7_b : X 0 7 ≠ b := z_nef ((va_up_ne _ _ ne_X_0_7_q).trans (f07 hF)) hf_b
            have ne_X_0_8_b : X 0 8 ≠ b := z_nef ((va_up_ne _ _ ne_X_0_8_q).trans (f08 hF)) hf_b
            have ne_X_0_9_b : X 0 9 ≠ b := z_nef ((va_up_ne _ _ ne_X_0_9_q).trans (f09 hF)) hf_b
            have ne_q_b : q ≠ b := z_nef (va_up_self _ _ _) hf_b
            refine W.eq (g2 := F0 m 75 ls [.ref b, .ref q, .ref q, .int (nI (S.1 1 0)), .ref (X 0 1)]) rfl ?_
            refine W.widen (k := 2) (n := 6) (by decide) (by decide) ?_
            refine lv_iload_n hx hb dX9_home_75 rfl (lv_at hl 2 rfl) ?_
            refine z_call (va_runI (As := [.ref b, .int ar]) (rest := [.ref q, .int (nI (S.1 1 0)), .ref (X 0 1)]) ⟨hx, hb, hml, hown, hts⟩ (c_X3_init l D cT _ _ q b ar ((va_up_ne _ _ ne_q_b).trans (va_up_self _ _ _))) (cwI 2 hts gX9_home_X3_init rfl rfl rfl (hts (.initialized RX3) (by decide +kernel)) (hts (.methodLink RX9 63 yX3_init) (by decide +kernel)) (hts (.instanceMethod yX3_init) (by decide +kernel)) rfl (by decide +kernel) ⟨(Nat.le_of_ble_eq_true rfl), (Nat.le_of_ble_eq_true rfl)⟩) (z_preS hK hE hZ hA) rfl rfl hl.1 rfl (lv_room (Nat.le_of_ble_eq_true rfl)) dX9_home_76 ⟨(Nat.le_of_ble_eq_true rfl), (Nat.le_of_ble_eq_true rfl)⟩) hZ hA (fun r G76 H locs hq hZ => ?_)
            obtain ⟨⟨t, q4, n1, n2, n3, hf_t, hf_q4, rfl⟩, rfl⟩ := hq
            have hf_t4 := (va_up_ne _ (some (.inl (cT 0, 301, .inl (fun _ => 0)))) n3.symm).trans hf_t
            have ne_X_0_0_q4 : X 0 0 ≠ q4 := z_nef ((va_up_ne _ _ ne_X_0_0_b).trans ((va_up_ne _ _ ne_X_0_0_q).trans (f00 hF))) hf_q4
            have ne_X_0_1_q4 : X 0 1 ≠ q4 := z_nef ((va_up_ne _ _ ne_X_0_1_b).trans ((va_up_ne _ _ ne_X_0_1_q).trans (f01 hF))) hf_q4
            have ne_X_0_2_q4 : X 0 2 ≠ q4 := z_nef ((va_up_ne _ _ ne_X_0_2_b).trans ((va_up_ne _ _ ne_X_0_2_q).trans (f02 hF))) hf_q4
            have ne_X_0_3_q4 : X 0 3 ≠ q4 := z_nef ((va_up_ne _ _ ne_X_0_3_b).trans ((va_up_ne _ _ ne_X_0_3_q).trans (f03 hF))) hf_q4
            have ne_X_0_4_q4 : X 0 4 ≠ q4 := z_nef ((va_up_ne _ _ ne_X_0_4_b).trans ((va_up_ne _ _ ne_X_0_4_q).trans (f04 hF))) hf_q4
            have ne_X_0_5_q4 : X 0 5 ≠ q4 := z_nef ((va_up_ne _ _ ne_X_0_5_b).trans ((va_up_ne _ _ ne_X_0_5_q).trans (f05 hF))) hf_q4
            have ne_X_0_6_q4 : X 0 6 ≠ q4 := z_nef ((va_up_ne _ _ ne_X_0_6_b).trans ((va_up_ne _ _ ne_X_0_6_q).trans (f06 hF))) hf_q4
            have ne_X_0_7_q4 : X 0 7 ≠ q4 := z_nef ((va_up_ne _ _ ne_X_0_7_b).trans ((va_up_ne _ _ ne_X_0_7_q).trans (f07 hF))) hf_q4
            have ne_X_0_8_q4 : X 0 8 ≠ q4 := z_nef ((va_up_ne _ _ ne_X_0_8_b).trans ((va_up_ne _ _ ne_X_0_8_q).trans (f08 hF))) hf_q4
            have ne_X_0_9_q4 : X 0 9 ≠ q4 := z_nef ((va_up_ne _ _ ne_X_0_9_b).trans ((va_up_ne _ _ ne_X_0_9_q).trans (f09 hF))) hf_q4
            have ne_q_q4 : q ≠ q4 := z_nef ((va_up_ne _ _ ne_q_b).trans (va_up_self _ _ _)) hf_q4
            have ne_b_q4 : b ≠ q4 := z_nef (va_up_self _ _ _) hf_q4
            have ne_X_0_0_t : X 0 0 ≠ t := z_nef ((va_up_ne _ _ ne_X_0_0_q4).trans ((va_up_ne _ _ ne_X_0_0_b).trans ((va_up_ne _ _ ne_X_0_0_q).trans (f00 hF)))) hf_t4
            have ne_X_0_1_t : X 0 1 ≠ t := z_nef ((va_up_ne _ _ ne_X_0_1_q4).trans ((va_up_ne _ _ ne_X_0_1_b).trans ((va_up_ne _ _ ne_X_0_1_q).trans (f01 hF)))) hf_t4
            have ne_X_0_2_t : X 0 2 ≠ t := z_nef ((va_up_ne _ _ ne_X_0_2_q4).trans ((va_up_ne _ _ ne_X_0_2_b).trans ((va_up_ne _ _ ne_X_0_2_q).trans (f02 hF)))) hf_t4
            have ne_X_0_3_t : X 0 3 ≠ t := z_nef ((va_up_ne _ _ ne_X_0_3_q4).trans ((va_up_ne _ _ ne_X_0_3_b).trans ((va_up_ne _ _ ne_X_0_3_q).trans (f03 hF)))) hf_t4
            have ne_X_0_4_t : X 0 4 ≠ t := z_nef ((va_up_ne _ _ ne_X_0_4_q4).trans ((va_up_ne _ _ ne_X_0_4_b).trans ((va_up_ne _ _ ne_X_0_4_q).trans (f04 hF)))) hf_t4
            have ne_X_0_5_t : X 0 5 ≠ t := z_nef ((va_up_ne _ _ ne_X_0_5_q4).trans ((va_up_ne _ _ ne_X_0_5_b).trans ((va_up_ne _ _ ne_X_0_5_q).trans (f05 hF)))) hf_t4
            have ne_X_0_6_t : X 0 6 ≠ t := z_nef ((va_up_ne _ _ ne_X_0_6_q4).trans ((va_up_ne _ _ ne_X_0_6_b).trans ((va_up_ne _ _ ne_X_0_6_q).trans (f06 hF)))) hf_t4
            have ne_X_0_7_t : X 0 7 ≠ t := z_nef ((va_up_ne _ _ ne_X_0_7_q4).trans ((va_up_ne _ _ ne_X_0_7_b).trans ((va_up_ne _ _ ne_X_0_7_q).trans (f07 hF)))) hf_t4
            have ne_X_0_8_t : X 0 8 ≠ t := z_nef ((va_up_ne _ _ ne_X_0_8_q4).trans ((va_up_ne _ _ ne_X_0_8_b).trans ((va_up_ne _ _ ne_X_0_8_q).trans (f08 hF)))) hf_t4
            have ne_X_0_9_t : X 0 9 ≠ t := z_nef ((va_up_ne _ _ ne_X_0_9_q4).trans ((va_up_ne _ _ ne_X_0_9_b).trans ((va_up_ne _ _ ne_X_0_9_q).trans (f09 hF)))) hf_t4
            have ne_q_t : q ≠ t := z_nef ((va_up_ne _ _ ne_q_q4).trans ((va_up_ne _ _ ne_q_b).trans (va_up_self _ _ _))) hf_t4
            have ne_b_t : b ≠ t := z_nef ((va_up_ne _ _ ne_b_q4).trans (va_up_self _ _ _)) hf_t4
            have ne_q4_t : q4 ≠ t := z_nef (va_up_self _ _ _) hf_t4
            refine W.eq (g2 := F0 m 79 ls [.ref q, .int (nI (S.1 1 0)), .ref (X 0 1)]) rfl ?_
            refine W.widen (k := 4) (n := 312) (by decide) (by decide) ?_
            refine z_aast hx hb hK hZ 2 3 ((va_up_ne _ _ ne_X_0_1_q).trans ((va_up_ne _ _ ne_X_0_1_t).trans ((va_up_ne _ _ ne_X_0_1_q4).trans ((va_up_ne _ _ ne_X_0_1_b).trans ((va_up_ne _ _ ne_X_0_1_q).trans (f01 hF)))))) rfl (va_up_self _ _ _) rfl (S.1 1 0) rfl (Nat.lt_of_le_of_ne k1 c8) (by decide) dX9_home_79 (fun H locs hZ => ?_)
            refine lv_aload_n hx hb dX9_home_80 rfl (lv_at hl 0 rfl) ?_
            refine lv_dup hx hb dX9_home_81 rfl ?_
            refine z_get (ci := 9) (fs := [.ref (X 0 1), .ref (X 0 2), .ref (X 0 3), .ref (X 0 4), .ref (X 0 5), .ref (X 0 7), .ref (X 0 9), .int (nI (S.1 1 0)), .int (nI (S.1 10 0)), .int (nI (S.1 20 0)), .int (nI (S.1 0 0)), .long S.2.2]) (C := RX9) (T := TX9) (N := 12) hx hb hts in_X9 hown hK hZ ((va_up_ne _ _ (z_neOA (f00 hF) (f01 hF))).trans ((va_up_ne _ _ ne_X_0_0_q).trans ((va_up_ne _ _ ne_X_0_0_t).trans ((va_up_ne _ _ ne_X_0_0_q4).trans ((va_up_ne _ _ ne_X_0_0_b).trans ((va_up_ne _ _ ne_X_0_0_q).trans (f00 hF))))))) rfl 7 (by decide) fl_55 (fun _ h9 => h9) rfl dX9_home_82 ?_
            refine lv_iconst (v := 1) hx hb dX9_home_85 (by decide) ?_
            refine lv_iadd hx hb dX9_home_86 ?_
            refine W.eq (congrArg (fun v => F0 m 87 ls (.int v :: [.ref (X 0 0)])) (show _ = nI (S.1 1 0 + 1) from nI_1 _)) ?_
            refine W.eq (g2 := F0 m 87 ls [.int (nI (S.1 1 0 + 1)), .ref (X 0 0)]) rfl ?_
            refine z_put (ci := 9) (fs := [.ref (X 0 1), .ref (X 0 2), .ref (X 0 3), .ref (X 0 4), .ref (X 0 5), .ref (X 0 7), .ref (X 0 9), .int (nI (S.1 1 0)), .int (nI (S.1 10 0)), .int (nI (S.1 20 0)), .int (nI (S.1 0 0)), .long S.2.2]) (fs' := [.ref (X 0 1), .ref (X 0 2), .ref (X 0 3), .ref (X 0 4), .ref (X 0 5), .ref (X 0 7), .ref (X 0 9), .int (nI (S.1 1 0 + 1)), .int (nI (S.1 10 0)), .int (nI (S.1 20 0)), .int (nI (S.1 0 0)), .long S.2.2]) (v := .int (nI (S.1 1 0 + 1))) (ty := .int) (C := RX9) (T := TX9) (N := 12) hx hb hts in_X9 tyX9 tyX9_ok nmX9 hown hK hZ ((va_up_ne _ _ (z_neOA (f00 hF) (f01 hF))).trans ((va_up_ne _ _ ne_X_0_0_q).trans ((va_up_ne _ _ ne_X_0_0_t).trans ((va_up_ne _ _ ne_X_0_0_q4).trans ((va_up_ne _ _ ne_X_0_0_b).trans ((va_up_ne _ _ ne_X_0_0_q).trans (f00 hF))))))) rfl 7 (by decide) fl_55 (fun _ h9 => h9) rfl (by decide +kernel) rfl rfl (Nat.le_of_ble_eq_true rfl) rfl dX9_home_87 (fun H locs hZ => ?_)
            refine lv_aload_n hx hb dX9_home_90 rfl (lv_at hl 0 rfl) ?_
            refine z_get (ci := 9) (fs := [.ref (X 0 1), .ref (X 0 2), .ref (X 0 3), .ref (X 0 4), .ref (X 0 5), .ref (X 0 7), .ref (X 0 9), .int (nI (S.1 1 0 + 1)), .int (nI (S.1 10 0)), .int (nI (S.1 20 0)), .int (nI (S.1 0 0)), .long S.2.2]) (C := RX9) (T := TX9) (N := 12) hx hb hts in_X9 hown hK hZ (va_up_self _ _ _) rfl 7 (by decide) fl_55 (fun _ h9 => h9) rfl dX9_home_91 ?_
            refine lv_iconst (v := 1) hx hb dX9_home_94 (by decide) ?_
            refine lv_isub hx hb dX9_home_95 ?_
            refine W.eq (congrArg (fun v => F0 m 96 ls (.int v :: [])) (show _ = nI (S.1 1 0) from nI_pred _)) ?_
            refine W.eq (g2 := F0 m 96 ls [.int (nI (S.1 1 0))]) rfl ?_
            have hx0 := z_self c6.1
            have hx1 := z_self c15.1
            have hx2 := z_self (z_le01 c25.1)
            have hx3 := z_self c36.1
            have hk2 : x.toNatClampNeg ≤ 2 := by obtain ⟨j, h1, rfl⟩ := z_wn (n := 2) c6 (by decide); rw [nI_clamp (by omega)]; exact h1
            exact z_iret hx hb hr hlocks hZ dX9_home_96 (by rw [sp_home, if_pos ⟨c6, c15, c25, c36⟩, if_neg c8]; refine ⟨⟨xU (xU (xU (xU X 1 (S.1 1 0) q) 2 (S.1 1 0) b) 4 (S.1 1 0) q4) 3 (S.1 1 0) t, rfl, ct, md, sc, rp, fo, fd, ?_⟩, rfl⟩; have hz := @fr_home cT S X ct md sc rp fo fd G hF nn hS (Nat.lt_of_le_of_ne k1 c8) q b q4 t _ x.toNatClampNeg ar.toNatClampNeg rm.toNatClampNeg fl.toNatClampNeg hk2 hf_q (by exact hf_b) (by rw [hx0, hx2, hx3]; exact hf_q4) (by rw [hx0, hx2, hx3]; exact hf_t4); rw [hx0, hx1, hx2, hx3] at hz; exact hz)
          · have c8 : S.1 1 0 = 8 := Nat.le_antisymm k1 (Nat.not_lt.mp (fun z => c50 (nI_lt (b := 8) z (by decide))))
            refine lv_bipush (v := (-3)) hx hb dX9_home_53 (by decide) ?_
            refine W.widen (k := 4) (n := 312) (Nat.le_of_ble_eq_true rfl) (Nat.le_of_ble_eq_true rfl) ?_
            exact z_iret hx hb hr hlocks hZ dX9_home_55 (fQ_of (by rw [sp_home, if_pos ⟨c6, c15, c25, c36⟩, if_pos c8]) rfl ⟨_, _, _, _, _, _, hF⟩)
        · refine lv_iconst (v := (-1)) hx hb dX9_home_39 (by decide) ?_
          refine W.widen (k := 4) (n := 312) (Nat.le_of_ble_eq_true rfl) (Nat.le_of_ble_eq_true rfl) ?_
          exact z_iret hx hb hr hlocks hZ dX9_home_40 (fQ_of (by rw [sp_home, if_neg (fun h => c36 h.2.2.2)]) rfl ⟨_, _, _, _, _, _, hF⟩)

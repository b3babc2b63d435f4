set_option maxHeartbeats 4000000 in
set_option maxRecDepth 100000 in
theorem c_X10_in (l : Launch) (D : va_G) (cT : Nat → ClassId) (G : zG) (sz : Nat) (x lo hi : Int32)  : zM l D cT yX10_in wsX10_in (zR 0 0 0) [.int x, .int lo, .int hi] G sz (fun r G' => G' = G ∧ r = some (.int (if lo ≤ x ∧ x ≤ hi then 1 else 0))) := by
  refine z_start (cc := cX10_in) (maxL := 3) (ret := (some .boolean)) (by decide) rfl (Nat.le_of_ble_eq_true rfl) ?_
  intro p e s m below meth c ls hI hZ hl
  obtain ⟨hx, hb, hr, hml, hts, hown, hlocks, hname, hK, hA, hE⟩ := hI
  have hl : lv_has ls 3 [(0, .int x), (1, .int lo), (2, .int hi)] := hl
  have hown : s.vm.findClass RX10 = some m.cls := hown
  refine lv_iload_n hx hb dX10_in_0 rfl (lv_at hl 0 rfl) ?_
  refine lv_iload_n hx hb dX10_in_1 rfl (lv_at hl 1 rfl) ?_
  refine lv_icmp_lt (tgt := 14) hx hb dX10_in_2 (by decide) (fun c2 => ?_) (fun c2 => ?_)
  · refine lv_iconst (v := 0) hx hb dX10_in_14 (by decide) ?_
    exact z_zret hx hb hr hlocks hZ (Or.inl rfl) dX10_in_15 (⟨rfl, z_wl c2⟩)
  · refine lv_iload_n hx hb dX10_in_5 rfl (lv_at hl 0 rfl) ?_
    refine lv_iload_n hx hb dX10_in_6 rfl (lv_at hl 2 rfl) ?_
    refine lv_icmp_gt (tgt := 14) hx hb dX10_in_7 (by decide) (fun c7 => ?_) (fun c7 => ?_)
    · refine lv_iconst (v := 0) hx hb dX10_in_14 (by decide) ?_
      exact z_zret hx hb hr hlocks hZ (Or.inl rfl) dX10_in_15 (⟨rfl, z_wr c7⟩)
    · refine lv_iconst (v := 1) hx hb dX10_in_10 (by decide) ?_
      refine lv_goto (tgt := 15) hx hb dX10_in_11 (by decide) ?_
      exact z_zret hx hb hr hlocks hZ (Or.inr rfl) dX10_in_15 (⟨rfl, z_w1 c2 c7⟩)

set_option maxHeartbeats 4000000 in
set_option maxRecDepth 100000 in
theorem c_X10_isHome (l : Launch) (D : va_G) (cT : Nat → ClassId) (G : zG) (sz : Nat) (S : zS) (X : Nat → Nat) (cz : Int32) (f27 f29 : Nat → Int32) (nn : Nat) (x : Int32) (hM : MD cT S X cz f27 f29 G) (hXI : XI X) (hS : ok S nn)  : zM l D cT yX10_isHome wsX10_isHome (zR 1 0 0) [.ref (X 0), .int x] G sz (fun r G' => G' = G ∧ r = some (.int (if 0 ≤ x ∧ x ≤ nI (S.1 1 0) - 1 then 1 else 0))) := by
  refine z_start (cc := cX10_isHome) (maxL := 2) (ret := (some .boolean)) (by decide) rfl (Nat.le_of_ble_eq_true rfl) ?_
  intro p e s m below meth c ls hI hZ hl
  obtain ⟨hx, hb, hr, hml, hts, hown, hlocks, hname, hK, hA, hE⟩ := hI
  have hl : lv_has ls 2 [(0, .ref (X 0)), (1, .int x)] := hl
  have hown : s.vm.findClass RX10 = some m.cls := hown
  have in_X10 : ∀ w ∈ u_ws RX10 TX10 30, w ∈ wsX10_isHome := by decide +kernel
  have fl_83 := hts (.fieldLink RX10 83 "FairRentsModel" "homes" "I") (by decide +kernel)
  obtain ⟨m0, m2, m3, m4, m5, m6, m8, m9, m11, m12, m13, m14, m15, m16, m17, m18, m19, m21, m22, m23, m24, m25, m26, m27, m29⟩ := id hM
  obtain ⟨⟨k1, k10, k20, k0⟩, kH, k9, k8, k15, k26, kL, kLn, kP, kE, kEm, kn⟩ := id hS
  refine lv_iload_n hx hb dX10_isHome_0 rfl (lv_at hl 1 rfl) ?_
  refine lv_iconst (v := 0) hx hb dX10_isHome_1 (by decide) ?_
  refine lv_aload_n hx hb dX10_isHome_2 rfl (lv_at hl 0 rfl) ?_
  refine z_get (ci := 10) (fs := [.int (nI (S.1 0 0)), .int (nI (S.1 1 0)), .ref (X 2), .ref (X 3), .ref (X 4), .ref (X 5), .ref (X 6), .long S.2.2, .ref (X 8), .ref (X 9), .int (nI (S.1 10 0)), .ref (X 11), .ref (X 12), .ref (X 13), .ref (X 14), .ref (X 15), .ref (X 16), .ref (X 17), .ref (X 18), .ref (X 19), .int (nI (S.1 20 0)), .ref (X 21), .ref (X 22), .ref (X 23), .ref (X 24), .ref (X 25), .ref (X 26), .ref (X 27), .int cz, .ref (X 29)]) (C := RX10) (T := TX10) (N := 30) hx hb hts in_X10 hown hK hZ m0 rfl 1 (by decide) fl_83 (fun _ h9 => h9) rfl dX10_isHome_3 ?_
  refine lv_iconst (v := 1) hx hb dX10_isHome_6 (by decide) ?_
  refine lv_isub hx hb dX10_isHome_7 ?_
  refine z_call (va_runS (As := [.int x, .int 0, .int ((nI (S.1 1 0)) - 1)]) (rest := []) ⟨hx, hb, hml, hown, hts⟩ (c_X10_in l D cT _ _ x 0 ((nI (S.1 1 0)) - 1)) (va_cwS 3 hts gX10_isHome_X10_in rfl rfl rfl (by decide +kernel) ⟨(Nat.le_of_ble_eq_true rfl), (Nat.le_of_ble_eq_true rfl)⟩) (z_preS hK hE hZ hA) rfl rfl hl.1 rfl (lv_room (Nat.le_of_ble_eq_true rfl)) dX10_isHome_8 ⟨(Nat.le_of_ble_eq_true rfl), (Nat.le_of_ble_eq_true rfl)⟩) hZ hA (fun r G8 H locs hq hZ => ?_)
  obtain ⟨hg, rfl⟩ := hq
  replace hg := hg.symm
  subst hg
  refine W.eq (g2 := F0 m 11 ls [.int (if 0 ≤ x ∧ x ≤ ((nI (S.1 1 0)) - 1) then 1 else 0)]) rfl ?_
  exact z_zret hx hb hr hlocks hZ z_01 dX10_isHome_11 (⟨rfl, rfl⟩)

set_option maxHeartbeats 4000000 in
set_option maxRecDepth 100000 in
theorem c_X10_home (l : Launch) (D : va_G) (cT : Nat → ClassId) (G : zG) (sz : Nat) (S : zS) (X : Nat → Nat) (cz : Int32) (f27 f29 : Nat → Int32) (nn : Nat) (x a b f : Int32) (hM : MD cT S X cz f27 f29 G) (hXI : XI X) (hS : ok S nn)  : zM l D cT yX10_home wsX10_home (zR 1 0 0) [.ref (X 0), .int x, .int a, .int b, .int f] G sz (mQ cT X (sp_home S x a b f)) := by
  refine z_start (cc := cX10_home) (maxL := 5) (ret := (some .int)) (by decide) rfl (Nat.le_of_ble_eq_true rfl) ?_
  intro p e s m below meth c ls hI hZ hl
  obtain ⟨hx, hb, hr, hml, hts, hown, hlocks, hname, hK, hA, hE⟩ := hI
  have hl : lv_has ls 5 [(0, .ref (X 0)), (1, .int x), (2, .int a), (3, .int b), (4, .int f)] := hl
  have hown : s.vm.findClass RX10 = some m.cls := hown
  have in_X10 : ∀ w ∈ u_ws RX10 TX10 30, w ∈ wsX10_home := by decide +kernel
  have fl_7 := hts (.fieldLink RX10 7 "FairRentsModel" "kind" "[I") (by decide +kernel)
  have fl_13 := hts (.fieldLink RX10 13 "FairRentsModel" "area" "[I") (by decide +kernel)
  have fl_16 := hts (.fieldLink RX10 16 "FairRentsModel" "rooms" "[I") (by decide +kernel)
  have fl_19 := hts (.fieldLink RX10 19 "FairRentsModel" "floor" "[I") (by decide +kernel)
  have fl_22 := hts (.fieldLink RX10 22 "FairRentsModel" "faults" "[I") (by decide +kernel)
  have fl_83 := hts (.fieldLink RX10 83 "FairRentsModel" "homes" "I") (by decide +kernel)
  obtain ⟨m0, m2, m3, m4, m5, m6, m8, m9, m11, m12, m13, m14, m15, m16, m17, m18, m19, m21, m22, m23, m24, m25, m26, m27, m29⟩ := id hM
  obtain ⟨⟨k1, k10, k20, k0⟩, kH, k9, k8, k15, k26, kL, kLn, kP, kE, kEm, kn⟩ := id hS
  refine lv_iload_n hx hb dX10_home_0 rfl (lv_at hl 1 rfl) ?_
  refine lv_iconst (v := 0) hx hb dX10_home_1 (by decide) ?_
  refine lv_iconst (v := 2) hx hb dX10_home_2 (by decide) ?_
  refine z_call (va_runS (As := [.int x, .int 0, .int 2]) (rest := []) ⟨hx, hb, hml, hown, hts⟩ (c_X10_in l D cT _ _ x 0 2) (va_cwS 3 hts gX10_home_X10_in rfl rfl rfl (by decide +kernel) ⟨(Nat.le_of_ble_eq_true rfl), (Nat.le_of_ble_eq_true rfl)⟩) (z_preS hK hE hZ hA) rfl rfl hl.1 rfl (lv_room (Nat.le_of_ble_eq_true rfl)) dX10_home_3 ⟨(Nat.le_of_ble_eq_true rfl), (Nat.le_of_ble_eq_true rfl)⟩) hZ hA (fun r G3 H locs hq hZ => ?_)
  obtain ⟨hg, rfl⟩ := hq
  replace hg := hg.symm
  subst hg
  refine W.eq (g2 := F0 m 6 ls [.int (if 0 ≤ x ∧ x ≤ 2 then 1 else 0)]) rfl ?_
  refine zb_eq (tgt := 39) hx hb dX10_home_6 (by decide) (fun c6 => ?_) (fun c6 => ?_)
  · refine lv_iconst (v := (-1)) hx hb dX10_home_39 (by decide) ?_
    exact z_iret hx hb hr hlocks hZ dX10_home_40 (mQ_of (by rw [sp_home, if_neg (fun h => c6 h.1)]) ⟨_, _, _, hM⟩)
  · refine lv_iload_n hx hb dX10_home_9 rfl (lv_at hl 2 rfl) ?_
    refine lv_iconst (v := 0) hx hb dX10_home_10 (by decide) ?_
    refine lv_iconst (v := 2) hx hb dX10_home_11 (by decide) ?_
    refine z_call (va_runS (As := [.int a, .int 0, .int 2]) (rest := []) ⟨hx, hb, hml, hown, hts⟩ (c_X10_in l D cT _ _ a 0 2) (va_cwS 3 hts gX10_home_X10_in rfl rfl rfl (by decide +kernel) ⟨(Nat.le_of_ble_eq_true rfl), (Nat.le_of_ble_eq_true rfl)⟩) (z_preS hK hE hZ hA) rfl rfl hl.1 rfl (lv_room (Nat.le_of_ble_eq_true rfl)) dX10_home_12 ⟨(Nat.le_of_ble_eq_true rfl), (Nat.le_of_ble_eq_true rfl)⟩) hZ hA (fun r G12 H locs hq hZ => ?_)
    obtain ⟨hg, rfl⟩ := hq
    replace hg := hg.symm
    subst hg
    refine W.eq (g2 := F0 m 15 ls [.int (if 0 ≤ a ∧ a ≤ 2 then 1 else 0)]) rfl ?_
    refine zb_eq (tgt := 39) hx hb dX10_home_15 (by decide) (fun c15 => ?_) (fun c15 => ?_)
    · refine lv_iconst (v := (-1)) hx hb dX10_home_39 (by decide) ?_
      exact z_iret hx hb hr hlocks hZ dX10_home_40 (mQ_of (by rw [sp_home, if_neg (fun h => c15 h.2.1)]) ⟨_, _, _, hM⟩)
    · refine lv_iload_n hx hb dX10_home_18 rfl (lv_at hl 3 rfl) ?_
      refine lv_iconst (v := 1) hx hb dX10_home_19 (by decide) ?_
      refine lv_bipush (v := 9) hx hb dX10_home_20 (by decide) ?_
      refine z_call (va_runS (As := [.int b, .int 1, .int 9]) (rest := []) ⟨hx, hb, hml, hown, hts⟩ (c_X10_in l D cT _ _ b 1 9) (va_cwS 3 hts gX10_home_X10_in rfl rfl rfl (by decide +kernel) ⟨(Nat.le_of_ble_eq_true rfl), (Nat.le_of_ble_eq_true rfl)⟩) (z_preS hK hE hZ hA) rfl rfl hl.1 rfl (lv_room (Nat.le_of_ble_eq_true rfl)) dX10_home_22 ⟨(Nat.le_of_ble_eq_true rfl), (Nat.le_of_ble_eq_true rfl)⟩) hZ hA (fun r G22 H locs hq hZ => ?_)
      obtain ⟨hg, rfl⟩ := hq
      replace hg := hg.symm
      subst hg
      refine W.eq (g2 := F0 m 25 ls [.int (if 1 ≤ b ∧ b ≤ 9 then 1 else 0)]) rfl ?_
      refine zb_eq (tgt := 39) hx hb dX10_home_25 (by decide) (fun c25 => ?_) (fun c25 => ?_)
      · refine lv_iconst (v := (-1)) hx hb dX10_home_39 (by decide) ?_
        exact z_iret hx hb hr hlocks hZ dX10_home_40 (mQ_of (by rw [sp_home, if_neg (fun h => c25 h.2.2.1)]) ⟨_, _, _, hM⟩)
      · refine lv_iload hx hb dX10_home_28 (lv_at hl 4 rfl) ?_
        refine lv_iconst (v := 0) hx hb dX10_home_30 (by decide) ?_
        refine lv_bipush (v := 9) hx hb dX10_home_31 (by decide) ?_
        refine z_call (va_runS (As := [.int f, .int 0, .int 9]) (rest := []) ⟨hx, hb, hml, hown, hts⟩ (c_X10_in l D cT _ _ f 0 9) (va_cwS 3 hts gX10_home_X10_in rfl rfl rfl (by decide +kernel) ⟨(Nat.le_of_ble_eq_true rfl), (Nat.le_of_ble_eq_true rfl)⟩) (z_preS hK hE hZ hA) rfl rfl hl.1 rfl (lv_room (Nat.le_of_ble_eq_true rfl)) dX10_home_33 ⟨(Nat.le_of_ble_eq_true rfl), (Nat.le_of_ble_eq_true rfl)⟩) hZ hA (fun r G33 H locs hq hZ => ?_)
        obtain ⟨hg, rfl⟩ := hq
        replace hg := hg.symm
        subst hg
        refine W.eq (g2 := F0 m 36 ls [.int (if 0 ≤ f ∧ f ≤ 9 then 1 else 0)]) rfl ?_
        refine zb_ne (tgt := 41) hx hb dX10_home_36 (by decide) (fun c36 => ?_) (fun c36 => ?_)
        · refine lv_aload_n hx hb dX10_home_41 rfl (lv_at hl 0 rfl) ?_
          refine z_get (ci := 10) (fs := [.int (nI (S.1 0 0)), .int (nI (S.1 1 0)), .ref (X 2), .ref (X 3), .ref (X 4), .ref (X 5), .ref (X 6), .long S.2.2, .ref (X 8), .ref (X 9), .int (nI (S.1 10 0)), .ref (X 11), .ref (X 12), .ref (X 13), .ref (X 14), .ref (X 15), .ref (X 16), .ref (X 17), .ref (X 18), .ref (X 19), .int (nI (S.1 20 0)), .ref (X 21), .ref (X 22), .ref (X 23), .ref (X 24), .ref (X 25), .ref (X 26), .ref (X 27), .int cz, .ref (X 29)]) (C := RX10) (T := TX10) (N := 30) hx hb hts in_X10 hown hK hZ m0 rfl 1 (by decide) fl_83 (fun _ h9 => h9) rfl dX10_home_42 ?_
          refine lv_bipush (v := 8) hx hb dX10_home_45 (by decide) ?_
          refine lv_icmp_ne (tgt := 53) hx hb dX10_home_47 (by decide) (fun c47 => ?_) (fun c47 => ?_)
          · have c8 : ¬ S.1 1 0 = 8 := fun h => c47 (by rw [h]; rfl)
            refine lv_aload_n hx hb dX10_home_53 rfl (lv_at hl 0 rfl) ?_
            refine z_get (ci := 10) (fs := [.int (nI (S.1 0 0)), .int (nI (S.1 1 0)), .ref (X 2), .ref (X 3), .ref (X 4), .ref (X 5), .ref (X 6), .long S.2.2, .ref (X 8), .ref (X 9), .int (nI (S.1 10 0)), .ref (X 11), .ref (X 12), .ref (X 13), .ref (X 14), .ref (X 15), .ref (X 16), .ref (X 17), .ref (X 18), .ref (X 19), .int (nI (S.1 20 0)), .ref (X 21), .ref (X 22), .ref (X 23), .ref (X 24), .ref (X 25), .ref (X 26), .ref (X 27), .int cz, .ref (X 29)]) (C := RX10) (T := TX10) (N := 30) hx hb hts in_X10 hown hK hZ m0 rfl 2 (by decide) fl_7 (fun _ h9 => h9) rfl dX10_home_54 ?_
            refine lv_aload_n hx hb dX10_home_57 rfl (lv_at hl 0 rfl) ?_
            refine z_get (ci := 10) (fs := [.int (nI (S.1 0 0)), .int (nI (S.1 1 0)), .ref (X 2), .ref (X 3), .ref (X 4), .ref (X 5), .ref (X 6), .long S.2.2, .ref (X 8), .ref (X 9), .int (nI (S.1 10 0)), .ref (X 11), .ref (X 12), .ref (X 13), .ref (X 14), .ref (X 15), .ref (X 16), .ref (X 17), .ref (X 18), .ref (X 19), .int (nI (S.1 20 0)), .ref (X 21), .ref (X 22), .ref (X 23), .ref (X 24), .ref (X 25), .ref (X 26), .ref (X 27), .int cz, .ref (X 29)]) (C := RX10) (T := TX10) (N := 30) hx hb hts in_X10 hown hK hZ m0 rfl 1 (by decide) fl_83 (fun _ h9 => h9) rfl dX10_home_58 ?_
            refine lv_iload_n hx hb dX10_home_61 rfl (lv_at hl 1 rfl) ?_
            refine z_iast hx hb hK hZ m2 (S.1 1 0) rfl (by omega) (by decide) dX10_home_62 (fun H locs hZ => ?_)
            refine lv_aload_n hx hb dX10_home_63 rfl (lv_at hl 0 rfl) ?_
            refine z_get (ci := 10) (fs := [.int (nI (S.1 0 0)), .int (nI (S.1 1 0)), .ref (X 2), .ref (X 3), .ref (X 4), .ref (X 5), .ref (X 6), .long S.2.2, .ref (X 8), .ref (X 9), .int (nI (S.1 10 0)), .ref (X 11), .ref (X 12), .ref (X 13), .ref (X 14), .ref (X 15), .ref (X 16), .ref (X 17), .ref (X 18), .ref (X 19), .int (nI (S.1 20 0)), .ref (X 21), .ref (X 22), .ref (X 23), .ref (X 24), .ref (X 25), .ref (X 26), .ref (X 27), .int cz, .ref (X 29)]) (C := RX10) (T := TX10) (N := 30) hx hb hts in_X10 hown hK hZ ((va_up_ne _ _ (fun q => absurd (hXI 0 2 (by decide) (by decide) q) (by decide))).trans m0) rfl 3 (by decide) fl_13 (fun _ h9 => h9) rfl dX10_home_64 ?_
            refine lv_aload_n hx hb dX10_home_67 rfl (lv_at hl 0 rfl) ?_
            refine z_get (ci := 10) (fs := [.int (nI (S.1 0 0)), .int (nI (S.1 1 0)), .ref (X 2), .ref (X 3), .ref (X 4), .ref (X 5), .ref (X 6), .long S.2.2, .ref (X 8), .ref (X 9), .int (nI (S.1 10 0)), .ref (X 11), .ref (X 12), .ref (X 13), .ref (X 14), .ref (X 15), .ref (X 16), .ref (X 17), .ref (X 18), .ref (X 19), .int (nI (S.1 20 0)), .ref (X 21), .ref (X 22), .ref (X 23), .ref (X 24), .ref (X 25), .ref (X 26), .ref (X 27), .int cz, .ref (X 29)]) (C := RX10) (T := TX10) (N := 30) hx hb hts in_X10 hown hK hZ ((va_up_ne _ _ (fun q => absurd (hXI 0 2 (by decide) (by decide) q) (by decide))).trans m0) rfl 1 (by decide) fl_83 (fun _ h9 => h9) rfl dX10_home_68 ?_
            refine lv_iload_n hx hb dX10_home_71 rfl (lv_at hl 2 rfl) ?_
            refine z_iast hx hb hK hZ ((va_up_ne _ _ (fun q => absurd (hXI 3 2 (by decide) (by decide) q) (by decide))).trans m3) (S.1 1 0) rfl (by omega) (by decide) dX10_home_72 (fun H locs hZ => ?_)
            refine lv_aload_n hx hb dX10_home_73 rfl (lv_at hl 0 rfl) ?_
            refine z_get (ci := 10) (fs := [.int (nI (S.1 0 0)), .int (nI (S.1 1 0)), .ref (X 2), .ref (X 3), .ref (X 4), .ref (X 5), .ref (X 6), .long S.2.2, .ref (X 8), .ref (X 9), .int (nI (S.1 10 0)), .ref (X 11), .ref (X 12), .ref (X 13), .ref (X 14), .ref (X 15), .ref (X 16), .ref (X 17), .ref (X 18), .ref (X 19), .int (nI (S.1 20 0)), .ref (X 21), .ref (X 22), .ref (X 23), .ref (X 24), .ref (X 25), .ref (X 26), .ref (X 27), .int cz, .ref (X 29)]) (C := RX10) (T := TX10) (N := 30) hx hb hts in_X10 hown hK hZ ((va_up_ne _ _ (fun q => absurd (hXI 0 3 (by decide) (by decide) q) (by decide))).trans ((va_up_ne _ _ (fun q => absurd (hXI 0 2 (by decide) (by decide) q) (by decide))).trans m0)) rfl 4 (by decide) fl_16 (fun _ h9 => h9) rfl dX10_home_74 ?_
            refine lv_aload_n hx hb dX10_home_77 rfl (lv_at hl 0 rfl) ?_
            refine z_get (ci := 10) (fs := [.int (nI (S.1 0 0)), .int (nI (S.1 1 0)), .ref (X 2), .ref (X 3), .ref (X 4), .ref (X 5), .ref (X 6), .long S.2.2, .ref (X 8), .ref (X 9), .int (nI (S.1 10 0)), .ref (X 11), .ref (X 12), .ref (X 13), .ref (X 14), .ref (X 15), .ref (X 16), .ref (X 17), .ref (X 18), .ref (X 19), .int (nI (S.1 20 0)), .ref (X 21), .ref (X 22), .ref (X 23), .ref (X 24), .ref (X 25), .ref (X 26), .ref (X 27), .int cz, .ref (X 29)]) (C := RX10) (T := TX10) (N := 30) hx hb hts in_X10 hown hK hZ ((va_up_ne _ _ (fun q => absurd (hXI 0 3 (by decide) (by decide) q) (by decide))).trans ((va_up_ne _ _ (fun q => absurd (hXI 0 2 (by decide) (by decide) q) (by decide))).trans m0)) rfl 1 (by decide) fl_83 (fun _ h9 => h9) rfl dX10_home_78 ?_
            refine lv_iload_n hx hb dX10_home_81 rfl (lv_at hl 3 rfl) ?_
            refine z_iast hx hb hK hZ ((va_up_ne _ _ (fun q => absurd (hXI 4 3 (by decide) (by decide) q) (by decide))).trans ((va_up_ne _ _ (fun q => absurd (hXI 4 2 (by decide) (by decide) q) (by decide))).trans m4)) (S.1 1 0) rfl (by omega) (by decide) dX10_home_82 (fun H locs hZ => ?_)
            refine lv_aload_n hx hb dX10_home_83 rfl (lv_at hl 0 rfl) ?_
            refine z_get (ci := 10) (fs := [.int (nI (S.1 0 0)), .int (nI (S.1 1 0)), .ref (X 2), .ref (X 3), .ref (X 4), .ref (X 5), .ref (X 6), .long S.2.2, .ref (X 8), .ref (X 9), .int (nI (S.1 10 0)), .ref (X 11), .ref (X 12), .ref (X 13), .ref (X 14), .ref (X 15), .ref (X 16), .ref (X 17), .ref (X 18), .ref (X 19), .int (nI (S.1 20 0)), .ref (X 21), .ref (X 22), .ref (X 23), .ref (X 24), .ref (X 25), .ref (X 26), .ref (X 27), .int cz, .ref (X 29)]) (C := RX10) (T := TX10) (N := 30) hx hb hts in_X10 hown hK hZ ((va_up_ne _ _ (fun q => absurd (hXI 0 4 (by decide) (by decide) q) (by decide))).trans ((va_up_ne _ _ (fun q => absurd (hXI 0 3 (by decide) (by decide) q) (by decide))).trans ((va_up_ne _ _ (fun q => absurd (hXI 0 2 (by decide) (by decide) q) (by decide))).trans m0))) rfl 5 (by decide) fl_19 (fun _ h9 => h9) rfl dX10_home_84 ?_
            refine lv_aload_n hx hb dX10_home_87 rfl (lv_at hl 0 rfl) ?_
            refine z_get (ci := 10) (fs := [.int (nI (S.1 0 0)), .int (nI (S.1 1 0)), .ref (X 2), .ref (X 3), .ref (X 4), .ref (X 5), .ref (X 6), .long S.2.2, .ref (X 8), .ref (X 9), .int (nI (S.1 10 0)), .ref (X 11), .ref (X 12), .ref (X 13), .ref (X 14), .ref (X 15), .ref (X 16), .ref (X 17), .ref (X 18), .ref (X 19), .int (nI (S.1 20 0)), .ref (X 21), .ref (X 22), .ref (X 23), .ref (X 24), .ref (X 25), .ref (X 26), .ref (X 27), .int cz, .ref (X 29)]) (C := RX10) (T := TX10) (N := 30) hx hb hts in_X10 hown hK hZ ((va_up_ne _ _ (fun q => absurd (hXI 0 4 (by decide) (by decide) q) (by decide))).trans ((va_up_ne _ _ (fun q => absurd (hXI 0 3 (by decide) (by decide) q) (by decide))).trans ((va_up_ne _ _ (fun q => absurd (hXI 0 2 (by decide) (by decide) q) (by decide))).trans m0))) rfl 1 (by decide) fl_83 (fun _ h9 => h9) rfl dX10_home_88 ?_
            refine lv_iload hx hb dX10_home_91 (lv_at hl 4 rfl) ?_
            refine z_iast hx hb hK hZ ((va_up_ne _ _ (fun q => absurd (hXI 5 4 (by decide) (by decide) q) (by decide))).trans ((va_up_ne _ _ (fun q => absurd (hXI 5 3 (by decide) (by decide) q) (by decide))).trans ((va_up_ne _ _ (fun q => absurd (hXI 5 2 (by decide) (by decide) q) (by decide))).trans m5))) (S.1 1 0) rfl (by omega) (by decide) dX10_home_93 (fun H locs hZ => ?_)
            refine lv_aload_n hx hb dX10_home_94 rfl (lv_at hl 0 rfl) ?_
            refine z_get (ci := 10) (fs := [.int (nI (S.1 0 0)), .int (nI (S.1 1 0)), .ref (X 2), .ref (X 3), .ref (X 4), .ref (X 5), .ref (X 6), .long S.2.2, .ref (X 8), .ref (X 9), .int (nI (S.1 10 0)), .ref (X 11), .ref (X 12), .ref (X 13), .ref (X 14), .ref (X 15), .ref (X 16), .ref (X 17), .ref (X 18), .ref (X 19), .int (nI (S.1 20 0)), .ref (X 21), .ref (X 22), .ref (X 23), .ref (X 24), .ref (X 25), .ref (X 26), .ref (X 27), .int cz, .ref (X 29)]) (C := RX10) (T := TX10) (N := 30) hx hb hts in_X10 hown hK hZ ((va_up_ne _ _ (fun q => absurd (hXI 0 5 (by decide) (by decide) q) (by decide))).trans ((va_up_ne _ _ (fun q => absurd (hXI 0 4 (by decide) (by decide) q) (by decide))).trans ((va_up_ne _ _ (fun q => absurd (hXI 0 3 (by decide) (by decide) q) (by decide))).trans ((va_up_ne _ _ (fun q => absurd (hXI 0 2 (by decide) (by decide) q) (by decide))).trans m0)))) rfl 6 (by decide) fl_22 (fun _ h9 => h9) rfl dX10_home_95 ?_
            refine lv_aload_n hx hb dX10_home_98 rfl (lv_at hl 0 rfl) ?_
            refine z_get (ci := 10) (fs := [.int (nI (S.1 0 0)), .int (nI (S.1 1 0)), .ref (X 2), .ref (X 3), .ref (X 4), .ref (X 5), .ref (X 6), .long S.2.2, .ref (X 8), .ref (X 9), .int (nI (S.1 10 0)), .ref (X 11), .ref (X 12), .ref (X 13), .ref (X 14), .ref (X 15), .ref (X 16), .ref (X 17), .ref (X 18), .ref (X 19), .int (nI (S.1 20 0)), .ref (X 21), .ref (X 22), .ref (X 23), .ref (X 24), .ref (X 25), .ref (X 26), .ref (X 27), .int cz, .ref (X 29)]) (C := RX10) (T := TX10) (N := 30) hx hb hts in_X10 hown hK hZ ((va_up_ne _ _ (fun q => absurd (hXI 0 5 (by decide) (by decide) q) (by decide))).trans ((va_up_ne _ _ (fun q => absurd (hXI 0 4 (by decide) (by decide) q) (by decide))).trans ((va_up_ne _ _ (fun q => absurd (hXI 0 3 (by decide) (by decide) q) (by decide))).trans ((va_up_ne _ _ (fun q => absurd (hXI 0 2 (by decide) (by decide) q) (by decide))).trans m0)))) rfl 1 (by decide) fl_83 (fun _ h9 => h9) rfl dX10_home_99 ?_
            refine lv_iconst (v := 0) hx hb dX10_home_102 (by decide) ?_
            refine z_iast hx hb hK hZ ((va_up_ne _ _ (fun q => absurd (hXI 6 5 (by decide) (by decide) q) (by decide))).trans ((va_up_ne _ _ (fun q => absurd (hXI 6 4 (by decide) (by decide) q) (by decide))).trans ((va_up_ne _ _ (fun q => absurd (hXI 6 3 (by decide) (by decide) q) (by decide))).trans ((va_up_ne _ _ (fun q => absurd (hXI 6 2 (by decide) (by decide) q) (by decide))).trans m6)))) (S.1 1 0) rfl (by omega) (by decide) dX10_home_103 (fun H locs hZ => ?_)
            refine lv_aload_n hx hb dX10_home_104 rfl (lv_at hl 0 rfl) ?_
            refine lv_dup hx hb dX10_home_105 rfl ?_
            refine z_get (ci := 10) (fs := [.int (nI (S.1 0 0)), .int (nI (S.1 1 0)), .ref (X 2), .ref (X 3), .ref (X 4), .ref (X 5), .ref (X 6), .long S.2.2, .ref (X 8), .ref (X 9), .int (nI (S.1 10 0)), .ref (X 11), .ref (X 12), .ref (X 13), .ref (X 14), .ref (X 15), .ref (X 16), .ref (X 17), .ref (X 18), .ref (X 19), .int (nI (S.1 20 0)), .ref (X 21), .ref (X 22), .ref (X 23), .ref (X 24), .ref (X 25), .ref (X 26), .ref (X 27), .int cz, .ref (X 29)]) (C := RX10) (T := TX10) (N := 30) hx hb hts in_X10 hown hK hZ ((va_up_ne _ _ (fun q => absurd (hXI 0 6 (by decide) (by decide) q) (by decide))).trans ((va_up_ne _ _ (fun q => absurd (hXI 0 5 (by decide) (by decide) q) (by decide))).trans ((va_up_ne _ _ (fun q => absurd (hXI 0 4 (by decide) (by decide) q) (by decide))).trans ((va_up_ne _ _ (fun q => absurd (hXI 0 3 (by decide) (by decide) q) (by decide))).trans ((va_up_ne _ _ (fun q => absurd (hXI 0 2 (by decide) (by decide) q) (by decide))).trans m0))))) rfl 1 (by decide) fl_83 (fun _ h9 => h9) rfl dX10_home_106 ?_
            refine lv_iconst (v := 1) hx hb dX10_home_109 (by decide) ?_
            refine lv_iadd hx hb dX10_home_110 ?_
            rw [nI_1]
            refine z_put (ci := 10) (fs := [.int (nI (S.1 0 0)), .int (nI (S.1 1 0)), .ref (X 2), .ref (X 3), .ref (X 4), .ref (X 5), .ref (X 6), .long S.2.2, .ref (X 8), .ref (X 9), .int (nI (S.1 10 0)), .ref (X 11), .ref (X 12), .ref (X 13), .ref (X 14), .ref (X 15), .ref (X 16), .ref (X 17), .ref (X 18), .ref (X 19), .int (nI (S.1 20 0)), .ref (X 21), .ref (X 22), .ref (X 23), .ref (X 24), .ref (X 25), .ref (X 26), .ref (X 27), .int cz, .ref (X 29)]) (fs' := [.int (nI (S.1 0 0)), .int (nI (S.1 1 0 + 1)), .ref (X 2), .ref (X 3), .ref (X 4), .ref (X 5), .ref (X 6), .long S.2.2, .ref (X 8), .ref (X 9), .int (nI (S.1 10 0)), .ref (X 11), .ref (X 12), .ref (X 13), .ref (X 14), .ref (X 15), .ref (X 16), .ref (X 17), .ref (X 18), .ref (X 19), .int (nI (S.1 20 0)), .ref (X 21), .ref (X 22), .ref (X 23), .ref (X 24), .ref (X 25), .ref (X 26), .ref (X 27), .int cz, .ref (X 29)]) (v := .int (nI (S.1 1 0 + 1))) (ty := .int) (C := RX10) (T := TX10) (N := 30) hx hb hts in_X10 tyX10 tyX10_ok nmX10 hown hK hZ ((va_up_ne _ _ (fun q => absurd (hXI 0 6 (by decide) (by decide) q) (by decide))).trans ((va_up_ne _ _ (fun q => absurd (hXI 0 5 (by decide) (by decide) q) (by decide))).trans ((va_up_ne _ _ (fun q => absurd (hXI 0 4 (by decide) (by decide) q) (by decide))).trans ((va_up_ne _ _ (fun q => absurd (hXI 0 3 (by decide) (by decide) q) (by decide))).trans ((va_up_ne _ _ (fun q => absurd (hXI 0 2 (by decide) (by decide) q) (by decide))).trans m0))))) rfl 1 (by decide) fl_83 (fun _ h9 => h9) rfl (by decide +kernel) rfl rfl (Nat.le_of_ble_eq_true rfl) rfl dX10_home_111 (fun H locs hZ => ?_)
            refine lv_aload_n hx hb dX10_home_114 rfl (lv_at hl 0 rfl) ?_
            refine z_get (ci := 10) (fs := [.int (nI (S.1 0 0)), .int (nI (S.1 1 0 + 1)), .ref (X 2), .ref (X 3), .ref (X 4), .ref (X 5), .ref (X 6), .long S.2.2, .ref (X 8), .ref (X 9), .int (nI (S.1 10 0)), .ref (X 11), .ref (X 12), .ref (X 13), .ref (X 14), .ref (X 15), .ref (X 16), .ref (X 17), .ref (X 18), .ref (X 19), .int (nI (S.1 20 0)), .ref (X 21), .ref (X 22), .ref (X 23), .ref (X 24), .ref (X 25), .ref (X 26), .ref (X 27), .int cz, .ref (X 29)]) (C := RX10) (T := TX10) (N := 30) hx hb hts in_X10 hown hK hZ (va_up_self _ _ _) rfl 1 (by decide) fl_83 (fun _ h9 => h9) rfl dX10_home_115 ?_
            refine lv_iconst (v := 1) hx hb dX10_home_118 (by decide) ?_
            refine lv_isub hx hb dX10_home_119 ?_
            rw [nI_pred]
            exact z_iret hx hb hr hlocks hZ dX10_home_120 (by rw [sp_home, if_pos ⟨c6, c15, c25, c36⟩, if_neg c8]; exact ⟨⟨_, _, _, (va_up_self _ _ _), (((va_up_ne _ _ (fun q => absurd (hXI 2 0 (by decide) (by decide) q) (by decide))).trans ((va_up_ne _ _ (fun q => absurd (hXI 2 6 (by decide) (by decide) q) (by decide))).trans ((va_up_ne _ _ (fun q => absurd (hXI 2 5 (by decide) (by decide) q) (by decide))).trans ((va_up_ne _ _ (fun q => absurd (hXI 2 4 (by decide) (by decide) q) (by decide))).trans ((va_up_ne _ _ (fun q => absurd (hXI 2 3 (by decide) (by decide) q) (by decide))).trans (va_up_self _ _ _)))))).trans (congrArg (fun f => some (Sum.inl (cT 0, 8, Sum.inl f))) (cN_sN' S 2 _ c6.1))), (((va_up_ne _ _ (fun q => absurd (hXI 3 0 (by decide) (by decide) q) (by decide))).trans ((va_up_ne _ _ (fun q => absurd (hXI 3 6 (by decide) (by decide) q) (by decide))).trans ((va_up_ne _ _ (fun q => absurd (hXI 3 5 (by decide) (by decide) q) (by decide))).trans ((va_up_ne _ _ (fun q => absurd (hXI 3 4 (by decide) (by decide) q) (by decide))).trans (va_up_self _ _ _))))).trans (congrArg (fun f => some (Sum.inl (cT 0, 8, Sum.inl f))) (cN_sN' S 3 _ c15.1))), (((va_up_ne _ _ (fun q => absurd (hXI 4 0 (by decide) (by decide) q) (by decide))).trans ((va_up_ne _ _ (fun q => absurd (hXI 4 6 (by decide) (by decide) q) (by decide))).trans ((va_up_ne _ _ (fun q => absurd (hXI 4 5 (by decide) (by decide) q) (by decide))).trans (va_up_self _ _ _)))).trans (congrArg (fun f => some (Sum.inl (cT 0, 8, Sum.inl f))) (cN_sN' S 4 _ (z_le01 c25.1)))), (((va_up_ne _ _ (fun q => absurd (hXI 5 0 (by decide) (by decide) q) (by decide))).trans ((va_up_ne _ _ (fun q => absurd (hXI 5 6 (by decide) (by decide) q) (by decide))).trans (va_up_self _ _ _))).trans (congrArg (fun f => some (Sum.inl (cT 0, 8, Sum.inl f))) (cN_sN' S 5 _ c36.1))), (((va_up_ne _ _ (fun q => absurd (hXI 6 0 (by decide) (by decide) q) (by decide))).trans (va_up_self _ _ _)).trans (congrArg (fun f => some (Sum.inl (cT 0, 8, Sum.inl f))) (cG_sG S 6 _ _))), ((va_up_ne _ _ (fun q => absurd (hXI 8 0 (by decide) (by decide) q) (by decide))).trans ((va_up_ne _ _ (fun q => absurd (hXI 8 6 (by decide) (by decide) q) (by decide))).trans ((va_up_ne _ _ (fun q => absurd (hXI 8 5 (by decide) (by decide) q) (by decide))).trans ((va_up_ne _ _ (fun q => absurd (hXI 8 4 (by decide) (by decide) q) (by decide))).trans ((va_up_ne _ _ (fun q => absurd (hXI 8 3 (by decide) (by decide) q) (by decide))).trans ((va_up_ne _ _ (fun q => absurd (hXI 8 2 (by decide) (by decide) q) (by decide))).trans m8)))))), ((va_up_ne _ _ (fun q => absurd (hXI 9 0 (by decide) (by decide) q) (by decide))).trans ((va_up_ne _ _ (fun q => absurd (hXI 9 6 (by decide) (by decide) q) (by decide))).trans ((va_up_ne _ _ (fun q => absurd (hXI 9 5 (by decide) (by decide) q) (by decide))).trans ((va_up_ne _ _ (fun q => absurd (hXI 9 4 (by decide) (by decide) q) (by decide))).trans ((va_up_ne _ _ (fun q => absurd (hXI 9 3 (by decide) (by decide) q) (by decide))).trans ((va_up_ne _ _ (fun q => absurd (hXI 9 2 (by decide) (by decide) q) (by decide))).trans m9)))))), ((va_up_ne _ _ (fun q => absurd (hXI 11 0 (by decide) (by decide) q) (by decide))).trans ((va_up_ne _ _ (fun q => absurd (hXI 11 6 (by decide) (by decide) q) (by decide))).trans ((va_up_ne _ _ (fun q => absurd (hXI 11 5 (by decide) (by decide) q) (by decide))).trans ((va_up_ne _ _ (fun q => absurd (hXI 11 4 (by decide) (by decide) q) (by decide))).trans ((va_up_ne _ _ (fun q => absurd (hXI 11 3 (by decide) (by decide) q) (by decide))).trans ((va_up_ne _ _ (fun q => absurd (hXI 11 2 (by decide) (by decide) q) (by decide))).trans m11)))))), ((va_up_ne _ _ (fun q => absurd (hXI 12 0 (by decide) (by decide) q) (by decide))).trans ((va_up_ne _ _ (fun q => absurd (hXI 12 6 (by decide) (by decide) q) (by decide))).trans ((va_up_ne _ _ (fun q => absurd (hXI 12 5 (by decide) (by decide) q) (by decide))).trans ((va_up_ne _ _ (fun q => absurd (hXI 12 4 (by decide) (by decide) q) (by decide))).trans ((va_up_ne _ _ (fun q => absurd (hXI 12 3 (by decide) (by decide) q) (by decide))).trans ((va_up_ne _ _ (fun q => absurd (hXI 12 2 (by decide) (by decide) q) (by decide))).trans m12)))))), ((va_up_ne _ _ (fun q => absurd (hXI 13 0 (by decide) (by decide) q) (by decide))).trans ((va_up_ne _ _ (fun q => absurd (hXI 13 6 (by decide) (by decide) q) (by decide))).trans ((va_up_ne _ _ (fun q => absurd (hXI 13 5 (by decide) (by decide) q) (by decide))).trans ((va_up_ne _ _ (fun q => absurd (hXI 13 4 (by decide) (by decide) q) (by decide))).trans ((va_up_ne _ _ (fun q => absurd (hXI 13 3 (by decide) (by decide) q) (by decide))).trans ((va_up_ne _ _ (fun q => absurd (hXI 13 2 (by decide) (by decide) q) (by decide))).trans m13)))))), ((va_up_ne _ _ (fun q => absurd (hXI 14 0 (by decide) (by decide) q) (by decide))).trans ((va_up_ne _ _ (fun q => absurd (hXI 14 6 (by decide) (by decide) q) (by decide))).trans ((va_up_ne _ _ (fun q => absurd (hXI 14 5 (by decide) (by decide) q) (by decide))).trans ((va_up_ne _ _ (fun q => absurd (hXI 14 4 (by decide) (by decide) q) (by decide))).trans ((va_up_ne _ _ (fun q => absurd (hXI 14 3 (by decide) (by decide) q) (by decide))).trans ((va_up_ne _ _ (fun q => absurd (hXI 14 2 (by decide) (by decide) q) (by decide))).trans m14)))))), ((va_up_ne _ _ (fun q => absurd (hXI 15 0 (by decide) (by decide) q) (by decide))).trans ((va_up_ne _ _ (fun q => absurd (hXI 15 6 (by decide) (by decide) q) (by decide))).trans ((va_up_ne _ _ (fun q => absurd (hXI 15 5 (by decide) (by decide) q) (by decide))).trans ((va_up_ne _ _ (fun q => absurd (hXI 15 4 (by decide) (by decide) q) (by decide))).trans ((va_up_ne _ _ (fun q => absurd (hXI 15 3 (by decide) (by decide) q) (by decide))).trans ((va_up_ne _ _ (fun q => absurd (hXI 15 2 (by decide) (by decide) q) (by decide))).trans m15)))))), ((va_up_ne _ _ (fun q => absurd (hXI 16 0 (by decide) (by decide) q) (by decide))).trans ((va_up_ne _ _ (fun q => absurd (hXI 16 6 (by decide) (by decide) q) (by decide))).trans ((va_up_ne _ _ (fun q => absurd (hXI 16 5 (by decide) (by decide) q) (by decide))).trans ((va_up_ne _ _ (fun q => absurd (hXI 16 4 (by decide) (by decide) q) (by decide))).trans ((va_up_ne _ _ (fun q => absurd (hXI 16 3 (by decide) (by decide) q) (by decide))).trans ((va_up_ne _ _ (fun q => absurd (hXI 16 2 (by decide) (by decide) q) (by decide))).trans m16)))))), ((va_up_ne _ _ (fun q => absurd (hXI 17 0 (by decide) (by decide) q) (by decide))).trans ((va_up_ne _ _ (fun q => absurd (hXI 17 6 (by decide) (by decide) q) (by decide))).trans ((va_up_ne _ _ (fun q => absurd (hXI 17 5 (by decide) (by decide) q) (by decide))).trans ((va_up_ne _ _ (fun q => absurd (hXI 17 4 (by decide) (by decide) q) (by decide))).trans ((va_up_ne _ _ (fun q => absurd (hXI 17 3 (by decide) (by decide) q) (by decide))).trans ((va_up_ne _ _ (fun q => absurd (hXI 17 2 (by decide) (by decide) q) (by decide))).trans m17)))))), ((va_up_ne _ _ (fun q => absurd (hXI 18 0 (by decide) (by decide) q) (by decide))).trans ((va_up_ne _ _ (fun q => absurd (hXI 18 6 (by decide) (by decide) q) (by decide))).trans ((va_up_ne _ _ (fun q => absurd (hXI 18 5 (by decide) (by decide) q) (by decide))).trans ((va_up_ne _ _ (fun q => absurd (hXI 18 4 (by decide) (by decide) q) (by decide))).trans ((va_up_ne _ _ (fun q => absurd (hXI 18 3 (by decide) (by decide) q) (by decide))).trans ((va_up_ne _ _ (fun q => absurd (hXI 18 2 (by decide) (by decide) q) (by decide))).trans m18)))))), ((va_up_ne _ _ (fun q => absurd (hXI 19 0 (by decide) (by decide) q) (by decide))).trans ((va_up_ne _ _ (fun q => absurd (hXI 19 6 (by decide) (by decide) q) (by decide))).trans ((va_up_ne _ _ (fun q => absurd (hXI 19 5 (by decide) (by decide) q) (by decide))).trans ((va_up_ne _ _ (fun q => absurd (hXI 19 4 (by decide) (by decide) q) (by decide))).trans ((va_up_ne _ _ (fun q => absurd (hXI 19 3 (by decide) (by decide) q) (by decide))).trans ((va_up_ne _ _ (fun q => absurd (hXI 19 2 (by decide) (by decide) q) (by decide))).trans m19)))))), ((va_up_ne _ _ (fun q => absurd (hXI 21 0 (by decide) (by decide) q) (by decide))).trans ((va_up_ne _ _ (fun q => absurd (hXI 21 6 (by decide) (by decide) q) (by decide))).trans ((va_up_ne _ _ (fun q => absurd (hXI 21 5 (by decide) (by decide) q) (by decide))).trans ((va_up_ne _ _ (fun q => absurd (hXI 21 4 (by decide) (by decide) q) (by decide))).trans ((va_up_ne _ _ (fun q => absurd (hXI 21 3 (by decide) (by decide) q) (by decide))).trans ((va_up_ne _ _ (fun q => absurd (hXI 21 2 (by decide) (by decide) q) (by decide))).trans m21)))))), ((va_up_ne _ _ (fun q => absurd (hXI 22 0 (by decide) (by decide) q) (by decide))).trans ((va_up_ne _ _ (fun q => absurd (hXI 22 6 (by decide) (by decide) q) (by decide))).trans ((va_up_ne _ _ (fun q => absurd (hXI 22 5 (by decide) (by decide) q) (by decide))).trans ((va_up_ne _ _ (fun q => absurd (hXI 22 4 (by decide) (by decide) q) (by decide))).trans ((va_up_ne _ _ (fun q => absurd (hXI 22 3 (by decide) (by decide) q) (by decide))).trans ((va_up_ne _ _ (fun q => absurd (hXI 22 2 (by decide) (by decide) q) (by decide))).trans m22)))))), ((va_up_ne _ _ (fun q => absurd (hXI 23 0 (by decide) (by decide) q) (by decide))).trans ((va_up_ne _ _ (fun q => absurd (hXI 23 6 (by decide) (by decide) q) (by decide))).trans ((va_up_ne _ _ (fun q => absurd (hXI 23 5 (by decide) (by decide) q) (by decide))).trans ((va_up_ne _ _ (fun q => absurd (hXI 23 4 (by decide) (by decide) q) (by decide))).trans ((va_up_ne _ _ (fun q => absurd (hXI 23 3 (by decide) (by decide) q) (by decide))).trans ((va_up_ne _ _ (fun q => absurd (hXI 23 2 (by decide) (by decide) q) (by decide))).trans m23)))))), ((va_up_ne _ _ (fun q => absurd (hXI 24 0 (by decide) (by decide) q) (by decide))).trans ((va_up_ne _ _ (fun q => absurd (hXI 24 6 (by decide) (by decide) q) (by decide))).trans ((va_up_ne _ _ (fun q => absurd (hXI 24 5 (by decide) (by decide) q) (by decide))).trans ((va_up_ne _ _ (fun q => absurd (hXI 24 4 (by decide) (by decide) q) (by decide))).trans ((va_up_ne _ _ (fun q => absurd (hXI 24 3 (by decide) (by decide) q) (by decide))).trans ((va_up_ne _ _ (fun q => absurd (hXI 24 2 (by decide) (by decide) q) (by decide))).trans m24)))))), ((va_up_ne _ _ (fun q => absurd (hXI 25 0 (by decide) (by decide) q) (by decide))).trans ((va_up_ne _ _ (fun q => absurd (hXI 25 6 (by decide) (by decide) q) (by decide))).trans ((va_up_ne _ _ (fun q => absurd (hXI 25 5 (by decide) (by decide) q) (by decide))).trans ((va_up_ne _ _ (fun q => absurd (hXI 25 4 (by decide) (by decide) q) (by decide))).trans ((va_up_ne _ _ (fun q => absurd (hXI 25 3 (by decide) (by decide) q) (by decide))).trans ((va_up_ne _ _ (fun q => absurd (hXI 25 2 (by decide) (by decide) q) (by decide))).trans m25)))))), ((va_up_ne _ _ (fun q => absurd (hXI 26 0 (by decide) (by decide) q) (by decide))).trans ((va_up_ne _ _ (fun q => absurd (hXI 26 6 (by decide) (by decide) q) (by decide))).trans ((va_up_ne _ _ (fun q => absurd (hXI 26 5 (by decide) (by decide) q) (by decide))).trans ((va_up_ne _ _ (fun q => absurd (hXI 26 4 (by decide) (by decide) q) (by decide))).trans ((va_up_ne _ _ (fun q => absurd (hXI 26 3 (by decide) (by decide) q) (by decide))).trans ((va_up_ne _ _ (fun q => absurd (hXI 26 2 (by decide) (by decide) q) (by decide))).trans m26)))))), ((va_up_ne _ _ (fun q => absurd (hXI 27 0 (by decide) (by decide) q) (by decide))).trans ((va_up_ne _ _ (fun q => absurd (hXI 27 6 (by decide) (by decide) q) (by decide))).trans ((va_up_ne _ _ (fun q => absurd (hXI 27 5 (by decide) (by decide) q) (by decide))).trans ((va_up_ne _ _ (fun q => absurd (hXI 27 4 (by decide) (by decide) q) (by decide))).trans ((va_up_ne _ _ (fun q => absurd (hXI 27 3 (by decide) (by decide) q) (by decide))).trans ((va_up_ne _ _ (fun q => absurd (hXI 27 2 (by decide) (by decide) q) (by decide))).trans m27)))))), ((va_up_ne _ _ (fun q => absurd (hXI 29 0 (by decide) (by decide) q) (by decide))).trans ((va_up_ne _ _ (fun q => absurd (hXI 29 6 (by decide) (by decide) q) (by decide))).trans ((va_up_ne _ _ (fun q => absurd (hXI 29 5 (by decide) (by decide) q) (by decide))).trans ((va_up_ne _ _ (fun q => absurd (hXI 29 4 (by decide) (by decide) q) (by decide))).trans ((va_up_ne _ _ (fun q => absurd (hXI 29 3 (by decide) (by decide) q) (by decide))).trans ((va_up_ne _ _ (fun q => absurd (hXI 29 2 (by decide) (by decide) q) (by decide))).trans m29))))))⟩, rfl⟩)
          · have c8 : S.1 1 0 = 8 := nI_inj (by omega) (by decide) c47
            refine lv_bipush (v := (-3)) hx hb dX10_home_50 (by decide) ?_
            exact z_iret hx hb hr hlocks hZ dX10_home_52 (mQ_of (by rw [sp_home, if_pos ⟨c6, c15, c25, c36⟩, if_pos c8]) ⟨_, _, _, hM⟩)
        · refine lv_iconst (v := (-1)) hx hb dX10_home_39 (by decide) ?_
          exact z_iret hx hb hr hlocks hZ dX10_home_40 (mQ_of (by rw [sp_home, if_neg (fun h => c36 h.2.2.2)]) ⟨_, _, _, hM⟩)

set_option maxHeartbeats 4000000 in
set_option maxRecDepth 100000 in
theorem c_X10_faults (l : Launch) (D : va_G) (cT : Nat → ClassId) (G : zG) (sz : Nat) (S : zS) (X : Nat → Nat) (cz : Int32) (f27 f29 : Nat → Int32) (nn : Nat) (x n : Int32) (hM : MD cT S X cz f27 f29 G) (hXI : XI X) (hS : ok S nn)  : zM l D cT yX10_faults wsX10_faults (zR 2 0 0) [.ref (X 0), .int x, .int n] G sz (mQ cT X (sp_faults S x n)) := by
  refine z_start (cc := cX10_faults) (maxL := 4) (ret := (some .int)) (by decide) rfl (Nat.le_of_ble_eq_true rfl) ?_
  intro p e s m below meth c ls hI hZ hl
  obtain ⟨hx, hb, hr, hml, hts, hown, hlocks, hname, hK, hA, hE⟩ := hI
  have hl : lv_has ls 4 [(0, .ref (X 0)), (1, .int x), (2, .int n)] := hl
  have hown : s.vm.findClass RX10 = some m.cls := hown
  have in_X10 : ∀ w ∈ u_ws RX10 TX10 30, w ∈ wsX10_faults := by decide +kernel
  have fl_22 := hts (.fieldLink RX10 22 "FairRentsModel" "faults" "[I") (by decide +kernel)
  obtain ⟨m0, m2, m3, m4, m5, m6, m8, m9, m11, m12, m13, m14, m15, m16, m17, m18, m19, m21, m22, m23, m24, m25, m26, m27, m29⟩ := id hM
  obtain ⟨⟨k1, k10, k20, k0⟩, kH, k9, k8, k15, k26, kL, kLn, kP, kE, kEm, kn⟩ := id hS
  refine lv_aload_n hx hb dX10_faults_0 rfl (lv_at hl 0 rfl) ?_
  refine lv_iload_n hx hb dX10_faults_1 rfl (lv_at hl 1 rfl) ?_
  refine z_call (va_runV (As := [.int x]) (rest := []) ⟨hx, hb, hml, hown, hts⟩ (c_X10_isHome l D cT _ _ S X _ _ _ nn x hM hXI hS ) (cwV 1 hts gX10_faults_X10_isHome rfl rfl rfl (by decide +kernel) ⟨(Nat.le_of_ble_eq_true rfl), (Nat.le_of_ble_eq_true rfl)⟩) (z_preV hK hE hZ hA (ci := 10) rfl m0) rfl rfl hl.1 rfl (lv_room (Nat.le_of_ble_eq_true rfl)) dX10_faults_2 ⟨(Nat.le_of_ble_eq_true rfl), (Nat.le_of_ble_eq_true rfl)⟩) hZ hA (fun r G2 H locs hq hZ => ?_)
  obtain ⟨hg, rfl⟩ := hq
  replace hg := hg.symm
  subst hg
  refine W.eq (g2 := F0 m 5 ls [.int (if 0 ≤ x ∧ x ≤ nI (S.1 1 0) - 1 then 1 else 0)]) rfl ?_
  refine zb_eq (tgt := 18) hx hb dX10_faults_5 (by decide) (fun c5 => ?_) (fun c5 => ?_)
  · have hh := hix_no (S := S) c5
    refine lv_iconst (v := (-1)) hx hb dX10_faults_18 (by decide) ?_
    exact z_iret hx hb hr hlocks hZ dX10_faults_19 (mQ_of (by rw [sp_faults, hh]) ⟨_, _, _, hM⟩)
  · obtain ⟨j, hj, hxj, hh⟩ := hix_yes k1 c5
    refine lv_iload_n hx hb dX10_faults_8 rfl (lv_at hl 2 rfl) ?_
    refine lv_iconst (v := 0) hx hb dX10_faults_9 (by decide) ?_
    refine lv_bipush (v := 9) hx hb dX10_faults_10 (by decide) ?_
    refine z_call (va_runS (As := [.int n, .int 0, .int 9]) (rest := []) ⟨hx, hb, hml, hown, hts⟩ (c_X10_in l D cT _ _ n 0 9) (va_cwS 3 hts gX10_faults_X10_in rfl rfl rfl (by decide +kernel) ⟨(Nat.le_of_ble_eq_true rfl), (Nat.le_of_ble_eq_true rfl)⟩) (z_preS hK hE hZ hA) rfl rfl hl.1 rfl (lv_room (Nat.le_of_ble_eq_true rfl)) dX10_faults_12 ⟨(Nat.le_of_ble_eq_true rfl), (Nat.le_of_ble_eq_true rfl)⟩) hZ hA (fun r G12 H locs hq hZ => ?_)
    obtain ⟨hg, rfl⟩ := hq
    replace hg := hg.symm
    subst hg
    refine W.eq (g2 := F0 m 15 ls [.int (if 0 ≤ n ∧ n ≤ 9 then 1 else 0)]) rfl ?_
    refine zb_ne (tgt := 20) hx hb dX10_faults_15 (by decide) (fun c15 => ?_) (fun c15 => ?_)
    · refine lv_aload_n hx hb dX10_faults_20 rfl (lv_at hl 0 rfl) ?_
      refine z_get (ci := 10) (fs := [.int (nI (S.1 0 0)), .int (nI (S.1 1 0)), .ref (X 2), .ref (X 3), .ref (X 4), .ref (X 5), .ref (X 6), .long S.2.2, .ref (X 8), .ref (X 9), .int (nI (S.1 10 0)), .ref (X 11), .ref (X 12), .ref (X 13), .ref (X 14), .ref (X 15), .ref (X 16), .ref (X 17), .ref (X 18), .ref (X 19), .int (nI (S.1 20 0)), .ref (X 21), .ref (X 22), .ref (X 23), .ref (X 24), .ref (X 25), .ref (X 26), .ref (X 27), .int cz, .ref (X 29)]) (C := RX10) (T := TX10) (N := 30) hx hb hts in_X10 hown hK hZ m0 rfl 6 (by decide) fl_22 (fun _ h9 => h9) rfl dX10_faults_21 ?_
      refine lv_iload_n hx hb dX10_faults_24 rfl (lv_at hl 1 rfl) ?_
      refine z_iald hx hb hK hZ m6 j hxj (by omega) (by decide) dX10_faults_25 ?_
      refine lv_istore_n (lv' := [(3, .int (S.2.1 6 j)), (0, .ref (X 0)), (1, .int x), (2, .int n)]) hx hb dX10_faults_26 rfl hl (by decide) rfl (fun ls hl => ?_)
      refine lv_aload_n hx hb dX10_faults_27 rfl (lv_at hl 1 rfl) ?_
      refine z_get (ci := 10) (fs := [.int (nI (S.1 0 0)), .int (nI (S.1 1 0)), .ref (X 2), .ref (X 3), .ref (X 4), .ref (X 5), .ref (X 6), .long S.2.2, .ref (X 8), .ref (X 9), .int (nI (S.1 10 0)), .ref (X 11), .ref (X 12), .ref (X 13), .ref (X 14), .ref (X 15), .ref (X 16), .ref (X 17), .ref (X 18), .ref (X 19), .int (nI (S.1 20 0)), .ref (X 21), .ref (X 22), .ref (X 23), .ref (X 24), .ref (X 25), .ref (X 26), .ref (X 27), .int cz, .ref (X 29)]) (C := RX10) (T := TX10) (N := 30) hx hb hts in_X10 hown hK hZ m0 rfl 6 (by decide) fl_22 (fun _ h9 => h9) rfl dX10_faults_28 ?_
      refine lv_iload_n hx hb dX10_faults_31 rfl (lv_at hl 2 rfl) ?_
      refine lv_iload_n hx hb dX10_faults_32 rfl (lv_at hl 3 rfl) ?_
      refine z_iast hx hb hK hZ m6 j hxj (by omega) (by decide) dX10_faults_33 (fun H locs hZ => ?_)
      refine lv_iload_n hx hb dX10_faults_34 rfl (lv_at hl 0 rfl) ?_
      exact z_iret hx hb hr hlocks hZ dX10_faults_35 (by rw [sp_faults, hh]; simp only []; rw [if_pos c15]; exact ⟨⟨_, _, _, ((va_up_ne _ _ (fun q => absurd (hXI 0 6 (by decide) (by decide) q) (by decide))).trans m0), ((va_up_ne _ _ (fun q => absurd (hXI 2 6 (by decide) (by decide) q) (by decide))).trans m2), ((va_up_ne _ _ (fun q => absurd (hXI 3 6 (by decide) (by decide) q) (by decide))).trans m3), ((va_up_ne _ _ (fun q => absurd (hXI 4 6 (by decide) (by decide) q) (by decide))).trans m4), ((va_up_ne _ _ (fun q => absurd (hXI 5 6 (by decide) (by decide) q) (by decide))).trans m5), ((va_up_self _ _ _).trans (congrArg (fun f => some (Sum.inl (cT 0, 8, Sum.inl f))) (cG_sG S 6 _ _))), ((va_up_ne _ _ (fun q => absurd (hXI 8 6 (by decide) (by decide) q) (by decide))).trans m8), ((va_up_ne _ _ (fun q => absurd (hXI 9 6 (by decide) (by decide) q) (by decide))).trans m9), ((va_up_ne _ _ (fun q => absurd (hXI 11 6 (by decide) (by decide) q) (by decide))).trans m11), ((va_up_ne _ _ (fun q => absurd (hXI 12 6 (by decide) (by decide) q) (by decide))).trans m12), ((va_up_ne _ _ (fun q => absurd (hXI 13 6 (by decide) (by decide) q) (by decide))).trans m13), ((va_up_ne _ _ (fun q => absurd (hXI 14 6 (by decide) (by decide) q) (by decide))).trans m14), ((va_up_ne _ _ (fun q => absurd (hXI 15 6 (by decide) (by decide) q) (by decide))).trans m15), ((va_up_ne _ _ (fun q => absurd (hXI 16 6 (by decide) (by decide) q) (by decide))).trans m16), ((va_up_ne _ _ (fun q => absurd (hXI 17 6 (by decide) (by decide) q) (by decide))).trans m17), ((va_up_ne _ _ (fun q => absurd (hXI 18 6 (by decide) (by decide) q) (by decide))).trans m18), ((va_up_ne _ _ (fun q => absurd (hXI 19 6 (by decide) (by decide) q) (by decide))).trans m19), ((va_up_ne _ _ (fun q => absurd (hXI 21 6 (by decide) (by decide) q) (by decide))).trans m21), ((va_up_ne _ _ (fun q => absurd (hXI 22 6 (by decide) (by decide) q) (by decide))).trans m22), ((va_up_ne _ _ (fun q => absurd (hXI 23 6 (by decide) (by decide) q) (by decide))).trans m23), ((va_up_ne _ _ (fun q => absurd (hXI 24 6 (by decide) (by decide) q) (by decide))).trans m24), ((va_up_ne _ _ (fun q => absurd (hXI 25 6 (by decide) (by decide) q) (by decide))).trans m25), ((va_up_ne _ _ (fun q => absurd (hXI 26 6 (by decide) (by decide) q) (by decide))).trans m26), ((va_up_ne _ _ (fun q => absurd (hXI 27 6 (by decide) (by decide) q) (by decide))).trans m27), ((va_up_ne _ _ (fun q => absurd (hXI 29 6 (by decide) (by decide) q) (by decide))).trans m29)⟩, rfl⟩)
    · refine lv_iconst (v := (-1)) hx hb dX10_faults_18 (by decide) ?_
      exact z_iret hx hb hr hlocks hZ dX10_faults_19 (mQ_of (by rw [sp_faults, hh]; simp only []; rw [if_neg c15]) ⟨_, _, _, hM⟩)

set_option maxHeartbeats 4000000 in
set_option maxRecDepth 100000 in
theorem c_X10_pointsOf (l : Launch) (D : va_G) (cT : Nat → ClassId) (G : zG) (sz : Nat) (S : zS) (X : Nat → Nat) (cz : Int32) (f27 f29 : Nat → Int32) (nn : Nat) (x : Int32) (j : Nat) (hM : MD cT S X cz f27 f29 G) (hXI : XI X) (hS : ok S nn) (hj : j < S.1 1 0) (hxj : x = nI j) : zM l D cT yX10_pointsOf wsX10_pointsOf (zR 0 0 0) [.ref (X 0), .int x] G sz (fun r G' => G' = G ∧ r = some (.int (pts S j))) := by
  refine z_start (cc := cX10_pointsOf) (maxL := 4) (ret := (some .int)) (by decide) rfl (Nat.le_of_ble_eq_true rfl) ?_
  intro p e s m below meth c ls hI hZ hl
  obtain ⟨hx, hb, hr, hml, hts, hown, hlocks, hname, hK, hA, hE⟩ := hI
  have hl : lv_has ls 4 [(0, .ref (X 0)), (1, .int x)] := hl
  have hown : s.vm.findClass RX10 = some m.cls := hown
  have in_X10 : ∀ w ∈ u_ws RX10 TX10 30, w ∈ wsX10_pointsOf := by decide +kernel
  have fl_7 := hts (.fieldLink RX10 7 "FairRentsModel" "kind" "[I") (by decide +kernel)
  have fl_16 := hts (.fieldLink RX10 16 "FairRentsModel" "rooms" "[I") (by decide +kernel)
  have fl_19 := hts (.fieldLink RX10 19 "FairRentsModel" "floor" "[I") (by decide +kernel)
  obtain ⟨m0, m2, m3, m4, m5, m6, m8, m9, m11, m12, m13, m14, m15, m16, m17, m18, m19, m21, m22, m23, m24, m25, m26, m27, m29⟩ := id hM
  obtain ⟨⟨k1, k10, k20, k0⟩, kH, k9, k8, k15, k26, kL, kLn, kP, kE, kEm, kn⟩ := id hS
  obtain ⟨g2, g3, g4a, g4, g5⟩ := kH j hj
  refine lv_bipush (v := 10) hx hb dX10_pointsOf_0 (by decide) ?_
  refine lv_aload_n hx hb dX10_pointsOf_2 rfl (lv_at hl 0 rfl) ?_
  refine z_get (ci := 10) (fs := [.int (nI (S.1 0 0)), .int (nI (S.1 1 0)), .ref (X 2), .ref (X 3), .ref (X 4), .ref (X 5), .ref (X 6), .long S.2.2, .ref (X 8), .ref (X 9), .int (nI (S.1 10 0)), .ref (X 11), .ref (X 12), .ref (X 13), .ref (X 14), .ref (X 15), .ref (X 16), .ref (X 17), .ref (X 18), .ref (X 19), .int (nI (S.1 20 0)), .ref (X 21), .ref (X 22), .ref (X 23), .ref (X 24), .ref (X 25), .ref (X 26), .ref (X 27), .int cz, .ref (X 29)]) (C := RX10) (T := TX10) (N := 30) hx hb hts in_X10 hown hK hZ m0 rfl 4 (by decide) fl_16 (fun _ h9 => h9) rfl dX10_pointsOf_3 ?_
  refine lv_iload_n hx hb dX10_pointsOf_6 rfl (lv_at hl 1 rfl) ?_
  refine z_iald hx hb hK hZ m4 j hxj (by omega) (by decide) dX10_pointsOf_7 ?_
  refine lv_imul hx hb dX10_pointsOf_8 ?_
  refine lv_aload_n hx hb dX10_pointsOf_9 rfl (lv_at hl 0 rfl) ?_
  refine z_get (ci := 10) (fs := [.int (nI (S.1 0 0)), .int (nI (S.1 1 0)), .ref (X 2), .ref (X 3), .ref (X 4), .ref (X 5), .ref (X 6), .long S.2.2, .ref (X 8), .ref (X 9), .int (nI (S.1 10 0)), .ref (X 11), .ref (X 12), .ref (X 13), .ref (X 14), .ref (X 15), .ref (X 16), .ref (X 17), .ref (X 18), .ref (X 19), .int (nI (S.1 20 0)), .ref (X 21), .ref (X 22), .ref (X 23), .ref (X 24), .ref (X 25), .ref (X 26), .ref (X 27), .int cz, .ref (X 29)]) (C := RX10) (T := TX10) (N := 30) hx hb hts in_X10 hown hK hZ m0 rfl 2 (by decide) fl_7 (fun _ h9 => h9) rfl dX10_pointsOf_10 ?_
  refine lv_iload_n hx hb dX10_pointsOf_13 rfl (lv_at hl 1 rfl) ?_
  refine z_iald hx hb hK hZ m2 j hxj (by omega) (by decide) dX10_pointsOf_14 ?_
  refine lv_if_le (tgt := 29) hx hb dX10_pointsOf_15 (by decide) (fun c15 => ?_) (fun c15 => ?_)
  · refine lv_iconst (v := 0) hx hb dX10_pointsOf_29 (by decide) ?_
    refine lv_isub hx hb dX10_pointsOf_30 ?_
    refine lv_istore_n (lv' := [(2, .int ((10 * (nI (S.1 4 j))) - 0)), (0, .ref (X 0)), (1, .int x)]) hx hb dX10_pointsOf_31 rfl hl (by decide) rfl (fun ls hl => ?_)
    refine lv_aload_n hx hb dX10_pointsOf_32 rfl (lv_at hl 1 rfl) ?_
    refine z_get (ci := 10) (fs := [.int (nI (S.1 0 0)), .int (nI (S.1 1 0)), .ref (X 2), .ref (X 3), .ref (X 4), .ref (X 5), .ref (X 6), .long S.2.2, .ref (X 8), .ref (X 9), .int (nI (S.1 10 0)), .ref (X 11), .ref (X 12), .ref (X 13), .ref (X 14), .ref (X 15), .ref (X 16), .ref (X 17), .ref (X 18), .ref (X 19), .int (nI (S.1 20 0)), .ref (X 21), .ref (X 22), .ref (X 23), .ref (X 24), .ref (X 25), .ref (X 26), .ref (X 27), .int cz, .ref (X 29)]) (C := RX10) (T := TX10) (N := 30) hx hb hts in_X10 hown hK hZ m0 rfl 2 (by decide) fl_7 (fun _ h9 => h9) rfl dX10_pointsOf_33 ?_
    refine lv_iload_n hx hb dX10_pointsOf_36 rfl (lv_at hl 2 rfl) ?_
    refine z_iald hx hb hK hZ m2 j hxj (by omega) (by decide) dX10_pointsOf_37 ?_
    refine lv_iconst (v := 2) hx hb dX10_pointsOf_38 (by decide) ?_
    refine lv_icmp_ge (tgt := 44) hx hb dX10_pointsOf_39 (by decide) (fun c39 => ?_) (fun c39 => ?_)
    · refine lv_iload_n hx hb dX10_pointsOf_44 rfl (lv_at hl 0 rfl) ?_
      refine lv_if_lt (tgt := 54) hx hb dX10_pointsOf_45 (by decide) (fun c45 => ?_) (fun c45 => ?_)
      · refine lv_iconst (v := 3) hx hb dX10_pointsOf_54 (by decide) ?_
        refine lv_iload_n hx hb dX10_pointsOf_55 rfl (lv_at hl 0 rfl) ?_
        refine lv_isub hx hb dX10_pointsOf_56 ?_
        refine lv_iconst (v := 4) hx hb dX10_pointsOf_57 (by decide) ?_
        refine lv_idiv hx hb dX10_pointsOf_58 (by decide) ?_
        refine lv_ineg hx hb dX10_pointsOf_59 ?_
        refine lv_istore_n (lv' := [(3, .int (-((3 - ((10 * (nI (S.1 4 j))) - 0)) / 4))), (2, .int ((10 * (nI (S.1 4 j))) - 0)), (0, .ref (X 0)), (1, .int x)]) hx hb dX10_pointsOf_60 rfl hl (by decide) rfl (fun ls hl => ?_)
        refine lv_iload_n hx hb dX10_pointsOf_61 rfl (lv_at hl 1 rfl) ?_
        refine lv_iload_n hx hb dX10_pointsOf_62 rfl (lv_at hl 0 rfl) ?_
        refine lv_isub hx hb dX10_pointsOf_63 ?_
        exact z_iret hx hb hr hlocks hZ dX10_pointsOf_64 (⟨rfl, absurd c15 (pts_x g2 c39)⟩)
      · refine lv_iload_n hx hb dX10_pointsOf_48 rfl (lv_at hl 0 rfl) ?_
        refine lv_iconst (v := 4) hx hb dX10_pointsOf_49 (by decide) ?_
        refine lv_idiv hx hb dX10_pointsOf_50 (by decide) ?_
        refine lv_goto (tgt := 60) hx hb dX10_pointsOf_51 (by decide) ?_
        refine lv_istore_n (lv' := [(3, .int (((10 * (nI (S.1 4 j))) - 0) / 4)), (2, .int ((10 * (nI (S.1 4 j))) - 0)), (0, .ref (X 0)), (1, .int x)]) hx hb dX10_pointsOf_60 rfl hl (by decide) rfl (fun ls hl => ?_)
        refine lv_iload_n hx hb dX10_pointsOf_61 rfl (lv_at hl 1 rfl) ?_
        refine lv_iload_n hx hb dX10_pointsOf_62 rfl (lv_at hl 0 rfl) ?_
        refine lv_isub hx hb dX10_pointsOf_63 ?_
        exact z_iret hx hb hr hlocks hZ dX10_pointsOf_64 (⟨rfl, absurd c15 (pts_x g2 c39)⟩)
    · refine lv_iload_n hx hb dX10_pointsOf_42 rfl (lv_at hl 0 rfl) ?_
      exact z_iret hx hb hr hlocks hZ dX10_pointsOf_43 (⟨rfl, pts_a g2 c39 c15⟩)
  · refine lv_iconst (v := 2) hx hb dX10_pointsOf_18 (by decide) ?_
    refine lv_aload_n hx hb dX10_pointsOf_19 rfl (lv_at hl 0 rfl) ?_
    refine z_get (ci := 10) (fs := [.int (nI (S.1 0 0)), .int (nI (S.1 1 0)), .ref (X 2), .ref (X 3), .ref (X 4), .ref (X 5), .ref (X 6), .long S.2.2, .ref (X 8), .ref (X 9), .int (nI (S.1 10 0)), .ref (X 11), .ref (X 12), .ref (X 13), .ref (X 14), .ref (X 15), .ref (X 16), .ref (X 17), .ref (X 18), .ref (X 19), .int (nI (S.1 20 0)), .ref (X 21), .ref (X 22), .ref (X 23), .ref (X 24), .ref (X 25), .ref (X 26), .ref (X 27), .int cz, .ref (X 29)]) (C := RX10) (T := TX10) (N := 30) hx hb hts in_X10 hown hK hZ m0 rfl 5 (by decide) fl_19 (fun _ h9 => h9) rfl dX10_pointsOf_20 ?_
    refine lv_iload_n hx hb dX10_pointsOf_23 rfl (lv_at hl 1 rfl) ?_
    refine z_iald hx hb hK hZ m5 j hxj (by omega) (by decide) dX10_pointsOf_24 ?_
    refine lv_imul hx hb dX10_pointsOf_25 ?_
    refine lv_goto (tgt := 30) hx hb dX10_pointsOf_26 (by decide) ?_
    refine lv_isub hx hb dX10_pointsOf_30 ?_
    refine lv_istore_n (lv' := [(2, .int ((10 * (nI (S.1 4 j))) - (2 * (nI (S.1 5 j))))), (0, .ref (X 0)), (1, .int x)]) hx hb dX10_pointsOf_31 rfl hl (by decide) rfl (fun ls hl => ?_)
    refine lv_aload_n hx hb dX10_pointsOf_32 rfl (lv_at hl 1 rfl) ?_
    refine z_get (ci := 10) (fs := [.int (nI (S.1 0 0)), .int (nI (S.1 1 0)), .ref (X 2), .ref (X 3), .ref (X 4), .ref (X 5), .ref (X 6), .long S.2.2, .ref (X 8), .ref (X 9), .int (nI (S.1 10 0)), .ref (X 11), .ref (X 12), .ref (X 13), .ref (X 14), .ref (X 15), .ref (X 16), .ref (X 17), .ref (X 18), .ref (X 19), .int (nI (S.1 20 0)), .ref (X 21), .ref (X 22), .ref (X 23), .ref (X 24), .ref (X 25), .ref (X 26), .ref (X 27), .int cz, .ref (X 29)]) (C := RX10) (T := TX10) (N := 30) hx hb hts in_X10 hown hK hZ m0 rfl 2 (by decide) fl_7 (fun _ h9 => h9) rfl dX10_pointsOf_33 ?_
    refine lv_iload_n hx hb dX10_pointsOf_36 rfl (lv_at hl 2 rfl) ?_
    refine z_iald hx hb hK hZ m2 j hxj (by omega) (by decide) dX10_pointsOf_37 ?_
    refine lv_iconst (v := 2) hx hb dX10_pointsOf_38 (by decide) ?_
    refine lv_icmp_ge (tgt := 44) hx hb dX10_pointsOf_39 (by decide) (fun c39 => ?_) (fun c39 => ?_)
    · refine lv_iload_n hx hb dX10_pointsOf_44 rfl (lv_at hl 0 rfl) ?_
      refine lv_if_lt (tgt := 54) hx hb dX10_pointsOf_45 (by decide) (fun c45 => ?_) (fun c45 => ?_)
      · refine lv_iconst (v := 3) hx hb dX10_pointsOf_54 (by decide) ?_
        refine lv_iload_n hx hb dX10_pointsOf_55 rfl (lv_at hl 0 rfl) ?_
        refine lv_isub hx hb dX10_pointsOf_56 ?_
        refine lv_iconst (v := 4) hx hb dX10_pointsOf_57 (by decide) ?_
        refine lv_idiv hx hb dX10_pointsOf_58 (by decide) ?_
        refine lv_ineg hx hb dX10_pointsOf_59 ?_
        refine lv_istore_n (lv' := [(3, .int (-((3 - ((10 * (nI (S.1 4 j))) - (2 * (nI (S.1 5 j))))) / 4))), (2, .int ((10 * (nI (S.1 4 j))) - (2 * (nI (S.1 5 j))))), (0, .ref (X 0)), (1, .int x)]) hx hb dX10_pointsOf_60 rfl hl (by decide) rfl (fun ls hl => ?_)
        refine lv_iload_n hx hb dX10_pointsOf_61 rfl (lv_at hl 1 rfl) ?_
        refine lv_iload_n hx hb dX10_pointsOf_62 rfl (lv_at hl 0 rfl) ?_
        refine lv_isub hx hb dX10_pointsOf_63 ?_
        exact z_iret hx hb hr hlocks hZ dX10_pointsOf_64 (⟨rfl, pts_c g2 g4 g5 c39 c45⟩)
      · refine lv_iload_n hx hb dX10_pointsOf_48 rfl (lv_at hl 0 rfl) ?_
        refine lv_iconst (v := 4) hx hb dX10_pointsOf_49 (by decide) ?_
        refine lv_idiv hx hb dX10_pointsOf_50 (by decide) ?_
        refine lv_goto (tgt := 60) hx hb dX10_pointsOf_51 (by decide) ?_
        refine lv_istore_n (lv' := [(3, .int (((10 * (nI (S.1 4 j))) - (2 * (nI (S.1 5 j)))) / 4)), (2, .int ((10 * (nI (S.1 4 j))) - (2 * (nI (S.1 5 j))))), (0, .ref (X 0)), (1, .int x)]) hx hb dX10_pointsOf_60 rfl hl (by decide) rfl (fun ls hl => ?_)
        refine lv_iload_n hx hb dX10_pointsOf_61 rfl (lv_at hl 1 rfl) ?_
        refine lv_iload_n hx hb dX10_pointsOf_62 rfl (lv_at hl 0 rfl) ?_
        refine lv_isub hx hb dX10_pointsOf_63 ?_
        exact z_iret hx hb hr hlocks hZ dX10_pointsOf_64 (⟨rfl, pts_d g2 g4 g5 c39 c45⟩)
    · refine lv_iload_n hx hb dX10_pointsOf_42 rfl (lv_at hl 0 rfl) ?_
      exact z_iret hx hb hr hlocks hZ dX10_pointsOf_43 (⟨rfl, pts_b g2 c39 c15⟩)

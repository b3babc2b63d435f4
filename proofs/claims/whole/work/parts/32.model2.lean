set_option maxHeartbeats 4000000 in
set_option maxRecDepth 100000 in
theorem c_X10_points (l : Launch) (D : va_G) (cT : Nat → ClassId) (G : zG) (sz : Nat) (S : zS) (X : Nat → Nat) (cz : Int32) (f27 f29 : Nat → Int32) (nn : Nat) (x : Int32) (hM : MD cT S X cz f27 f29 G) (hXI : XI X) (hS : ok S nn)  : zM l D cT yX10_points wsX10_points (zR 2 0 0) [.ref (X 0), .int x] G sz (mQ cT X (sp_points S x)) := by
  refine z_start (cc := cX10_points) (maxL := 2) (ret := (some .int)) (by decide) rfl (Nat.le_of_ble_eq_true rfl) ?_
  intro p e s m below meth c ls hI hZ hl
  obtain ⟨hx, hb, hr, hml, hts, hown, hlocks, hname, hK, hA, hE⟩ := hI
  have hl : lv_has ls 2 [(0, .ref (X 0)), (1, .int x)] := hl
  have hown : s.vm.findClass RX10 = some m.cls := hown
  have in_X10 : ∀ w ∈ u_ws RX10 TX10 30, w ∈ wsX10_points := by decide +kernel
  have fl_7 := hts (.fieldLink RX10 7 "FairRentsModel" "kind" "[I") (by decide +kernel)
  have fl_95 := hts (.fieldLink RX10 95 "FairRentsModel" "trace" "J") (by decide +kernel)
  obtain ⟨m0, m2, m3, m4, m5, m6, m8, m9, m11, m12, m13, m14, m15, m16, m17, m18, m19, m21, m22, m23, m24, m25, m26, m27, m29⟩ := id hM
  obtain ⟨⟨k1, k10, k20, k0⟩, kH, k9, k8, k15, k26, kL, kLn, kP, kE, kEm, kn⟩ := id hS
  refine lv_aload_n hx hb dX10_points_0 rfl (lv_at hl 0 rfl) ?_
  refine lv_iload_n hx hb dX10_points_1 rfl (lv_at hl 1 rfl) ?_
  refine z_call (va_runV (As := [.int x]) (rest := []) ⟨hx, hb, hml, hown, hts⟩ (c_X10_isHome l D cT _ _ S X _ _ _ nn x hM hXI hS ) (cwV 1 hts gX10_points_X10_isHome rfl rfl rfl (by decide +kernel) ⟨(Nat.le_of_ble_eq_true rfl), (Nat.le_of_ble_eq_true rfl)⟩) (z_preV hK hE hZ hA (ci := 10) rfl m0) rfl rfl hl.1 rfl (lv_room (Nat.le_of_ble_eq_true rfl)) dX10_points_2 ⟨(Nat.le_of_ble_eq_true rfl), (Nat.le_of_ble_eq_true rfl)⟩) hZ hA (fun r G2 H locs hq hZ => ?_)
  obtain ⟨hg, rfl⟩ := hq
  replace hg := hg.symm
  subst hg
  refine W.eq (g2 := F0 m 5 ls [.int (if 0 ≤ x ∧ x ≤ nI (S.1 1 0) - 1 then 1 else 0)]) rfl ?_
  refine zb_ne (tgt := 10) hx hb dX10_points_5 (by decide) (fun c5 => ?_) (fun c5 => ?_)
  · obtain ⟨j, hj, hxj, hh⟩ := hix_yes k1 c5
    refine lv_aload_n hx hb dX10_points_10 rfl (lv_at hl 0 rfl) ?_
    refine lv_dup hx hb dX10_points_11 rfl ?_
    refine z_get (ci := 10) (fs := [.int (nI (S.1 0 0)), .int (nI (S.1 1 0)), .ref (X 2), .ref (X 3), .ref (X 4), .ref (X 5), .ref (X 6), .long S.2.2, .ref (X 8), .ref (X 9), .int (nI (S.1 10 0)), .ref (X 11), .ref (X 12), .ref (X 13), .ref (X 14), .ref (X 15), .ref (X 16), .ref (X 17), .ref (X 18), .ref (X 19), .int (nI (S.1 20 0)), .ref (X 21), .ref (X 22), .ref (X 23), .ref (X 24), .ref (X 25), .ref (X 26), .ref (X 27), .int cz, .ref (X 29)]) (C := RX10) (T := TX10) (N := 30) hx hb hts in_X10 hown hK hZ m0 rfl 7 (by decide) fl_95 (fun _ h9 => h9) rfl dX10_points_12 ?_
    refine lv_aload_n hx hb dX10_points_15 rfl (lv_at hl 0 rfl) ?_
    refine z_get (ci := 10) (fs := [.int (nI (S.1 0 0)), .int (nI (S.1 1 0)), .ref (X 2), .ref (X 3), .ref (X 4), .ref (X 5), .ref (X 6), .long S.2.2, .ref (X 8), .ref (X 9), .int (nI (S.1 10 0)), .ref (X 11), .ref (X 12), .ref (X 13), .ref (X 14), .ref (X 15), .ref (X 16), .ref (X 17), .ref (X 18), .ref (X 19), .int (nI (S.1 20 0)), .ref (X 21), .ref (X 22), .ref (X 23), .ref (X 24), .ref (X 25), .ref (X 26), .ref (X 27), .int cz, .ref (X 29)]) (C := RX10) (T := TX10) (N := 30) hx hb hts in_X10 hown hK hZ m0 rfl 2 (by decide) fl_7 (fun _ h9 => h9) rfl dX10_points_16 ?_
    refine lv_iload_n hx hb dX10_points_19 rfl (lv_at hl 1 rfl) ?_
    refine z_iald hx hb hK hZ m2 j hxj (by omega) (by decide) dX10_points_20 ?_
    refine lv_if_ne (tgt := 28) hx hb dX10_points_21 (by decide) (fun c21 => ?_) (fun c21 => ?_)
    · refine lv_aload_n hx hb dX10_points_28 rfl (lv_at hl 0 rfl) ?_
      refine z_get (ci := 10) (fs := [.int (nI (S.1 0 0)), .int (nI (S.1 1 0)), .ref (X 2), .ref (X 3), .ref (X 4), .ref (X 5), .ref (X 6), .long S.2.2, .ref (X 8), .ref (X 9), .int (nI (S.1 10 0)), .ref (X 11), .ref (X 12), .ref (X 13), .ref (X 14), .ref (X 15), .ref (X 16), .ref (X 17), .ref (X 18), .ref (X 19), .int (nI (S.1 20 0)), .ref (X 21), .ref (X 22), .ref (X 23), .ref (X 24), .ref (X 25), .ref (X 26), .ref (X 27), .int cz, .ref (X 29)]) (C := RX10) (T := TX10) (N := 30) hx hb hts in_X10 hown hK hZ m0 rfl 2 (by decide) fl_7 (fun _ h9 => h9) rfl dX10_points_29 ?_
      refine lv_iload_n hx hb dX10_points_32 rfl (lv_at hl 1 rfl) ?_
      refine z_iald hx hb hK hZ m2 j hxj (by omega) (by decide) dX10_points_33 ?_
      refine lv_iconst (v := 1) hx hb dX10_points_34 (by decide) ?_
      refine lv_icmp_ne (tgt := 44) hx hb dX10_points_35 (by decide) (fun c35 => ?_) (fun c35 => ?_)
      · refine lv_ldc2 (v := 111) hx hb hown (hts (.constantLong RX10 101 111) (by decide +kernel)) dX10_points_44 ?_
        refine lv_ladd hx hb dX10_points_47 ?_
        refine z_put (ci := 10) (fs := [.int (nI (S.1 0 0)), .int (nI (S.1 1 0)), .ref (X 2), .ref (X 3), .ref (X 4), .ref (X 5), .ref (X 6), .long S.2.2, .ref (X 8), .ref (X 9), .int (nI (S.1 10 0)), .ref (X 11), .ref (X 12), .ref (X 13), .ref (X 14), .ref (X 15), .ref (X 16), .ref (X 17), .ref (X 18), .ref (X 19), .int (nI (S.1 20 0)), .ref (X 21), .ref (X 22), .ref (X 23), .ref (X 24), .ref (X 25), .ref (X 26), .ref (X 27), .int cz, .ref (X 29)]) (fs' := [.int (nI (S.1 0 0)), .int (nI (S.1 1 0)), .ref (X 2), .ref (X 3), .ref (X 4), .ref (X 5), .ref (X 6), .long (S.2.2 + 111), .ref (X 8), .ref (X 9), .int (nI (S.1 10 0)), .ref (X 11), .ref (X 12), .ref (X 13), .ref (X 14), .ref (X 15), .ref (X 16), .ref (X 17), .ref (X 18), .ref (X 19), .int (nI (S.1 20 0)), .ref (X 21), .ref (X 22), .ref (X 23), .ref (X 24), .ref (X 25), .ref (X 26), .ref (X 27), .int cz, .ref (X 29)]) (v := .long (S.2.2 + 111)) (ty := .long) (C := RX10) (T := TX10) (N := 30) hx hb hts in_X10 tyX10 tyX10_ok nmX10 hown hK hZ m0 rfl 7 (by decide) fl_95 (fun _ h9 => h9) rfl (by decide +kernel) rfl rfl (Nat.le_of_ble_eq_true rfl) rfl dX10_points_48 (fun H locs hZ => ?_)
        refine lv_aload_n hx hb dX10_points_51 rfl (lv_at hl 0 rfl) ?_
        refine lv_iload_n hx hb dX10_points_52 rfl (lv_at hl 1 rfl) ?_
        refine z_call (va_runV (As := [.int x]) (rest := []) ⟨hx, hb, hml, hown, hts⟩ (c_X10_pointsOf l D cT _ _ (sT S (S.2.2 + 111)) X cz f27 f29 nn x j ⟨(va_up_self _ _ _), ((va_up_ne _ _ (fun q => absurd (hXI 2 0 (by decide) (by decide) q) (by decide))).trans m2), ((va_up_ne _ _ (fun q => absurd (hXI 3 0 (by decide) (by decide) q) (by decide))).trans m3), ((va_up_ne _ _ (fun q => absurd (hXI 4 0 (by decide) (by decide) q) (by decide))).trans m4), ((va_up_ne _ _ (fun q => absurd (hXI 5 0 (by decide) (by decide) q) (by decide))).trans m5), ((va_up_ne _ _ (fun q => absurd (hXI 6 0 (by decide) (by decide) q) (by decide))).trans m6), ((va_up_ne _ _ (fun q => absurd (hXI 8 0 (by decide) (by decide) q) (by decide))).trans m8), ((va_up_ne _ _ (fun q => absurd (hXI 9 0 (by decide) (by decide) q) (by decide))).trans m9), ((va_up_ne _ _ (fun q => absurd (hXI 11 0 (by decide) (by decide) q) (by decide))).trans m11), ((va_up_ne _ _ (fun q => absurd (hXI 12 0 (by decide) (by decide) q) (by decide))).trans m12), ((va_up_ne _ _ (fun q => absurd (hXI 13 0 (by decide) (by decide) q) (by decide))).trans m13), ((va_up_ne _ _ (fun q => absurd (hXI 14 0 (by decide) (by decide) q) (by decide))).trans m14), ((va_up_ne _ _ (fun q => absurd (hXI 15 0 (by decide) (by decide) q) (by decide))).trans m15), ((va_up_ne _ _ (fun q => absurd (hXI 16 0 (by decide) (by decide) q) (by decide))).trans m16), ((va_up_ne _ _ (fun q => absurd (hXI 17 0 (by decide) (by decide) q) (by decide))).trans m17), ((va_up_ne _ _ (fun q => absurd (hXI 18 0 (by decide) (by decide) q) (by decide))).trans m18), ((va_up_ne _ _ (fun q => absurd (hXI 19 0 (by decide) (by decide) q) (by decide))).trans m19), ((va_up_ne _ _ (fun q => absurd (hXI 21 0 (by decide) (by decide) q) (by decide))).trans m21), ((va_up_ne _ _ (fun q => absurd (hXI 22 0 (by decide) (by decide) q) (by decide))).trans m22), ((va_up_ne _ _ (fun q => absurd (hXI 23 0 (by decide) (by decide) q) (by decide))).trans m23), ((va_up_ne _ _ (fun q => absurd (hXI 24 0 (by decide) (by decide) q) (by decide))).trans m24), ((va_up_ne _ _ (fun q => absurd (hXI 25 0 (by decide) (by decide) q) (by decide))).trans m25), ((va_up_ne _ _ (fun q => absurd (hXI 26 0 (by decide) (by decide) q) (by decide))).trans m26), ((va_up_ne _ _ (fun q => absurd (hXI 27 0 (by decide) (by decide) q) (by decide))).trans m27), ((va_up_ne _ _ (fun q => absurd (hXI 29 0 (by decide) (by decide) q) (by decide))).trans m29)⟩ hXI hS hj hxj) (cwV 1 hts gX10_points_X10_pointsOf rfl rfl rfl (by decide +kernel) ⟨(Nat.le_of_ble_eq_true rfl), (Nat.le_of_ble_eq_true rfl)⟩) (z_preV hK hE hZ hA (ci := 10) rfl (va_up_self _ _ _)) rfl rfl hl.1 rfl (lv_room (Nat.le_of_ble_eq_true rfl)) dX10_points_53 ⟨(Nat.le_of_ble_eq_true rfl), (Nat.le_of_ble_eq_true rfl)⟩) hZ hA (fun r G53 H locs hq hZ => ?_)
        obtain ⟨hg, rfl⟩ := hq
        replace hg := hg.symm
        subst hg
        refine W.eq (g2 := F0 m 56 ls [.int (pts S j)]) rfl ?_
        exact z_iret hx hb hr hlocks hZ dX10_points_56 (by rw [sp_points, hh]; simp only []; rw [mks_2 (kH j hj).1 c21 c35]; exact ⟨⟨_, _, _, (va_up_self _ _ _), ((va_up_ne _ _ (fun q => absurd (hXI 2 0 (by decide) (by decide) q) (by decide))).trans m2), ((va_up_ne _ _ (fun q => absurd (hXI 3 0 (by decide) (by decide) q) (by decide))).trans m3), ((va_up_ne _ _ (fun q => absurd (hXI 4 0 (by decide) (by decide) q) (by decide))).trans m4), ((va_up_ne _ _ (fun q => absurd (hXI 5 0 (by decide) (by decide) q) (by decide))).trans m5), ((va_up_ne _ _ (fun q => absurd (hXI 6 0 (by decide) (by decide) q) (by decide))).trans m6), ((va_up_ne _ _ (fun q => absurd (hXI 8 0 (by decide) (by decide) q) (by decide))).trans m8), ((va_up_ne _ _ (fun q => absurd (hXI 9 0 (by decide) (by decide) q) (by decide))).trans m9), ((va_up_ne _ _ (fun q => absurd (hXI 11 0 (by decide) (by decide) q) (by decide))).trans m11), ((va_up_ne _ _ (fun q => absurd (hXI 12 0 (by decide) (by decide) q) (by decide))).trans m12), ((va_up_ne _ _ (fun q => absurd (hXI 13 0 (by decide) (by decide) q) (by decide))).trans m13), ((va_up_ne _ _ (fun q => absurd (hXI 14 0 (by decide) (by decide) q) (by decide))).trans m14), ((va_up_ne _ _ (fun q => absurd (hXI 15 0 (by decide) (by decide) q) (by decide))).trans m15), ((va_up_ne _ _ (fun q => absurd (hXI 16 0 (by decide) (by decide) q) (by decide))).trans m16), ((va_up_ne _ _ (fun q => absurd (hXI 17 0 (by decide) (by decide) q) (by decide))).trans m17), ((va_up_ne _ _ (fun q => absurd (hXI 18 0 (by decide) (by decide) q) (by decide))).trans m18), ((va_up_ne _ _ (fun q => absurd (hXI 19 0 (by decide) (by decide) q) (by decide))).trans m19), ((va_up_ne _ _ (fun q => absurd (hXI 21 0 (by decide) (by decide) q) (by decide))).trans m21), ((va_up_ne _ _ (fun q => absurd (hXI 22 0 (by decide) (by decide) q) (by decide))).trans m22), ((va_up_ne _ _ (fun q => absurd (hXI 23 0 (by decide) (by decide) q) (by decide))).trans m23), ((va_up_ne _ _ (fun q => absurd (hXI 24 0 (by decide) (by decide) q) (by decide))).trans m24), ((va_up_ne _ _ (fun q => absurd (hXI 25 0 (by decide) (by decide) q) (by decide))).trans m25), ((va_up_ne _ _ (fun q => absurd (hXI 26 0 (by decide) (by decide) q) (by decide))).trans m26), ((va_up_ne _ _ (fun q => absurd (hXI 27 0 (by decide) (by decide) q) (by decide))).trans m27), ((va_up_ne _ _ (fun q => absurd (hXI 29 0 (by decide) (by decide) q) (by decide))).trans m29)⟩, rfl⟩)
      · refine lv_ldc2 (v := 11) hx hb hown (hts (.constantLong RX10 99 11) (by decide +kernel)) dX10_points_38 ?_
        refine lv_goto (tgt := 47) hx hb dX10_points_41 (by decide) ?_
        refine lv_ladd hx hb dX10_points_47 ?_
        refine z_put (ci := 10) (fs := [.int (nI (S.1 0 0)), .int (nI (S.1 1 0)), .ref (X 2), .ref (X 3), .ref (X 4), .ref (X 5), .ref (X 6), .long S.2.2, .ref (X 8), .ref (X 9), .int (nI (S.1 10 0)), .ref (X 11), .ref (X 12), .ref (X 13), .ref (X 14), .ref (X 15), .ref (X 16), .ref (X 17), .ref (X 18), .ref (X 19), .int (nI (S.1 20 0)), .ref (X 21), .ref (X 22), .ref (X 23), .ref (X 24), .ref (X 25), .ref (X 26), .ref (X 27), .int cz, .ref (X 29)]) (fs' := [.int (nI (S.1 0 0)), .int (nI (S.1 1 0)), .ref (X 2), .ref (X 3), .ref (X 4), .ref (X 5), .ref (X 6), .long (S.2.2 + 11), .ref (X 8), .ref (X 9), .int (nI (S.1 10 0)), .ref (X 11), .ref (X 12), .ref (X 13), .ref (X 14), .ref (X 15), .ref (X 16), .ref (X 17), .ref (X 18), .ref (X 19), .int (nI (S.1 20 0)), .ref (X 21), .ref (X 22), .ref (X 23), .ref (X 24), .ref (X 25), .ref (X 26), .ref (X 27), .int cz, .ref (X 29)]) (v := .long (S.2.2 + 11)) (ty := .long) (C := RX10) (T := TX10) (N := 30) hx hb hts in_X10 tyX10 tyX10_ok nmX10 hown hK hZ m0 rfl 7 (by decide) fl_95 (fun _ h9 => h9) rfl (by decide +kernel) rfl rfl (Nat.le_of_ble_eq_true rfl) rfl dX10_points_48 (fun H locs hZ => ?_)
        refine lv_aload_n hx hb dX10_points_51 rfl (lv_at hl 0 rfl) ?_
        refine lv_iload_n hx hb dX10_points_52 rfl (lv_at hl 1 rfl) ?_
        refine z_call (va_runV (As := [.int x]) (rest := []) ⟨hx, hb, hml, hown, hts⟩ (c_X10_pointsOf l D cT _ _ (sT S (S.2.2 + 11)) X cz f27 f29 nn x j ⟨(va_up_self _ _ _), ((va_up_ne _ _ (fun q => absurd (hXI 2 0 (by decide) (by decide) q) (by decide))).trans m2), ((va_up_ne _ _ (fun q => absurd (hXI 3 0 (by decide) (by decide) q) (by decide))).trans m3), ((va_up_ne _ _ (fun q => absurd (hXI 4 0 (by decide) (by decide) q) (by decide))).trans m4), ((va_up_ne _ _ (fun q => absurd (hXI 5 0 (by decide) (by decide) q) (by decide))).trans m5), ((va_up_ne _ _ (fun q => absurd (hXI 6 0 (by decide) (by decide) q) (by decide))).trans m6), ((va_up_ne _ _ (fun q => absurd (hXI 8 0 (by decide) (by decide) q) (by decide))).trans m8), ((va_up_ne _ _ (fun q => absurd (hXI 9 0 (by decide) (by decide) q) (by decide))).trans m9), ((va_up_ne _ _ (fun q => absurd (hXI 11 0 (by decide) (by decide) q) (by decide))).trans m11), ((va_up_ne _ _ (fun q => absurd (hXI 12 0 (by decide) (by decide) q) (by decide))).trans m12), ((va_up_ne _ _ (fun q => absurd (hXI 13 0 (by decide) (by decide) q) (by decide))).trans m13), ((va_up_ne _ _ (fun q => absurd (hXI 14 0 (by decide) (by decide) q) (by decide))).trans m14), ((va_up_ne _ _ (fun q => absurd (hXI 15 0 (by decide) (by decide) q) (by decide))).trans m15), ((va_up_ne _ _ (fun q => absurd (hXI 16 0 (by decide) (by decide) q) (by decide))).trans m16), ((va_up_ne _ _ (fun q => absurd (hXI 17 0 (by decide) (by decide) q) (by decide))).trans m17), ((va_up_ne _ _ (fun q => absurd (hXI 18 0 (by decide) (by decide) q) (by decide))).trans m18), ((va_up_ne _ _ (fun q => absurd (hXI 19 0 (by decide) (by decide) q) (by decide))).trans m19), ((va_up_ne _ _ (fun q => absurd (hXI 21 0 (by decide) (by decide) q) (by decide))).trans m21), ((va_up_ne _ _ (fun q => absurd (hXI 22 0 (by decide) (by decide) q) (by decide))).trans m22), ((va_up_ne _ _ (fun q => absurd (hXI 23 0 (by decide) (by decide) q) (by decide))).trans m23), ((va_up_ne _ _ (fun q => absurd (hXI 24 0 (by decide) (by decide) q) (by decide))).trans m24), ((va_up_ne _ _ (fun q => absurd (hXI 25 0 (by decide) (by decide) q) (by decide))).trans m25), ((va_up_ne _ _ (fun q => absurd (hXI 26 0 (by decide) (by decide) q) (by decide))).trans m26), ((va_up_ne _ _ (fun q => absurd (hXI 27 0 (by decide) (by decide) q) (by decide))).trans m27), ((va_up_ne _ _ (fun q => absurd (hXI 29 0 (by decide) (by decide) q) (by decide))).trans m29)⟩ hXI hS hj hxj) (cwV 1 hts gX10_points_X10_pointsOf rfl rfl rfl (by decide +kernel) ⟨(Nat.le_of_ble_eq_true rfl), (Nat.le_of_ble_eq_true rfl)⟩) (z_preV hK hE hZ hA (ci := 10) rfl (va_up_self _ _ _)) rfl rfl hl.1 rfl (lv_room (Nat.le_of_ble_eq_true rfl)) dX10_points_53 ⟨(Nat.le_of_ble_eq_true rfl), (Nat.le_of_ble_eq_true rfl)⟩) hZ hA (fun r G53 H locs hq hZ => ?_)
        obtain ⟨hg, rfl⟩ := hq
        replace hg := hg.symm
        subst hg
        refine W.eq (g2 := F0 m 56 ls [.int (pts S j)]) rfl ?_
        exact z_iret hx hb hr hlocks hZ dX10_points_56 (by rw [sp_points, hh]; simp only []; rw [mks_1 (kH j hj).1 c35]; exact ⟨⟨_, _, _, (va_up_self _ _ _), ((va_up_ne _ _ (fun q => absurd (hXI 2 0 (by decide) (by decide) q) (by decide))).trans m2), ((va_up_ne _ _ (fun q => absurd (hXI 3 0 (by decide) (by decide) q) (by decide))).trans m3), ((va_up_ne _ _ (fun q => absurd (hXI 4 0 (by decide) (by decide) q) (by decide))).trans m4), ((va_up_ne _ _ (fun q => absurd (hXI 5 0 (by decide) (by decide) q) (by decide))).trans m5), ((va_up_ne _ _ (fun q => absurd (hXI 6 0 (by decide) (by decide) q) (by decide))).trans m6), ((va_up_ne _ _ (fun q => absurd (hXI 8 0 (by decide) (by decide) q) (by decide))).trans m8), ((va_up_ne _ _ (fun q => absurd (hXI 9 0 (by decide) (by decide) q) (by decide))).trans m9), ((va_up_ne _ _ (fun q => absurd (hXI 11 0 (by decide) (by decide) q) (by decide))).trans m11), ((va_up_ne _ _ (fun q => absurd (hXI 12 0 (by decide) (by decide) q) (by decide))).trans m12), ((va_up_ne _ _ (fun q => absurd (hXI 13 0 (by decide) (by decide) q) (by decide))).trans m13), ((va_up_ne _ _ (fun q => absurd (hXI 14 0 (by decide) (by decide) q) (by decide))).trans m14), ((va_up_ne _ _ (fun q => absurd (hXI 15 0 (by decide) (by decide) q) (by decide))).trans m15), ((va_up_ne _ _ (fun q => absurd (hXI 16 0 (by decide) (by decide) q) (by decide))).trans m16), ((va_up_ne _ _ (fun q => absurd (hXI 17 0 (by decide) (by decide) q) (by decide))).trans m17), ((va_up_ne _ _ (fun q => absurd (hXI 18 0 (by decide) (by decide) q) (by decide))).trans m18), ((va_up_ne _ _ (fun q => absurd (hXI 19 0 (by decide) (by decide) q) (by decide))).trans m19), ((va_up_ne _ _ (fun q => absurd (hXI 21 0 (by decide) (by decide) q) (by decide))).trans m21), ((va_up_ne _ _ (fun q => absurd (hXI 22 0 (by decide) (by decide) q) (by decide))).trans m22), ((va_up_ne _ _ (fun q => absurd (hXI 23 0 (by decide) (by decide) q) (by decide))).trans m23), ((va_up_ne _ _ (fun q => absurd (hXI 24 0 (by decide) (by decide) q) (by decide))).trans m24), ((va_up_ne _ _ (fun q => absurd (hXI 25 0 (by decide) (by decide) q) (by decide))).trans m25), ((va_up_ne _ _ (fun q => absurd (hXI 26 0 (by decide) (by decide) q) (by decide))).trans m26), ((va_up_ne _ _ (fun q => absurd (hXI 27 0 (by decide) (by decide) q) (by decide))).trans m27), ((va_up_ne _ _ (fun q => absurd (hXI 29 0 (by decide) (by decide) q) (by decide))).trans m29)⟩, rfl⟩)
    · refine lv_lconst (v := 1) hx hb dX10_points_24 (by decide) ?_
      refine lv_goto (tgt := 47) hx hb dX10_points_25 (by decide) ?_
      refine lv_ladd hx hb dX10_points_47 ?_
      refine z_put (ci := 10) (fs := [.int (nI (S.1 0 0)), .int (nI (S.1 1 0)), .ref (X 2), .ref (X 3), .ref (X 4), .ref (X 5), .ref (X 6), .long S.2.2, .ref (X 8), .ref (X 9), .int (nI (S.1 10 0)), .ref (X 11), .ref (X 12), .ref (X 13), .ref (X 14), .ref (X 15), .ref (X 16), .ref (X 17), .ref (X 18), .ref (X 19), .int (nI (S.1 20 0)), .ref (X 21), .ref (X 22), .ref (X 23), .ref (X 24), .ref (X 25), .ref (X 26), .ref (X 27), .int cz, .ref (X 29)]) (fs' := [.int (nI (S.1 0 0)), .int (nI (S.1 1 0)), .ref (X 2), .ref (X 3), .ref (X 4), .ref (X 5), .ref (X 6), .long (S.2.2 + 1), .ref (X 8), .ref (X 9), .int (nI (S.1 10 0)), .ref (X 11), .ref (X 12), .ref (X 13), .ref (X 14), .ref (X 15), .ref (X 16), .ref (X 17), .ref (X 18), .ref (X 19), .int (nI (S.1 20 0)), .ref (X 21), .ref (X 22), .ref (X 23), .ref (X 24), .ref (X 25), .ref (X 26), .ref (X 27), .int cz, .ref (X 29)]) (v := .long (S.2.2 + 1)) (ty := .long) (C := RX10) (T := TX10) (N := 30) hx hb hts in_X10 tyX10 tyX10_ok nmX10 hown hK hZ m0 rfl 7 (by decide) fl_95 (fun _ h9 => h9) rfl (by decide +kernel) rfl rfl (Nat.le_of_ble_eq_true rfl) rfl dX10_points_48 (fun H locs hZ => ?_)
      refine lv_aload_n hx hb dX10_points_51 rfl (lv_at hl 0 rfl) ?_
      refine lv_iload_n hx hb dX10_points_52 rfl (lv_at hl 1 rfl) ?_
      refine z_call (va_runV (As := [.int x]) (rest := []) ⟨hx, hb, hml, hown, hts⟩ (c_X10_pointsOf l D cT _ _ (sT S (S.2.2 + 1)) X cz f27 f29 nn x j ⟨(va_up_self _ _ _), ((va_up_ne _ _ (fun q => absurd (hXI 2 0 (by decide) (by decide) q) (by decide))).trans m2), ((va_up_ne _ _ (fun q => absurd (hXI 3 0 (by decide) (by decide) q) (by decide))).trans m3), ((va_up_ne _ _ (fun q => absurd (hXI 4 0 (by decide) (by decide) q) (by decide))).trans m4), ((va_up_ne _ _ (fun q => absurd (hXI 5 0 (by decide) (by decide) q) (by decide))).trans m5), ((va_up_ne _ _ (fun q => absurd (hXI 6 0 (by decide) (by decide) q) (by decide))).trans m6), ((va_up_ne _ _ (fun q => absurd (hXI 8 0 (by decide) (by decide) q) (by decide))).trans m8), ((va_up_ne _ _ (fun q => absurd (hXI 9 0 (by decide) (by decide) q) (by decide))).trans m9), ((va_up_ne _ _ (fun q => absurd (hXI 11 0 (by decide) (by decide) q) (by decide))).trans m11), ((va_up_ne _ _ (fun q => absurd (hXI 12 0 (by decide) (by decide) q) (by decide))).trans m12), ((va_up_ne _ _ (fun q => absurd (hXI 13 0 (by decide) (by decide) q) (by decide))).trans m13), ((va_up_ne _ _ (fun q => absurd (hXI 14 0 (by decide) (by decide) q) (by decide))).trans m14), ((va_up_ne _ _ (fun q => absurd (hXI 15 0 (by decide) (by decide) q) (by decide))).trans m15), ((va_up_ne _ _ (fun q => absurd (hXI 16 0 (by decide) (by decide) q) (by decide))).trans m16), ((va_up_ne _ _ (fun q => absurd (hXI 17 0 (by decide) (by decide) q) (by decide))).trans m17), ((va_up_ne _ _ (fun q => absurd (hXI 18 0 (by decide) (by decide) q) (by decide))).trans m18), ((va_up_ne _ _ (fun q => absurd (hXI 19 0 (by decide) (by decide) q) (by decide))).trans m19), ((va_up_ne _ _ (fun q => absurd (hXI 21 0 (by decide) (by decide) q) (by decide))).trans m21), ((va_up_ne _ _ (fun q => absurd (hXI 22 0 (by decide) (by decide) q) (by decide))).trans m22), ((va_up_ne _ _ (fun q => absurd (hXI 23 0 (by decide) (by decide) q) (by decide))).trans m23), ((va_up_ne _ _ (fun q => absurd (hXI 24 0 (by decide) (by decide) q) (by decide))).trans m24), ((va_up_ne _ _ (fun q => absurd (hXI 25 0 (by decide) (by decide) q) (by decide))).trans m25), ((va_up_ne _ _ (fun q => absurd (hXI 26 0 (by decide) (by decide) q) (by decide))).trans m26), ((va_up_ne _ _ (fun q => absurd (hXI 27 0 (by decide) (by decide) q) (by decide))).trans m27), ((va_up_ne _ _ (fun q => absurd (hXI 29 0 (by decide) (by decide) q) (by decide))).trans m29)⟩ hXI hS hj hxj) (cwV 1 hts gX10_points_X10_pointsOf rfl rfl rfl (by decide +kernel) ⟨(Nat.le_of_ble_eq_true rfl), (Nat.le_of_ble_eq_true rfl)⟩) (z_preV hK hE hZ hA (ci := 10) rfl (va_up_self _ _ _)) rfl rfl hl.1 rfl (lv_room (Nat.le_of_ble_eq_true rfl)) dX10_points_53 ⟨(Nat.le_of_ble_eq_true rfl), (Nat.le_of_ble_eq_true rfl)⟩) hZ hA (fun r G53 H locs hq hZ => ?_)
      obtain ⟨hg, rfl⟩ := hq
      replace hg := hg.symm
      subst hg
      refine W.eq (g2 := F0 m 56 ls [.int (pts S j)]) rfl ?_
      exact z_iret hx hb hr hlocks hZ dX10_points_56 (by rw [sp_points, hh]; simp only []; rw [mks_0 (kH j hj).1 c21]; exact ⟨⟨_, _, _, (va_up_self _ _ _), ((va_up_ne _ _ (fun q => absurd (hXI 2 0 (by decide) (by decide) q) (by decide))).trans m2), ((va_up_ne _ _ (fun q => absurd (hXI 3 0 (by decide) (by decide) q) (by decide))).trans m3), ((va_up_ne _ _ (fun q => absurd (hXI 4 0 (by decide) (by decide) q) (by decide))).trans m4), ((va_up_ne _ _ (fun q => absurd (hXI 5 0 (by decide) (by decide) q) (by decide))).trans m5), ((va_up_ne _ _ (fun q => absurd (hXI 6 0 (by decide) (by decide) q) (by decide))).trans m6), ((va_up_ne _ _ (fun q => absurd (hXI 8 0 (by decide) (by decide) q) (by decide))).trans m8), ((va_up_ne _ _ (fun q => absurd (hXI 9 0 (by decide) (by decide) q) (by decide))).trans m9), ((va_up_ne _ _ (fun q => absurd (hXI 11 0 (by decide) (by decide) q) (by decide))).trans m11), ((va_up_ne _ _ (fun q => absurd (hXI 12 0 (by decide) (by decide) q) (by decide))).trans m12), ((va_up_ne _ _ (fun q => absurd (hXI 13 0 (by decide) (by decide) q) (by decide))).trans m13), ((va_up_ne _ _ (fun q => absurd (hXI 14 0 (by decide) (by decide) q) (by decide))).trans m14), ((va_up_ne _ _ (fun q => absurd (hXI 15 0 (by decide) (by decide) q) (by decide))).trans m15), ((va_up_ne _ _ (fun q => absurd (hXI 16 0 (by decide) (by decide) q) (by decide))).trans m16), ((va_up_ne _ _ (fun q => absurd (hXI 17 0 (by decide) (by decide) q) (by decide))).trans m17), ((va_up_ne _ _ (fun q => absurd (hXI 18 0 (by decide) (by decide) q) (by decide))).trans m18), ((va_up_ne _ _ (fun q => absurd (hXI 19 0 (by decide) (by decide) q) (by decide))).trans m19), ((va_up_ne _ _ (fun q => absurd (hXI 21 0 (by decide) (by decide) q) (by decide))).trans m21), ((va_up_ne _ _ (fun q => absurd (hXI 22 0 (by decide) (by decide) q) (by decide))).trans m22), ((va_up_ne _ _ (fun q => absurd (hXI 23 0 (by decide) (by decide) q) (by decide))).trans m23), ((va_up_ne _ _ (fun q => absurd (hXI 24 0 (by decide) (by decide) q) (by decide))).trans m24), ((va_up_ne _ _ (fun q => absurd (hXI 25 0 (by decide) (by decide) q) (by decide))).trans m25), ((va_up_ne _ _ (fun q => absurd (hXI 26 0 (by decide) (by decide) q) (by decide))).trans m26), ((va_up_ne _ _ (fun q => absurd (hXI 27 0 (by decide) (by decide) q) (by decide))).trans m27), ((va_up_ne _ _ (fun q => absurd (hXI 29 0 (by decide) (by decide) q) (by decide))).trans m29)⟩, rfl⟩)
  · have hh := hix_no (S := S) c5
    refine lv_iconst (v := (-1)) hx hb dX10_points_8 (by decide) ?_
    exact z_iret hx hb hr hlocks hZ dX10_points_9 (mQ_of (by rw [sp_points, hh]) ⟨_, _, _, hM⟩)

set_option maxHeartbeats 4000000 in
set_option maxRecDepth 100000 in
theorem c_X10_law (l : Launch) (D : va_G) (cT : Nat → ClassId) (G : zG) (sz : Nat) (S : zS) (X : Nat → Nat) (cz : Int32) (f27 f29 : Nat → Int32) (nn : Nat) (x a b c2 w le st2 ba : Int32) (hM : MD cT S X cz f27 f29 G) (hXI : XI X) (hS : ok S nn)  : zM l D cT yX10_law wsX10_law (zR 1 0 0) [.ref (X 0), .int x, .int a, .int b, .int c2, .int w, .int le, .int st2, .int ba] G sz (mQ cT X (sp_law S x a b c2 w le st2 ba)) := by
  refine z_start (cc := cX10_law) (maxL := 11) (ret := (some .int)) (by decide) rfl (Nat.le_of_ble_eq_true rfl) ?_
  intro p e s m below meth c ls hI hZ hl
  obtain ⟨hx, hb, hr, hml, hts, hown, hlocks, hname, hK, hA, hE⟩ := hI
  have hl : lv_has ls 11 [(0, .ref (X 0)), (1, .int x), (2, .int a), (3, .int b), (4, .int c2), (5, .int w), (6, .int le), (7, .int st2), (8, .int ba)] := hl
  have hown : s.vm.findClass RX10 = some m.cls := hown
  have in_X10 : ∀ w ∈ u_ws RX10 TX10 30, w ∈ wsX10_law := by decide +kernel
  have fl_25 := hts (.fieldLink RX10 25 "FairRentsModel" "laws" "[I") (by decide +kernel)
  have fl_28 := hts (.fieldLink RX10 28 "FairRentsModel" "isTold" "[Z") (by decide +kernel)
  have fl_107 := hts (.fieldLink RX10 107 "FairRentsModel" "today" "I") (by decide +kernel)
  obtain ⟨m0, m2, m3, m4, m5, m6, m8, m9, m11, m12, m13, m14, m15, m16, m17, m18, m19, m21, m22, m23, m24, m25, m26, m27, m29⟩ := id hM
  obtain ⟨⟨k1, k10, k20, k0⟩, kH, k9, k8, k15, k26, kL, kLn, kP, kE, kEm, kn⟩ := id hS
  refine lv_iload_n hx hb dX10_law_0 rfl (lv_at hl 1 rfl) ?_
  refine lv_iconst (v := 0) hx hb dX10_law_1 (by decide) ?_
  refine lv_bipush (v := 30) hx hb dX10_law_2 (by decide) ?_
  refine z_call (va_runS (As := [.int x, .int 0, .int 30]) (rest := []) ⟨hx, hb, hml, hown, hts⟩ (c_X10_in l D cT _ _ x 0 30) (va_cwS 3 hts gX10_law_X10_in rfl rfl rfl (by decide +kernel) ⟨(Nat.le_of_ble_eq_true rfl), (Nat.le_of_ble_eq_true rfl)⟩) (z_preS hK hE hZ hA) rfl rfl hl.1 rfl (lv_room (Nat.le_of_ble_eq_true rfl)) dX10_law_4 ⟨(Nat.le_of_ble_eq_true rfl), (Nat.le_of_ble_eq_true rfl)⟩) hZ hA (fun r G4 H locs hq hZ => ?_)
  obtain ⟨hg, rfl⟩ := hq
  replace hg := hg.symm
  subst hg
  refine W.eq (g2 := F0 m 7 ls [.int (if 0 ≤ x ∧ x ≤ 30 then 1 else 0)]) rfl ?_
  refine zb_eq (tgt := 90) hx hb dX10_law_7 (by decide) (fun c7 => ?_) (fun c7 => ?_)
  · refine lv_iconst (v := 0) hx hb dX10_law_90 (by decide) ?_
    refine lv_istore (lv' := [(9, .int 0), (0, .ref (X 0)), (1, .int x), (2, .int a), (3, .int b), (4, .int c2), (5, .int w), (6, .int le), (7, .int st2), (8, .int ba)]) hx hb dX10_law_91 hl (by decide) rfl (fun ls hl => ?_)
    refine lv_iload hx hb dX10_law_93 (lv_at hl 0 rfl) ?_
    refine lv_if_ne (tgt := 100) hx hb dX10_law_95 (by decide) (fun c95 => absurd c95 (fun h => h rfl)) (fun _ => ?_)
    refine lv_iconst (v := (-1)) hx hb dX10_law_98 (by decide) ?_
    exact z_iret hx hb hr hlocks hZ dX10_law_99 (mQ_of (by rw [sp_law, if_neg (fun h => c7 h.1)]) ⟨_, _, _, hM⟩)
  · refine lv_iload_n hx hb dX10_law_10 rfl (lv_at hl 2 rfl) ?_
    refine lv_iconst (v := 0) hx hb dX10_law_11 (by decide) ?_
    refine lv_bipush (v := 90) hx hb dX10_law_12 (by decide) ?_
    refine z_call (va_runS (As := [.int a, .int 0, .int 90]) (rest := []) ⟨hx, hb, hml, hown, hts⟩ (c_X10_in l D cT _ _ a 0 90) (va_cwS 3 hts gX10_law_X10_in rfl rfl rfl (by decide +kernel) ⟨(Nat.le_of_ble_eq_true rfl), (Nat.le_of_ble_eq_true rfl)⟩) (z_preS hK hE hZ hA) rfl rfl hl.1 rfl (lv_room (Nat.le_of_ble_eq_true rfl)) dX10_law_14 ⟨(Nat.le_of_ble_eq_true rfl), (Nat.le_of_ble_eq_true rfl)⟩) hZ hA (fun r G14 H locs hq hZ => ?_)
    obtain ⟨hg, rfl⟩ := hq
    replace hg := hg.symm
    subst hg
    refine W.eq (g2 := F0 m 17 ls [.int (if 0 ≤ a ∧ a ≤ 90 then 1 else 0)]) rfl ?_
    refine zb_eq (tgt := 90) hx hb dX10_law_17 (by decide) (fun c17 => ?_) (fun c17 => ?_)
    · refine lv_iconst (v := 0) hx hb dX10_law_90 (by decide) ?_
      refine lv_istore (lv' := [(9, .int 0), (0, .ref (X 0)), (1, .int x), (2, .int a), (3, .int b), (4, .int c2), (5, .int w), (6, .int le), (7, .int st2), (8, .int ba)]) hx hb dX10_law_91 hl (by decide) rfl (fun ls hl => ?_)
      refine lv_iload hx hb dX10_law_93 (lv_at hl 0 rfl) ?_
      refine lv_if_ne (tgt := 100) hx hb dX10_law_95 (by decide) (fun c95 => absurd c95 (fun h => h rfl)) (fun _ => ?_)
      refine lv_iconst (v := (-1)) hx hb dX10_law_98 (by decide) ?_
      exact z_iret hx hb hr hlocks hZ dX10_law_99 (mQ_of (by rw [sp_law, if_neg (fun h => c17 h.2.1)]) ⟨_, _, _, hM⟩)
    · refine lv_iload_n hx hb dX10_law_20 rfl (lv_at hl 3 rfl) ?_
      refine lv_iconst (v := 0) hx hb dX10_law_21 (by decide) ?_
      refine lv_bipush (v := 90) hx hb dX10_law_22 (by decide) ?_
      refine z_call (va_runS (As := [.int b, .int 0, .int 90]) (rest := []) ⟨hx, hb, hml, hown, hts⟩ (c_X10_in l D cT _ _ b 0 90) (va_cwS 3 hts gX10_law_X10_in rfl rfl rfl (by decide +kernel) ⟨(Nat.le_of_ble_eq_true rfl), (Nat.le_of_ble_eq_true rfl)⟩) (z_preS hK hE hZ hA) rfl rfl hl.1 rfl (lv_room (Nat.le_of_ble_eq_true rfl)) dX10_law_24 ⟨(Nat.le_of_ble_eq_true rfl), (Nat.le_of_ble_eq_true rfl)⟩) hZ hA (fun r G24 H locs hq hZ => ?_)
      obtain ⟨hg, rfl⟩ := hq
      replace hg := hg.symm
      subst hg
      refine W.eq (g2 := F0 m 27 ls [.int (if 0 ≤ b ∧ b ≤ 90 then 1 else 0)]) rfl ?_
      refine zb_eq (tgt := 90) hx hb dX10_law_27 (by decide) (fun c27 => ?_) (fun c27 => ?_)
      · refine lv_iconst (v := 0) hx hb dX10_law_90 (by decide) ?_
        refine lv_istore (lv' := [(9, .int 0), (0, .ref (X 0)), (1, .int x), (2, .int a), (3, .int b), (4, .int c2), (5, .int w), (6, .int le), (7, .int st2), (8, .int ba)]) hx hb dX10_law_91 hl (by decide) rfl (fun ls hl => ?_)
        refine lv_iload hx hb dX10_law_93 (lv_at hl 0 rfl) ?_
        refine lv_if_ne (tgt := 100) hx hb dX10_law_95 (by decide) (fun c95 => absurd c95 (fun h => h rfl)) (fun _ => ?_)
        refine lv_iconst (v := (-1)) hx hb dX10_law_98 (by decide) ?_
        exact z_iret hx hb hr hlocks hZ dX10_law_99 (mQ_of (by rw [sp_law, if_neg (fun h => c27 h.2.2.1)]) ⟨_, _, _, hM⟩)
      · refine lv_iload hx hb dX10_law_30 (lv_at hl 4 rfl) ?_
        refine lv_iconst (v := 0) hx hb dX10_law_32 (by decide) ?_
        refine lv_bipush (v := 90) hx hb dX10_law_33 (by decide) ?_
        refine z_call (va_runS (As := [.int c2, .int 0, .int 90]) (rest := []) ⟨hx, hb, hml, hown, hts⟩ (c_X10_in l D cT _ _ c2 0 90) (va_cwS 3 hts gX10_law_X10_in rfl rfl rfl (by decide +kernel) ⟨(Nat.le_of_ble_eq_true rfl), (Nat.le_of_ble_eq_true rfl)⟩) (z_preS hK hE hZ hA) rfl rfl hl.1 rfl (lv_room (Nat.le_of_ble_eq_true rfl)) dX10_law_35 ⟨(Nat.le_of_ble_eq_true rfl), (Nat.le_of_ble_eq_true rfl)⟩) hZ hA (fun r G35 H locs hq hZ => ?_)
        obtain ⟨hg, rfl⟩ := hq
        replace hg := hg.symm
        subst hg
        refine W.eq (g2 := F0 m 38 ls [.int (if 0 ≤ c2 ∧ c2 ≤ 90 then 1 else 0)]) rfl ?_
        refine zb_eq (tgt := 90) hx hb dX10_law_38 (by decide) (fun c38 => ?_) (fun c38 => ?_)
        · refine lv_iconst (v := 0) hx hb dX10_law_90 (by decide) ?_
          refine lv_istore (lv' := [(9, .int 0), (0, .ref (X 0)), (1, .int x), (2, .int a), (3, .int b), (4, .int c2), (5, .int w), (6, .int le), (7, .int st2), (8, .int ba)]) hx hb dX10_law_91 hl (by decide) rfl (fun ls hl => ?_)
          refine lv_iload hx hb dX10_law_93 (lv_at hl 0 rfl) ?_
          refine lv_if_ne (tgt := 100) hx hb dX10_law_95 (by decide) (fun c95 => absurd c95 (fun h => h rfl)) (fun _ => ?_)
          refine lv_iconst (v := (-1)) hx hb dX10_law_98 (by decide) ?_
          exact z_iret hx hb hr hlocks hZ dX10_law_99 (mQ_of (by rw [sp_law, if_neg (fun h => c38 h.2.2.2.1)]) ⟨_, _, _, hM⟩)
        · refine lv_iload hx hb dX10_law_41 (lv_at hl 5 rfl) ?_
          refine lv_iconst (v := 1) hx hb dX10_law_43 (by decide) ?_
          refine lv_bipush (v := 9) hx hb dX10_law_44 (by decide) ?_
          refine z_call (va_runS (As := [.int w, .int 1, .int 9]) (rest := []) ⟨hx, hb, hml, hown, hts⟩ (c_X10_in l D cT _ _ w 1 9) (va_cwS 3 hts gX10_law_X10_in rfl rfl rfl (by decide +kernel) ⟨(Nat.le_of_ble_eq_true rfl), (Nat.le_of_ble_eq_true rfl)⟩) (z_preS hK hE hZ hA) rfl rfl hl.1 rfl (lv_room (Nat.le_of_ble_eq_true rfl)) dX10_law_46 ⟨(Nat.le_of_ble_eq_true rfl), (Nat.le_of_ble_eq_true rfl)⟩) hZ hA (fun r G46 H locs hq hZ => ?_)
          obtain ⟨hg, rfl⟩ := hq
          replace hg := hg.symm
          subst hg
          refine W.eq (g2 := F0 m 49 ls [.int (if 1 ≤ w ∧ w ≤ 9 then 1 else 0)]) rfl ?_
          refine zb_eq (tgt := 90) hx hb dX10_law_49 (by decide) (fun c49 => ?_) (fun c49 => ?_)
          · refine lv_iconst (v := 0) hx hb dX10_law_90 (by decide) ?_
            refine lv_istore (lv' := [(9, .int 0), (0, .ref (X 0)), (1, .int x), (2, .int a), (3, .int b), (4, .int c2), (5, .int w), (6, .int le), (7, .int st2), (8, .int ba)]) hx hb dX10_law_91 hl (by decide) rfl (fun ls hl => ?_)
            refine lv_iload hx hb dX10_law_93 (lv_at hl 0 rfl) ?_
            refine lv_if_ne (tgt := 100) hx hb dX10_law_95 (by decide) (fun c95 => absurd c95 (fun h => h rfl)) (fun _ => ?_)
            refine lv_iconst (v := (-1)) hx hb dX10_law_98 (by decide) ?_
            exact z_iret hx hb hr hlocks hZ dX10_law_99 (mQ_of (by rw [sp_law, if_neg (fun h => c49 h.2.2.2.2.1)]) ⟨_, _, _, hM⟩)
          · refine lv_iload hx hb dX10_law_52 (lv_at hl 6 rfl) ?_
            refine lv_iconst (v := 0) hx hb dX10_law_54 (by decide) ?_
            refine lv_bipush (v := 20) hx hb dX10_law_55 (by decide) ?_
            refine z_call (va_runS (As := [.int le, .int 0, .int 20]) (rest := []) ⟨hx, hb, hml, hown, hts⟩ (c_X10_in l D cT _ _ le 0 20) (va_cwS 3 hts gX10_law_X10_in rfl rfl rfl (by decide +kernel) ⟨(Nat.le_of_ble_eq_true rfl), (Nat.le_of_ble_eq_true rfl)⟩) (z_preS hK hE hZ hA) rfl rfl hl.1 rfl (lv_room (Nat.le_of_ble_eq_true rfl)) dX10_law_57 ⟨(Nat.le_of_ble_eq_true rfl), (Nat.le_of_ble_eq_true rfl)⟩) hZ hA (fun r G57 H locs hq hZ => ?_)
            obtain ⟨hg, rfl⟩ := hq
            replace hg := hg.symm
            subst hg
            refine W.eq (g2 := F0 m 60 ls [.int (if 0 ≤ le ∧ le ≤ 20 then 1 else 0)]) rfl ?_
            refine zb_eq (tgt := 90) hx hb dX10_law_60 (by decide) (fun c60 => ?_) (fun c60 => ?_)
            · refine lv_iconst (v := 0) hx hb dX10_law_90 (by decide) ?_
              refine lv_istore (lv' := [(9, .int 0), (0, .ref (X 0)), (1, .int x), (2, .int a), (3, .int b), (4, .int c2), (5, .int w), (6, .int le), (7, .int st2), (8, .int ba)]) hx hb dX10_law_91 hl (by decide) rfl (fun ls hl => ?_)
              refine lv_iload hx hb dX10_law_93 (lv_at hl 0 rfl) ?_
              refine lv_if_ne (tgt := 100) hx hb dX10_law_95 (by decide) (fun c95 => absurd c95 (fun h => h rfl)) (fun _ => ?_)
              refine lv_iconst (v := (-1)) hx hb dX10_law_98 (by decide) ?_
              exact z_iret hx hb hr hlocks hZ dX10_law_99 (mQ_of (by rw [sp_law, if_neg (fun h => c60 h.2.2.2.2.2.1)]) ⟨_, _, _, hM⟩)
            · refine lv_iload hx hb dX10_law_63 (lv_at hl 7 rfl) ?_
              refine lv_iconst (v := 1) hx hb dX10_law_65 (by decide) ?_
              refine lv_sipush (v := 500) hx hb dX10_law_66 (by decide) ?_
              refine z_call (va_runS (As := [.int st2, .int 1, .int 500]) (rest := []) ⟨hx, hb, hml, hown, hts⟩ (c_X10_in l D cT _ _ st2 1 500) (va_cwS 3 hts gX10_law_X10_in rfl rfl rfl (by decide +kernel) ⟨(Nat.le_of_ble_eq_true rfl), (Nat.le_of_ble_eq_true rfl)⟩) (z_preS hK hE hZ hA) rfl rfl hl.1 rfl (lv_room (Nat.le_of_ble_eq_true rfl)) dX10_law_69 ⟨(Nat.le_of_ble_eq_true rfl), (Nat.le_of_ble_eq_true rfl)⟩) hZ hA (fun r G69 H locs hq hZ => ?_)
              obtain ⟨hg, rfl⟩ := hq
              replace hg := hg.symm
              subst hg
              refine W.eq (g2 := F0 m 72 ls [.int (if 1 ≤ st2 ∧ st2 ≤ 500 then 1 else 0)]) rfl ?_
              refine zb_eq (tgt := 90) hx hb dX10_law_72 (by decide) (fun c72 => ?_) (fun c72 => ?_)
              · refine lv_iconst (v := 0) hx hb dX10_law_90 (by decide) ?_
                refine lv_istore (lv' := [(9, .int 0), (0, .ref (X 0)), (1, .int x), (2, .int a), (3, .int b), (4, .int c2), (5, .int w), (6, .int le), (7, .int st2), (8, .int ba)]) hx hb dX10_law_91 hl (by decide) rfl (fun ls hl => ?_)
                refine lv_iload hx hb dX10_law_93 (lv_at hl 0 rfl) ?_
                refine lv_if_ne (tgt := 100) hx hb dX10_law_95 (by decide) (fun c95 => absurd c95 (fun h => h rfl)) (fun _ => ?_)
                refine lv_iconst (v := (-1)) hx hb dX10_law_98 (by decide) ?_
                exact z_iret hx hb hr hlocks hZ dX10_law_99 (mQ_of (by rw [sp_law, if_neg (fun h => c72 h.2.2.2.2.2.2.1)]) ⟨_, _, _, hM⟩)
              · refine lv_iload hx hb dX10_law_75 (lv_at hl 8 rfl) ?_
                refine lv_iconst (v := 0) hx hb dX10_law_77 (by decide) ?_
                refine lv_bipush (v := 60) hx hb dX10_law_78 (by decide) ?_
                refine z_call (va_runS (As := [.int ba, .int 0, .int 60]) (rest := []) ⟨hx, hb, hml, hown, hts⟩ (c_X10_in l D cT _ _ ba 0 60) (va_cwS 3 hts gX10_law_X10_in rfl rfl rfl (by decide +kernel) ⟨(Nat.le_of_ble_eq_true rfl), (Nat.le_of_ble_eq_true rfl)⟩) (z_preS hK hE hZ hA) rfl rfl hl.1 rfl (lv_room (Nat.le_of_ble_eq_true rfl)) dX10_law_80 ⟨(Nat.le_of_ble_eq_true rfl), (Nat.le_of_ble_eq_true rfl)⟩) hZ hA (fun r G80 H locs hq hZ => ?_)
                obtain ⟨hg, rfl⟩ := hq
                replace hg := hg.symm
                subst hg
                refine W.eq (g2 := F0 m 83 ls [.int (if 0 ≤ ba ∧ ba ≤ 60 then 1 else 0)]) rfl ?_
                refine zb_eq (tgt := 90) hx hb dX10_law_83 (by decide) (fun c83 => ?_) (fun c83 => ?_)
                · refine lv_iconst (v := 0) hx hb dX10_law_90 (by decide) ?_
                  refine lv_istore (lv' := [(9, .int 0), (0, .ref (X 0)), (1, .int x), (2, .int a), (3, .int b), (4, .int c2), (5, .int w), (6, .int le), (7, .int st2), (8, .int ba)]) hx hb dX10_law_91 hl (by decide) rfl (fun ls hl => ?_)
                  refine lv_iload hx hb dX10_law_93 (lv_at hl 0 rfl) ?_
                  refine lv_if_ne (tgt := 100) hx hb dX10_law_95 (by decide) (fun c95 => absurd c95 (fun h => h rfl)) (fun _ => ?_)
                  refine lv_iconst (v := (-1)) hx hb dX10_law_98 (by decide) ?_
                  exact z_iret hx hb hr hlocks hZ dX10_law_99 (mQ_of (by rw [sp_law, if_neg (fun h => c83 h.2.2.2.2.2.2.2)]) ⟨_, _, _, hM⟩)
                · refine lv_iconst (v := 1) hx hb dX10_law_86 (by decide) ?_
                  refine lv_goto (tgt := 91) hx hb dX10_law_87 (by decide) ?_
                  refine lv_istore (lv' := [(9, .int 1), (0, .ref (X 0)), (1, .int x), (2, .int a), (3, .int b), (4, .int c2), (5, .int w), (6, .int le), (7, .int st2), (8, .int ba)]) hx hb dX10_law_91 hl (by decide) rfl (fun ls hl => ?_)
                  refine lv_iload hx hb dX10_law_93 (lv_at hl 0 rfl) ?_
                  refine lv_if_ne (tgt := 100) hx hb dX10_law_95 (by decide) (fun _ => ?_) (fun c95 => absurd c95 (show ¬ (1 : Int32) = 0 by decide))
                  have hxj : x = nI x.toNatClampNeg := (z_self c7.1).symm
                  have hj30 : x.toNatClampNeg ≤ 30 := law_y c7
                  refine lv_bipush (v := 10) hx hb dX10_law_100 (by decide) ?_
                  refine lv_iload_n hx hb dX10_law_102 rfl (lv_at hl 2 rfl) ?_
                  refine lv_imul hx hb dX10_law_103 ?_
                  refine lv_aload_n hx hb dX10_law_104 rfl (lv_at hl 1 rfl) ?_
                  refine z_get (ci := 10) (fs := [.int (nI (S.1 0 0)), .int (nI (S.1 1 0)), .ref (X 2), .ref (X 3), .ref (X 4), .ref (X 5), .ref (X 6), .long S.2.2, .ref (X 8), .ref (X 9), .int (nI (S.1 10 0)), .ref (X 11), .ref (X 12), .ref (X 13), .ref (X 14), .ref (X 15), .ref (X 16), .ref (X 17), .ref (X 18), .ref (X 19), .int (nI (S.1 20 0)), .ref (X 21), .ref (X 22), .ref (X 23), .ref (X 24), .ref (X 25), .ref (X 26), .ref (X 27), .int cz, .ref (X 29)]) (C := RX10) (T := TX10) (N := 30) hx hb hts in_X10 hown hK hZ m0 rfl 0 (by decide) fl_107 (fun _ h9 => h9) rfl dX10_law_105 ?_
                  refine lv_icmp_gt (tgt := 114) hx hb dX10_law_108 (by decide) (fun c108 => ?_) (fun c108 => ?_)
                  · refine lv_bipush (v := 7) hx hb dX10_law_114 (by decide) ?_
                    refine lv_iload_n hx hb dX10_law_116 rfl (lv_at hl 2 rfl) ?_
                    refine lv_imul hx hb dX10_law_117 ?_
                    refine lv_istore (lv' := [(10, .int (7 * x)), (9, .int 1), (0, .ref (X 0)), (1, .int x), (2, .int a), (3, .int b), (4, .int c2), (5, .int w), (6, .int le), (7, .int st2), (8, .int ba)]) hx hb dX10_law_118 hl (by decide) rfl (fun ls hl => ?_)
                    refine lv_aload_n hx hb dX10_law_120 rfl (lv_at hl 2 rfl) ?_
                    refine z_get (ci := 10) (fs := [.int (nI (S.1 0 0)), .int (nI (S.1 1 0)), .ref (X 2), .ref (X 3), .ref (X 4), .ref (X 5), .ref (X 6), .long S.2.2, .ref (X 8), .ref (X 9), .int (nI (S.1 10 0)), .ref (X 11), .ref (X 12), .ref (X 13), .ref (X 14), .ref (X 15), .ref (X 16), .ref (X 17), .ref (X 18), .ref (X 19), .int (nI (S.1 20 0)), .ref (X 21), .ref (X 22), .ref (X 23), .ref (X 24), .ref (X 25), .ref (X 26), .ref (X 27), .int cz, .ref (X 29)]) (C := RX10) (T := TX10) (N := 30) hx hb hts in_X10 hown hK hZ m0 rfl 8 (by decide) fl_25 (fun _ h9 => h9) rfl dX10_law_121 ?_
                    refine lv_iload hx hb dX10_law_124 (lv_at hl 0 rfl) ?_
                    refine lv_iload_n hx hb dX10_law_126 rfl (lv_at hl 4 rfl) ?_
                    refine z_iast hx hb hK hZ m8 (7 * x.toNatClampNeg) (law_ix0 hxj) (by omega) (by decide) dX10_law_127 (fun H locs hZ => ?_)
                    refine lv_aload_n hx hb dX10_law_128 rfl (lv_at hl 2 rfl) ?_
                    refine z_get (ci := 10) (fs := [.int (nI (S.1 0 0)), .int (nI (S.1 1 0)), .ref (X 2), .ref (X 3), .ref (X 4), .ref (X 5), .ref (X 6), .long S.2.2, .ref (X 8), .ref (X 9), .int (nI (S.1 10 0)), .ref (X 11), .ref (X 12), .ref (X 13), .ref (X 14), .ref (X 15), .ref (X 16), .ref (X 17), .ref (X 18), .ref (X 19), .int (nI (S.1 20 0)), .ref (X 21), .ref (X 22), .ref (X 23), .ref (X 24), .ref (X 25), .ref (X 26), .ref (X 27), .int cz, .ref (X 29)]) (C := RX10) (T := TX10) (N := 30) hx hb hts in_X10 hown hK hZ ((va_up_ne _ _ (fun q => absurd (hXI 0 8 (by decide) (by decide) q) (by decide))).trans m0) rfl 8 (by decide) fl_25 (fun _ h9 => h9) rfl dX10_law_129 ?_
                    refine lv_iload hx hb dX10_law_132 (lv_at hl 0 rfl) ?_
                    refine lv_iconst (v := 1) hx hb dX10_law_134 (by decide) ?_
                    refine lv_iadd hx hb dX10_law_135 ?_
                    refine lv_iload_n hx hb dX10_law_136 rfl (lv_at hl 5 rfl) ?_
                    refine z_iast hx hb hK hZ (va_up_self _ _ _) (7 * x.toNatClampNeg + 1) (law_ix hxj 1) (by omega) (by decide) dX10_law_137 (fun H locs hZ => ?_)
                    rw [bx_uu] at hZ
                    refine lv_aload_n hx hb dX10_law_138 rfl (lv_at hl 2 rfl) ?_
                    refine z_get (ci := 10) (fs := [.int (nI (S.1 0 0)), .int (nI (S.1 1 0)), .ref (X 2), .ref (X 3), .ref (X 4), .ref (X 5), .ref (X 6), .long S.2.2, .ref (X 8), .ref (X 9), .int (nI (S.1 10 0)), .ref (X 11), .ref (X 12), .ref (X 13), .ref (X 14), .ref (X 15), .ref (X 16), .ref (X 17), .ref (X 18), .ref (X 19), .int (nI (S.1 20 0)), .ref (X 21), .ref (X 22), .ref (X 23), .ref (X 24), .ref (X 25), .ref (X 26), .ref (X 27), .int cz, .ref (X 29)]) (C := RX10) (T := TX10) (N := 30) hx hb hts in_X10 hown hK hZ ((va_up_ne _ _ (fun q => absurd (hXI 0 8 (by decide) (by decide) q) (by decide))).trans m0) rfl 8 (by decide) fl_25 (fun _ h9 => h9) rfl dX10_law_139 ?_
                    refine lv_iload hx hb dX10_law_142 (lv_at hl 0 rfl) ?_
                    refine lv_iconst (v := 2) hx hb dX10_law_144 (by decide) ?_
                    refine lv_iadd hx hb dX10_law_145 ?_
                    refine lv_iload hx hb dX10_law_146 (lv_at hl 6 rfl) ?_
                    refine z_iast hx hb hK hZ (va_up_self _ _ _) (7 * x.toNatClampNeg + 2) (law_ix hxj 2) (by omega) (by decide) dX10_law_148 (fun H locs hZ => ?_)
                    rw [bx_uu] at hZ
                    refine lv_aload_n hx hb dX10_law_149 rfl (lv_at hl 2 rfl) ?_
                    refine z_get (ci := 10) (fs := [.int (nI (S.1 0 0)), .int (nI (S.1 1 0)), .ref (X 2), .ref (X 3), .ref (X 4), .ref (X 5), .ref (X 6), .long S.2.2, .ref (X 8), .ref (X 9), .int (nI (S.1 10 0)), .ref (X 11), .ref (X 12), .ref (X 13), .ref (X 14), .ref (X 15), .ref (X 16), .ref (X 17), .ref (X 18), .ref (X 19), .int (nI (S.1 20 0)), .ref (X 21), .ref (X 22), .ref (X 23), .ref (X 24), .ref (X 25), .ref (X 26), .ref (X 27), .int cz, .ref (X 29)]) (C := RX10) (T := TX10) (N := 30) hx hb hts in_X10 hown hK hZ ((va_up_ne _ _ (fun q => absurd (hXI 0 8 (by decide) (by decide) q) (by decide))).trans m0) rfl 8 (by decide) fl_25 (fun _ h9 => h9) rfl dX10_law_150 ?_
                    refine lv_iload hx hb dX10_law_153 (lv_at hl 0 rfl) ?_
                    refine lv_iconst (v := 3) hx hb dX10_law_155 (by decide) ?_
                    refine lv_iadd hx hb dX10_law_156 ?_
                    refine lv_iload hx hb dX10_law_157 (lv_at hl 7 rfl) ?_
                    refine z_iast hx hb hK hZ (va_up_self _ _ _) (7 * x.toNatClampNeg + 3) (law_ix hxj 3) (by omega) (by decide) dX10_law_159 (fun H locs hZ => ?_)
                    rw [bx_uu] at hZ
                    refine lv_aload_n hx hb dX10_law_160 rfl (lv_at hl 2 rfl) ?_
                    refine z_get (ci := 10) (fs := [.int (nI (S.1 0 0)), .int (nI (S.1 1 0)), .ref (X 2), .ref (X 3), .ref (X 4), .ref (X 5), .ref (X 6), .long S.2.2, .ref (X 8), .ref (X 9), .int (nI (S.1 10 0)), .ref (X 11), .ref (X 12), .ref (X 13), .ref (X 14), .ref (X 15), .ref (X 16), .ref (X 17), .ref (X 18), .ref (X 19), .int (nI (S.1 20 0)), .ref (X 21), .ref (X 22), .ref (X 23), .ref (X 24), .ref (X 25), .ref (X 26), .ref (X 27), .int cz, .ref (X 29)]) (C := RX10) (T := TX10) (N := 30) hx hb hts in_X10 hown hK hZ ((va_up_ne _ _ (fun q => absurd (hXI 0 8 (by decide) (by decide) q) (by decide))).trans m0) rfl 8 (by decide) fl_25 (fun _ h9 => h9) rfl dX10_law_161 ?_
                    refine lv_iload hx hb dX10_law_164 (lv_at hl 0 rfl) ?_
                    refine lv_iconst (v := 4) hx hb dX10_law_166 (by decide) ?_
                    refine lv_iadd hx hb dX10_law_167 ?_
                    refine lv_iload hx hb dX10_law_168 (lv_at hl 8 rfl) ?_
                    refine z_iast hx hb hK hZ (va_up_self _ _ _) (7 * x.toNatClampNeg + 4) (law_ix hxj 4) (by omega) (by decide) dX10_law_170 (fun H locs hZ => ?_)
                    rw [bx_uu] at hZ
                    refine lv_aload_n hx hb dX10_law_171 rfl (lv_at hl 2 rfl) ?_
                    refine z_get (ci := 10) (fs := [.int (nI (S.1 0 0)), .int (nI (S.1 1 0)), .ref (X 2), .ref (X 3), .ref (X 4), .ref (X 5), .ref (X 6), .long S.2.2, .ref (X 8), .ref (X 9), .int (nI (S.1 10 0)), .ref (X 11), .ref (X 12), .ref (X 13), .ref (X 14), .ref (X 15), .ref (X 16), .ref (X 17), .ref (X 18), .ref (X 19), .int (nI (S.1 20 0)), .ref (X 21), .ref (X 22), .ref (X 23), .ref (X 24), .ref (X 25), .ref (X 26), .ref (X 27), .int cz, .ref (X 29)]) (C := RX10) (T := TX10) (N := 30) hx hb hts in_X10 hown hK hZ ((va_up_ne _ _ (fun q => absurd (hXI 0 8 (by decide) (by decide) q) (by decide))).trans m0) rfl 8 (by decide) fl_25 (fun _ h9 => h9) rfl dX10_law_172 ?_
                    refine lv_iload hx hb dX10_law_175 (lv_at hl 0 rfl) ?_
                    refine lv_iconst (v := 5) hx hb dX10_law_177 (by decide) ?_
                    refine lv_iadd hx hb dX10_law_178 ?_
                    refine lv_iload hx hb dX10_law_179 (lv_at hl 9 rfl) ?_
                    refine z_iast hx hb hK hZ (va_up_self _ _ _) (7 * x.toNatClampNeg + 5) (law_ix hxj 5) (by omega) (by decide) dX10_law_181 (fun H locs hZ => ?_)
                    rw [bx_uu] at hZ
                    refine lv_aload_n hx hb dX10_law_182 rfl (lv_at hl 2 rfl) ?_
                    refine z_get (ci := 10) (fs := [.int (nI (S.1 0 0)), .int (nI (S.1 1 0)), .ref (X 2), .ref (X 3), .ref (X 4), .ref (X 5), .ref (X 6), .long S.2.2, .ref (X 8), .ref (X 9), .int (nI (S.1 10 0)), .ref (X 11), .ref (X 12), .ref (X 13), .ref (X 14), .ref (X 15), .ref (X 16), .ref (X 17), .ref (X 18), .ref (X 19), .int (nI (S.1 20 0)), .ref (X 21), .ref (X 22), .ref (X 23), .ref (X 24), .ref (X 25), .ref (X 26), .ref (X 27), .int cz, .ref (X 29)]) (C := RX10) (T := TX10) (N := 30) hx hb hts in_X10 hown hK hZ ((va_up_ne _ _ (fun q => absurd (hXI 0 8 (by decide) (by decide) q) (by decide))).trans m0) rfl 8 (by decide) fl_25 (fun _ h9 => h9) rfl dX10_law_183 ?_
                    refine lv_iload hx hb dX10_law_186 (lv_at hl 0 rfl) ?_
                    refine lv_bipush (v := 6) hx hb dX10_law_188 (by decide) ?_
                    refine lv_iadd hx hb dX10_law_190 ?_
                    refine lv_iload hx hb dX10_law_191 (lv_at hl 10 rfl) ?_
                    refine z_iast hx hb hK hZ (va_up_self _ _ _) (7 * x.toNatClampNeg + 6) (law_ix hxj 6) (by omega) (by decide) dX10_law_193 (fun H locs hZ => ?_)
                    rw [bx_uu] at hZ
                    refine lv_aload_n hx hb dX10_law_194 rfl (lv_at hl 2 rfl) ?_
                    refine z_get (ci := 10) (fs := [.int (nI (S.1 0 0)), .int (nI (S.1 1 0)), .ref (X 2), .ref (X 3), .ref (X 4), .ref (X 5), .ref (X 6), .long S.2.2, .ref (X 8), .ref (X 9), .int (nI (S.1 10 0)), .ref (X 11), .ref (X 12), .ref (X 13), .ref (X 14), .ref (X 15), .ref (X 16), .ref (X 17), .ref (X 18), .ref (X 19), .int (nI (S.1 20 0)), .ref (X 21), .ref (X 22), .ref (X 23), .ref (X 24), .ref (X 25), .ref (X 26), .ref (X 27), .int cz, .ref (X 29)]) (C := RX10) (T := TX10) (N := 30) hx hb hts in_X10 hown hK hZ ((va_up_ne _ _ (fun q => absurd (hXI 0 8 (by decide) (by decide) q) (by decide))).trans m0) rfl 9 (by decide) fl_28 (fun _ h9 => h9) rfl dX10_law_195 ?_
                    refine lv_iload_n hx hb dX10_law_198 rfl (lv_at hl 3 rfl) ?_
                    refine lv_iconst (v := 1) hx hb dX10_law_199 (by decide) ?_
                    refine z_zast hx hb hK hZ ((va_up_ne _ _ (fun q => absurd (hXI 9 8 (by decide) (by decide) q) (by decide))).trans m9) x.toNatClampNeg hxj (by decide) (by omega) (by decide) dX10_law_200 (fun H locs hZ => ?_)
                    refine lv_iconst (v := 1) hx hb dX10_law_201 (by decide) ?_
                    exact z_iret hx hb hr hlocks hZ dX10_law_202 (by rw [sp_law, if_pos ⟨c7, c17, c27, c38, c49, c60, c72, c83⟩, if_neg (law_gt hj30 hxj (by omega) c108)]; exact ⟨⟨_, _, _, ((va_up_ne _ _ (fun q => absurd (hXI 0 9 (by decide) (by decide) q) (by decide))).trans ((va_up_ne _ _ (fun q => absurd (hXI 0 8 (by decide) (by decide) q) (by decide))).trans m0)), ((va_up_ne _ _ (fun q => absurd (hXI 2 9 (by decide) (by decide) q) (by decide))).trans ((va_up_ne _ _ (fun q => absurd (hXI 2 8 (by decide) (by decide) q) (by decide))).trans m2)), ((va_up_ne _ _ (fun q => absurd (hXI 3 9 (by decide) (by decide) q) (by decide))).trans ((va_up_ne _ _ (fun q => absurd (hXI 3 8 (by decide) (by decide) q) (by decide))).trans m3)), ((va_up_ne _ _ (fun q => absurd (hXI 4 9 (by decide) (by decide) q) (by decide))).trans ((va_up_ne _ _ (fun q => absurd (hXI 4 8 (by decide) (by decide) q) (by decide))).trans m4)), ((va_up_ne _ _ (fun q => absurd (hXI 5 9 (by decide) (by decide) q) (by decide))).trans ((va_up_ne _ _ (fun q => absurd (hXI 5 8 (by decide) (by decide) q) (by decide))).trans m5)), ((va_up_ne _ _ (fun q => absurd (hXI 6 9 (by decide) (by decide) q) (by decide))).trans ((va_up_ne _ _ (fun q => absurd (hXI 6 8 (by decide) (by decide) q) (by decide))).trans m6)), (((va_up_ne _ _ (fun q => absurd (hXI 8 9 (by decide) (by decide) q) (by decide))).trans (va_up_self _ _ _)).trans (congrArg (fun f => some (Sum.inl (cT 0, 224, Sum.inl f))) (by simp only [cG_sG]; rfl))), ((va_up_self _ _ _).trans (congrArg (fun f => some (Sum.inl (cT 1, 31, Sum.inl f))) (cN_sN S 9 _ 1))), ((va_up_ne _ _ (fun q => absurd (hXI 11 9 (by decide) (by decide) q) (by decide))).trans ((va_up_ne _ _ (fun q => absurd (hXI 11 8 (by decide) (by decide) q) (by decide))).trans m11)), ((va_up_ne _ _ (fun q => absurd (hXI 12 9 (by decide) (by decide) q) (by decide))).trans ((va_up_ne _ _ (fun q => absurd (hXI 12 8 (by decide) (by decide) q) (by decide))).trans m12)), ((va_up_ne _ _ (fun q => absurd (hXI 13 9 (by decide) (by decide) q) (by decide))).trans ((va_up_ne _ _ (fun q => absurd (hXI 13 8 (by decide) (by decide) q) (by decide))).trans m13)), ((va_up_ne _ _ (fun q => absurd (hXI 14 9 (by decide) (by decide) q) (by decide))).trans ((va_up_ne _ _ (fun q => absurd (hXI 14 8 (by decide) (by decide) q) (by decide))).trans m14)), ((va_up_ne _ _ (fun q => absurd (hXI 15 9 (by decide) (by decide) q) (by decide))).trans ((va_up_ne _ _ (fun q => absurd (hXI 15 8 (by decide) (by decide) q) (by decide))).trans m15)), ((va_up_ne _ _ (fun q => absurd (hXI 16 9 (by decide) (by decide) q) (by decide))).trans ((va_up_ne _ _ (fun q => absurd (hXI 16 8 (by decide) (by decide) q) (by decide))).trans m16)), ((va_up_ne _ _ (fun q => absurd (hXI 17 9 (by decide) (by decide) q) (by decide))).trans ((va_up_ne _ _ (fun q => absurd (hXI 17 8 (by decide) (by decide) q) (by decide))).trans m17)), ((va_up_ne _ _ (fun q => absurd (hXI 18 9 (by decide) (by decide) q) (by decide))).trans ((va_up_ne _ _ (fun q => absurd (hXI 18 8 (by decide) (by decide) q) (by decide))).trans m18)), ((va_up_ne _ _ (fun q => absurd (hXI 19 9 (by decide) (by decide) q) (by decide))).trans ((va_up_ne _ _ (fun q => absurd (hXI 19 8 (by decide) (by decide) q) (by decide))).trans m19)), ((va_up_ne _ _ (fun q => absurd (hXI 21 9 (by decide) (by decide) q) (by decide))).trans ((va_up_ne _ _ (fun q => absurd (hXI 21 8 (by decide) (by decide) q) (by decide))).trans m21)), ((va_up_ne _ _ (fun q => absurd (hXI 22 9 (by decide) (by decide) q) (by decide))).trans ((va_up_ne _ _ (fun q => absurd (hXI 22 8 (by decide) (by decide) q) (by decide))).trans m22)), ((va_up_ne _ _ (fun q => absurd (hXI 23 9 (by decide) (by decide) q) (by decide))).trans ((va_up_ne _ _ (fun q => absurd (hXI 23 8 (by decide) (by decide) q) (by decide))).trans m23)), ((va_up_ne _ _ (fun q => absurd (hXI 24 9 (by decide) (by decide) q) (by decide))).trans ((va_up_ne _ _ (fun q => absurd (hXI 24 8 (by decide) (by decide) q) (by decide))).trans m24)), ((va_up_ne _ _ (fun q => absurd (hXI 25 9 (by decide) (by decide) q) (by decide))).trans ((va_up_ne _ _ (fun q => absurd (hXI 25 8 (by decide) (by decide) q) (by decide))).trans m25)), ((va_up_ne _ _ (fun q => absurd (hXI 26 9 (by decide) (by decide) q) (by decide))).trans ((va_up_ne _ _ (fun q => absurd (hXI 26 8 (by decide) (by decide) q) (by decide))).trans m26)), ((va_up_ne _ _ (fun q => absurd (hXI 27 9 (by decide) (by decide) q) (by decide))).trans ((va_up_ne _ _ (fun q => absurd (hXI 27 8 (by decide) (by decide) q) (by decide))).trans m27)), ((va_up_ne _ _ (fun q => absurd (hXI 29 9 (by decide) (by decide) q) (by decide))).trans ((va_up_ne _ _ (fun q => absurd (hXI 29 8 (by decide) (by decide) q) (by decide))).trans m29))⟩, rfl⟩)
                  · refine lv_bipush (v := (-2)) hx hb dX10_law_111 (by decide) ?_
                    exact z_iret hx hb hr hlocks hZ dX10_law_113 (mQ_of (by rw [sp_law, if_pos ⟨c7, c17, c27, c38, c49, c60, c72, c83⟩, if_pos (law_st hj30 hxj (by omega) c108)]) ⟨_, _, _, hM⟩)

set_option maxHeartbeats 4000000 in
set_option maxRecDepth 100000 in
theorem c_X10_yearOf (l : Launch) (D : va_G) (cT : Nat → ClassId) (G : zG) (sz : Nat) (S : zS) (X : Nat → Nat) (cz : Int32) (f27 f29 : Nat → Int32) (nn : Nat) (x : Int32) (d : Nat) (hM : MD cT S X cz f27 f29 G) (hXI : XI X) (hS : ok S nn) (hd : d ≤ 400) (hxd : x = nI d) : zM l D cT yX10_yearOf wsX10_yearOf (zR 0 0 0) [.ref (X 0), .int x] G sz (fun r G' => G' = G ∧ r = some (.int (nI (yx S d)))) := by
  refine z_start (cc := cX10_yearOf) (maxL := 3) (ret := (some .int)) (by decide) rfl (Nat.le_of_ble_eq_true rfl) ?_
  intro p e s m below meth c ls hI hZ hl
  obtain ⟨hx, hb, hr, hml, hts, hown, hlocks, hname, hK, hA, hE⟩ := hI
  have hl : lv_has ls 3 [(0, .ref (X 0)), (1, .int x)] := hl
  have hown : s.vm.findClass RX10 = some m.cls := hown
  have in_X10 : ∀ w ∈ u_ws RX10 TX10 30, w ∈ wsX10_yearOf := by decide +kernel
  have fl_28 := hts (.fieldLink RX10 28 "FairRentsModel" "isTold" "[Z") (by decide +kernel)
  obtain ⟨m0, m2, m3, m4, m5, m6, m8, m9, m11, m12, m13, m14, m15, m16, m17, m18, m19, m21, m22, m23, m24, m25, m26, m27, m29⟩ := id hM
  obtain ⟨⟨k1, k10, k20, k0⟩, kH, k9, k8, k15, k26, kL, kLn, kP, kE, kEm, kn⟩ := id hS
  refine lv_iload_n hx hb dX10_yearOf_0 rfl (lv_at hl 1 rfl) ?_
  refine lv_bipush (v := 10) hx hb dX10_yearOf_1 (by decide) ?_
  refine lv_idiv hx hb dX10_yearOf_3 (by decide) ?_
  refine lv_bipush (v := 30) hx hb dX10_yearOf_4 (by decide) ?_
  refine lv_icmp_le (tgt := 14) hx hb dX10_yearOf_6 (by decide) (fun c6 => ?_) (fun c6 => ?_)
  · have hd30 : d / 10 ≤ 30 := yr_le hd hxd c6
    refine lv_iload_n hx hb dX10_yearOf_14 rfl (lv_at hl 1 rfl) ?_
    refine lv_bipush (v := 10) hx hb dX10_yearOf_15 (by decide) ?_
    refine lv_idiv hx hb dX10_yearOf_17 (by decide) ?_
    refine W.eq (congrArg (fun v => F0 m 18 ls (.int v :: [])) (yr_t hd hxd hd30)) ?_
    refine W.eq (g2 := F0 m 18 ls [.int (nI (min (d / 10) 30 + 1) - 1)]) rfl ?_
    refine lv_istore_n (lv' := [(2, .int (nI (min (d / 10) 30 + 1) - 1)), (0, .ref (X 0)), (1, .int x)]) hx hb dX10_yearOf_18 rfl hl (by decide) rfl (fun ls hl => ?_)
    have loop19 : ∀ (k : Nat) (hk : k ≤ 31) (he : yrS S k = yx S d) (H : Heap) (locs : List Loc) (ls : Array Slot), zW D (zA G sz) s.heap G H locs → lv_has ls 3 [(2, .int (nI k - 1)), (0, .ref (X 0)), (1, .int x)] → W p l e (zR 0 0 0) s m ([.ref (X 0), .int x] : List Value).toArray below meth c H locs 0 0 (MQ below (zQ D G sz (fun r G' => G' = G ∧ r = some (.int (nI (yx S d))))) ([.ref (X 0), .int x] : List Value).toArray s 0 0 (zA G sz)) (F0 m 19 ls []) := by
      intro k
      induction k with
      | zero =>
        intro hk he H locs ls hZ hl
        refine lv_iload_n hx hb dX10_yearOf_19 rfl (lv_at hl 0 rfl) ?_
        refine lv_if_lt (tgt := 38) hx hb dX10_yearOf_20 (by decide) (fun _ => ?_) (fun c20 => absurd (show nI 0 - 1 < 0 by decide) c20)
        refine lv_iload_n hx hb dX10_yearOf_38 rfl (lv_at hl 0 rfl) ?_
        refine lv_if_ge (tgt := 47) hx hb dX10_yearOf_39 (by decide) (fun c39 => absurd c39 (show ¬ 0 ≤ nI 0 - 1 by decide)) (fun _ => ?_)
        refine lv_bipush (v := 31) hx hb dX10_yearOf_42 (by decide) ?_
        refine lv_goto (tgt := 48) hx hb dX10_yearOf_44 (by decide) ?_
        exact z_iret hx hb hr hlocks hZ dX10_yearOf_48 (⟨rfl, by rw [← he]; rfl⟩)
      | succ k ih19 =>
        intro hk he H locs ls hZ hl
        rw [nI_pred] at hl
        refine lv_iload_n hx hb dX10_yearOf_19 rfl (lv_at hl 0 rfl) ?_
        refine lv_if_lt (tgt := 38) hx hb dX10_yearOf_20 (by decide) (fun c20 => absurd c20 (nI_pos (by omega))) (fun _ => ?_)
        refine lv_aload_n hx hb dX10_yearOf_23 rfl (lv_at hl 1 rfl) ?_
        refine z_get (ci := 10) (fs := [.int (nI (S.1 0 0)), .int (nI (S.1 1 0)), .ref (X 2), .ref (X 3), .ref (X 4), .ref (X 5), .ref (X 6), .long S.2.2, .ref (X 8), .ref (X 9), .int (nI (S.1 10 0)), .ref (X 11), .ref (X 12), .ref (X 13), .ref (X 14), .ref (X 15), .ref (X 16), .ref (X 17), .ref (X 18), .ref (X 19), .int (nI (S.1 20 0)), .ref (X 21), .ref (X 22), .ref (X 23), .ref (X 24), .ref (X 25), .ref (X 26), .ref (X 27), .int cz, .ref (X 29)]) (C := RX10) (T := TX10) (N := 30) hx hb hts in_X10 hown hK hZ m0 rfl 9 (by decide) fl_28 (fun _ h9 => h9) rfl dX10_yearOf_24 ?_
        refine lv_iload_n hx hb dX10_yearOf_27 rfl (lv_at hl 0 rfl) ?_
        refine z_zald hx hb hK hZ m9 k rfl (by omega) (by decide) dX10_yearOf_28 ?_
        refine lv_if_ne (tgt := 38) hx hb dX10_yearOf_29 (by decide) (fun c29 => ?_) (fun c29 => ?_)
        · refine lv_iload_n hx hb dX10_yearOf_38 rfl (lv_at hl 0 rfl) ?_
          refine lv_if_ge (tgt := 47) hx hb dX10_yearOf_39 (by decide) (fun _ => ?_) (fun c39 => absurd (nI_pos' (by omega)) c39)
          refine lv_iload_n hx hb dX10_yearOf_47 rfl (lv_at hl 0 rfl) ?_
          exact z_iret hx hb hr hlocks hZ dX10_yearOf_48 (⟨rfl, by rw [← he, yrS, if_pos (yr_yes k9 c29)]⟩)
        · refine lv_iinc (v := nI k - 1) (lv' := [(2, .int (nI k - 1)), (0, .ref (X 0)), (1, .int x)]) hx hb dX10_yearOf_32 hl (k := 0) rfl (nI_m1 k) (by decide) rfl (fun ls hl => ?_)
          refine lv_goto (tgt := 19) hx hb dX10_yearOf_35 (by decide) ?_
          exact ih19 (by omega) (by rw [← he, yrS, if_neg (yr_no c29)]) _ _ _ hZ (lv_sub hl [0, 1, 2] rfl)
    exact loop19 (min (d / 10) 30 + 1) (by omega) rfl _ _ _ hZ (lv_sub hl [0, 1, 2] rfl)
  · have hd30 : ¬ d / 10 ≤ 30 := yr_gt hd hxd c6
    refine lv_bipush (v := 30) hx hb dX10_yearOf_9 (by decide) ?_
    refine lv_goto (tgt := 18) hx hb dX10_yearOf_11 (by decide) ?_
    refine W.eq (congrArg (fun v => F0 m 18 ls (.int v :: [])) (yr_f hd30)) ?_
    refine W.eq (g2 := F0 m 18 ls [.int (nI (min (d / 10) 30 + 1) - 1)]) rfl ?_
    refine lv_istore_n (lv' := [(2, .int (nI (min (d / 10) 30 + 1) - 1)), (0, .ref (X 0)), (1, .int x)]) hx hb dX10_yearOf_18 rfl hl (by decide) rfl (fun ls hl => ?_)
    have loop19 : ∀ (k : Nat) (hk : k ≤ 31) (he : yrS S k = yx S d) (H : Heap) (locs : List Loc) (ls : Array Slot), zW D (zA G sz) s.heap G H locs → lv_has ls 3 [(2, .int (nI k - 1)), (0, .ref (X 0)), (1, .int x)] → W p l e (zR 0 0 0) s m ([.ref (X 0), .int x] : List Value).toArray below meth c H locs 0 0 (MQ below (zQ D G sz (fun r G' => G' = G ∧ r = some (.int (nI (yx S d))))) ([.ref (X 0), .int x] : List Value).toArray s 0 0 (zA G sz)) (F0 m 19 ls []) := by
      intro k
      induction k with
      | zero =>
        intro hk he H locs ls hZ hl
        refine lv_iload_n hx hb dX10_yearOf_19 rfl (lv_at hl 0 rfl) ?_
        refine lv_if_lt (tgt := 38) hx hb dX10_yearOf_20 (by decide) (fun _ => ?_) (fun c20 => absurd (show nI 0 - 1 < 0 by decide) c20)
        refine lv_iload_n hx hb dX10_yearOf_38 rfl (lv_at hl 0 rfl) ?_
        refine lv_if_ge (tgt := 47) hx hb dX10_yearOf_39 (by decide) (fun c39 => absurd c39 (show ¬ 0 ≤ nI 0 - 1 by decide)) (fun _ => ?_)
        refine lv_bipush (v := 31) hx hb dX10_yearOf_42 (by decide) ?_
        refine lv_goto (tgt := 48) hx hb dX10_yearOf_44 (by decide) ?_
        exact z_iret hx hb hr hlocks hZ dX10_yearOf_48 (⟨rfl, by rw [← he]; rfl⟩)
      | succ k ih19 =>
        intro hk he H locs ls hZ hl
        rw [nI_pred] at hl
        refine lv_iload_n hx hb dX10_yearOf_19 rfl (lv_at hl 0 rfl) ?_
        refine lv_if_lt (tgt := 38) hx hb dX10_yearOf_20 (by decide) (fun c20 => absurd c20 (nI_pos (by omega))) (fun _ => ?_)
        refine lv_aload_n hx hb dX10_yearOf_23 rfl (lv_at hl 1 rfl) ?_
        refine z_get (ci := 10) (fs := [.int (nI (S.1 0 0)), .int (nI (S.1 1 0)), .ref (X 2), .ref (X 3), .ref (X 4), .ref (X 5), .ref (X 6), .long S.2.2, .ref (X 8), .ref (X 9), .int (nI (S.1 10 0)), .ref (X 11), .ref (X 12), .ref (X 13), .ref (X 14), .ref (X 15), .ref (X 16), .ref (X 17), .ref (X 18), .ref (X 19), .int (nI (S.1 20 0)), .ref (X 21), .ref (X 22), .ref (X 23), .ref (X 24), .ref (X 25), .ref (X 26), .ref (X 27), .int cz, .ref (X 29)]) (C := RX10) (T := TX10) (N := 30) hx hb hts in_X10 hown hK hZ m0 rfl 9 (by decide) fl_28 (fun _ h9 => h9) rfl dX10_yearOf_24 ?_
        refine lv_iload_n hx hb dX10_yearOf_27 rfl (lv_at hl 0 rfl) ?_
        refine z_zald hx hb hK hZ m9 k rfl (by omega) (by decide) dX10_yearOf_28 ?_
        refine lv_if_ne (tgt := 38) hx hb dX10_yearOf_29 (by decide) (fun c29 => ?_) (fun c29 => ?_)
        · refine lv_iload_n hx hb dX10_yearOf_38 rfl (lv_at hl 0 rfl) ?_
          refine lv_if_ge (tgt := 47) hx hb dX10_yearOf_39 (by decide) (fun _ => ?_) (fun c39 => absurd (nI_pos' (by omega)) c39)
          refine lv_iload_n hx hb dX10_yearOf_47 rfl (lv_at hl 0 rfl) ?_
          exact z_iret hx hb hr hlocks hZ dX10_yearOf_48 (⟨rfl, by rw [← he, yrS, if_pos (yr_yes k9 c29)]⟩)
        · refine lv_iinc (v := nI k - 1) (lv' := [(2, .int (nI k - 1)), (0, .ref (X 0)), (1, .int x)]) hx hb dX10_yearOf_32 hl (k := 0) rfl (nI_m1 k) (by decide) rfl (fun ls hl => ?_)
          refine lv_goto (tgt := 19) hx hb dX10_yearOf_35 (by decide) ?_
          exact ih19 (by omega) (by rw [← he, yrS, if_neg (yr_no c29)]) _ _ _ hZ (lv_sub hl [0, 1, 2] rfl)
    exact loop19 (min (d / 10) 30 + 1) (by omega) rfl _ _ _ hZ (lv_sub hl [0, 1, 2] rfl)

set_option maxHeartbeats 4000000 in
set_option maxRecDepth 100000 in
theorem c_X10_lawOf (l : Launch) (D : va_G) (cT : Nat → ClassId) (G : zG) (sz : Nat) (S : zS) (X : Nat → Nat) (cz : Int32) (f27 f29 : Nat → Int32) (nn : Nat) (x y : Int32) (d k : Nat) (hM : MD cT S X cz f27 f29 G) (hXI : XI X) (hS : ok S nn) (hd : d ≤ 400) (hxd : x = nI d) (hk : k < 7) (hyk : y = nI k) : zM l D cT yX10_lawOf wsX10_lawOf (zR 1 0 0) [.ref (X 0), .int x, .int y] G sz (fun r G' => G' = G ∧ r = some (.int (lw S d k))) := by
  refine z_start (cc := cX10_lawOf) (maxL := 3) (ret := (some .int)) (by decide) rfl (Nat.le_of_ble_eq_true rfl) ?_
  intro p e s m below meth c ls hI hZ hl
  obtain ⟨hx, hb, hr, hml, hts, hown, hlocks, hname, hK, hA, hE⟩ := hI
  have hl : lv_has ls 3 [(0, .ref (X 0)), (1, .int x), (2, .int y)] := hl
  have hown : s.vm.findClass RX10 = some m.cls := hown
  have in_X10 : ∀ w ∈ u_ws RX10 TX10 30, w ∈ wsX10_lawOf := by decide +kernel
  have fl_25 := hts (.fieldLink RX10 25 "FairRentsModel" "laws" "[I") (by decide +kernel)
  obtain ⟨m0, m2, m3, m4, m5, m6, m8, m9, m11, m12, m13, m14, m15, m16, m17, m18, m19, m21, m22, m23, m24, m25, m26, m27, m29⟩ := id hM
  obtain ⟨⟨k1, k10, k20, k0⟩, kH, k9, k8, k15, k26, kL, kLn, kP, kE, kEm, kn⟩ := id hS
  refine lv_aload_n hx hb dX10_lawOf_0 rfl (lv_at hl 0 rfl) ?_
  refine z_get (ci := 10) (fs := [.int (nI (S.1 0 0)), .int (nI (S.1 1 0)), .ref (X 2), .ref (X 3), .ref (X 4), .ref (X 5), .ref (X 6), .long S.2.2, .ref (X 8), .ref (X 9), .int (nI (S.1 10 0)), .ref (X 11), .ref (X 12), .ref (X 13), .ref (X 14), .ref (X 15), .ref (X 16), .ref (X 17), .ref (X 18), .ref (X 19), .int (nI (S.1 20 0)), .ref (X 21), .ref (X 22), .ref (X 23), .ref (X 24), .ref (X 25), .ref (X 26), .ref (X 27), .int cz, .ref (X 29)]) (C := RX10) (T := TX10) (N := 30) hx hb hts in_X10 hown hK hZ m0 rfl 8 (by decide) fl_25 (fun _ h9 => h9) rfl dX10_lawOf_1 ?_
  refine lv_bipush (v := 7) hx hb dX10_lawOf_4 (by decide) ?_
  refine lv_aload_n hx hb dX10_lawOf_6 rfl (lv_at hl 0 rfl) ?_
  refine lv_iload_n hx hb dX10_lawOf_7 rfl (lv_at hl 1 rfl) ?_
  refine z_call (va_runV (As := [.int x]) (rest := [.int 7, .ref (X 8)]) ⟨hx, hb, hml, hown, hts⟩ (c_X10_yearOf l D cT _ _ S X _ _ _ nn x d hM hXI hS hd hxd) (cwV 1 hts gX10_lawOf_X10_yearOf rfl rfl rfl (by decide +kernel) ⟨(Nat.le_of_ble_eq_true rfl), (Nat.le_of_ble_eq_true rfl)⟩) (z_preV hK hE hZ hA (ci := 10) rfl m0) rfl rfl hl.1 rfl (lv_room (Nat.le_of_ble_eq_true rfl)) dX10_lawOf_8 ⟨(Nat.le_of_ble_eq_true rfl), (Nat.le_of_ble_eq_true rfl)⟩) hZ hA (fun r G8 H locs hq hZ => ?_)
  obtain ⟨hg, rfl⟩ := hq
  replace hg := hg.symm
  subst hg
  refine W.eq (g2 := F0 m 11 ls [.int (nI (yx S d)), .int 7, .ref (X 8)]) rfl ?_
  refine lv_imul hx hb dX10_lawOf_11 ?_
  refine lv_iload_n hx hb dX10_lawOf_12 rfl (lv_at hl 2 rfl) ?_
  refine lv_iadd hx hb dX10_lawOf_13 ?_
  refine z_iald hx hb hK hZ m8 (7 * yx S d + k) (lw_ix hyk) (lw_lt S d hk) (by decide) dX10_lawOf_14 ?_
  exact z_iret hx hb hr hlocks hZ dX10_lawOf_15 (⟨rfl, rfl⟩)

set_option maxHeartbeats 4000000 in
set_option maxRecDepth 100000 in
theorem c_X10_force (l : Launch) (D : va_G) (cT : Nat → ClassId) (G : zG) (sz : Nat) (S : zS) (X : Nat → Nat) (cz : Int32) (f27 f29 : Nat → Int32) (nn : Nat) (x y : Int32) (hM : MD cT S X cz f27 f29 G) (hXI : XI X) (hS : ok S nn)  : zM l D cT yX10_force wsX10_force (zR 2 0 0) [.ref (X 0), .int x, .int y] G sz (mQ cT X (sp_force S x y)) := by
  refine z_start (cc := cX10_force) (maxL := 3) (ret := (some .int)) (by decide) rfl (Nat.le_of_ble_eq_true rfl) ?_
  intro p e s m below meth c ls hI hZ hl
  obtain ⟨hx, hb, hr, hml, hts, hown, hlocks, hname, hK, hA, hE⟩ := hI
  have hl : lv_has ls 3 [(0, .ref (X 0)), (1, .int x), (2, .int y)] := hl
  have hown : s.vm.findClass RX10 = some m.cls := hown
  obtain ⟨m0, m2, m3, m4, m5, m6, m8, m9, m11, m12, m13, m14, m15, m16, m17, m18, m19, m21, m22, m23, m24, m25, m26, m27, m29⟩ := id hM
  obtain ⟨⟨k1, k10, k20, k0⟩, kH, k9, k8, k15, k26, kL, kLn, kP, kE, kEm, kn⟩ := id hS
  refine lv_iload_n hx hb dX10_force_0 rfl (lv_at hl 1 rfl) ?_
  refine lv_iconst (v := 0) hx hb dX10_force_1 (by decide) ?_
  refine lv_sipush (v := 400) hx hb dX10_force_2 (by decide) ?_
  refine z_call (va_runS (As := [.int x, .int 0, .int 400]) (rest := []) ⟨hx, hb, hml, hown, hts⟩ (c_X10_in l D cT _ _ x 0 400) (va_cwS 3 hts gX10_force_X10_in rfl rfl rfl (by decide +kernel) ⟨(Nat.le_of_ble_eq_true rfl), (Nat.le_of_ble_eq_true rfl)⟩) (z_preS hK hE hZ hA) rfl rfl hl.1 rfl (lv_room (Nat.le_of_ble_eq_true rfl)) dX10_force_5 ⟨(Nat.le_of_ble_eq_true rfl), (Nat.le_of_ble_eq_true rfl)⟩) hZ hA (fun r G5 H locs hq hZ => ?_)
  obtain ⟨hg, rfl⟩ := hq
  replace hg := hg.symm
  subst hg
  refine W.eq (g2 := F0 m 8 ls [.int (if 0 ≤ x ∧ x ≤ 400 then 1 else 0)]) rfl ?_
  refine zb_eq (tgt := 21) hx hb dX10_force_8 (by decide) (fun c8 => ?_) (fun c8 => ?_)
  · refine lv_iconst (v := (-1)) hx hb dX10_force_21 (by decide) ?_
    exact z_iret hx hb hr hlocks hZ dX10_force_22 (mQ_of (by rw [sp_force, if_neg (fun h => c8 h.1)]) ⟨_, _, _, hM⟩)
  · refine lv_iload_n hx hb dX10_force_11 rfl (lv_at hl 2 rfl) ?_
    refine lv_iconst (v := 0) hx hb dX10_force_12 (by decide) ?_
    refine lv_bipush (v := 7) hx hb dX10_force_13 (by decide) ?_
    refine z_call (va_runS (As := [.int y, .int 0, .int 7]) (rest := []) ⟨hx, hb, hml, hown, hts⟩ (c_X10_in l D cT _ _ y 0 7) (va_cwS 3 hts gX10_force_X10_in rfl rfl rfl (by decide +kernel) ⟨(Nat.le_of_ble_eq_true rfl), (Nat.le_of_ble_eq_true rfl)⟩) (z_preS hK hE hZ hA) rfl rfl hl.1 rfl (lv_room (Nat.le_of_ble_eq_true rfl)) dX10_force_15 ⟨(Nat.le_of_ble_eq_true rfl), (Nat.le_of_ble_eq_true rfl)⟩) hZ hA (fun r G15 H locs hq hZ => ?_)
    obtain ⟨hg, rfl⟩ := hq
    replace hg := hg.symm
    subst hg
    refine W.eq (g2 := F0 m 18 ls [.int (if 0 ≤ y ∧ y ≤ 7 then 1 else 0)]) rfl ?_
    refine zb_ne (tgt := 23) hx hb dX10_force_18 (by decide) (fun c18 => ?_) (fun c18 => ?_)
    · have hxd : x = nI x.toNatClampNeg := (z_self c8.1).symm
      have hyk : y = nI y.toNatClampNeg := (z_self c18.1).symm
      have hd : x.toNatClampNeg ≤ 400 := z_cl c8 (by decide)
      have hk7 : y.toNatClampNeg ≤ 7 := z_cl c18 (by decide)
      refine lv_iload_n hx hb dX10_force_23 rfl (lv_at hl 2 rfl) ?_
      refine lv_bipush (v := 7) hx hb dX10_force_24 (by decide) ?_
      refine lv_icmp_ge (tgt := 38) hx hb dX10_force_26 (by decide) (fun c26 => ?_) (fun c26 => ?_)
      · have hk : ¬ y.toNatClampNeg < 7 := fr_ge hyk hk7 c26
        refine lv_aload_n hx hb dX10_force_38 rfl (lv_at hl 0 rfl) ?_
        refine lv_iload_n hx hb dX10_force_39 rfl (lv_at hl 1 rfl) ?_
        refine z_call (va_runV (As := [.int x]) (rest := []) ⟨hx, hb, hml, hown, hts⟩ (c_X10_yearOf l D cT _ _ S X _ _ _ nn x x.toNatClampNeg hM hXI hS hd hxd) (cwV 1 hts gX10_force_X10_yearOf rfl rfl rfl (by decide +kernel) ⟨(Nat.le_of_ble_eq_true rfl), (Nat.le_of_ble_eq_true rfl)⟩) (z_preV hK hE hZ hA (ci := 10) rfl m0) rfl rfl hl.1 rfl (lv_room (Nat.le_of_ble_eq_true rfl)) dX10_force_40 ⟨(Nat.le_of_ble_eq_true rfl), (Nat.le_of_ble_eq_true rfl)⟩) hZ hA (fun r G40 H locs hq hZ => ?_)
        obtain ⟨hg, rfl⟩ := hq
        replace hg := hg.symm
        subst hg
        refine W.eq (g2 := F0 m 43 ls [.int (nI (yx S x.toNatClampNeg))]) rfl ?_
        refine lv_bipush (v := 31) hx hb dX10_force_43 (by decide) ?_
        refine lv_icmp_ne (tgt := 53) hx hb dX10_force_45 (by decide) (fun c45 => ?_) (fun c45 => ?_)
        · have h31 : ¬ yx S x.toNatClampNeg = 31 := fun h => c45 (by rw [h]; rfl)
          refine lv_aload_n hx hb dX10_force_53 rfl (lv_at hl 0 rfl) ?_
          refine lv_iload_n hx hb dX10_force_54 rfl (lv_at hl 1 rfl) ?_
          refine z_call (va_runV (As := [.int x]) (rest := []) ⟨hx, hb, hml, hown, hts⟩ (c_X10_yearOf l D cT _ _ S X _ _ _ nn x x.toNatClampNeg hM hXI hS hd hxd) (cwV 1 hts gX10_force_X10_yearOf rfl rfl rfl (by decide +kernel) ⟨(Nat.le_of_ble_eq_true rfl), (Nat.le_of_ble_eq_true rfl)⟩) (z_preV hK hE hZ hA (ci := 10) rfl m0) rfl rfl hl.1 rfl (lv_room (Nat.le_of_ble_eq_true rfl)) dX10_force_55 ⟨(Nat.le_of_ble_eq_true rfl), (Nat.le_of_ble_eq_true rfl)⟩) hZ hA (fun r G55 H locs hq hZ => ?_)
          obtain ⟨hg, rfl⟩ := hq
          replace hg := hg.symm
          subst hg
          refine W.eq (g2 := F0 m 58 ls [.int (nI (yx S x.toNatClampNeg))]) rfl ?_
          exact z_iret hx hb hr hlocks hZ dX10_force_58 (mQ_of (by rw [sp_force, if_pos ⟨c8, c18⟩, if_neg hk, if_neg h31]) ⟨_, _, _, hM⟩)
        · have h31 : yx S x.toNatClampNeg = 31 := nI_inj (yx_lt S _) (by decide) c45
          refine lv_bipush (v := (-9)) hx hb dX10_force_48 (by decide) ?_
          refine lv_goto (tgt := 58) hx hb dX10_force_50 (by decide) ?_
          exact z_iret hx hb hr hlocks hZ dX10_force_58 (mQ_of (by rw [sp_force, if_pos ⟨c8, c18⟩, if_neg hk, if_pos h31]) ⟨_, _, _, hM⟩)
      · have hk : y.toNatClampNeg < 7 := fr_lt hyk hk7 c26
        refine lv_aload_n hx hb dX10_force_29 rfl (lv_at hl 0 rfl) ?_
        refine lv_iload_n hx hb dX10_force_30 rfl (lv_at hl 1 rfl) ?_
        refine lv_iload_n hx hb dX10_force_31 rfl (lv_at hl 2 rfl) ?_
        refine z_call (va_runV (As := [.int x, .int y]) (rest := []) ⟨hx, hb, hml, hown, hts⟩ (c_X10_lawOf l D cT _ _ S X _ _ _ nn x y x.toNatClampNeg y.toNatClampNeg hM hXI hS hd hxd hk hyk) (cwV 2 hts gX10_force_X10_lawOf rfl rfl rfl (by decide +kernel) ⟨(Nat.le_of_ble_eq_true rfl), (Nat.le_of_ble_eq_true rfl)⟩) (z_preV hK hE hZ hA (ci := 10) rfl m0) rfl rfl hl.1 rfl (lv_room (Nat.le_of_ble_eq_true rfl)) dX10_force_32 ⟨(Nat.le_of_ble_eq_true rfl), (Nat.le_of_ble_eq_true rfl)⟩) hZ hA (fun r G32 H locs hq hZ => ?_)
        obtain ⟨hg, rfl⟩ := hq
        replace hg := hg.symm
        subst hg
        refine W.eq (g2 := F0 m 35 ls [.int (lw S x.toNatClampNeg y.toNatClampNeg)]) rfl ?_
        refine lv_goto (tgt := 58) hx hb dX10_force_35 (by decide) ?_
        exact z_iret hx hb hr hlocks hZ dX10_force_58 (mQ_of (by rw [sp_force, if_pos ⟨c8, c18⟩, if_pos hk]) ⟨_, _, _, hM⟩)
    · refine lv_iconst (v := (-1)) hx hb dX10_force_21 (by decide) ?_
      exact z_iret hx hb hr hlocks hZ dX10_force_22 (mQ_of (by rw [sp_force, if_neg (fun h => c18 h.2)]) ⟨_, _, _, hM⟩)

set_option maxHeartbeats 4000000 in
set_option maxRecDepth 100000 in
theorem c_X10_like (l : Launch) (D : va_G) (cT : Nat → ClassId) (G : zG) (sz : Nat) (S : zS) (X : Nat → Nat) (cz : Int32) (f27 f29 : Nat → Int32) (nn : Nat) (x a b : Int32) (hM : MD cT S X cz f27 f29 G) (hXI : XI X) (hS : ok S nn)  : zM l D cT yX10_like wsX10_like (zR 1 0 0) [.ref (X 0), .int x, .int a, .int b] G sz (mQ cT X (sp_like S x a b)) := by
  refine z_start (cc := cX10_like) (maxL := 4) (ret := (some .int)) (by decide) rfl (Nat.le_of_ble_eq_true rfl) ?_
  intro p e s m below meth c ls hI hZ hl
  obtain ⟨hx, hb, hr, hml, hts, hown, hlocks, hname, hK, hA, hE⟩ := hI
  have hl : lv_has ls 4 [(0, .ref (X 0)), (1, .int x), (2, .int a), (3, .int b)] := hl
  have hown : s.vm.findClass RX10 = some m.cls := hown
  have in_X10 : ∀ w ∈ u_ws RX10 TX10 30, w ∈ wsX10_like := by decide +kernel
  have fl_32 := hts (.fieldLink RX10 32 "FairRentsModel" "likeArea" "[I") (by decide +kernel)
  have fl_35 := hts (.fieldLink RX10 35 "FairRentsModel" "likePoints" "[I") (by decide +kernel)
  have fl_38 := hts (.fieldLink RX10 38 "FairRentsModel" "likeRent" "[I") (by decide +kernel)
  have fl_41 := hts (.fieldLink RX10 41 "FairRentsModel" "likeDay" "[I") (by decide +kernel)
  have fl_44 := hts (.fieldLink RX10 44 "FairRentsModel" "isStruck" "[Z") (by decide +kernel)
  have fl_107 := hts (.fieldLink RX10 107 "FairRentsModel" "today" "I") (by decide +kernel)
  have fl_117 := hts (.fieldLink RX10 117 "FairRentsModel" "likes" "I") (by decide +kernel)
  obtain ⟨m0, m2, m3, m4, m5, m6, m8, m9, m11, m12, m13, m14, m15, m16, m17, m18, m19, m21, m22, m23, m24, m25, m26, m27, m29⟩ := id hM
  obtain ⟨⟨k1, k10, k20, k0⟩, kH, k9, k8, k15, k26, kL, kLn, kP, kE, kEm, kn⟩ := id hS
  refine lv_iload_n hx hb dX10_like_0 rfl (lv_at hl 1 rfl) ?_
  refine lv_iconst (v := 0) hx hb dX10_like_1 (by decide) ?_
  refine lv_iconst (v := 2) hx hb dX10_like_2 (by decide) ?_
  refine z_call (va_runS (As := [.int x, .int 0, .int 2]) (rest := []) ⟨hx, hb, hml, hown, hts⟩ (c_X10_in l D cT _ _ x 0 2) (va_cwS 3 hts gX10_like_X10_in rfl rfl rfl (by decide +kernel) ⟨(Nat.le_of_ble_eq_true rfl), (Nat.le_of_ble_eq_true rfl)⟩) (z_preS hK hE hZ hA) rfl rfl hl.1 rfl (lv_room (Nat.le_of_ble_eq_true rfl)) dX10_like_3 ⟨(Nat.le_of_ble_eq_true rfl), (Nat.le_of_ble_eq_true rfl)⟩) hZ hA (fun r G3 H locs hq hZ => ?_)
  obtain ⟨hg, rfl⟩ := hq
  replace hg := hg.symm
  subst hg
  refine W.eq (g2 := F0 m 6 ls [.int (if 0 ≤ x ∧ x ≤ 2 then 1 else 0)]) rfl ?_
  refine zb_eq (tgt := 31) hx hb dX10_like_6 (by decide) (fun c6 => ?_) (fun c6 => ?_)
  · refine lv_iconst (v := (-1)) hx hb dX10_like_31 (by decide) ?_
    exact z_iret hx hb hr hlocks hZ dX10_like_32 (mQ_of (by rw [sp_like, if_neg (fun h => c6 h.1)]) ⟨_, _, _, hM⟩)
  · refine lv_iload_n hx hb dX10_like_9 rfl (lv_at hl 2 rfl) ?_
    refine lv_iconst (v := 0) hx hb dX10_like_10 (by decide) ?_
    refine lv_sipush (v := 200) hx hb dX10_like_11 (by decide) ?_
    refine z_call (va_runS (As := [.int a, .int 0, .int 200]) (rest := []) ⟨hx, hb, hml, hown, hts⟩ (c_X10_in l D cT _ _ a 0 200) (va_cwS 3 hts gX10_like_X10_in rfl rfl rfl (by decide +kernel) ⟨(Nat.le_of_ble_eq_true rfl), (Nat.le_of_ble_eq_true rfl)⟩) (z_preS hK hE hZ hA) rfl rfl hl.1 rfl (lv_room (Nat.le_of_ble_eq_true rfl)) dX10_like_14 ⟨(Nat.le_of_ble_eq_true rfl), (Nat.le_of_ble_eq_true rfl)⟩) hZ hA (fun r G14 H locs hq hZ => ?_)
    obtain ⟨hg, rfl⟩ := hq
    replace hg := hg.symm
    subst hg
    refine W.eq (g2 := F0 m 17 ls [.int (if 0 ≤ a ∧ a ≤ 200 then 1 else 0)]) rfl ?_
    refine zb_eq (tgt := 31) hx hb dX10_like_17 (by decide) (fun c17 => ?_) (fun c17 => ?_)
    · refine lv_iconst (v := (-1)) hx hb dX10_like_31 (by decide) ?_
      exact z_iret hx hb hr hlocks hZ dX10_like_32 (mQ_of (by rw [sp_like, if_neg (fun h => c17 h.2.1)]) ⟨_, _, _, hM⟩)
    · refine lv_iload_n hx hb dX10_like_20 rfl (lv_at hl 3 rfl) ?_
      refine lv_iconst (v := 1) hx hb dX10_like_21 (by decide) ?_
      refine lv_sipush (v := 5000) hx hb dX10_like_22 (by decide) ?_
      refine z_call (va_runS (As := [.int b, .int 1, .int 5000]) (rest := []) ⟨hx, hb, hml, hown, hts⟩ (c_X10_in l D cT _ _ b 1 5000) (va_cwS 3 hts gX10_like_X10_in rfl rfl rfl (by decide +kernel) ⟨(Nat.le_of_ble_eq_true rfl), (Nat.le_of_ble_eq_true rfl)⟩) (z_preS hK hE hZ hA) rfl rfl hl.1 rfl (lv_room (Nat.le_of_ble_eq_true rfl)) dX10_like_25 ⟨(Nat.le_of_ble_eq_true rfl), (Nat.le_of_ble_eq_true rfl)⟩) hZ hA (fun r G25 H locs hq hZ => ?_)
      obtain ⟨hg, rfl⟩ := hq
      replace hg := hg.symm
      subst hg
      refine W.eq (g2 := F0 m 28 ls [.int (if 1 ≤ b ∧ b ≤ 5000 then 1 else 0)]) rfl ?_
      refine zb_ne (tgt := 33) hx hb dX10_like_28 (by decide) (fun c28 => ?_) (fun c28 => ?_)
      · refine lv_aload_n hx hb dX10_like_33 rfl (lv_at hl 0 rfl) ?_
        refine z_get (ci := 10) (fs := [.int (nI (S.1 0 0)), .int (nI (S.1 1 0)), .ref (X 2), .ref (X 3), .ref (X 4), .ref (X 5), .ref (X 6), .long S.2.2, .ref (X 8), .ref (X 9), .int (nI (S.1 10 0)), .ref (X 11), .ref (X 12), .ref (X 13), .ref (X 14), .ref (X 15), .ref (X 16), .ref (X 17), .ref (X 18), .ref (X 19), .int (nI (S.1 20 0)), .ref (X 21), .ref (X 22), .ref (X 23), .ref (X 24), .ref (X 25), .ref (X 26), .ref (X 27), .int cz, .ref (X 29)]) (C := RX10) (T := TX10) (N := 30) hx hb hts in_X10 hown hK hZ m0 rfl 10 (by decide) fl_117 (fun _ h9 => h9) rfl dX10_like_34 ?_
        refine lv_bipush (v := 12) hx hb dX10_like_37 (by decide) ?_
        refine lv_icmp_ne (tgt := 45) hx hb dX10_like_39 (by decide) (fun c39 => ?_) (fun c39 => ?_)
        · have c8 : ¬ S.1 10 0 = 12 := fun h => c39 (by rw [h]; rfl)
          refine lv_aload_n hx hb dX10_like_45 rfl (lv_at hl 0 rfl) ?_
          refine z_get (ci := 10) (fs := [.int (nI (S.1 0 0)), .int (nI (S.1 1 0)), .ref (X 2), .ref (X 3), .ref (X 4), .ref (X 5), .ref (X 6), .long S.2.2, .ref (X 8), .ref (X 9), .int (nI (S.1 10 0)), .ref (X 11), .ref (X 12), .ref (X 13), .ref (X 14), .ref (X 15), .ref (X 16), .ref (X 17), .ref (X 18), .ref (X 19), .int (nI (S.1 20 0)), .ref (X 21), .ref (X 22), .ref (X 23), .ref (X 24), .ref (X 25), .ref (X 26), .ref (X 27), .int cz, .ref (X 29)]) (C := RX10) (T := TX10) (N := 30) hx hb hts in_X10 hown hK hZ m0 rfl 11 (by decide) fl_32 (fun _ h9 => h9) rfl dX10_like_46 ?_
          refine lv_aload_n hx hb dX10_like_49 rfl (lv_at hl 0 rfl) ?_
          refine z_get (ci := 10) (fs := [.int (nI (S.1 0 0)), .int (nI (S.1 1 0)), .ref (X 2), .ref (X 3), .ref (X 4), .ref (X 5), .ref (X 6), .long S.2.2, .ref (X 8), .ref (X 9), .int (nI (S.1 10 0)), .ref (X 11), .ref (X 12), .ref (X 13), .ref (X 14), .ref (X 15), .ref (X 16), .ref (X 17), .ref (X 18), .ref (X 19), .int (nI (S.1 20 0)), .ref (X 21), .ref (X 22), .ref (X 23), .ref (X 24), .ref (X 25), .ref (X 26), .ref (X 27), .int cz, .ref (X 29)]) (C := RX10) (T := TX10) (N := 30) hx hb hts in_X10 hown hK hZ m0 rfl 10 (by decide) fl_117 (fun _ h9 => h9) rfl dX10_like_50 ?_
          refine lv_iload_n hx hb dX10_like_53 rfl (lv_at hl 1 rfl) ?_
          refine z_iast hx hb hK hZ m11 (S.1 10 0) rfl (by omega) (by decide) dX10_like_54 (fun H locs hZ => ?_)
          refine lv_aload_n hx hb dX10_like_55 rfl (lv_at hl 0 rfl) ?_
          refine z_get (ci := 10) (fs := [.int (nI (S.1 0 0)), .int (nI (S.1 1 0)), .ref (X 2), .ref (X 3), .ref (X 4), .ref (X 5), .ref (X 6), .long S.2.2, .ref (X 8), .ref (X 9), .int (nI (S.1 10 0)), .ref (X 11), .ref (X 12), .ref (X 13), .ref (X 14), .ref (X 15), .ref (X 16), .ref (X 17), .ref (X 18), .ref (X 19), .int (nI (S.1 20 0)), .ref (X 21), .ref (X 22), .ref (X 23), .ref (X 24), .ref (X 25), .ref (X 26), .ref (X 27), .int cz, .ref (X 29)]) (C := RX10) (T := TX10) (N := 30) hx hb hts in_X10 hown hK hZ ((va_up_ne _ _ (fun q => absurd (hXI 0 11 (by decide) (by decide) q) (by decide))).trans m0) rfl 12 (by decide) fl_35 (fun _ h9 => h9) rfl dX10_like_56 ?_
          refine lv_aload_n hx hb dX10_like_59 rfl (lv_at hl 0 rfl) ?_
          refine z_get (ci := 10) (fs := [.int (nI (S.1 0 0)), .int (nI (S.1 1 0)), .ref (X 2), .ref (X 3), .ref (X 4), .ref (X 5), .ref (X 6), .long S.2.2, .ref (X 8), .ref (X 9), .int (nI (S.1 10 0)), .ref (X 11), .ref (X 12), .ref (X 13), .ref (X 14), .ref (X 15), .ref (X 16), .ref (X 17), .ref (X 18), .ref (X 19), .int (nI (S.1 20 0)), .ref (X 21), .ref (X 22), .ref (X 23), .ref (X 24), .ref (X 25), .ref (X 26), .ref (X 27), .int cz, .ref (X 29)]) (C := RX10) (T := TX10) (N := 30) hx hb hts in_X10 hown hK hZ ((va_up_ne _ _ (fun q => absurd (hXI 0 11 (by decide) (by decide) q) (by decide))).trans m0) rfl 10 (by decide) fl_117 (fun _ h9 => h9) rfl dX10_like_60 ?_
          refine lv_iload_n hx hb dX10_like_63 rfl (lv_at hl 2 rfl) ?_
          refine z_iast hx hb hK hZ ((va_up_ne _ _ (fun q => absurd (hXI 12 11 (by decide) (by decide) q) (by decide))).trans m12) (S.1 10 0) rfl (by omega) (by decide) dX10_like_64 (fun H locs hZ => ?_)
          refine lv_aload_n hx hb dX10_like_65 rfl (lv_at hl 0 rfl) ?_
          refine z_get (ci := 10) (fs := [.int (nI (S.1 0 0)), .int (nI (S.1 1 0)), .ref (X 2), .ref (X 3), .ref (X 4), .ref (X 5), .ref (X 6), .long S.2.2, .ref (X 8), .ref (X 9), .int (nI (S.1 10 0)), .ref (X 11), .ref (X 12), .ref (X 13), .ref (X 14), .ref (X 15), .ref (X 16), .ref (X 17), .ref (X 18), .ref (X 19), .int (nI (S.1 20 0)), .ref (X 21), .ref (X 22), .ref (X 23), .ref (X 24), .ref (X 25), .ref (X 26), .ref (X 27), .int cz, .ref (X 29)]) (C := RX10) (T := TX10) (N := 30) hx hb hts in_X10 hown hK hZ ((va_up_ne _ _ (fun q => absurd (hXI 0 12 (by decide) (by decide) q) (by decide))).trans ((va_up_ne _ _ (fun q => absurd (hXI 0 11 (by decide) (by decide) q) (by decide))).trans m0)) rfl 13 (by decide) fl_38 (fun _ h9 => h9) rfl dX10_like_66 ?_
          refine lv_aload_n hx hb dX10_like_69 rfl (lv_at hl 0 rfl) ?_
          refine z_get (ci := 10) (fs := [.int (nI (S.1 0 0)), .int (nI (S.1 1 0)), .ref (X 2), .ref (X 3), .ref (X 4), .ref (X 5), .ref (X 6), .long S.2.2, .ref (X 8), .ref (X 9), .int (nI (S.1 10 0)), .ref (X 11), .ref (X 12), .ref (X 13), .ref (X 14), .ref (X 15), .ref (X 16), .ref (X 17), .ref (X 18), .ref (X 19), .int (nI (S.1 20 0)), .ref (X 21), .ref (X 22), .ref (X 23), .ref (X 24), .ref (X 25), .ref (X 26), .ref (X 27), .int cz, .ref (X 29)]) (C := RX10) (T := TX10) (N := 30) hx hb hts in_X10 hown hK hZ ((va_up_ne _ _ (fun q => absurd (hXI 0 12 (by decide) (by decide) q) (by decide))).trans ((va_up_ne _ _ (fun q => absurd (hXI 0 11 (by decide) (by decide) q) (by decide))).trans m0)) rfl 10 (by decide) fl_117 (fun _ h9 => h9) rfl dX10_like_70 ?_
          refine lv_iload_n hx hb dX10_like_73 rfl (lv_at hl 3 rfl) ?_
          refine z_iast hx hb hK hZ ((va_up_ne _ _ (fun q => absurd (hXI 13 12 (by decide) (by decide) q) (by decide))).trans ((va_up_ne _ _ (fun q => absurd (hXI 13 11 (by decide) (by decide) q) (by decide))).trans m13)) (S.1 10 0) rfl (by omega) (by decide) dX10_like_74 (fun H locs hZ => ?_)
          refine lv_aload_n hx hb dX10_like_75 rfl (lv_at hl 0 rfl) ?_
          refine z_get (ci := 10) (fs := [.int (nI (S.1 0 0)), .int (nI (S.1 1 0)), .ref (X 2), .ref (X 3), .ref (X 4), .ref (X 5), .ref (X 6), .long S.2.2, .ref (X 8), .ref (X 9), .int (nI (S.1 10 0)), .ref (X 11), .ref (X 12), .ref (X 13), .ref (X 14), .ref (X 15), .ref (X 16), .ref (X 17), .ref (X 18), .ref (X 19), .int (nI (S.1 20 0)), .ref (X 21), .ref (X 22), .ref (X 23), .ref (X 24), .ref (X 25), .ref (X 26), .ref (X 27), .int cz, .ref (X 29)]) (C := RX10) (T := TX10) (N := 30) hx hb hts in_X10 hown hK hZ ((va_up_ne _ _ (fun q => absurd (hXI 0 13 (by decide) (by decide) q) (by decide))).trans ((va_up_ne _ _ (fun q => absurd (hXI 0 12 (by decide) (by decide) q) (by decide))).trans ((va_up_ne _ _ (fun q => absurd (hXI 0 11 (by decide) (by decide) q) (by decide))).trans m0))) rfl 14 (by decide) fl_41 (fun _ h9 => h9) rfl dX10_like_76 ?_
          refine lv_aload_n hx hb dX10_like_79 rfl (lv_at hl 0 rfl) ?_
          refine z_get (ci := 10) (fs := [.int (nI (S.1 0 0)), .int (nI (S.1 1 0)), .ref (X 2), .ref (X 3), .ref (X 4), .ref (X 5), .ref (X 6), .long S.2.2, .ref (X 8), .ref (X 9), .int (nI (S.1 10 0)), .ref (X 11), .ref (X 12), .ref (X 13), .ref (X 14), .ref (X 15), .ref (X 16), .ref (X 17), .ref (X 18), .ref (X 19), .int (nI (S.1 20 0)), .ref (X 21), .ref (X 22), .ref (X 23), .ref (X 24), .ref (X 25), .ref (X 26), .ref (X 27), .int cz, .ref (X 29)]) (C := RX10) (T := TX10) (N := 30) hx hb hts in_X10 hown hK hZ ((va_up_ne _ _ (fun q => absurd (hXI 0 13 (by decide) (by decide) q) (by decide))).trans ((va_up_ne _ _ (fun q => absurd (hXI 0 12 (by decide) (by decide) q) (by decide))).trans ((va_up_ne _ _ (fun q => absurd (hXI 0 11 (by decide) (by decide) q) (by decide))).trans m0))) rfl 10 (by decide) fl_117 (fun _ h9 => h9) rfl dX10_like_80 ?_
          refine lv_aload_n hx hb dX10_like_83 rfl (lv_at hl 0 rfl) ?_
          refine z_get (ci := 10) (fs := [.int (nI (S.1 0 0)), .int (nI (S.1 1 0)), .ref (X 2), .ref (X 3), .ref (X 4), .ref (X 5), .ref (X 6), .long S.2.2, .ref (X 8), .ref (X 9), .int (nI (S.1 10 0)), .ref (X 11), .ref (X 12), .ref (X 13), .ref (X 14), .ref (X 15), .ref (X 16), .ref (X 17), .ref (X 18), .ref (X 19), .int (nI (S.1 20 0)), .ref (X 21), .ref (X 22), .ref (X 23), .ref (X 24), .ref (X 25), .ref (X 26), .ref (X 27), .int cz, .ref (X 29)]) (C := RX10) (T := TX10) (N := 30) hx hb hts in_X10 hown hK hZ ((va_up_ne _ _ (fun q => absurd (hXI 0 13 (by decide) (by decide) q) (by decide))).trans ((va_up_ne _ _ (fun q => absurd (hXI 0 12 (by decide) (by decide) q) (by decide))).trans ((va_up_ne _ _ (fun q => absurd (hXI 0 11 (by decide) (by decide) q) (by decide))).trans m0))) rfl 0 (by decide) fl_107 (fun _ h9 => h9) rfl dX10_like_84 ?_
          refine z_iast hx hb hK hZ ((va_up_ne _ _ (fun q => absurd (hXI 14 13 (by decide) (by decide) q) (by decide))).trans ((va_up_ne _ _ (fun q => absurd (hXI 14 12 (by decide) (by decide) q) (by decide))).trans ((va_up_ne _ _ (fun q => absurd (hXI 14 11 (by decide) (by decide) q) (by decide))).trans m14))) (S.1 10 0) rfl (by omega) (by decide) dX10_like_87 (fun H locs hZ => ?_)
          refine lv_aload_n hx hb dX10_like_88 rfl (lv_at hl 0 rfl) ?_
          refine z_get (ci := 10) (fs := [.int (nI (S.1 0 0)), .int (nI (S.1 1 0)), .ref (X 2), .ref (X 3), .ref (X 4), .ref (X 5), .ref (X 6), .long S.2.2, .ref (X 8), .ref (X 9), .int (nI (S.1 10 0)), .ref (X 11), .ref (X 12), .ref (X 13), .ref (X 14), .ref (X 15), .ref (X 16), .ref (X 17), .ref (X 18), .ref (X 19), .int (nI (S.1 20 0)), .ref (X 21), .ref (X 22), .ref (X 23), .ref (X 24), .ref (X 25), .ref (X 26), .ref (X 27), .int cz, .ref (X 29)]) (C := RX10) (T := TX10) (N := 30) hx hb hts in_X10 hown hK hZ ((va_up_ne _ _ (fun q => absurd (hXI 0 14 (by decide) (by decide) q) (by decide))).trans ((va_up_ne _ _ (fun q => absurd (hXI 0 13 (by decide) (by decide) q) (by decide))).trans ((va_up_ne _ _ (fun q => absurd (hXI 0 12 (by decide) (by decide) q) (by decide))).trans ((va_up_ne _ _ (fun q => absurd (hXI 0 11 (by decide) (by decide) q) (by decide))).trans m0)))) rfl 15 (by decide) fl_44 (fun _ h9 => h9) rfl dX10_like_89 ?_
          refine lv_aload_n hx hb dX10_like_92 rfl (lv_at hl 0 rfl) ?_
          refine z_get (ci := 10) (fs := [.int (nI (S.1 0 0)), .int (nI (S.1 1 0)), .ref (X 2), .ref (X 3), .ref (X 4), .ref (X 5), .ref (X 6), .long S.2.2, .ref (X 8), .ref (X 9), .int (nI (S.1 10 0)), .ref (X 11), .ref (X 12), .ref (X 13), .ref (X 14), .ref (X 15), .ref (X 16), .ref (X 17), .ref (X 18), .ref (X 19), .int (nI (S.1 20 0)), .ref (X 21), .ref (X 22), .ref (X 23), .ref (X 24), .ref (X 25), .ref (X 26), .ref (X 27), .int cz, .ref (X 29)]) (C := RX10) (T := TX10) (N := 30) hx hb hts in_X10 hown hK hZ ((va_up_ne _ _ (fun q => absurd (hXI 0 14 (by decide) (by decide) q) (by decide))).trans ((va_up_ne _ _ (fun q => absurd (hXI 0 13 (by decide) (by decide) q) (by decide))).trans ((va_up_ne _ _ (fun q => absurd (hXI 0 12 (by decide) (by decide) q) (by decide))).trans ((va_up_ne _ _ (fun q => absurd (hXI 0 11 (by decide) (by decide) q) (by decide))).trans m0)))) rfl 10 (by decide) fl_117 (fun _ h9 => h9) rfl dX10_like_93 ?_
          refine lv_iconst (v := 0) hx hb dX10_like_96 (by decide) ?_
          refine z_zast hx hb hK hZ ((va_up_ne _ _ (fun q => absurd (hXI 15 14 (by decide) (by decide) q) (by decide))).trans ((va_up_ne _ _ (fun q => absurd (hXI 15 13 (by decide) (by decide) q) (by decide))).trans ((va_up_ne _ _ (fun q => absurd (hXI 15 12 (by decide) (by decide) q) (by decide))).trans ((va_up_ne _ _ (fun q => absurd (hXI 15 11 (by decide) (by decide) q) (by decide))).trans m15)))) (S.1 10 0) rfl (by decide) (by omega) (by decide) dX10_like_97 (fun H locs hZ => ?_)
          refine lv_aload_n hx hb dX10_like_98 rfl (lv_at hl 0 rfl) ?_
          refine lv_dup hx hb dX10_like_99 rfl ?_
          refine z_get (ci := 10) (fs := [.int (nI (S.1 0 0)), .int (nI (S.1 1 0)), .ref (X 2), .ref (X 3), .ref (X 4), .ref (X 5), .ref (X 6), .long S.2.2, .ref (X 8), .ref (X 9), .int (nI (S.1 10 0)), .ref (X 11), .ref (X 12), .ref (X 13), .ref (X 14), .ref (X 15), .ref (X 16), .ref (X 17), .ref (X 18), .ref (X 19), .int (nI (S.1 20 0)), .ref (X 21), .ref (X 22), .ref (X 23), .ref (X 24), .ref (X 25), .ref (X 26), .ref (X 27), .int cz, .ref (X 29)]) (C := RX10) (T := TX10) (N := 30) hx hb hts in_X10 hown hK hZ ((va_up_ne _ _ (fun q => absurd (hXI 0 15 (by decide) (by decide) q) (by decide))).trans ((va_up_ne _ _ (fun q => absurd (hXI 0 14 (by decide) (by decide) q) (by decide))).trans ((va_up_ne _ _ (fun q => absurd (hXI 0 13 (by decide) (by decide) q) (by decide))).trans ((va_up_ne _ _ (fun q => absurd (hXI 0 12 (by decide) (by decide) q) (by decide))).trans ((va_up_ne _ _ (fun q => absurd (hXI 0 11 (by decide) (by decide) q) (by decide))).trans m0))))) rfl 10 (by decide) fl_117 (fun _ h9 => h9) rfl dX10_like_100 ?_
          refine lv_iconst (v := 1) hx hb dX10_like_103 (by decide) ?_
          refine lv_iadd hx hb dX10_like_104 ?_
          rw [nI_1]
          refine z_put (ci := 10) (fs := [.int (nI (S.1 0 0)), .int (nI (S.1 1 0)), .ref (X 2), .ref (X 3), .ref (X 4), .ref (X 5), .ref (X 6), .long S.2.2, .ref (X 8), .ref (X 9), .int (nI (S.1 10 0)), .ref (X 11), .ref (X 12), .ref (X 13), .ref (X 14), .ref (X 15), .ref (X 16), .ref (X 17), .ref (X 18), .ref (X 19), .int (nI (S.1 20 0)), .ref (X 21), .ref (X 22), .ref (X 23), .ref (X 24), .ref (X 25), .ref (X 26), .ref (X 27), .int cz, .ref (X 29)]) (fs' := [.int (nI (S.1 0 0)), .int (nI (S.1 1 0)), .ref (X 2), .ref (X 3), .ref (X 4), .ref (X 5), .ref (X 6), .long S.2.2, .ref (X 8), .ref (X 9), .int (nI (S.1 10 0 + 1)), .ref (X 11), .ref (X 12), .ref (X 13), .ref (X 14), .ref (X 15), .ref (X 16), .ref (X 17), .ref (X 18), .ref (X 19), .int (nI (S.1 20 0)), .ref (X 21), .ref (X 22), .ref (X 23), .ref (X 24), .ref (X 25), .ref (X 26), .ref (X 27), .int cz, .ref (X 29)]) (v := .int (nI (S.1 10 0 + 1))) (ty := .int) (C := RX10) (T := TX10) (N := 30) hx hb hts in_X10 tyX10 tyX10_ok nmX10 hown hK hZ ((va_up_ne _ _ (fun q => absurd (hXI 0 15 (by decide) (by decide) q) (by decide))).trans ((va_up_ne _ _ (fun q => absurd (hXI 0 14 (by decide) (by decide) q) (by decide))).trans ((va_up_ne _ _ (fun q => absurd (hXI 0 13 (by decide) (by decide) q) (by decide))).trans ((va_up_ne _ _ (fun q => absurd (hXI 0 12 (by decide) (by decide) q) (by decide))).trans ((va_up_ne _ _ (fun q => absurd (hXI 0 11 (by decide) (by decide) q) (by decide))).trans m0))))) rfl 10 (by decide) fl_117 (fun _ h9 => h9) rfl (by decide +kernel) rfl rfl (Nat.le_of_ble_eq_true rfl) rfl dX10_like_105 (fun H locs hZ => ?_)
          refine lv_aload_n hx hb dX10_like_108 rfl (lv_at hl 0 rfl) ?_
          refine z_get (ci := 10) (fs := [.int (nI (S.1 0 0)), .int (nI (S.1 1 0)), .ref (X 2), .ref (X 3), .ref (X 4), .ref (X 5), .ref (X 6), .long S.2.2, .ref (X 8), .ref (X 9), .int (nI (S.1 10 0 + 1)), .ref (X 11), .ref (X 12), .ref (X 13), .ref (X 14), .ref (X 15), .ref (X 16), .ref (X 17), .ref (X 18), .ref (X 19), .int (nI (S.1 20 0)), .ref (X 21), .ref (X 22), .ref (X 23), .ref (X 24), .ref (X 25), .ref (X 26), .ref (X 27), .int cz, .ref (X 29)]) (C := RX10) (T := TX10) (N := 30) hx hb hts in_X10 hown hK hZ (va_up_self _ _ _) rfl 10 (by decide) fl_117 (fun _ h9 => h9) rfl dX10_like_109 ?_
          refine lv_iconst (v := 1) hx hb dX10_like_112 (by decide) ?_
          refine lv_isub hx hb dX10_like_113 ?_
          rw [nI_pred]
          exact z_iret hx hb hr hlocks hZ dX10_like_114 (by rw [sp_like, if_pos ⟨c6, c17, c28⟩, if_neg c8]; exact ⟨⟨_, _, _, (va_up_self _ _ _), ((va_up_ne _ _ (fun q => absurd (hXI 2 0 (by decide) (by decide) q) (by decide))).trans ((va_up_ne _ _ (fun q => absurd (hXI 2 15 (by decide) (by decide) q) (by decide))).trans ((va_up_ne _ _ (fun q => absurd (hXI 2 14 (by decide) (by decide) q) (by decide))).trans ((va_up_ne _ _ (fun q => absurd (hXI 2 13 (by decide) (by decide) q) (by decide))).trans ((va_up_ne _ _ (fun q => absurd (hXI 2 12 (by decide) (by decide) q) (by decide))).trans ((va_up_ne _ _ (fun q => absurd (hXI 2 11 (by decide) (by decide) q) (by decide))).trans m2)))))), ((va_up_ne _ _ (fun q => absurd (hXI 3 0 (by decide) (by decide) q) (by decide))).trans ((va_up_ne _ _ (fun q => absurd (hXI 3 15 (by decide) (by decide) q) (by decide))).trans ((va_up_ne _ _ (fun q => absurd (hXI 3 14 (by decide) (by decide) q) (by decide))).trans ((va_up_ne _ _ (fun q => absurd (hXI 3 13 (by decide) (by decide) q) (by decide))).trans ((va_up_ne _ _ (fun q => absurd (hXI 3 12 (by decide) (by decide) q) (by decide))).trans ((va_up_ne _ _ (fun q => absurd (hXI 3 11 (by decide) (by decide) q) (by decide))).trans m3)))))), ((va_up_ne _ _ (fun q => absurd (hXI 4 0 (by decide) (by decide) q) (by decide))).trans ((va_up_ne _ _ (fun q => absurd (hXI 4 15 (by decide) (by decide) q) (by decide))).trans ((va_up_ne _ _ (fun q => absurd (hXI 4 14 (by decide) (by decide) q) (by decide))).trans ((va_up_ne _ _ (fun q => absurd (hXI 4 13 (by decide) (by decide) q) (by decide))).trans ((va_up_ne _ _ (fun q => absurd (hXI 4 12 (by decide) (by decide) q) (by decide))).trans ((va_up_ne _ _ (fun q => absurd (hXI 4 11 (by decide) (by decide) q) (by decide))).trans m4)))))), ((va_up_ne _ _ (fun q => absurd (hXI 5 0 (by decide) (by decide) q) (by decide))).trans ((va_up_ne _ _ (fun q => absurd (hXI 5 15 (by decide) (by decide) q) (by decide))).trans ((va_up_ne _ _ (fun q => absurd (hXI 5 14 (by decide) (by decide) q) (by decide))).trans ((va_up_ne _ _ (fun q => absurd (hXI 5 13 (by decide) (by decide) q) (by decide))).trans ((va_up_ne _ _ (fun q => absurd (hXI 5 12 (by decide) (by decide) q) (by decide))).trans ((va_up_ne _ _ (fun q => absurd (hXI 5 11 (by decide) (by decide) q) (by decide))).trans m5)))))), ((va_up_ne _ _ (fun q => absurd (hXI 6 0 (by decide) (by decide) q) (by decide))).trans ((va_up_ne _ _ (fun q => absurd (hXI 6 15 (by decide) (by decide) q) (by decide))).trans ((va_up_ne _ _ (fun q => absurd (hXI 6 14 (by decide) (by decide) q) (by decide))).trans ((va_up_ne _ _ (fun q => absurd (hXI 6 13 (by decide) (by decide) q) (by decide))).trans ((va_up_ne _ _ (fun q => absurd (hXI 6 12 (by decide) (by decide) q) (by decide))).trans ((va_up_ne _ _ (fun q => absurd (hXI 6 11 (by decide) (by decide) q) (by decide))).trans m6)))))), ((va_up_ne _ _ (fun q => absurd (hXI 8 0 (by decide) (by decide) q) (by decide))).trans ((va_up_ne _ _ (fun q => absurd (hXI 8 15 (by decide) (by decide) q) (by decide))).trans ((va_up_ne _ _ (fun q => absurd (hXI 8 14 (by decide) (by decide) q) (by decide))).trans ((va_up_ne _ _ (fun q => absurd (hXI 8 13 (by decide) (by decide) q) (by decide))).trans ((va_up_ne _ _ (fun q => absurd (hXI 8 12 (by decide) (by decide) q) (by decide))).trans ((va_up_ne _ _ (fun q => absurd (hXI 8 11 (by decide) (by decide) q) (by decide))).trans m8)))))), ((va_up_ne _ _ (fun q => absurd (hXI 9 0 (by decide) (by decide) q) (by decide))).trans ((va_up_ne _ _ (fun q => absurd (hXI 9 15 (by decide) (by decide) q) (by decide))).trans ((va_up_ne _ _ (fun q => absurd (hXI 9 14 (by decide) (by decide) q) (by decide))).trans ((va_up_ne _ _ (fun q => absurd (hXI 9 13 (by decide) (by decide) q) (by decide))).trans ((va_up_ne _ _ (fun q => absurd (hXI 9 12 (by decide) (by decide) q) (by decide))).trans ((va_up_ne _ _ (fun q => absurd (hXI 9 11 (by decide) (by decide) q) (by decide))).trans m9)))))), (((va_up_ne _ _ (fun q => absurd (hXI 11 0 (by decide) (by decide) q) (by decide))).trans ((va_up_ne _ _ (fun q => absurd (hXI 11 15 (by decide) (by decide) q) (by decide))).trans ((va_up_ne _ _ (fun q => absurd (hXI 11 14 (by decide) (by decide) q) (by decide))).trans ((va_up_ne _ _ (fun q => absurd (hXI 11 13 (by decide) (by decide) q) (by decide))).trans ((va_up_ne _ _ (fun q => absurd (hXI 11 12 (by decide) (by decide) q) (by decide))).trans (va_up_self _ _ _)))))).trans (congrArg (fun f => some (Sum.inl (cT 0, 12, Sum.inl f))) (cG_sG S 11 _ _))), (((va_up_ne _ _ (fun q => absurd (hXI 12 0 (by decide) (by decide) q) (by decide))).trans ((va_up_ne _ _ (fun q => absurd (hXI 12 15 (by decide) (by decide) q) (by decide))).trans ((va_up_ne _ _ (fun q => absurd (hXI 12 14 (by decide) (by decide) q) (by decide))).trans ((va_up_ne _ _ (fun q => absurd (hXI 12 13 (by decide) (by decide) q) (by decide))).trans (va_up_self _ _ _))))).trans (congrArg (fun f => some (Sum.inl (cT 0, 12, Sum.inl f))) (cG_sG S 12 _ _))), (((va_up_ne _ _ (fun q => absurd (hXI 13 0 (by decide) (by decide) q) (by decide))).trans ((va_up_ne _ _ (fun q => absurd (hXI 13 15 (by decide) (by decide) q) (by decide))).trans ((va_up_ne _ _ (fun q => absurd (hXI 13 14 (by decide) (by decide) q) (by decide))).trans (va_up_self _ _ _)))).trans (congrArg (fun f => some (Sum.inl (cT 0, 12, Sum.inl f))) (cG_sG S 13 _ _))), (((va_up_ne _ _ (fun q => absurd (hXI 14 0 (by decide) (by decide) q) (by decide))).trans ((va_up_ne _ _ (fun q => absurd (hXI 14 15 (by decide) (by decide) q) (by decide))).trans (va_up_self _ _ _))).trans (congrArg (fun f => some (Sum.inl (cT 0, 12, Sum.inl f))) (cG_sG S 14 _ _))), (((va_up_ne _ _ (fun q => absurd (hXI 15 0 (by decide) (by decide) q) (by decide))).trans (va_up_self _ _ _)).trans (congrArg (fun f => some (Sum.inl (cT 1, 12, Sum.inl f))) (cN_sN S 15 _ 0))), ((va_up_ne _ _ (fun q => absurd (hXI 16 0 (by decide) (by decide) q) (by decide))).trans ((va_up_ne _ _ (fun q => absurd (hXI 16 15 (by decide) (by decide) q) (by decide))).trans ((va_up_ne _ _ (fun q => absurd (hXI 16 14 (by decide) (by decide) q) (by decide))).trans ((va_up_ne _ _ (fun q => absurd (hXI 16 13 (by decide) (by decide) q) (by decide))).trans ((va_up_ne _ _ (fun q => absurd (hXI 16 12 (by decide) (by decide) q) (by decide))).trans ((va_up_ne _ _ (fun q => absurd (hXI 16 11 (by decide) (by decide) q) (by decide))).trans m16)))))), ((va_up_ne _ _ (fun q => absurd (hXI 17 0 (by decide) (by decide) q) (by decide))).trans ((va_up_ne _ _ (fun q => absurd (hXI 17 15 (by decide) (by decide) q) (by decide))).trans ((va_up_ne _ _ (fun q => absurd (hXI 17 14 (by decide) (by decide) q) (by decide))).trans ((va_up_ne _ _ (fun q => absurd (hXI 17 13 (by decide) (by decide) q) (by decide))).trans ((va_up_ne _ _ (fun q => absurd (hXI 17 12 (by decide) (by decide) q) (by decide))).trans ((va_up_ne _ _ (fun q => absurd (hXI 17 11 (by decide) (by decide) q) (by decide))).trans m17)))))), ((va_up_ne _ _ (fun q => absurd (hXI 18 0 (by decide) (by decide) q) (by decide))).trans ((va_up_ne _ _ (fun q => absurd (hXI 18 15 (by decide) (by decide) q) (by decide))).trans ((va_up_ne _ _ (fun q => absurd (hXI 18 14 (by decide) (by decide) q) (by decide))).trans ((va_up_ne _ _ (fun q => absurd (hXI 18 13 (by decide) (by decide) q) (by decide))).trans ((va_up_ne _ _ (fun q => absurd (hXI 18 12 (by decide) (by decide) q) (by decide))).trans ((va_up_ne _ _ (fun q => absurd (hXI 18 11 (by decide) (by decide) q) (by decide))).trans m18)))))), ((va_up_ne _ _ (fun q => absurd (hXI 19 0 (by decide) (by decide) q) (by decide))).trans ((va_up_ne _ _ (fun q => absurd (hXI 19 15 (by decide) (by decide) q) (by decide))).trans ((va_up_ne _ _ (fun q => absurd (hXI 19 14 (by decide) (by decide) q) (by decide))).trans ((va_up_ne _ _ (fun q => absurd (hXI 19 13 (by decide) (by decide) q) (by decide))).trans ((va_up_ne _ _ (fun q => absurd (hXI 19 12 (by decide) (by decide) q) (by decide))).trans ((va_up_ne _ _ (fun q => absurd (hXI 19 11 (by decide) (by decide) q) (by decide))).trans m19)))))), ((va_up_ne _ _ (fun q => absurd (hXI 21 0 (by decide) (by decide) q) (by decide))).trans ((va_up_ne _ _ (fun q => absurd (hXI 21 15 (by decide) (by decide) q) (by decide))).trans ((va_up_ne _ _ (fun q => absurd (hXI 21 14 (by decide) (by decide) q) (by decide))).trans ((va_up_ne _ _ (fun q => absurd (hXI 21 13 (by decide) (by decide) q) (by decide))).trans ((va_up_ne _ _ (fun q => absurd (hXI 21 12 (by decide) (by decide) q) (by decide))).trans ((va_up_ne _ _ (fun q => absurd (hXI 21 11 (by decide) (by decide) q) (by decide))).trans m21)))))), ((va_up_ne _ _ (fun q => absurd (hXI 22 0 (by decide) (by decide) q) (by decide))).trans ((va_up_ne _ _ (fun q => absurd (hXI 22 15 (by decide) (by decide) q) (by decide))).trans ((va_up_ne _ _ (fun q => absurd (hXI 22 14 (by decide) (by decide) q) (by decide))).trans ((va_up_ne _ _ (fun q => absurd (hXI 22 13 (by decide) (by decide) q) (by decide))).trans ((va_up_ne _ _ (fun q => absurd (hXI 22 12 (by decide) (by decide) q) (by decide))).trans ((va_up_ne _ _ (fun q => absurd (hXI 22 11 (by decide) (by decide) q) (by decide))).trans m22)))))), ((va_up_ne _ _ (fun q => absurd (hXI 23 0 (by decide) (by decide) q) (by decide))).trans ((va_up_ne _ _ (fun q => absurd (hXI 23 15 (by decide) (by decide) q) (by decide))).trans ((va_up_ne _ _ (fun q => absurd (hXI 23 14 (by decide) (by decide) q) (by decide))).trans ((va_up_ne _ _ (fun q => absurd (hXI 23 13 (by decide) (by decide) q) (by decide))).trans ((va_up_ne _ _ (fun q => absurd (hXI 23 12 (by decide) (by decide) q) (by decide))).trans ((va_up_ne _ _ (fun q => absurd (hXI 23 11 (by decide) (by decide) q) (by decide))).trans m23)))))), ((va_up_ne _ _ (fun q => absurd (hXI 24 0 (by decide) (by decide) q) (by decide))).trans ((va_up_ne _ _ (fun q => absurd (hXI 24 15 (by decide) (by decide) q) (by decide))).trans ((va_up_ne _ _ (fun q => absurd (hXI 24 14 (by decide) (by decide) q) (by decide))).trans ((va_up_ne _ _ (fun q => absurd (hXI 24 13 (by decide) (by decide) q) (by decide))).trans ((va_up_ne _ _ (fun q => absurd (hXI 24 12 (by decide) (by decide) q) (by decide))).trans ((va_up_ne _ _ (fun q => absurd (hXI 24 11 (by decide) (by decide) q) (by decide))).trans m24)))))), ((va_up_ne _ _ (fun q => absurd (hXI 25 0 (by decide) (by decide) q) (by decide))).trans ((va_up_ne _ _ (fun q => absurd (hXI 25 15 (by decide) (by decide) q) (by decide))).trans ((va_up_ne _ _ (fun q => absurd (hXI 25 14 (by decide) (by decide) q) (by decide))).trans ((va_up_ne _ _ (fun q => absurd (hXI 25 13 (by decide) (by decide) q) (by decide))).trans ((va_up_ne _ _ (fun q => absurd (hXI 25 12 (by decide) (by decide) q) (by decide))).trans ((va_up_ne _ _ (fun q => absurd (hXI 25 11 (by decide) (by decide) q) (by decide))).trans m25)))))), ((va_up_ne _ _ (fun q => absurd (hXI 26 0 (by decide) (by decide) q) (by decide))).trans ((va_up_ne _ _ (fun q => absurd (hXI 26 15 (by decide) (by decide) q) (by decide))).trans ((va_up_ne _ _ (fun q => absurd (hXI 26 14 (by decide) (by decide) q) (by decide))).trans ((va_up_ne _ _ (fun q => absurd (hXI 26 13 (by decide) (by decide) q) (by decide))).trans ((va_up_ne _ _ (fun q => absurd (hXI 26 12 (by decide) (by decide) q) (by decide))).trans ((va_up_ne _ _ (fun q => absurd (hXI 26 11 (by decide) (by decide) q) (by decide))).trans m26)))))), ((va_up_ne _ _ (fun q => absurd (hXI 27 0 (by decide) (by decide) q) (by decide))).trans ((va_up_ne _ _ (fun q => absurd (hXI 27 15 (by decide) (by decide) q) (by decide))).trans ((va_up_ne _ _ (fun q => absurd (hXI 27 14 (by decide) (by decide) q) (by decide))).trans ((va_up_ne _ _ (fun q => absurd (hXI 27 13 (by decide) (by decide) q) (by decide))).trans ((va_up_ne _ _ (fun q => absurd (hXI 27 12 (by decide) (by decide) q) (by decide))).trans ((va_up_ne _ _ (fun q => absurd (hXI 27 11 (by decide) (by decide) q) (by decide))).trans m27)))))), ((va_up_ne _ _ (fun q => absurd (hXI 29 0 (by decide) (by decide) q) (by decide))).trans ((va_up_ne _ _ (fun q => absurd (hXI 29 15 (by decide) (by decide) q) (by decide))).trans ((va_up_ne _ _ (fun q => absurd (hXI 29 14 (by decide) (by decide) q) (by decide))).trans ((va_up_ne _ _ (fun q => absurd (hXI 29 13 (by decide) (by decide) q) (by decide))).trans ((va_up_ne _ _ (fun q => absurd (hXI 29 12 (by decide) (by decide) q) (by decide))).trans ((va_up_ne _ _ (fun q => absurd (hXI 29 11 (by decide) (by decide) q) (by decide))).trans m29))))))⟩, rfl⟩)
        · have c8 : S.1 10 0 = 12 := nI_inj (by omega) (by decide) c39
          refine lv_bipush (v := (-3)) hx hb dX10_like_42 (by decide) ?_
          exact z_iret hx hb hr hlocks hZ dX10_like_44 (mQ_of (by rw [sp_like, if_pos ⟨c6, c17, c28⟩, if_pos c8]) ⟨_, _, _, hM⟩)
      · refine lv_iconst (v := (-1)) hx hb dX10_like_31 (by decide) ?_
        exact z_iret hx hb hr hlocks hZ dX10_like_32 (mQ_of (by rw [sp_like, if_neg (fun h => c28 h.2.2)]) ⟨_, _, _, hM⟩)

set_option maxHeartbeats 4000000 in
set_option maxRecDepth 100000 in
theorem c_X10_strike (l : Launch) (D : va_G) (cT : Nat → ClassId) (G : zG) (sz : Nat) (S : zS) (X : Nat → Nat) (cz : Int32) (f27 f29 : Nat → Int32) (nn : Nat) (x : Int32) (hM : MD cT S X cz f27 f29 G) (hXI : XI X) (hS : ok S nn)  : zM l D cT yX10_strike wsX10_strike (zR 1 0 0) [.ref (X 0), .int x] G sz (mQ cT X (sp_strike S x)) := by
  refine z_start (cc := cX10_strike) (maxL := 2) (ret := (some .int)) (by decide) rfl (Nat.le_of_ble_eq_true rfl) ?_
  intro p e s m below meth c ls hI hZ hl
  obtain ⟨hx, hb, hr, hml, hts, hown, hlocks, hname, hK, hA, hE⟩ := hI
  have hl : lv_has ls 2 [(0, .ref (X 0)), (1, .int x)] := hl
  have hown : s.vm.findClass RX10 = some m.cls := hown
  have in_X10 : ∀ w ∈ u_ws RX10 TX10 30, w ∈ wsX10_strike := by decide +kernel
  have fl_44 := hts (.fieldLink RX10 44 "FairRentsModel" "isStruck" "[Z") (by decide +kernel)
  have fl_117 := hts (.fieldLink RX10 117 "FairRentsModel" "likes" "I") (by decide +kernel)
  obtain ⟨m0, m2, m3, m4, m5, m6, m8, m9, m11, m12, m13, m14, m15, m16, m17, m18, m19, m21, m22, m23, m24, m25, m26, m27, m29⟩ := id hM
  obtain ⟨⟨k1, k10, k20, k0⟩, kH, k9, k8, k15, k26, kL, kLn, kP, kE, kEm, kn⟩ := id hS
  refine lv_iload_n hx hb dX10_strike_0 rfl (lv_at hl 1 rfl) ?_
  refine lv_iconst (v := 0) hx hb dX10_strike_1 (by decide) ?_
  refine lv_aload_n hx hb dX10_strike_2 rfl (lv_at hl 0 rfl) ?_
  refine z_get (ci := 10) (fs := [.int (nI (S.1 0 0)), .int (nI (S.1 1 0)), .ref (X 2), .ref (X 3), .ref (X 4), .ref (X 5), .ref (X 6), .long S.2.2, .ref (X 8), .ref (X 9), .int (nI (S.1 10 0)), .ref (X 11), .ref (X 12), .ref (X 13), .ref (X 14), .ref (X 15), .ref (X 16), .ref (X 17), .ref (X 18), .ref (X 19), .int (nI (S.1 20 0)), .ref (X 21), .ref (X 22), .ref (X 23), .ref (X 24), .ref (X 25), .ref (X 26), .ref (X 27), .int cz, .ref (X 29)]) (C := RX10) (T := TX10) (N := 30) hx hb hts in_X10 hown hK hZ m0 rfl 10 (by decide) fl_117 (fun _ h9 => h9) rfl dX10_strike_3 ?_
  refine lv_iconst (v := 1) hx hb dX10_strike_6 (by decide) ?_
  refine lv_isub hx hb dX10_strike_7 ?_
  refine z_call (va_runS (As := [.int x, .int 0, .int ((nI (S.1 10 0)) - 1)]) (rest := []) ⟨hx, hb, hml, hown, hts⟩ (c_X10_in l D cT _ _ x 0 ((nI (S.1 10 0)) - 1)) (va_cwS 3 hts gX10_strike_X10_in rfl rfl rfl (by decide +kernel) ⟨(Nat.le_of_ble_eq_true rfl), (Nat.le_of_ble_eq_true rfl)⟩) (z_preS hK hE hZ hA) rfl rfl hl.1 rfl (lv_room (Nat.le_of_ble_eq_true rfl)) dX10_strike_8 ⟨(Nat.le_of_ble_eq_true rfl), (Nat.le_of_ble_eq_true rfl)⟩) hZ hA (fun r G8 H locs hq hZ => ?_)
  obtain ⟨hg, rfl⟩ := hq
  replace hg := hg.symm
  subst hg
  refine W.eq (g2 := F0 m 11 ls [.int (if 0 ≤ x ∧ x ≤ ((nI (S.1 10 0)) - 1) then 1 else 0)]) rfl ?_
  refine zb_ne (tgt := 16) hx hb dX10_strike_11 (by decide) (fun c11 => ?_) (fun c11 => ?_)
  · obtain ⟨hj, hxj⟩ := ix_lt c11 (by omega)
    refine lv_aload_n hx hb dX10_strike_16 rfl (lv_at hl 0 rfl) ?_
    refine z_get (ci := 10) (fs := [.int (nI (S.1 0 0)), .int (nI (S.1 1 0)), .ref (X 2), .ref (X 3), .ref (X 4), .ref (X 5), .ref (X 6), .long S.2.2, .ref (X 8), .ref (X 9), .int (nI (S.1 10 0)), .ref (X 11), .ref (X 12), .ref (X 13), .ref (X 14), .ref (X 15), .ref (X 16), .ref (X 17), .ref (X 18), .ref (X 19), .int (nI (S.1 20 0)), .ref (X 21), .ref (X 22), .ref (X 23), .ref (X 24), .ref (X 25), .ref (X 26), .ref (X 27), .int cz, .ref (X 29)]) (C := RX10) (T := TX10) (N := 30) hx hb hts in_X10 hown hK hZ m0 rfl 15 (by decide) fl_44 (fun _ h9 => h9) rfl dX10_strike_17 ?_
    refine lv_iload_n hx hb dX10_strike_20 rfl (lv_at hl 1 rfl) ?_
    refine z_zald hx hb hK hZ m15 x.toNatClampNeg hxj (by omega) (by decide) dX10_strike_21 ?_
    refine lv_if_eq (tgt := 28) hx hb dX10_strike_22 (by decide) (fun c22 => ?_) (fun c22 => ?_)
    · have hz : S.1 15 x.toNatClampNeg = 0 := n0 (Nat.le_succ_of_le (k15 _)) c22
      refine lv_aload_n hx hb dX10_strike_28 rfl (lv_at hl 0 rfl) ?_
      refine z_get (ci := 10) (fs := [.int (nI (S.1 0 0)), .int (nI (S.1 1 0)), .ref (X 2), .ref (X 3), .ref (X 4), .ref (X 5), .ref (X 6), .long S.2.2, .ref (X 8), .ref (X 9), .int (nI (S.1 10 0)), .ref (X 11), .ref (X 12), .ref (X 13), .ref (X 14), .ref (X 15), .ref (X 16), .ref (X 17), .ref (X 18), .ref (X 19), .int (nI (S.1 20 0)), .ref (X 21), .ref (X 22), .ref (X 23), .ref (X 24), .ref (X 25), .ref (X 26), .ref (X 27), .int cz, .ref (X 29)]) (C := RX10) (T := TX10) (N := 30) hx hb hts in_X10 hown hK hZ m0 rfl 15 (by decide) fl_44 (fun _ h9 => h9) rfl dX10_strike_29 ?_
      refine lv_iload_n hx hb dX10_strike_32 rfl (lv_at hl 1 rfl) ?_
      refine lv_iconst (v := 1) hx hb dX10_strike_33 (by decide) ?_
      refine z_zast hx hb hK hZ m15 x.toNatClampNeg hxj (by decide) (by omega) (by decide) dX10_strike_34 (fun H locs hZ => ?_)
      refine lv_iconst (v := 1) hx hb dX10_strike_35 (by decide) ?_
      exact z_iret hx hb hr hlocks hZ dX10_strike_36 (by rw [sp_strike, if_pos c11, if_pos hz]; exact ⟨⟨_, _, _, ((va_up_ne _ _ (fun q => absurd (hXI 0 15 (by decide) (by decide) q) (by decide))).trans m0), ((va_up_ne _ _ (fun q => absurd (hXI 2 15 (by decide) (by decide) q) (by decide))).trans m2), ((va_up_ne _ _ (fun q => absurd (hXI 3 15 (by decide) (by decide) q) (by decide))).trans m3), ((va_up_ne _ _ (fun q => absurd (hXI 4 15 (by decide) (by decide) q) (by decide))).trans m4), ((va_up_ne _ _ (fun q => absurd (hXI 5 15 (by decide) (by decide) q) (by decide))).trans m5), ((va_up_ne _ _ (fun q => absurd (hXI 6 15 (by decide) (by decide) q) (by decide))).trans m6), ((va_up_ne _ _ (fun q => absurd (hXI 8 15 (by decide) (by decide) q) (by decide))).trans m8), ((va_up_ne _ _ (fun q => absurd (hXI 9 15 (by decide) (by decide) q) (by decide))).trans m9), ((va_up_ne _ _ (fun q => absurd (hXI 11 15 (by decide) (by decide) q) (by decide))).trans m11), ((va_up_ne _ _ (fun q => absurd (hXI 12 15 (by decide) (by decide) q) (by decide))).trans m12), ((va_up_ne _ _ (fun q => absurd (hXI 13 15 (by decide) (by decide) q) (by decide))).trans m13), ((va_up_ne _ _ (fun q => absurd (hXI 14 15 (by decide) (by decide) q) (by decide))).trans m14), ((va_up_self _ _ _).trans (congrArg (fun f => some (Sum.inl (cT 1, 12, Sum.inl f))) (cN_sN S 15 _ 1))), ((va_up_ne _ _ (fun q => absurd (hXI 16 15 (by decide) (by decide) q) (by decide))).trans m16), ((va_up_ne _ _ (fun q => absurd (hXI 17 15 (by decide) (by decide) q) (by decide))).trans m17), ((va_up_ne _ _ (fun q => absurd (hXI 18 15 (by decide) (by decide) q) (by decide))).trans m18), ((va_up_ne _ _ (fun q => absurd (hXI 19 15 (by decide) (by decide) q) (by decide))).trans m19), ((va_up_ne _ _ (fun q => absurd (hXI 21 15 (by decide) (by decide) q) (by decide))).trans m21), ((va_up_ne _ _ (fun q => absurd (hXI 22 15 (by decide) (by decide) q) (by decide))).trans m22), ((va_up_ne _ _ (fun q => absurd (hXI 23 15 (by decide) (by decide) q) (by decide))).trans m23), ((va_up_ne _ _ (fun q => absurd (hXI 24 15 (by decide) (by decide) q) (by decide))).trans m24), ((va_up_ne _ _ (fun q => absurd (hXI 25 15 (by decide) (by decide) q) (by decide))).trans m25), ((va_up_ne _ _ (fun q => absurd (hXI 26 15 (by decide) (by decide) q) (by decide))).trans m26), ((va_up_ne _ _ (fun q => absurd (hXI 27 15 (by decide) (by decide) q) (by decide))).trans m27), ((va_up_ne _ _ (fun q => absurd (hXI 29 15 (by decide) (by decide) q) (by decide))).trans m29)⟩, rfl⟩)
    · have hz : ¬ S.1 15 x.toNatClampNeg = 0 := fun h => c22 (by show nI _ = 0; rw [h]; rfl)
      refine lv_bipush (v := (-2)) hx hb dX10_strike_25 (by decide) ?_
      exact z_iret hx hb hr hlocks hZ dX10_strike_27 (mQ_of (by rw [sp_strike, if_pos c11, if_neg hz]) ⟨_, _, _, hM⟩)
  · refine lv_iconst (v := (-1)) hx hb dX10_strike_14 (by decide) ?_
    exact z_iret hx hb hr hlocks hZ dX10_strike_15 (mQ_of (by rw [sp_strike, if_neg c11]) ⟨_, _, _, hM⟩)

set_option maxHeartbeats 4000000 in
set_option maxRecDepth 100000 in
theorem c_X10_days (l : Launch) (D : va_G) (cT : Nat → ClassId) (G : zG) (sz : Nat) (S : zS) (X : Nat → Nat) (cz : Int32) (f27 f29 : Nat → Int32) (nn : Nat) (x : Int32) (hM : MD cT S X cz f27 f29 G) (hXI : XI X) (hS : ok S nn)  : zM l D cT yX10_days wsX10_days (zR 1 0 0) [.ref (X 0), .int x] G sz (mQ cT X (sp_days S x)) := by
  refine z_start (cc := cX10_days) (maxL := 2) (ret := (some .int)) (by decide) rfl (Nat.le_of_ble_eq_true rfl) ?_
  intro p e s m below meth c ls hI hZ hl
  obtain ⟨hx, hb, hr, hml, hts, hown, hlocks, hname, hK, hA, hE⟩ := hI
  have hl : lv_has ls 2 [(0, .ref (X 0)), (1, .int x)] := hl
  have hown : s.vm.findClass RX10 = some m.cls := hown
  have in_X10 : ∀ w ∈ u_ws RX10 TX10 30, w ∈ wsX10_days := by decide +kernel
  have fl_107 := hts (.fieldLink RX10 107 "FairRentsModel" "today" "I") (by decide +kernel)
  obtain ⟨m0, m2, m3, m4, m5, m6, m8, m9, m11, m12, m13, m14, m15, m16, m17, m18, m19, m21, m22, m23, m24, m25, m26, m27, m29⟩ := id hM
  obtain ⟨⟨k1, k10, k20, k0⟩, kH, k9, k8, k15, k26, kL, kLn, kP, kE, kEm, kn⟩ := id hS
  refine lv_iload_n hx hb dX10_days_0 rfl (lv_at hl 1 rfl) ?_
  refine lv_iconst (v := 1) hx hb dX10_days_1 (by decide) ?_
  refine lv_bipush (v := 30) hx hb dX10_days_2 (by decide) ?_
  refine z_call (va_runS (As := [.int x, .int 1, .int 30]) (rest := []) ⟨hx, hb, hml, hown, hts⟩ (c_X10_in l D cT _ _ x 1 30) (va_cwS 3 hts gX10_days_X10_in rfl rfl rfl (by decide +kernel) ⟨(Nat.le_of_ble_eq_true rfl), (Nat.le_of_ble_eq_true rfl)⟩) (z_preS hK hE hZ hA) rfl rfl hl.1 rfl (lv_room (Nat.le_of_ble_eq_true rfl)) dX10_days_4 ⟨(Nat.le_of_ble_eq_true rfl), (Nat.le_of_ble_eq_true rfl)⟩) hZ hA (fun r G4 H locs hq hZ => ?_)
  obtain ⟨hg, rfl⟩ := hq
  replace hg := hg.symm
  subst hg
  refine W.eq (g2 := F0 m 7 ls [.int (if 1 ≤ x ∧ x ≤ 30 then 1 else 0)]) rfl ?_
  refine zb_ne (tgt := 12) hx hb dX10_days_7 (by decide) (fun c7 => ?_) (fun c7 => ?_)
  · have hxd : x = nI x.toNatClampNeg := (z_self (z_le01 c7.1)).symm
    have hd : x.toNatClampNeg ≤ 30 := z_cl ⟨z_le01 c7.1, c7.2⟩ (by decide)
    refine lv_aload_n hx hb dX10_days_12 rfl (lv_at hl 0 rfl) ?_
    refine z_get (ci := 10) (fs := [.int (nI (S.1 0 0)), .int (nI (S.1 1 0)), .ref (X 2), .ref (X 3), .ref (X 4), .ref (X 5), .ref (X 6), .long S.2.2, .ref (X 8), .ref (X 9), .int (nI (S.1 10 0)), .ref (X 11), .ref (X 12), .ref (X 13), .ref (X 14), .ref (X 15), .ref (X 16), .ref (X 17), .ref (X 18), .ref (X 19), .int (nI (S.1 20 0)), .ref (X 21), .ref (X 22), .ref (X 23), .ref (X 24), .ref (X 25), .ref (X 26), .ref (X 27), .int cz, .ref (X 29)]) (C := RX10) (T := TX10) (N := 30) hx hb hts in_X10 hown hK hZ m0 rfl 0 (by decide) fl_107 (fun _ h9 => h9) rfl dX10_days_13 ?_
    refine lv_iload_n hx hb dX10_days_16 rfl (lv_at hl 1 rfl) ?_
    refine lv_iadd hx hb dX10_days_17 ?_
    refine W.eq (congrArg (fun v => F0 m 18 ls (.int v :: [])) (day_add hxd)) ?_
    refine W.eq (g2 := F0 m 18 ls [.int (nI (S.1 0 0 + x.toNatClampNeg))]) rfl ?_
    refine lv_sipush (v := 300) hx hb dX10_days_18 (by decide) ?_
    refine lv_icmp_le (tgt := 27) hx hb dX10_days_21 (by decide) (fun c21 => ?_) (fun c21 => ?_)
    · have hz : ¬ 300 < S.1 0 0 + x.toNatClampNeg := fun h => nI_ge h (by omega) c21
      refine lv_aload_n hx hb dX10_days_27 rfl (lv_at hl 0 rfl) ?_
      refine lv_dup hx hb dX10_days_28 rfl ?_
      refine z_get (ci := 10) (fs := [.int (nI (S.1 0 0)), .int (nI (S.1 1 0)), .ref (X 2), .ref (X 3), .ref (X 4), .ref (X 5), .ref (X 6), .long S.2.2, .ref (X 8), .ref (X 9), .int (nI (S.1 10 0)), .ref (X 11), .ref (X 12), .ref (X 13), .ref (X 14), .ref (X 15), .ref (X 16), .ref (X 17), .ref (X 18), .ref (X 19), .int (nI (S.1 20 0)), .ref (X 21), .ref (X 22), .ref (X 23), .ref (X 24), .ref (X 25), .ref (X 26), .ref (X 27), .int cz, .ref (X 29)]) (C := RX10) (T := TX10) (N := 30) hx hb hts in_X10 hown hK hZ m0 rfl 0 (by decide) fl_107 (fun _ h9 => h9) rfl dX10_days_29 ?_
      refine lv_iload_n hx hb dX10_days_32 rfl (lv_at hl 1 rfl) ?_
      refine lv_iadd hx hb dX10_days_33 ?_
      refine W.eq (congrArg (fun v => F0 m 34 ls (.int v :: [.ref (X 0)])) (day_add hxd)) ?_
      refine W.eq (g2 := F0 m 34 ls [.int (nI (S.1 0 0 + x.toNatClampNeg)), .ref (X 0)]) rfl ?_
      refine z_put (ci := 10) (fs := [.int (nI (S.1 0 0)), .int (nI (S.1 1 0)), .ref (X 2), .ref (X 3), .ref (X 4), .ref (X 5), .ref (X 6), .long S.2.2, .ref (X 8), .ref (X 9), .int (nI (S.1 10 0)), .ref (X 11), .ref (X 12), .ref (X 13), .ref (X 14), .ref (X 15), .ref (X 16), .ref (X 17), .ref (X 18), .ref (X 19), .int (nI (S.1 20 0)), .ref (X 21), .ref (X 22), .ref (X 23), .ref (X 24), .ref (X 25), .ref (X 26), .ref (X 27), .int cz, .ref (X 29)]) (fs' := [.int (nI (S.1 0 0 + x.toNatClampNeg)), .int (nI (S.1 1 0)), .ref (X 2), .ref (X 3), .ref (X 4), .ref (X 5), .ref (X 6), .long S.2.2, .ref (X 8), .ref (X 9), .int (nI (S.1 10 0)), .ref (X 11), .ref (X 12), .ref (X 13), .ref (X 14), .ref (X 15), .ref (X 16), .ref (X 17), .ref (X 18), .ref (X 19), .int (nI (S.1 20 0)), .ref (X 21), .ref (X 22), .ref (X 23), .ref (X 24), .ref (X 25), .ref (X 26), .ref (X 27), .int cz, .ref (X 29)]) (v := .int (nI (S.1 0 0 + x.toNatClampNeg))) (ty := .int) (C := RX10) (T := TX10) (N := 30) hx hb hts in_X10 tyX10 tyX10_ok nmX10 hown hK hZ m0 rfl 0 (by decide) fl_107 (fun _ h9 => h9) rfl (by decide +kernel) rfl rfl (Nat.le_of_ble_eq_true rfl) rfl dX10_days_34 (fun H locs hZ => ?_)
      refine lv_aload_n hx hb dX10_days_37 rfl (lv_at hl 0 rfl) ?_
      refine z_get (ci := 10) (fs := [.int (nI (S.1 0 0 + x.toNatClampNeg)), .int (nI (S.1 1 0)), .ref (X 2), .ref (X 3), .ref (X 4), .ref (X 5), .ref (X 6), .long S.2.2, .ref (X 8), .ref (X 9), .int (nI (S.1 10 0)), .ref (X 11), .ref (X 12), .ref (X 13), .ref (X 14), .ref (X 15), .ref (X 16), .ref (X 17), .ref (X 18), .ref (X 19), .int (nI (S.1 20 0)), .ref (X 21), .ref (X 22), .ref (X 23), .ref (X 24), .ref (X 25), .ref (X 26), .ref (X 27), .int cz, .ref (X 29)]) (C := RX10) (T := TX10) (N := 30) hx hb hts in_X10 hown hK hZ (va_up_self _ _ _) rfl 0 (by decide) fl_107 (fun _ h9 => h9) rfl dX10_days_38 ?_
      exact z_iret hx hb hr hlocks hZ dX10_days_41 (by rw [sp_days, if_pos c7, if_neg hz]; exact ⟨⟨_, _, _, (va_up_self _ _ _), ((va_up_ne _ _ (fun q => absurd (hXI 2 0 (by decide) (by decide) q) (by decide))).trans m2), ((va_up_ne _ _ (fun q => absurd (hXI 3 0 (by decide) (by decide) q) (by decide))).trans m3), ((va_up_ne _ _ (fun q => absurd (hXI 4 0 (by decide) (by decide) q) (by decide))).trans m4), ((va_up_ne _ _ (fun q => absurd (hXI 5 0 (by decide) (by decide) q) (by decide))).trans m5), ((va_up_ne _ _ (fun q => absurd (hXI 6 0 (by decide) (by decide) q) (by decide))).trans m6), ((va_up_ne _ _ (fun q => absurd (hXI 8 0 (by decide) (by decide) q) (by decide))).trans m8), ((va_up_ne _ _ (fun q => absurd (hXI 9 0 (by decide) (by decide) q) (by decide))).trans m9), ((va_up_ne _ _ (fun q => absurd (hXI 11 0 (by decide) (by decide) q) (by decide))).trans m11), ((va_up_ne _ _ (fun q => absurd (hXI 12 0 (by decide) (by decide) q) (by decide))).trans m12), ((va_up_ne _ _ (fun q => absurd (hXI 13 0 (by decide) (by decide) q) (by decide))).trans m13), ((va_up_ne _ _ (fun q => absurd (hXI 14 0 (by decide) (by decide) q) (by decide))).trans m14), ((va_up_ne _ _ (fun q => absurd (hXI 15 0 (by decide) (by decide) q) (by decide))).trans m15), ((va_up_ne _ _ (fun q => absurd (hXI 16 0 (by decide) (by decide) q) (by decide))).trans m16), ((va_up_ne _ _ (fun q => absurd (hXI 17 0 (by decide) (by decide) q) (by decide))).trans m17), ((va_up_ne _ _ (fun q => absurd (hXI 18 0 (by decide) (by decide) q) (by decide))).trans m18), ((va_up_ne _ _ (fun q => absurd (hXI 19 0 (by decide) (by decide) q) (by decide))).trans m19), ((va_up_ne _ _ (fun q => absurd (hXI 21 0 (by decide) (by decide) q) (by decide))).trans m21), ((va_up_ne _ _ (fun q => absurd (hXI 22 0 (by decide) (by decide) q) (by decide))).trans m22), ((va_up_ne _ _ (fun q => absurd (hXI 23 0 (by decide) (by decide) q) (by decide))).trans m23), ((va_up_ne _ _ (fun q => absurd (hXI 24 0 (by decide) (by decide) q) (by decide))).trans m24), ((va_up_ne _ _ (fun q => absurd (hXI 25 0 (by decide) (by decide) q) (by decide))).trans m25), ((va_up_ne _ _ (fun q => absurd (hXI 26 0 (by decide) (by decide) q) (by decide))).trans m26), ((va_up_ne _ _ (fun q => absurd (hXI 27 0 (by decide) (by decide) q) (by decide))).trans m27), ((va_up_ne _ _ (fun q => absurd (hXI 29 0 (by decide) (by decide) q) (by decide))).trans m29)⟩, rfl⟩)
    · have hz : 300 < S.1 0 0 + x.toNatClampNeg := Nat.not_le.mp (fun h => c21 (nI_le h (by decide)))
      refine lv_bipush (v := (-2)) hx hb dX10_days_24 (by decide) ?_
      exact z_iret hx hb hr hlocks hZ dX10_days_26 (mQ_of (by rw [sp_days, if_pos c7, if_pos hz]) ⟨_, _, _, hM⟩)
  · refine lv_iconst (v := (-1)) hx hb dX10_days_10 (by decide) ?_
    exact z_iret hx hb hr hlocks hZ dX10_days_11 (mQ_of (by rw [sp_days, if_neg c7]) ⟨_, _, _, hM⟩)

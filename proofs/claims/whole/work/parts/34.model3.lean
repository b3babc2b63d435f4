set_option maxHeartbeats 4000000 in
set_option maxRecDepth 100000 in
theorem c_X10_collect (l : Launch) (D : va_G) (cT : Nat → ClassId) (G : zG) (sz : Nat) (S : zS) (X : Nat → Nat) (cz : Int32) (f27 f29 : Nat → Int32) (nn : Nat) (x y : Int32) (j d : Nat) (hM : MD cT S X cz f27 f29 G) (hXI : XI X) (hS : ok S nn) (hj : j < S.1 1 0) (hxj : x = nI j) (hd : d ≤ 300) (hyd : y = nI d) : zM l D cT yX10_collect wsX10_collect (zR 2 0 0) [.ref (X 0), .int x, .int y] G sz (fun r G' => MD cT S X (nI (clc S j d f27 (S.1 10 0)).2) (clc S j d f27 (S.1 10 0)).1 f29 G' ∧ r = none) := by
  refine z_start (cc := cX10_collect) (maxL := 6) (ret := none) (by decide) rfl (Nat.le_of_ble_eq_true rfl) ?_
  intro p e s m below meth c ls hI hZ hl
  obtain ⟨hx, hb, hr, hml, hts, hown, hlocks, hname, hK, hA, hE⟩ := hI
  have hl : lv_has ls 6 [(0, .ref (X 0)), (1, .int x), (2, .int y)] := hl
  have hown : s.vm.findClass RX10 = some m.cls := hown
  have in_X10 : ∀ w ∈ u_ws RX10 TX10 30, w ∈ wsX10_collect := by decide +kernel
  have fl_13 := hts (.fieldLink RX10 13 "FairRentsModel" "area" "[I") (by decide +kernel)
  have fl_32 := hts (.fieldLink RX10 32 "FairRentsModel" "likeArea" "[I") (by decide +kernel)
  have fl_35 := hts (.fieldLink RX10 35 "FairRentsModel" "likePoints" "[I") (by decide +kernel)
  have fl_38 := hts (.fieldLink RX10 38 "FairRentsModel" "likeRent" "[I") (by decide +kernel)
  have fl_41 := hts (.fieldLink RX10 41 "FairRentsModel" "likeDay" "[I") (by decide +kernel)
  have fl_44 := hts (.fieldLink RX10 44 "FairRentsModel" "isStruck" "[Z") (by decide +kernel)
  have fl_77 := hts (.fieldLink RX10 77 "FairRentsModel" "right" "[I") (by decide +kernel)
  have fl_117 := hts (.fieldLink RX10 117 "FairRentsModel" "likes" "I") (by decide +kernel)
  have fl_120 := hts (.fieldLink RX10 120 "FairRentsModel" "counted" "I") (by decide +kernel)
  obtain ⟨m0, m2, m3, m4, m5, m6, m8, m9, m11, m12, m13, m14, m15, m16, m17, m18, m19, m21, m22, m23, m24, m25, m26, m27, m29⟩ := id hM
  obtain ⟨⟨k1, k10, k20, k0⟩, kH, k9, k8, k15, k26, kL, kLn, kP, kE, kEm, kn⟩ := id hS
  refine lv_aload_n hx hb dX10_collect_0 rfl (lv_at hl 0 rfl) ?_
  refine lv_iconst (v := 0) hx hb dX10_collect_1 (by decide) ?_
  refine z_put (ci := 10) (fs := [.int (nI (S.1 0 0)), .int (nI (S.1 1 0)), .ref (X 2), .ref (X 3), .ref (X 4), .ref (X 5), .ref (X 6), .long S.2.2, .ref (X 8), .ref (X 9), .int (nI (S.1 10 0)), .ref (X 11), .ref (X 12), .ref (X 13), .ref (X 14), .ref (X 15), .ref (X 16), .ref (X 17), .ref (X 18), .ref (X 19), .int (nI (S.1 20 0)), .ref (X 21), .ref (X 22), .ref (X 23), .ref (X 24), .ref (X 25), .ref (X 26), .ref (X 27), .int cz, .ref (X 29)]) (fs' := [.int (nI (S.1 0 0)), .int (nI (S.1 1 0)), .ref (X 2), .ref (X 3), .ref (X 4), .ref (X 5), .ref (X 6), .long S.2.2, .ref (X 8), .ref (X 9), .int (nI (S.1 10 0)), .ref (X 11), .ref (X 12), .ref (X 13), .ref (X 14), .ref (X 15), .ref (X 16), .ref (X 17), .ref (X 18), .ref (X 19), .int (nI (S.1 20 0)), .ref (X 21), .ref (X 22), .ref (X 23), .ref (X 24), .ref (X 25), .ref (X 26), .ref (X 27), .int 0, .ref (X 29)]) (v := .int 0) (ty := .int) (C := RX10) (T := TX10) (N := 30) hx hb hts in_X10 tyX10 tyX10_ok nmX10 hown hK hZ m0 rfl 28 (by decide) fl_120 (fun _ h9 => h9) rfl (by decide +kernel) rfl rfl (Nat.le_of_ble_eq_true rfl) rfl dX10_collect_2 (fun H locs hZ => ?_)
  refine lv_iconst (v := 0) hx hb dX10_collect_5 (by decide) ?_
  refine lv_istore_n (lv' := [(3, .int 0), (0, .ref (X 0)), (1, .int x), (2, .int y)]) hx hb dX10_collect_6 rfl hl (by decide) rfl (fun ls hl => ?_)
  have loop7 : ∀ (q i c2 : Nat) (f : Nat → Int32) (G1 : zG) (hq : i + q = S.1 10 0) (hM1 : MD cT S X (nI c2) f f29 G1) (hc : c2 ≤ i) (he : clc S j d f27 i = (f, c2)) (H : Heap) (locs : List Loc) (ls : Array Slot), zW D (zA G sz) s.heap G1 H locs → lv_has ls 6 [(3, .int (nI i)), (0, .ref (X 0)), (1, .int x), (2, .int y)] → W p l e (zR 2 0 0) s m ([.ref (X 0), .int x, .int y] : List Value).toArray below meth c H locs 0 0 (MQ below (zQ D G sz (fun r G' => MD cT S X (nI (clc S j d f27 (S.1 10 0)).2) (clc S j d f27 (S.1 10 0)).1 f29 G' ∧ r = none)) ([.ref (X 0), .int x, .int y] : List Value).toArray s 0 0 (zA G sz)) (F0 m 7 ls []) := by
    intro q
    induction q with
    | zero =>
      intro i c2 f G1 hq hM1 hc he H locs ls hZ hl
      obtain ⟨m0, m2, m3, m4, m5, m6, m8, m9, m11, m12, m13, m14, m15, m16, m17, m18, m19, m21, m22, m23, m24, m25, m26, m27, m29⟩ := id hM1
      refine lv_iload_n hx hb dX10_collect_7 rfl (lv_at hl 0 rfl) ?_
      refine lv_aload_n hx hb dX10_collect_8 rfl (lv_at hl 1 rfl) ?_
      refine z_get (ci := 10) (fs := [.int (nI (S.1 0 0)), .int (nI (S.1 1 0)), .ref (X 2), .ref (X 3), .ref (X 4), .ref (X 5), .ref (X 6), .long S.2.2, .ref (X 8), .ref (X 9), .int (nI (S.1 10 0)), .ref (X 11), .ref (X 12), .ref (X 13), .ref (X 14), .ref (X 15), .ref (X 16), .ref (X 17), .ref (X 18), .ref (X 19), .int (nI (S.1 20 0)), .ref (X 21), .ref (X 22), .ref (X 23), .ref (X 24), .ref (X 25), .ref (X 26), .ref (X 27), .int (nI c2), .ref (X 29)]) (C := RX10) (T := TX10) (N := 30) hx hb hts in_X10 hown hK hZ m0 rfl 10 (by decide) fl_117 (fun _ h9 => h9) rfl dX10_collect_9 ?_
      refine lv_icmp_ge (tgt := 149) hx hb dX10_collect_12 (by decide) (fun _ => ?_) (fun c12 => absurd (nI_le (by omega) (by omega)) c12)
      exact z_vret hx hb hr hlocks hZ dX10_collect_149 (by rw [show S.1 10 0 = i by omega, he]; exact ⟨hM1, rfl⟩)
    | succ q ih7 =>
      intro i c2 f G1 hq hM1 hc he H locs ls hZ hl
      obtain ⟨m0, m2, m3, m4, m5, m6, m8, m9, m11, m12, m13, m14, m15, m16, m17, m18, m19, m21, m22, m23, m24, m25, m26, m27, m29⟩ := id hM1
      refine lv_iload_n hx hb dX10_collect_7 rfl (lv_at hl 0 rfl) ?_
      refine lv_aload_n hx hb dX10_collect_8 rfl (lv_at hl 1 rfl) ?_
      refine z_get (ci := 10) (fs := [.int (nI (S.1 0 0)), .int (nI (S.1 1 0)), .ref (X 2), .ref (X 3), .ref (X 4), .ref (X 5), .ref (X 6), .long S.2.2, .ref (X 8), .ref (X 9), .int (nI (S.1 10 0)), .ref (X 11), .ref (X 12), .ref (X 13), .ref (X 14), .ref (X 15), .ref (X 16), .ref (X 17), .ref (X 18), .ref (X 19), .int (nI (S.1 20 0)), .ref (X 21), .ref (X 22), .ref (X 23), .ref (X 24), .ref (X 25), .ref (X 26), .ref (X 27), .int (nI c2), .ref (X 29)]) (C := RX10) (T := TX10) (N := 30) hx hb hts in_X10 hown hK hZ m0 rfl 10 (by decide) fl_117 (fun _ h9 => h9) rfl dX10_collect_9 ?_
      refine lv_icmp_ge (tgt := 149) hx hb dX10_collect_12 (by decide) (fun c12 => absurd c12 (nI_ge (by omega) (by omega))) (fun _ => ?_)
      refine lv_aload_n hx hb dX10_collect_15 rfl (lv_at hl 1 rfl) ?_
      refine z_get (ci := 10) (fs := [.int (nI (S.1 0 0)), .int (nI (S.1 1 0)), .ref (X 2), .ref (X 3), .ref (X 4), .ref (X 5), .ref (X 6), .long S.2.2, .ref (X 8), .ref (X 9), .int (nI (S.1 10 0)), .ref (X 11), .ref (X 12), .ref (X 13), .ref (X 14), .ref (X 15), .ref (X 16), .ref (X 17), .ref (X 18), .ref (X 19), .int (nI (S.1 20 0)), .ref (X 21), .ref (X 22), .ref (X 23), .ref (X 24), .ref (X 25), .ref (X 26), .ref (X 27), .int (nI c2), .ref (X 29)]) (C := RX10) (T := TX10) (N := 30) hx hb hts in_X10 hown hK hZ m0 rfl 11 (by decide) fl_32 (fun _ h9 => h9) rfl dX10_collect_16 ?_
      refine lv_iload_n hx hb dX10_collect_19 rfl (lv_at hl 0 rfl) ?_
      refine z_iald hx hb hK hZ m11 i rfl (by omega) (by decide) dX10_collect_20 ?_
      refine lv_aload_n hx hb dX10_collect_21 rfl (lv_at hl 1 rfl) ?_
      refine z_get (ci := 10) (fs := [.int (nI (S.1 0 0)), .int (nI (S.1 1 0)), .ref (X 2), .ref (X 3), .ref (X 4), .ref (X 5), .ref (X 6), .long S.2.2, .ref (X 8), .ref (X 9), .int (nI (S.1 10 0)), .ref (X 11), .ref (X 12), .ref (X 13), .ref (X 14), .ref (X 15), .ref (X 16), .ref (X 17), .ref (X 18), .ref (X 19), .int (nI (S.1 20 0)), .ref (X 21), .ref (X 22), .ref (X 23), .ref (X 24), .ref (X 25), .ref (X 26), .ref (X 27), .int (nI c2), .ref (X 29)]) (C := RX10) (T := TX10) (N := 30) hx hb hts in_X10 hown hK hZ m0 rfl 3 (by decide) fl_13 (fun _ h9 => h9) rfl dX10_collect_22 ?_
      refine lv_iload_n hx hb dX10_collect_25 rfl (lv_at hl 2 rfl) ?_
      refine z_iald hx hb hK hZ m3 j hxj (by omega) (by decide) dX10_collect_26 ?_
      refine lv_icmp_ne (tgt := 143) hx hb dX10_collect_27 (by decide) (fun c27 => ?_) (fun c27 => ?_)
      · refine lv_iinc (v := nI (i + 1)) (lv' := [(3, .int (nI (i + 1))), (0, .ref (X 0)), (1, .int x), (2, .int y)]) hx hb dX10_collect_143 hl (k := 0) rfl (nI_1 i) (by decide) rfl (fun ls hl => ?_)
        refine lv_goto (tgt := 7) hx hb dX10_collect_146 (by decide) ?_
        exact ih7 (i + 1) c2 f _ (by omega) hM1 (by omega) (clc_no (fun h => c27 h.2.1) he) _ _ _ hZ (lv_sub hl [0, 1, 2, 3] rfl)
      · refine lv_aload_n hx hb dX10_collect_30 rfl (lv_at hl 1 rfl) ?_
        refine z_get (ci := 10) (fs := [.int (nI (S.1 0 0)), .int (nI (S.1 1 0)), .ref (X 2), .ref (X 3), .ref (X 4), .ref (X 5), .ref (X 6), .long S.2.2, .ref (X 8), .ref (X 9), .int (nI (S.1 10 0)), .ref (X 11), .ref (X 12), .ref (X 13), .ref (X 14), .ref (X 15), .ref (X 16), .ref (X 17), .ref (X 18), .ref (X 19), .int (nI (S.1 20 0)), .ref (X 21), .ref (X 22), .ref (X 23), .ref (X 24), .ref (X 25), .ref (X 26), .ref (X 27), .int (nI c2), .ref (X 29)]) (C := RX10) (T := TX10) (N := 30) hx hb hts in_X10 hown hK hZ m0 rfl 14 (by decide) fl_41 (fun _ h9 => h9) rfl dX10_collect_31 ?_
        refine lv_iload_n hx hb dX10_collect_34 rfl (lv_at hl 0 rfl) ?_
        refine z_iald hx hb hK hZ m14 i rfl (by omega) (by decide) dX10_collect_35 ?_
        refine lv_iload_n hx hb dX10_collect_36 rfl (lv_at hl 3 rfl) ?_
        refine lv_icmp_gt (tgt := 143) hx hb dX10_collect_37 (by decide) (fun c37 => ?_) (fun c37 => ?_)
        · refine lv_iinc (v := nI (i + 1)) (lv' := [(3, .int (nI (i + 1))), (0, .ref (X 0)), (1, .int x), (2, .int y)]) hx hb dX10_collect_143 hl (k := 0) rfl (nI_1 i) (by decide) rfl (fun ls hl => ?_)
          refine lv_goto (tgt := 7) hx hb dX10_collect_146 (by decide) ?_
          exact ih7 (i + 1) c2 f _ (by omega) hM1 (by omega) (clc_no (fun h => h.2.2 (by rw [← hyd]; exact c37)) he) _ _ _ hZ (lv_sub hl [0, 1, 2, 3] rfl)
        · refine lv_aload_n hx hb dX10_collect_40 rfl (lv_at hl 1 rfl) ?_
          refine z_get (ci := 10) (fs := [.int (nI (S.1 0 0)), .int (nI (S.1 1 0)), .ref (X 2), .ref (X 3), .ref (X 4), .ref (X 5), .ref (X 6), .long S.2.2, .ref (X 8), .ref (X 9), .int (nI (S.1 10 0)), .ref (X 11), .ref (X 12), .ref (X 13), .ref (X 14), .ref (X 15), .ref (X 16), .ref (X 17), .ref (X 18), .ref (X 19), .int (nI (S.1 20 0)), .ref (X 21), .ref (X 22), .ref (X 23), .ref (X 24), .ref (X 25), .ref (X 26), .ref (X 27), .int (nI c2), .ref (X 29)]) (C := RX10) (T := TX10) (N := 30) hx hb hts in_X10 hown hK hZ m0 rfl 15 (by decide) fl_44 (fun _ h9 => h9) rfl dX10_collect_41 ?_
          refine lv_iload_n hx hb dX10_collect_44 rfl (lv_at hl 0 rfl) ?_
          refine z_zald hx hb hK hZ m15 i rfl (by omega) (by decide) dX10_collect_45 ?_
          refine lv_if_ne (tgt := 143) hx hb dX10_collect_46 (by decide) (fun c46 => ?_) (fun c46 => ?_)
          · refine lv_iinc (v := nI (i + 1)) (lv' := [(3, .int (nI (i + 1))), (0, .ref (X 0)), (1, .int x), (2, .int y)]) hx hb dX10_collect_143 hl (k := 0) rfl (nI_1 i) (by decide) rfl (fun ls hl => ?_)
            refine lv_goto (tgt := 7) hx hb dX10_collect_146 (by decide) ?_
            exact ih7 (i + 1) c2 f _ (by omega) hM1 (by omega) (clc_no (fun h => c46 (by show nI _ = 0; rw [h.1]; rfl)) he) _ _ _ hZ (lv_sub hl [0, 1, 2, 3] rfl)
          · refine lv_aload_n hx hb dX10_collect_49 rfl (lv_at hl 1 rfl) ?_
            refine z_get (ci := 10) (fs := [.int (nI (S.1 0 0)), .int (nI (S.1 1 0)), .ref (X 2), .ref (X 3), .ref (X 4), .ref (X 5), .ref (X 6), .long S.2.2, .ref (X 8), .ref (X 9), .int (nI (S.1 10 0)), .ref (X 11), .ref (X 12), .ref (X 13), .ref (X 14), .ref (X 15), .ref (X 16), .ref (X 17), .ref (X 18), .ref (X 19), .int (nI (S.1 20 0)), .ref (X 21), .ref (X 22), .ref (X 23), .ref (X 24), .ref (X 25), .ref (X 26), .ref (X 27), .int (nI c2), .ref (X 29)]) (C := RX10) (T := TX10) (N := 30) hx hb hts in_X10 hown hK hZ m0 rfl 13 (by decide) fl_38 (fun _ h9 => h9) rfl dX10_collect_50 ?_
            refine lv_iload_n hx hb dX10_collect_53 rfl (lv_at hl 0 rfl) ?_
            refine z_iald hx hb hK hZ m13 i rfl (by omega) (by decide) dX10_collect_54 ?_
            refine lv_aload_n hx hb dX10_collect_55 rfl (lv_at hl 1 rfl) ?_
            refine lv_iload_n hx hb dX10_collect_56 rfl (lv_at hl 3 rfl) ?_
            refine lv_iconst (v := 3) hx hb dX10_collect_57 (by decide) ?_
            refine z_call (va_runV (As := [.int y, .int 3]) (rest := [.int (S.2.1 13 i)]) ⟨hx, hb, hml, hown, hts⟩ (c_X10_lawOf l D cT _ _ S X _ _ _ nn y 3 d 3 hM1 hXI hS (by omega) hyd (by decide) rfl) (cwV 2 hts gX10_collect_X10_lawOf rfl rfl rfl (by decide +kernel) ⟨(Nat.le_of_ble_eq_true rfl), (Nat.le_of_ble_eq_true rfl)⟩) (z_preV hK hE hZ hA (ci := 10) rfl m0) rfl rfl hl.1 rfl (lv_room (Nat.le_of_ble_eq_true rfl)) dX10_collect_58 ⟨(Nat.le_of_ble_eq_true rfl), (Nat.le_of_ble_eq_true rfl)⟩) hZ hA (fun r G58 H locs hq hZ => ?_)
            obtain ⟨hg, rfl⟩ := hq
            replace hg := hg.symm
            subst hg
            refine W.eq (g2 := F0 m 61 ls [.int (lw S d 3), .int (S.2.1 13 i)]) rfl ?_
            refine lv_aload_n hx hb dX10_collect_61 rfl (lv_at hl 1 rfl) ?_
            refine lv_iload_n hx hb dX10_collect_62 rfl (lv_at hl 2 rfl) ?_
            refine z_call (va_runV (As := [.int x]) (rest := [.int (lw S d 3), .int (S.2.1 13 i)]) ⟨hx, hb, hml, hown, hts⟩ (c_X10_pointsOf l D cT _ _ S X _ _ _ nn x j hM1 hXI hS hj hxj) (cwV 1 hts gX10_collect_X10_pointsOf rfl rfl rfl (by decide +kernel) ⟨(Nat.le_of_ble_eq_true rfl), (Nat.le_of_ble_eq_true rfl)⟩) (z_preV hK hE hZ hA (ci := 10) rfl m0) rfl rfl hl.1 rfl (lv_room (Nat.le_of_ble_eq_true rfl)) dX10_collect_63 ⟨(Nat.le_of_ble_eq_true rfl), (Nat.le_of_ble_eq_true rfl)⟩) hZ hA (fun r G63 H locs hq hZ => ?_)
            obtain ⟨hg, rfl⟩ := hq
            replace hg := hg.symm
            subst hg
            refine W.eq (g2 := F0 m 66 ls [.int (pts S j), .int (lw S d 3), .int (S.2.1 13 i)]) rfl ?_
            refine lv_aload_n hx hb dX10_collect_66 rfl (lv_at hl 1 rfl) ?_
            refine z_get (ci := 10) (fs := [.int (nI (S.1 0 0)), .int (nI (S.1 1 0)), .ref (X 2), .ref (X 3), .ref (X 4), .ref (X 5), .ref (X 6), .long S.2.2, .ref (X 8), .ref (X 9), .int (nI (S.1 10 0)), .ref (X 11), .ref (X 12), .ref (X 13), .ref (X 14), .ref (X 15), .ref (X 16), .ref (X 17), .ref (X 18), .ref (X 19), .int (nI (S.1 20 0)), .ref (X 21), .ref (X 22), .ref (X 23), .ref (X 24), .ref (X 25), .ref (X 26), .ref (X 27), .int (nI c2), .ref (X 29)]) (C := RX10) (T := TX10) (N := 30) hx hb hts in_X10 hown hK hZ m0 rfl 12 (by decide) fl_35 (fun _ h9 => h9) rfl dX10_collect_67 ?_
            refine lv_iload_n hx hb dX10_collect_70 rfl (lv_at hl 0 rfl) ?_
            refine z_iald hx hb hK hZ m12 i rfl (by omega) (by decide) dX10_collect_71 ?_
            refine lv_isub hx hb dX10_collect_72 ?_
            refine lv_imul hx hb dX10_collect_73 ?_
            refine lv_iadd hx hb dX10_collect_74 ?_
            refine W.eq (congrArg (fun v => F0 m 75 ls (.int v :: [])) rfl) ?_
            refine W.eq (g2 := F0 m 75 ls [.int (vl S j d i)]) rfl ?_
            refine lv_istore (lv' := [(4, .int (vl S j d i)), (3, .int (nI i)), (0, .ref (X 0)), (1, .int x), (2, .int y)]) hx hb dX10_collect_75 hl (by decide) rfl (fun ls hl => ?_)
            refine lv_aload_n hx hb dX10_collect_77 rfl (lv_at hl 2 rfl) ?_
            refine z_get (ci := 10) (fs := [.int (nI (S.1 0 0)), .int (nI (S.1 1 0)), .ref (X 2), .ref (X 3), .ref (X 4), .ref (X 5), .ref (X 6), .long S.2.2, .ref (X 8), .ref (X 9), .int (nI (S.1 10 0)), .ref (X 11), .ref (X 12), .ref (X 13), .ref (X 14), .ref (X 15), .ref (X 16), .ref (X 17), .ref (X 18), .ref (X 19), .int (nI (S.1 20 0)), .ref (X 21), .ref (X 22), .ref (X 23), .ref (X 24), .ref (X 25), .ref (X 26), .ref (X 27), .int (nI c2), .ref (X 29)]) (C := RX10) (T := TX10) (N := 30) hx hb hts in_X10 hown hK hZ m0 rfl 28 (by decide) fl_120 (fun _ h9 => h9) rfl dX10_collect_78 ?_
            refine lv_istore (lv' := [(5, .int (nI c2)), (4, .int (vl S j d i)), (3, .int (nI i)), (0, .ref (X 0)), (1, .int x), (2, .int y)]) hx hb dX10_collect_81 hl (by decide) rfl (fun ls hl => ?_)
            have loop83 : ∀ (a : Nat) (f2 : Nat → Int32) (G2 : zG) (hM2 : MD cT S X (nI c2) f2 f29 G2) (ha : a ≤ c2) (hi2 : insAt (vl S j d i) a f2 = insAt (vl S j d i) c2 f) (H : Heap) (locs : List Loc) (ls : Array Slot), zW D (zA G sz) s.heap G2 H locs → lv_has ls 6 [(5, .int (nI a)), (4, .int (vl S j d i)), (3, .int (nI i)), (0, .ref (X 0)), (1, .int x), (2, .int y)] → W p l e (zR 2 0 0) s m ([.ref (X 0), .int x, .int y] : List Value).toArray below meth c H locs 0 0 (MQ below (zQ D G sz (fun r G' => MD cT S X (nI (clc S j d f27 (S.1 10 0)).2) (clc S j d f27 (S.1 10 0)).1 f29 G' ∧ r = none)) ([.ref (X 0), .int x, .int y] : List Value).toArray s 0 0 (zA G sz)) (F0 m 83 ls []) := by
              intro a
              induction a with
              | zero =>
                intro f2 G2 hM2 ha hi2 H locs ls hZ hl
                obtain ⟨m0, m2, m3, m4, m5, m6, m8, m9, m11, m12, m13, m14, m15, m16, m17, m18, m19, m21, m22, m23, m24, m25, m26, m27, m29⟩ := id hM2
                refine lv_iload hx hb dX10_collect_83 (lv_at hl 0 rfl) ?_
                refine lv_if_le (tgt := 124) hx hb dX10_collect_85 (by decide) (fun _ => ?_) (fun c85 => absurd (show nI 0 ≤ 0 by decide) c85)
                refine lv_aload_n hx hb dX10_collect_124 rfl (lv_at hl 3 rfl) ?_
                refine z_get (ci := 10) (fs := [.int (nI (S.1 0 0)), .int (nI (S.1 1 0)), .ref (X 2), .ref (X 3), .ref (X 4), .ref (X 5), .ref (X 6), .long S.2.2, .ref (X 8), .ref (X 9), .int (nI (S.1 10 0)), .ref (X 11), .ref (X 12), .ref (X 13), .ref (X 14), .ref (X 15), .ref (X 16), .ref (X 17), .ref (X 18), .ref (X 19), .int (nI (S.1 20 0)), .ref (X 21), .ref (X 22), .ref (X 23), .ref (X 24), .ref (X 25), .ref (X 26), .ref (X 27), .int (nI c2), .ref (X 29)]) (C := RX10) (T := TX10) (N := 30) hx hb hts in_X10 hown hK hZ m0 rfl 27 (by decide) fl_77 (fun _ h9 => h9) rfl dX10_collect_125 ?_
                refine lv_iload hx hb dX10_collect_128 (lv_at hl 0 rfl) ?_
                refine lv_iload hx hb dX10_collect_130 (lv_at hl 1 rfl) ?_
                refine z_iast hx hb hK hZ m27 0 rfl (by decide) (by decide) dX10_collect_132 (fun H locs hZ => ?_)
                refine lv_aload_n hx hb dX10_collect_133 rfl (lv_at hl 3 rfl) ?_
                refine lv_dup hx hb dX10_collect_134 rfl ?_
                refine z_get (ci := 10) (fs := [.int (nI (S.1 0 0)), .int (nI (S.1 1 0)), .ref (X 2), .ref (X 3), .ref (X 4), .ref (X 5), .ref (X 6), .long S.2.2, .ref (X 8), .ref (X 9), .int (nI (S.1 10 0)), .ref (X 11), .ref (X 12), .ref (X 13), .ref (X 14), .ref (X 15), .ref (X 16), .ref (X 17), .ref (X 18), .ref (X 19), .int (nI (S.1 20 0)), .ref (X 21), .ref (X 22), .ref (X 23), .ref (X 24), .ref (X 25), .ref (X 26), .ref (X 27), .int (nI c2), .ref (X 29)]) (C := RX10) (T := TX10) (N := 30) hx hb hts in_X10 hown hK hZ ((va_up_ne _ _ (fun q => absurd (hXI 0 27 (by decide) (by decide) q) (by decide))).trans m0) rfl 28 (by decide) fl_120 (fun _ h9 => h9) rfl dX10_collect_135 ?_
                refine lv_iconst (v := 1) hx hb dX10_collect_138 (by decide) ?_
                refine lv_iadd hx hb dX10_collect_139 ?_
                refine W.eq (congrArg (fun v => F0 m 140 ls (.int v :: [.ref (X 0)])) (nI_1 c2)) ?_
                refine W.eq (g2 := F0 m 140 ls [.int (nI (c2 + 1)), .ref (X 0)]) rfl ?_
                refine z_put (ci := 10) (fs := [.int (nI (S.1 0 0)), .int (nI (S.1 1 0)), .ref (X 2), .ref (X 3), .ref (X 4), .ref (X 5), .ref (X 6), .long S.2.2, .ref (X 8), .ref (X 9), .int (nI (S.1 10 0)), .ref (X 11), .ref (X 12), .ref (X 13), .ref (X 14), .ref (X 15), .ref (X 16), .ref (X 17), .ref (X 18), .ref (X 19), .int (nI (S.1 20 0)), .ref (X 21), .ref (X 22), .ref (X 23), .ref (X 24), .ref (X 25), .ref (X 26), .ref (X 27), .int (nI c2), .ref (X 29)]) (fs' := [.int (nI (S.1 0 0)), .int (nI (S.1 1 0)), .ref (X 2), .ref (X 3), .ref (X 4), .ref (X 5), .ref (X 6), .long S.2.2, .ref (X 8), .ref (X 9), .int (nI (S.1 10 0)), .ref (X 11), .ref (X 12), .ref (X 13), .ref (X 14), .ref (X 15), .ref (X 16), .ref (X 17), .ref (X 18), .ref (X 19), .int (nI (S.1 20 0)), .ref (X 21), .ref (X 22), .ref (X 23), .ref (X 24), .ref (X 25), .ref (X 26), .ref (X 27), .int (nI (c2 + 1)), .ref (X 29)]) (v := .int (nI (c2 + 1))) (ty := .int) (C := RX10) (T := TX10) (N := 30) hx hb hts in_X10 tyX10 tyX10_ok nmX10 hown hK hZ ((va_up_ne _ _ (fun q => absurd (hXI 0 27 (by decide) (by decide) q) (by decide))).trans m0) rfl 28 (by decide) fl_120 (fun _ h9 => h9) rfl (by decide +kernel) rfl rfl (Nat.le_of_ble_eq_true rfl) rfl dX10_collect_140 (fun H locs hZ => ?_)
                refine lv_iinc (v := nI (i + 1)) (lv' := [(3, .int (nI (i + 1))), (5, .int (nI 0)), (4, .int (vl S j d i)), (0, .ref (X 0)), (1, .int x), (2, .int y)]) hx hb dX10_collect_143 hl (k := 2) rfl (nI_1 i) (by decide) rfl (fun ls hl => ?_)
                refine lv_goto (tgt := 7) hx hb dX10_collect_146 (by decide) ?_
                exact ih7 (i + 1) (c2 + 1) _ _ (by omega) ⟨(va_up_self _ _ _), ((va_up_ne _ _ (fun q => absurd (hXI 2 0 (by decide) (by decide) q) (by decide))).trans ((va_up_ne _ _ (fun q => absurd (hXI 2 27 (by decide) (by decide) q) (by decide))).trans m2)), ((va_up_ne _ _ (fun q => absurd (hXI 3 0 (by decide) (by decide) q) (by decide))).trans ((va_up_ne _ _ (fun q => absurd (hXI 3 27 (by decide) (by decide) q) (by decide))).trans m3)), ((va_up_ne _ _ (fun q => absurd (hXI 4 0 (by decide) (by decide) q) (by decide))).trans ((va_up_ne _ _ (fun q => absurd (hXI 4 27 (by decide) (by decide) q) (by decide))).trans m4)), ((va_up_ne _ _ (fun q => absurd (hXI 5 0 (by decide) (by decide) q) (by decide))).trans ((va_up_ne _ _ (fun q => absurd (hXI 5 27 (by decide) (by decide) q) (by decide))).trans m5)), ((va_up_ne _ _ (fun q => absurd (hXI 6 0 (by decide) (by decide) q) (by decide))).trans ((va_up_ne _ _ (fun q => absurd (hXI 6 27 (by decide) (by decide) q) (by decide))).trans m6)), ((va_up_ne _ _ (fun q => absurd (hXI 8 0 (by decide) (by decide) q) (by decide))).trans ((va_up_ne _ _ (fun q => absurd (hXI 8 27 (by decide) (by decide) q) (by decide))).trans m8)), ((va_up_ne _ _ (fun q => absurd (hXI 9 0 (by decide) (by decide) q) (by decide))).trans ((va_up_ne _ _ (fun q => absurd (hXI 9 27 (by decide) (by decide) q) (by decide))).trans m9)), ((va_up_ne _ _ (fun q => absurd (hXI 11 0 (by decide) (by decide) q) (by decide))).trans ((va_up_ne _ _ (fun q => absurd (hXI 11 27 (by decide) (by decide) q) (by decide))).trans m11)), ((va_up_ne _ _ (fun q => absurd (hXI 12 0 (by decide) (by decide) q) (by decide))).trans ((va_up_ne _ _ (fun q => absurd (hXI 12 27 (by decide) (by decide) q) (by decide))).trans m12)), ((va_up_ne _ _ (fun q => absurd (hXI 13 0 (by decide) (by decide) q) (by decide))).trans ((va_up_ne _ _ (fun q => absurd (hXI 13 27 (by decide) (by decide) q) (by decide))).trans m13)), ((va_up_ne _ _ (fun q => absurd (hXI 14 0 (by decide) (by decide) q) (by decide))).trans ((va_up_ne _ _ (fun q => absurd (hXI 14 27 (by decide) (by decide) q) (by decide))).trans m14)), ((va_up_ne _ _ (fun q => absurd (hXI 15 0 (by decide) (by decide) q) (by decide))).trans ((va_up_ne _ _ (fun q => absurd (hXI 15 27 (by decide) (by decide) q) (by decide))).trans m15)), ((va_up_ne _ _ (fun q => absurd (hXI 16 0 (by decide) (by decide) q) (by decide))).trans ((va_up_ne _ _ (fun q => absurd (hXI 16 27 (by decide) (by decide) q) (by decide))).trans m16)), ((va_up_ne _ _ (fun q => absurd (hXI 17 0 (by decide) (by decide) q) (by decide))).trans ((va_up_ne _ _ (fun q => absurd (hXI 17 27 (by decide) (by decide) q) (by decide))).trans m17)), ((va_up_ne _ _ (fun q => absurd (hXI 18 0 (by decide) (by decide) q) (by decide))).trans ((va_up_ne _ _ (fun q => absurd (hXI 18 27 (by decide) (by decide) q) (by decide))).trans m18)), ((va_up_ne _ _ (fun q => absurd (hXI 19 0 (by decide) (by decide) q) (by decide))).trans ((va_up_ne _ _ (fun q => absurd (hXI 19 27 (by decide) (by decide) q) (by decide))).trans m19)), ((va_up_ne _ _ (fun q => absurd (hXI 21 0 (by decide) (by decide) q) (by decide))).trans ((va_up_ne _ _ (fun q => absurd (hXI 21 27 (by decide) (by decide) q) (by decide))).trans m21)), ((va_up_ne _ _ (fun q => absurd (hXI 22 0 (by decide) (by decide) q) (by decide))).trans ((va_up_ne _ _ (fun q => absurd (hXI 22 27 (by decide) (by decide) q) (by decide))).trans m22)), ((va_up_ne _ _ (fun q => absurd (hXI 23 0 (by decide) (by decide) q) (by decide))).trans ((va_up_ne _ _ (fun q => absurd (hXI 23 27 (by decide) (by decide) q) (by decide))).trans m23)), ((va_up_ne _ _ (fun q => absurd (hXI 24 0 (by decide) (by decide) q) (by decide))).trans ((va_up_ne _ _ (fun q => absurd (hXI 24 27 (by decide) (by decide) q) (by decide))).trans m24)), ((va_up_ne _ _ (fun q => absurd (hXI 25 0 (by decide) (by decide) q) (by decide))).trans ((va_up_ne _ _ (fun q => absurd (hXI 25 27 (by decide) (by decide) q) (by decide))).trans m25)), ((va_up_ne _ _ (fun q => absurd (hXI 26 0 (by decide) (by decide) q) (by decide))).trans ((va_up_ne _ _ (fun q => absurd (hXI 26 27 (by decide) (by decide) q) (by decide))).trans m26)), ((va_up_ne _ _ (fun q => absurd (hXI 27 0 (by decide) (by decide) q) (by decide))).trans (va_up_self _ _ _)), ((va_up_ne _ _ (fun q => absurd (hXI 29 0 (by decide) (by decide) q) (by decide))).trans ((va_up_ne _ _ (fun q => absurd (hXI 29 27 (by decide) (by decide) q) (by decide))).trans m29))⟩ (by omega) (clc_yes ⟨n0 (Nat.le_succ_of_le (k15 _)) c46, c27, fun h => c37 (by rw [hyd]; exact h)⟩ he (hi2.symm)) _ _ _ hZ (lv_sub hl [0, 3, 4, 5] rfl)
              | succ a ih83 =>
                intro f2 G2 hM2 ha hi2 H locs ls hZ hl
                obtain ⟨m0, m2, m3, m4, m5, m6, m8, m9, m11, m12, m13, m14, m15, m16, m17, m18, m19, m21, m22, m23, m24, m25, m26, m27, m29⟩ := id hM2
                refine lv_iload hx hb dX10_collect_83 (lv_at hl 0 rfl) ?_
                refine lv_if_le (tgt := 124) hx hb dX10_collect_85 (by decide) (fun c85 => absurd c85 (nI_nle (by omega) (by omega))) (fun _ => ?_)
                refine lv_aload_n hx hb dX10_collect_88 rfl (lv_at hl 3 rfl) ?_
                refine z_get (ci := 10) (fs := [.int (nI (S.1 0 0)), .int (nI (S.1 1 0)), .ref (X 2), .ref (X 3), .ref (X 4), .ref (X 5), .ref (X 6), .long S.2.2, .ref (X 8), .ref (X 9), .int (nI (S.1 10 0)), .ref (X 11), .ref (X 12), .ref (X 13), .ref (X 14), .ref (X 15), .ref (X 16), .ref (X 17), .ref (X 18), .ref (X 19), .int (nI (S.1 20 0)), .ref (X 21), .ref (X 22), .ref (X 23), .ref (X 24), .ref (X 25), .ref (X 26), .ref (X 27), .int (nI c2), .ref (X 29)]) (C := RX10) (T := TX10) (N := 30) hx hb hts in_X10 hown hK hZ m0 rfl 27 (by decide) fl_77 (fun _ h9 => h9) rfl dX10_collect_89 ?_
                refine lv_iload hx hb dX10_collect_92 (lv_at hl 0 rfl) ?_
                refine lv_iconst (v := 1) hx hb dX10_collect_94 (by decide) ?_
                refine lv_isub hx hb dX10_collect_95 ?_
                refine z_iald hx hb hK hZ m27 a (nI_pred a) (by omega) (by decide) dX10_collect_96 ?_
                refine lv_iload hx hb dX10_collect_97 (lv_at hl 1 rfl) ?_
                refine lv_icmp_le (tgt := 124) hx hb dX10_collect_99 (by decide) (fun c99 => ?_) (fun c99 => ?_)
                · refine lv_aload_n hx hb dX10_collect_124 rfl (lv_at hl 3 rfl) ?_
                  refine z_get (ci := 10) (fs := [.int (nI (S.1 0 0)), .int (nI (S.1 1 0)), .ref (X 2), .ref (X 3), .ref (X 4), .ref (X 5), .ref (X 6), .long S.2.2, .ref (X 8), .ref (X 9), .int (nI (S.1 10 0)), .ref (X 11), .ref (X 12), .ref (X 13), .ref (X 14), .ref (X 15), .ref (X 16), .ref (X 17), .ref (X 18), .ref (X 19), .int (nI (S.1 20 0)), .ref (X 21), .ref (X 22), .ref (X 23), .ref (X 24), .ref (X 25), .ref (X 26), .ref (X 27), .int (nI c2), .ref (X 29)]) (C := RX10) (T := TX10) (N := 30) hx hb hts in_X10 hown hK hZ m0 rfl 27 (by decide) fl_77 (fun _ h9 => h9) rfl dX10_collect_125 ?_
                  refine lv_iload hx hb dX10_collect_128 (lv_at hl 0 rfl) ?_
                  refine lv_iload hx hb dX10_collect_130 (lv_at hl 1 rfl) ?_
                  refine z_iast hx hb hK hZ m27 (a + 1) rfl (by omega) (by decide) dX10_collect_132 (fun H locs hZ => ?_)
                  refine lv_aload_n hx hb dX10_collect_133 rfl (lv_at hl 3 rfl) ?_
                  refine lv_dup hx hb dX10_collect_134 rfl ?_
                  refine z_get (ci := 10) (fs := [.int (nI (S.1 0 0)), .int (nI (S.1 1 0)), .ref (X 2), .ref (X 3), .ref (X 4), .ref (X 5), .ref (X 6), .long S.2.2, .ref (X 8), .ref (X 9), .int (nI (S.1 10 0)), .ref (X 11), .ref (X 12), .ref (X 13), .ref (X 14), .ref (X 15), .ref (X 16), .ref (X 17), .ref (X 18), .ref (X 19), .int (nI (S.1 20 0)), .ref (X 21), .ref (X 22), .ref (X 23), .ref (X 24), .ref (X 25), .ref (X 26), .ref (X 27), .int (nI c2), .ref (X 29)]) (C := RX10) (T := TX10) (N := 30) hx hb hts in_X10 hown hK hZ ((va_up_ne _ _ (fun q => absurd (hXI 0 27 (by decide) (by decide) q) (by decide))).trans m0) rfl 28 (by decide) fl_120 (fun _ h9 => h9) rfl dX10_collect_135 ?_
                  refine lv_iconst (v := 1) hx hb dX10_collect_138 (by decide) ?_
                  refine lv_iadd hx hb dX10_collect_139 ?_
                  refine W.eq (congrArg (fun v => F0 m 140 ls (.int v :: [.ref (X 0)])) (nI_1 c2)) ?_
                  refine W.eq (g2 := F0 m 140 ls [.int (nI (c2 + 1)), .ref (X 0)]) rfl ?_
                  refine z_put (ci := 10) (fs := [.int (nI (S.1 0 0)), .int (nI (S.1 1 0)), .ref (X 2), .ref (X 3), .ref (X 4), .ref (X 5), .ref (X 6), .long S.2.2, .ref (X 8), .ref (X 9), .int (nI (S.1 10 0)), .ref (X 11), .ref (X 12), .ref (X 13), .ref (X 14), .ref (X 15), .ref (X 16), .ref (X 17), .ref (X 18), .ref (X 19), .int (nI (S.1 20 0)), .ref (X 21), .ref (X 22), .ref (X 23), .ref (X 24), .ref (X 25), .ref (X 26), .ref (X 27), .int (nI c2), .ref (X 29)]) (fs' := [.int (nI (S.1 0 0)), .int (nI (S.1 1 0)), .ref (X 2), .ref (X 3), .ref (X 4), .ref (X 5), .ref (X 6), .long S.2.2, .ref (X 8), .ref (X 9), .int (nI (S.1 10 0)), .ref (X 11), .ref (X 12), .ref (X 13), .ref (X 14), .ref (X 15), .ref (X 16), .ref (X 17), .ref (X 18), .ref (X 19), .int (nI (S.1 20 0)), .ref (X 21), .ref (X 22), .ref (X 23), .ref (X 24), .ref (X 25), .ref (X 26), .ref (X 27), .int (nI (c2 + 1)), .ref (X 29)]) (v := .int (nI (c2 + 1))) (ty := .int) (C := RX10) (T := TX10) (N := 30) hx hb hts in_X10 tyX10 tyX10_ok nmX10 hown hK hZ ((va_up_ne _ _ (fun q => absurd (hXI 0 27 (by decide) (by decide) q) (by decide))).trans m0) rfl 28 (by decide) fl_120 (fun _ h9 => h9) rfl (by decide +kernel) rfl rfl (Nat.le_of_ble_eq_true rfl) rfl dX10_collect_140 (fun H locs hZ => ?_)
                  refine lv_iinc (v := nI (i + 1)) (lv' := [(3, .int (nI (i + 1))), (5, .int (nI (a + 1))), (4, .int (vl S j d i)), (0, .ref (X 0)), (1, .int x), (2, .int y)]) hx hb dX10_collect_143 hl (k := 2) rfl (nI_1 i) (by decide) rfl (fun ls hl => ?_)
                  refine lv_goto (tgt := 7) hx hb dX10_collect_146 (by decide) ?_
                  exact ih7 (i + 1) (c2 + 1) _ _ (by omega) ⟨(va_up_self _ _ _), ((va_up_ne _ _ (fun q => absurd (hXI 2 0 (by decide) (by decide) q) (by decide))).trans ((va_up_ne _ _ (fun q => absurd (hXI 2 27 (by decide) (by decide) q) (by decide))).trans m2)), ((va_up_ne _ _ (fun q => absurd (hXI 3 0 (by decide) (by decide) q) (by decide))).trans ((va_up_ne _ _ (fun q => absurd (hXI 3 27 (by decide) (by decide) q) (by decide))).trans m3)), ((va_up_ne _ _ (fun q => absurd (hXI 4 0 (by decide) (by decide) q) (by decide))).trans ((va_up_ne _ _ (fun q => absurd (hXI 4 27 (by decide) (by decide) q) (by decide))).trans m4)), ((va_up_ne _ _ (fun q => absurd (hXI 5 0 (by decide) (by decide) q) (by decide))).trans ((va_up_ne _ _ (fun q => absurd (hXI 5 27 (by decide) (by decide) q) (by decide))).trans m5)), ((va_up_ne _ _ (fun q => absurd (hXI 6 0 (by decide) (by decide) q) (by decide))).trans ((va_up_ne _ _ (fun q => absurd (hXI 6 27 (by decide) (by decide) q) (by decide))).trans m6)), ((va_up_ne _ _ (fun q => absurd (hXI 8 0 (by decide) (by decide) q) (by decide))).trans ((va_up_ne _ _ (fun q => absurd (hXI 8 27 (by decide) (by decide) q) (by decide))).trans m8)), ((va_up_ne _ _ (fun q => absurd (hXI 9 0 (by decide) (by decide) q) (by decide))).trans ((va_up_ne _ _ (fun q => absurd (hXI 9 27 (by decide) (by decide) q) (by decide))).trans m9)), ((va_up_ne _ _ (fun q => absurd (hXI 11 0 (by decide) (by decide) q) (by decide))).trans ((va_up_ne _ _ (fun q => absurd (hXI 11 27 (by decide) (by decide) q) (by decide))).trans m11)), ((va_up_ne _ _ (fun q => absurd (hXI 12 0 (by decide) (by decide) q) (by decide))).trans ((va_up_ne _ _ (fun q => absurd (hXI 12 27 (by decide) (by decide) q) (by decide))).trans m12)), ((va_up_ne _ _ (fun q => absurd (hXI 13 0 (by decide) (by decide) q) (by decide))).trans ((va_up_ne _ _ (fun q => absurd (hXI 13 27 (by decide) (by decide) q) (by decide))).trans m13)), ((va_up_ne _ _ (fun q => absurd (hXI 14 0 (by decide) (by decide) q) (by decide))).trans ((va_up_ne _ _ (fun q => absurd (hXI 14 27 (by decide) (by decide) q) (by decide))).trans m14)), ((va_up_ne _ _ (fun q => absurd (hXI 15 0 (by decide) (by decide) q) (by decide))).trans ((va_up_ne _ _ (fun q => absurd (hXI 15 27 (by decide) (by decide) q) (by decide))).trans m15)), ((va_up_ne _ _ (fun q => absurd (hXI 16 0 (by decide) (by decide) q) (by decide))).trans ((va_up_ne _ _ (fun q => absurd (hXI 16 27 (by decide) (by decide) q) (by decide))).trans m16)), ((va_up_ne _ _ (fun q => absurd (hXI 17 0 (by decide) (by decide) q) (by decide))).trans ((va_up_ne _ _ (fun q => absurd (hXI 17 27 (by decide) (by decide) q) (by decide))).trans m17)), ((va_up_ne _ _ (fun q => absurd (hXI 18 0 (by decide) (by decide) q) (by decide))).trans ((va_up_ne _ _ (fun q => absurd (hXI 18 27 (by decide) (by decide) q) (by decide))).trans m18)), ((va_up_ne _ _ (fun q => absurd (hXI 19 0 (by decide) (by decide) q) (by decide))).trans ((va_up_ne _ _ (fun q => absurd (hXI 19 27 (by decide) (by decide) q) (by decide))).trans m19)), ((va_up_ne _ _ (fun q => absurd (hXI 21 0 (by decide) (by decide) q) (by decide))).trans ((va_up_ne _ _ (fun q => absurd (hXI 21 27 (by decide) (by decide) q) (by decide))).trans m21)), ((va_up_ne _ _ (fun q => absurd (hXI 22 0 (by decide) (by decide) q) (by decide))).trans ((va_up_ne _ _ (fun q => absurd (hXI 22 27 (by decide) (by decide) q) (by decide))).trans m22)), ((va_up_ne _ _ (fun q => absurd (hXI 23 0 (by decide) (by decide) q) (by decide))).trans ((va_up_ne _ _ (fun q => absurd (hXI 23 27 (by decide) (by decide) q) (by decide))).trans m23)), ((va_up_ne _ _ (fun q => absurd (hXI 24 0 (by decide) (by decide) q) (by decide))).trans ((va_up_ne _ _ (fun q => absurd (hXI 24 27 (by decide) (by decide) q) (by decide))).trans m24)), ((va_up_ne _ _ (fun q => absurd (hXI 25 0 (by decide) (by decide) q) (by decide))).trans ((va_up_ne _ _ (fun q => absurd (hXI 25 27 (by decide) (by decide) q) (by decide))).trans m25)), ((va_up_ne _ _ (fun q => absurd (hXI 26 0 (by decide) (by decide) q) (by decide))).trans ((va_up_ne _ _ (fun q => absurd (hXI 26 27 (by decide) (by decide) q) (by decide))).trans m26)), ((va_up_ne _ _ (fun q => absurd (hXI 27 0 (by decide) (by decide) q) (by decide))).trans (va_up_self _ _ _)), ((va_up_ne _ _ (fun q => absurd (hXI 29 0 (by decide) (by decide) q) (by decide))).trans ((va_up_ne _ _ (fun q => absurd (hXI 29 27 (by decide) (by decide) q) (by decide))).trans m29))⟩ (by omega) (clc_yes ⟨n0 (Nat.le_succ_of_le (k15 _)) c46, c27, fun h => c37 (by rw [hyd]; exact h)⟩ he (hi2.symm.trans (by rw [insAt, if_neg (z_nl c99)]))) _ _ _ hZ (lv_sub hl [0, 3, 4, 5] rfl)
                · refine lv_aload_n hx hb dX10_collect_102 rfl (lv_at hl 3 rfl) ?_
                  refine z_get (ci := 10) (fs := [.int (nI (S.1 0 0)), .int (nI (S.1 1 0)), .ref (X 2), .ref (X 3), .ref (X 4), .ref (X 5), .ref (X 6), .long S.2.2, .ref (X 8), .ref (X 9), .int (nI (S.1 10 0)), .ref (X 11), .ref (X 12), .ref (X 13), .ref (X 14), .ref (X 15), .ref (X 16), .ref (X 17), .ref (X 18), .ref (X 19), .int (nI (S.1 20 0)), .ref (X 21), .ref (X 22), .ref (X 23), .ref (X 24), .ref (X 25), .ref (X 26), .ref (X 27), .int (nI c2), .ref (X 29)]) (C := RX10) (T := TX10) (N := 30) hx hb hts in_X10 hown hK hZ m0 rfl 27 (by decide) fl_77 (fun _ h9 => h9) rfl dX10_collect_103 ?_
                  refine lv_iload hx hb dX10_collect_106 (lv_at hl 0 rfl) ?_
                  refine lv_aload_n hx hb dX10_collect_108 rfl (lv_at hl 3 rfl) ?_
                  refine z_get (ci := 10) (fs := [.int (nI (S.1 0 0)), .int (nI (S.1 1 0)), .ref (X 2), .ref (X 3), .ref (X 4), .ref (X 5), .ref (X 6), .long S.2.2, .ref (X 8), .ref (X 9), .int (nI (S.1 10 0)), .ref (X 11), .ref (X 12), .ref (X 13), .ref (X 14), .ref (X 15), .ref (X 16), .ref (X 17), .ref (X 18), .ref (X 19), .int (nI (S.1 20 0)), .ref (X 21), .ref (X 22), .ref (X 23), .ref (X 24), .ref (X 25), .ref (X 26), .ref (X 27), .int (nI c2), .ref (X 29)]) (C := RX10) (T := TX10) (N := 30) hx hb hts in_X10 hown hK hZ m0 rfl 27 (by decide) fl_77 (fun _ h9 => h9) rfl dX10_collect_109 ?_
                  refine lv_iload hx hb dX10_collect_112 (lv_at hl 0 rfl) ?_
                  refine lv_iconst (v := 1) hx hb dX10_collect_114 (by decide) ?_
                  refine lv_isub hx hb dX10_collect_115 ?_
                  refine z_iald hx hb hK hZ m27 a (nI_pred a) (by omega) (by decide) dX10_collect_116 ?_
                  refine z_iast hx hb hK hZ m27 (a + 1) rfl (by omega) (by decide) dX10_collect_117 (fun H locs hZ => ?_)
                  refine lv_iinc (v := nI a) (lv' := [(5, .int (nI a)), (4, .int (vl S j d i)), (3, .int (nI i)), (0, .ref (X 0)), (1, .int x), (2, .int y)]) hx hb dX10_collect_118 hl (k := 0) rfl (nI_dec a) (by decide) rfl (fun ls hl => ?_)
                  refine lv_goto (tgt := 83) hx hb dX10_collect_121 (by decide) ?_
                  exact ih83 _ _ ⟨((va_up_ne _ _ (fun q => absurd (hXI 0 27 (by decide) (by decide) q) (by decide))).trans m0), ((va_up_ne _ _ (fun q => absurd (hXI 2 27 (by decide) (by decide) q) (by decide))).trans m2), ((va_up_ne _ _ (fun q => absurd (hXI 3 27 (by decide) (by decide) q) (by decide))).trans m3), ((va_up_ne _ _ (fun q => absurd (hXI 4 27 (by decide) (by decide) q) (by decide))).trans m4), ((va_up_ne _ _ (fun q => absurd (hXI 5 27 (by decide) (by decide) q) (by decide))).trans m5), ((va_up_ne _ _ (fun q => absurd (hXI 6 27 (by decide) (by decide) q) (by decide))).trans m6), ((va_up_ne _ _ (fun q => absurd (hXI 8 27 (by decide) (by decide) q) (by decide))).trans m8), ((va_up_ne _ _ (fun q => absurd (hXI 9 27 (by decide) (by decide) q) (by decide))).trans m9), ((va_up_ne _ _ (fun q => absurd (hXI 11 27 (by decide) (by decide) q) (by decide))).trans m11), ((va_up_ne _ _ (fun q => absurd (hXI 12 27 (by decide) (by decide) q) (by decide))).trans m12), ((va_up_ne _ _ (fun q => absurd (hXI 13 27 (by decide) (by decide) q) (by decide))).trans m13), ((va_up_ne _ _ (fun q => absurd (hXI 14 27 (by decide) (by decide) q) (by decide))).trans m14), ((va_up_ne _ _ (fun q => absurd (hXI 15 27 (by decide) (by decide) q) (by decide))).trans m15), ((va_up_ne _ _ (fun q => absurd (hXI 16 27 (by decide) (by decide) q) (by decide))).trans m16), ((va_up_ne _ _ (fun q => absurd (hXI 17 27 (by decide) (by decide) q) (by decide))).trans m17), ((va_up_ne _ _ (fun q => absurd (hXI 18 27 (by decide) (by decide) q) (by decide))).trans m18), ((va_up_ne _ _ (fun q => absurd (hXI 19 27 (by decide) (by decide) q) (by decide))).trans m19), ((va_up_ne _ _ (fun q => absurd (hXI 21 27 (by decide) (by decide) q) (by decide))).trans m21), ((va_up_ne _ _ (fun q => absurd (hXI 22 27 (by decide) (by decide) q) (by decide))).trans m22), ((va_up_ne _ _ (fun q => absurd (hXI 23 27 (by decide) (by decide) q) (by decide))).trans m23), ((va_up_ne _ _ (fun q => absurd (hXI 24 27 (by decide) (by decide) q) (by decide))).trans m24), ((va_up_ne _ _ (fun q => absurd (hXI 25 27 (by decide) (by decide) q) (by decide))).trans m25), ((va_up_ne _ _ (fun q => absurd (hXI 26 27 (by decide) (by decide) q) (by decide))).trans m26), (va_up_self _ _ _), ((va_up_ne _ _ (fun q => absurd (hXI 29 27 (by decide) (by decide) q) (by decide))).trans m29)⟩ (by omega) (by rw [← hi2, insAt, if_pos (z_lg c99)]) _ _ _ hZ (lv_sub hl [0, 1, 2, 3, 4, 5] rfl)
            exact loop83 c2 f _ hM1 (by omega) rfl _ _ _ hZ (lv_sub hl [0, 1, 2, 3, 4, 5] rfl)
  exact loop7 (S.1 10 0) 0 0 f27 _ (by omega) ⟨(va_up_self _ _ _), ((va_up_ne _ _ (fun q => absurd (hXI 2 0 (by decide) (by decide) q) (by decide))).trans m2), ((va_up_ne _ _ (fun q => absurd (hXI 3 0 (by decide) (by decide) q) (by decide))).trans m3), ((va_up_ne _ _ (fun q => absurd (hXI 4 0 (by decide) (by decide) q) (by decide))).trans m4), ((va_up_ne _ _ (fun q => absurd (hXI 5 0 (by decide) (by decide) q) (by decide))).trans m5), ((va_up_ne _ _ (fun q => absurd (hXI 6 0 (by decide) (by decide) q) (by decide))).trans m6), ((va_up_ne _ _ (fun q => absurd (hXI 8 0 (by decide) (by decide) q) (by decide))).trans m8), ((va_up_ne _ _ (fun q => absurd (hXI 9 0 (by decide) (by decide) q) (by decide))).trans m9), ((va_up_ne _ _ (fun q => absurd (hXI 11 0 (by decide) (by decide) q) (by decide))).trans m11), ((va_up_ne _ _ (fun q => absurd (hXI 12 0 (by decide) (by decide) q) (by decide))).trans m12), ((va_up_ne _ _ (fun q => absurd (hXI 13 0 (by decide) (by decide) q) (by decide))).trans m13), ((va_up_ne _ _ (fun q => absurd (hXI 14 0 (by decide) (by decide) q) (by decide))).trans m14), ((va_up_ne _ _ (fun q => absurd (hXI 15 0 (by decide) (by decide) q) (by decide))).trans m15), ((va_up_ne _ _ (fun q => absurd (hXI 16 0 (by decide) (by decide) q) (by decide))).trans m16), ((va_up_ne _ _ (fun q => absurd (hXI 17 0 (by decide) (by decide) q) (by decide))).trans m17), ((va_up_ne _ _ (fun q => absurd (hXI 18 0 (by decide) (by decide) q) (by decide))).trans m18), ((va_up_ne _ _ (fun q => absurd (hXI 19 0 (by decide) (by decide) q) (by decide))).trans m19), ((va_up_ne _ _ (fun q => absurd (hXI 21 0 (by decide) (by decide) q) (by decide))).trans m21), ((va_up_ne _ _ (fun q => absurd (hXI 22 0 (by decide) (by decide) q) (by decide))).trans m22), ((va_up_ne _ _ (fun q => absurd (hXI 23 0 (by decide) (by decide) q) (by decide))).trans m23), ((va_up_ne _ _ (fun q => absurd (hXI 24 0 (by decide) (by decide) q) (by decide))).trans m24), ((va_up_ne _ _ (fun q => absurd (hXI 25 0 (by decide) (by decide) q) (by decide))).trans m25), ((va_up_ne _ _ (fun q => absurd (hXI 26 0 (by decide) (by decide) q) (by decide))).trans m26), ((va_up_ne _ _ (fun q => absurd (hXI 27 0 (by decide) (by decide) q) (by decide))).trans m27), ((va_up_ne _ _ (fun q => absurd (hXI 29 0 (by decide) (by decide) q) (by decide))).trans m29)⟩ (by omega) rfl _ _ _ hZ (lv_sub hl [0, 1, 2, 3] rfl)

set_option maxHeartbeats 4000000 in
set_option maxRecDepth 100000 in
theorem c_X10_headOf (l : Launch) (D : va_G) (cT : Nat → ClassId) (G : zG) (sz : Nat) (S : zS) (X : Nat → Nat) (cz : Int32) (f27 f29 : Nat → Int32) (nn : Nat) (x y z : Int32) (j d w2 : Nat) (hM : MD cT S X cz f27 f29 G) (hXI : XI X) (hS : ok S nn) (hj : j < S.1 1 0) (hxj : x = nI j) (hd : d ≤ 300) (hyd : y = nI d) (hw : w2 ≤ 4) (hwk : z = nI w2) : zM l D cT yX10_headOf wsX10_headOf (zR 3 0 0) [.ref (X 0), .int x, .int y, .int z] G sz (fun r G' => MDx cT S X G' ∧ r = some (.int (hv S j d w2))) := by
  refine z_start (cc := cX10_headOf) (maxL := 8) (ret := (some .int)) (by decide) rfl (Nat.le_of_ble_eq_true rfl) ?_
  intro p e s m below meth c ls hI hZ hl
  obtain ⟨hx, hb, hr, hml, hts, hown, hlocks, hname, hK, hA, hE⟩ := hI
  have hl : lv_has ls 8 [(0, .ref (X 0)), (1, .int x), (2, .int y), (3, .int z)] := hl
  have hown : s.vm.findClass RX10 = some m.cls := hown
  have in_X10 : ∀ w ∈ u_ws RX10 TX10 30, w ∈ wsX10_headOf := by decide +kernel
  have fl_13 := hts (.fieldLink RX10 13 "FairRentsModel" "area" "[I") (by decide +kernel)
  have fl_22 := hts (.fieldLink RX10 22 "FairRentsModel" "faults" "[I") (by decide +kernel)
  have fl_77 := hts (.fieldLink RX10 77 "FairRentsModel" "right" "[I") (by decide +kernel)
  have fl_120 := hts (.fieldLink RX10 120 "FairRentsModel" "counted" "I") (by decide +kernel)
  obtain ⟨m0, m2, m3, m4, m5, m6, m8, m9, m11, m12, m13, m14, m15, m16, m17, m18, m19, m21, m22, m23, m24, m25, m26, m27, m29⟩ := id hM
  obtain ⟨⟨k1, k10, k20, k0⟩, kH, k9, k8, k15, k26, kL, kLn, kP, kE, kEm, kn⟩ := id hS
  obtain ⟨g2, g3, g4a, g4, g5⟩ := kH j hj
  have hcl := clc_le S j d f27 (S.1 10 0)
  refine lv_aload_n hx hb dX10_headOf_0 rfl (lv_at hl 0 rfl) ?_
  refine lv_iload_n hx hb dX10_headOf_1 rfl (lv_at hl 1 rfl) ?_
  refine lv_iload_n hx hb dX10_headOf_2 rfl (lv_at hl 2 rfl) ?_
  refine z_call (va_runV (As := [.int x, .int y]) (rest := []) ⟨hx, hb, hml, hown, hts⟩ (c_X10_collect l D cT _ _ S X _ _ _ nn x y j d hM hXI hS hj hxj hd hyd) (cwV 2 hts gX10_headOf_X10_collect rfl rfl rfl (by decide +kernel) ⟨(Nat.le_of_ble_eq_true rfl), (Nat.le_of_ble_eq_true rfl)⟩) (z_preV hK hE hZ hA (ci := 10) rfl m0) rfl rfl hl.1 rfl (lv_room (Nat.le_of_ble_eq_true rfl)) dX10_headOf_3 ⟨(Nat.le_of_ble_eq_true rfl), (Nat.le_of_ble_eq_true rfl)⟩) hZ hA (fun r G3 H locs hq hZ => ?_)
  obtain ⟨hM3, rfl⟩ := hq
  obtain ⟨m0, m2, m3, m4, m5, m6, m8, m9, m11, m12, m13, m14, m15, m16, m17, m18, m19, m21, m22, m23, m24, m25, m26, m27, m29⟩ := id hM3
  refine W.eq (g2 := F0 m 6 ls []) rfl ?_
  refine lv_aload_n hx hb dX10_headOf_6 rfl (lv_at hl 0 rfl) ?_
  refine z_get (ci := 10) (fs := [.int (nI (S.1 0 0)), .int (nI (S.1 1 0)), .ref (X 2), .ref (X 3), .ref (X 4), .ref (X 5), .ref (X 6), .long S.2.2, .ref (X 8), .ref (X 9), .int (nI (S.1 10 0)), .ref (X 11), .ref (X 12), .ref (X 13), .ref (X 14), .ref (X 15), .ref (X 16), .ref (X 17), .ref (X 18), .ref (X 19), .int (nI (S.1 20 0)), .ref (X 21), .ref (X 22), .ref (X 23), .ref (X 24), .ref (X 25), .ref (X 26), .ref (X 27), .int (nI (clc S j d f27 (S.1 10 0)).2), .ref (X 29)]) (C := RX10) (T := TX10) (N := 30) hx hb hts in_X10 hown hK hZ m0 rfl 28 (by decide) fl_120 (fun _ h9 => h9) rfl dX10_headOf_7 ?_
  refine lv_if_ne (tgt := 17) hx hb dX10_headOf_10 (by decide) (fun c10 => ?_) (fun c10 => ?_)
  · have hc0 : ¬ (clc S j d f27 (S.1 10 0)).2 = 0 := fun h => c10 (by rw [h]; rfl)
    refine lv_aload_n hx hb dX10_headOf_17 rfl (lv_at hl 0 rfl) ?_
    refine z_get (ci := 10) (fs := [.int (nI (S.1 0 0)), .int (nI (S.1 1 0)), .ref (X 2), .ref (X 3), .ref (X 4), .ref (X 5), .ref (X 6), .long S.2.2, .ref (X 8), .ref (X 9), .int (nI (S.1 10 0)), .ref (X 11), .ref (X 12), .ref (X 13), .ref (X 14), .ref (X 15), .ref (X 16), .ref (X 17), .ref (X 18), .ref (X 19), .int (nI (S.1 20 0)), .ref (X 21), .ref (X 22), .ref (X 23), .ref (X 24), .ref (X 25), .ref (X 26), .ref (X 27), .int (nI (clc S j d f27 (S.1 10 0)).2), .ref (X 29)]) (C := RX10) (T := TX10) (N := 30) hx hb hts in_X10 hown hK hZ m0 rfl 27 (by decide) fl_77 (fun _ h9 => h9) rfl dX10_headOf_18 ?_
    refine lv_aload_n hx hb dX10_headOf_21 rfl (lv_at hl 0 rfl) ?_
    refine z_get (ci := 10) (fs := [.int (nI (S.1 0 0)), .int (nI (S.1 1 0)), .ref (X 2), .ref (X 3), .ref (X 4), .ref (X 5), .ref (X 6), .long S.2.2, .ref (X 8), .ref (X 9), .int (nI (S.1 10 0)), .ref (X 11), .ref (X 12), .ref (X 13), .ref (X 14), .ref (X 15), .ref (X 16), .ref (X 17), .ref (X 18), .ref (X 19), .int (nI (S.1 20 0)), .ref (X 21), .ref (X 22), .ref (X 23), .ref (X 24), .ref (X 25), .ref (X 26), .ref (X 27), .int (nI (clc S j d f27 (S.1 10 0)).2), .ref (X 29)]) (C := RX10) (T := TX10) (N := 30) hx hb hts in_X10 hown hK hZ m0 rfl 28 (by decide) fl_120 (fun _ h9 => h9) rfl dX10_headOf_22 ?_
    refine lv_iconst (v := 1) hx hb dX10_headOf_25 (by decide) ?_
    refine lv_isub hx hb dX10_headOf_26 ?_
    refine lv_iconst (v := 2) hx hb dX10_headOf_27 (by decide) ?_
    refine lv_idiv hx hb dX10_headOf_28 (by decide) ?_
    refine z_iald hx hb hK hZ m27 (((clc S j d f27 (S.1 10 0)).2 - 1) / 2) (hf_ix (by omega) hc0) (by omega) (by decide) dX10_headOf_29 ?_
    refine W.eq (congrArg (fun v => F0 m 30 ls (.int v :: [])) (h0_n f27 hc0)) ?_
    refine W.eq (g2 := F0 m 30 ls [.int (h0 S j d)]) rfl ?_
    refine lv_istore (lv' := [(4, .int (h0 S j d)), (0, .ref (X 0)), (1, .int x), (2, .int y), (3, .int z)]) hx hb dX10_headOf_30 hl (by decide) rfl (fun ls hl => ?_)
    refine lv_iload hx hb dX10_headOf_32 (lv_at hl 0 rfl) ?_
    refine lv_if_ge (tgt := 41) hx hb dX10_headOf_34 (by decide) (fun c34 => ?_) (fun c34 => ?_)
    · refine lv_aload_n hx hb dX10_headOf_41 rfl (lv_at hl 1 rfl) ?_
      refine lv_iload_n hx hb dX10_headOf_42 rfl (lv_at hl 3 rfl) ?_
      refine lv_aload_n hx hb dX10_headOf_43 rfl (lv_at hl 1 rfl) ?_
      refine z_get (ci := 10) (fs := [.int (nI (S.1 0 0)), .int (nI (S.1 1 0)), .ref (X 2), .ref (X 3), .ref (X 4), .ref (X 5), .ref (X 6), .long S.2.2, .ref (X 8), .ref (X 9), .int (nI (S.1 10 0)), .ref (X 11), .ref (X 12), .ref (X 13), .ref (X 14), .ref (X 15), .ref (X 16), .ref (X 17), .ref (X 18), .ref (X 19), .int (nI (S.1 20 0)), .ref (X 21), .ref (X 22), .ref (X 23), .ref (X 24), .ref (X 25), .ref (X 26), .ref (X 27), .int (nI (clc S j d f27 (S.1 10 0)).2), .ref (X 29)]) (C := RX10) (T := TX10) (N := 30) hx hb hts in_X10 hown hK hZ m0 rfl 3 (by decide) fl_13 (fun _ h9 => h9) rfl dX10_headOf_44 ?_
      refine lv_iload_n hx hb dX10_headOf_47 rfl (lv_at hl 2 rfl) ?_
      refine z_iald hx hb hK hZ m3 j hxj (by omega) (by decide) dX10_headOf_48 ?_
      refine z_call (va_runV (As := [.int y, .int (nI (S.1 3 j))]) (rest := []) ⟨hx, hb, hml, hown, hts⟩ (c_X10_lawOf l D cT _ _ S X _ _ _ nn y (nI (S.1 3 j)) d (S.1 3 j) hM3 hXI hS (by omega) hyd (by omega) rfl) (cwV 2 hts gX10_headOf_X10_lawOf rfl rfl rfl (by decide +kernel) ⟨(Nat.le_of_ble_eq_true rfl), (Nat.le_of_ble_eq_true rfl)⟩) (z_preV hK hE hZ hA (ci := 10) rfl m0) rfl rfl hl.1 rfl (lv_room (Nat.le_of_ble_eq_true rfl)) dX10_headOf_49 ⟨(Nat.le_of_ble_eq_true rfl), (Nat.le_of_ble_eq_true rfl)⟩) hZ hA (fun r G49 H locs hq hZ => ?_)
      obtain ⟨hg, rfl⟩ := hq
      replace hg := hg.symm
      subst hg
      refine W.eq (g2 := F0 m 52 ls [.int (lw S d (S.1 3 j))]) rfl ?_
      refine lv_iload hx hb dX10_headOf_52 (lv_at hl 0 rfl) ?_
      refine lv_imul hx hb dX10_headOf_54 ?_
      refine lv_bipush (v := 100) hx hb dX10_headOf_55 (by decide) ?_
      refine lv_idiv hx hb dX10_headOf_57 (by decide) ?_
      refine lv_ineg hx hb dX10_headOf_58 ?_
      refine W.eq (congrArg (fun v => F0 m 59 ls (.int v :: [])) (h1_p c34)) ?_
      refine W.eq (g2 := F0 m 59 ls [.int (h1 S j d)]) rfl ?_
      refine lv_istore (lv' := [(5, .int (h1 S j d)), (4, .int (h0 S j d)), (0, .ref (X 0)), (1, .int x), (2, .int y), (3, .int z)]) hx hb dX10_headOf_59 hl (by decide) rfl (fun ls hl => ?_)
      refine lv_aload_n hx hb dX10_headOf_61 rfl (lv_at hl 2 rfl) ?_
      refine lv_iload_n hx hb dX10_headOf_62 rfl (lv_at hl 4 rfl) ?_
      refine lv_iconst (v := 4) hx hb dX10_headOf_63 (by decide) ?_
      refine z_call (va_runV (As := [.int y, .int 4]) (rest := []) ⟨hx, hb, hml, hown, hts⟩ (c_X10_lawOf l D cT _ _ S X _ _ _ nn y 4 d 4 hM3 hXI hS (by omega) hyd (by decide) rfl) (cwV 2 hts gX10_headOf_X10_lawOf rfl rfl rfl (by decide +kernel) ⟨(Nat.le_of_ble_eq_true rfl), (Nat.le_of_ble_eq_true rfl)⟩) (z_preV hK hE hZ hA (ci := 10) rfl m0) rfl rfl hl.1 rfl (lv_room (Nat.le_of_ble_eq_true rfl)) dX10_headOf_64 ⟨(Nat.le_of_ble_eq_true rfl), (Nat.le_of_ble_eq_true rfl)⟩) hZ hA (fun r G64 H locs hq hZ => ?_)
      obtain ⟨hg, rfl⟩ := hq
      replace hg := hg.symm
      subst hg
      refine W.eq (g2 := F0 m 67 ls [.int (lw S d 4)]) rfl ?_
      refine lv_ineg hx hb dX10_headOf_67 ?_
      refine lv_aload_n hx hb dX10_headOf_68 rfl (lv_at hl 2 rfl) ?_
      refine z_get (ci := 10) (fs := [.int (nI (S.1 0 0)), .int (nI (S.1 1 0)), .ref (X 2), .ref (X 3), .ref (X 4), .ref (X 5), .ref (X 6), .long S.2.2, .ref (X 8), .ref (X 9), .int (nI (S.1 10 0)), .ref (X 11), .ref (X 12), .ref (X 13), .ref (X 14), .ref (X 15), .ref (X 16), .ref (X 17), .ref (X 18), .ref (X 19), .int (nI (S.1 20 0)), .ref (X 21), .ref (X 22), .ref (X 23), .ref (X 24), .ref (X 25), .ref (X 26), .ref (X 27), .int (nI (clc S j d f27 (S.1 10 0)).2), .ref (X 29)]) (C := RX10) (T := TX10) (N := 30) hx hb hts in_X10 hown hK hZ m0 rfl 6 (by decide) fl_22 (fun _ h9 => h9) rfl dX10_headOf_69 ?_
      refine lv_iload_n hx hb dX10_headOf_72 rfl (lv_at hl 3 rfl) ?_
      refine z_iald hx hb hK hZ m6 j hxj (by omega) (by decide) dX10_headOf_73 ?_
      refine lv_imul hx hb dX10_headOf_74 ?_
      refine W.eq (congrArg (fun v => F0 m 75 ls (.int v :: [])) h2_e) ?_
      refine W.eq (g2 := F0 m 75 ls [.int (h2 S j d)]) rfl ?_
      refine lv_istore (lv' := [(6, .int (h2 S j d)), (5, .int (h1 S j d)), (4, .int (h0 S j d)), (0, .ref (X 0)), (1, .int x), (2, .int y), (3, .int z)]) hx hb dX10_headOf_75 hl (by decide) rfl (fun ls hl => ?_)
      refine lv_iload hx hb dX10_headOf_77 (lv_at hl 2 rfl) ?_
      refine lv_iload hx hb dX10_headOf_79 (lv_at hl 1 rfl) ?_
      refine lv_iadd hx hb dX10_headOf_81 ?_
      refine lv_iload hx hb dX10_headOf_82 (lv_at hl 0 rfl) ?_
      refine lv_iadd hx hb dX10_headOf_84 ?_
      refine lv_istore (lv' := [(7, .int (((h0 S j d) + (h1 S j d)) + (h2 S j d))), (6, .int (h2 S j d)), (5, .int (h1 S j d)), (4, .int (h0 S j d)), (0, .ref (X 0)), (1, .int x), (2, .int y), (3, .int z)]) hx hb dX10_headOf_85 hl (by decide) rfl (fun ls hl => ?_)
      refine lv_iload_n hx hb dX10_headOf_87 rfl (lv_at hl 7 rfl) ?_
      refine lv_if_ne (tgt := 96) hx hb dX10_headOf_88 (by decide) (fun c88 => ?_) (fun c88 => ?_)
      · refine lv_iload_n hx hb dX10_headOf_96 rfl (lv_at hl 7 rfl) ?_
        refine lv_iconst (v := 1) hx hb dX10_headOf_97 (by decide) ?_
        refine lv_icmp_ne (tgt := 106) hx hb dX10_headOf_98 (by decide) (fun c98 => ?_) (fun c98 => ?_)
        · refine lv_iload_n hx hb dX10_headOf_106 rfl (lv_at hl 7 rfl) ?_
          refine lv_iconst (v := 2) hx hb dX10_headOf_107 (by decide) ?_
          refine lv_icmp_ne (tgt := 116) hx hb dX10_headOf_108 (by decide) (fun c108 => ?_) (fun c108 => ?_)
          · refine lv_iload_n hx hb dX10_headOf_116 rfl (lv_at hl 7 rfl) ?_
            refine lv_iconst (v := 3) hx hb dX10_headOf_117 (by decide) ?_
            refine lv_icmp_ne (tgt := 136) hx hb dX10_headOf_118 (by decide) (fun c118 => ?_) (fun c118 => ?_)
            · refine lv_aload_n hx hb dX10_headOf_136 rfl (lv_at hl 4 rfl) ?_
              refine z_get (ci := 10) (fs := [.int (nI (S.1 0 0)), .int (nI (S.1 1 0)), .ref (X 2), .ref (X 3), .ref (X 4), .ref (X 5), .ref (X 6), .long S.2.2, .ref (X 8), .ref (X 9), .int (nI (S.1 10 0)), .ref (X 11), .ref (X 12), .ref (X 13), .ref (X 14), .ref (X 15), .ref (X 16), .ref (X 17), .ref (X 18), .ref (X 19), .int (nI (S.1 20 0)), .ref (X 21), .ref (X 22), .ref (X 23), .ref (X 24), .ref (X 25), .ref (X 26), .ref (X 27), .int (nI (clc S j d f27 (S.1 10 0)).2), .ref (X 29)]) (C := RX10) (T := TX10) (N := 30) hx hb hts in_X10 hown hK hZ m0 rfl 28 (by decide) fl_120 (fun _ h9 => h9) rfl dX10_headOf_137 ?_
              exact z_iret hx hb hr hlocks hZ dX10_headOf_140 (⟨⟨_, _, _, hM3⟩, hv_4 f27 hw hwk c88 c98 c108 c118⟩)
            · refine lv_iload hx hb dX10_headOf_121 (lv_at hl 0 rfl) ?_
              refine lv_iconst (v := 1) hx hb dX10_headOf_123 (by decide) ?_
              refine lv_icmp_ge (tgt := 131) hx hb dX10_headOf_124 (by decide) (fun c124 => ?_) (fun c124 => ?_)
              · refine lv_iload hx hb dX10_headOf_131 (lv_at hl 0 rfl) ?_
                refine lv_goto (tgt := 140) hx hb dX10_headOf_133 (by decide) ?_
                exact z_iret hx hb hr hlocks hZ dX10_headOf_140 (⟨⟨_, _, _, hM3⟩, hv_3b hw hwk c118 c124⟩)
              · refine lv_iconst (v := 1) hx hb dX10_headOf_127 (by decide) ?_
                refine lv_goto (tgt := 140) hx hb dX10_headOf_128 (by decide) ?_
                exact z_iret hx hb hr hlocks hZ dX10_headOf_140 (⟨⟨_, _, _, hM3⟩, hv_3a hw hwk c118 c124⟩)
          · refine lv_iload hx hb dX10_headOf_111 (lv_at hl 1 rfl) ?_
            refine lv_goto (tgt := 140) hx hb dX10_headOf_113 (by decide) ?_
            exact z_iret hx hb hr hlocks hZ dX10_headOf_140 (⟨⟨_, _, _, hM3⟩, hv_2 hw hwk c108⟩)
        · refine lv_iload hx hb dX10_headOf_101 (lv_at hl 2 rfl) ?_
          refine lv_goto (tgt := 140) hx hb dX10_headOf_103 (by decide) ?_
          exact z_iret hx hb hr hlocks hZ dX10_headOf_140 (⟨⟨_, _, _, hM3⟩, hv_1 hw hwk c98⟩)
      · refine lv_iload hx hb dX10_headOf_91 (lv_at hl 3 rfl) ?_
        refine lv_goto (tgt := 140) hx hb dX10_headOf_93 (by decide) ?_
        exact z_iret hx hb hr hlocks hZ dX10_headOf_140 (⟨⟨_, _, _, hM3⟩, hv_0 hw hwk c88⟩)
    · refine lv_iconst (v := 0) hx hb dX10_headOf_37 (by decide) ?_
      refine lv_goto (tgt := 59) hx hb dX10_headOf_38 (by decide) ?_
      refine W.eq (congrArg (fun v => F0 m 59 ls (.int v :: [])) (h1_n c34)) ?_
      refine W.eq (g2 := F0 m 59 ls [.int (h1 S j d)]) rfl ?_
      refine lv_istore (lv' := [(5, .int (h1 S j d)), (4, .int (h0 S j d)), (0, .ref (X 0)), (1, .int x), (2, .int y), (3, .int z)]) hx hb dX10_headOf_59 hl (by decide) rfl (fun ls hl => ?_)
      refine lv_aload_n hx hb dX10_headOf_61 rfl (lv_at hl 2 rfl) ?_
      refine lv_iload_n hx hb dX10_headOf_62 rfl (lv_at hl 4 rfl) ?_
      refine lv_iconst (v := 4) hx hb dX10_headOf_63 (by decide) ?_
      refine z_call (va_runV (As := [.int y, .int 4]) (rest := []) ⟨hx, hb, hml, hown, hts⟩ (c_X10_lawOf l D cT _ _ S X _ _ _ nn y 4 d 4 hM3 hXI hS (by omega) hyd (by decide) rfl) (cwV 2 hts gX10_headOf_X10_lawOf rfl rfl rfl (by decide +kernel) ⟨(Nat.le_of_ble_eq_true rfl), (Nat.le_of_ble_eq_true rfl)⟩) (z_preV hK hE hZ hA (ci := 10) rfl m0) rfl rfl hl.1 rfl (lv_room (Nat.le_of_ble_eq_true rfl)) dX10_headOf_64 ⟨(Nat.le_of_ble_eq_true rfl), (Nat.le_of_ble_eq_true rfl)⟩) hZ hA (fun r G64 H locs hq hZ => ?_)
      obtain ⟨hg, rfl⟩ := hq
      replace hg := hg.symm
      subst hg
      refine W.eq (g2 := F0 m 67 ls [.int (lw S d 4)]) rfl ?_
      refine lv_ineg hx hb dX10_headOf_67 ?_
      refine lv_aload_n hx hb dX10_headOf_68 rfl (lv_at hl 2 rfl) ?_
      refine z_get (ci := 10) (fs := [.int (nI (S.1 0 0)), .int (nI (S.1 1 0)), .ref (X 2), .ref (X 3), .ref (X 4), .ref (X 5), .ref (X 6), .long S.2.2, .ref (X 8), .ref (X 9), .int (nI (S.1 10 0)), .ref (X 11), .ref (X 12), .ref (X 13), .ref (X 14), .ref (X 15), .ref (X 16), .ref (X 17), .ref (X 18), .ref (X 19), .int (nI (S.1 20 0)), .ref (X 21), .ref (X 22), .ref (X 23), .ref (X 24), .ref (X 25), .ref (X 26), .ref (X 27), .int (nI (clc S j d f27 (S.1 10 0)).2), .ref (X 29)]) (C := RX10) (T := TX10) (N := 30) hx hb hts in_X10 hown hK hZ m0 rfl 6 (by decide) fl_22 (fun _ h9 => h9) rfl dX10_headOf_69 ?_
      refine lv_iload_n hx hb dX10_headOf_72 rfl (lv_at hl 3 rfl) ?_
      refine z_iald hx hb hK hZ m6 j hxj (by omega) (by decide) dX10_headOf_73 ?_
      refine lv_imul hx hb dX10_headOf_74 ?_
      refine W.eq (congrArg (fun v => F0 m 75 ls (.int v :: [])) h2_e) ?_
      refine W.eq (g2 := F0 m 75 ls [.int (h2 S j d)]) rfl ?_
      refine lv_istore (lv' := [(6, .int (h2 S j d)), (5, .int (h1 S j d)), (4, .int (h0 S j d)), (0, .ref (X 0)), (1, .int x), (2, .int y), (3, .int z)]) hx hb dX10_headOf_75 hl (by decide) rfl (fun ls hl => ?_)
      refine lv_iload hx hb dX10_headOf_77 (lv_at hl 2 rfl) ?_
      refine lv_iload hx hb dX10_headOf_79 (lv_at hl 1 rfl) ?_
      refine lv_iadd hx hb dX10_headOf_81 ?_
      refine lv_iload hx hb dX10_headOf_82 (lv_at hl 0 rfl) ?_
      refine lv_iadd hx hb dX10_headOf_84 ?_
      refine lv_istore (lv' := [(7, .int (((h0 S j d) + (h1 S j d)) + (h2 S j d))), (6, .int (h2 S j d)), (5, .int (h1 S j d)), (4, .int (h0 S j d)), (0, .ref (X 0)), (1, .int x), (2, .int y), (3, .int z)]) hx hb dX10_headOf_85 hl (by decide) rfl (fun ls hl => ?_)
      refine lv_iload_n hx hb dX10_headOf_87 rfl (lv_at hl 7 rfl) ?_
      refine lv_if_ne (tgt := 96) hx hb dX10_headOf_88 (by decide) (fun c88 => ?_) (fun c88 => ?_)
      · refine lv_iload_n hx hb dX10_headOf_96 rfl (lv_at hl 7 rfl) ?_
        refine lv_iconst (v := 1) hx hb dX10_headOf_97 (by decide) ?_
        refine lv_icmp_ne (tgt := 106) hx hb dX10_headOf_98 (by decide) (fun c98 => ?_) (fun c98 => ?_)
        · refine lv_iload_n hx hb dX10_headOf_106 rfl (lv_at hl 7 rfl) ?_
          refine lv_iconst (v := 2) hx hb dX10_headOf_107 (by decide) ?_
          refine lv_icmp_ne (tgt := 116) hx hb dX10_headOf_108 (by decide) (fun c108 => ?_) (fun c108 => ?_)
          · refine lv_iload_n hx hb dX10_headOf_116 rfl (lv_at hl 7 rfl) ?_
            refine lv_iconst (v := 3) hx hb dX10_headOf_117 (by decide) ?_
            refine lv_icmp_ne (tgt := 136) hx hb dX10_headOf_118 (by decide) (fun c118 => ?_) (fun c118 => ?_)
            · refine lv_aload_n hx hb dX10_headOf_136 rfl (lv_at hl 4 rfl) ?_
              refine z_get (ci := 10) (fs := [.int (nI (S.1 0 0)), .int (nI (S.1 1 0)), .ref (X 2), .ref (X 3), .ref (X 4), .ref (X 5), .ref (X 6), .long S.2.2, .ref (X 8), .ref (X 9), .int (nI (S.1 10 0)), .ref (X 11), .ref (X 12), .ref (X 13), .ref (X 14), .ref (X 15), .ref (X 16), .ref (X 17), .ref (X 18), .ref (X 19), .int (nI (S.1 20 0)), .ref (X 21), .ref (X 22), .ref (X 23), .ref (X 24), .ref (X 25), .ref (X 26), .ref (X 27), .int (nI (clc S j d f27 (S.1 10 0)).2), .ref (X 29)]) (C := RX10) (T := TX10) (N := 30) hx hb hts in_X10 hown hK hZ m0 rfl 28 (by decide) fl_120 (fun _ h9 => h9) rfl dX10_headOf_137 ?_
              exact z_iret hx hb hr hlocks hZ dX10_headOf_140 (⟨⟨_, _, _, hM3⟩, hv_4 f27 hw hwk c88 c98 c108 c118⟩)
            · refine lv_iload hx hb dX10_headOf_121 (lv_at hl 0 rfl) ?_
              refine lv_iconst (v := 1) hx hb dX10_headOf_123 (by decide) ?_
              refine lv_icmp_ge (tgt := 131) hx hb dX10_headOf_124 (by decide) (fun c124 => ?_) (fun c124 => ?_)
              · refine lv_iload hx hb dX10_headOf_131 (lv_at hl 0 rfl) ?_
                refine lv_goto (tgt := 140) hx hb dX10_headOf_133 (by decide) ?_
                exact z_iret hx hb hr hlocks hZ dX10_headOf_140 (⟨⟨_, _, _, hM3⟩, hv_3b hw hwk c118 c124⟩)
              · refine lv_iconst (v := 1) hx hb dX10_headOf_127 (by decide) ?_
                refine lv_goto (tgt := 140) hx hb dX10_headOf_128 (by decide) ?_
                exact z_iret hx hb hr hlocks hZ dX10_headOf_140 (⟨⟨_, _, _, hM3⟩, hv_3a hw hwk c118 c124⟩)
          · refine lv_iload hx hb dX10_headOf_111 (lv_at hl 1 rfl) ?_
            refine lv_goto (tgt := 140) hx hb dX10_headOf_113 (by decide) ?_
            exact z_iret hx hb hr hlocks hZ dX10_headOf_140 (⟨⟨_, _, _, hM3⟩, hv_2 hw hwk c108⟩)
        · refine lv_iload hx hb dX10_headOf_101 (lv_at hl 2 rfl) ?_
          refine lv_goto (tgt := 140) hx hb dX10_headOf_103 (by decide) ?_
          exact z_iret hx hb hr hlocks hZ dX10_headOf_140 (⟨⟨_, _, _, hM3⟩, hv_1 hw hwk c98⟩)
      · refine lv_iload hx hb dX10_headOf_91 (lv_at hl 3 rfl) ?_
        refine lv_goto (tgt := 140) hx hb dX10_headOf_93 (by decide) ?_
        exact z_iret hx hb hr hlocks hZ dX10_headOf_140 (⟨⟨_, _, _, hM3⟩, hv_0 hw hwk c88⟩)
  · have hc0 : (clc S j d f27 (S.1 10 0)).2 = 0 := nI_inj (by omega) (by decide) c10
    refine lv_iconst (v := 0) hx hb dX10_headOf_13 (by decide) ?_
    refine lv_goto (tgt := 30) hx hb dX10_headOf_14 (by decide) ?_
    refine W.eq (congrArg (fun v => F0 m 30 ls (.int v :: [])) (h0_z f27 hc0)) ?_
    refine W.eq (g2 := F0 m 30 ls [.int (h0 S j d)]) rfl ?_
    refine lv_istore (lv' := [(4, .int (h0 S j d)), (0, .ref (X 0)), (1, .int x), (2, .int y), (3, .int z)]) hx hb dX10_headOf_30 hl (by decide) rfl (fun ls hl => ?_)
    refine lv_iload hx hb dX10_headOf_32 (lv_at hl 0 rfl) ?_
    refine lv_if_ge (tgt := 41) hx hb dX10_headOf_34 (by decide) (fun c34 => ?_) (fun c34 => ?_)
    · refine lv_aload_n hx hb dX10_headOf_41 rfl (lv_at hl 1 rfl) ?_
      refine lv_iload_n hx hb dX10_headOf_42 rfl (lv_at hl 3 rfl) ?_
      refine lv_aload_n hx hb dX10_headOf_43 rfl (lv_at hl 1 rfl) ?_
      refine z_get (ci := 10) (fs := [.int (nI (S.1 0 0)), .int (nI (S.1 1 0)), .ref (X 2), .ref (X 3), .ref (X 4), .ref (X 5), .ref (X 6), .long S.2.2, .ref (X 8), .ref (X 9), .int (nI (S.1 10 0)), .ref (X 11), .ref (X 12), .ref (X 13), .ref (X 14), .ref (X 15), .ref (X 16), .ref (X 17), .ref (X 18), .ref (X 19), .int (nI (S.1 20 0)), .ref (X 21), .ref (X 22), .ref (X 23), .ref (X 24), .ref (X 25), .ref (X 26), .ref (X 27), .int (nI (clc S j d f27 (S.1 10 0)).2), .ref (X 29)]) (C := RX10) (T := TX10) (N := 30) hx hb hts in_X10 hown hK hZ m0 rfl 3 (by decide) fl_13 (fun _ h9 => h9) rfl dX10_headOf_44 ?_
      refine lv_iload_n hx hb dX10_headOf_47 rfl (lv_at hl 2 rfl) ?_
      refine z_iald hx hb hK hZ m3 j hxj (by omega) (by decide) dX10_headOf_48 ?_
      refine z_call (va_runV (As := [.int y, .int (nI (S.1 3 j))]) (rest := []) ⟨hx, hb, hml, hown, hts⟩ (c_X10_lawOf l D cT _ _ S X _ _ _ nn y (nI (S.1 3 j)) d (S.1 3 j) hM3 hXI hS (by omega) hyd (by omega) rfl) (cwV 2 hts gX10_headOf_X10_lawOf rfl rfl rfl (by decide +kernel) ⟨(Nat.le_of_ble_eq_true rfl), (Nat.le_of_ble_eq_true rfl)⟩) (z_preV hK hE hZ hA (ci := 10) rfl m0) rfl rfl hl.1 rfl (lv_room (Nat.le_of_ble_eq_true rfl)) dX10_headOf_49 ⟨(Nat.le_of_ble_eq_true rfl), (Nat.le_of_ble_eq_true rfl)⟩) hZ hA (fun r G49 H locs hq hZ => ?_)
      obtain ⟨hg, rfl⟩ := hq
      replace hg := hg.symm
      subst hg
      refine W.eq (g2 := F0 m 52 ls [.int (lw S d (S.1 3 j))]) rfl ?_
      refine lv_iload hx hb dX10_headOf_52 (lv_at hl 0 rfl) ?_
      refine lv_imul hx hb dX10_headOf_54 ?_
      refine lv_bipush (v := 100) hx hb dX10_headOf_55 (by decide) ?_
      refine lv_idiv hx hb dX10_headOf_57 (by decide) ?_
      refine lv_ineg hx hb dX10_headOf_58 ?_
      refine W.eq (congrArg (fun v => F0 m 59 ls (.int v :: [])) (h1_p c34)) ?_
      refine W.eq (g2 := F0 m 59 ls [.int (h1 S j d)]) rfl ?_
      refine lv_istore (lv' := [(5, .int (h1 S j d)), (4, .int (h0 S j d)), (0, .ref (X 0)), (1, .int x), (2, .int y), (3, .int z)]) hx hb dX10_headOf_59 hl (by decide) rfl (fun ls hl => ?_)
      refine lv_aload_n hx hb dX10_headOf_61 rfl (lv_at hl 2 rfl) ?_
      refine lv_iload_n hx hb dX10_headOf_62 rfl (lv_at hl 4 rfl) ?_
      refine lv_iconst (v := 4) hx hb dX10_headOf_63 (by decide) ?_
      refine z_call (va_runV (As := [.int y, .int 4]) (rest := []) ⟨hx, hb, hml, hown, hts⟩ (c_X10_lawOf l D cT _ _ S X _ _ _ nn y 4 d 4 hM3 hXI hS (by omega) hyd (by decide) rfl) (cwV 2 hts gX10_headOf_X10_lawOf rfl rfl rfl (by decide +kernel) ⟨(Nat.le_of_ble_eq_true rfl), (Nat.le_of_ble_eq_true rfl)⟩) (z_preV hK hE hZ hA (ci := 10) rfl m0) rfl rfl hl.1 rfl (lv_room (Nat.le_of_ble_eq_true rfl)) dX10_headOf_64 ⟨(Nat.le_of_ble_eq_true rfl), (Nat.le_of_ble_eq_true rfl)⟩) hZ hA (fun r G64 H locs hq hZ => ?_)
      obtain ⟨hg, rfl⟩ := hq
      replace hg := hg.symm
      subst hg
      refine W.eq (g2 := F0 m 67 ls [.int (lw S d 4)]) rfl ?_
      refine lv_ineg hx hb dX10_headOf_67 ?_
      refine lv_aload_n hx hb dX10_headOf_68 rfl (lv_at hl 2 rfl) ?_
      refine z_get (ci := 10) (fs := [.int (nI (S.1 0 0)), .int (nI (S.1 1 0)), .ref (X 2), .ref (X 3), .ref (X 4), .ref (X 5), .ref (X 6), .long S.2.2, .ref (X 8), .ref (X 9), .int (nI (S.1 10 0)), .ref (X 11), .ref (X 12), .ref (X 13), .ref (X 14), .ref (X 15), .ref (X 16), .ref (X 17), .ref (X 18), .ref (X 19), .int (nI (S.1 20 0)), .ref (X 21), .ref (X 22), .ref (X 23), .ref (X 24), .ref (X 25), .ref (X 26), .ref (X 27), .int (nI (clc S j d f27 (S.1 10 0)).2), .ref (X 29)]) (C := RX10) (T := TX10) (N := 30) hx hb hts in_X10 hown hK hZ m0 rfl 6 (by decide) fl_22 (fun _ h9 => h9) rfl dX10_headOf_69 ?_
      refine lv_iload_n hx hb dX10_headOf_72 rfl (lv_at hl 3 rfl) ?_
      refine z_iald hx hb hK hZ m6 j hxj (by omega) (by decide) dX10_headOf_73 ?_
      refine lv_imul hx hb dX10_headOf_74 ?_
      refine W.eq (congrArg (fun v => F0 m 75 ls (.int v :: [])) h2_e) ?_
      refine W.eq (g2 := F0 m 75 ls [.int (h2 S j d)]) rfl ?_
      refine lv_istore (lv' := [(6, .int (h2 S j d)), (5, .int (h1 S j d)), (4, .int (h0 S j d)), (0, .ref (X 0)), (1, .int x), (2, .int y), (3, .int z)]) hx hb dX10_headOf_75 hl (by decide) rfl (fun ls hl => ?_)
      refine lv_iload hx hb dX10_headOf_77 (lv_at hl 2 rfl) ?_
      refine lv_iload hx hb dX10_headOf_79 (lv_at hl 1 rfl) ?_
      refine lv_iadd hx hb dX10_headOf_81 ?_
      refine lv_iload hx hb dX10_headOf_82 (lv_at hl 0 rfl) ?_
      refine lv_iadd hx hb dX10_headOf_84 ?_
      refine lv_istore (lv' := [(7, .int (((h0 S j d) + (h1 S j d)) + (h2 S j d))), (6, .int (h2 S j d)), (5, .int (h1 S j d)), (4, .int (h0 S j d)), (0, .ref (X 0)), (1, .int x), (2, .int y), (3, .int z)]) hx hb dX10_headOf_85 hl (by decide) rfl (fun ls hl => ?_)
      refine lv_iload_n hx hb dX10_headOf_87 rfl (lv_at hl 7 rfl) ?_
      refine lv_if_ne (tgt := 96) hx hb dX10_headOf_88 (by decide) (fun c88 => ?_) (fun c88 => ?_)
      · refine lv_iload_n hx hb dX10_headOf_96 rfl (lv_at hl 7 rfl) ?_
        refine lv_iconst (v := 1) hx hb dX10_headOf_97 (by decide) ?_
        refine lv_icmp_ne (tgt := 106) hx hb dX10_headOf_98 (by decide) (fun c98 => ?_) (fun c98 => ?_)
        · refine lv_iload_n hx hb dX10_headOf_106 rfl (lv_at hl 7 rfl) ?_
          refine lv_iconst (v := 2) hx hb dX10_headOf_107 (by decide) ?_
          refine lv_icmp_ne (tgt := 116) hx hb dX10_headOf_108 (by decide) (fun c108 => ?_) (fun c108 => ?_)
          · refine lv_iload_n hx hb dX10_headOf_116 rfl (lv_at hl 7 rfl) ?_
            refine lv_iconst (v := 3) hx hb dX10_headOf_117 (by decide) ?_
            refine lv_icmp_ne (tgt := 136) hx hb dX10_headOf_118 (by decide) (fun c118 => ?_) (fun c118 => ?_)
            · refine lv_aload_n hx hb dX10_headOf_136 rfl (lv_at hl 4 rfl) ?_
              refine z_get (ci := 10) (fs := [.int (nI (S.1 0 0)), .int (nI (S.1 1 0)), .ref (X 2), .ref (X 3), .ref (X 4), .ref (X 5), .ref (X 6), .long S.2.2, .ref (X 8), .ref (X 9), .int (nI (S.1 10 0)), .ref (X 11), .ref (X 12), .ref (X 13), .ref (X 14), .ref (X 15), .ref (X 16), .ref (X 17), .ref (X 18), .ref (X 19), .int (nI (S.1 20 0)), .ref (X 21), .ref (X 22), .ref (X 23), .ref (X 24), .ref (X 25), .ref (X 26), .ref (X 27), .int (nI (clc S j d f27 (S.1 10 0)).2), .ref (X 29)]) (C := RX10) (T := TX10) (N := 30) hx hb hts in_X10 hown hK hZ m0 rfl 28 (by decide) fl_120 (fun _ h9 => h9) rfl dX10_headOf_137 ?_
              exact z_iret hx hb hr hlocks hZ dX10_headOf_140 (⟨⟨_, _, _, hM3⟩, hv_4 f27 hw hwk c88 c98 c108 c118⟩)
            · refine lv_iload hx hb dX10_headOf_121 (lv_at hl 0 rfl) ?_
              refine lv_iconst (v := 1) hx hb dX10_headOf_123 (by decide) ?_
              refine lv_icmp_ge (tgt := 131) hx hb dX10_headOf_124 (by decide) (fun c124 => ?_) (fun c124 => ?_)
              · refine lv_iload hx hb dX10_headOf_131 (lv_at hl 0 rfl) ?_
                refine lv_goto (tgt := 140) hx hb dX10_headOf_133 (by decide) ?_
                exact z_iret hx hb hr hlocks hZ dX10_headOf_140 (⟨⟨_, _, _, hM3⟩, hv_3b hw hwk c118 c124⟩)
              · refine lv_iconst (v := 1) hx hb dX10_headOf_127 (by decide) ?_
                refine lv_goto (tgt := 140) hx hb dX10_headOf_128 (by decide) ?_
                exact z_iret hx hb hr hlocks hZ dX10_headOf_140 (⟨⟨_, _, _, hM3⟩, hv_3a hw hwk c118 c124⟩)
          · refine lv_iload hx hb dX10_headOf_111 (lv_at hl 1 rfl) ?_
            refine lv_goto (tgt := 140) hx hb dX10_headOf_113 (by decide) ?_
            exact z_iret hx hb hr hlocks hZ dX10_headOf_140 (⟨⟨_, _, _, hM3⟩, hv_2 hw hwk c108⟩)
        · refine lv_iload hx hb dX10_headOf_101 (lv_at hl 2 rfl) ?_
          refine lv_goto (tgt := 140) hx hb dX10_headOf_103 (by decide) ?_
          exact z_iret hx hb hr hlocks hZ dX10_headOf_140 (⟨⟨_, _, _, hM3⟩, hv_1 hw hwk c98⟩)
      · refine lv_iload hx hb dX10_headOf_91 (lv_at hl 3 rfl) ?_
        refine lv_goto (tgt := 140) hx hb dX10_headOf_93 (by decide) ?_
        exact z_iret hx hb hr hlocks hZ dX10_headOf_140 (⟨⟨_, _, _, hM3⟩, hv_0 hw hwk c88⟩)
    · refine lv_iconst (v := 0) hx hb dX10_headOf_37 (by decide) ?_
      refine lv_goto (tgt := 59) hx hb dX10_headOf_38 (by decide) ?_
      refine W.eq (congrArg (fun v => F0 m 59 ls (.int v :: [])) (h1_n c34)) ?_
      refine W.eq (g2 := F0 m 59 ls [.int (h1 S j d)]) rfl ?_
      refine lv_istore (lv' := [(5, .int (h1 S j d)), (4, .int (h0 S j d)), (0, .ref (X 0)), (1, .int x), (2, .int y), (3, .int z)]) hx hb dX10_headOf_59 hl (by decide) rfl (fun ls hl => ?_)
      refine lv_aload_n hx hb dX10_headOf_61 rfl (lv_at hl 2 rfl) ?_
      refine lv_iload_n hx hb dX10_headOf_62 rfl (lv_at hl 4 rfl) ?_
      refine lv_iconst (v := 4) hx hb dX10_headOf_63 (by decide) ?_
      refine z_call (va_runV (As := [.int y, .int 4]) (rest := []) ⟨hx, hb, hml, hown, hts⟩ (c_X10_lawOf l D cT _ _ S X _ _ _ nn y 4 d 4 hM3 hXI hS (by omega) hyd (by decide) rfl) (cwV 2 hts gX10_headOf_X10_lawOf rfl rfl rfl (by decide +kernel) ⟨(Nat.le_of_ble_eq_true rfl), (Nat.le_of_ble_eq_true rfl)⟩) (z_preV hK hE hZ hA (ci := 10) rfl m0) rfl rfl hl.1 rfl (lv_room (Nat.le_of_ble_eq_true rfl)) dX10_headOf_64 ⟨(Nat.le_of_ble_eq_true rfl), (Nat.le_of_ble_eq_true rfl)⟩) hZ hA (fun r G64 H locs hq hZ => ?_)
      obtain ⟨hg, rfl⟩ := hq
      replace hg := hg.symm
      subst hg
      refine W.eq (g2 := F0 m 67 ls [.int (lw S d 4)]) rfl ?_
      refine lv_ineg hx hb dX10_headOf_67 ?_
      refine lv_aload_n hx hb dX10_headOf_68 rfl (lv_at hl 2 rfl) ?_
      refine z_get (ci := 10) (fs := [.int (nI (S.1 0 0)), .int (nI (S.1 1 0)), .ref (X 2), .ref (X 3), .ref (X 4), .ref (X 5), .ref (X 6), .long S.2.2, .ref (X 8), .ref (X 9), .int (nI (S.1 10 0)), .ref (X 11), .ref (X 12), .ref (X 13), .ref (X 14), .ref (X 15), .ref (X 16), .ref (X 17), .ref (X 18), .ref (X 19), .int (nI (S.1 20 0)), .ref (X 21), .ref (X 22), .ref (X 23), .ref (X 24), .ref (X 25), .ref (X 26), .ref (X 27), .int (nI (clc S j d f27 (S.1 10 0)).2), .ref (X 29)]) (C := RX10) (T := TX10) (N := 30) hx hb hts in_X10 hown hK hZ m0 rfl 6 (by decide) fl_22 (fun _ h9 => h9) rfl dX10_headOf_69 ?_
      refine lv_iload_n hx hb dX10_headOf_72 rfl (lv_at hl 3 rfl) ?_
      refine z_iald hx hb hK hZ m6 j hxj (by omega) (by decide) dX10_headOf_73 ?_
      refine lv_imul hx hb dX10_headOf_74 ?_
      refine W.eq (congrArg (fun v => F0 m 75 ls (.int v :: [])) h2_e) ?_
      refine W.eq (g2 := F0 m 75 ls [.int (h2 S j d)]) rfl ?_
      refine lv_istore (lv' := [(6, .int (h2 S j d)), (5, .int (h1 S j d)), (4, .int (h0 S j d)), (0, .ref (X 0)), (1, .int x), (2, .int y), (3, .int z)]) hx hb dX10_headOf_75 hl (by decide) rfl (fun ls hl => ?_)
      refine lv_iload hx hb dX10_headOf_77 (lv_at hl 2 rfl) ?_
      refine lv_iload hx hb dX10_headOf_79 (lv_at hl 1 rfl) ?_
      refine lv_iadd hx hb dX10_headOf_81 ?_
      refine lv_iload hx hb dX10_headOf_82 (lv_at hl 0 rfl) ?_
      refine lv_iadd hx hb dX10_headOf_84 ?_
      refine lv_istore (lv' := [(7, .int (((h0 S j d) + (h1 S j d)) + (h2 S j d))), (6, .int (h2 S j d)), (5, .int (h1 S j d)), (4, .int (h0 S j d)), (0, .ref (X 0)), (1, .int x), (2, .int y), (3, .int z)]) hx hb dX10_headOf_85 hl (by decide) rfl (fun ls hl => ?_)
      refine lv_iload_n hx hb dX10_headOf_87 rfl (lv_at hl 7 rfl) ?_
      refine lv_if_ne (tgt := 96) hx hb dX10_headOf_88 (by decide) (fun c88 => ?_) (fun c88 => ?_)
      · refine lv_iload_n hx hb dX10_headOf_96 rfl (lv_at hl 7 rfl) ?_
        refine lv_iconst (v := 1) hx hb dX10_headOf_97 (by decide) ?_
        refine lv_icmp_ne (tgt := 106) hx hb dX10_headOf_98 (by decide) (fun c98 => ?_) (fun c98 => ?_)
        · refine lv_iload_n hx hb dX10_headOf_106 rfl (lv_at hl 7 rfl) ?_
          refine lv_iconst (v := 2) hx hb dX10_headOf_107 (by decide) ?_
          refine lv_icmp_ne (tgt := 116) hx hb dX10_headOf_108 (by decide) (fun c108 => ?_) (fun c108 => ?_)
          · refine lv_iload_n hx hb dX10_headOf_116 rfl (lv_at hl 7 rfl) ?_
            refine lv_iconst (v := 3) hx hb dX10_headOf_117 (by decide) ?_
            refine lv_icmp_ne (tgt := 136) hx hb dX10_headOf_118 (by decide) (fun c118 => ?_) (fun c118 => ?_)
            · refine lv_aload_n hx hb dX10_headOf_136 rfl (lv_at hl 4 rfl) ?_
              refine z_get (ci := 10) (fs := [.int (nI (S.1 0 0)), .int (nI (S.1 1 0)), .ref (X 2), .ref (X 3), .ref (X 4), .ref (X 5), .ref (X 6), .long S.2.2, .ref (X 8), .ref (X 9), .int (nI (S.1 10 0)), .ref (X 11), .ref (X 12), .ref (X 13), .ref (X 14), .ref (X 15), .ref (X 16), .ref (X 17), .ref (X 18), .ref (X 19), .int (nI (S.1 20 0)), .ref (X 21), .ref (X 22), .ref (X 23), .ref (X 24), .ref (X 25), .ref (X 26), .ref (X 27), .int (nI (clc S j d f27 (S.1 10 0)).2), .ref (X 29)]) (C := RX10) (T := TX10) (N := 30) hx hb hts in_X10 hown hK hZ m0 rfl 28 (by decide) fl_120 (fun _ h9 => h9) rfl dX10_headOf_137 ?_
              exact z_iret hx hb hr hlocks hZ dX10_headOf_140 (⟨⟨_, _, _, hM3⟩, hv_4 f27 hw hwk c88 c98 c108 c118⟩)
            · refine lv_iload hx hb dX10_headOf_121 (lv_at hl 0 rfl) ?_
              refine lv_iconst (v := 1) hx hb dX10_headOf_123 (by decide) ?_
              refine lv_icmp_ge (tgt := 131) hx hb dX10_headOf_124 (by decide) (fun c124 => ?_) (fun c124 => ?_)
              · refine lv_iload hx hb dX10_headOf_131 (lv_at hl 0 rfl) ?_
                refine lv_goto (tgt := 140) hx hb dX10_headOf_133 (by decide) ?_
                exact z_iret hx hb hr hlocks hZ dX10_headOf_140 (⟨⟨_, _, _, hM3⟩, hv_3b hw hwk c118 c124⟩)
              · refine lv_iconst (v := 1) hx hb dX10_headOf_127 (by decide) ?_
                refine lv_goto (tgt := 140) hx hb dX10_headOf_128 (by decide) ?_
                exact z_iret hx hb hr hlocks hZ dX10_headOf_140 (⟨⟨_, _, _, hM3⟩, hv_3a hw hwk c118 c124⟩)
          · refine lv_iload hx hb dX10_headOf_111 (lv_at hl 1 rfl) ?_
            refine lv_goto (tgt := 140) hx hb dX10_headOf_113 (by decide) ?_
            exact z_iret hx hb hr hlocks hZ dX10_headOf_140 (⟨⟨_, _, _, hM3⟩, hv_2 hw hwk c108⟩)
        · refine lv_iload hx hb dX10_headOf_101 (lv_at hl 2 rfl) ?_
          refine lv_goto (tgt := 140) hx hb dX10_headOf_103 (by decide) ?_
          exact z_iret hx hb hr hlocks hZ dX10_headOf_140 (⟨⟨_, _, _, hM3⟩, hv_1 hw hwk c98⟩)
      · refine lv_iload hx hb dX10_headOf_91 (lv_at hl 3 rfl) ?_
        refine lv_goto (tgt := 140) hx hb dX10_headOf_93 (by decide) ?_
        exact z_iret hx hb hr hlocks hZ dX10_headOf_140 (⟨⟨_, _, _, hM3⟩, hv_0 hw hwk c88⟩)

set_option maxHeartbeats 4000000 in
set_option maxRecDepth 100000 in
theorem c_X10_head (l : Launch) (D : va_G) (cT : Nat → ClassId) (G : zG) (sz : Nat) (S : zS) (X : Nat → Nat) (cz : Int32) (f27 f29 : Nat → Int32) (nn : Nat) (x y z : Int32) (hM : MD cT S X cz f27 f29 G) (hXI : XI X) (hS : ok S nn)  : zM l D cT yX10_head wsX10_head (zR 4 0 0) [.ref (X 0), .int x, .int y, .int z] G sz (mQ cT X (sp_head S x y z)) := by
  refine z_start (cc := cX10_head) (maxL := 4) (ret := (some .int)) (by decide) rfl (Nat.le_of_ble_eq_true rfl) ?_
  intro p e s m below meth c ls hI hZ hl
  obtain ⟨hx, hb, hr, hml, hts, hown, hlocks, hname, hK, hA, hE⟩ := hI
  have hl : lv_has ls 4 [(0, .ref (X 0)), (1, .int x), (2, .int y), (3, .int z)] := hl
  have hown : s.vm.findClass RX10 = some m.cls := hown
  obtain ⟨m0, m2, m3, m4, m5, m6, m8, m9, m11, m12, m13, m14, m15, m16, m17, m18, m19, m21, m22, m23, m24, m25, m26, m27, m29⟩ := id hM
  obtain ⟨⟨k1, k10, k20, k0⟩, kH, k9, k8, k15, k26, kL, kLn, kP, kE, kEm, kn⟩ := id hS
  refine lv_aload_n hx hb dX10_head_0 rfl (lv_at hl 0 rfl) ?_
  refine lv_iload_n hx hb dX10_head_1 rfl (lv_at hl 1 rfl) ?_
  refine z_call (va_runV (As := [.int x]) (rest := []) ⟨hx, hb, hml, hown, hts⟩ (c_X10_isHome l D cT _ _ S X _ _ _ nn x hM hXI hS ) (cwV 1 hts gX10_head_X10_isHome rfl rfl rfl (by decide +kernel) ⟨(Nat.le_of_ble_eq_true rfl), (Nat.le_of_ble_eq_true rfl)⟩) (z_preV hK hE hZ hA (ci := 10) rfl m0) rfl rfl hl.1 rfl (lv_room (Nat.le_of_ble_eq_true rfl)) dX10_head_2 ⟨(Nat.le_of_ble_eq_true rfl), (Nat.le_of_ble_eq_true rfl)⟩) hZ hA (fun r G2 H locs hq hZ => ?_)
  obtain ⟨hg, rfl⟩ := hq
  replace hg := hg.symm
  subst hg
  refine W.eq (g2 := F0 m 5 ls [.int (if 0 ≤ x ∧ x ≤ nI (S.1 1 0) - 1 then 1 else 0)]) rfl ?_
  refine zb_eq (tgt := 38) hx hb dX10_head_5 (by decide) (fun c5 => ?_) (fun c5 => ?_)
  · have hh := hix_no (S := S) c5
    refine lv_ldc (v := (-1000000000)) hx hb hown (hts (.constant RX10 131 (-1000000000)) (by decide +kernel)) dX10_head_38 ?_
    exact z_iret hx hb hr hlocks hZ dX10_head_40 (mQ_of (by rw [sp_head, hh]) ⟨_, _, _, hM⟩)
  · obtain ⟨j, hj, hxj, hh⟩ := hix_yes k1 c5
    refine lv_iload_n hx hb dX10_head_8 rfl (lv_at hl 2 rfl) ?_
    refine lv_iconst (v := 0) hx hb dX10_head_9 (by decide) ?_
    refine lv_sipush (v := 300) hx hb dX10_head_10 (by decide) ?_
    refine z_call (va_runS (As := [.int y, .int 0, .int 300]) (rest := []) ⟨hx, hb, hml, hown, hts⟩ (c_X10_in l D cT _ _ y 0 300) (va_cwS 3 hts gX10_head_X10_in rfl rfl rfl (by decide +kernel) ⟨(Nat.le_of_ble_eq_true rfl), (Nat.le_of_ble_eq_true rfl)⟩) (z_preS hK hE hZ hA) rfl rfl hl.1 rfl (lv_room (Nat.le_of_ble_eq_true rfl)) dX10_head_13 ⟨(Nat.le_of_ble_eq_true rfl), (Nat.le_of_ble_eq_true rfl)⟩) hZ hA (fun r G13 H locs hq hZ => ?_)
    obtain ⟨hg, rfl⟩ := hq
    replace hg := hg.symm
    subst hg
    refine W.eq (g2 := F0 m 16 ls [.int (if 0 ≤ y ∧ y ≤ 300 then 1 else 0)]) rfl ?_
    refine zb_eq (tgt := 38) hx hb dX10_head_16 (by decide) (fun c16 => ?_) (fun c16 => ?_)
    · refine lv_ldc (v := (-1000000000)) hx hb hown (hts (.constant RX10 131 (-1000000000)) (by decide +kernel)) dX10_head_38 ?_
      exact z_iret hx hb hr hlocks hZ dX10_head_40 (mQ_of (by rw [sp_head, hh]; simp only []; rw [if_neg (fun h => c16 h.1)]) ⟨_, _, _, hM⟩)
    · refine lv_iload_n hx hb dX10_head_19 rfl (lv_at hl 3 rfl) ?_
      refine lv_iconst (v := 0) hx hb dX10_head_20 (by decide) ?_
      refine lv_iconst (v := 4) hx hb dX10_head_21 (by decide) ?_
      refine z_call (va_runS (As := [.int z, .int 0, .int 4]) (rest := []) ⟨hx, hb, hml, hown, hts⟩ (c_X10_in l D cT _ _ z 0 4) (va_cwS 3 hts gX10_head_X10_in rfl rfl rfl (by decide +kernel) ⟨(Nat.le_of_ble_eq_true rfl), (Nat.le_of_ble_eq_true rfl)⟩) (z_preS hK hE hZ hA) rfl rfl hl.1 rfl (lv_room (Nat.le_of_ble_eq_true rfl)) dX10_head_22 ⟨(Nat.le_of_ble_eq_true rfl), (Nat.le_of_ble_eq_true rfl)⟩) hZ hA (fun r G22 H locs hq hZ => ?_)
      obtain ⟨hg, rfl⟩ := hq
      replace hg := hg.symm
      subst hg
      refine W.eq (g2 := F0 m 25 ls [.int (if 0 ≤ z ∧ z ≤ 4 then 1 else 0)]) rfl ?_
      refine zb_eq (tgt := 38) hx hb dX10_head_25 (by decide) (fun c25 => ?_) (fun c25 => ?_)
      · refine lv_ldc (v := (-1000000000)) hx hb hown (hts (.constant RX10 131 (-1000000000)) (by decide +kernel)) dX10_head_38 ?_
        exact z_iret hx hb hr hlocks hZ dX10_head_40 (mQ_of (by rw [sp_head, hh]; simp only []; rw [if_neg (fun h => c25 h.2)]) ⟨_, _, _, hM⟩)
      · have hyd : y = nI y.toNatClampNeg := (z_self c16.1).symm
        have hd : y.toNatClampNeg ≤ 300 := z_cl c16 (by decide)
        have hwk : z = nI z.toNatClampNeg := (z_self c25.1).symm
        have hw : z.toNatClampNeg ≤ 4 := z_cl c25 (by decide)
        refine lv_aload_n hx hb dX10_head_28 rfl (lv_at hl 0 rfl) ?_
        refine lv_iload_n hx hb dX10_head_29 rfl (lv_at hl 1 rfl) ?_
        refine lv_iload_n hx hb dX10_head_30 rfl (lv_at hl 2 rfl) ?_
        refine lv_iload_n hx hb dX10_head_31 rfl (lv_at hl 3 rfl) ?_
        refine z_call (va_runV (As := [.int x, .int y, .int z]) (rest := []) ⟨hx, hb, hml, hown, hts⟩ (c_X10_headOf l D cT _ _ S X _ _ _ nn x y z j y.toNatClampNeg z.toNatClampNeg hM hXI hS hj hxj hd hyd hw hwk) (cwV 3 hts gX10_head_X10_headOf rfl rfl rfl (by decide +kernel) ⟨(Nat.le_of_ble_eq_true rfl), (Nat.le_of_ble_eq_true rfl)⟩) (z_preV hK hE hZ hA (ci := 10) rfl m0) rfl rfl hl.1 rfl (lv_room (Nat.le_of_ble_eq_true rfl)) dX10_head_32 ⟨(Nat.le_of_ble_eq_true rfl), (Nat.le_of_ble_eq_true rfl)⟩) hZ hA (fun r G32 H locs hq hZ => ?_)
        obtain ⟨⟨cz32, fa32, fb32, hM32⟩, rfl⟩ := hq
        obtain ⟨m0, m2, m3, m4, m5, m6, m8, m9, m11, m12, m13, m14, m15, m16, m17, m18, m19, m21, m22, m23, m24, m25, m26, m27, m29⟩ := id hM32
        refine W.eq (g2 := F0 m 35 ls [.int (hv S j y.toNatClampNeg z.toNatClampNeg)]) rfl ?_
        refine lv_goto (tgt := 40) hx hb dX10_head_35 (by decide) ?_
        exact z_iret hx hb hr hlocks hZ dX10_head_40 (mQ_of (by rw [sp_head, hh]; simp only []; rw [if_pos ⟨c16, c25⟩]) ⟨_, _, _, hM32⟩)

set_option maxHeartbeats 4000000 in
set_option maxRecDepth 100000 in
theorem c_X10_latestOf (l : Launch) (D : va_G) (cT : Nat → ClassId) (G : zG) (sz : Nat) (S : zS) (X : Nat → Nat) (cz : Int32) (f27 f29 : Nat → Int32) (nn : Nat) (x : Int32) (j : Nat) (hM : MD cT S X cz f27 f29 G) (hXI : XI X) (hS : ok S nn) (hj : j < S.1 1 0) (hxj : x = nI j) : zM l D cT yX10_latestOf wsX10_latestOf (zR 0 0 0) [.ref (X 0), .int x] G sz (fun r G' => G' = G ∧ r = some (.int (lav (lat S j)))) := by
  refine z_start (cc := cX10_latestOf) (maxL := 3) (ret := (some .int)) (by decide) rfl (Nat.le_of_ble_eq_true rfl) ?_
  intro p e s m below meth c ls hI hZ hl
  obtain ⟨hx, hb, hr, hml, hts, hown, hlocks, hname, hK, hA, hE⟩ := hI
  have hl : lv_has ls 3 [(0, .ref (X 0)), (1, .int x)] := hl
  have hown : s.vm.findClass RX10 = some m.cls := hown
  have in_X10 : ∀ w ∈ u_ws RX10 TX10 30, w ∈ wsX10_latestOf := by decide +kernel
  have fl_59 := hts (.fieldLink RX10 59 "FairRentsModel" "entryHome" "[I") (by decide +kernel)
  have fl_74 := hts (.fieldLink RX10 74 "FairRentsModel" "isGone" "[Z") (by decide +kernel)
  have fl_132 := hts (.fieldLink RX10 132 "FairRentsModel" "entries" "I") (by decide +kernel)
  obtain ⟨m0, m2, m3, m4, m5, m6, m8, m9, m11, m12, m13, m14, m15, m16, m17, m18, m19, m21, m22, m23, m24, m25, m26, m27, m29⟩ := id hM
  obtain ⟨⟨k1, k10, k20, k0⟩, kH, k9, k8, k15, k26, kL, kLn, kP, kE, kEm, kn⟩ := id hS
  refine lv_aload_n hx hb dX10_latestOf_0 rfl (lv_at hl 0 rfl) ?_
  refine z_get (ci := 10) (fs := [.int (nI (S.1 0 0)), .int (nI (S.1 1 0)), .ref (X 2), .ref (X 3), .ref (X 4), .ref (X 5), .ref (X 6), .long S.2.2, .ref (X 8), .ref (X 9), .int (nI (S.1 10 0)), .ref (X 11), .ref (X 12), .ref (X 13), .ref (X 14), .ref (X 15), .ref (X 16), .ref (X 17), .ref (X 18), .ref (X 19), .int (nI (S.1 20 0)), .ref (X 21), .ref (X 22), .ref (X 23), .ref (X 24), .ref (X 25), .ref (X 26), .ref (X 27), .int cz, .ref (X 29)]) (C := RX10) (T := TX10) (N := 30) hx hb hts in_X10 hown hK hZ m0 rfl 20 (by decide) fl_132 (fun _ h9 => h9) rfl dX10_latestOf_1 ?_
  refine lv_iconst (v := 1) hx hb dX10_latestOf_4 (by decide) ?_
  refine lv_isub hx hb dX10_latestOf_5 ?_
  refine lv_istore_n (lv' := [(2, .int ((nI (S.1 20 0)) - 1)), (0, .ref (X 0)), (1, .int x)]) hx hb dX10_latestOf_6 rfl hl (by decide) rfl (fun ls hl => ?_)
  have loop7 : ∀ (k : Nat) (hk : k ≤ S.1 20 0) (he : latS S j k = lat S j) (H : Heap) (locs : List Loc) (ls : Array Slot), zW D (zA G sz) s.heap G H locs → lv_has ls 3 [(2, .int (nI k - 1)), (0, .ref (X 0)), (1, .int x)] → W p l e (zR 0 0 0) s m ([.ref (X 0), .int x] : List Value).toArray below meth c H locs 0 0 (MQ below (zQ D G sz (fun r G' => G' = G ∧ r = some (.int (lav (lat S j))))) ([.ref (X 0), .int x] : List Value).toArray s 0 0 (zA G sz)) (F0 m 7 ls []) := by
    intro k
    induction k with
    | zero =>
      intro hk he H locs ls hZ hl
      refine lv_iload_n hx hb dX10_latestOf_7 rfl (lv_at hl 0 rfl) ?_
      refine lv_if_lt (tgt := 36) hx hb dX10_latestOf_8 (by decide) (fun _ => ?_) (fun c8 => absurd (show nI 0 - 1 < 0 by decide) c8)
      refine lv_iload_n hx hb dX10_latestOf_36 rfl (lv_at hl 0 rfl) ?_
      refine lv_if_ge (tgt := 45) hx hb dX10_latestOf_37 (by decide) (fun c37 => absurd c37 (show ¬ 0 ≤ nI 0 - 1 by decide)) (fun _ => ?_)
      refine lv_bipush (v := (-9)) hx hb dX10_latestOf_40 (by decide) ?_
      refine lv_goto (tgt := 46) hx hb dX10_latestOf_42 (by decide) ?_
      exact z_iret hx hb hr hlocks hZ dX10_latestOf_46 (⟨rfl, by rw [← he]; rfl⟩)
    | succ k ih7 =>
      intro hk he H locs ls hZ hl
      rw [nI_pred] at hl
      refine lv_iload_n hx hb dX10_latestOf_7 rfl (lv_at hl 0 rfl) ?_
      refine lv_if_lt (tgt := 36) hx hb dX10_latestOf_8 (by decide) (fun c8 => absurd c8 (nI_pos (by omega))) (fun _ => ?_)
      refine lv_aload_n hx hb dX10_latestOf_11 rfl (lv_at hl 1 rfl) ?_
      refine z_get (ci := 10) (fs := [.int (nI (S.1 0 0)), .int (nI (S.1 1 0)), .ref (X 2), .ref (X 3), .ref (X 4), .ref (X 5), .ref (X 6), .long S.2.2, .ref (X 8), .ref (X 9), .int (nI (S.1 10 0)), .ref (X 11), .ref (X 12), .ref (X 13), .ref (X 14), .ref (X 15), .ref (X 16), .ref (X 17), .ref (X 18), .ref (X 19), .int (nI (S.1 20 0)), .ref (X 21), .ref (X 22), .ref (X 23), .ref (X 24), .ref (X 25), .ref (X 26), .ref (X 27), .int cz, .ref (X 29)]) (C := RX10) (T := TX10) (N := 30) hx hb hts in_X10 hown hK hZ m0 rfl 21 (by decide) fl_59 (fun _ h9 => h9) rfl dX10_latestOf_12 ?_
      refine lv_iload_n hx hb dX10_latestOf_15 rfl (lv_at hl 0 rfl) ?_
      refine z_iald hx hb hK hZ m21 k rfl (by omega) (by decide) dX10_latestOf_16 ?_
      refine lv_iload_n hx hb dX10_latestOf_17 rfl (lv_at hl 2 rfl) ?_
      refine lv_icmp_ne (tgt := 30) hx hb dX10_latestOf_18 (by decide) (fun c18 => ?_) (fun c18 => ?_)
      · refine lv_iinc (v := nI k - 1) (lv' := [(2, .int (nI k - 1)), (0, .ref (X 0)), (1, .int x)]) hx hb dX10_latestOf_30 hl (k := 0) rfl (nI_m1 k) (by decide) rfl (fun ls hl => ?_)
        refine lv_goto (tgt := 7) hx hb dX10_latestOf_33 (by decide) ?_
        exact ih7 (by omega) (by rw [← he, latS, if_neg (fun h => c18 (by rw [hxj]; show nI _ = _; rw [h.1]))]) _ _ _ hZ (lv_sub hl [0, 1, 2] rfl)
      · refine lv_aload_n hx hb dX10_latestOf_21 rfl (lv_at hl 1 rfl) ?_
        refine z_get (ci := 10) (fs := [.int (nI (S.1 0 0)), .int (nI (S.1 1 0)), .ref (X 2), .ref (X 3), .ref (X 4), .ref (X 5), .ref (X 6), .long S.2.2, .ref (X 8), .ref (X 9), .int (nI (S.1 10 0)), .ref (X 11), .ref (X 12), .ref (X 13), .ref (X 14), .ref (X 15), .ref (X 16), .ref (X 17), .ref (X 18), .ref (X 19), .int (nI (S.1 20 0)), .ref (X 21), .ref (X 22), .ref (X 23), .ref (X 24), .ref (X 25), .ref (X 26), .ref (X 27), .int cz, .ref (X 29)]) (C := RX10) (T := TX10) (N := 30) hx hb hts in_X10 hown hK hZ m0 rfl 26 (by decide) fl_74 (fun _ h9 => h9) rfl dX10_latestOf_22 ?_
        refine lv_iload_n hx hb dX10_latestOf_25 rfl (lv_at hl 0 rfl) ?_
        refine z_zald hx hb hK hZ m26 k rfl (by omega) (by decide) dX10_latestOf_26 ?_
        refine lv_if_eq (tgt := 36) hx hb dX10_latestOf_27 (by decide) (fun c27 => ?_) (fun c27 => ?_)
        · refine lv_iload_n hx hb dX10_latestOf_36 rfl (lv_at hl 0 rfl) ?_
          refine lv_if_ge (tgt := 45) hx hb dX10_latestOf_37 (by decide) (fun _ => ?_) (fun c37 => absurd (nI_pos' (by omega)) c37)
          refine lv_iload_n hx hb dX10_latestOf_45 rfl (lv_at hl 0 rfl) ?_
          exact z_iret hx hb hr hlocks hZ dX10_latestOf_46 (⟨rfl, by rw [← he, latS, if_pos ⟨nI_inj (by have := (kE k (by omega)).1; omega) (by omega) (c18.trans hxj), n0 (Nat.le_succ_of_le (k26 _)) c27⟩]; rfl⟩)
        · refine lv_iinc (v := nI k - 1) (lv' := [(2, .int (nI k - 1)), (0, .ref (X 0)), (1, .int x)]) hx hb dX10_latestOf_30 hl (k := 0) rfl (nI_m1 k) (by decide) rfl (fun ls hl => ?_)
          refine lv_goto (tgt := 7) hx hb dX10_latestOf_33 (by decide) ?_
          exact ih7 (by omega) (by rw [← he, latS, if_neg (fun h => c27 (by show nI _ = 0; rw [h.2]; rfl))]) _ _ _ hZ (lv_sub hl [0, 1, 2] rfl)
  exact loop7 (S.1 20 0) (by omega) rfl _ _ _ hZ (lv_sub hl [0, 1, 2] rfl)

set_option maxHeartbeats 4000000 in
set_option maxRecDepth 100000 in
theorem c_X10_openOf (l : Launch) (D : va_G) (cT : Nat → ClassId) (G : zG) (sz : Nat) (S : zS) (X : Nat → Nat) (cz : Int32) (f27 f29 : Nat → Int32) (nn : Nat) (x : Int32) (j : Nat) (hM : MD cT S X cz f27 f29 G) (hXI : XI X) (hS : ok S nn) (hj : j < S.1 1 0) (hxj : x = nI j) : zM l D cT yX10_openOf wsX10_openOf (zR 2 0 0) [.ref (X 0), .int x] G sz (fun r G' => G' = G ∧ r = some (.int (if nI (S.1 0 0) < bar S j then bar S j else nI (S.1 0 0)))) := by
  refine z_start (cc := cX10_openOf) (maxL := 4) (ret := (some .int)) (by decide) rfl (Nat.le_of_ble_eq_true rfl) ?_
  intro p e s m below meth c ls hI hZ hl
  obtain ⟨hx, hb, hr, hml, hts, hown, hlocks, hname, hK, hA, hE⟩ := hI
  have hl : lv_has ls 4 [(0, .ref (X 0)), (1, .int x)] := hl
  have hown : s.vm.findClass RX10 = some m.cls := hown
  have in_X10 : ∀ w ∈ u_ws RX10 TX10 30, w ∈ wsX10_openOf := by decide +kernel
  have fl_62 := hts (.fieldLink RX10 62 "FairRentsModel" "entryDay" "[I") (by decide +kernel)
  have fl_107 := hts (.fieldLink RX10 107 "FairRentsModel" "today" "I") (by decide +kernel)
  obtain ⟨m0, m2, m3, m4, m5, m6, m8, m9, m11, m12, m13, m14, m15, m16, m17, m18, m19, m21, m22, m23, m24, m25, m26, m27, m29⟩ := id hM
  obtain ⟨⟨k1, k10, k20, k0⟩, kH, k9, k8, k15, k26, kL, kLn, kP, kE, kEm, kn⟩ := id hS
  refine lv_aload_n hx hb dX10_openOf_0 rfl (lv_at hl 0 rfl) ?_
  refine lv_iload_n hx hb dX10_openOf_1 rfl (lv_at hl 1 rfl) ?_
  refine z_call (va_runV (As := [.int x]) (rest := []) ⟨hx, hb, hml, hown, hts⟩ (c_X10_latestOf l D cT _ _ S X _ _ _ nn x j hM hXI hS hj hxj) (cwV 1 hts gX10_openOf_X10_latestOf rfl rfl rfl (by decide +kernel) ⟨(Nat.le_of_ble_eq_true rfl), (Nat.le_of_ble_eq_true rfl)⟩) (z_preV hK hE hZ hA (ci := 10) rfl m0) rfl rfl hl.1 rfl (lv_room (Nat.le_of_ble_eq_true rfl)) dX10_openOf_2 ⟨(Nat.le_of_ble_eq_true rfl), (Nat.le_of_ble_eq_true rfl)⟩) hZ hA (fun r G2 H locs hq hZ => ?_)
  obtain ⟨hg, rfl⟩ := hq
  replace hg := hg.symm
  subst hg
  refine W.eq (g2 := F0 m 5 ls [.int (lav (lat S j))]) rfl ?_
  rcases hlat : lat S j with _ | e2
  · refine W.eq (g2 := F0 m 5 ls [.int (-9)]) rfl ?_
    refine lv_istore_n (lv' := [(2, .int (-9)), (0, .ref (X 0)), (1, .int x)]) hx hb dX10_openOf_5 rfl hl (by decide) rfl (fun ls hl => ?_)
    refine lv_iload_n hx hb dX10_openOf_6 rfl (lv_at hl 0 rfl) ?_
    refine lv_if_ge (tgt := 14) hx hb dX10_openOf_7 (by decide) (fun c7 => absurd c7 (show ¬ (0 : Int32) ≤ -9 by decide)) (fun _ => ?_)
    refine lv_iconst (v := 0) hx hb dX10_openOf_10 (by decide) ?_
    refine lv_goto (tgt := 33) hx hb dX10_openOf_11 (by decide) ?_
    refine W.eq (congrArg (fun v => F0 m 33 ls (.int v :: [])) (bar_n hlat)) ?_
    refine W.eq (g2 := F0 m 33 ls [.int (bar S j)]) rfl ?_
    refine lv_istore_n (lv' := [(3, .int (bar S j)), (2, .int (-9)), (0, .ref (X 0)), (1, .int x)]) hx hb dX10_openOf_33 rfl hl (by decide) rfl (fun ls hl => ?_)
    refine lv_iload_n hx hb dX10_openOf_34 rfl (lv_at hl 0 rfl) ?_
    refine lv_aload_n hx hb dX10_openOf_35 rfl (lv_at hl 2 rfl) ?_
    refine z_get (ci := 10) (fs := [.int (nI (S.1 0 0)), .int (nI (S.1 1 0)), .ref (X 2), .ref (X 3), .ref (X 4), .ref (X 5), .ref (X 6), .long S.2.2, .ref (X 8), .ref (X 9), .int (nI (S.1 10 0)), .ref (X 11), .ref (X 12), .ref (X 13), .ref (X 14), .ref (X 15), .ref (X 16), .ref (X 17), .ref (X 18), .ref (X 19), .int (nI (S.1 20 0)), .ref (X 21), .ref (X 22), .ref (X 23), .ref (X 24), .ref (X 25), .ref (X 26), .ref (X 27), .int cz, .ref (X 29)]) (C := RX10) (T := TX10) (N := 30) hx hb hts in_X10 hown hK hZ m0 rfl 0 (by decide) fl_107 (fun _ h9 => h9) rfl dX10_openOf_36 ?_
    refine lv_icmp_ge (tgt := 49) hx hb dX10_openOf_39 (by decide) (fun c39 => ?_) (fun c39 => ?_)
    · refine lv_iload_n hx hb dX10_openOf_49 rfl (lv_at hl 0 rfl) ?_
      exact z_iret hx hb hr hlocks hZ dX10_openOf_50 (⟨rfl, op_t c39⟩)
    · refine lv_aload_n hx hb dX10_openOf_42 rfl (lv_at hl 2 rfl) ?_
      refine z_get (ci := 10) (fs := [.int (nI (S.1 0 0)), .int (nI (S.1 1 0)), .ref (X 2), .ref (X 3), .ref (X 4), .ref (X 5), .ref (X 6), .long S.2.2, .ref (X 8), .ref (X 9), .int (nI (S.1 10 0)), .ref (X 11), .ref (X 12), .ref (X 13), .ref (X 14), .ref (X 15), .ref (X 16), .ref (X 17), .ref (X 18), .ref (X 19), .int (nI (S.1 20 0)), .ref (X 21), .ref (X 22), .ref (X 23), .ref (X 24), .ref (X 25), .ref (X 26), .ref (X 27), .int cz, .ref (X 29)]) (C := RX10) (T := TX10) (N := 30) hx hb hts in_X10 hown hK hZ m0 rfl 0 (by decide) fl_107 (fun _ h9 => h9) rfl dX10_openOf_43 ?_
      refine lv_goto (tgt := 50) hx hb dX10_openOf_46 (by decide) ?_
      exact z_iret hx hb hr hlocks hZ dX10_openOf_50 (⟨rfl, op_f c39⟩)
  · refine W.eq (g2 := F0 m 5 ls [.int (nI e2)]) rfl ?_
    obtain ⟨e1, e21, e26⟩ := lat_some hlat
    obtain ⟨w1, w2, w3, w4⟩ := kE e2 e1
    refine lv_istore_n (lv' := [(2, .int (nI e2)), (0, .ref (X 0)), (1, .int x)]) hx hb dX10_openOf_5 rfl hl (by decide) rfl (fun ls hl => ?_)
    refine lv_iload_n hx hb dX10_openOf_6 rfl (lv_at hl 0 rfl) ?_
    refine lv_if_ge (tgt := 14) hx hb dX10_openOf_7 (by decide) (fun _ => ?_) (fun c7 => absurd (nI_pos' (by omega)) c7)
    refine lv_aload_n hx hb dX10_openOf_14 rfl (lv_at hl 1 rfl) ?_
    refine z_get (ci := 10) (fs := [.int (nI (S.1 0 0)), .int (nI (S.1 1 0)), .ref (X 2), .ref (X 3), .ref (X 4), .ref (X 5), .ref (X 6), .long S.2.2, .ref (X 8), .ref (X 9), .int (nI (S.1 10 0)), .ref (X 11), .ref (X 12), .ref (X 13), .ref (X 14), .ref (X 15), .ref (X 16), .ref (X 17), .ref (X 18), .ref (X 19), .int (nI (S.1 20 0)), .ref (X 21), .ref (X 22), .ref (X 23), .ref (X 24), .ref (X 25), .ref (X 26), .ref (X 27), .int cz, .ref (X 29)]) (C := RX10) (T := TX10) (N := 30) hx hb hts in_X10 hown hK hZ m0 rfl 22 (by decide) fl_62 (fun _ h9 => h9) rfl dX10_openOf_15 ?_
    refine lv_iload_n hx hb dX10_openOf_18 rfl (lv_at hl 0 rfl) ?_
    refine z_iald hx hb hK hZ m22 e2 rfl (by omega) (by decide) dX10_openOf_19 ?_
    refine lv_aload_n hx hb dX10_openOf_20 rfl (lv_at hl 1 rfl) ?_
    refine lv_aload_n hx hb dX10_openOf_21 rfl (lv_at hl 1 rfl) ?_
    refine z_get (ci := 10) (fs := [.int (nI (S.1 0 0)), .int (nI (S.1 1 0)), .ref (X 2), .ref (X 3), .ref (X 4), .ref (X 5), .ref (X 6), .long S.2.2, .ref (X 8), .ref (X 9), .int (nI (S.1 10 0)), .ref (X 11), .ref (X 12), .ref (X 13), .ref (X 14), .ref (X 15), .ref (X 16), .ref (X 17), .ref (X 18), .ref (X 19), .int (nI (S.1 20 0)), .ref (X 21), .ref (X 22), .ref (X 23), .ref (X 24), .ref (X 25), .ref (X 26), .ref (X 27), .int cz, .ref (X 29)]) (C := RX10) (T := TX10) (N := 30) hx hb hts in_X10 hown hK hZ m0 rfl 22 (by decide) fl_62 (fun _ h9 => h9) rfl dX10_openOf_22 ?_
    refine lv_iload_n hx hb dX10_openOf_25 rfl (lv_at hl 0 rfl) ?_
    refine z_iald hx hb hK hZ m22 e2 rfl (by omega) (by decide) dX10_openOf_26 ?_
    refine lv_bipush (v := 6) hx hb dX10_openOf_27 (by decide) ?_
    refine z_call (va_runV (As := [.int (nI (S.1 22 e2)), .int 6]) (rest := [.int (nI (S.1 22 e2))]) ⟨hx, hb, hml, hown, hts⟩ (c_X10_lawOf l D cT _ _ S X _ _ _ nn (nI (S.1 22 e2)) 6 (S.1 22 e2) 6 hM hXI hS (by omega) rfl (by decide) rfl) (cwV 2 hts gX10_openOf_X10_lawOf rfl rfl rfl (by decide +kernel) ⟨(Nat.le_of_ble_eq_true rfl), (Nat.le_of_ble_eq_true rfl)⟩) (z_preV hK hE hZ hA (ci := 10) rfl m0) rfl rfl hl.1 rfl (lv_room (Nat.le_of_ble_eq_true rfl)) dX10_openOf_29 ⟨(Nat.le_of_ble_eq_true rfl), (Nat.le_of_ble_eq_true rfl)⟩) hZ hA (fun r G29 H locs hq hZ => ?_)
    obtain ⟨hg, rfl⟩ := hq
    replace hg := hg.symm
    subst hg
    refine W.eq (g2 := F0 m 32 ls [.int (lw S (S.1 22 e2) 6), .int (nI (S.1 22 e2))]) rfl ?_
    refine lv_iadd hx hb dX10_openOf_32 ?_
    refine W.eq (congrArg (fun v => F0 m 33 ls (.int v :: [])) (bar_s hlat)) ?_
    refine W.eq (g2 := F0 m 33 ls [.int (bar S j)]) rfl ?_
    refine lv_istore_n (lv' := [(3, .int (bar S j)), (2, .int (nI e2)), (0, .ref (X 0)), (1, .int x)]) hx hb dX10_openOf_33 rfl hl (by decide) rfl (fun ls hl => ?_)
    refine lv_iload_n hx hb dX10_openOf_34 rfl (lv_at hl 0 rfl) ?_
    refine lv_aload_n hx hb dX10_openOf_35 rfl (lv_at hl 2 rfl) ?_
    refine z_get (ci := 10) (fs := [.int (nI (S.1 0 0)), .int (nI (S.1 1 0)), .ref (X 2), .ref (X 3), .ref (X 4), .ref (X 5), .ref (X 6), .long S.2.2, .ref (X 8), .ref (X 9), .int (nI (S.1 10 0)), .ref (X 11), .ref (X 12), .ref (X 13), .ref (X 14), .ref (X 15), .ref (X 16), .ref (X 17), .ref (X 18), .ref (X 19), .int (nI (S.1 20 0)), .ref (X 21), .ref (X 22), .ref (X 23), .ref (X 24), .ref (X 25), .ref (X 26), .ref (X 27), .int cz, .ref (X 29)]) (C := RX10) (T := TX10) (N := 30) hx hb hts in_X10 hown hK hZ m0 rfl 0 (by decide) fl_107 (fun _ h9 => h9) rfl dX10_openOf_36 ?_
    refine lv_icmp_ge (tgt := 49) hx hb dX10_openOf_39 (by decide) (fun c39 => ?_) (fun c39 => ?_)
    · refine lv_iload_n hx hb dX10_openOf_49 rfl (lv_at hl 0 rfl) ?_
      exact z_iret hx hb hr hlocks hZ dX10_openOf_50 (⟨rfl, op_t c39⟩)
    · refine lv_aload_n hx hb dX10_openOf_42 rfl (lv_at hl 2 rfl) ?_
      refine z_get (ci := 10) (fs := [.int (nI (S.1 0 0)), .int (nI (S.1 1 0)), .ref (X 2), .ref (X 3), .ref (X 4), .ref (X 5), .ref (X 6), .long S.2.2, .ref (X 8), .ref (X 9), .int (nI (S.1 10 0)), .ref (X 11), .ref (X 12), .ref (X 13), .ref (X 14), .ref (X 15), .ref (X 16), .ref (X 17), .ref (X 18), .ref (X 19), .int (nI (S.1 20 0)), .ref (X 21), .ref (X 22), .ref (X 23), .ref (X 24), .ref (X 25), .ref (X 26), .ref (X 27), .int cz, .ref (X 29)]) (C := RX10) (T := TX10) (N := 30) hx hb hts in_X10 hown hK hZ m0 rfl 0 (by decide) fl_107 (fun _ h9 => h9) rfl dX10_openOf_43 ?_
      refine lv_goto (tgt := 50) hx hb dX10_openOf_46 (by decide) ?_
      exact z_iret hx hb hr hlocks hZ dX10_openOf_50 (⟨rfl, op_f c39⟩)

set_option maxHeartbeats 4000000 in
set_option maxRecDepth 100000 in
theorem c_X10_open (l : Launch) (D : va_G) (cT : Nat → ClassId) (G : zG) (sz : Nat) (S : zS) (X : Nat → Nat) (cz : Int32) (f27 f29 : Nat → Int32) (nn : Nat) (x : Int32) (hM : MD cT S X cz f27 f29 G) (hXI : XI X) (hS : ok S nn)  : zM l D cT yX10_open wsX10_open (zR 3 0 0) [.ref (X 0), .int x] G sz (mQ cT X (sp_open S x)) := by
  refine z_start (cc := cX10_open) (maxL := 2) (ret := (some .int)) (by decide) rfl (Nat.le_of_ble_eq_true rfl) ?_
  intro p e s m below meth c ls hI hZ hl
  obtain ⟨hx, hb, hr, hml, hts, hown, hlocks, hname, hK, hA, hE⟩ := hI
  have hl : lv_has ls 2 [(0, .ref (X 0)), (1, .int x)] := hl
  have hown : s.vm.findClass RX10 = some m.cls := hown
  obtain ⟨m0, m2, m3, m4, m5, m6, m8, m9, m11, m12, m13, m14, m15, m16, m17, m18, m19, m21, m22, m23, m24, m25, m26, m27, m29⟩ := id hM
  obtain ⟨⟨k1, k10, k20, k0⟩, kH, k9, k8, k15, k26, kL, kLn, kP, kE, kEm, kn⟩ := id hS
  refine lv_aload_n hx hb dX10_open_0 rfl (lv_at hl 0 rfl) ?_
  refine lv_iload_n hx hb dX10_open_1 rfl (lv_at hl 1 rfl) ?_
  refine z_call (va_runV (As := [.int x]) (rest := []) ⟨hx, hb, hml, hown, hts⟩ (c_X10_isHome l D cT _ _ S X _ _ _ nn x hM hXI hS ) (cwV 1 hts gX10_open_X10_isHome rfl rfl rfl (by decide +kernel) ⟨(Nat.le_of_ble_eq_true rfl), (Nat.le_of_ble_eq_true rfl)⟩) (z_preV hK hE hZ hA (ci := 10) rfl m0) rfl rfl hl.1 rfl (lv_room (Nat.le_of_ble_eq_true rfl)) dX10_open_2 ⟨(Nat.le_of_ble_eq_true rfl), (Nat.le_of_ble_eq_true rfl)⟩) hZ hA (fun r G2 H locs hq hZ => ?_)
  obtain ⟨hg, rfl⟩ := hq
  replace hg := hg.symm
  subst hg
  refine W.eq (g2 := F0 m 5 ls [.int (if 0 ≤ x ∧ x ≤ nI (S.1 1 0) - 1 then 1 else 0)]) rfl ?_
  refine zb_eq (tgt := 16) hx hb dX10_open_5 (by decide) (fun c5 => ?_) (fun c5 => ?_)
  · have hh := hix_no (S := S) c5
    refine lv_iconst (v := (-1)) hx hb dX10_open_16 (by decide) ?_
    exact z_iret hx hb hr hlocks hZ dX10_open_17 (mQ_of (by rw [sp_open, hh]) ⟨_, _, _, hM⟩)
  · obtain ⟨j, hj, hxj, hh⟩ := hix_yes k1 c5
    refine lv_aload_n hx hb dX10_open_8 rfl (lv_at hl 0 rfl) ?_
    refine lv_iload_n hx hb dX10_open_9 rfl (lv_at hl 1 rfl) ?_
    refine z_call (va_runV (As := [.int x]) (rest := []) ⟨hx, hb, hml, hown, hts⟩ (c_X10_openOf l D cT _ _ S X _ _ _ nn x j hM hXI hS hj hxj) (cwV 1 hts gX10_open_X10_openOf rfl rfl rfl (by decide +kernel) ⟨(Nat.le_of_ble_eq_true rfl), (Nat.le_of_ble_eq_true rfl)⟩) (z_preV hK hE hZ hA (ci := 10) rfl m0) rfl rfl hl.1 rfl (lv_room (Nat.le_of_ble_eq_true rfl)) dX10_open_10 ⟨(Nat.le_of_ble_eq_true rfl), (Nat.le_of_ble_eq_true rfl)⟩) hZ hA (fun r G10 H locs hq hZ => ?_)
    obtain ⟨hg, rfl⟩ := hq
    replace hg := hg.symm
    subst hg
    refine W.eq (g2 := F0 m 13 ls [.int (if nI (S.1 0 0) < bar S j then bar S j else nI (S.1 0 0))]) rfl ?_
    refine lv_goto (tgt := 17) hx hb dX10_open_13 (by decide) ?_
    exact z_iret hx hb hr hlocks hZ dX10_open_17 (mQ_of (by rw [sp_open, hh]) ⟨_, _, _, hM⟩)

set_option maxHeartbeats 4000000 in
set_option maxRecDepth 100000 in
theorem c_X10_latest (l : Launch) (D : va_G) (cT : Nat → ClassId) (G : zG) (sz : Nat) (S : zS) (X : Nat → Nat) (cz : Int32) (f27 f29 : Nat → Int32) (nn : Nat) (x : Int32) (hM : MD cT S X cz f27 f29 G) (hXI : XI X) (hS : ok S nn)  : zM l D cT yX10_latest wsX10_latest (zR 2 0 0) [.ref (X 0), .int x] G sz (mQ cT X (sp_latest S x)) := by
  refine z_start (cc := cX10_latest) (maxL := 2) (ret := (some .int)) (by decide) rfl (Nat.le_of_ble_eq_true rfl) ?_
  intro p e s m below meth c ls hI hZ hl
  obtain ⟨hx, hb, hr, hml, hts, hown, hlocks, hname, hK, hA, hE⟩ := hI
  have hl : lv_has ls 2 [(0, .ref (X 0)), (1, .int x)] := hl
  have hown : s.vm.findClass RX10 = some m.cls := hown
  obtain ⟨m0, m2, m3, m4, m5, m6, m8, m9, m11, m12, m13, m14, m15, m16, m17, m18, m19, m21, m22, m23, m24, m25, m26, m27, m29⟩ := id hM
  obtain ⟨⟨k1, k10, k20, k0⟩, kH, k9, k8, k15, k26, kL, kLn, kP, kE, kEm, kn⟩ := id hS
  refine lv_aload_n hx hb dX10_latest_0 rfl (lv_at hl 0 rfl) ?_
  refine lv_iload_n hx hb dX10_latest_1 rfl (lv_at hl 1 rfl) ?_
  refine z_call (va_runV (As := [.int x]) (rest := []) ⟨hx, hb, hml, hown, hts⟩ (c_X10_isHome l D cT _ _ S X _ _ _ nn x hM hXI hS ) (cwV 1 hts gX10_latest_X10_isHome rfl rfl rfl (by decide +kernel) ⟨(Nat.le_of_ble_eq_true rfl), (Nat.le_of_ble_eq_true rfl)⟩) (z_preV hK hE hZ hA (ci := 10) rfl m0) rfl rfl hl.1 rfl (lv_room (Nat.le_of_ble_eq_true rfl)) dX10_latest_2 ⟨(Nat.le_of_ble_eq_true rfl), (Nat.le_of_ble_eq_true rfl)⟩) hZ hA (fun r G2 H locs hq hZ => ?_)
  obtain ⟨hg, rfl⟩ := hq
  replace hg := hg.symm
  subst hg
  refine W.eq (g2 := F0 m 5 ls [.int (if 0 ≤ x ∧ x ≤ nI (S.1 1 0) - 1 then 1 else 0)]) rfl ?_
  refine zb_eq (tgt := 16) hx hb dX10_latest_5 (by decide) (fun c5 => ?_) (fun c5 => ?_)
  · have hh := hix_no (S := S) c5
    refine lv_iconst (v := (-1)) hx hb dX10_latest_16 (by decide) ?_
    exact z_iret hx hb hr hlocks hZ dX10_latest_17 (mQ_of (by rw [sp_latest, hh]) ⟨_, _, _, hM⟩)
  · obtain ⟨j, hj, hxj, hh⟩ := hix_yes k1 c5
    refine lv_aload_n hx hb dX10_latest_8 rfl (lv_at hl 0 rfl) ?_
    refine lv_iload_n hx hb dX10_latest_9 rfl (lv_at hl 1 rfl) ?_
    refine z_call (va_runV (As := [.int x]) (rest := []) ⟨hx, hb, hml, hown, hts⟩ (c_X10_latestOf l D cT _ _ S X _ _ _ nn x j hM hXI hS hj hxj) (cwV 1 hts gX10_latest_X10_latestOf rfl rfl rfl (by decide +kernel) ⟨(Nat.le_of_ble_eq_true rfl), (Nat.le_of_ble_eq_true rfl)⟩) (z_preV hK hE hZ hA (ci := 10) rfl m0) rfl rfl hl.1 rfl (lv_room (Nat.le_of_ble_eq_true rfl)) dX10_latest_10 ⟨(Nat.le_of_ble_eq_true rfl), (Nat.le_of_ble_eq_true rfl)⟩) hZ hA (fun r G10 H locs hq hZ => ?_)
    obtain ⟨hg, rfl⟩ := hq
    replace hg := hg.symm
    subst hg
    refine W.eq (g2 := F0 m 13 ls [.int (lav (lat S j))]) rfl ?_
    refine lv_goto (tgt := 17) hx hb dX10_latest_13 (by decide) ?_
    exact z_iret hx hb hr hlocks hZ dX10_latest_17 (mQ_of (sp_latest_e hh) ⟨_, _, _, hM⟩)

set_option maxHeartbeats 4000000 in
set_option maxRecDepth 100000 in
theorem c_X10_appeal (l : Launch) (D : va_G) (cT : Nat → ClassId) (G : zG) (sz : Nat) (S : zS) (X : Nat → Nat) (cz : Int32) (f27 f29 : Nat → Int32) (nn : Nat) (x : Int32) (hM : MD cT S X cz f27 f29 G) (hXI : XI X) (hS : ok S nn)  : zM l D cT yX10_appeal wsX10_appeal (zR 2 0 0) [.ref (X 0), .int x] G sz (mQ cT X (sp_appeal S x)) := by
  refine z_start (cc := cX10_appeal) (maxL := 3) (ret := (some .int)) (by decide) rfl (Nat.le_of_ble_eq_true rfl) ?_
  intro p e s m below meth c ls hI hZ hl
  obtain ⟨hx, hb, hr, hml, hts, hown, hlocks, hname, hK, hA, hE⟩ := hI
  have hl : lv_has ls 3 [(0, .ref (X 0)), (1, .int x)] := hl
  have hown : s.vm.findClass RX10 = some m.cls := hown
  have in_X10 : ∀ w ∈ u_ws RX10 TX10 30, w ∈ wsX10_appeal := by decide +kernel
  have fl_62 := hts (.fieldLink RX10 62 "FairRentsModel" "entryDay" "[I") (by decide +kernel)
  have fl_74 := hts (.fieldLink RX10 74 "FairRentsModel" "isGone" "[Z") (by decide +kernel)
  have fl_107 := hts (.fieldLink RX10 107 "FairRentsModel" "today" "I") (by decide +kernel)
  obtain ⟨m0, m2, m3, m4, m5, m6, m8, m9, m11, m12, m13, m14, m15, m16, m17, m18, m19, m21, m22, m23, m24, m25, m26, m27, m29⟩ := id hM
  obtain ⟨⟨k1, k10, k20, k0⟩, kH, k9, k8, k15, k26, kL, kLn, kP, kE, kEm, kn⟩ := id hS
  refine lv_aload_n hx hb dX10_appeal_0 rfl (lv_at hl 0 rfl) ?_
  refine lv_iload_n hx hb dX10_appeal_1 rfl (lv_at hl 1 rfl) ?_
  refine z_call (va_runV (As := [.int x]) (rest := []) ⟨hx, hb, hml, hown, hts⟩ (c_X10_isHome l D cT _ _ S X _ _ _ nn x hM hXI hS ) (cwV 1 hts gX10_appeal_X10_isHome rfl rfl rfl (by decide +kernel) ⟨(Nat.le_of_ble_eq_true rfl), (Nat.le_of_ble_eq_true rfl)⟩) (z_preV hK hE hZ hA (ci := 10) rfl m0) rfl rfl hl.1 rfl (lv_room (Nat.le_of_ble_eq_true rfl)) dX10_appeal_2 ⟨(Nat.le_of_ble_eq_true rfl), (Nat.le_of_ble_eq_true rfl)⟩) hZ hA (fun r G2 H locs hq hZ => ?_)
  obtain ⟨hg, rfl⟩ := hq
  replace hg := hg.symm
  subst hg
  refine W.eq (g2 := F0 m 5 ls [.int (if 0 ≤ x ∧ x ≤ nI (S.1 1 0) - 1 then 1 else 0)]) rfl ?_
  refine zb_ne (tgt := 10) hx hb dX10_appeal_5 (by decide) (fun c5 => ?_) (fun c5 => ?_)
  · obtain ⟨j, hj, hxj, hh⟩ := hix_yes k1 c5
    refine lv_aload_n hx hb dX10_appeal_10 rfl (lv_at hl 0 rfl) ?_
    refine lv_iload_n hx hb dX10_appeal_11 rfl (lv_at hl 1 rfl) ?_
    refine z_call (va_runV (As := [.int x]) (rest := []) ⟨hx, hb, hml, hown, hts⟩ (c_X10_latestOf l D cT _ _ S X _ _ _ nn x j hM hXI hS hj hxj) (cwV 1 hts gX10_appeal_X10_latestOf rfl rfl rfl (by decide +kernel) ⟨(Nat.le_of_ble_eq_true rfl), (Nat.le_of_ble_eq_true rfl)⟩) (z_preV hK hE hZ hA (ci := 10) rfl m0) rfl rfl hl.1 rfl (lv_room (Nat.le_of_ble_eq_true rfl)) dX10_appeal_12 ⟨(Nat.le_of_ble_eq_true rfl), (Nat.le_of_ble_eq_true rfl)⟩) hZ hA (fun r G12 H locs hq hZ => ?_)
    obtain ⟨hg, rfl⟩ := hq
    replace hg := hg.symm
    subst hg
    refine W.eq (g2 := F0 m 15 ls [.int (lav (lat S j))]) rfl ?_
    rcases hlat : lat S j with _ | e2
    · refine W.eq (g2 := F0 m 15 ls [.int (-9)]) rfl ?_
      refine lv_istore_n (lv' := [(2, .int (-9)), (0, .ref (X 0)), (1, .int x)]) hx hb dX10_appeal_15 rfl hl (by decide) rfl (fun ls hl => ?_)
      refine lv_iload_n hx hb dX10_appeal_16 rfl (lv_at hl 0 rfl) ?_
      refine lv_if_lt (tgt := 35) hx hb dX10_appeal_17 (by decide) (fun _ => ?_) (fun c17 => absurd (show (-9 : Int32) < 0 by decide) c17)
      refine lv_bipush (v := (-2)) hx hb dX10_appeal_35 (by decide) ?_
      exact z_iret hx hb hr hlocks hZ dX10_appeal_37 (mQ_of (by rw [sp_appeal, hh]; simp only [hlat]) ⟨_, _, _, hM⟩)
    · refine W.eq (g2 := F0 m 15 ls [.int (nI e2)]) rfl ?_
      obtain ⟨e1, e21, e26⟩ := lat_some hlat
      obtain ⟨w1, w2, w3, w4⟩ := kE e2 e1
      refine lv_istore_n (lv' := [(2, .int (nI e2)), (0, .ref (X 0)), (1, .int x)]) hx hb dX10_appeal_15 rfl hl (by decide) rfl (fun ls hl => ?_)
      refine lv_iload_n hx hb dX10_appeal_16 rfl (lv_at hl 0 rfl) ?_
      refine lv_if_lt (tgt := 35) hx hb dX10_appeal_17 (by decide) (fun c17 => absurd c17 (nI_pos (by omega))) (fun _ => ?_)
      refine lv_aload_n hx hb dX10_appeal_20 rfl (lv_at hl 1 rfl) ?_
      refine z_get (ci := 10) (fs := [.int (nI (S.1 0 0)), .int (nI (S.1 1 0)), .ref (X 2), .ref (X 3), .ref (X 4), .ref (X 5), .ref (X 6), .long S.2.2, .ref (X 8), .ref (X 9), .int (nI (S.1 10 0)), .ref (X 11), .ref (X 12), .ref (X 13), .ref (X 14), .ref (X 15), .ref (X 16), .ref (X 17), .ref (X 18), .ref (X 19), .int (nI (S.1 20 0)), .ref (X 21), .ref (X 22), .ref (X 23), .ref (X 24), .ref (X 25), .ref (X 26), .ref (X 27), .int cz, .ref (X 29)]) (C := RX10) (T := TX10) (N := 30) hx hb hts in_X10 hown hK hZ m0 rfl 0 (by decide) fl_107 (fun _ h9 => h9) rfl dX10_appeal_21 ?_
      refine lv_aload_n hx hb dX10_appeal_24 rfl (lv_at hl 1 rfl) ?_
      refine z_get (ci := 10) (fs := [.int (nI (S.1 0 0)), .int (nI (S.1 1 0)), .ref (X 2), .ref (X 3), .ref (X 4), .ref (X 5), .ref (X 6), .long S.2.2, .ref (X 8), .ref (X 9), .int (nI (S.1 10 0)), .ref (X 11), .ref (X 12), .ref (X 13), .ref (X 14), .ref (X 15), .ref (X 16), .ref (X 17), .ref (X 18), .ref (X 19), .int (nI (S.1 20 0)), .ref (X 21), .ref (X 22), .ref (X 23), .ref (X 24), .ref (X 25), .ref (X 26), .ref (X 27), .int cz, .ref (X 29)]) (C := RX10) (T := TX10) (N := 30) hx hb hts in_X10 hown hK hZ m0 rfl 22 (by decide) fl_62 (fun _ h9 => h9) rfl dX10_appeal_25 ?_
      refine lv_iload_n hx hb dX10_appeal_28 rfl (lv_at hl 0 rfl) ?_
      refine z_iald hx hb hK hZ m22 e2 rfl (by omega) (by decide) dX10_appeal_29 ?_
      refine lv_isub hx hb dX10_appeal_30 ?_
      refine lv_iconst (v := 5) hx hb dX10_appeal_31 (by decide) ?_
      refine lv_icmp_le (tgt := 38) hx hb dX10_appeal_32 (by decide) (fun c32 => ?_) (fun c32 => ?_)
      · have hz : ¬ S.1 22 e2 + 5 < S.1 0 0 := ap_t w2 k0 c32
        refine lv_aload_n hx hb dX10_appeal_38 rfl (lv_at hl 1 rfl) ?_
        refine z_get (ci := 10) (fs := [.int (nI (S.1 0 0)), .int (nI (S.1 1 0)), .ref (X 2), .ref (X 3), .ref (X 4), .ref (X 5), .ref (X 6), .long S.2.2, .ref (X 8), .ref (X 9), .int (nI (S.1 10 0)), .ref (X 11), .ref (X 12), .ref (X 13), .ref (X 14), .ref (X 15), .ref (X 16), .ref (X 17), .ref (X 18), .ref (X 19), .int (nI (S.1 20 0)), .ref (X 21), .ref (X 22), .ref (X 23), .ref (X 24), .ref (X 25), .ref (X 26), .ref (X 27), .int cz, .ref (X 29)]) (C := RX10) (T := TX10) (N := 30) hx hb hts in_X10 hown hK hZ m0 rfl 26 (by decide) fl_74 (fun _ h9 => h9) rfl dX10_appeal_39 ?_
        refine lv_iload_n hx hb dX10_appeal_42 rfl (lv_at hl 0 rfl) ?_
        refine lv_iconst (v := 1) hx hb dX10_appeal_43 (by decide) ?_
        refine z_zast hx hb hK hZ m26 e2 rfl (by decide) (by omega) (by decide) dX10_appeal_44 (fun H locs hZ => ?_)
        refine lv_iload_n hx hb dX10_appeal_45 rfl (lv_at hl 0 rfl) ?_
        exact z_iret hx hb hr hlocks hZ dX10_appeal_46 (by rw [sp_appeal, hh]; simp only [hlat]; rw [if_neg hz]; exact ⟨⟨_, _, _, ((va_up_ne _ _ (fun q => absurd (hXI 0 26 (by decide) (by decide) q) (by decide))).trans m0), ((va_up_ne _ _ (fun q => absurd (hXI 2 26 (by decide) (by decide) q) (by decide))).trans m2), ((va_up_ne _ _ (fun q => absurd (hXI 3 26 (by decide) (by decide) q) (by decide))).trans m3), ((va_up_ne _ _ (fun q => absurd (hXI 4 26 (by decide) (by decide) q) (by decide))).trans m4), ((va_up_ne _ _ (fun q => absurd (hXI 5 26 (by decide) (by decide) q) (by decide))).trans m5), ((va_up_ne _ _ (fun q => absurd (hXI 6 26 (by decide) (by decide) q) (by decide))).trans m6), ((va_up_ne _ _ (fun q => absurd (hXI 8 26 (by decide) (by decide) q) (by decide))).trans m8), ((va_up_ne _ _ (fun q => absurd (hXI 9 26 (by decide) (by decide) q) (by decide))).trans m9), ((va_up_ne _ _ (fun q => absurd (hXI 11 26 (by decide) (by decide) q) (by decide))).trans m11), ((va_up_ne _ _ (fun q => absurd (hXI 12 26 (by decide) (by decide) q) (by decide))).trans m12), ((va_up_ne _ _ (fun q => absurd (hXI 13 26 (by decide) (by decide) q) (by decide))).trans m13), ((va_up_ne _ _ (fun q => absurd (hXI 14 26 (by decide) (by decide) q) (by decide))).trans m14), ((va_up_ne _ _ (fun q => absurd (hXI 15 26 (by decide) (by decide) q) (by decide))).trans m15), ((va_up_ne _ _ (fun q => absurd (hXI 16 26 (by decide) (by decide) q) (by decide))).trans m16), ((va_up_ne _ _ (fun q => absurd (hXI 17 26 (by decide) (by decide) q) (by decide))).trans m17), ((va_up_ne _ _ (fun q => absurd (hXI 18 26 (by decide) (by decide) q) (by decide))).trans m18), ((va_up_ne _ _ (fun q => absurd (hXI 19 26 (by decide) (by decide) q) (by decide))).trans m19), ((va_up_ne _ _ (fun q => absurd (hXI 21 26 (by decide) (by decide) q) (by decide))).trans m21), ((va_up_ne _ _ (fun q => absurd (hXI 22 26 (by decide) (by decide) q) (by decide))).trans m22), ((va_up_ne _ _ (fun q => absurd (hXI 23 26 (by decide) (by decide) q) (by decide))).trans m23), ((va_up_ne _ _ (fun q => absurd (hXI 24 26 (by decide) (by decide) q) (by decide))).trans m24), ((va_up_ne _ _ (fun q => absurd (hXI 25 26 (by decide) (by decide) q) (by decide))).trans m25), ((va_up_self _ _ _).trans (congrArg (fun f => some (Sum.inl (cT 1, 20, Sum.inl f))) (cN_sN S 26 _ 1))), ((va_up_ne _ _ (fun q => absurd (hXI 27 26 (by decide) (by decide) q) (by decide))).trans m27), ((va_up_ne _ _ (fun q => absurd (hXI 29 26 (by decide) (by decide) q) (by decide))).trans m29)⟩, rfl⟩)
      · have hz : S.1 22 e2 + 5 < S.1 0 0 := ap_f w2 k0 c32
        refine lv_bipush (v := (-2)) hx hb dX10_appeal_35 (by decide) ?_
        exact z_iret hx hb hr hlocks hZ dX10_appeal_37 (mQ_of (by rw [sp_appeal, hh]; simp only [hlat]; rw [if_pos hz]) ⟨_, _, _, hM⟩)
  · have hh := hix_no (S := S) c5
    refine lv_iconst (v := (-1)) hx hb dX10_appeal_8 (by decide) ?_
    exact z_iret hx hb hr hlocks hZ dX10_appeal_9 (mQ_of (by rw [sp_appeal, hh]) ⟨_, _, _, hM⟩)

set_option maxHeartbeats 4000000 in
set_option maxRecDepth 100000 in
theorem c_X10_trace (l : Launch) (D : va_G) (cT : Nat → ClassId) (G : zG) (sz : Nat) (S : zS) (X : Nat → Nat) (cz : Int32) (f27 f29 : Nat → Int32) (nn : Nat) (hM : MD cT S X cz f27 f29 G) (hXI : XI X) (hS : ok S nn) : zM l D cT yX10_trace wsX10_trace (zR 0 0 0) [.ref (X 0)] G sz (fun r G' => MDx cT S X G' ∧ r = some (.long S.2.2)) := by
  refine z_start (cc := cX10_trace) (maxL := 1) (ret := (some .long)) (by decide) rfl (Nat.le_of_ble_eq_true rfl) ?_
  intro p e s m below meth c ls hI hZ hl
  obtain ⟨hx, hb, hr, hml, hts, hown, hlocks, hname, hK, hA, hE⟩ := hI
  have hl : lv_has ls 1 [(0, .ref (X 0))] := hl
  have hown : s.vm.findClass RX10 = some m.cls := hown
  have in_X10 : ∀ w ∈ u_ws RX10 TX10 30, w ∈ wsX10_trace := by decide +kernel
  have fl_95 := hts (.fieldLink RX10 95 "FairRentsModel" "trace" "J") (by decide +kernel)
  obtain ⟨m0, m2, m3, m4, m5, m6, m8, m9, m11, m12, m13, m14, m15, m16, m17, m18, m19, m21, m22, m23, m24, m25, m26, m27, m29⟩ := id hM
  obtain ⟨⟨k1, k10, k20, k0⟩, kH, k9, k8, k15, k26, kL, kLn, kP, kE, kEm, kn⟩ := id hS
  refine lv_aload_n hx hb dX10_trace_0 rfl (lv_at hl 0 rfl) ?_
  refine z_get (ci := 10) (fs := [.int (nI (S.1 0 0)), .int (nI (S.1 1 0)), .ref (X 2), .ref (X 3), .ref (X 4), .ref (X 5), .ref (X 6), .long S.2.2, .ref (X 8), .ref (X 9), .int (nI (S.1 10 0)), .ref (X 11), .ref (X 12), .ref (X 13), .ref (X 14), .ref (X 15), .ref (X 16), .ref (X 17), .ref (X 18), .ref (X 19), .int (nI (S.1 20 0)), .ref (X 21), .ref (X 22), .ref (X 23), .ref (X 24), .ref (X 25), .ref (X 26), .ref (X 27), .int cz, .ref (X 29)]) (C := RX10) (T := TX10) (N := 30) hx hb hts in_X10 hown hK hZ m0 rfl 7 (by decide) fl_95 (fun _ h9 => h9) rfl dX10_trace_1 ?_
  exact z_lret hx hb hr hlocks hZ dX10_trace_4 (⟨⟨_, _, _, hM⟩, rfl⟩)

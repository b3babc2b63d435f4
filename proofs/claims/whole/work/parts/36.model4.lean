set_option maxHeartbeats 4000000 in
set_option maxRecDepth 100000 in
theorem c_X10_let (l : Launch) (D : va_G) (cT : Nat → ClassId) (G : zG) (sz : Nat) (S : zS) (X : Nat → Nat) (cz : Int32) (f27 f29 : Nat → Int32) (nn : Nat) (x r : Int32) (hM : MD cT S X cz f27 f29 G) (hXI : XI X) (hS : ok S nn)  : zM l D cT yX10_let wsX10_let (zR 2 0 0) [.ref (X 0), .int x, .int r] G sz (mQ cT X (sp_let S x r)) := by
  refine z_start (cc := cX10_let) (maxL := 4) (ret := (some .int)) (by decide) rfl (Nat.le_of_ble_eq_true rfl) ?_
  intro p e s m below meth c ls hI hZ hl
  obtain ⟨hx, hb, hr, hml, hts, hown, hlocks, hname, hK, hA, hE⟩ := hI
  have hl : lv_has ls 4 [(0, .ref (X 0)), (1, .int x), (2, .int r)] := hl
  have hown : s.vm.findClass RX10 = some m.cls := hown
  have in_X10 : ∀ w ∈ u_ws RX10 TX10 30, w ∈ wsX10_let := by decide +kernel
  have fl_47 := hts (.fieldLink RX10 47 "FairRentsModel" "letDay" "[I") (by decide +kernel)
  have fl_50 := hts (.fieldLink RX10 50 "FairRentsModel" "letRent" "[I") (by decide +kernel)
  have fl_53 := hts (.fieldLink RX10 53 "FairRentsModel" "letting" "[I") (by decide +kernel)
  have fl_56 := hts (.fieldLink RX10 56 "FairRentsModel" "paid" "[I") (by decide +kernel)
  have fl_107 := hts (.fieldLink RX10 107 "FairRentsModel" "today" "I") (by decide +kernel)
  obtain ⟨m0, m2, m3, m4, m5, m6, m8, m9, m11, m12, m13, m14, m15, m16, m17, m18, m19, m21, m22, m23, m24, m25, m26, m27, m29⟩ := id hM
  obtain ⟨⟨k1, k10, k20, k0⟩, kH, k9, k8, k15, k26, kL, kLn, kP, kE, kEm, kn⟩ := id hS
  refine lv_aload_n hx hb dX10_let_0 rfl (lv_at hl 0 rfl) ?_
  refine lv_iload_n hx hb dX10_let_1 rfl (lv_at hl 1 rfl) ?_
  refine z_call (va_runV (As := [.int x]) (rest := []) ⟨hx, hb, hml, hown, hts⟩ (c_X10_isHome l D cT _ _ S X _ _ _ nn x hM hXI hS ) (cwV 1 hts gX10_let_X10_isHome rfl rfl rfl (by decide +kernel) ⟨(Nat.le_of_ble_eq_true rfl), (Nat.le_of_ble_eq_true rfl)⟩) (z_preV hK hE hZ hA (ci := 10) rfl m0) rfl rfl hl.1 rfl (lv_room (Nat.le_of_ble_eq_true rfl)) dX10_let_2 ⟨(Nat.le_of_ble_eq_true rfl), (Nat.le_of_ble_eq_true rfl)⟩) hZ hA (fun r G2 H locs hq hZ => ?_)
  obtain ⟨hg, rfl⟩ := hq
  replace hg := hg.symm
  subst hg
  refine W.eq (g2 := F0 m 5 ls [.int (if 0 ≤ x ∧ x ≤ nI (S.1 1 0) - 1 then 1 else 0)]) rfl ?_
  refine zb_eq (tgt := 19) hx hb dX10_let_5 (by decide) (fun c5 => ?_) (fun c5 => ?_)
  · have hh := hix_no (S := S) c5
    refine lv_iconst (v := (-1)) hx hb dX10_let_19 (by decide) ?_
    exact z_iret hx hb hr hlocks hZ dX10_let_20 (mQ_of (by rw [sp_let, hh]) ⟨_, _, _, hM⟩)
  · obtain ⟨j, hj, hxj, hh⟩ := hix_yes k1 c5
    refine lv_iload_n hx hb dX10_let_8 rfl (lv_at hl 2 rfl) ?_
    refine lv_iconst (v := 1) hx hb dX10_let_9 (by decide) ?_
    refine lv_sipush (v := 5000) hx hb dX10_let_10 (by decide) ?_
    refine z_call (va_runS (As := [.int r, .int 1, .int 5000]) (rest := []) ⟨hx, hb, hml, hown, hts⟩ (c_X10_in l D cT _ _ r 1 5000) (va_cwS 3 hts gX10_let_X10_in rfl rfl rfl (by decide +kernel) ⟨(Nat.le_of_ble_eq_true rfl), (Nat.le_of_ble_eq_true rfl)⟩) (z_preS hK hE hZ hA) rfl rfl hl.1 rfl (lv_room (Nat.le_of_ble_eq_true rfl)) dX10_let_13 ⟨(Nat.le_of_ble_eq_true rfl), (Nat.le_of_ble_eq_true rfl)⟩) hZ hA (fun r G13 H locs hq hZ => ?_)
    obtain ⟨hg, rfl⟩ := hq
    replace hg := hg.symm
    subst hg
    refine W.eq (g2 := F0 m 16 ls [.int (if 1 ≤ r ∧ r ≤ 5000 then 1 else 0)]) rfl ?_
    refine zb_ne (tgt := 21) hx hb dX10_let_16 (by decide) (fun c16 => ?_) (fun c16 => ?_)
    · refine lv_aload_n hx hb dX10_let_21 rfl (lv_at hl 0 rfl) ?_
      refine z_get (ci := 10) (fs := [.int (nI (S.1 0 0)), .int (nI (S.1 1 0)), .ref (X 2), .ref (X 3), .ref (X 4), .ref (X 5), .ref (X 6), .long S.2.2, .ref (X 8), .ref (X 9), .int (nI (S.1 10 0)), .ref (X 11), .ref (X 12), .ref (X 13), .ref (X 14), .ref (X 15), .ref (X 16), .ref (X 17), .ref (X 18), .ref (X 19), .int (nI (S.1 20 0)), .ref (X 21), .ref (X 22), .ref (X 23), .ref (X 24), .ref (X 25), .ref (X 26), .ref (X 27), .int cz, .ref (X 29)]) (C := RX10) (T := TX10) (N := 30) hx hb hts in_X10 hown hK hZ m0 rfl 16 (by decide) fl_47 (fun _ h9 => h9) rfl dX10_let_22 ?_
      refine lv_iload_n hx hb dX10_let_25 rfl (lv_at hl 1 rfl) ?_
      refine lv_aload_n hx hb dX10_let_26 rfl (lv_at hl 0 rfl) ?_
      refine z_get (ci := 10) (fs := [.int (nI (S.1 0 0)), .int (nI (S.1 1 0)), .ref (X 2), .ref (X 3), .ref (X 4), .ref (X 5), .ref (X 6), .long S.2.2, .ref (X 8), .ref (X 9), .int (nI (S.1 10 0)), .ref (X 11), .ref (X 12), .ref (X 13), .ref (X 14), .ref (X 15), .ref (X 16), .ref (X 17), .ref (X 18), .ref (X 19), .int (nI (S.1 20 0)), .ref (X 21), .ref (X 22), .ref (X 23), .ref (X 24), .ref (X 25), .ref (X 26), .ref (X 27), .int cz, .ref (X 29)]) (C := RX10) (T := TX10) (N := 30) hx hb hts in_X10 hown hK hZ m0 rfl 0 (by decide) fl_107 (fun _ h9 => h9) rfl dX10_let_27 ?_
      refine z_iast hx hb hK hZ m16 j hxj (by omega) (by decide) dX10_let_30 (fun H locs hZ => ?_)
      refine lv_aload_n hx hb dX10_let_31 rfl (lv_at hl 0 rfl) ?_
      refine z_get (ci := 10) (fs := [.int (nI (S.1 0 0)), .int (nI (S.1 1 0)), .ref (X 2), .ref (X 3), .ref (X 4), .ref (X 5), .ref (X 6), .long S.2.2, .ref (X 8), .ref (X 9), .int (nI (S.1 10 0)), .ref (X 11), .ref (X 12), .ref (X 13), .ref (X 14), .ref (X 15), .ref (X 16), .ref (X 17), .ref (X 18), .ref (X 19), .int (nI (S.1 20 0)), .ref (X 21), .ref (X 22), .ref (X 23), .ref (X 24), .ref (X 25), .ref (X 26), .ref (X 27), .int cz, .ref (X 29)]) (C := RX10) (T := TX10) (N := 30) hx hb hts in_X10 hown hK hZ ((va_up_ne _ _ (fun q => absurd (hXI 0 16 (by decide) (by decide) q) (by decide))).trans m0) rfl 17 (by decide) fl_50 (fun _ h9 => h9) rfl dX10_let_32 ?_
      refine lv_iload_n hx hb dX10_let_35 rfl (lv_at hl 1 rfl) ?_
      refine lv_iload_n hx hb dX10_let_36 rfl (lv_at hl 2 rfl) ?_
      refine z_iast hx hb hK hZ ((va_up_ne _ _ (fun q => absurd (hXI 17 16 (by decide) (by decide) q) (by decide))).trans m17) j hxj (by omega) (by decide) dX10_let_37 (fun H locs hZ => ?_)
      refine lv_aload_n hx hb dX10_let_38 rfl (lv_at hl 0 rfl) ?_
      refine z_get (ci := 10) (fs := [.int (nI (S.1 0 0)), .int (nI (S.1 1 0)), .ref (X 2), .ref (X 3), .ref (X 4), .ref (X 5), .ref (X 6), .long S.2.2, .ref (X 8), .ref (X 9), .int (nI (S.1 10 0)), .ref (X 11), .ref (X 12), .ref (X 13), .ref (X 14), .ref (X 15), .ref (X 16), .ref (X 17), .ref (X 18), .ref (X 19), .int (nI (S.1 20 0)), .ref (X 21), .ref (X 22), .ref (X 23), .ref (X 24), .ref (X 25), .ref (X 26), .ref (X 27), .int cz, .ref (X 29)]) (C := RX10) (T := TX10) (N := 30) hx hb hts in_X10 hown hK hZ ((va_up_ne _ _ (fun q => absurd (hXI 0 17 (by decide) (by decide) q) (by decide))).trans ((va_up_ne _ _ (fun q => absurd (hXI 0 16 (by decide) (by decide) q) (by decide))).trans m0)) rfl 18 (by decide) fl_53 (fun _ h9 => h9) rfl dX10_let_39 ?_
      refine lv_iload_n hx hb dX10_let_42 rfl (lv_at hl 1 rfl) ?_
      refine lv_dup2_11 hx hb dX10_let_43 rfl rfl ?_
      refine z_iald hx hb hK hZ ((va_up_ne _ _ (fun q => absurd (hXI 18 17 (by decide) (by decide) q) (by decide))).trans ((va_up_ne _ _ (fun q => absurd (hXI 18 16 (by decide) (by decide) q) (by decide))).trans m18)) j hxj (by omega) (by decide) dX10_let_44 ?_
      refine lv_iconst (v := 1) hx hb dX10_let_45 (by decide) ?_
      refine lv_iadd hx hb dX10_let_46 ?_
      refine W.eq (congrArg (fun v => F0 m 47 ls (.int v :: [.int x, .ref (X 18)])) (show _ = nI (S.1 18 j + 1) from nI_1 _)) ?_
      refine W.eq (g2 := F0 m 47 ls [.int (nI (S.1 18 j + 1)), .int x, .ref (X 18)]) rfl ?_
      refine z_iast hx hb hK hZ ((va_up_ne _ _ (fun q => absurd (hXI 18 17 (by decide) (by decide) q) (by decide))).trans ((va_up_ne _ _ (fun q => absurd (hXI 18 16 (by decide) (by decide) q) (by decide))).trans m18)) j hxj (by omega) (by decide) dX10_let_47 (fun H locs hZ => ?_)
      refine lv_iconst (v := 0) hx hb dX10_let_48 (by decide) ?_
      refine lv_istore_n (lv' := [(3, .int 0), (0, .ref (X 0)), (1, .int x), (2, .int r)]) hx hb dX10_let_49 rfl hl (by decide) rfl (fun ls hl => ?_)
      obtain ⟨S1, hS1⟩ : ∃ S1 : zS, S1 = sN (sG (sN S 16 j (S.1 0 0)) 17 j r) 18 j (S.1 18 j + 1) := ⟨_, rfl⟩
      have hMS : MD cT (sZk S1 j 0) X cz f27 f29 (va_up (va_up (va_up G (X 16) (some (.inl (cT 0, 8, .inl (upd (cL S) j (nI (S.1 0 0))))))) (X 17) (some (.inl (cT 0, 8, .inl (upd (S.2.1 17) j r))))) (X 18) (some (.inl (cT 0, 8, .inl (upd (cN S 18) j (nI (S.1 18 j + 1))))))) := by subst hS1; exact ⟨((va_up_ne _ _ (fun q => absurd (hXI 0 18 (by decide) (by decide) q) (by decide))).trans ((va_up_ne _ _ (fun q => absurd (hXI 0 17 (by decide) (by decide) q) (by decide))).trans ((va_up_ne _ _ (fun q => absurd (hXI 0 16 (by decide) (by decide) q) (by decide))).trans m0))), ((va_up_ne _ _ (fun q => absurd (hXI 2 18 (by decide) (by decide) q) (by decide))).trans ((va_up_ne _ _ (fun q => absurd (hXI 2 17 (by decide) (by decide) q) (by decide))).trans ((va_up_ne _ _ (fun q => absurd (hXI 2 16 (by decide) (by decide) q) (by decide))).trans m2))), ((va_up_ne _ _ (fun q => absurd (hXI 3 18 (by decide) (by decide) q) (by decide))).trans ((va_up_ne _ _ (fun q => absurd (hXI 3 17 (by decide) (by decide) q) (by decide))).trans ((va_up_ne _ _ (fun q => absurd (hXI 3 16 (by decide) (by decide) q) (by decide))).trans m3))), ((va_up_ne _ _ (fun q => absurd (hXI 4 18 (by decide) (by decide) q) (by decide))).trans ((va_up_ne _ _ (fun q => absurd (hXI 4 17 (by decide) (by decide) q) (by decide))).trans ((va_up_ne _ _ (fun q => absurd (hXI 4 16 (by decide) (by decide) q) (by decide))).trans m4))), ((va_up_ne _ _ (fun q => absurd (hXI 5 18 (by decide) (by decide) q) (by decide))).trans ((va_up_ne _ _ (fun q => absurd (hXI 5 17 (by decide) (by decide) q) (by decide))).trans ((va_up_ne _ _ (fun q => absurd (hXI 5 16 (by decide) (by decide) q) (by decide))).trans m5))), ((va_up_ne _ _ (fun q => absurd (hXI 6 18 (by decide) (by decide) q) (by decide))).trans ((va_up_ne _ _ (fun q => absurd (hXI 6 17 (by decide) (by decide) q) (by decide))).trans ((va_up_ne _ _ (fun q => absurd (hXI 6 16 (by decide) (by decide) q) (by decide))).trans m6))), ((va_up_ne _ _ (fun q => absurd (hXI 8 18 (by decide) (by decide) q) (by decide))).trans ((va_up_ne _ _ (fun q => absurd (hXI 8 17 (by decide) (by decide) q) (by decide))).trans ((va_up_ne _ _ (fun q => absurd (hXI 8 16 (by decide) (by decide) q) (by decide))).trans m8))), ((va_up_ne _ _ (fun q => absurd (hXI 9 18 (by decide) (by decide) q) (by decide))).trans ((va_up_ne _ _ (fun q => absurd (hXI 9 17 (by decide) (by decide) q) (by decide))).trans ((va_up_ne _ _ (fun q => absurd (hXI 9 16 (by decide) (by decide) q) (by decide))).trans m9))), ((va_up_ne _ _ (fun q => absurd (hXI 11 18 (by decide) (by decide) q) (by decide))).trans ((va_up_ne _ _ (fun q => absurd (hXI 11 17 (by decide) (by decide) q) (by decide))).trans ((va_up_ne _ _ (fun q => absurd (hXI 11 16 (by decide) (by decide) q) (by decide))).trans m11))), ((va_up_ne _ _ (fun q => absurd (hXI 12 18 (by decide) (by decide) q) (by decide))).trans ((va_up_ne _ _ (fun q => absurd (hXI 12 17 (by decide) (by decide) q) (by decide))).trans ((va_up_ne _ _ (fun q => absurd (hXI 12 16 (by decide) (by decide) q) (by decide))).trans m12))), ((va_up_ne _ _ (fun q => absurd (hXI 13 18 (by decide) (by decide) q) (by decide))).trans ((va_up_ne _ _ (fun q => absurd (hXI 13 17 (by decide) (by decide) q) (by decide))).trans ((va_up_ne _ _ (fun q => absurd (hXI 13 16 (by decide) (by decide) q) (by decide))).trans m13))), ((va_up_ne _ _ (fun q => absurd (hXI 14 18 (by decide) (by decide) q) (by decide))).trans ((va_up_ne _ _ (fun q => absurd (hXI 14 17 (by decide) (by decide) q) (by decide))).trans ((va_up_ne _ _ (fun q => absurd (hXI 14 16 (by decide) (by decide) q) (by decide))).trans m14))), ((va_up_ne _ _ (fun q => absurd (hXI 15 18 (by decide) (by decide) q) (by decide))).trans ((va_up_ne _ _ (fun q => absurd (hXI 15 17 (by decide) (by decide) q) (by decide))).trans ((va_up_ne _ _ (fun q => absurd (hXI 15 16 (by decide) (by decide) q) (by decide))).trans m15))), (((va_up_ne _ _ (fun q => absurd (hXI 16 18 (by decide) (by decide) q) (by decide))).trans ((va_up_ne _ _ (fun q => absurd (hXI 16 17 (by decide) (by decide) q) (by decide))).trans (va_up_self _ _ _))).trans (congrArg (fun f => some (Sum.inl (cT 0, 8, Sum.inl f))) (cL_let S j r))), (((va_up_ne _ _ (fun q => absurd (hXI 17 18 (by decide) (by decide) q) (by decide))).trans (va_up_self _ _ _)).trans (congrArg (fun f => some (Sum.inl (cT 0, 8, Sum.inl f))) (cG_sG S 17 _ _))), ((va_up_self _ _ _).trans (congrArg (fun f => some (Sum.inl (cT 0, 8, Sum.inl f))) (cN_sN S 18 _ _))), (((va_up_ne _ _ (fun q => absurd (hXI 19 18 (by decide) (by decide) q) (by decide))).trans ((va_up_ne _ _ (fun q => absurd (hXI 19 17 (by decide) (by decide) q) (by decide))).trans ((va_up_ne _ _ (fun q => absurd (hXI 19 16 (by decide) (by decide) q) (by decide))).trans m19))).trans (congrArg (fun f => some (Sum.inl (cT 0, 2408, Sum.inl f))) (sZk_0 _ j))), ((va_up_ne _ _ (fun q => absurd (hXI 21 18 (by decide) (by decide) q) (by decide))).trans ((va_up_ne _ _ (fun q => absurd (hXI 21 17 (by decide) (by decide) q) (by decide))).trans ((va_up_ne _ _ (fun q => absurd (hXI 21 16 (by decide) (by decide) q) (by decide))).trans m21))), ((va_up_ne _ _ (fun q => absurd (hXI 22 18 (by decide) (by decide) q) (by decide))).trans ((va_up_ne _ _ (fun q => absurd (hXI 22 17 (by decide) (by decide) q) (by decide))).trans ((va_up_ne _ _ (fun q => absurd (hXI 22 16 (by decide) (by decide) q) (by decide))).trans m22))), ((va_up_ne _ _ (fun q => absurd (hXI 23 18 (by decide) (by decide) q) (by decide))).trans ((va_up_ne _ _ (fun q => absurd (hXI 23 17 (by decide) (by decide) q) (by decide))).trans ((va_up_ne _ _ (fun q => absurd (hXI 23 16 (by decide) (by decide) q) (by decide))).trans m23))), ((va_up_ne _ _ (fun q => absurd (hXI 24 18 (by decide) (by decide) q) (by decide))).trans ((va_up_ne _ _ (fun q => absurd (hXI 24 17 (by decide) (by decide) q) (by decide))).trans ((va_up_ne _ _ (fun q => absurd (hXI 24 16 (by decide) (by decide) q) (by decide))).trans m24))), ((va_up_ne _ _ (fun q => absurd (hXI 25 18 (by decide) (by decide) q) (by decide))).trans ((va_up_ne _ _ (fun q => absurd (hXI 25 17 (by decide) (by decide) q) (by decide))).trans ((va_up_ne _ _ (fun q => absurd (hXI 25 16 (by decide) (by decide) q) (by decide))).trans m25))), ((va_up_ne _ _ (fun q => absurd (hXI 26 18 (by decide) (by decide) q) (by decide))).trans ((va_up_ne _ _ (fun q => absurd (hXI 26 17 (by decide) (by decide) q) (by decide))).trans ((va_up_ne _ _ (fun q => absurd (hXI 26 16 (by decide) (by decide) q) (by decide))).trans m26))), ((va_up_ne _ _ (fun q => absurd (hXI 27 18 (by decide) (by decide) q) (by decide))).trans ((va_up_ne _ _ (fun q => absurd (hXI 27 17 (by decide) (by decide) q) (by decide))).trans ((va_up_ne _ _ (fun q => absurd (hXI 27 16 (by decide) (by decide) q) (by decide))).trans m27))), ((va_up_ne _ _ (fun q => absurd (hXI 29 18 (by decide) (by decide) q) (by decide))).trans ((va_up_ne _ _ (fun q => absurd (hXI 29 17 (by decide) (by decide) q) (by decide))).trans ((va_up_ne _ _ (fun q => absurd (hXI 29 16 (by decide) (by decide) q) (by decide))).trans m29)))⟩
      have loop50 : ∀ (q k : Nat) (G1 : zG) (hq : k + q = 301) (hM1 : MD cT (sZk S1 j k) X cz f27 f29 G1) (H : Heap) (locs : List Loc) (ls : Array Slot), zW D (zA G sz) s.heap G1 H locs → lv_has ls 4 [(3, .int (nI k)), (0, .ref (X 0)), (1, .int x), (2, .int r)] → W p l e (zR 2 0 0) s m ([.ref (X 0), .int x, .int r] : List Value).toArray below meth c H locs 0 0 (MQ below (zQ D G sz (mQ cT X (sp_let S x r))) ([.ref (X 0), .int x, .int r] : List Value).toArray s 0 0 (zA G sz)) (F0 m 50 ls []) := by
        intro q
        induction q with
        | zero =>
          intro k G1 hq hM1 H locs ls hZ hl
          obtain ⟨m0, m2, m3, m4, m5, m6, m8, m9, m11, m12, m13, m14, m15, m16, m17, m18, m19, m21, m22, m23, m24, m25, m26, m27, m29⟩ := id hM1
          refine lv_iload_n hx hb dX10_let_50 rfl (lv_at hl 0 rfl) ?_
          refine lv_sipush (v := 300) hx hb dX10_let_51 (by decide) ?_
          refine lv_icmp_gt (tgt := 76) hx hb dX10_let_54 (by decide) (fun _ => ?_) (fun c54 => absurd (by rw [show k = 301 by omega]; decide) c54)
          refine lv_iconst (v := 1) hx hb dX10_let_76 (by decide) ?_
          exact z_iret hx hb hr hlocks hZ dX10_let_77 (let_end hh c16 hS1 (by omega) hM1)
        | succ q ih50 =>
          intro k G1 hq hM1 H locs ls hZ hl
          obtain ⟨m0, m2, m3, m4, m5, m6, m8, m9, m11, m12, m13, m14, m15, m16, m17, m18, m19, m21, m22, m23, m24, m25, m26, m27, m29⟩ := id hM1
          refine lv_iload_n hx hb dX10_let_50 rfl (lv_at hl 0 rfl) ?_
          refine lv_sipush (v := 300) hx hb dX10_let_51 (by decide) ?_
          refine lv_icmp_gt (tgt := 76) hx hb dX10_let_54 (by decide) (fun c54 => absurd c54 (nI_nlt (a := 300) (b := k) (by omega) (by decide))) (fun _ => ?_)
          refine lv_aload_n hx hb dX10_let_57 rfl (lv_at hl 1 rfl) ?_
          refine z_get (ci := 10) (fs := [.int (nI ((sZk S1 j k).1 0 0)), .int (nI ((sZk S1 j k).1 1 0)), .ref (X 2), .ref (X 3), .ref (X 4), .ref (X 5), .ref (X 6), .long ((sZk S1 j k).2.2), .ref (X 8), .ref (X 9), .int (nI ((sZk S1 j k).1 10 0)), .ref (X 11), .ref (X 12), .ref (X 13), .ref (X 14), .ref (X 15), .ref (X 16), .ref (X 17), .ref (X 18), .ref (X 19), .int (nI ((sZk S1 j k).1 20 0)), .ref (X 21), .ref (X 22), .ref (X 23), .ref (X 24), .ref (X 25), .ref (X 26), .ref (X 27), .int cz, .ref (X 29)]) (C := RX10) (T := TX10) (N := 30) hx hb hts in_X10 hown hK hZ m0 rfl 19 (by decide) fl_56 (fun _ h9 => h9) rfl dX10_let_58 ?_
          refine lv_sipush (v := 301) hx hb dX10_let_61 (by decide) ?_
          refine lv_iload_n hx hb dX10_let_64 rfl (lv_at hl 2 rfl) ?_
          refine lv_imul hx hb dX10_let_65 ?_
          refine lv_iload_n hx hb dX10_let_66 rfl (lv_at hl 0 rfl) ?_
          refine lv_iadd hx hb dX10_let_67 ?_
          refine lv_iconst (v := 0) hx hb dX10_let_68 (by decide) ?_
          refine z_iast hx hb hK hZ m19 (301 * j + k) (pd_ix hxj k) (by omega) (by decide) dX10_let_69 (fun H locs hZ => ?_)
          refine lv_iinc (v := nI (k + 1)) (lv' := [(3, .int (nI (k + 1))), (0, .ref (X 0)), (1, .int x), (2, .int r)]) hx hb dX10_let_70 hl (k := 0) rfl (nI_1 k) (by decide) rfl (fun ls hl => ?_)
          refine lv_goto (tgt := 50) hx hb dX10_let_73 (by decide) ?_
          exact ih50 (k + 1) _ (by omega) ⟨((va_up_ne _ _ (fun q => absurd (hXI 0 19 (by decide) (by decide) q) (by decide))).trans m0), ((va_up_ne _ _ (fun q => absurd (hXI 2 19 (by decide) (by decide) q) (by decide))).trans m2), ((va_up_ne _ _ (fun q => absurd (hXI 3 19 (by decide) (by decide) q) (by decide))).trans m3), ((va_up_ne _ _ (fun q => absurd (hXI 4 19 (by decide) (by decide) q) (by decide))).trans m4), ((va_up_ne _ _ (fun q => absurd (hXI 5 19 (by decide) (by decide) q) (by decide))).trans m5), ((va_up_ne _ _ (fun q => absurd (hXI 6 19 (by decide) (by decide) q) (by decide))).trans m6), ((va_up_ne _ _ (fun q => absurd (hXI 8 19 (by decide) (by decide) q) (by decide))).trans m8), ((va_up_ne _ _ (fun q => absurd (hXI 9 19 (by decide) (by decide) q) (by decide))).trans m9), ((va_up_ne _ _ (fun q => absurd (hXI 11 19 (by decide) (by decide) q) (by decide))).trans m11), ((va_up_ne _ _ (fun q => absurd (hXI 12 19 (by decide) (by decide) q) (by decide))).trans m12), ((va_up_ne _ _ (fun q => absurd (hXI 13 19 (by decide) (by decide) q) (by decide))).trans m13), ((va_up_ne _ _ (fun q => absurd (hXI 14 19 (by decide) (by decide) q) (by decide))).trans m14), ((va_up_ne _ _ (fun q => absurd (hXI 15 19 (by decide) (by decide) q) (by decide))).trans m15), ((va_up_ne _ _ (fun q => absurd (hXI 16 19 (by decide) (by decide) q) (by decide))).trans m16), ((va_up_ne _ _ (fun q => absurd (hXI 17 19 (by decide) (by decide) q) (by decide))).trans m17), ((va_up_ne _ _ (fun q => absurd (hXI 18 19 (by decide) (by decide) q) (by decide))).trans m18), ((va_up_self _ _ _).trans (congrArg (fun f => some (Sum.inl (cT 0, 2408, Sum.inl f))) (sZk_s S1 j k))), ((va_up_ne _ _ (fun q => absurd (hXI 21 19 (by decide) (by decide) q) (by decide))).trans m21), ((va_up_ne _ _ (fun q => absurd (hXI 22 19 (by decide) (by decide) q) (by decide))).trans m22), ((va_up_ne _ _ (fun q => absurd (hXI 23 19 (by decide) (by decide) q) (by decide))).trans m23), ((va_up_ne _ _ (fun q => absurd (hXI 24 19 (by decide) (by decide) q) (by decide))).trans m24), ((va_up_ne _ _ (fun q => absurd (hXI 25 19 (by decide) (by decide) q) (by decide))).trans m25), ((va_up_ne _ _ (fun q => absurd (hXI 26 19 (by decide) (by decide) q) (by decide))).trans m26), ((va_up_ne _ _ (fun q => absurd (hXI 27 19 (by decide) (by decide) q) (by decide))).trans m27), ((va_up_ne _ _ (fun q => absurd (hXI 29 19 (by decide) (by decide) q) (by decide))).trans m29)⟩ _ _ _ hZ (lv_sub hl [0, 1, 2, 3] rfl)
      exact loop50 301 0 _ (by omega) hMS _ _ _ hZ (lv_sub hl [0, 1, 2, 3] rfl)
    · refine lv_iconst (v := (-1)) hx hb dX10_let_19 (by decide) ?_
      exact z_iret hx hb hr hlocks hZ dX10_let_20 (mQ_of (by rw [sp_let, hh]; simp only []; rw [if_neg c16]) ⟨_, _, _, hM⟩)

set_option maxHeartbeats 4000000 in
set_option maxRecDepth 100000 in
theorem c_X10_paidBy (l : Launch) (D : va_G) (cT : Nat → ClassId) (G : zG) (sz : Nat) (S : zS) (X : Nat → Nat) (cz : Int32) (f27 f29 : Nat → Int32) (nn : Nat) (x y : Int32) (j t : Nat) (hM : MD cT S X cz f27 f29 G) (hXI : XI X) (hS : ok S nn) (hj : j < S.1 1 0) (hxj : x = nI j) (ht : t ≤ 300) (hyt : y = nI t) : zM l D cT yX10_paidBy wsX10_paidBy (zR 0 0 0) [.ref (X 0), .int x, .int y] G sz (fun r G' => G' = G ∧ r = some (.int (psum (fun d => S.2.1 19 (301 * j + d)) (t + 1)))) := by
  refine z_start (cc := cX10_paidBy) (maxL := 5) (ret := (some .int)) (by decide) rfl (Nat.le_of_ble_eq_true rfl) ?_
  intro p e s m below meth c ls hI hZ hl
  obtain ⟨hx, hb, hr, hml, hts, hown, hlocks, hname, hK, hA, hE⟩ := hI
  have hl : lv_has ls 5 [(0, .ref (X 0)), (1, .int x), (2, .int y)] := hl
  have hown : s.vm.findClass RX10 = some m.cls := hown
  have in_X10 : ∀ w ∈ u_ws RX10 TX10 30, w ∈ wsX10_paidBy := by decide +kernel
  have fl_56 := hts (.fieldLink RX10 56 "FairRentsModel" "paid" "[I") (by decide +kernel)
  obtain ⟨m0, m2, m3, m4, m5, m6, m8, m9, m11, m12, m13, m14, m15, m16, m17, m18, m19, m21, m22, m23, m24, m25, m26, m27, m29⟩ := id hM
  obtain ⟨⟨k1, k10, k20, k0⟩, kH, k9, k8, k15, k26, kL, kLn, kP, kE, kEm, kn⟩ := id hS
  refine lv_iconst (v := 0) hx hb dX10_paidBy_0 (by decide) ?_
  refine lv_istore_n (lv' := [(3, .int 0), (0, .ref (X 0)), (1, .int x), (2, .int y)]) hx hb dX10_paidBy_1 rfl hl (by decide) rfl (fun ls hl => ?_)
  refine lv_iconst (v := 0) hx hb dX10_paidBy_2 (by decide) ?_
  refine lv_istore (lv' := [(4, .int 0), (3, .int 0), (0, .ref (X 0)), (1, .int x), (2, .int y)]) hx hb dX10_paidBy_3 hl (by decide) rfl (fun ls hl => ?_)
  have loop5 : ∀ (q k : Nat) (hq : k + q = t + 1) (H : Heap) (locs : List Loc) (ls : Array Slot), zW D (zA G sz) s.heap G H locs → lv_has ls 5 [(4, .int (nI k)), (3, .int (psum (fun d => S.2.1 19 (301 * j + d)) k)), (0, .ref (X 0)), (1, .int x), (2, .int y)] → W p l e (zR 0 0 0) s m ([.ref (X 0), .int x, .int y] : List Value).toArray below meth c H locs 0 0 (MQ below (zQ D G sz (fun r G' => G' = G ∧ r = some (.int (psum (fun d => S.2.1 19 (301 * j + d)) (t + 1))))) ([.ref (X 0), .int x, .int y] : List Value).toArray s 0 0 (zA G sz)) (F0 m 5 ls []) := by
    intro q
    induction q with
    | zero =>
      intro k hq H locs ls hZ hl
      refine lv_iload hx hb dX10_paidBy_5 (lv_at hl 0 rfl) ?_
      refine lv_iload_n hx hb dX10_paidBy_7 rfl (lv_at hl 4 rfl) ?_
      refine lv_icmp_gt (tgt := 33) hx hb dX10_paidBy_8 (by decide) (fun _ => ?_) (fun c8 => absurd (by rw [hyt]; exact nI_lt (by omega) (by omega)) c8)
      refine lv_iload_n hx hb dX10_paidBy_33 rfl (lv_at hl 1 rfl) ?_
      exact z_iret hx hb hr hlocks hZ dX10_paidBy_34 (⟨rfl, by rw [show t + 1 = k by omega]⟩)
    | succ q ih5 =>
      intro k hq H locs ls hZ hl
      refine lv_iload hx hb dX10_paidBy_5 (lv_at hl 0 rfl) ?_
      refine lv_iload_n hx hb dX10_paidBy_7 rfl (lv_at hl 4 rfl) ?_
      refine lv_icmp_gt (tgt := 33) hx hb dX10_paidBy_8 (by decide) (fun c8 => absurd c8 (by rw [hyt]; exact nI_nlt (by omega) (by omega))) (fun _ => ?_)
      refine lv_iload_n hx hb dX10_paidBy_11 rfl (lv_at hl 1 rfl) ?_
      refine lv_aload_n hx hb dX10_paidBy_12 rfl (lv_at hl 2 rfl) ?_
      refine z_get (ci := 10) (fs := [.int (nI (S.1 0 0)), .int (nI (S.1 1 0)), .ref (X 2), .ref (X 3), .ref (X 4), .ref (X 5), .ref (X 6), .long S.2.2, .ref (X 8), .ref (X 9), .int (nI (S.1 10 0)), .ref (X 11), .ref (X 12), .ref (X 13), .ref (X 14), .ref (X 15), .ref (X 16), .ref (X 17), .ref (X 18), .ref (X 19), .int (nI (S.1 20 0)), .ref (X 21), .ref (X 22), .ref (X 23), .ref (X 24), .ref (X 25), .ref (X 26), .ref (X 27), .int cz, .ref (X 29)]) (C := RX10) (T := TX10) (N := 30) hx hb hts in_X10 hown hK hZ m0 rfl 19 (by decide) fl_56 (fun _ h9 => h9) rfl dX10_paidBy_13 ?_
      refine lv_sipush (v := 301) hx hb dX10_paidBy_16 (by decide) ?_
      refine lv_iload_n hx hb dX10_paidBy_19 rfl (lv_at hl 3 rfl) ?_
      refine lv_imul hx hb dX10_paidBy_20 ?_
      refine lv_iload hx hb dX10_paidBy_21 (lv_at hl 0 rfl) ?_
      refine lv_iadd hx hb dX10_paidBy_23 ?_
      refine z_iald hx hb hK hZ m19 (301 * j + k) (pd_ix hxj k) (by omega) (by decide) dX10_paidBy_24 ?_
      refine lv_iadd hx hb dX10_paidBy_25 ?_
      refine W.eq (congrArg (fun v => F0 m 26 ls (.int v :: [])) (show _ = psum (fun d => S.2.1 19 (301 * j + d)) (k + 1) from rfl)) ?_
      refine W.eq (g2 := F0 m 26 ls [.int (psum (fun d => S.2.1 19 (301 * j + d)) (k + 1))]) rfl ?_
      refine lv_istore_n (lv' := [(3, .int (psum (fun d => S.2.1 19 (301 * j + d)) (k + 1))), (4, .int (nI k)), (0, .ref (X 0)), (1, .int x), (2, .int y)]) hx hb dX10_paidBy_26 rfl hl (by decide) rfl (fun ls hl => ?_)
      refine lv_iinc (v := nI (k + 1)) (lv' := [(4, .int (nI (k + 1))), (3, .int (psum (fun d => S.2.1 19 (301 * j + d)) (k + 1))), (0, .ref (X 0)), (1, .int x), (2, .int y)]) hx hb dX10_paidBy_27 hl (k := 1) rfl (nI_1 k) (by decide) rfl (fun ls hl => ?_)
      refine lv_goto (tgt := 5) hx hb dX10_paidBy_30 (by decide) ?_
      exact ih5 (k + 1) (by omega) _ _ _ hZ (lv_sub hl [0, 1, 2, 3, 4] rfl)
  exact loop5 (t + 1) 0 (by omega) _ _ _ hZ (lv_sub hl [0, 1, 2, 3, 4] rfl)

set_option maxHeartbeats 4000000 in
set_option maxRecDepth 100000 in
theorem c_X10_pay (l : Launch) (D : va_G) (cT : Nat → ClassId) (G : zG) (sz : Nat) (S : zS) (X : Nat → Nat) (cz : Int32) (f27 f29 : Nat → Int32) (nn : Nat) (x v : Int32) (hM : MD cT S X cz f27 f29 G) (hXI : XI X) (hS : ok S nn)  : zM l D cT yX10_pay wsX10_pay (zR 2 0 0) [.ref (X 0), .int x, .int v] G sz (mQ cT X (sp_pay S x v)) := by
  refine z_start (cc := cX10_pay) (maxL := 4) (ret := (some .int)) (by decide) rfl (Nat.le_of_ble_eq_true rfl) ?_
  intro p e s m below meth c ls hI hZ hl
  obtain ⟨hx, hb, hr, hml, hts, hown, hlocks, hname, hK, hA, hE⟩ := hI
  have hl : lv_has ls 4 [(0, .ref (X 0)), (1, .int x), (2, .int v)] := hl
  have hown : s.vm.findClass RX10 = some m.cls := hown
  have in_X10 : ∀ w ∈ u_ws RX10 TX10 30, w ∈ wsX10_pay := by decide +kernel
  have fl_47 := hts (.fieldLink RX10 47 "FairRentsModel" "letDay" "[I") (by decide +kernel)
  have fl_56 := hts (.fieldLink RX10 56 "FairRentsModel" "paid" "[I") (by decide +kernel)
  have fl_107 := hts (.fieldLink RX10 107 "FairRentsModel" "today" "I") (by decide +kernel)
  obtain ⟨m0, m2, m3, m4, m5, m6, m8, m9, m11, m12, m13, m14, m15, m16, m17, m18, m19, m21, m22, m23, m24, m25, m26, m27, m29⟩ := id hM
  obtain ⟨⟨k1, k10, k20, k0⟩, kH, k9, k8, k15, k26, kL, kLn, kP, kE, kEm, kn⟩ := id hS
  refine lv_aload_n hx hb dX10_pay_0 rfl (lv_at hl 0 rfl) ?_
  refine lv_iload_n hx hb dX10_pay_1 rfl (lv_at hl 1 rfl) ?_
  refine z_call (va_runV (As := [.int x]) (rest := []) ⟨hx, hb, hml, hown, hts⟩ (c_X10_isHome l D cT _ _ S X _ _ _ nn x hM hXI hS ) (cwV 1 hts gX10_pay_X10_isHome rfl rfl rfl (by decide +kernel) ⟨(Nat.le_of_ble_eq_true rfl), (Nat.le_of_ble_eq_true rfl)⟩) (z_preV hK hE hZ hA (ci := 10) rfl m0) rfl rfl hl.1 rfl (lv_room (Nat.le_of_ble_eq_true rfl)) dX10_pay_2 ⟨(Nat.le_of_ble_eq_true rfl), (Nat.le_of_ble_eq_true rfl)⟩) hZ hA (fun r G2 H locs hq hZ => ?_)
  obtain ⟨hg, rfl⟩ := hq
  replace hg := hg.symm
  subst hg
  refine W.eq (g2 := F0 m 5 ls [.int (if 0 ≤ x ∧ x ≤ nI (S.1 1 0) - 1 then 1 else 0)]) rfl ?_
  refine zb_eq (tgt := 18) hx hb dX10_pay_5 (by decide) (fun c5 => ?_) (fun c5 => ?_)
  · have hh := hix_no (S := S) c5
    refine lv_iconst (v := (-1)) hx hb dX10_pay_18 (by decide) ?_
    exact z_iret hx hb hr hlocks hZ dX10_pay_19 (mQ_of (by rw [sp_pay, hh]) ⟨_, _, _, hM⟩)
  · obtain ⟨j, hj, hxj, hh⟩ := hix_yes k1 c5
    refine lv_iload_n hx hb dX10_pay_8 rfl (lv_at hl 2 rfl) ?_
    refine lv_iconst (v := 0) hx hb dX10_pay_9 (by decide) ?_
    refine lv_ldc (v := 100000) hx hb hown (hts (.constant RX10 144 100000) (by decide +kernel)) dX10_pay_10 ?_
    refine z_call (va_runS (As := [.int v, .int 0, .int 100000]) (rest := []) ⟨hx, hb, hml, hown, hts⟩ (c_X10_in l D cT _ _ v 0 100000) (va_cwS 3 hts gX10_pay_X10_in rfl rfl rfl (by decide +kernel) ⟨(Nat.le_of_ble_eq_true rfl), (Nat.le_of_ble_eq_true rfl)⟩) (z_preS hK hE hZ hA) rfl rfl hl.1 rfl (lv_room (Nat.le_of_ble_eq_true rfl)) dX10_pay_12 ⟨(Nat.le_of_ble_eq_true rfl), (Nat.le_of_ble_eq_true rfl)⟩) hZ hA (fun r G12 H locs hq hZ => ?_)
    obtain ⟨hg, rfl⟩ := hq
    replace hg := hg.symm
    subst hg
    refine W.eq (g2 := F0 m 15 ls [.int (if 0 ≤ v ∧ v ≤ 100000 then 1 else 0)]) rfl ?_
    refine zb_ne (tgt := 20) hx hb dX10_pay_15 (by decide) (fun c15 => ?_) (fun c15 => ?_)
    · refine lv_aload_n hx hb dX10_pay_20 rfl (lv_at hl 0 rfl) ?_
      refine z_get (ci := 10) (fs := [.int (nI (S.1 0 0)), .int (nI (S.1 1 0)), .ref (X 2), .ref (X 3), .ref (X 4), .ref (X 5), .ref (X 6), .long S.2.2, .ref (X 8), .ref (X 9), .int (nI (S.1 10 0)), .ref (X 11), .ref (X 12), .ref (X 13), .ref (X 14), .ref (X 15), .ref (X 16), .ref (X 17), .ref (X 18), .ref (X 19), .int (nI (S.1 20 0)), .ref (X 21), .ref (X 22), .ref (X 23), .ref (X 24), .ref (X 25), .ref (X 26), .ref (X 27), .int cz, .ref (X 29)]) (C := RX10) (T := TX10) (N := 30) hx hb hts in_X10 hown hK hZ m0 rfl 16 (by decide) fl_47 (fun _ h9 => h9) rfl dX10_pay_21 ?_
      refine lv_iload_n hx hb dX10_pay_24 rfl (lv_at hl 1 rfl) ?_
      refine z_iald hx hb hK hZ m16 j hxj (by omega) (by decide) dX10_pay_25 ?_
      refine lv_if_ge (tgt := 32) hx hb dX10_pay_26 (by decide) (fun c26 => ?_) (fun c26 => ?_)
      · have hl18 := cL_pos c26
        refine lv_aload_n hx hb dX10_pay_32 rfl (lv_at hl 0 rfl) ?_
        refine lv_iload_n hx hb dX10_pay_33 rfl (lv_at hl 1 rfl) ?_
        refine lv_aload_n hx hb dX10_pay_34 rfl (lv_at hl 0 rfl) ?_
        refine z_get (ci := 10) (fs := [.int (nI (S.1 0 0)), .int (nI (S.1 1 0)), .ref (X 2), .ref (X 3), .ref (X 4), .ref (X 5), .ref (X 6), .long S.2.2, .ref (X 8), .ref (X 9), .int (nI (S.1 10 0)), .ref (X 11), .ref (X 12), .ref (X 13), .ref (X 14), .ref (X 15), .ref (X 16), .ref (X 17), .ref (X 18), .ref (X 19), .int (nI (S.1 20 0)), .ref (X 21), .ref (X 22), .ref (X 23), .ref (X 24), .ref (X 25), .ref (X 26), .ref (X 27), .int cz, .ref (X 29)]) (C := RX10) (T := TX10) (N := 30) hx hb hts in_X10 hown hK hZ m0 rfl 0 (by decide) fl_107 (fun _ h9 => h9) rfl dX10_pay_35 ?_
        refine z_call (va_runV (As := [.int x, .int (nI (S.1 0 0))]) (rest := []) ⟨hx, hb, hml, hown, hts⟩ (c_X10_paidBy l D cT _ _ S X _ _ _ nn x (nI (S.1 0 0)) j (S.1 0 0) hM hXI hS hj hxj k0 rfl) (cwV 2 hts gX10_pay_X10_paidBy rfl rfl rfl (by decide +kernel) ⟨(Nat.le_of_ble_eq_true rfl), (Nat.le_of_ble_eq_true rfl)⟩) (z_preV hK hE hZ hA (ci := 10) rfl m0) rfl rfl hl.1 rfl (lv_room (Nat.le_of_ble_eq_true rfl)) dX10_pay_38 ⟨(Nat.le_of_ble_eq_true rfl), (Nat.le_of_ble_eq_true rfl)⟩) hZ hA (fun r G38 H locs hq hZ => ?_)
        obtain ⟨hg, rfl⟩ := hq
        replace hg := hg.symm
        subst hg
        refine W.eq (g2 := F0 m 41 ls [.int (psum (fun d => S.2.1 19 (301 * j + d)) ((S.1 0 0) + 1))]) rfl ?_
        refine lv_iload_n hx hb dX10_pay_41 rfl (lv_at hl 2 rfl) ?_
        refine lv_iadd hx hb dX10_pay_42 ?_
        refine lv_istore_n (lv' := [(3, .int ((psum (fun d => S.2.1 19 (301 * j + d)) ((S.1 0 0) + 1)) + v)), (0, .ref (X 0)), (1, .int x), (2, .int v)]) hx hb dX10_pay_43 rfl hl (by decide) rfl (fun ls hl => ?_)
        refine lv_iload_n hx hb dX10_pay_44 rfl (lv_at hl 0 rfl) ?_
        refine lv_ldc (v := 1000000) hx hb hown (hts (.constant RX10 148 1000000) (by decide +kernel)) dX10_pay_45 ?_
        refine lv_icmp_le (tgt := 53) hx hb dX10_pay_47 (by decide) (fun c47 => ?_) (fun c47 => ?_)
        · refine lv_aload_n hx hb dX10_pay_53 rfl (lv_at hl 1 rfl) ?_
          refine z_get (ci := 10) (fs := [.int (nI (S.1 0 0)), .int (nI (S.1 1 0)), .ref (X 2), .ref (X 3), .ref (X 4), .ref (X 5), .ref (X 6), .long S.2.2, .ref (X 8), .ref (X 9), .int (nI (S.1 10 0)), .ref (X 11), .ref (X 12), .ref (X 13), .ref (X 14), .ref (X 15), .ref (X 16), .ref (X 17), .ref (X 18), .ref (X 19), .int (nI (S.1 20 0)), .ref (X 21), .ref (X 22), .ref (X 23), .ref (X 24), .ref (X 25), .ref (X 26), .ref (X 27), .int cz, .ref (X 29)]) (C := RX10) (T := TX10) (N := 30) hx hb hts in_X10 hown hK hZ m0 rfl 19 (by decide) fl_56 (fun _ h9 => h9) rfl dX10_pay_54 ?_
          refine lv_sipush (v := 301) hx hb dX10_pay_57 (by decide) ?_
          refine lv_iload_n hx hb dX10_pay_60 rfl (lv_at hl 2 rfl) ?_
          refine lv_imul hx hb dX10_pay_61 ?_
          refine lv_aload_n hx hb dX10_pay_62 rfl (lv_at hl 1 rfl) ?_
          refine z_get (ci := 10) (fs := [.int (nI (S.1 0 0)), .int (nI (S.1 1 0)), .ref (X 2), .ref (X 3), .ref (X 4), .ref (X 5), .ref (X 6), .long S.2.2, .ref (X 8), .ref (X 9), .int (nI (S.1 10 0)), .ref (X 11), .ref (X 12), .ref (X 13), .ref (X 14), .ref (X 15), .ref (X 16), .ref (X 17), .ref (X 18), .ref (X 19), .int (nI (S.1 20 0)), .ref (X 21), .ref (X 22), .ref (X 23), .ref (X 24), .ref (X 25), .ref (X 26), .ref (X 27), .int cz, .ref (X 29)]) (C := RX10) (T := TX10) (N := 30) hx hb hts in_X10 hown hK hZ m0 rfl 0 (by decide) fl_107 (fun _ h9 => h9) rfl dX10_pay_63 ?_
          refine lv_iadd hx hb dX10_pay_66 ?_
          refine lv_dup2_11 hx hb dX10_pay_67 rfl rfl ?_
          refine z_iald hx hb hK hZ m19 (301 * j + S.1 0 0) (pd_ix hxj _) (by omega) (by decide) dX10_pay_68 ?_
          refine lv_iload_n hx hb dX10_pay_69 rfl (lv_at hl 3 rfl) ?_
          refine lv_iadd hx hb dX10_pay_70 ?_
          refine z_iast hx hb hK hZ m19 (301 * j + S.1 0 0) (pd_ix hxj _) (by omega) (by decide) dX10_pay_71 (fun H locs hZ => ?_)
          refine lv_iload_n hx hb dX10_pay_72 rfl (lv_at hl 0 rfl) ?_
          exact z_iret hx hb hr hlocks hZ dX10_pay_73 (by rw [sp_pay, hh]; simp only []; rw [if_pos c15, if_neg hl18, if_neg (z_nl c47)]; exact ⟨⟨_, _, _, ((va_up_ne _ _ (fun q => absurd (hXI 0 19 (by decide) (by decide) q) (by decide))).trans m0), ((va_up_ne _ _ (fun q => absurd (hXI 2 19 (by decide) (by decide) q) (by decide))).trans m2), ((va_up_ne _ _ (fun q => absurd (hXI 3 19 (by decide) (by decide) q) (by decide))).trans m3), ((va_up_ne _ _ (fun q => absurd (hXI 4 19 (by decide) (by decide) q) (by decide))).trans m4), ((va_up_ne _ _ (fun q => absurd (hXI 5 19 (by decide) (by decide) q) (by decide))).trans m5), ((va_up_ne _ _ (fun q => absurd (hXI 6 19 (by decide) (by decide) q) (by decide))).trans m6), ((va_up_ne _ _ (fun q => absurd (hXI 8 19 (by decide) (by decide) q) (by decide))).trans m8), ((va_up_ne _ _ (fun q => absurd (hXI 9 19 (by decide) (by decide) q) (by decide))).trans m9), ((va_up_ne _ _ (fun q => absurd (hXI 11 19 (by decide) (by decide) q) (by decide))).trans m11), ((va_up_ne _ _ (fun q => absurd (hXI 12 19 (by decide) (by decide) q) (by decide))).trans m12), ((va_up_ne _ _ (fun q => absurd (hXI 13 19 (by decide) (by decide) q) (by decide))).trans m13), ((va_up_ne _ _ (fun q => absurd (hXI 14 19 (by decide) (by decide) q) (by decide))).trans m14), ((va_up_ne _ _ (fun q => absurd (hXI 15 19 (by decide) (by decide) q) (by decide))).trans m15), ((va_up_ne _ _ (fun q => absurd (hXI 16 19 (by decide) (by decide) q) (by decide))).trans m16), ((va_up_ne _ _ (fun q => absurd (hXI 17 19 (by decide) (by decide) q) (by decide))).trans m17), ((va_up_ne _ _ (fun q => absurd (hXI 18 19 (by decide) (by decide) q) (by decide))).trans m18), ((va_up_self _ _ _).trans (congrArg (fun f => some (Sum.inl (cT 0, 2408, Sum.inl f))) (cG_sG S 19 _ _))), ((va_up_ne _ _ (fun q => absurd (hXI 21 19 (by decide) (by decide) q) (by decide))).trans m21), ((va_up_ne _ _ (fun q => absurd (hXI 22 19 (by decide) (by decide) q) (by decide))).trans m22), ((va_up_ne _ _ (fun q => absurd (hXI 23 19 (by decide) (by decide) q) (by decide))).trans m23), ((va_up_ne _ _ (fun q => absurd (hXI 24 19 (by decide) (by decide) q) (by decide))).trans m24), ((va_up_ne _ _ (fun q => absurd (hXI 25 19 (by decide) (by decide) q) (by decide))).trans m25), ((va_up_ne _ _ (fun q => absurd (hXI 26 19 (by decide) (by decide) q) (by decide))).trans m26), ((va_up_ne _ _ (fun q => absurd (hXI 27 19 (by decide) (by decide) q) (by decide))).trans m27), ((va_up_ne _ _ (fun q => absurd (hXI 29 19 (by decide) (by decide) q) (by decide))).trans m29)⟩, rfl⟩)
        · refine lv_bipush (v := (-3)) hx hb dX10_pay_50 (by decide) ?_
          exact z_iret hx hb hr hlocks hZ dX10_pay_52 (mQ_of (by rw [sp_pay, hh]; simp only []; rw [if_pos c15, if_neg hl18, if_pos (z_lg c47)]) ⟨_, _, _, hM⟩)
      · have hl18 := cL_neg (kL j).2.1 k0 c26
        refine lv_bipush (v := (-2)) hx hb dX10_pay_29 (by decide) ?_
        exact z_iret hx hb hr hlocks hZ dX10_pay_31 (mQ_of (by rw [sp_pay, hh]; simp only []; rw [if_pos c15, if_pos hl18]) ⟨_, _, _, hM⟩)
    · refine lv_iconst (v := (-1)) hx hb dX10_pay_18 (by decide) ?_
      exact z_iret hx hb hr hlocks hZ dX10_pay_19 (mQ_of (by rw [sp_pay, hh]; simp only []; rw [if_neg c15]) ⟨_, _, _, hM⟩)

set_option maxHeartbeats 4000000 in
set_option maxRecDepth 100000 in
theorem c_X10_count (l : Launch) (D : va_G) (cT : Nat → ClassId) (G : zG) (sz : Nat) (S : zS) (X : Nat → Nat) (cz : Int32) (f27 f29 : Nat → Int32) (nn : Nat) (x : Int32) (hM : MD cT S X cz f27 f29 G) (hXI : XI X) (hS : ok S nn)  : zM l D cT yX10_count wsX10_count (zR 0 0 0) [.ref (X 0), .int x] G sz (mQ cT X (sp_count S x)) := by
  refine z_start (cc := cX10_count) (maxL := 4) (ret := (some .int)) (by decide) rfl (Nat.le_of_ble_eq_true rfl) ?_
  intro p e s m below meth c ls hI hZ hl
  obtain ⟨hx, hb, hr, hml, hts, hown, hlocks, hname, hK, hA, hE⟩ := hI
  have hl : lv_has ls 4 [(0, .ref (X 0)), (1, .int x)] := hl
  have hown : s.vm.findClass RX10 = some m.cls := hown
  have in_X10 : ∀ w ∈ u_ws RX10 TX10 30, w ∈ wsX10_count := by decide +kernel
  have fl_28 := hts (.fieldLink RX10 28 "FairRentsModel" "isTold" "[Z") (by decide +kernel)
  have fl_47 := hts (.fieldLink RX10 47 "FairRentsModel" "letDay" "[I") (by decide +kernel)
  have fl_83 := hts (.fieldLink RX10 83 "FairRentsModel" "homes" "I") (by decide +kernel)
  have fl_107 := hts (.fieldLink RX10 107 "FairRentsModel" "today" "I") (by decide +kernel)
  have fl_117 := hts (.fieldLink RX10 117 "FairRentsModel" "likes" "I") (by decide +kernel)
  have fl_132 := hts (.fieldLink RX10 132 "FairRentsModel" "entries" "I") (by decide +kernel)
  obtain ⟨m0, m2, m3, m4, m5, m6, m8, m9, m11, m12, m13, m14, m15, m16, m17, m18, m19, m21, m22, m23, m24, m25, m26, m27, m29⟩ := id hM
  obtain ⟨⟨k1, k10, k20, k0⟩, kH, k9, k8, k15, k26, kL, kLn, kP, kE, kEm, kn⟩ := id hS
  refine lv_iconst (v := 0) hx hb dX10_count_0 (by decide) ?_
  refine lv_istore_n (lv' := [(2, .int 0), (0, .ref (X 0)), (1, .int x)]) hx hb dX10_count_1 rfl hl (by decide) rfl (fun ls hl => ?_)
  refine lv_iload_n hx hb dX10_count_2 rfl (lv_at hl 2 rfl) ?_
  by_cases q0 : x = 0
  · refine lv_tableIn (tgt := 40) hx hb dX10_count_3 (by rw [q0]; decide) (by rw [q0]; decide) (off := 37) (by rw [q0]; rfl) (by decide) ?_
    refine lv_aload_n hx hb dX10_count_40 rfl (lv_at hl 1 rfl) ?_
    refine z_get (ci := 10) (fs := [.int (nI (S.1 0 0)), .int (nI (S.1 1 0)), .ref (X 2), .ref (X 3), .ref (X 4), .ref (X 5), .ref (X 6), .long S.2.2, .ref (X 8), .ref (X 9), .int (nI (S.1 10 0)), .ref (X 11), .ref (X 12), .ref (X 13), .ref (X 14), .ref (X 15), .ref (X 16), .ref (X 17), .ref (X 18), .ref (X 19), .int (nI (S.1 20 0)), .ref (X 21), .ref (X 22), .ref (X 23), .ref (X 24), .ref (X 25), .ref (X 26), .ref (X 27), .int cz, .ref (X 29)]) (C := RX10) (T := TX10) (N := 30) hx hb hts in_X10 hown hK hZ m0 rfl 1 (by decide) fl_83 (fun _ h9 => h9) rfl dX10_count_41 ?_
    exact z_iret hx hb hr hlocks hZ dX10_count_44 (mQ_of (by rw [sp_count, if_pos q0]) ⟨_, _, _, hM⟩)
  by_cases q1 : x = 1
  · refine lv_tableIn (tgt := 45) hx hb dX10_count_3 (by rw [q1]; decide) (by rw [q1]; decide) (off := 42) (by rw [q1]; rfl) (by decide) ?_
    refine lv_aload_n hx hb dX10_count_45 rfl (lv_at hl 1 rfl) ?_
    refine z_get (ci := 10) (fs := [.int (nI (S.1 0 0)), .int (nI (S.1 1 0)), .ref (X 2), .ref (X 3), .ref (X 4), .ref (X 5), .ref (X 6), .long S.2.2, .ref (X 8), .ref (X 9), .int (nI (S.1 10 0)), .ref (X 11), .ref (X 12), .ref (X 13), .ref (X 14), .ref (X 15), .ref (X 16), .ref (X 17), .ref (X 18), .ref (X 19), .int (nI (S.1 20 0)), .ref (X 21), .ref (X 22), .ref (X 23), .ref (X 24), .ref (X 25), .ref (X 26), .ref (X 27), .int cz, .ref (X 29)]) (C := RX10) (T := TX10) (N := 30) hx hb hts in_X10 hown hK hZ m0 rfl 10 (by decide) fl_117 (fun _ h9 => h9) rfl dX10_count_46 ?_
    exact z_iret hx hb hr hlocks hZ dX10_count_49 (mQ_of (by rw [sp_count, if_neg q0, if_pos q1]) ⟨_, _, _, hM⟩)
  by_cases q2 : x = 2
  · refine lv_tableIn (tgt := 50) hx hb dX10_count_3 (by rw [q2]; decide) (by rw [q2]; decide) (off := 47) (by rw [q2]; rfl) (by decide) ?_
    refine lv_aload_n hx hb dX10_count_50 rfl (lv_at hl 1 rfl) ?_
    refine z_get (ci := 10) (fs := [.int (nI (S.1 0 0)), .int (nI (S.1 1 0)), .ref (X 2), .ref (X 3), .ref (X 4), .ref (X 5), .ref (X 6), .long S.2.2, .ref (X 8), .ref (X 9), .int (nI (S.1 10 0)), .ref (X 11), .ref (X 12), .ref (X 13), .ref (X 14), .ref (X 15), .ref (X 16), .ref (X 17), .ref (X 18), .ref (X 19), .int (nI (S.1 20 0)), .ref (X 21), .ref (X 22), .ref (X 23), .ref (X 24), .ref (X 25), .ref (X 26), .ref (X 27), .int cz, .ref (X 29)]) (C := RX10) (T := TX10) (N := 30) hx hb hts in_X10 hown hK hZ m0 rfl 20 (by decide) fl_132 (fun _ h9 => h9) rfl dX10_count_51 ?_
    exact z_iret hx hb hr hlocks hZ dX10_count_54 (mQ_of (by rw [sp_count, if_neg q0, if_neg q1, if_pos q2]) ⟨_, _, _, hM⟩)
  by_cases q3 : x = 3
  · refine lv_tableIn (tgt := 55) hx hb dX10_count_3 (by rw [q3]; decide) (by rw [q3]; decide) (off := 52) (by rw [q3]; rfl) (by decide) ?_
    refine lv_aload_n hx hb dX10_count_55 rfl (lv_at hl 1 rfl) ?_
    refine z_get (ci := 10) (fs := [.int (nI (S.1 0 0)), .int (nI (S.1 1 0)), .ref (X 2), .ref (X 3), .ref (X 4), .ref (X 5), .ref (X 6), .long S.2.2, .ref (X 8), .ref (X 9), .int (nI (S.1 10 0)), .ref (X 11), .ref (X 12), .ref (X 13), .ref (X 14), .ref (X 15), .ref (X 16), .ref (X 17), .ref (X 18), .ref (X 19), .int (nI (S.1 20 0)), .ref (X 21), .ref (X 22), .ref (X 23), .ref (X 24), .ref (X 25), .ref (X 26), .ref (X 27), .int cz, .ref (X 29)]) (C := RX10) (T := TX10) (N := 30) hx hb hts in_X10 hown hK hZ m0 rfl 0 (by decide) fl_107 (fun _ h9 => h9) rfl dX10_count_56 ?_
    exact z_iret hx hb hr hlocks hZ dX10_count_59 (mQ_of (by rw [sp_count, if_neg q0, if_neg q1, if_neg q2, if_pos q3]) ⟨_, _, _, hM⟩)
  by_cases q4 : x = 4
  · refine lv_tableIn (tgt := 60) hx hb dX10_count_3 (by rw [q4]; decide) (by rw [q4]; decide) (off := 57) (by rw [q4]; rfl) (by decide) ?_
    refine lv_iconst (v := 0) hx hb dX10_count_60 (by decide) ?_
    refine lv_istore_n (lv' := [(3, .int 0), (2, .int 0), (0, .ref (X 0)), (1, .int x)]) hx hb dX10_count_61 rfl hl (by decide) rfl (fun ls hl => ?_)
    have loop62 : ∀ (q i : Nat) (hq : i + q = (S.1 1 0)) (H : Heap) (locs : List Loc) (ls : Array Slot), zW D (zA G sz) s.heap G H locs → lv_has ls 4 [(3, .int (nI i)), (2, .int (nI (ctL S i))), (0, .ref (X 0)), (1, .int x)] → W p l e (zR 0 0 0) s m ([.ref (X 0), .int x] : List Value).toArray below meth c H locs 0 0 (MQ below (zQ D G sz (mQ cT X (sp_count S x))) ([.ref (X 0), .int x] : List Value).toArray s 0 0 (zA G sz)) (F0 m 62 ls []) := by
      intro q
      induction q with
      | zero =>
        intro i hq H locs ls hZ hl
        refine lv_iload_n hx hb dX10_count_62 rfl (lv_at hl 0 rfl) ?_
        refine lv_aload_n hx hb dX10_count_63 rfl (lv_at hl 2 rfl) ?_
        refine z_get (ci := 10) (fs := [.int (nI (S.1 0 0)), .int (nI (S.1 1 0)), .ref (X 2), .ref (X 3), .ref (X 4), .ref (X 5), .ref (X 6), .long S.2.2, .ref (X 8), .ref (X 9), .int (nI (S.1 10 0)), .ref (X 11), .ref (X 12), .ref (X 13), .ref (X 14), .ref (X 15), .ref (X 16), .ref (X 17), .ref (X 18), .ref (X 19), .int (nI (S.1 20 0)), .ref (X 21), .ref (X 22), .ref (X 23), .ref (X 24), .ref (X 25), .ref (X 26), .ref (X 27), .int cz, .ref (X 29)]) (C := RX10) (T := TX10) (N := 30) hx hb hts in_X10 hown hK hZ m0 rfl 1 (by decide) fl_83 (fun _ h9 => h9) rfl dX10_count_64 ?_
        refine lv_icmp_ge (tgt := 93) hx hb dX10_count_67 (by decide) (fun _ => ?_) (fun c67 => absurd (nI_le (by omega) (by omega)) c67)
        refine lv_iload_n hx hb dX10_count_93 rfl (lv_at hl 1 rfl) ?_
        exact z_iret hx hb hr hlocks hZ dX10_count_94 (mQ_of (by rw [sp_count, if_neg q0, if_neg q1, if_neg q2, if_neg q3, if_pos q4, show S.1 1 0 = i by omega]) ⟨_, _, _, hM⟩)
      | succ q ih62 =>
        intro i hq H locs ls hZ hl
        refine lv_iload_n hx hb dX10_count_62 rfl (lv_at hl 0 rfl) ?_
        refine lv_aload_n hx hb dX10_count_63 rfl (lv_at hl 2 rfl) ?_
        refine z_get (ci := 10) (fs := [.int (nI (S.1 0 0)), .int (nI (S.1 1 0)), .ref (X 2), .ref (X 3), .ref (X 4), .ref (X 5), .ref (X 6), .long S.2.2, .ref (X 8), .ref (X 9), .int (nI (S.1 10 0)), .ref (X 11), .ref (X 12), .ref (X 13), .ref (X 14), .ref (X 15), .ref (X 16), .ref (X 17), .ref (X 18), .ref (X 19), .int (nI (S.1 20 0)), .ref (X 21), .ref (X 22), .ref (X 23), .ref (X 24), .ref (X 25), .ref (X 26), .ref (X 27), .int cz, .ref (X 29)]) (C := RX10) (T := TX10) (N := 30) hx hb hts in_X10 hown hK hZ m0 rfl 1 (by decide) fl_83 (fun _ h9 => h9) rfl dX10_count_64 ?_
        refine lv_icmp_ge (tgt := 93) hx hb dX10_count_67 (by decide) (fun c67 => absurd c67 (nI_ge (by omega) (by omega))) (fun _ => ?_)
        refine lv_iload_n hx hb dX10_count_70 rfl (lv_at hl 1 rfl) ?_
        refine lv_aload_n hx hb dX10_count_71 rfl (lv_at hl 2 rfl) ?_
        refine z_get (ci := 10) (fs := [.int (nI (S.1 0 0)), .int (nI (S.1 1 0)), .ref (X 2), .ref (X 3), .ref (X 4), .ref (X 5), .ref (X 6), .long S.2.2, .ref (X 8), .ref (X 9), .int (nI (S.1 10 0)), .ref (X 11), .ref (X 12), .ref (X 13), .ref (X 14), .ref (X 15), .ref (X 16), .ref (X 17), .ref (X 18), .ref (X 19), .int (nI (S.1 20 0)), .ref (X 21), .ref (X 22), .ref (X 23), .ref (X 24), .ref (X 25), .ref (X 26), .ref (X 27), .int cz, .ref (X 29)]) (C := RX10) (T := TX10) (N := 30) hx hb hts in_X10 hown hK hZ m0 rfl 16 (by decide) fl_47 (fun _ h9 => h9) rfl dX10_count_72 ?_
        refine lv_iload_n hx hb dX10_count_75 rfl (lv_at hl 0 rfl) ?_
        refine z_iald hx hb hK hZ m16 i rfl (by omega) (by decide) dX10_count_76 ?_
        refine lv_if_ge (tgt := 84) hx hb dX10_count_77 (by decide) (fun c77 => ?_) (fun c77 => ?_)
        · refine lv_iconst (v := 1) hx hb dX10_count_84 (by decide) ?_
          refine lv_iadd hx hb dX10_count_85 ?_
          refine W.eq (congrArg (fun v => F0 m 86 ls (.int v :: [])) (show _ = nI (ctL S (i + 1)) from ctL_1 (cL_pos c77))) ?_
          refine W.eq (g2 := F0 m 86 ls [.int (nI (ctL S (i + 1)))]) rfl ?_
          refine lv_istore_n (lv' := [(2, .int (nI (ctL S (i + 1)))), (3, .int (nI i)), (0, .ref (X 0)), (1, .int x)]) hx hb dX10_count_86 rfl hl (by decide) rfl (fun ls hl => ?_)
          refine lv_iinc (v := nI (i + 1)) (lv' := [(3, .int (nI (i + 1))), (2, .int (nI (ctL S (i + 1)))), (0, .ref (X 0)), (1, .int x)]) hx hb dX10_count_87 hl (k := 1) rfl (nI_1 i) (by decide) rfl (fun ls hl => ?_)
          refine lv_goto (tgt := 62) hx hb dX10_count_90 (by decide) ?_
          exact ih62 (i + 1) (by omega) _ _ _ hZ (lv_sub hl [0, 1, 2, 3] rfl)
        · refine lv_iconst (v := 0) hx hb dX10_count_80 (by decide) ?_
          refine lv_goto (tgt := 85) hx hb dX10_count_81 (by decide) ?_
          refine lv_iadd hx hb dX10_count_85 ?_
          refine W.eq (congrArg (fun v => F0 m 86 ls (.int v :: [])) (show _ = nI (ctL S (i + 1)) from ctL_0 (cL_neg (kL i).2.1 k0 c77))) ?_
          refine W.eq (g2 := F0 m 86 ls [.int (nI (ctL S (i + 1)))]) rfl ?_
          refine lv_istore_n (lv' := [(2, .int (nI (ctL S (i + 1)))), (3, .int (nI i)), (0, .ref (X 0)), (1, .int x)]) hx hb dX10_count_86 rfl hl (by decide) rfl (fun ls hl => ?_)
          refine lv_iinc (v := nI (i + 1)) (lv' := [(3, .int (nI (i + 1))), (2, .int (nI (ctL S (i + 1)))), (0, .ref (X 0)), (1, .int x)]) hx hb dX10_count_87 hl (k := 1) rfl (nI_1 i) (by decide) rfl (fun ls hl => ?_)
          refine lv_goto (tgt := 62) hx hb dX10_count_90 (by decide) ?_
          exact ih62 (i + 1) (by omega) _ _ _ hZ (lv_sub hl [0, 1, 2, 3] rfl)
    exact loop62 (S.1 1 0) 0 (by omega) _ _ _ hZ (lv_sub hl [0, 1, 2, 3] rfl)
  by_cases q5 : x = 5
  · refine lv_tableIn (tgt := 95) hx hb dX10_count_3 (by rw [q5]; decide) (by rw [q5]; decide) (off := 92) (by rw [q5]; rfl) (by decide) ?_
    refine lv_iconst (v := 0) hx hb dX10_count_95 (by decide) ?_
    refine lv_istore_n (lv' := [(3, .int 0), (2, .int 0), (0, .ref (X 0)), (1, .int x)]) hx hb dX10_count_96 rfl hl (by decide) rfl (fun ls hl => ?_)
    have loop97 : ∀ (q i : Nat) (hq : i + q = 31) (H : Heap) (locs : List Loc) (ls : Array Slot), zW D (zA G sz) s.heap G H locs → lv_has ls 4 [(3, .int (nI i)), (2, .int (nI (ctT S i))), (0, .ref (X 0)), (1, .int x)] → W p l e (zR 0 0 0) s m ([.ref (X 0), .int x] : List Value).toArray below meth c H locs 0 0 (MQ below (zQ D G sz (mQ cT X (sp_count S x))) ([.ref (X 0), .int x] : List Value).toArray s 0 0 (zA G sz)) (F0 m 97 ls []) := by
      intro q
      induction q with
      | zero =>
        intro i hq H locs ls hZ hl
        refine lv_iload_n hx hb dX10_count_97 rfl (lv_at hl 0 rfl) ?_
        refine lv_bipush (v := 31) hx hb dX10_count_98 (by decide) ?_
        refine lv_icmp_ge (tgt := 126) hx hb dX10_count_100 (by decide) (fun _ => ?_) (fun c100 => absurd (nI_le (a := 31) (by omega) (by omega)) c100)
        refine lv_iload_n hx hb dX10_count_126 rfl (lv_at hl 1 rfl) ?_
        exact z_iret hx hb hr hlocks hZ dX10_count_127 (mQ_of (by rw [sp_count, if_neg q0, if_neg q1, if_neg q2, if_neg q3, if_neg q4, if_pos q5, show (31 : Nat) = i by omega]) ⟨_, _, _, hM⟩)
      | succ q ih97 =>
        intro i hq H locs ls hZ hl
        refine lv_iload_n hx hb dX10_count_97 rfl (lv_at hl 0 rfl) ?_
        refine lv_bipush (v := 31) hx hb dX10_count_98 (by decide) ?_
        refine lv_icmp_ge (tgt := 126) hx hb dX10_count_100 (by decide) (fun c100 => absurd c100 (nI_ge (b := 31) (by omega) (by decide))) (fun _ => ?_)
        refine lv_iload_n hx hb dX10_count_103 rfl (lv_at hl 1 rfl) ?_
        refine lv_aload_n hx hb dX10_count_104 rfl (lv_at hl 2 rfl) ?_
        refine z_get (ci := 10) (fs := [.int (nI (S.1 0 0)), .int (nI (S.1 1 0)), .ref (X 2), .ref (X 3), .ref (X 4), .ref (X 5), .ref (X 6), .long S.2.2, .ref (X 8), .ref (X 9), .int (nI (S.1 10 0)), .ref (X 11), .ref (X 12), .ref (X 13), .ref (X 14), .ref (X 15), .ref (X 16), .ref (X 17), .ref (X 18), .ref (X 19), .int (nI (S.1 20 0)), .ref (X 21), .ref (X 22), .ref (X 23), .ref (X 24), .ref (X 25), .ref (X 26), .ref (X 27), .int cz, .ref (X 29)]) (C := RX10) (T := TX10) (N := 30) hx hb hts in_X10 hown hK hZ m0 rfl 9 (by decide) fl_28 (fun _ h9 => h9) rfl dX10_count_105 ?_
        refine lv_iload_n hx hb dX10_count_108 rfl (lv_at hl 0 rfl) ?_
        refine z_zald hx hb hK hZ m9 i rfl (by omega) (by decide) dX10_count_109 ?_
        refine lv_if_eq (tgt := 117) hx hb dX10_count_110 (by decide) (fun c110 => ?_) (fun c110 => ?_)
        · refine lv_iconst (v := 0) hx hb dX10_count_117 (by decide) ?_
          refine lv_iadd hx hb dX10_count_118 ?_
          refine W.eq (congrArg (fun v => F0 m 119 ls (.int v :: [])) (show _ = nI (ctT S (i + 1)) from ctT_0 (k9 i) c110)) ?_
          refine W.eq (g2 := F0 m 119 ls [.int (nI (ctT S (i + 1)))]) rfl ?_
          refine lv_istore_n (lv' := [(2, .int (nI (ctT S (i + 1)))), (3, .int (nI i)), (0, .ref (X 0)), (1, .int x)]) hx hb dX10_count_119 rfl hl (by decide) rfl (fun ls hl => ?_)
          refine lv_iinc (v := nI (i + 1)) (lv' := [(3, .int (nI (i + 1))), (2, .int (nI (ctT S (i + 1)))), (0, .ref (X 0)), (1, .int x)]) hx hb dX10_count_120 hl (k := 1) rfl (nI_1 i) (by decide) rfl (fun ls hl => ?_)
          refine lv_goto (tgt := 97) hx hb dX10_count_123 (by decide) ?_
          exact ih97 (i + 1) (by omega) _ _ _ hZ (lv_sub hl [0, 1, 2, 3] rfl)
        · refine lv_iconst (v := 1) hx hb dX10_count_113 (by decide) ?_
          refine lv_goto (tgt := 118) hx hb dX10_count_114 (by decide) ?_
          refine lv_iadd hx hb dX10_count_118 ?_
          refine W.eq (congrArg (fun v => F0 m 119 ls (.int v :: [])) (show _ = nI (ctT S (i + 1)) from ctT_1 c110)) ?_
          refine W.eq (g2 := F0 m 119 ls [.int (nI (ctT S (i + 1)))]) rfl ?_
          refine lv_istore_n (lv' := [(2, .int (nI (ctT S (i + 1)))), (3, .int (nI i)), (0, .ref (X 0)), (1, .int x)]) hx hb dX10_count_119 rfl hl (by decide) rfl (fun ls hl => ?_)
          refine lv_iinc (v := nI (i + 1)) (lv' := [(3, .int (nI (i + 1))), (2, .int (nI (ctT S (i + 1)))), (0, .ref (X 0)), (1, .int x)]) hx hb dX10_count_120 hl (k := 1) rfl (nI_1 i) (by decide) rfl (fun ls hl => ?_)
          refine lv_goto (tgt := 97) hx hb dX10_count_123 (by decide) ?_
          exact ih97 (i + 1) (by omega) _ _ _ hZ (lv_sub hl [0, 1, 2, 3] rfl)
    exact loop97 31 0 (by omega) _ _ _ hZ (lv_sub hl [0, 1, 2, 3] rfl)
  refine lv_tableOut (tgt := 128) hx hb dX10_count_3 (cnt_out q0 q1 q2 q3 q4 q5) (by decide) ?_
  refine lv_iconst (v := (-1)) hx hb dX10_count_128 (by decide) ?_
  exact z_iret hx hb hr hlocks hZ dX10_count_129 (mQ_of (by rw [sp_count, if_neg q0, if_neg q1, if_neg q2, if_neg q3, if_neg q4, if_neg q5]) ⟨_, _, _, hM⟩)

set_option maxHeartbeats 4000000 in
set_option maxRecDepth 100000 in
theorem c_X10_entry (l : Launch) (D : va_G) (cT : Nat → ClassId) (G : zG) (sz : Nat) (S : zS) (X : Nat → Nat) (cz : Int32) (f27 f29 : Nat → Int32) (nn : Nat) (x y : Int32) (hM : MD cT S X cz f27 f29 G) (hXI : XI X) (hS : ok S nn)  : zM l D cT yX10_entry wsX10_entry (zR 1 0 0) [.ref (X 0), .int x, .int y] G sz (mQ cT X (sp_entry S x y)) := by
  refine z_start (cc := cX10_entry) (maxL := 3) (ret := (some .int)) (by decide) rfl (Nat.le_of_ble_eq_true rfl) ?_
  intro p e s m below meth c ls hI hZ hl
  obtain ⟨hx, hb, hr, hml, hts, hown, hlocks, hname, hK, hA, hE⟩ := hI
  have hl : lv_has ls 3 [(0, .ref (X 0)), (1, .int x), (2, .int y)] := hl
  have hown : s.vm.findClass RX10 = some m.cls := hown
  have in_X10 : ∀ w ∈ u_ws RX10 TX10 30, w ∈ wsX10_entry := by decide +kernel
  have fl_59 := hts (.fieldLink RX10 59 "FairRentsModel" "entryHome" "[I") (by decide +kernel)
  have fl_62 := hts (.fieldLink RX10 62 "FairRentsModel" "entryDay" "[I") (by decide +kernel)
  have fl_65 := hts (.fieldLink RX10 65 "FairRentsModel" "entryRent" "[I") (by decide +kernel)
  have fl_68 := hts (.fieldLink RX10 68 "FairRentsModel" "entryHead" "[I") (by decide +kernel)
  have fl_74 := hts (.fieldLink RX10 74 "FairRentsModel" "isGone" "[Z") (by decide +kernel)
  have fl_132 := hts (.fieldLink RX10 132 "FairRentsModel" "entries" "I") (by decide +kernel)
  obtain ⟨m0, m2, m3, m4, m5, m6, m8, m9, m11, m12, m13, m14, m15, m16, m17, m18, m19, m21, m22, m23, m24, m25, m26, m27, m29⟩ := id hM
  obtain ⟨⟨k1, k10, k20, k0⟩, kH, k9, k8, k15, k26, kL, kLn, kP, kE, kEm, kn⟩ := id hS
  refine lv_iload_n hx hb dX10_entry_0 rfl (lv_at hl 1 rfl) ?_
  refine lv_iconst (v := 0) hx hb dX10_entry_1 (by decide) ?_
  refine lv_aload_n hx hb dX10_entry_2 rfl (lv_at hl 0 rfl) ?_
  refine z_get (ci := 10) (fs := [.int (nI (S.1 0 0)), .int (nI (S.1 1 0)), .ref (X 2), .ref (X 3), .ref (X 4), .ref (X 5), .ref (X 6), .long S.2.2, .ref (X 8), .ref (X 9), .int (nI (S.1 10 0)), .ref (X 11), .ref (X 12), .ref (X 13), .ref (X 14), .ref (X 15), .ref (X 16), .ref (X 17), .ref (X 18), .ref (X 19), .int (nI (S.1 20 0)), .ref (X 21), .ref (X 22), .ref (X 23), .ref (X 24), .ref (X 25), .ref (X 26), .ref (X 27), .int cz, .ref (X 29)]) (C := RX10) (T := TX10) (N := 30) hx hb hts in_X10 hown hK hZ m0 rfl 20 (by decide) fl_132 (fun _ h9 => h9) rfl dX10_entry_3 ?_
  refine lv_iconst (v := 1) hx hb dX10_entry_6 (by decide) ?_
  refine lv_isub hx hb dX10_entry_7 ?_
  refine z_call (va_runS (As := [.int x, .int 0, .int ((nI (S.1 20 0)) - 1)]) (rest := []) ⟨hx, hb, hml, hown, hts⟩ (c_X10_in l D cT _ _ x 0 ((nI (S.1 20 0)) - 1)) (va_cwS 3 hts gX10_entry_X10_in rfl rfl rfl (by decide +kernel) ⟨(Nat.le_of_ble_eq_true rfl), (Nat.le_of_ble_eq_true rfl)⟩) (z_preS hK hE hZ hA) rfl rfl hl.1 rfl (lv_room (Nat.le_of_ble_eq_true rfl)) dX10_entry_8 ⟨(Nat.le_of_ble_eq_true rfl), (Nat.le_of_ble_eq_true rfl)⟩) hZ hA (fun r G8 H locs hq hZ => ?_)
  obtain ⟨hg, rfl⟩ := hq
  replace hg := hg.symm
  subst hg
  refine W.eq (g2 := F0 m 11 ls [.int (if 0 ≤ x ∧ x ≤ ((nI (S.1 20 0)) - 1) then 1 else 0)]) rfl ?_
  refine zb_eq (tgt := 24) hx hb dX10_entry_11 (by decide) (fun c11 => ?_) (fun c11 => ?_)
  · refine lv_ldc (v := (-1000000000)) hx hb hown (hts (.constant RX10 131 (-1000000000)) (by decide +kernel)) dX10_entry_24 ?_
    exact z_iret hx hb hr hlocks hZ dX10_entry_26 (mQ_of (by rw [sp_entry, if_neg (fun h => c11 h.1)]) ⟨_, _, _, hM⟩)
  · refine lv_iload_n hx hb dX10_entry_14 rfl (lv_at hl 2 rfl) ?_
    refine lv_iconst (v := 0) hx hb dX10_entry_15 (by decide) ?_
    refine lv_bipush (v := 6) hx hb dX10_entry_16 (by decide) ?_
    refine z_call (va_runS (As := [.int y, .int 0, .int 6]) (rest := []) ⟨hx, hb, hml, hown, hts⟩ (c_X10_in l D cT _ _ y 0 6) (va_cwS 3 hts gX10_entry_X10_in rfl rfl rfl (by decide +kernel) ⟨(Nat.le_of_ble_eq_true rfl), (Nat.le_of_ble_eq_true rfl)⟩) (z_preS hK hE hZ hA) rfl rfl hl.1 rfl (lv_room (Nat.le_of_ble_eq_true rfl)) dX10_entry_18 ⟨(Nat.le_of_ble_eq_true rfl), (Nat.le_of_ble_eq_true rfl)⟩) hZ hA (fun r G18 H locs hq hZ => ?_)
    obtain ⟨hg, rfl⟩ := hq
    replace hg := hg.symm
    subst hg
    refine W.eq (g2 := F0 m 21 ls [.int (if 0 ≤ y ∧ y ≤ 6 then 1 else 0)]) rfl ?_
    refine zb_ne (tgt := 27) hx hb dX10_entry_21 (by decide) (fun c21 => ?_) (fun c21 => ?_)
    · obtain ⟨hj, hxj⟩ := ix_lt c11 (by omega)
      have hyk : y = nI y.toNatClampNeg := (z_self c21.1).symm
      have hk6 : y.toNatClampNeg ≤ 6 := z_cl c21 (by decide)
      refine lv_iload_n hx hb dX10_entry_27 rfl (lv_at hl 2 rfl) ?_
      have hsw : y.toNatClampNeg = 0 ∨ y.toNatClampNeg = 1 ∨ y.toNatClampNeg = 2 ∨ y.toNatClampNeg = 3 ∨ y.toNatClampNeg = 4 ∨ y.toNatClampNeg = 5 ∨ y.toNatClampNeg = 6 := by omega
      rcases hsw with hw | hw | hw | hw | hw | hw | hw
      · have hv : y = 0 := by rw [hyk, hw]; rfl
        refine lv_tableIn (tgt := 72) hx hb dX10_entry_28 (by rw [hv]; decide) (by rw [hv]; decide) (off := 44) (by rw [hv]; rfl) (by decide) ?_
        refine lv_aload_n hx hb dX10_entry_72 rfl (lv_at hl 0 rfl) ?_
        refine z_get (ci := 10) (fs := [.int (nI (S.1 0 0)), .int (nI (S.1 1 0)), .ref (X 2), .ref (X 3), .ref (X 4), .ref (X 5), .ref (X 6), .long S.2.2, .ref (X 8), .ref (X 9), .int (nI (S.1 10 0)), .ref (X 11), .ref (X 12), .ref (X 13), .ref (X 14), .ref (X 15), .ref (X 16), .ref (X 17), .ref (X 18), .ref (X 19), .int (nI (S.1 20 0)), .ref (X 21), .ref (X 22), .ref (X 23), .ref (X 24), .ref (X 25), .ref (X 26), .ref (X 27), .int cz, .ref (X 29)]) (C := RX10) (T := TX10) (N := 30) hx hb hts in_X10 hown hK hZ m0 rfl 21 (by decide) fl_59 (fun _ h9 => h9) rfl dX10_entry_73 ?_
        refine lv_iload_n hx hb dX10_entry_76 rfl (lv_at hl 1 rfl) ?_
        refine z_iald hx hb hK hZ m21 x.toNatClampNeg hxj (by omega) (by decide) dX10_entry_77 ?_
        exact z_iret hx hb hr hlocks hZ dX10_entry_78 (mQ_of (by rw [sp_entry, if_pos ⟨c11, c21⟩, hw]; rfl) ⟨_, _, _, hM⟩)
      · have hv : y = 1 := by rw [hyk, hw]; rfl
        refine lv_tableIn (tgt := 79) hx hb dX10_entry_28 (by rw [hv]; decide) (by rw [hv]; decide) (off := 51) (by rw [hv]; rfl) (by decide) ?_
        refine lv_aload_n hx hb dX10_entry_79 rfl (lv_at hl 0 rfl) ?_
        refine z_get (ci := 10) (fs := [.int (nI (S.1 0 0)), .int (nI (S.1 1 0)), .ref (X 2), .ref (X 3), .ref (X 4), .ref (X 5), .ref (X 6), .long S.2.2, .ref (X 8), .ref (X 9), .int (nI (S.1 10 0)), .ref (X 11), .ref (X 12), .ref (X 13), .ref (X 14), .ref (X 15), .ref (X 16), .ref (X 17), .ref (X 18), .ref (X 19), .int (nI (S.1 20 0)), .ref (X 21), .ref (X 22), .ref (X 23), .ref (X 24), .ref (X 25), .ref (X 26), .ref (X 27), .int cz, .ref (X 29)]) (C := RX10) (T := TX10) (N := 30) hx hb hts in_X10 hown hK hZ m0 rfl 22 (by decide) fl_62 (fun _ h9 => h9) rfl dX10_entry_80 ?_
        refine lv_iload_n hx hb dX10_entry_83 rfl (lv_at hl 1 rfl) ?_
        refine z_iald hx hb hK hZ m22 x.toNatClampNeg hxj (by omega) (by decide) dX10_entry_84 ?_
        exact z_iret hx hb hr hlocks hZ dX10_entry_85 (mQ_of (by rw [sp_entry, if_pos ⟨c11, c21⟩, hw]; rfl) ⟨_, _, _, hM⟩)
      · have hv : y = 2 := by rw [hyk, hw]; rfl
        refine lv_tableIn (tgt := 86) hx hb dX10_entry_28 (by rw [hv]; decide) (by rw [hv]; decide) (off := 58) (by rw [hv]; rfl) (by decide) ?_
        refine lv_aload_n hx hb dX10_entry_86 rfl (lv_at hl 0 rfl) ?_
        refine z_get (ci := 10) (fs := [.int (nI (S.1 0 0)), .int (nI (S.1 1 0)), .ref (X 2), .ref (X 3), .ref (X 4), .ref (X 5), .ref (X 6), .long S.2.2, .ref (X 8), .ref (X 9), .int (nI (S.1 10 0)), .ref (X 11), .ref (X 12), .ref (X 13), .ref (X 14), .ref (X 15), .ref (X 16), .ref (X 17), .ref (X 18), .ref (X 19), .int (nI (S.1 20 0)), .ref (X 21), .ref (X 22), .ref (X 23), .ref (X 24), .ref (X 25), .ref (X 26), .ref (X 27), .int cz, .ref (X 29)]) (C := RX10) (T := TX10) (N := 30) hx hb hts in_X10 hown hK hZ m0 rfl 23 (by decide) fl_65 (fun _ h9 => h9) rfl dX10_entry_87 ?_
        refine lv_iload_n hx hb dX10_entry_90 rfl (lv_at hl 1 rfl) ?_
        refine z_iald hx hb hK hZ m23 x.toNatClampNeg hxj (by omega) (by decide) dX10_entry_91 ?_
        exact z_iret hx hb hr hlocks hZ dX10_entry_92 (mQ_of (by rw [sp_entry, if_pos ⟨c11, c21⟩, hw]; rfl) ⟨_, _, _, hM⟩)
      · have hv : y = 3 := by rw [hyk, hw]; rfl
        refine lv_tableIn (tgt := 108) hx hb dX10_entry_28 (by rw [hv]; decide) (by rw [hv]; decide) (off := 80) (by rw [hv]; rfl) (by decide) ?_
        refine lv_aload_n hx hb dX10_entry_108 rfl (lv_at hl 0 rfl) ?_
        refine z_get (ci := 10) (fs := [.int (nI (S.1 0 0)), .int (nI (S.1 1 0)), .ref (X 2), .ref (X 3), .ref (X 4), .ref (X 5), .ref (X 6), .long S.2.2, .ref (X 8), .ref (X 9), .int (nI (S.1 10 0)), .ref (X 11), .ref (X 12), .ref (X 13), .ref (X 14), .ref (X 15), .ref (X 16), .ref (X 17), .ref (X 18), .ref (X 19), .int (nI (S.1 20 0)), .ref (X 21), .ref (X 22), .ref (X 23), .ref (X 24), .ref (X 25), .ref (X 26), .ref (X 27), .int cz, .ref (X 29)]) (C := RX10) (T := TX10) (N := 30) hx hb hts in_X10 hown hK hZ m0 rfl 24 (by decide) fl_68 (fun _ h9 => h9) rfl dX10_entry_109 ?_
        refine lv_iconst (v := 3) hx hb dX10_entry_112 (by decide) ?_
        refine lv_iload_n hx hb dX10_entry_113 rfl (lv_at hl 1 rfl) ?_
        refine lv_imul hx hb dX10_entry_114 ?_
        refine lv_iload_n hx hb dX10_entry_115 rfl (lv_at hl 2 rfl) ?_
        refine lv_iadd hx hb dX10_entry_116 ?_
        refine lv_iconst (v := 3) hx hb dX10_entry_117 (by decide) ?_
        refine lv_isub hx hb dX10_entry_118 ?_
        refine z_iald hx hb hK hZ m24 (3 * x.toNatClampNeg + (y.toNatClampNeg - 3)) (en_ix hxj hyk (by omega)) (by omega) (by decide) dX10_entry_119 ?_
        exact z_iret hx hb hr hlocks hZ dX10_entry_120 (mQ_of (by rw [sp_entry, if_pos ⟨c11, c21⟩, hw]; rfl) ⟨_, _, _, hM⟩)
      · have hv : y = 4 := by rw [hyk, hw]; rfl
        refine lv_tableIn (tgt := 108) hx hb dX10_entry_28 (by rw [hv]; decide) (by rw [hv]; decide) (off := 80) (by rw [hv]; rfl) (by decide) ?_
        refine lv_aload_n hx hb dX10_entry_108 rfl (lv_at hl 0 rfl) ?_
        refine z_get (ci := 10) (fs := [.int (nI (S.1 0 0)), .int (nI (S.1 1 0)), .ref (X 2), .ref (X 3), .ref (X 4), .ref (X 5), .ref (X 6), .long S.2.2, .ref (X 8), .ref (X 9), .int (nI (S.1 10 0)), .ref (X 11), .ref (X 12), .ref (X 13), .ref (X 14), .ref (X 15), .ref (X 16), .ref (X 17), .ref (X 18), .ref (X 19), .int (nI (S.1 20 0)), .ref (X 21), .ref (X 22), .ref (X 23), .ref (X 24), .ref (X 25), .ref (X 26), .ref (X 27), .int cz, .ref (X 29)]) (C := RX10) (T := TX10) (N := 30) hx hb hts in_X10 hown hK hZ m0 rfl 24 (by decide) fl_68 (fun _ h9 => h9) rfl dX10_entry_109 ?_
        refine lv_iconst (v := 3) hx hb dX10_entry_112 (by decide) ?_
        refine lv_iload_n hx hb dX10_entry_113 rfl (lv_at hl 1 rfl) ?_
        refine lv_imul hx hb dX10_entry_114 ?_
        refine lv_iload_n hx hb dX10_entry_115 rfl (lv_at hl 2 rfl) ?_
        refine lv_iadd hx hb dX10_entry_116 ?_
        refine lv_iconst (v := 3) hx hb dX10_entry_117 (by decide) ?_
        refine lv_isub hx hb dX10_entry_118 ?_
        refine z_iald hx hb hK hZ m24 (3 * x.toNatClampNeg + (y.toNatClampNeg - 3)) (en_ix hxj hyk (by omega)) (by omega) (by decide) dX10_entry_119 ?_
        exact z_iret hx hb hr hlocks hZ dX10_entry_120 (mQ_of (by rw [sp_entry, if_pos ⟨c11, c21⟩, hw]; rfl) ⟨_, _, _, hM⟩)
      · have hv : y = 5 := by rw [hyk, hw]; rfl
        refine lv_tableIn (tgt := 108) hx hb dX10_entry_28 (by rw [hv]; decide) (by rw [hv]; decide) (off := 80) (by rw [hv]; rfl) (by decide) ?_
        refine lv_aload_n hx hb dX10_entry_108 rfl (lv_at hl 0 rfl) ?_
        refine z_get (ci := 10) (fs := [.int (nI (S.1 0 0)), .int (nI (S.1 1 0)), .ref (X 2), .ref (X 3), .ref (X 4), .ref (X 5), .ref (X 6), .long S.2.2, .ref (X 8), .ref (X 9), .int (nI (S.1 10 0)), .ref (X 11), .ref (X 12), .ref (X 13), .ref (X 14), .ref (X 15), .ref (X 16), .ref (X 17), .ref (X 18), .ref (X 19), .int (nI (S.1 20 0)), .ref (X 21), .ref (X 22), .ref (X 23), .ref (X 24), .ref (X 25), .ref (X 26), .ref (X 27), .int cz, .ref (X 29)]) (C := RX10) (T := TX10) (N := 30) hx hb hts in_X10 hown hK hZ m0 rfl 24 (by decide) fl_68 (fun _ h9 => h9) rfl dX10_entry_109 ?_
        refine lv_iconst (v := 3) hx hb dX10_entry_112 (by decide) ?_
        refine lv_iload_n hx hb dX10_entry_113 rfl (lv_at hl 1 rfl) ?_
        refine lv_imul hx hb dX10_entry_114 ?_
        refine lv_iload_n hx hb dX10_entry_115 rfl (lv_at hl 2 rfl) ?_
        refine lv_iadd hx hb dX10_entry_116 ?_
        refine lv_iconst (v := 3) hx hb dX10_entry_117 (by decide) ?_
        refine lv_isub hx hb dX10_entry_118 ?_
        refine z_iald hx hb hK hZ m24 (3 * x.toNatClampNeg + (y.toNatClampNeg - 3)) (en_ix hxj hyk (by omega)) (by omega) (by decide) dX10_entry_119 ?_
        exact z_iret hx hb hr hlocks hZ dX10_entry_120 (mQ_of (by rw [sp_entry, if_pos ⟨c11, c21⟩, hw]; rfl) ⟨_, _, _, hM⟩)
      · have hv : y = 6 := by rw [hyk, hw]; rfl
        refine lv_tableIn (tgt := 93) hx hb dX10_entry_28 (by rw [hv]; decide) (by rw [hv]; decide) (off := 65) (by rw [hv]; rfl) (by decide) ?_
        refine lv_aload_n hx hb dX10_entry_93 rfl (lv_at hl 0 rfl) ?_
        refine z_get (ci := 10) (fs := [.int (nI (S.1 0 0)), .int (nI (S.1 1 0)), .ref (X 2), .ref (X 3), .ref (X 4), .ref (X 5), .ref (X 6), .long S.2.2, .ref (X 8), .ref (X 9), .int (nI (S.1 10 0)), .ref (X 11), .ref (X 12), .ref (X 13), .ref (X 14), .ref (X 15), .ref (X 16), .ref (X 17), .ref (X 18), .ref (X 19), .int (nI (S.1 20 0)), .ref (X 21), .ref (X 22), .ref (X 23), .ref (X 24), .ref (X 25), .ref (X 26), .ref (X 27), .int cz, .ref (X 29)]) (C := RX10) (T := TX10) (N := 30) hx hb hts in_X10 hown hK hZ m0 rfl 26 (by decide) fl_74 (fun _ h9 => h9) rfl dX10_entry_94 ?_
        refine lv_iload_n hx hb dX10_entry_97 rfl (lv_at hl 1 rfl) ?_
        refine z_zald hx hb hK hZ m26 x.toNatClampNeg hxj (by omega) (by decide) dX10_entry_98 ?_
        refine lv_if_eq (tgt := 106) hx hb dX10_entry_99 (by decide) (fun c99 => ?_) (fun c99 => ?_)
        · refine lv_iconst (v := 1) hx hb dX10_entry_106 (by decide) ?_
          exact z_iret hx hb hr hlocks hZ dX10_entry_107 (mQ_of (by rw [sp_entry, if_pos ⟨c11, c21⟩, hw, ev_6, if_pos (n0 (Nat.le_succ_of_le (k26 _)) c99)]) ⟨_, _, _, hM⟩)
        · refine lv_iconst (v := 0) hx hb dX10_entry_102 (by decide) ?_
          refine lv_goto (tgt := 107) hx hb dX10_entry_103 (by decide) ?_
          exact z_iret hx hb hr hlocks hZ dX10_entry_107 (mQ_of (by rw [sp_entry, if_pos ⟨c11, c21⟩, hw, ev_6, if_neg (fun h => c99 (by show nI _ = 0; rw [h]; rfl))]) ⟨_, _, _, hM⟩)
    · refine lv_ldc (v := (-1000000000)) hx hb hown (hts (.constant RX10 131 (-1000000000)) (by decide +kernel)) dX10_entry_24 ?_
      exact z_iret hx hb hr hlocks hZ dX10_entry_26 (mQ_of (by rw [sp_entry, if_neg (fun h => c21 h.2)]) ⟨_, _, _, hM⟩)

set_option maxHeartbeats 4000000 in
set_option maxRecDepth 100000 in
theorem c_X10_work (l : Launch) (D : va_G) (cT : Nat → ClassId) (G : zG) (sz : Nat) (S : zS) (X : Nat → Nat) (cz : Int32) (f27 f29 : Nat → Int32) (nn : Nat) (x y : Int32) (j t : Nat) (hM : MD cT S X cz f27 f29 G) (hXI : XI X) (hS : ok S nn) (hj : j < S.1 1 0) (hxj : x = nI j) (ht : t ≤ S.1 0 0) (hyt : y = nI t) (hl18 : ¬ S.1 18 j = 0) (hlt : S.1 16 j ≤ t) : zM l D cT yX10_work wsX10_work (zR 2 0 0) [.ref (X 0), .int x, .int y] G sz (fun r G' => MD cT S X cz f27 (duT S j f29 (t + 1 - S.1 16 j)) G' ∧ r = none) := by
  refine z_start (cc := cX10_work) (maxL := 7) (ret := none) (by decide) rfl (Nat.le_of_ble_eq_true rfl) ?_
  intro p e s m below meth c ls hI hZ hl
  obtain ⟨hx, hb, hr, hml, hts, hown, hlocks, hname, hK, hA, hE⟩ := hI
  have hl : lv_has ls 7 [(0, .ref (X 0)), (1, .int x), (2, .int y)] := hl
  have hown : s.vm.findClass RX10 = some m.cls := hown
  have in_X10 : ∀ w ∈ u_ws RX10 TX10 30, w ∈ wsX10_work := by decide +kernel
  have fl_47 := hts (.fieldLink RX10 47 "FairRentsModel" "letDay" "[I") (by decide +kernel)
  have fl_50 := hts (.fieldLink RX10 50 "FairRentsModel" "letRent" "[I") (by decide +kernel)
  have fl_53 := hts (.fieldLink RX10 53 "FairRentsModel" "letting" "[I") (by decide +kernel)
  have fl_59 := hts (.fieldLink RX10 59 "FairRentsModel" "entryHome" "[I") (by decide +kernel)
  have fl_62 := hts (.fieldLink RX10 62 "FairRentsModel" "entryDay" "[I") (by decide +kernel)
  have fl_65 := hts (.fieldLink RX10 65 "FairRentsModel" "entryRent" "[I") (by decide +kernel)
  have fl_71 := hts (.fieldLink RX10 71 "FairRentsModel" "entryLetting" "[I") (by decide +kernel)
  have fl_74 := hts (.fieldLink RX10 74 "FairRentsModel" "isGone" "[Z") (by decide +kernel)
  have fl_80 := hts (.fieldLink RX10 80 "FairRentsModel" "dues" "[I") (by decide +kernel)
  have fl_132 := hts (.fieldLink RX10 132 "FairRentsModel" "entries" "I") (by decide +kernel)
  obtain ⟨m0, m2, m3, m4, m5, m6, m8, m9, m11, m12, m13, m14, m15, m16, m17, m18, m19, m21, m22, m23, m24, m25, m26, m27, m29⟩ := id hM
  obtain ⟨⟨k1, k10, k20, k0⟩, kH, k9, k8, k15, k26, kL, kLn, kP, kE, kEm, kn⟩ := id hS
  refine lv_aload_n hx hb dX10_work_0 rfl (lv_at hl 0 rfl) ?_
  refine z_get (ci := 10) (fs := [.int (nI (S.1 0 0)), .int (nI (S.1 1 0)), .ref (X 2), .ref (X 3), .ref (X 4), .ref (X 5), .ref (X 6), .long S.2.2, .ref (X 8), .ref (X 9), .int (nI (S.1 10 0)), .ref (X 11), .ref (X 12), .ref (X 13), .ref (X 14), .ref (X 15), .ref (X 16), .ref (X 17), .ref (X 18), .ref (X 19), .int (nI (S.1 20 0)), .ref (X 21), .ref (X 22), .ref (X 23), .ref (X 24), .ref (X 25), .ref (X 26), .ref (X 27), .int cz, .ref (X 29)]) (C := RX10) (T := TX10) (N := 30) hx hb hts in_X10 hown hK hZ m0 rfl 16 (by decide) fl_47 (fun _ h9 => h9) rfl dX10_work_1 ?_
  refine lv_iload_n hx hb dX10_work_4 rfl (lv_at hl 1 rfl) ?_
  refine z_iald hx hb hK hZ m16 j hxj (by omega) (by decide) dX10_work_5 ?_
  refine W.eq (congrArg (fun v => F0 m 6 ls (.int v :: [])) (show _ = nI (S.1 16 j + 0) from cL_nz hl18)) ?_
  refine W.eq (g2 := F0 m 6 ls [.int (nI (S.1 16 j + 0))]) rfl ?_
  refine lv_istore_n (lv' := [(3, .int (nI (S.1 16 j + 0))), (0, .ref (X 0)), (1, .int x), (2, .int y)]) hx hb dX10_work_6 rfl hl (by decide) rfl (fun ls hl => ?_)
  have loop7 : ∀ (q k : Nat) (G1 : zG) (hq : S.1 16 j + k + q = t + 1) (hM1 : MD cT S X cz f27 (duT S j f29 k) G1) (H : Heap) (locs : List Loc) (ls : Array Slot), zW D (zA G sz) s.heap G1 H locs → lv_has ls 7 [(3, .int (nI (S.1 16 j + k))), (0, .ref (X 0)), (1, .int x), (2, .int y)] → W p l e (zR 2 0 0) s m ([.ref (X 0), .int x, .int y] : List Value).toArray below meth c H locs 0 0 (MQ below (zQ D G sz (fun r G' => MD cT S X cz f27 (duT S j f29 (t + 1 - S.1 16 j)) G' ∧ r = none)) ([.ref (X 0), .int x, .int y] : List Value).toArray s 0 0 (zA G sz)) (F0 m 7 ls []) := by
    intro q
    induction q with
    | zero =>
      intro k G1 hq hM1 H locs ls hZ hl
      obtain ⟨m0, m2, m3, m4, m5, m6, m8, m9, m11, m12, m13, m14, m15, m16, m17, m18, m19, m21, m22, m23, m24, m25, m26, m27, m29⟩ := id hM1
      refine lv_iload_n hx hb dX10_work_7 rfl (lv_at hl 0 rfl) ?_
      refine lv_iload_n hx hb dX10_work_8 rfl (lv_at hl 3 rfl) ?_
      refine lv_icmp_gt (tgt := 220) hx hb dX10_work_9 (by decide) (fun _ => ?_) (fun c9 => absurd (by rw [hyt]; exact nI_lt (by omega) (by omega)) c9)
      exact z_vret hx hb hr hlocks hZ dX10_work_220 (⟨by rw [show t + 1 - S.1 16 j = k by omega]; exact hM1, rfl⟩)
    | succ q ih7 =>
      intro k G1 hq hM1 H locs ls hZ hl
      obtain ⟨m0, m2, m3, m4, m5, m6, m8, m9, m11, m12, m13, m14, m15, m16, m17, m18, m19, m21, m22, m23, m24, m25, m26, m27, m29⟩ := id hM1
      refine lv_iload_n hx hb dX10_work_7 rfl (lv_at hl 0 rfl) ?_
      refine lv_iload_n hx hb dX10_work_8 rfl (lv_at hl 3 rfl) ?_
      refine lv_icmp_gt (tgt := 220) hx hb dX10_work_9 (by decide) (fun c9 => absurd c9 (by rw [hyt]; exact nI_nlt (by omega) (by omega))) (fun _ => ?_)
      refine lv_aload_n hx hb dX10_work_12 rfl (lv_at hl 1 rfl) ?_
      refine z_get (ci := 10) (fs := [.int (nI (S.1 0 0)), .int (nI (S.1 1 0)), .ref (X 2), .ref (X 3), .ref (X 4), .ref (X 5), .ref (X 6), .long S.2.2, .ref (X 8), .ref (X 9), .int (nI (S.1 10 0)), .ref (X 11), .ref (X 12), .ref (X 13), .ref (X 14), .ref (X 15), .ref (X 16), .ref (X 17), .ref (X 18), .ref (X 19), .int (nI (S.1 20 0)), .ref (X 21), .ref (X 22), .ref (X 23), .ref (X 24), .ref (X 25), .ref (X 26), .ref (X 27), .int cz, .ref (X 29)]) (C := RX10) (T := TX10) (N := 30) hx hb hts in_X10 hown hK hZ m0 rfl 20 (by decide) fl_132 (fun _ h9 => h9) rfl dX10_work_13 ?_
      refine lv_iconst (v := 1) hx hb dX10_work_16 (by decide) ?_
      refine lv_isub hx hb dX10_work_17 ?_
      refine lv_istore (lv' := [(4, .int ((nI (S.1 20 0)) - 1)), (3, .int (nI (S.1 16 j + k))), (0, .ref (X 0)), (1, .int x), (2, .int y)]) hx hb dX10_work_18 hl (by decide) rfl (fun ls hl => ?_)
      have loop20 : ∀ (e2 : Nat) (he : e2 ≤ S.1 20 0) (hbd : bndS S j (S.1 16 j + k) e2 = bndS S j (S.1 16 j + k) (S.1 20 0)) (H : Heap) (locs : List Loc) (ls : Array Slot), zW D (zA G sz) s.heap G1 H locs → lv_has ls 7 [(4, .int (nI e2 - 1)), (3, .int (nI (S.1 16 j + k))), (0, .ref (X 0)), (1, .int x), (2, .int y)] → W p l e (zR 2 0 0) s m ([.ref (X 0), .int x, .int y] : List Value).toArray below meth c H locs 0 0 (MQ below (zQ D G sz (fun r G' => MD cT S X cz f27 (duT S j f29 (t + 1 - S.1 16 j)) G' ∧ r = none)) ([.ref (X 0), .int x, .int y] : List Value).toArray s 0 0 (zA G sz)) (F0 m 20 ls []) := by
        intro e2
        induction e2 with
        | zero =>
          intro he hbd H locs ls hZ hl
          refine lv_iload hx hb dX10_work_20 (lv_at hl 0 rfl) ?_
          refine lv_if_lt (tgt := 79) hx hb dX10_work_22 (by decide) (fun _ => ?_) (fun c22 => absurd (show nI 0 - 1 < 0 by decide) c22)
          refine lv_iload hx hb dX10_work_79 (lv_at hl 0 rfl) ?_
          refine lv_if_ge (tgt := 99) hx hb dX10_work_81 (by decide) (fun c81 => absurd c81 (show ¬ 0 ≤ nI 0 - 1 by decide)) (fun _ => ?_)
          refine lv_aload_n hx hb dX10_work_84 rfl (lv_at hl 2 rfl) ?_
          refine z_get (ci := 10) (fs := [.int (nI (S.1 0 0)), .int (nI (S.1 1 0)), .ref (X 2), .ref (X 3), .ref (X 4), .ref (X 5), .ref (X 6), .long S.2.2, .ref (X 8), .ref (X 9), .int (nI (S.1 10 0)), .ref (X 11), .ref (X 12), .ref (X 13), .ref (X 14), .ref (X 15), .ref (X 16), .ref (X 17), .ref (X 18), .ref (X 19), .int (nI (S.1 20 0)), .ref (X 21), .ref (X 22), .ref (X 23), .ref (X 24), .ref (X 25), .ref (X 26), .ref (X 27), .int cz, .ref (X 29)]) (C := RX10) (T := TX10) (N := 30) hx hb hts in_X10 hown hK hZ m0 rfl 29 (by decide) fl_80 (fun _ h9 => h9) rfl dX10_work_85 ?_
          refine lv_iload_n hx hb dX10_work_88 rfl (lv_at hl 1 rfl) ?_
          refine lv_aload_n hx hb dX10_work_89 rfl (lv_at hl 2 rfl) ?_
          refine z_get (ci := 10) (fs := [.int (nI (S.1 0 0)), .int (nI (S.1 1 0)), .ref (X 2), .ref (X 3), .ref (X 4), .ref (X 5), .ref (X 6), .long S.2.2, .ref (X 8), .ref (X 9), .int (nI (S.1 10 0)), .ref (X 11), .ref (X 12), .ref (X 13), .ref (X 14), .ref (X 15), .ref (X 16), .ref (X 17), .ref (X 18), .ref (X 19), .int (nI (S.1 20 0)), .ref (X 21), .ref (X 22), .ref (X 23), .ref (X 24), .ref (X 25), .ref (X 26), .ref (X 27), .int cz, .ref (X 29)]) (C := RX10) (T := TX10) (N := 30) hx hb hts in_X10 hown hK hZ m0 rfl 17 (by decide) fl_50 (fun _ h9 => h9) rfl dX10_work_90 ?_
          refine lv_iload_n hx hb dX10_work_93 rfl (lv_at hl 3 rfl) ?_
          refine z_iald hx hb hK hZ m17 j hxj (by omega) (by decide) dX10_work_94 ?_
          refine W.eq (congrArg (fun v => F0 m 95 ls (.int v :: [.int (nI (S.1 16 j + k)), .ref (X 29)])) (show _ = dv S j (S.1 16 j + k) (duT S j f29 k) from dv_n (hbd.symm))) ?_
          refine W.eq (g2 := F0 m 95 ls [.int (dv S j (S.1 16 j + k) (duT S j f29 k)), .int (nI (S.1 16 j + k)), .ref (X 29)]) rfl ?_
          refine z_iast hx hb hK hZ m29 (S.1 16 j + k) rfl (by omega) (by decide) dX10_work_95 (fun H locs hZ => ?_)
          refine lv_goto (tgt := 214) hx hb dX10_work_96 (by decide) ?_
          refine lv_iinc (v := nI (S.1 16 j + (k + 1))) (lv' := [(3, .int (nI (S.1 16 j + (k + 1)))), (4, .int (nI 0 - 1)), (0, .ref (X 0)), (1, .int x), (2, .int y)]) hx hb dX10_work_214 hl (k := 1) rfl (nI_1 _) (by decide) rfl (fun ls hl => ?_)
          refine lv_goto (tgt := 7) hx hb dX10_work_217 (by decide) ?_
          exact ih7 (k + 1) _ (by omega) ⟨((va_up_ne _ _ (fun q => absurd (hXI 0 29 (by decide) (by decide) q) (by decide))).trans m0), ((va_up_ne _ _ (fun q => absurd (hXI 2 29 (by decide) (by decide) q) (by decide))).trans m2), ((va_up_ne _ _ (fun q => absurd (hXI 3 29 (by decide) (by decide) q) (by decide))).trans m3), ((va_up_ne _ _ (fun q => absurd (hXI 4 29 (by decide) (by decide) q) (by decide))).trans m4), ((va_up_ne _ _ (fun q => absurd (hXI 5 29 (by decide) (by decide) q) (by decide))).trans m5), ((va_up_ne _ _ (fun q => absurd (hXI 6 29 (by decide) (by decide) q) (by decide))).trans m6), ((va_up_ne _ _ (fun q => absurd (hXI 8 29 (by decide) (by decide) q) (by decide))).trans m8), ((va_up_ne _ _ (fun q => absurd (hXI 9 29 (by decide) (by decide) q) (by decide))).trans m9), ((va_up_ne _ _ (fun q => absurd (hXI 11 29 (by decide) (by decide) q) (by decide))).trans m11), ((va_up_ne _ _ (fun q => absurd (hXI 12 29 (by decide) (by decide) q) (by decide))).trans m12), ((va_up_ne _ _ (fun q => absurd (hXI 13 29 (by decide) (by decide) q) (by decide))).trans m13), ((va_up_ne _ _ (fun q => absurd (hXI 14 29 (by decide) (by decide) q) (by decide))).trans m14), ((va_up_ne _ _ (fun q => absurd (hXI 15 29 (by decide) (by decide) q) (by decide))).trans m15), ((va_up_ne _ _ (fun q => absurd (hXI 16 29 (by decide) (by decide) q) (by decide))).trans m16), ((va_up_ne _ _ (fun q => absurd (hXI 17 29 (by decide) (by decide) q) (by decide))).trans m17), ((va_up_ne _ _ (fun q => absurd (hXI 18 29 (by decide) (by decide) q) (by decide))).trans m18), ((va_up_ne _ _ (fun q => absurd (hXI 19 29 (by decide) (by decide) q) (by decide))).trans m19), ((va_up_ne _ _ (fun q => absurd (hXI 21 29 (by decide) (by decide) q) (by decide))).trans m21), ((va_up_ne _ _ (fun q => absurd (hXI 22 29 (by decide) (by decide) q) (by decide))).trans m22), ((va_up_ne _ _ (fun q => absurd (hXI 23 29 (by decide) (by decide) q) (by decide))).trans m23), ((va_up_ne _ _ (fun q => absurd (hXI 24 29 (by decide) (by decide) q) (by decide))).trans m24), ((va_up_ne _ _ (fun q => absurd (hXI 25 29 (by decide) (by decide) q) (by decide))).trans m25), ((va_up_ne _ _ (fun q => absurd (hXI 26 29 (by decide) (by decide) q) (by decide))).trans m26), ((va_up_ne _ _ (fun q => absurd (hXI 27 29 (by decide) (by decide) q) (by decide))).trans m27), (va_up_self _ _ _)⟩ _ _ _ hZ (lv_sub hl [0, 2, 3, 4] rfl)
        | succ e2 ih20 =>
          intro he hbd H locs ls hZ hl
          rw [nI_pred] at hl
          obtain ⟨w1, w2, w3, w4⟩ := kE e2 (by omega)
          refine lv_iload hx hb dX10_work_20 (lv_at hl 0 rfl) ?_
          refine lv_if_lt (tgt := 79) hx hb dX10_work_22 (by decide) (fun c22 => absurd c22 (nI_pos (by omega))) (fun _ => ?_)
          refine lv_aload_n hx hb dX10_work_25 rfl (lv_at hl 2 rfl) ?_
          refine z_get (ci := 10) (fs := [.int (nI (S.1 0 0)), .int (nI (S.1 1 0)), .ref (X 2), .ref (X 3), .ref (X 4), .ref (X 5), .ref (X 6), .long S.2.2, .ref (X 8), .ref (X 9), .int (nI (S.1 10 0)), .ref (X 11), .ref (X 12), .ref (X 13), .ref (X 14), .ref (X 15), .ref (X 16), .ref (X 17), .ref (X 18), .ref (X 19), .int (nI (S.1 20 0)), .ref (X 21), .ref (X 22), .ref (X 23), .ref (X 24), .ref (X 25), .ref (X 26), .ref (X 27), .int cz, .ref (X 29)]) (C := RX10) (T := TX10) (N := 30) hx hb hts in_X10 hown hK hZ m0 rfl 21 (by decide) fl_59 (fun _ h9 => h9) rfl dX10_work_26 ?_
          refine lv_iload hx hb dX10_work_29 (lv_at hl 0 rfl) ?_
          refine z_iald hx hb hK hZ m21 e2 rfl (by omega) (by decide) dX10_work_31 ?_
          refine lv_iload_n hx hb dX10_work_32 rfl (lv_at hl 3 rfl) ?_
          refine lv_icmp_ne (tgt := 73) hx hb dX10_work_33 (by decide) (fun c33 => ?_) (fun c33 => ?_)
          · refine lv_iinc (v := nI e2 - 1) (lv' := [(4, .int (nI e2 - 1)), (3, .int (nI (S.1 16 j + k))), (0, .ref (X 0)), (1, .int x), (2, .int y)]) hx hb dX10_work_73 hl (k := 0) rfl (nI_m1 e2) (by decide) rfl (fun ls hl => ?_)
            refine lv_goto (tgt := 20) hx hb dX10_work_76 (by decide) ?_
            exact ih20 (by omega) (by rw [← hbd, bndS, if_neg (fun h => c33 (by rw [hxj]; show nI _ = _; rw [h.1]))]) _ _ _ hZ (lv_sub hl [0, 1, 2, 3, 4] rfl)
          · refine lv_aload_n hx hb dX10_work_36 rfl (lv_at hl 2 rfl) ?_
            refine z_get (ci := 10) (fs := [.int (nI (S.1 0 0)), .int (nI (S.1 1 0)), .ref (X 2), .ref (X 3), .ref (X 4), .ref (X 5), .ref (X 6), .long S.2.2, .ref (X 8), .ref (X 9), .int (nI (S.1 10 0)), .ref (X 11), .ref (X 12), .ref (X 13), .ref (X 14), .ref (X 15), .ref (X 16), .ref (X 17), .ref (X 18), .ref (X 19), .int (nI (S.1 20 0)), .ref (X 21), .ref (X 22), .ref (X 23), .ref (X 24), .ref (X 25), .ref (X 26), .ref (X 27), .int cz, .ref (X 29)]) (C := RX10) (T := TX10) (N := 30) hx hb hts in_X10 hown hK hZ m0 rfl 26 (by decide) fl_74 (fun _ h9 => h9) rfl dX10_work_37 ?_
            refine lv_iload hx hb dX10_work_40 (lv_at hl 0 rfl) ?_
            refine z_zald hx hb hK hZ m26 e2 rfl (by omega) (by decide) dX10_work_42 ?_
            refine lv_if_ne (tgt := 73) hx hb dX10_work_43 (by decide) (fun c43 => ?_) (fun c43 => ?_)
            · refine lv_iinc (v := nI e2 - 1) (lv' := [(4, .int (nI e2 - 1)), (3, .int (nI (S.1 16 j + k))), (0, .ref (X 0)), (1, .int x), (2, .int y)]) hx hb dX10_work_73 hl (k := 0) rfl (nI_m1 e2) (by decide) rfl (fun ls hl => ?_)
              refine lv_goto (tgt := 20) hx hb dX10_work_76 (by decide) ?_
              exact ih20 (by omega) (by rw [← hbd, bndS, if_neg (fun h => c43 (by show nI _ = 0; rw [h.2.1]; rfl))]) _ _ _ hZ (lv_sub hl [0, 1, 2, 3, 4] rfl)
            · refine lv_aload_n hx hb dX10_work_46 rfl (lv_at hl 2 rfl) ?_
              refine z_get (ci := 10) (fs := [.int (nI (S.1 0 0)), .int (nI (S.1 1 0)), .ref (X 2), .ref (X 3), .ref (X 4), .ref (X 5), .ref (X 6), .long S.2.2, .ref (X 8), .ref (X 9), .int (nI (S.1 10 0)), .ref (X 11), .ref (X 12), .ref (X 13), .ref (X 14), .ref (X 15), .ref (X 16), .ref (X 17), .ref (X 18), .ref (X 19), .int (nI (S.1 20 0)), .ref (X 21), .ref (X 22), .ref (X 23), .ref (X 24), .ref (X 25), .ref (X 26), .ref (X 27), .int cz, .ref (X 29)]) (C := RX10) (T := TX10) (N := 30) hx hb hts in_X10 hown hK hZ m0 rfl 25 (by decide) fl_71 (fun _ h9 => h9) rfl dX10_work_47 ?_
              refine lv_iload hx hb dX10_work_50 (lv_at hl 0 rfl) ?_
              refine z_iald hx hb hK hZ m25 e2 rfl (by omega) (by decide) dX10_work_52 ?_
              refine lv_aload_n hx hb dX10_work_53 rfl (lv_at hl 2 rfl) ?_
              refine z_get (ci := 10) (fs := [.int (nI (S.1 0 0)), .int (nI (S.1 1 0)), .ref (X 2), .ref (X 3), .ref (X 4), .ref (X 5), .ref (X 6), .long S.2.2, .ref (X 8), .ref (X 9), .int (nI (S.1 10 0)), .ref (X 11), .ref (X 12), .ref (X 13), .ref (X 14), .ref (X 15), .ref (X 16), .ref (X 17), .ref (X 18), .ref (X 19), .int (nI (S.1 20 0)), .ref (X 21), .ref (X 22), .ref (X 23), .ref (X 24), .ref (X 25), .ref (X 26), .ref (X 27), .int cz, .ref (X 29)]) (C := RX10) (T := TX10) (N := 30) hx hb hts in_X10 hown hK hZ m0 rfl 18 (by decide) fl_53 (fun _ h9 => h9) rfl dX10_work_54 ?_
              refine lv_iload_n hx hb dX10_work_57 rfl (lv_at hl 3 rfl) ?_
              refine z_iald hx hb hK hZ m18 j hxj (by omega) (by decide) dX10_work_58 ?_
              refine lv_icmp_ne (tgt := 73) hx hb dX10_work_59 (by decide) (fun c59 => ?_) (fun c59 => ?_)
              · refine lv_iinc (v := nI e2 - 1) (lv' := [(4, .int (nI e2 - 1)), (3, .int (nI (S.1 16 j + k))), (0, .ref (X 0)), (1, .int x), (2, .int y)]) hx hb dX10_work_73 hl (k := 0) rfl (nI_m1 e2) (by decide) rfl (fun ls hl => ?_)
                refine lv_goto (tgt := 20) hx hb dX10_work_76 (by decide) ?_
                exact ih20 (by omega) (by rw [← hbd, bndS, if_neg (fun h => c59 (by show nI _ = nI _; rw [h.2.2.1]))]) _ _ _ hZ (lv_sub hl [0, 1, 2, 3, 4] rfl)
              · refine lv_aload_n hx hb dX10_work_62 rfl (lv_at hl 2 rfl) ?_
                refine z_get (ci := 10) (fs := [.int (nI (S.1 0 0)), .int (nI (S.1 1 0)), .ref (X 2), .ref (X 3), .ref (X 4), .ref (X 5), .ref (X 6), .long S.2.2, .ref (X 8), .ref (X 9), .int (nI (S.1 10 0)), .ref (X 11), .ref (X 12), .ref (X 13), .ref (X 14), .ref (X 15), .ref (X 16), .ref (X 17), .ref (X 18), .ref (X 19), .int (nI (S.1 20 0)), .ref (X 21), .ref (X 22), .ref (X 23), .ref (X 24), .ref (X 25), .ref (X 26), .ref (X 27), .int cz, .ref (X 29)]) (C := RX10) (T := TX10) (N := 30) hx hb hts in_X10 hown hK hZ m0 rfl 22 (by decide) fl_62 (fun _ h9 => h9) rfl dX10_work_63 ?_
                refine lv_iload hx hb dX10_work_66 (lv_at hl 0 rfl) ?_
                refine z_iald hx hb hK hZ m22 e2 rfl (by omega) (by decide) dX10_work_68 ?_
                refine lv_iload_n hx hb dX10_work_69 rfl (lv_at hl 1 rfl) ?_
                refine lv_icmp_le (tgt := 79) hx hb dX10_work_70 (by decide) (fun c70 => ?_) (fun c70 => ?_)
                · refine lv_iload hx hb dX10_work_79 (lv_at hl 0 rfl) ?_
                  refine lv_if_ge (tgt := 99) hx hb dX10_work_81 (by decide) (fun _ => ?_) (fun c81 => absurd (nI_pos' (by omega)) c81)
                  have hbb : bndS S j (S.1 16 j + k) (S.1 20 0) = some e2 := by rw [← hbd, bndS, if_pos ⟨nI_inj (by omega) (by omega) (c33.trans hxj), n0 (Nat.le_succ_of_le (k26 _)) c43, nI_inj (by have := (kL (S.1 21 e2)).1; omega) (by have := (kL j).1; omega) c59, (nI_leI (by omega) (by omega)).mp c70⟩]
                  obtain ⟨b1, b2, b3, b4, b5⟩ := bnd_some hbb
                  have hge : S.1 16 j ≤ S.1 22 e2 := by rw [b2] at w4; exact w4 b4
                  have hle22 : S.1 22 e2 ≤ S.1 16 j + k := b5
                  refine lv_aload_n hx hb dX10_work_99 rfl (lv_at hl 2 rfl) ?_
                  refine z_get (ci := 10) (fs := [.int (nI (S.1 0 0)), .int (nI (S.1 1 0)), .ref (X 2), .ref (X 3), .ref (X 4), .ref (X 5), .ref (X 6), .long S.2.2, .ref (X 8), .ref (X 9), .int (nI (S.1 10 0)), .ref (X 11), .ref (X 12), .ref (X 13), .ref (X 14), .ref (X 15), .ref (X 16), .ref (X 17), .ref (X 18), .ref (X 19), .int (nI (S.1 20 0)), .ref (X 21), .ref (X 22), .ref (X 23), .ref (X 24), .ref (X 25), .ref (X 26), .ref (X 27), .int cz, .ref (X 29)]) (C := RX10) (T := TX10) (N := 30) hx hb hts in_X10 hown hK hZ m0 rfl 22 (by decide) fl_62 (fun _ h9 => h9) rfl dX10_work_100 ?_
                  refine lv_iload hx hb dX10_work_103 (lv_at hl 0 rfl) ?_
                  refine z_iald hx hb hK hZ m22 e2 rfl (by omega) (by decide) dX10_work_105 ?_
                  refine lv_aload_n hx hb dX10_work_106 rfl (lv_at hl 2 rfl) ?_
                  refine z_get (ci := 10) (fs := [.int (nI (S.1 0 0)), .int (nI (S.1 1 0)), .ref (X 2), .ref (X 3), .ref (X 4), .ref (X 5), .ref (X 6), .long S.2.2, .ref (X 8), .ref (X 9), .int (nI (S.1 10 0)), .ref (X 11), .ref (X 12), .ref (X 13), .ref (X 14), .ref (X 15), .ref (X 16), .ref (X 17), .ref (X 18), .ref (X 19), .int (nI (S.1 20 0)), .ref (X 21), .ref (X 22), .ref (X 23), .ref (X 24), .ref (X 25), .ref (X 26), .ref (X 27), .int cz, .ref (X 29)]) (C := RX10) (T := TX10) (N := 30) hx hb hts in_X10 hown hK hZ m0 rfl 16 (by decide) fl_47 (fun _ h9 => h9) rfl dX10_work_107 ?_
                  refine lv_iload_n hx hb dX10_work_110 rfl (lv_at hl 3 rfl) ?_
                  refine z_iald hx hb hK hZ m16 j hxj (by omega) (by decide) dX10_work_111 ?_
                  refine W.eq (congrArg (fun v => F0 m 112 ls (.int v :: [.int (nI (S.1 22 e2))])) (show _ = nI (S.1 16 j) from cL_nz hl18)) ?_
                  refine W.eq (g2 := F0 m 112 ls [.int (nI (S.1 16 j)), .int (nI (S.1 22 e2))]) rfl ?_
                  refine lv_icmp_ne (tgt := 124) hx hb dX10_work_112 (by decide) (fun c112 => ?_) (fun c112 => ?_)
                  · have hne : ¬ S.1 22 e2 = S.1 16 j := fun h => c112 (by show nI _ = nI _; rw [h])
                    refine lv_aload_n hx hb dX10_work_124 rfl (lv_at hl 2 rfl) ?_
                    refine z_get (ci := 10) (fs := [.int (nI (S.1 0 0)), .int (nI (S.1 1 0)), .ref (X 2), .ref (X 3), .ref (X 4), .ref (X 5), .ref (X 6), .long S.2.2, .ref (X 8), .ref (X 9), .int (nI (S.1 10 0)), .ref (X 11), .ref (X 12), .ref (X 13), .ref (X 14), .ref (X 15), .ref (X 16), .ref (X 17), .ref (X 18), .ref (X 19), .int (nI (S.1 20 0)), .ref (X 21), .ref (X 22), .ref (X 23), .ref (X 24), .ref (X 25), .ref (X 26), .ref (X 27), .int cz, .ref (X 29)]) (C := RX10) (T := TX10) (N := 30) hx hb hts in_X10 hown hK hZ m0 rfl 29 (by decide) fl_80 (fun _ h9 => h9) rfl dX10_work_125 ?_
                    refine lv_aload_n hx hb dX10_work_128 rfl (lv_at hl 2 rfl) ?_
                    refine z_get (ci := 10) (fs := [.int (nI (S.1 0 0)), .int (nI (S.1 1 0)), .ref (X 2), .ref (X 3), .ref (X 4), .ref (X 5), .ref (X 6), .long S.2.2, .ref (X 8), .ref (X 9), .int (nI (S.1 10 0)), .ref (X 11), .ref (X 12), .ref (X 13), .ref (X 14), .ref (X 15), .ref (X 16), .ref (X 17), .ref (X 18), .ref (X 19), .int (nI (S.1 20 0)), .ref (X 21), .ref (X 22), .ref (X 23), .ref (X 24), .ref (X 25), .ref (X 26), .ref (X 27), .int cz, .ref (X 29)]) (C := RX10) (T := TX10) (N := 30) hx hb hts in_X10 hown hK hZ m0 rfl 22 (by decide) fl_62 (fun _ h9 => h9) rfl dX10_work_129 ?_
                    refine lv_iload hx hb dX10_work_132 (lv_at hl 0 rfl) ?_
                    refine z_iald hx hb hK hZ m22 e2 rfl (by omega) (by decide) dX10_work_134 ?_
                    refine lv_iconst (v := 1) hx hb dX10_work_135 (by decide) ?_
                    refine lv_isub hx hb dX10_work_136 ?_
                    refine z_iald hx hb hK hZ m29 (S.1 22 e2 - 1) (nI_sub1 (by omega)) (by omega) (by decide) dX10_work_137 ?_
                    refine W.eq (congrArg (fun v => F0 m 138 ls (.int v :: [])) (show _ = if S.1 22 e2 = S.1 16 j then S.2.1 17 j else duT S j f29 k (S.1 22 e2 - 1) from by rw [if_neg hne])) ?_
                    refine W.eq (g2 := F0 m 138 ls [.int (if S.1 22 e2 = S.1 16 j then S.2.1 17 j else duT S j f29 k (S.1 22 e2 - 1))]) rfl ?_
                    refine lv_istore (lv' := [(5, .int (if S.1 22 e2 = S.1 16 j then S.2.1 17 j else duT S j f29 k (S.1 22 e2 - 1))), (4, .int (nI e2)), (3, .int (nI (S.1 16 j + k))), (0, .ref (X 0)), (1, .int x), (2, .int y)]) hx hb dX10_work_138 hl (by decide) rfl (fun ls hl => ?_)
                    refine lv_iload hx hb dX10_work_140 (lv_at hl 0 rfl) ?_
                    refine lv_aload_n hx hb dX10_work_142 rfl (lv_at hl 3 rfl) ?_
                    refine lv_aload_n hx hb dX10_work_143 rfl (lv_at hl 3 rfl) ?_
                    refine z_get (ci := 10) (fs := [.int (nI (S.1 0 0)), .int (nI (S.1 1 0)), .ref (X 2), .ref (X 3), .ref (X 4), .ref (X 5), .ref (X 6), .long S.2.2, .ref (X 8), .ref (X 9), .int (nI (S.1 10 0)), .ref (X 11), .ref (X 12), .ref (X 13), .ref (X 14), .ref (X 15), .ref (X 16), .ref (X 17), .ref (X 18), .ref (X 19), .int (nI (S.1 20 0)), .ref (X 21), .ref (X 22), .ref (X 23), .ref (X 24), .ref (X 25), .ref (X 26), .ref (X 27), .int cz, .ref (X 29)]) (C := RX10) (T := TX10) (N := 30) hx hb hts in_X10 hown hK hZ m0 rfl 22 (by decide) fl_62 (fun _ h9 => h9) rfl dX10_work_144 ?_
                    refine lv_iload hx hb dX10_work_147 (lv_at hl 1 rfl) ?_
                    refine z_iald hx hb hK hZ m22 e2 rfl (by omega) (by decide) dX10_work_149 ?_
                    refine lv_iconst (v := 5) hx hb dX10_work_150 (by decide) ?_
                    refine z_call (va_runV (As := [.int (nI (S.1 22 e2)), .int 5]) (rest := [.int (if S.1 22 e2 = S.1 16 j then S.2.1 17 j else duT S j f29 k (S.1 22 e2 - 1))]) ⟨hx, hb, hml, hown, hts⟩ (c_X10_lawOf l D cT _ _ S X _ _ _ nn (nI (S.1 22 e2)) 5 (S.1 22 e2) 5 hM1 hXI hS (by omega) rfl (by decide) rfl) (cwV 2 hts gX10_work_X10_lawOf rfl rfl rfl (by decide +kernel) ⟨(Nat.le_of_ble_eq_true rfl), (Nat.le_of_ble_eq_true rfl)⟩) (z_preV hK hE hZ hA (ci := 10) rfl m0) rfl rfl hl.1 rfl (lv_room (Nat.le_of_ble_eq_true rfl)) dX10_work_151 ⟨(Nat.le_of_ble_eq_true rfl), (Nat.le_of_ble_eq_true rfl)⟩) hZ hA (fun r G151 H locs hq hZ => ?_)
                    obtain ⟨hg, rfl⟩ := hq
                    replace hg := hg.symm
                    subst hg
                    refine W.eq (g2 := F0 m 154 ls [.int (lw S (S.1 22 e2) 5), .int (if S.1 22 e2 = S.1 16 j then S.2.1 17 j else duT S j f29 k (S.1 22 e2 - 1))]) rfl ?_
                    refine lv_iload_n hx hb dX10_work_154 rfl (lv_at hl 2 rfl) ?_
                    refine lv_aload_n hx hb dX10_work_155 rfl (lv_at hl 3 rfl) ?_
                    refine z_get (ci := 10) (fs := [.int (nI (S.1 0 0)), .int (nI (S.1 1 0)), .ref (X 2), .ref (X 3), .ref (X 4), .ref (X 5), .ref (X 6), .long S.2.2, .ref (X 8), .ref (X 9), .int (nI (S.1 10 0)), .ref (X 11), .ref (X 12), .ref (X 13), .ref (X 14), .ref (X 15), .ref (X 16), .ref (X 17), .ref (X 18), .ref (X 19), .int (nI (S.1 20 0)), .ref (X 21), .ref (X 22), .ref (X 23), .ref (X 24), .ref (X 25), .ref (X 26), .ref (X 27), .int cz, .ref (X 29)]) (C := RX10) (T := TX10) (N := 30) hx hb hts in_X10 hown hK hZ m0 rfl 22 (by decide) fl_62 (fun _ h9 => h9) rfl dX10_work_156 ?_
                    refine lv_iload hx hb dX10_work_159 (lv_at hl 1 rfl) ?_
                    refine z_iald hx hb hK hZ m22 e2 rfl (by omega) (by decide) dX10_work_161 ?_
                    refine lv_isub hx hb dX10_work_162 ?_
                    refine lv_bipush (v := 10) hx hb dX10_work_163 (by decide) ?_
                    refine lv_idiv hx hb dX10_work_165 (by decide) ?_
                    refine lv_iconst (v := 1) hx hb dX10_work_166 (by decide) ?_
                    refine lv_iadd hx hb dX10_work_167 ?_
                    refine lv_imul hx hb dX10_work_168 ?_
                    refine lv_iadd hx hb dX10_work_169 ?_
                    refine W.eq (congrArg (fun v => F0 m 170 ls (.int v :: [])) (show _ = (if S.1 22 e2 = S.1 16 j then S.2.1 17 j else duT S j f29 k (S.1 22 e2 - 1)) + lw S (S.1 22 e2) 5 * nI ((S.1 16 j + k - S.1 22 e2) / 10 + 1) from ris_e _ _ hle22 (by omega))) ?_
                    refine W.eq (g2 := F0 m 170 ls [.int ((if S.1 22 e2 = S.1 16 j then S.2.1 17 j else duT S j f29 k (S.1 22 e2 - 1)) + lw S (S.1 22 e2) 5 * nI ((S.1 16 j + k - S.1 22 e2) / 10 + 1))]) rfl ?_
                    refine lv_istore (lv' := [(6, .int ((if S.1 22 e2 = S.1 16 j then S.2.1 17 j else duT S j f29 k (S.1 22 e2 - 1)) + lw S (S.1 22 e2) 5 * nI ((S.1 16 j + k - S.1 22 e2) / 10 + 1))), (5, .int (if S.1 22 e2 = S.1 16 j then S.2.1 17 j else duT S j f29 k (S.1 22 e2 - 1))), (4, .int (nI e2)), (3, .int (nI (S.1 16 j + k))), (0, .ref (X 0)), (1, .int x), (2, .int y)]) hx hb dX10_work_170 hl (by decide) rfl (fun ls hl => ?_)
                    refine lv_aload_n hx hb dX10_work_172 rfl (lv_at hl 4 rfl) ?_
                    refine z_get (ci := 10) (fs := [.int (nI (S.1 0 0)), .int (nI (S.1 1 0)), .ref (X 2), .ref (X 3), .ref (X 4), .ref (X 5), .ref (X 6), .long S.2.2, .ref (X 8), .ref (X 9), .int (nI (S.1 10 0)), .ref (X 11), .ref (X 12), .ref (X 13), .ref (X 14), .ref (X 15), .ref (X 16), .ref (X 17), .ref (X 18), .ref (X 19), .int (nI (S.1 20 0)), .ref (X 21), .ref (X 22), .ref (X 23), .ref (X 24), .ref (X 25), .ref (X 26), .ref (X 27), .int cz, .ref (X 29)]) (C := RX10) (T := TX10) (N := 30) hx hb hts in_X10 hown hK hZ m0 rfl 29 (by decide) fl_80 (fun _ h9 => h9) rfl dX10_work_173 ?_
                    refine lv_iload_n hx hb dX10_work_176 rfl (lv_at hl 3 rfl) ?_
                    refine lv_aload_n hx hb dX10_work_177 rfl (lv_at hl 4 rfl) ?_
                    refine z_get (ci := 10) (fs := [.int (nI (S.1 0 0)), .int (nI (S.1 1 0)), .ref (X 2), .ref (X 3), .ref (X 4), .ref (X 5), .ref (X 6), .long S.2.2, .ref (X 8), .ref (X 9), .int (nI (S.1 10 0)), .ref (X 11), .ref (X 12), .ref (X 13), .ref (X 14), .ref (X 15), .ref (X 16), .ref (X 17), .ref (X 18), .ref (X 19), .int (nI (S.1 20 0)), .ref (X 21), .ref (X 22), .ref (X 23), .ref (X 24), .ref (X 25), .ref (X 26), .ref (X 27), .int cz, .ref (X 29)]) (C := RX10) (T := TX10) (N := 30) hx hb hts in_X10 hown hK hZ m0 rfl 23 (by decide) fl_65 (fun _ h9 => h9) rfl dX10_work_178 ?_
                    refine lv_iload hx hb dX10_work_181 (lv_at hl 2 rfl) ?_
                    refine z_iald hx hb hK hZ m23 e2 rfl (by omega) (by decide) dX10_work_183 ?_
                    refine lv_iload hx hb dX10_work_184 (lv_at hl 1 rfl) ?_
                    refine lv_icmp_le (tgt := 201) hx hb dX10_work_186 (by decide) (fun c186 => ?_) (fun c186 => ?_)
                    · refine lv_aload_n hx hb dX10_work_201 rfl (lv_at hl 4 rfl) ?_
                      refine z_get (ci := 10) (fs := [.int (nI (S.1 0 0)), .int (nI (S.1 1 0)), .ref (X 2), .ref (X 3), .ref (X 4), .ref (X 5), .ref (X 6), .long S.2.2, .ref (X 8), .ref (X 9), .int (nI (S.1 10 0)), .ref (X 11), .ref (X 12), .ref (X 13), .ref (X 14), .ref (X 15), .ref (X 16), .ref (X 17), .ref (X 18), .ref (X 19), .int (nI (S.1 20 0)), .ref (X 21), .ref (X 22), .ref (X 23), .ref (X 24), .ref (X 25), .ref (X 26), .ref (X 27), .int cz, .ref (X 29)]) (C := RX10) (T := TX10) (N := 30) hx hb hts in_X10 hown hK hZ m0 rfl 23 (by decide) fl_65 (fun _ h9 => h9) rfl dX10_work_202 ?_
                      refine lv_iload hx hb dX10_work_205 (lv_at hl 2 rfl) ?_
                      refine z_iald hx hb hK hZ m23 e2 rfl (by omega) (by decide) dX10_work_207 ?_
                      refine lv_goto (tgt := 213) hx hb dX10_work_208 (by decide) ?_
                      refine W.eq (congrArg (fun v => F0 m 213 ls (.int v :: [.int (nI (S.1 16 j + k)), .ref (X 29)])) (show _ = dv S j (S.1 16 j + k) (duT S j f29 k) from dv_1 hbb c186)) ?_
                      refine W.eq (g2 := F0 m 213 ls [.int (dv S j (S.1 16 j + k) (duT S j f29 k)), .int (nI (S.1 16 j + k)), .ref (X 29)]) rfl ?_
                      refine z_iast hx hb hK hZ m29 (S.1 16 j + k) rfl (by omega) (by decide) dX10_work_213 (fun H locs hZ => ?_)
                      refine lv_iinc (v := nI (S.1 16 j + (k + 1))) (lv' := [(3, .int (nI (S.1 16 j + (k + 1)))), (6, .int ((if S.1 22 e2 = S.1 16 j then S.2.1 17 j else duT S j f29 k (S.1 22 e2 - 1)) + lw S (S.1 22 e2) 5 * nI ((S.1 16 j + k - S.1 22 e2) / 10 + 1))), (5, .int (if S.1 22 e2 = S.1 16 j then S.2.1 17 j else duT S j f29 k (S.1 22 e2 - 1))), (4, .int (nI e2)), (0, .ref (X 0)), (1, .int x), (2, .int y)]) hx hb dX10_work_214 hl (k := 3) rfl (nI_1 _) (by decide) rfl (fun ls hl => ?_)
                      refine lv_goto (tgt := 7) hx hb dX10_work_217 (by decide) ?_
                      exact ih7 (k + 1) _ (by omega) ⟨((va_up_ne _ _ (fun q => absurd (hXI 0 29 (by decide) (by decide) q) (by decide))).trans m0), ((va_up_ne _ _ (fun q => absurd (hXI 2 29 (by decide) (by decide) q) (by decide))).trans m2), ((va_up_ne _ _ (fun q => absurd (hXI 3 29 (by decide) (by decide) q) (by decide))).trans m3), ((va_up_ne _ _ (fun q => absurd (hXI 4 29 (by decide) (by decide) q) (by decide))).trans m4), ((va_up_ne _ _ (fun q => absurd (hXI 5 29 (by decide) (by decide) q) (by decide))).trans m5), ((va_up_ne _ _ (fun q => absurd (hXI 6 29 (by decide) (by decide) q) (by decide))).trans m6), ((va_up_ne _ _ (fun q => absurd (hXI 8 29 (by decide) (by decide) q) (by decide))).trans m8), ((va_up_ne _ _ (fun q => absurd (hXI 9 29 (by decide) (by decide) q) (by decide))).trans m9), ((va_up_ne _ _ (fun q => absurd (hXI 11 29 (by decide) (by decide) q) (by decide))).trans m11), ((va_up_ne _ _ (fun q => absurd (hXI 12 29 (by decide) (by decide) q) (by decide))).trans m12), ((va_up_ne _ _ (fun q => absurd (hXI 13 29 (by decide) (by decide) q) (by decide))).trans m13), ((va_up_ne _ _ (fun q => absurd (hXI 14 29 (by decide) (by decide) q) (by decide))).trans m14), ((va_up_ne _ _ (fun q => absurd (hXI 15 29 (by decide) (by decide) q) (by decide))).trans m15), ((va_up_ne _ _ (fun q => absurd (hXI 16 29 (by decide) (by decide) q) (by decide))).trans m16), ((va_up_ne _ _ (fun q => absurd (hXI 17 29 (by decide) (by decide) q) (by decide))).trans m17), ((va_up_ne _ _ (fun q => absurd (hXI 18 29 (by decide) (by decide) q) (by decide))).trans m18), ((va_up_ne _ _ (fun q => absurd (hXI 19 29 (by decide) (by decide) q) (by decide))).trans m19), ((va_up_ne _ _ (fun q => absurd (hXI 21 29 (by decide) (by decide) q) (by decide))).trans m21), ((va_up_ne _ _ (fun q => absurd (hXI 22 29 (by decide) (by decide) q) (by decide))).trans m22), ((va_up_ne _ _ (fun q => absurd (hXI 23 29 (by decide) (by decide) q) (by decide))).trans m23), ((va_up_ne _ _ (fun q => absurd (hXI 24 29 (by decide) (by decide) q) (by decide))).trans m24), ((va_up_ne _ _ (fun q => absurd (hXI 25 29 (by decide) (by decide) q) (by decide))).trans m25), ((va_up_ne _ _ (fun q => absurd (hXI 26 29 (by decide) (by decide) q) (by decide))).trans m26), ((va_up_ne _ _ (fun q => absurd (hXI 27 29 (by decide) (by decide) q) (by decide))).trans m27), (va_up_self _ _ _)⟩ _ _ _ hZ (lv_sub hl [0, 4, 5, 6] rfl)
                    · refine lv_aload_n hx hb dX10_work_189 rfl (lv_at hl 4 rfl) ?_
                      refine z_get (ci := 10) (fs := [.int (nI (S.1 0 0)), .int (nI (S.1 1 0)), .ref (X 2), .ref (X 3), .ref (X 4), .ref (X 5), .ref (X 6), .long S.2.2, .ref (X 8), .ref (X 9), .int (nI (S.1 10 0)), .ref (X 11), .ref (X 12), .ref (X 13), .ref (X 14), .ref (X 15), .ref (X 16), .ref (X 17), .ref (X 18), .ref (X 19), .int (nI (S.1 20 0)), .ref (X 21), .ref (X 22), .ref (X 23), .ref (X 24), .ref (X 25), .ref (X 26), .ref (X 27), .int cz, .ref (X 29)]) (C := RX10) (T := TX10) (N := 30) hx hb hts in_X10 hown hK hZ m0 rfl 23 (by decide) fl_65 (fun _ h9 => h9) rfl dX10_work_190 ?_
                      refine lv_iload hx hb dX10_work_193 (lv_at hl 2 rfl) ?_
                      refine z_iald hx hb hK hZ m23 e2 rfl (by omega) (by decide) dX10_work_195 ?_
                      refine lv_iload hx hb dX10_work_196 (lv_at hl 0 rfl) ?_
                      refine lv_icmp_ge (tgt := 211) hx hb dX10_work_198 (by decide) (fun c198 => ?_) (fun c198 => ?_)
                      · refine lv_iload hx hb dX10_work_211 (lv_at hl 0 rfl) ?_
                        refine W.eq (congrArg (fun v => F0 m 213 ls (.int v :: [.int (nI (S.1 16 j + k)), .ref (X 29)])) (show _ = dv S j (S.1 16 j + k) (duT S j f29 k) from dv_2 hbb c186 c198)) ?_
                        refine W.eq (g2 := F0 m 213 ls [.int (dv S j (S.1 16 j + k) (duT S j f29 k)), .int (nI (S.1 16 j + k)), .ref (X 29)]) rfl ?_
                        refine z_iast hx hb hK hZ m29 (S.1 16 j + k) rfl (by omega) (by decide) dX10_work_213 (fun H locs hZ => ?_)
                        refine lv_iinc (v := nI (S.1 16 j + (k + 1))) (lv' := [(3, .int (nI (S.1 16 j + (k + 1)))), (6, .int ((if S.1 22 e2 = S.1 16 j then S.2.1 17 j else duT S j f29 k (S.1 22 e2 - 1)) + lw S (S.1 22 e2) 5 * nI ((S.1 16 j + k - S.1 22 e2) / 10 + 1))), (5, .int (if S.1 22 e2 = S.1 16 j then S.2.1 17 j else duT S j f29 k (S.1 22 e2 - 1))), (4, .int (nI e2)), (0, .ref (X 0)), (1, .int x), (2, .int y)]) hx hb dX10_work_214 hl (k := 3) rfl (nI_1 _) (by decide) rfl (fun ls hl => ?_)
                        refine lv_goto (tgt := 7) hx hb dX10_work_217 (by decide) ?_
                        exact ih7 (k + 1) _ (by omega) ⟨((va_up_ne _ _ (fun q => absurd (hXI 0 29 (by decide) (by decide) q) (by decide))).trans m0), ((va_up_ne _ _ (fun q => absurd (hXI 2 29 (by decide) (by decide) q) (by decide))).trans m2), ((va_up_ne _ _ (fun q => absurd (hXI 3 29 (by decide) (by decide) q) (by decide))).trans m3), ((va_up_ne _ _ (fun q => absurd (hXI 4 29 (by decide) (by decide) q) (by decide))).trans m4), ((va_up_ne _ _ (fun q => absurd (hXI 5 29 (by decide) (by decide) q) (by decide))).trans m5), ((va_up_ne _ _ (fun q => absurd (hXI 6 29 (by decide) (by decide) q) (by decide))).trans m6), ((va_up_ne _ _ (fun q => absurd (hXI 8 29 (by decide) (by decide) q) (by decide))).trans m8), ((va_up_ne _ _ (fun q => absurd (hXI 9 29 (by decide) (by decide) q) (by decide))).trans m9), ((va_up_ne _ _ (fun q => absurd (hXI 11 29 (by decide) (by decide) q) (by decide))).trans m11), ((va_up_ne _ _ (fun q => absurd (hXI 12 29 (by decide) (by decide) q) (by decide))).trans m12), ((va_up_ne _ _ (fun q => absurd (hXI 13 29 (by decide) (by decide) q) (by decide))).trans m13), ((va_up_ne _ _ (fun q => absurd (hXI 14 29 (by decide) (by decide) q) (by decide))).trans m14), ((va_up_ne _ _ (fun q => absurd (hXI 15 29 (by decide) (by decide) q) (by decide))).trans m15), ((va_up_ne _ _ (fun q => absurd (hXI 16 29 (by decide) (by decide) q) (by decide))).trans m16), ((va_up_ne _ _ (fun q => absurd (hXI 17 29 (by decide) (by decide) q) (by decide))).trans m17), ((va_up_ne _ _ (fun q => absurd (hXI 18 29 (by decide) (by decide) q) (by decide))).trans m18), ((va_up_ne _ _ (fun q => absurd (hXI 19 29 (by decide) (by decide) q) (by decide))).trans m19), ((va_up_ne _ _ (fun q => absurd (hXI 21 29 (by decide) (by decide) q) (by decide))).trans m21), ((va_up_ne _ _ (fun q => absurd (hXI 22 29 (by decide) (by decide) q) (by decide))).trans m22), ((va_up_ne _ _ (fun q => absurd (hXI 23 29 (by decide) (by decide) q) (by decide))).trans m23), ((va_up_ne _ _ (fun q => absurd (hXI 24 29 (by decide) (by decide) q) (by decide))).trans m24), ((va_up_ne _ _ (fun q => absurd (hXI 25 29 (by decide) (by decide) q) (by decide))).trans m25), ((va_up_ne _ _ (fun q => absurd (hXI 26 29 (by decide) (by decide) q) (by decide))).trans m26), ((va_up_ne _ _ (fun q => absurd (hXI 27 29 (by decide) (by decide) q) (by decide))).trans m27), (va_up_self _ _ _)⟩ _ _ _ hZ (lv_sub hl [0, 4, 5, 6] rfl)
                      · refine lv_aload_n hx hb dX10_work_201 rfl (lv_at hl 4 rfl) ?_
                        refine z_get (ci := 10) (fs := [.int (nI (S.1 0 0)), .int (nI (S.1 1 0)), .ref (X 2), .ref (X 3), .ref (X 4), .ref (X 5), .ref (X 6), .long S.2.2, .ref (X 8), .ref (X 9), .int (nI (S.1 10 0)), .ref (X 11), .ref (X 12), .ref (X 13), .ref (X 14), .ref (X 15), .ref (X 16), .ref (X 17), .ref (X 18), .ref (X 19), .int (nI (S.1 20 0)), .ref (X 21), .ref (X 22), .ref (X 23), .ref (X 24), .ref (X 25), .ref (X 26), .ref (X 27), .int cz, .ref (X 29)]) (C := RX10) (T := TX10) (N := 30) hx hb hts in_X10 hown hK hZ m0 rfl 23 (by decide) fl_65 (fun _ h9 => h9) rfl dX10_work_202 ?_
                        refine lv_iload hx hb dX10_work_205 (lv_at hl 2 rfl) ?_
                        refine z_iald hx hb hK hZ m23 e2 rfl (by omega) (by decide) dX10_work_207 ?_
                        refine lv_goto (tgt := 213) hx hb dX10_work_208 (by decide) ?_
                        refine W.eq (congrArg (fun v => F0 m 213 ls (.int v :: [.int (nI (S.1 16 j + k)), .ref (X 29)])) (show _ = dv S j (S.1 16 j + k) (duT S j f29 k) from dv_3 hbb c186 c198)) ?_
                        refine W.eq (g2 := F0 m 213 ls [.int (dv S j (S.1 16 j + k) (duT S j f29 k)), .int (nI (S.1 16 j + k)), .ref (X 29)]) rfl ?_
                        refine z_iast hx hb hK hZ m29 (S.1 16 j + k) rfl (by omega) (by decide) dX10_work_213 (fun H locs hZ => ?_)
                        refine lv_iinc (v := nI (S.1 16 j + (k + 1))) (lv' := [(3, .int (nI (S.1 16 j + (k + 1)))), (6, .int ((if S.1 22 e2 = S.1 16 j then S.2.1 17 j else duT S j f29 k (S.1 22 e2 - 1)) + lw S (S.1 22 e2) 5 * nI ((S.1 16 j + k - S.1 22 e2) / 10 + 1))), (5, .int (if S.1 22 e2 = S.1 16 j then S.2.1 17 j else duT S j f29 k (S.1 22 e2 - 1))), (4, .int (nI e2)), (0, .ref (X 0)), (1, .int x), (2, .int y)]) hx hb dX10_work_214 hl (k := 3) rfl (nI_1 _) (by decide) rfl (fun ls hl => ?_)
                        refine lv_goto (tgt := 7) hx hb dX10_work_217 (by decide) ?_
                        exact ih7 (k + 1) _ (by omega) ⟨((va_up_ne _ _ (fun q => absurd (hXI 0 29 (by decide) (by decide) q) (by decide))).trans m0), ((va_up_ne _ _ (fun q => absurd (hXI 2 29 (by decide) (by decide) q) (by decide))).trans m2), ((va_up_ne _ _ (fun q => absurd (hXI 3 29 (by decide) (by decide) q) (by decide))).trans m3), ((va_up_ne _ _ (fun q => absurd (hXI 4 29 (by decide) (by decide) q) (by decide))).trans m4), ((va_up_ne _ _ (fun q => absurd (hXI 5 29 (by decide) (by decide) q) (by decide))).trans m5), ((va_up_ne _ _ (fun q => absurd (hXI 6 29 (by decide) (by decide) q) (by decide))).trans m6), ((va_up_ne _ _ (fun q => absurd (hXI 8 29 (by decide) (by decide) q) (by decide))).trans m8), ((va_up_ne _ _ (fun q => absurd (hXI 9 29 (by decide) (by decide) q) (by decide))).trans m9), ((va_up_ne _ _ (fun q => absurd (hXI 11 29 (by decide) (by decide) q) (by decide))).trans m11), ((va_up_ne _ _ (fun q => absurd (hXI 12 29 (by decide) (by decide) q) (by decide))).trans m12), ((va_up_ne _ _ (fun q => absurd (hXI 13 29 (by decide) (by decide) q) (by decide))).trans m13), ((va_up_ne _ _ (fun q => absurd (hXI 14 29 (by decide) (by decide) q) (by decide))).trans m14), ((va_up_ne _ _ (fun q => absurd (hXI 15 29 (by decide) (by decide) q) (by decide))).trans m15), ((va_up_ne _ _ (fun q => absurd (hXI 16 29 (by decide) (by decide) q) (by decide))).trans m16), ((va_up_ne _ _ (fun q => absurd (hXI 17 29 (by decide) (by decide) q) (by decide))).trans m17), ((va_up_ne _ _ (fun q => absurd (hXI 18 29 (by decide) (by decide) q) (by decide))).trans m18), ((va_up_ne _ _ (fun q => absurd (hXI 19 29 (by decide) (by decide) q) (by decide))).trans m19), ((va_up_ne _ _ (fun q => absurd (hXI 21 29 (by decide) (by decide) q) (by decide))).trans m21), ((va_up_ne _ _ (fun q => absurd (hXI 22 29 (by decide) (by decide) q) (by decide))).trans m22), ((va_up_ne _ _ (fun q => absurd (hXI 23 29 (by decide) (by decide) q) (by decide))).trans m23), ((va_up_ne _ _ (fun q => absurd (hXI 24 29 (by decide) (by decide) q) (by decide))).trans m24), ((va_up_ne _ _ (fun q => absurd (hXI 25 29 (by decide) (by decide) q) (by decide))).trans m25), ((va_up_ne _ _ (fun q => absurd (hXI 26 29 (by decide) (by decide) q) (by decide))).trans m26), ((va_up_ne _ _ (fun q => absurd (hXI 27 29 (by decide) (by decide) q) (by decide))).trans m27), (va_up_self _ _ _)⟩ _ _ _ hZ (lv_sub hl [0, 4, 5, 6] rfl)
                  · have hne : S.1 22 e2 = S.1 16 j := nI_inj (by omega) (by omega) c112
                    refine lv_aload_n hx hb dX10_work_115 rfl (lv_at hl 2 rfl) ?_
                    refine z_get (ci := 10) (fs := [.int (nI (S.1 0 0)), .int (nI (S.1 1 0)), .ref (X 2), .ref (X 3), .ref (X 4), .ref (X 5), .ref (X 6), .long S.2.2, .ref (X 8), .ref (X 9), .int (nI (S.1 10 0)), .ref (X 11), .ref (X 12), .ref (X 13), .ref (X 14), .ref (X 15), .ref (X 16), .ref (X 17), .ref (X 18), .ref (X 19), .int (nI (S.1 20 0)), .ref (X 21), .ref (X 22), .ref (X 23), .ref (X 24), .ref (X 25), .ref (X 26), .ref (X 27), .int cz, .ref (X 29)]) (C := RX10) (T := TX10) (N := 30) hx hb hts in_X10 hown hK hZ m0 rfl 17 (by decide) fl_50 (fun _ h9 => h9) rfl dX10_work_116 ?_
                    refine lv_iload_n hx hb dX10_work_119 rfl (lv_at hl 3 rfl) ?_
                    refine z_iald hx hb hK hZ m17 j hxj (by omega) (by decide) dX10_work_120 ?_
                    refine lv_goto (tgt := 138) hx hb dX10_work_121 (by decide) ?_
                    refine W.eq (congrArg (fun v => F0 m 138 ls (.int v :: [])) (show _ = if S.1 22 e2 = S.1 16 j then S.2.1 17 j else duT S j f29 k (S.1 22 e2 - 1) from by rw [if_pos hne])) ?_
                    refine W.eq (g2 := F0 m 138 ls [.int (if S.1 22 e2 = S.1 16 j then S.2.1 17 j else duT S j f29 k (S.1 22 e2 - 1))]) rfl ?_
                    refine lv_istore (lv' := [(5, .int (if S.1 22 e2 = S.1 16 j then S.2.1 17 j else duT S j f29 k (S.1 22 e2 - 1))), (4, .int (nI e2)), (3, .int (nI (S.1 16 j + k))), (0, .ref (X 0)), (1, .int x), (2, .int y)]) hx hb dX10_work_138 hl (by decide) rfl (fun ls hl => ?_)
                    refine lv_iload hx hb dX10_work_140 (lv_at hl 0 rfl) ?_
                    refine lv_aload_n hx hb dX10_work_142 rfl (lv_at hl 3 rfl) ?_
                    refine lv_aload_n hx hb dX10_work_143 rfl (lv_at hl 3 rfl) ?_
                    refine z_get (ci := 10) (fs := [.int (nI (S.1 0 0)), .int (nI (S.1 1 0)), .ref (X 2), .ref (X 3), .ref (X 4), .ref (X 5), .ref (X 6), .long S.2.2, .ref (X 8), .ref (X 9), .int (nI (S.1 10 0)), .ref (X 11), .ref (X 12), .ref (X 13), .ref (X 14), .ref (X 15), .ref (X 16), .ref (X 17), .ref (X 18), .ref (X 19), .int (nI (S.1 20 0)), .ref (X 21), .ref (X 22), .ref (X 23), .ref (X 24), .ref (X 25), .ref (X 26), .ref (X 27), .int cz, .ref (X 29)]) (C := RX10) (T := TX10) (N := 30) hx hb hts in_X10 hown hK hZ m0 rfl 22 (by decide) fl_62 (fun _ h9 => h9) rfl dX10_work_144 ?_
                    refine lv_iload hx hb dX10_work_147 (lv_at hl 1 rfl) ?_
                    refine z_iald hx hb hK hZ m22 e2 rfl (by omega) (by decide) dX10_work_149 ?_
                    refine lv_iconst (v := 5) hx hb dX10_work_150 (by decide) ?_
                    refine z_call (va_runV (As := [.int (nI (S.1 22 e2)), .int 5]) (rest := [.int (if S.1 22 e2 = S.1 16 j then S.2.1 17 j else duT S j f29 k (S.1 22 e2 - 1))]) ⟨hx, hb, hml, hown, hts⟩ (c_X10_lawOf l D cT _ _ S X _ _ _ nn (nI (S.1 22 e2)) 5 (S.1 22 e2) 5 hM1 hXI hS (by omega) rfl (by decide) rfl) (cwV 2 hts gX10_work_X10_lawOf rfl rfl rfl (by decide +kernel) ⟨(Nat.le_of_ble_eq_true rfl), (Nat.le_of_ble_eq_true rfl)⟩) (z_preV hK hE hZ hA (ci := 10) rfl m0) rfl rfl hl.1 rfl (lv_room (Nat.le_of_ble_eq_true rfl)) dX10_work_151 ⟨(Nat.le_of_ble_eq_true rfl), (Nat.le_of_ble_eq_true rfl)⟩) hZ hA (fun r G151 H locs hq hZ => ?_)
                    obtain ⟨hg, rfl⟩ := hq
                    replace hg := hg.symm
                    subst hg
                    refine W.eq (g2 := F0 m 154 ls [.int (lw S (S.1 22 e2) 5), .int (if S.1 22 e2 = S.1 16 j then S.2.1 17 j else duT S j f29 k (S.1 22 e2 - 1))]) rfl ?_
                    refine lv_iload_n hx hb dX10_work_154 rfl (lv_at hl 2 rfl) ?_
                    refine lv_aload_n hx hb dX10_work_155 rfl (lv_at hl 3 rfl) ?_
                    refine z_get (ci := 10) (fs := [.int (nI (S.1 0 0)), .int (nI (S.1 1 0)), .ref (X 2), .ref (X 3), .ref (X 4), .ref (X 5), .ref (X 6), .long S.2.2, .ref (X 8), .ref (X 9), .int (nI (S.1 10 0)), .ref (X 11), .ref (X 12), .ref (X 13), .ref (X 14), .ref (X 15), .ref (X 16), .ref (X 17), .ref (X 18), .ref (X 19), .int (nI (S.1 20 0)), .ref (X 21), .ref (X 22), .ref (X 23), .ref (X 24), .ref (X 25), .ref (X 26), .ref (X 27), .int cz, .ref (X 29)]) (C := RX10) (T := TX10) (N := 30) hx hb hts in_X10 hown hK hZ m0 rfl 22 (by decide) fl_62 (fun _ h9 => h9) rfl dX10_work_156 ?_
                    refine lv_iload hx hb dX10_work_159 (lv_at hl 1 rfl) ?_
                    refine z_iald hx hb hK hZ m22 e2 rfl (by omega) (by decide) dX10_work_161 ?_
                    refine lv_isub hx hb dX10_work_162 ?_
                    refine lv_bipush (v := 10) hx hb dX10_work_163 (by decide) ?_
                    refine lv_idiv hx hb dX10_work_165 (by decide) ?_
                    refine lv_iconst (v := 1) hx hb dX10_work_166 (by decide) ?_
                    refine lv_iadd hx hb dX10_work_167 ?_
                    refine lv_imul hx hb dX10_work_168 ?_
                    refine lv_iadd hx hb dX10_work_169 ?_
                    refine W.eq (congrArg (fun v => F0 m 170 ls (.int v :: [])) (show _ = (if S.1 22 e2 = S.1 16 j then S.2.1 17 j else duT S j f29 k (S.1 22 e2 - 1)) + lw S (S.1 22 e2) 5 * nI ((S.1 16 j + k - S.1 22 e2) / 10 + 1) from ris_e _ _ hle22 (by omega))) ?_
                    refine W.eq (g2 := F0 m 170 ls [.int ((if S.1 22 e2 = S.1 16 j then S.2.1 17 j else duT S j f29 k (S.1 22 e2 - 1)) + lw S (S.1 22 e2) 5 * nI ((S.1 16 j + k - S.1 22 e2) / 10 + 1))]) rfl ?_
                    refine lv_istore (lv' := [(6, .int ((if S.1 22 e2 = S.1 16 j then S.2.1 17 j else duT S j f29 k (S.1 22 e2 - 1)) + lw S (S.1 22 e2) 5 * nI ((S.1 16 j + k - S.1 22 e2) / 10 + 1))), (5, .int (if S.1 22 e2 = S.1 16 j then S.2.1 17 j else duT S j f29 k (S.1 22 e2 - 1))), (4, .int (nI e2)), (3, .int (nI (S.1 16 j + k))), (0, .ref (X 0)), (1, .int x), (2, .int y)]) hx hb dX10_work_170 hl (by decide) rfl (fun ls hl => ?_)
                    refine lv_aload_n hx hb dX10_work_172 rfl (lv_at hl 4 rfl) ?_
                    refine z_get (ci := 10) (fs := [.int (nI (S.1 0 0)), .int (nI (S.1 1 0)), .ref (X 2), .ref (X 3), .ref (X 4), .ref (X 5), .ref (X 6), .long S.2.2, .ref (X 8), .ref (X 9), .int (nI (S.1 10 0)), .ref (X 11), .ref (X 12), .ref (X 13), .ref (X 14), .ref (X 15), .ref (X 16), .ref (X 17), .ref (X 18), .ref (X 19), .int (nI (S.1 20 0)), .ref (X 21), .ref (X 22), .ref (X 23), .ref (X 24), .ref (X 25), .ref (X 26), .ref (X 27), .int cz, .ref (X 29)]) (C := RX10) (T := TX10) (N := 30) hx hb hts in_X10 hown hK hZ m0 rfl 29 (by decide) fl_80 (fun _ h9 => h9) rfl dX10_work_173 ?_
                    refine lv_iload_n hx hb dX10_work_176 rfl (lv_at hl 3 rfl) ?_
                    refine lv_aload_n hx hb dX10_work_177 rfl (lv_at hl 4 rfl) ?_
                    refine z_get (ci := 10) (fs := [.int (nI (S.1 0 0)), .int (nI (S.1 1 0)), .ref (X 2), .ref (X 3), .ref (X 4), .ref (X 5), .ref (X 6), .long S.2.2, .ref (X 8), .ref (X 9), .int (nI (S.1 10 0)), .ref (X 11), .ref (X 12), .ref (X 13), .ref (X 14), .ref (X 15), .ref (X 16), .ref (X 17), .ref (X 18), .ref (X 19), .int (nI (S.1 20 0)), .ref (X 21), .ref (X 22), .ref (X 23), .ref (X 24), .ref (X 25), .ref (X 26), .ref (X 27), .int cz, .ref (X 29)]) (C := RX10) (T := TX10) (N := 30) hx hb hts in_X10 hown hK hZ m0 rfl 23 (by decide) fl_65 (fun _ h9 => h9) rfl dX10_work_178 ?_
                    refine lv_iload hx hb dX10_work_181 (lv_at hl 2 rfl) ?_
                    refine z_iald hx hb hK hZ m23 e2 rfl (by omega) (by decide) dX10_work_183 ?_
                    refine lv_iload hx hb dX10_work_184 (lv_at hl 1 rfl) ?_
                    refine lv_icmp_le (tgt := 201) hx hb dX10_work_186 (by decide) (fun c186 => ?_) (fun c186 => ?_)
                    · refine lv_aload_n hx hb dX10_work_201 rfl (lv_at hl 4 rfl) ?_
                      refine z_get (ci := 10) (fs := [.int (nI (S.1 0 0)), .int (nI (S.1 1 0)), .ref (X 2), .ref (X 3), .ref (X 4), .ref (X 5), .ref (X 6), .long S.2.2, .ref (X 8), .ref (X 9), .int (nI (S.1 10 0)), .ref (X 11), .ref (X 12), .ref (X 13), .ref (X 14), .ref (X 15), .ref (X 16), .ref (X 17), .ref (X 18), .ref (X 19), .int (nI (S.1 20 0)), .ref (X 21), .ref (X 22), .ref (X 23), .ref (X 24), .ref (X 25), .ref (X 26), .ref (X 27), .int cz, .ref (X 29)]) (C := RX10) (T := TX10) (N := 30) hx hb hts in_X10 hown hK hZ m0 rfl 23 (by decide) fl_65 (fun _ h9 => h9) rfl dX10_work_202 ?_
                      refine lv_iload hx hb dX10_work_205 (lv_at hl 2 rfl) ?_
                      refine z_iald hx hb hK hZ m23 e2 rfl (by omega) (by decide) dX10_work_207 ?_
                      refine lv_goto (tgt := 213) hx hb dX10_work_208 (by decide) ?_
                      refine W.eq (congrArg (fun v => F0 m 213 ls (.int v :: [.int (nI (S.1 16 j + k)), .ref (X 29)])) (show _ = dv S j (S.1 16 j + k) (duT S j f29 k) from dv_1 hbb c186)) ?_
                      refine W.eq (g2 := F0 m 213 ls [.int (dv S j (S.1 16 j + k) (duT S j f29 k)), .int (nI (S.1 16 j + k)), .ref (X 29)]) rfl ?_
                      refine z_iast hx hb hK hZ m29 (S.1 16 j + k) rfl (by omega) (by decide) dX10_work_213 (fun H locs hZ => ?_)
                      refine lv_iinc (v := nI (S.1 16 j + (k + 1))) (lv' := [(3, .int (nI (S.1 16 j + (k + 1)))), (6, .int ((if S.1 22 e2 = S.1 16 j then S.2.1 17 j else duT S j f29 k (S.1 22 e2 - 1)) + lw S (S.1 22 e2) 5 * nI ((S.1 16 j + k - S.1 22 e2) / 10 + 1))), (5, .int (if S.1 22 e2 = S.1 16 j then S.2.1 17 j else duT S j f29 k (S.1 22 e2 - 1))), (4, .int (nI e2)), (0, .ref (X 0)), (1, .int x), (2, .int y)]) hx hb dX10_work_214 hl (k := 3) rfl (nI_1 _) (by decide) rfl (fun ls hl => ?_)
                      refine lv_goto (tgt := 7) hx hb dX10_work_217 (by decide) ?_
                      exact ih7 (k + 1) _ (by omega) ⟨((va_up_ne _ _ (fun q => absurd (hXI 0 29 (by decide) (by decide) q) (by decide))).trans m0), ((va_up_ne _ _ (fun q => absurd (hXI 2 29 (by decide) (by decide) q) (by decide))).trans m2), ((va_up_ne _ _ (fun q => absurd (hXI 3 29 (by decide) (by decide) q) (by decide))).trans m3), ((va_up_ne _ _ (fun q => absurd (hXI 4 29 (by decide) (by decide) q) (by decide))).trans m4), ((va_up_ne _ _ (fun q => absurd (hXI 5 29 (by decide) (by decide) q) (by decide))).trans m5), ((va_up_ne _ _ (fun q => absurd (hXI 6 29 (by decide) (by decide) q) (by decide))).trans m6), ((va_up_ne _ _ (fun q => absurd (hXI 8 29 (by decide) (by decide) q) (by decide))).trans m8), ((va_up_ne _ _ (fun q => absurd (hXI 9 29 (by decide) (by decide) q) (by decide))).trans m9), ((va_up_ne _ _ (fun q => absurd (hXI 11 29 (by decide) (by decide) q) (by decide))).trans m11), ((va_up_ne _ _ (fun q => absurd (hXI 12 29 (by decide) (by decide) q) (by decide))).trans m12), ((va_up_ne _ _ (fun q => absurd (hXI 13 29 (by decide) (by decide) q) (by decide))).trans m13), ((va_up_ne _ _ (fun q => absurd (hXI 14 29 (by decide) (by decide) q) (by decide))).trans m14), ((va_up_ne _ _ (fun q => absurd (hXI 15 29 (by decide) (by decide) q) (by decide))).trans m15), ((va_up_ne _ _ (fun q => absurd (hXI 16 29 (by decide) (by decide) q) (by decide))).trans m16), ((va_up_ne _ _ (fun q => absurd (hXI 17 29 (by decide) (by decide) q) (by decide))).trans m17), ((va_up_ne _ _ (fun q => absurd (hXI 18 29 (by decide) (by decide) q) (by decide))).trans m18), ((va_up_ne _ _ (fun q => absurd (hXI 19 29 (by decide) (by decide) q) (by decide))).trans m19), ((va_up_ne _ _ (fun q => absurd (hXI 21 29 (by decide) (by decide) q) (by decide))).trans m21), ((va_up_ne _ _ (fun q => absurd (hXI 22 29 (by decide) (by decide) q) (by decide))).trans m22), ((va_up_ne _ _ (fun q => absurd (hXI 23 29 (by decide) (by decide) q) (by decide))).trans m23), ((va_up_ne _ _ (fun q => absurd (hXI 24 29 (by decide) (by decide) q) (by decide))).trans m24), ((va_up_ne _ _ (fun q => absurd (hXI 25 29 (by decide) (by decide) q) (by decide))).trans m25), ((va_up_ne _ _ (fun q => absurd (hXI 26 29 (by decide) (by decide) q) (by decide))).trans m26), ((va_up_ne _ _ (fun q => absurd (hXI 27 29 (by decide) (by decide) q) (by decide))).trans m27), (va_up_self _ _ _)⟩ _ _ _ hZ (lv_sub hl [0, 4, 5, 6] rfl)
                    · refine lv_aload_n hx hb dX10_work_189 rfl (lv_at hl 4 rfl) ?_
                      refine z_get (ci := 10) (fs := [.int (nI (S.1 0 0)), .int (nI (S.1 1 0)), .ref (X 2), .ref (X 3), .ref (X 4), .ref (X 5), .ref (X 6), .long S.2.2, .ref (X 8), .ref (X 9), .int (nI (S.1 10 0)), .ref (X 11), .ref (X 12), .ref (X 13), .ref (X 14), .ref (X 15), .ref (X 16), .ref (X 17), .ref (X 18), .ref (X 19), .int (nI (S.1 20 0)), .ref (X 21), .ref (X 22), .ref (X 23), .ref (X 24), .ref (X 25), .ref (X 26), .ref (X 27), .int cz, .ref (X 29)]) (C := RX10) (T := TX10) (N := 30) hx hb hts in_X10 hown hK hZ m0 rfl 23 (by decide) fl_65 (fun _ h9 => h9) rfl dX10_work_190 ?_
                      refine lv_iload hx hb dX10_work_193 (lv_at hl 2 rfl) ?_
                      refine z_iald hx hb hK hZ m23 e2 rfl (by omega) (by decide) dX10_work_195 ?_
                      refine lv_iload hx hb dX10_work_196 (lv_at hl 0 rfl) ?_
                      refine lv_icmp_ge (tgt := 211) hx hb dX10_work_198 (by decide) (fun c198 => ?_) (fun c198 => ?_)
                      · refine lv_iload hx hb dX10_work_211 (lv_at hl 0 rfl) ?_
                        refine W.eq (congrArg (fun v => F0 m 213 ls (.int v :: [.int (nI (S.1 16 j + k)), .ref (X 29)])) (show _ = dv S j (S.1 16 j + k) (duT S j f29 k) from dv_2 hbb c186 c198)) ?_
                        refine W.eq (g2 := F0 m 213 ls [.int (dv S j (S.1 16 j + k) (duT S j f29 k)), .int (nI (S.1 16 j + k)), .ref (X 29)]) rfl ?_
                        refine z_iast hx hb hK hZ m29 (S.1 16 j + k) rfl (by omega) (by decide) dX10_work_213 (fun H locs hZ => ?_)
                        refine lv_iinc (v := nI (S.1 16 j + (k + 1))) (lv' := [(3, .int (nI (S.1 16 j + (k + 1)))), (6, .int ((if S.1 22 e2 = S.1 16 j then S.2.1 17 j else duT S j f29 k (S.1 22 e2 - 1)) + lw S (S.1 22 e2) 5 * nI ((S.1 16 j + k - S.1 22 e2) / 10 + 1))), (5, .int (if S.1 22 e2 = S.1 16 j then S.2.1 17 j else duT S j f29 k (S.1 22 e2 - 1))), (4, .int (nI e2)), (0, .ref (X 0)), (1, .int x), (2, .int y)]) hx hb dX10_work_214 hl (k := 3) rfl (nI_1 _) (by decide) rfl (fun ls hl => ?_)
                        refine lv_goto (tgt := 7) hx hb dX10_work_217 (by decide) ?_
                        exact ih7 (k + 1) _ (by omega) ⟨((va_up_ne _ _ (fun q => absurd (hXI 0 29 (by decide) (by decide) q) (by decide))).trans m0), ((va_up_ne _ _ (fun q => absurd (hXI 2 29 (by decide) (by decide) q) (by decide))).trans m2), ((va_up_ne _ _ (fun q => absurd (hXI 3 29 (by decide) (by decide) q) (by decide))).trans m3), ((va_up_ne _ _ (fun q => absurd (hXI 4 29 (by decide) (by decide) q) (by decide))).trans m4), ((va_up_ne _ _ (fun q => absurd (hXI 5 29 (by decide) (by decide) q) (by decide))).trans m5), ((va_up_ne _ _ (fun q => absurd (hXI 6 29 (by decide) (by decide) q) (by decide))).trans m6), ((va_up_ne _ _ (fun q => absurd (hXI 8 29 (by decide) (by decide) q) (by decide))).trans m8), ((va_up_ne _ _ (fun q => absurd (hXI 9 29 (by decide) (by decide) q) (by decide))).trans m9), ((va_up_ne _ _ (fun q => absurd (hXI 11 29 (by decide) (by decide) q) (by decide))).trans m11), ((va_up_ne _ _ (fun q => absurd (hXI 12 29 (by decide) (by decide) q) (by decide))).trans m12), ((va_up_ne _ _ (fun q => absurd (hXI 13 29 (by decide) (by decide) q) (by decide))).trans m13), ((va_up_ne _ _ (fun q => absurd (hXI 14 29 (by decide) (by decide) q) (by decide))).trans m14), ((va_up_ne _ _ (fun q => absurd (hXI 15 29 (by decide) (by decide) q) (by decide))).trans m15), ((va_up_ne _ _ (fun q => absurd (hXI 16 29 (by decide) (by decide) q) (by decide))).trans m16), ((va_up_ne _ _ (fun q => absurd (hXI 17 29 (by decide) (by decide) q) (by decide))).trans m17), ((va_up_ne _ _ (fun q => absurd (hXI 18 29 (by decide) (by decide) q) (by decide))).trans m18), ((va_up_ne _ _ (fun q => absurd (hXI 19 29 (by decide) (by decide) q) (by decide))).trans m19), ((va_up_ne _ _ (fun q => absurd (hXI 21 29 (by decide) (by decide) q) (by decide))).trans m21), ((va_up_ne _ _ (fun q => absurd (hXI 22 29 (by decide) (by decide) q) (by decide))).trans m22), ((va_up_ne _ _ (fun q => absurd (hXI 23 29 (by decide) (by decide) q) (by decide))).trans m23), ((va_up_ne _ _ (fun q => absurd (hXI 24 29 (by decide) (by decide) q) (by decide))).trans m24), ((va_up_ne _ _ (fun q => absurd (hXI 25 29 (by decide) (by decide) q) (by decide))).trans m25), ((va_up_ne _ _ (fun q => absurd (hXI 26 29 (by decide) (by decide) q) (by decide))).trans m26), ((va_up_ne _ _ (fun q => absurd (hXI 27 29 (by decide) (by decide) q) (by decide))).trans m27), (va_up_self _ _ _)⟩ _ _ _ hZ (lv_sub hl [0, 4, 5, 6] rfl)
                      · refine lv_aload_n hx hb dX10_work_201 rfl (lv_at hl 4 rfl) ?_
                        refine z_get (ci := 10) (fs := [.int (nI (S.1 0 0)), .int (nI (S.1 1 0)), .ref (X 2), .ref (X 3), .ref (X 4), .ref (X 5), .ref (X 6), .long S.2.2, .ref (X 8), .ref (X 9), .int (nI (S.1 10 0)), .ref (X 11), .ref (X 12), .ref (X 13), .ref (X 14), .ref (X 15), .ref (X 16), .ref (X 17), .ref (X 18), .ref (X 19), .int (nI (S.1 20 0)), .ref (X 21), .ref (X 22), .ref (X 23), .ref (X 24), .ref (X 25), .ref (X 26), .ref (X 27), .int cz, .ref (X 29)]) (C := RX10) (T := TX10) (N := 30) hx hb hts in_X10 hown hK hZ m0 rfl 23 (by decide) fl_65 (fun _ h9 => h9) rfl dX10_work_202 ?_
                        refine lv_iload hx hb dX10_work_205 (lv_at hl 2 rfl) ?_
                        refine z_iald hx hb hK hZ m23 e2 rfl (by omega) (by decide) dX10_work_207 ?_
                        refine lv_goto (tgt := 213) hx hb dX10_work_208 (by decide) ?_
                        refine W.eq (congrArg (fun v => F0 m 213 ls (.int v :: [.int (nI (S.1 16 j + k)), .ref (X 29)])) (show _ = dv S j (S.1 16 j + k) (duT S j f29 k) from dv_3 hbb c186 c198)) ?_
                        refine W.eq (g2 := F0 m 213 ls [.int (dv S j (S.1 16 j + k) (duT S j f29 k)), .int (nI (S.1 16 j + k)), .ref (X 29)]) rfl ?_
                        refine z_iast hx hb hK hZ m29 (S.1 16 j + k) rfl (by omega) (by decide) dX10_work_213 (fun H locs hZ => ?_)
                        refine lv_iinc (v := nI (S.1 16 j + (k + 1))) (lv' := [(3, .int (nI (S.1 16 j + (k + 1)))), (6, .int ((if S.1 22 e2 = S.1 16 j then S.2.1 17 j else duT S j f29 k (S.1 22 e2 - 1)) + lw S (S.1 22 e2) 5 * nI ((S.1 16 j + k - S.1 22 e2) / 10 + 1))), (5, .int (if S.1 22 e2 = S.1 16 j then S.2.1 17 j else duT S j f29 k (S.1 22 e2 - 1))), (4, .int (nI e2)), (0, .ref (X 0)), (1, .int x), (2, .int y)]) hx hb dX10_work_214 hl (k := 3) rfl (nI_1 _) (by decide) rfl (fun ls hl => ?_)
                        refine lv_goto (tgt := 7) hx hb dX10_work_217 (by decide) ?_
                        exact ih7 (k + 1) _ (by omega) ⟨((va_up_ne _ _ (fun q => absurd (hXI 0 29 (by decide) (by decide) q) (by decide))).trans m0), ((va_up_ne _ _ (fun q => absurd (hXI 2 29 (by decide) (by decide) q) (by decide))).trans m2), ((va_up_ne _ _ (fun q => absurd (hXI 3 29 (by decide) (by decide) q) (by decide))).trans m3), ((va_up_ne _ _ (fun q => absurd (hXI 4 29 (by decide) (by decide) q) (by decide))).trans m4), ((va_up_ne _ _ (fun q => absurd (hXI 5 29 (by decide) (by decide) q) (by decide))).trans m5), ((va_up_ne _ _ (fun q => absurd (hXI 6 29 (by decide) (by decide) q) (by decide))).trans m6), ((va_up_ne _ _ (fun q => absurd (hXI 8 29 (by decide) (by decide) q) (by decide))).trans m8), ((va_up_ne _ _ (fun q => absurd (hXI 9 29 (by decide) (by decide) q) (by decide))).trans m9), ((va_up_ne _ _ (fun q => absurd (hXI 11 29 (by decide) (by decide) q) (by decide))).trans m11), ((va_up_ne _ _ (fun q => absurd (hXI 12 29 (by decide) (by decide) q) (by decide))).trans m12), ((va_up_ne _ _ (fun q => absurd (hXI 13 29 (by decide) (by decide) q) (by decide))).trans m13), ((va_up_ne _ _ (fun q => absurd (hXI 14 29 (by decide) (by decide) q) (by decide))).trans m14), ((va_up_ne _ _ (fun q => absurd (hXI 15 29 (by decide) (by decide) q) (by decide))).trans m15), ((va_up_ne _ _ (fun q => absurd (hXI 16 29 (by decide) (by decide) q) (by decide))).trans m16), ((va_up_ne _ _ (fun q => absurd (hXI 17 29 (by decide) (by decide) q) (by decide))).trans m17), ((va_up_ne _ _ (fun q => absurd (hXI 18 29 (by decide) (by decide) q) (by decide))).trans m18), ((va_up_ne _ _ (fun q => absurd (hXI 19 29 (by decide) (by decide) q) (by decide))).trans m19), ((va_up_ne _ _ (fun q => absurd (hXI 21 29 (by decide) (by decide) q) (by decide))).trans m21), ((va_up_ne _ _ (fun q => absurd (hXI 22 29 (by decide) (by decide) q) (by decide))).trans m22), ((va_up_ne _ _ (fun q => absurd (hXI 23 29 (by decide) (by decide) q) (by decide))).trans m23), ((va_up_ne _ _ (fun q => absurd (hXI 24 29 (by decide) (by decide) q) (by decide))).trans m24), ((va_up_ne _ _ (fun q => absurd (hXI 25 29 (by decide) (by decide) q) (by decide))).trans m25), ((va_up_ne _ _ (fun q => absurd (hXI 26 29 (by decide) (by decide) q) (by decide))).trans m26), ((va_up_ne _ _ (fun q => absurd (hXI 27 29 (by decide) (by decide) q) (by decide))).trans m27), (va_up_self _ _ _)⟩ _ _ _ hZ (lv_sub hl [0, 4, 5, 6] rfl)
                · refine lv_iinc (v := nI e2 - 1) (lv' := [(4, .int (nI e2 - 1)), (3, .int (nI (S.1 16 j + k))), (0, .ref (X 0)), (1, .int x), (2, .int y)]) hx hb dX10_work_73 hl (k := 0) rfl (nI_m1 e2) (by decide) rfl (fun ls hl => ?_)
                  refine lv_goto (tgt := 20) hx hb dX10_work_76 (by decide) ?_
                  exact ih20 (by omega) (by rw [← hbd, bndS, if_neg (fun h => c70 (nI_le h.2.2.2 (by omega)))]) _ _ _ hZ (lv_sub hl [0, 1, 2, 3, 4] rfl)
      exact loop20 (S.1 20 0) (by omega) rfl _ _ _ hZ (lv_sub hl [0, 1, 2, 3, 4] rfl)
  exact loop7 (t + 1 - S.1 16 j) 0 _ (by omega) hM _ _ _ hZ (lv_sub hl [0, 1, 2, 3] rfl)

set_option maxHeartbeats 4000000 in
set_option maxRecDepth 100000 in
theorem c_X10_due (l : Launch) (D : va_G) (cT : Nat → ClassId) (G : zG) (sz : Nat) (S : zS) (X : Nat → Nat) (cz : Int32) (f27 f29 : Nat → Int32) (nn : Nat) (x y : Int32) (hM : MD cT S X cz f27 f29 G) (hXI : XI X) (hS : ok S nn)  : zM l D cT yX10_due wsX10_due (zR 3 0 0) [.ref (X 0), .int x, .int y] G sz (mQ cT X (sp_due S x y)) := by
  refine z_start (cc := cX10_due) (maxL := 3) (ret := (some .int)) (by decide) rfl (Nat.le_of_ble_eq_true rfl) ?_
  intro p e s m below meth c ls hI hZ hl
  obtain ⟨hx, hb, hr, hml, hts, hown, hlocks, hname, hK, hA, hE⟩ := hI
  have hl : lv_has ls 3 [(0, .ref (X 0)), (1, .int x), (2, .int y)] := hl
  have hown : s.vm.findClass RX10 = some m.cls := hown
  have in_X10 : ∀ w ∈ u_ws RX10 TX10 30, w ∈ wsX10_due := by decide +kernel
  have fl_47 := hts (.fieldLink RX10 47 "FairRentsModel" "letDay" "[I") (by decide +kernel)
  have fl_80 := hts (.fieldLink RX10 80 "FairRentsModel" "dues" "[I") (by decide +kernel)
  have fl_107 := hts (.fieldLink RX10 107 "FairRentsModel" "today" "I") (by decide +kernel)
  obtain ⟨m0, m2, m3, m4, m5, m6, m8, m9, m11, m12, m13, m14, m15, m16, m17, m18, m19, m21, m22, m23, m24, m25, m26, m27, m29⟩ := id hM
  obtain ⟨⟨k1, k10, k20, k0⟩, kH, k9, k8, k15, k26, kL, kLn, kP, kE, kEm, kn⟩ := id hS
  refine lv_aload_n hx hb dX10_due_0 rfl (lv_at hl 0 rfl) ?_
  refine lv_iload_n hx hb dX10_due_1 rfl (lv_at hl 1 rfl) ?_
  refine z_call (va_runV (As := [.int x]) (rest := []) ⟨hx, hb, hml, hown, hts⟩ (c_X10_isHome l D cT _ _ S X _ _ _ nn x hM hXI hS ) (cwV 1 hts gX10_due_X10_isHome rfl rfl rfl (by decide +kernel) ⟨(Nat.le_of_ble_eq_true rfl), (Nat.le_of_ble_eq_true rfl)⟩) (z_preV hK hE hZ hA (ci := 10) rfl m0) rfl rfl hl.1 rfl (lv_room (Nat.le_of_ble_eq_true rfl)) dX10_due_2 ⟨(Nat.le_of_ble_eq_true rfl), (Nat.le_of_ble_eq_true rfl)⟩) hZ hA (fun r G2 H locs hq hZ => ?_)
  obtain ⟨hg, rfl⟩ := hq
  replace hg := hg.symm
  subst hg
  refine W.eq (g2 := F0 m 5 ls [.int (if 0 ≤ x ∧ x ≤ nI (S.1 1 0) - 1 then 1 else 0)]) rfl ?_
  refine zb_eq (tgt := 20) hx hb dX10_due_5 (by decide) (fun c5 => ?_) (fun c5 => ?_)
  · have hh := hix_no (S := S) c5
    refine lv_iconst (v := (-1)) hx hb dX10_due_20 (by decide) ?_
    exact z_iret hx hb hr hlocks hZ dX10_due_21 (mQ_of (by rw [sp_due, hh]) ⟨_, _, _, hM⟩)
  · obtain ⟨j, hj, hxj, hh⟩ := hix_yes k1 c5
    refine lv_iload_n hx hb dX10_due_8 rfl (lv_at hl 2 rfl) ?_
    refine lv_iconst (v := 0) hx hb dX10_due_9 (by decide) ?_
    refine lv_aload_n hx hb dX10_due_10 rfl (lv_at hl 0 rfl) ?_
    refine z_get (ci := 10) (fs := [.int (nI (S.1 0 0)), .int (nI (S.1 1 0)), .ref (X 2), .ref (X 3), .ref (X 4), .ref (X 5), .ref (X 6), .long S.2.2, .ref (X 8), .ref (X 9), .int (nI (S.1 10 0)), .ref (X 11), .ref (X 12), .ref (X 13), .ref (X 14), .ref (X 15), .ref (X 16), .ref (X 17), .ref (X 18), .ref (X 19), .int (nI (S.1 20 0)), .ref (X 21), .ref (X 22), .ref (X 23), .ref (X 24), .ref (X 25), .ref (X 26), .ref (X 27), .int cz, .ref (X 29)]) (C := RX10) (T := TX10) (N := 30) hx hb hts in_X10 hown hK hZ m0 rfl 0 (by decide) fl_107 (fun _ h9 => h9) rfl dX10_due_11 ?_
    refine z_call (va_runS (As := [.int y, .int 0, .int (nI (S.1 0 0))]) (rest := []) ⟨hx, hb, hml, hown, hts⟩ (c_X10_in l D cT _ _ y 0 (nI (S.1 0 0))) (va_cwS 3 hts gX10_due_X10_in rfl rfl rfl (by decide +kernel) ⟨(Nat.le_of_ble_eq_true rfl), (Nat.le_of_ble_eq_true rfl)⟩) (z_preS hK hE hZ hA) rfl rfl hl.1 rfl (lv_room (Nat.le_of_ble_eq_true rfl)) dX10_due_14 ⟨(Nat.le_of_ble_eq_true rfl), (Nat.le_of_ble_eq_true rfl)⟩) hZ hA (fun r G14 H locs hq hZ => ?_)
    obtain ⟨hg, rfl⟩ := hq
    replace hg := hg.symm
    subst hg
    refine W.eq (g2 := F0 m 17 ls [.int (if 0 ≤ y ∧ y ≤ (nI (S.1 0 0)) then 1 else 0)]) rfl ?_
    refine zb_ne (tgt := 22) hx hb dX10_due_17 (by decide) (fun c17 => ?_) (fun c17 => ?_)
    · have hyt : y = nI y.toNatClampNeg := (z_self c17.1).symm
      have ht : y.toNatClampNeg ≤ S.1 0 0 := z_cl c17 (nI_toInt (by omega))
      refine lv_aload_n hx hb dX10_due_22 rfl (lv_at hl 0 rfl) ?_
      refine z_get (ci := 10) (fs := [.int (nI (S.1 0 0)), .int (nI (S.1 1 0)), .ref (X 2), .ref (X 3), .ref (X 4), .ref (X 5), .ref (X 6), .long S.2.2, .ref (X 8), .ref (X 9), .int (nI (S.1 10 0)), .ref (X 11), .ref (X 12), .ref (X 13), .ref (X 14), .ref (X 15), .ref (X 16), .ref (X 17), .ref (X 18), .ref (X 19), .int (nI (S.1 20 0)), .ref (X 21), .ref (X 22), .ref (X 23), .ref (X 24), .ref (X 25), .ref (X 26), .ref (X 27), .int cz, .ref (X 29)]) (C := RX10) (T := TX10) (N := 30) hx hb hts in_X10 hown hK hZ m0 rfl 16 (by decide) fl_47 (fun _ h9 => h9) rfl dX10_due_23 ?_
      refine lv_iload_n hx hb dX10_due_26 rfl (lv_at hl 1 rfl) ?_
      refine z_iald hx hb hK hZ m16 j hxj (by omega) (by decide) dX10_due_27 ?_
      refine lv_if_lt (tgt := 41) hx hb dX10_due_28 (by decide) (fun c28 => ?_) (fun c28 => ?_)
      · have hl18 := cL_lt (kL j).2.1 k0 c28
        refine lv_bipush (v := (-2)) hx hb dX10_due_41 (by decide) ?_
        exact z_iret hx hb hr hlocks hZ dX10_due_43 (mQ_of (by rw [sp_due, hh]; simp only []; rw [if_pos c17, if_pos (Or.inl hl18)]) ⟨_, _, _, hM⟩)
      · have hl18 := cL_nlt c28
        refine lv_iload_n hx hb dX10_due_31 rfl (lv_at hl 2 rfl) ?_
        refine lv_aload_n hx hb dX10_due_32 rfl (lv_at hl 0 rfl) ?_
        refine z_get (ci := 10) (fs := [.int (nI (S.1 0 0)), .int (nI (S.1 1 0)), .ref (X 2), .ref (X 3), .ref (X 4), .ref (X 5), .ref (X 6), .long S.2.2, .ref (X 8), .ref (X 9), .int (nI (S.1 10 0)), .ref (X 11), .ref (X 12), .ref (X 13), .ref (X 14), .ref (X 15), .ref (X 16), .ref (X 17), .ref (X 18), .ref (X 19), .int (nI (S.1 20 0)), .ref (X 21), .ref (X 22), .ref (X 23), .ref (X 24), .ref (X 25), .ref (X 26), .ref (X 27), .int cz, .ref (X 29)]) (C := RX10) (T := TX10) (N := 30) hx hb hts in_X10 hown hK hZ m0 rfl 16 (by decide) fl_47 (fun _ h9 => h9) rfl dX10_due_33 ?_
        refine lv_iload_n hx hb dX10_due_36 rfl (lv_at hl 1 rfl) ?_
        refine z_iald hx hb hK hZ m16 j hxj (by omega) (by decide) dX10_due_37 ?_
        refine W.eq (congrArg (fun v => F0 m 38 ls (.int v :: [.int y])) (show _ = nI (S.1 16 j) from cL_nz hl18)) ?_
        refine W.eq (g2 := F0 m 38 ls [.int (nI (S.1 16 j)), .int y]) rfl ?_
        refine lv_icmp_ge (tgt := 44) hx hb dX10_due_38 (by decide) (fun c38 => ?_) (fun c38 => ?_)
        · have hL16 := (kL j).2.1
          have hlt : S.1 16 j ≤ y.toNatClampNeg := (nI_leI (by omega) (by omega)).mp (by rw [← hyt]; exact c38)
          refine lv_aload_n hx hb dX10_due_44 rfl (lv_at hl 0 rfl) ?_
          refine lv_iload_n hx hb dX10_due_45 rfl (lv_at hl 1 rfl) ?_
          refine lv_iload_n hx hb dX10_due_46 rfl (lv_at hl 2 rfl) ?_
          refine z_call (va_runV (As := [.int x, .int y]) (rest := []) ⟨hx, hb, hml, hown, hts⟩ (c_X10_work l D cT _ _ S X _ _ _ nn x y j y.toNatClampNeg hM hXI hS hj hxj ht hyt hl18 hlt) (cwV 2 hts gX10_due_X10_work rfl rfl rfl (by decide +kernel) ⟨(Nat.le_of_ble_eq_true rfl), (Nat.le_of_ble_eq_true rfl)⟩) (z_preV hK hE hZ hA (ci := 10) rfl m0) rfl rfl hl.1 rfl (lv_room (Nat.le_of_ble_eq_true rfl)) dX10_due_47 ⟨(Nat.le_of_ble_eq_true rfl), (Nat.le_of_ble_eq_true rfl)⟩) hZ hA (fun r G47 H locs hq hZ => ?_)
          obtain ⟨hM47, rfl⟩ := hq
          obtain ⟨m0, m2, m3, m4, m5, m6, m8, m9, m11, m12, m13, m14, m15, m16, m17, m18, m19, m21, m22, m23, m24, m25, m26, m27, m29⟩ := id hM47
          refine W.eq (g2 := F0 m 50 ls []) rfl ?_
          refine lv_aload_n hx hb dX10_due_50 rfl (lv_at hl 0 rfl) ?_
          refine z_get (ci := 10) (fs := [.int (nI (S.1 0 0)), .int (nI (S.1 1 0)), .ref (X 2), .ref (X 3), .ref (X 4), .ref (X 5), .ref (X 6), .long S.2.2, .ref (X 8), .ref (X 9), .int (nI (S.1 10 0)), .ref (X 11), .ref (X 12), .ref (X 13), .ref (X 14), .ref (X 15), .ref (X 16), .ref (X 17), .ref (X 18), .ref (X 19), .int (nI (S.1 20 0)), .ref (X 21), .ref (X 22), .ref (X 23), .ref (X 24), .ref (X 25), .ref (X 26), .ref (X 27), .int cz, .ref (X 29)]) (C := RX10) (T := TX10) (N := 30) hx hb hts in_X10 hown hK hZ m0 rfl 29 (by decide) fl_80 (fun _ h9 => h9) rfl dX10_due_51 ?_
          refine lv_iload_n hx hb dX10_due_54 rfl (lv_at hl 2 rfl) ?_
          refine z_iald hx hb hK hZ m29 y.toNatClampNeg hyt (by omega) (by decide) dX10_due_55 ?_
          exact z_iret hx hb hr hlocks hZ dX10_due_56 (mQ_of (by rw [sp_due, hh]; simp only []; rw [if_pos c17, if_neg (due_c hl18 hlt), ← dd_e S j f29 hS hj hl18 hlt (Nat.le_refl _)]) ⟨_, _, _, hM47⟩)
        · have hlt : ¬ S.1 16 j ≤ y.toNatClampNeg := fun h => c38 (by rw [hyt]; exact nI_le h (by omega))
          refine lv_bipush (v := (-2)) hx hb dX10_due_41 (by decide) ?_
          exact z_iret hx hb hr hlocks hZ dX10_due_43 (mQ_of (by rw [sp_due, hh]; simp only []; rw [if_pos c17, if_pos (Or.inr (Nat.not_le.mp hlt))]) ⟨_, _, _, hM⟩)
    · refine lv_iconst (v := (-1)) hx hb dX10_due_20 (by decide) ?_
      exact z_iret hx hb hr hlocks hZ dX10_due_21 (mQ_of (by rw [sp_due, hh]; simp only []; rw [if_neg c17]) ⟨_, _, _, hM⟩)

set_option maxHeartbeats 4000000 in
set_option maxRecDepth 100000 in
theorem c_X10_owed (l : Launch) (D : va_G) (cT : Nat → ClassId) (G : zG) (sz : Nat) (S : zS) (X : Nat → Nat) (cz : Int32) (f27 f29 : Nat → Int32) (nn : Nat) (x y : Int32) (hM : MD cT S X cz f27 f29 G) (hXI : XI X) (hS : ok S nn)  : zM l D cT yX10_owed wsX10_owed (zR 3 0 0) [.ref (X 0), .int x, .int y] G sz (mQ cT X (sp_owed S x y)) := by
  refine z_start (cc := cX10_owed) (maxL := 5) (ret := (some .int)) (by decide) rfl (Nat.le_of_ble_eq_true rfl) ?_
  intro p e s m below meth c ls hI hZ hl
  obtain ⟨hx, hb, hr, hml, hts, hown, hlocks, hname, hK, hA, hE⟩ := hI
  have hl : lv_has ls 5 [(0, .ref (X 0)), (1, .int x), (2, .int y)] := hl
  have hown : s.vm.findClass RX10 = some m.cls := hown
  have in_X10 : ∀ w ∈ u_ws RX10 TX10 30, w ∈ wsX10_owed := by decide +kernel
  have fl_47 := hts (.fieldLink RX10 47 "FairRentsModel" "letDay" "[I") (by decide +kernel)
  have fl_80 := hts (.fieldLink RX10 80 "FairRentsModel" "dues" "[I") (by decide +kernel)
  have fl_107 := hts (.fieldLink RX10 107 "FairRentsModel" "today" "I") (by decide +kernel)
  obtain ⟨m0, m2, m3, m4, m5, m6, m8, m9, m11, m12, m13, m14, m15, m16, m17, m18, m19, m21, m22, m23, m24, m25, m26, m27, m29⟩ := id hM
  obtain ⟨⟨k1, k10, k20, k0⟩, kH, k9, k8, k15, k26, kL, kLn, kP, kE, kEm, kn⟩ := id hS
  refine lv_aload_n hx hb dX10_owed_0 rfl (lv_at hl 0 rfl) ?_
  refine lv_iload_n hx hb dX10_owed_1 rfl (lv_at hl 1 rfl) ?_
  refine z_call (va_runV (As := [.int x]) (rest := []) ⟨hx, hb, hml, hown, hts⟩ (c_X10_isHome l D cT _ _ S X _ _ _ nn x hM hXI hS ) (cwV 1 hts gX10_owed_X10_isHome rfl rfl rfl (by decide +kernel) ⟨(Nat.le_of_ble_eq_true rfl), (Nat.le_of_ble_eq_true rfl)⟩) (z_preV hK hE hZ hA (ci := 10) rfl m0) rfl rfl hl.1 rfl (lv_room (Nat.le_of_ble_eq_true rfl)) dX10_owed_2 ⟨(Nat.le_of_ble_eq_true rfl), (Nat.le_of_ble_eq_true rfl)⟩) hZ hA (fun r G2 H locs hq hZ => ?_)
  obtain ⟨hg, rfl⟩ := hq
  replace hg := hg.symm
  subst hg
  refine W.eq (g2 := F0 m 5 ls [.int (if 0 ≤ x ∧ x ≤ nI (S.1 1 0) - 1 then 1 else 0)]) rfl ?_
  refine zb_eq (tgt := 39) hx hb dX10_owed_5 (by decide) (fun c5 => ?_) (fun c5 => ?_)
  · have hh := hix_no (S := S) c5
    refine lv_ldc (v := (-1000000000)) hx hb hown (hts (.constant RX10 131 (-1000000000)) (by decide +kernel)) dX10_owed_39 ?_
    exact z_iret hx hb hr hlocks hZ dX10_owed_41 (mQ_of (by rw [sp_owed, hh]) ⟨_, _, _, hM⟩)
  · obtain ⟨j, hj, hxj, hh⟩ := hix_yes k1 c5
    refine lv_iload_n hx hb dX10_owed_8 rfl (lv_at hl 2 rfl) ?_
    refine lv_iconst (v := 0) hx hb dX10_owed_9 (by decide) ?_
    refine lv_aload_n hx hb dX10_owed_10 rfl (lv_at hl 0 rfl) ?_
    refine z_get (ci := 10) (fs := [.int (nI (S.1 0 0)), .int (nI (S.1 1 0)), .ref (X 2), .ref (X 3), .ref (X 4), .ref (X 5), .ref (X 6), .long S.2.2, .ref (X 8), .ref (X 9), .int (nI (S.1 10 0)), .ref (X 11), .ref (X 12), .ref (X 13), .ref (X 14), .ref (X 15), .ref (X 16), .ref (X 17), .ref (X 18), .ref (X 19), .int (nI (S.1 20 0)), .ref (X 21), .ref (X 22), .ref (X 23), .ref (X 24), .ref (X 25), .ref (X 26), .ref (X 27), .int cz, .ref (X 29)]) (C := RX10) (T := TX10) (N := 30) hx hb hts in_X10 hown hK hZ m0 rfl 0 (by decide) fl_107 (fun _ h9 => h9) rfl dX10_owed_11 ?_
    refine z_call (va_runS (As := [.int y, .int 0, .int (nI (S.1 0 0))]) (rest := []) ⟨hx, hb, hml, hown, hts⟩ (c_X10_in l D cT _ _ y 0 (nI (S.1 0 0))) (va_cwS 3 hts gX10_owed_X10_in rfl rfl rfl (by decide +kernel) ⟨(Nat.le_of_ble_eq_true rfl), (Nat.le_of_ble_eq_true rfl)⟩) (z_preS hK hE hZ hA) rfl rfl hl.1 rfl (lv_room (Nat.le_of_ble_eq_true rfl)) dX10_owed_14 ⟨(Nat.le_of_ble_eq_true rfl), (Nat.le_of_ble_eq_true rfl)⟩) hZ hA (fun r G14 H locs hq hZ => ?_)
    obtain ⟨hg, rfl⟩ := hq
    replace hg := hg.symm
    subst hg
    refine W.eq (g2 := F0 m 17 ls [.int (if 0 ≤ y ∧ y ≤ (nI (S.1 0 0)) then 1 else 0)]) rfl ?_
    refine zb_eq (tgt := 39) hx hb dX10_owed_17 (by decide) (fun c17 => ?_) (fun c17 => ?_)
    · refine lv_ldc (v := (-1000000000)) hx hb hown (hts (.constant RX10 131 (-1000000000)) (by decide +kernel)) dX10_owed_39 ?_
      exact z_iret hx hb hr hlocks hZ dX10_owed_41 (mQ_of (by rw [sp_owed, hh]; simp only []; rw [if_neg (fun h => c17 h.1)]) ⟨_, _, _, hM⟩)
    · have hyt : y = nI y.toNatClampNeg := (z_self c17.1).symm
      have ht : y.toNatClampNeg ≤ S.1 0 0 := z_cl c17 (nI_toInt (by omega))
      refine lv_aload_n hx hb dX10_owed_20 rfl (lv_at hl 0 rfl) ?_
      refine z_get (ci := 10) (fs := [.int (nI (S.1 0 0)), .int (nI (S.1 1 0)), .ref (X 2), .ref (X 3), .ref (X 4), .ref (X 5), .ref (X 6), .long S.2.2, .ref (X 8), .ref (X 9), .int (nI (S.1 10 0)), .ref (X 11), .ref (X 12), .ref (X 13), .ref (X 14), .ref (X 15), .ref (X 16), .ref (X 17), .ref (X 18), .ref (X 19), .int (nI (S.1 20 0)), .ref (X 21), .ref (X 22), .ref (X 23), .ref (X 24), .ref (X 25), .ref (X 26), .ref (X 27), .int cz, .ref (X 29)]) (C := RX10) (T := TX10) (N := 30) hx hb hts in_X10 hown hK hZ m0 rfl 16 (by decide) fl_47 (fun _ h9 => h9) rfl dX10_owed_21 ?_
      refine lv_iload_n hx hb dX10_owed_24 rfl (lv_at hl 1 rfl) ?_
      refine z_iald hx hb hK hZ m16 j hxj (by omega) (by decide) dX10_owed_25 ?_
      refine lv_if_lt (tgt := 39) hx hb dX10_owed_26 (by decide) (fun c26 => ?_) (fun c26 => ?_)
      · have hl18 := cL_lt (kL j).2.1 k0 c26
        refine lv_ldc (v := (-1000000000)) hx hb hown (hts (.constant RX10 131 (-1000000000)) (by decide +kernel)) dX10_owed_39 ?_
        exact z_iret hx hb hr hlocks hZ dX10_owed_41 (mQ_of (by rw [sp_owed, hh]; simp only []; rw [if_neg (fun h => h.2.1 hl18)]) ⟨_, _, _, hM⟩)
      · have hl18 := cL_nlt c26
        refine lv_iload_n hx hb dX10_owed_29 rfl (lv_at hl 2 rfl) ?_
        refine lv_aload_n hx hb dX10_owed_30 rfl (lv_at hl 0 rfl) ?_
        refine z_get (ci := 10) (fs := [.int (nI (S.1 0 0)), .int (nI (S.1 1 0)), .ref (X 2), .ref (X 3), .ref (X 4), .ref (X 5), .ref (X 6), .long S.2.2, .ref (X 8), .ref (X 9), .int (nI (S.1 10 0)), .ref (X 11), .ref (X 12), .ref (X 13), .ref (X 14), .ref (X 15), .ref (X 16), .ref (X 17), .ref (X 18), .ref (X 19), .int (nI (S.1 20 0)), .ref (X 21), .ref (X 22), .ref (X 23), .ref (X 24), .ref (X 25), .ref (X 26), .ref (X 27), .int cz, .ref (X 29)]) (C := RX10) (T := TX10) (N := 30) hx hb hts in_X10 hown hK hZ m0 rfl 16 (by decide) fl_47 (fun _ h9 => h9) rfl dX10_owed_31 ?_
        refine lv_iload_n hx hb dX10_owed_34 rfl (lv_at hl 1 rfl) ?_
        refine z_iald hx hb hK hZ m16 j hxj (by omega) (by decide) dX10_owed_35 ?_
        refine W.eq (congrArg (fun v => F0 m 36 ls (.int v :: [.int y])) (show _ = nI (S.1 16 j) from cL_nz hl18)) ?_
        refine W.eq (g2 := F0 m 36 ls [.int (nI (S.1 16 j)), .int y]) rfl ?_
        refine lv_icmp_ge (tgt := 42) hx hb dX10_owed_36 (by decide) (fun c36 => ?_) (fun c36 => ?_)
        · have hL16 := (kL j).2.1
          have hlt : S.1 16 j ≤ y.toNatClampNeg := (nI_leI (by omega) (by omega)).mp (by rw [← hyt]; exact c36)
          refine lv_aload_n hx hb dX10_owed_42 rfl (lv_at hl 0 rfl) ?_
          refine lv_iload_n hx hb dX10_owed_43 rfl (lv_at hl 1 rfl) ?_
          refine lv_iload_n hx hb dX10_owed_44 rfl (lv_at hl 2 rfl) ?_
          refine z_call (va_runV (As := [.int x, .int y]) (rest := []) ⟨hx, hb, hml, hown, hts⟩ (c_X10_work l D cT _ _ S X _ _ _ nn x y j y.toNatClampNeg hM hXI hS hj hxj ht hyt hl18 hlt) (cwV 2 hts gX10_owed_X10_work rfl rfl rfl (by decide +kernel) ⟨(Nat.le_of_ble_eq_true rfl), (Nat.le_of_ble_eq_true rfl)⟩) (z_preV hK hE hZ hA (ci := 10) rfl m0) rfl rfl hl.1 rfl (lv_room (Nat.le_of_ble_eq_true rfl)) dX10_owed_45 ⟨(Nat.le_of_ble_eq_true rfl), (Nat.le_of_ble_eq_true rfl)⟩) hZ hA (fun r G45 H locs hq hZ => ?_)
          obtain ⟨hM45, rfl⟩ := hq
          obtain ⟨m0, m2, m3, m4, m5, m6, m8, m9, m11, m12, m13, m14, m15, m16, m17, m18, m19, m21, m22, m23, m24, m25, m26, m27, m29⟩ := id hM45
          refine W.eq (g2 := F0 m 48 ls []) rfl ?_
          refine lv_aload_n hx hb dX10_owed_48 rfl (lv_at hl 0 rfl) ?_
          refine lv_iload_n hx hb dX10_owed_49 rfl (lv_at hl 1 rfl) ?_
          refine lv_iload_n hx hb dX10_owed_50 rfl (lv_at hl 2 rfl) ?_
          refine z_call (va_runV (As := [.int x, .int y]) (rest := []) ⟨hx, hb, hml, hown, hts⟩ (c_X10_paidBy l D cT _ _ S X _ _ _ nn x y j y.toNatClampNeg hM45 hXI hS hj hxj (by omega) hyt) (cwV 2 hts gX10_owed_X10_paidBy rfl rfl rfl (by decide +kernel) ⟨(Nat.le_of_ble_eq_true rfl), (Nat.le_of_ble_eq_true rfl)⟩) (z_preV hK hE hZ hA (ci := 10) rfl m0) rfl rfl hl.1 rfl (lv_room (Nat.le_of_ble_eq_true rfl)) dX10_owed_51 ⟨(Nat.le_of_ble_eq_true rfl), (Nat.le_of_ble_eq_true rfl)⟩) hZ hA (fun r G51 H locs hq hZ => ?_)
          obtain ⟨hg, rfl⟩ := hq
          replace hg := hg.symm
          subst hg
          refine W.eq (g2 := F0 m 54 ls [.int (psum (fun d => S.2.1 19 (301 * j + d)) (y.toNatClampNeg + 1))]) rfl ?_
          refine lv_ineg hx hb dX10_owed_54 ?_
          refine W.eq (congrArg (fun v => F0 m 55 ls (.int v :: [])) (show _ = -psum (fun t => S.2.1 19 (301 * j + t)) (y.toNatClampNeg + 1) + psum (fun k => dd S j (S.1 16 j + k)) 0 from (Int32.add_zero _).symm)) ?_
          refine W.eq (g2 := F0 m 55 ls [.int (-psum (fun t => S.2.1 19 (301 * j + t)) (y.toNatClampNeg + 1) + psum (fun k => dd S j (S.1 16 j + k)) 0)]) rfl ?_
          refine lv_istore_n (lv' := [(3, .int (-psum (fun t => S.2.1 19 (301 * j + t)) (y.toNatClampNeg + 1) + psum (fun k => dd S j (S.1 16 j + k)) 0)), (0, .ref (X 0)), (1, .int x), (2, .int y)]) hx hb dX10_owed_55 rfl hl (by decide) rfl (fun ls hl => ?_)
          refine lv_aload_n hx hb dX10_owed_56 rfl (lv_at hl 1 rfl) ?_
          refine z_get (ci := 10) (fs := [.int (nI (S.1 0 0)), .int (nI (S.1 1 0)), .ref (X 2), .ref (X 3), .ref (X 4), .ref (X 5), .ref (X 6), .long S.2.2, .ref (X 8), .ref (X 9), .int (nI (S.1 10 0)), .ref (X 11), .ref (X 12), .ref (X 13), .ref (X 14), .ref (X 15), .ref (X 16), .ref (X 17), .ref (X 18), .ref (X 19), .int (nI (S.1 20 0)), .ref (X 21), .ref (X 22), .ref (X 23), .ref (X 24), .ref (X 25), .ref (X 26), .ref (X 27), .int cz, .ref (X 29)]) (C := RX10) (T := TX10) (N := 30) hx hb hts in_X10 hown hK hZ m0 rfl 16 (by decide) fl_47 (fun _ h9 => h9) rfl dX10_owed_57 ?_
          refine lv_iload_n hx hb dX10_owed_60 rfl (lv_at hl 2 rfl) ?_
          refine z_iald hx hb hK hZ m16 j hxj (by omega) (by decide) dX10_owed_61 ?_
          refine W.eq (congrArg (fun v => F0 m 62 ls (.int v :: [])) (show _ = nI (S.1 16 j + 0) from cL_nz hl18)) ?_
          refine W.eq (g2 := F0 m 62 ls [.int (nI (S.1 16 j + 0))]) rfl ?_
          refine lv_istore (lv' := [(4, .int (nI (S.1 16 j + 0))), (3, .int (-psum (fun t => S.2.1 19 (301 * j + t)) (y.toNatClampNeg + 1) + psum (fun k => dd S j (S.1 16 j + k)) 0)), (0, .ref (X 0)), (1, .int x), (2, .int y)]) hx hb dX10_owed_62 hl (by decide) rfl (fun ls hl => ?_)
          have loop64 : ∀ (q k : Nat) (hq : S.1 16 j + k + q = y.toNatClampNeg + 1) (H : Heap) (locs : List Loc) (ls : Array Slot), zW D (zA G sz) s.heap G45 H locs → lv_has ls 5 [(4, .int (nI (S.1 16 j + k))), (3, .int (-psum (fun t => S.2.1 19 (301 * j + t)) (y.toNatClampNeg + 1) + psum (fun k => dd S j (S.1 16 j + k)) k)), (0, .ref (X 0)), (1, .int x), (2, .int y)] → W p l e (zR 3 0 0) s m ([.ref (X 0), .int x, .int y] : List Value).toArray below meth c H locs 0 0 (MQ below (zQ D G sz (mQ cT X (sp_owed S x y))) ([.ref (X 0), .int x, .int y] : List Value).toArray s 0 0 (zA G sz)) (F0 m 64 ls []) := by
            intro q
            induction q with
            | zero =>
              intro k hq H locs ls hZ hl
              refine lv_iload hx hb dX10_owed_64 (lv_at hl 0 rfl) ?_
              refine lv_iload_n hx hb dX10_owed_66 rfl (lv_at hl 4 rfl) ?_
              refine lv_icmp_gt (tgt := 86) hx hb dX10_owed_67 (by decide) (fun _ => ?_) (fun c67 => absurd (by rw [hyt]; exact nI_lt (by omega) (by omega)) c67)
              refine lv_iload_n hx hb dX10_owed_86 rfl (lv_at hl 1 rfl) ?_
              exact z_iret hx hb hr hlocks hZ dX10_owed_87 (mQ_of (by rw [sp_owed, hh]; simp only []; rw [if_pos ⟨c17, hl18, Nat.not_lt.mpr hlt⟩, show y.toNatClampNeg + 1 - S.1 16 j = k by omega]) ⟨_, _, _, hM45⟩)
            | succ q ih64 =>
              intro k hq H locs ls hZ hl
              refine lv_iload hx hb dX10_owed_64 (lv_at hl 0 rfl) ?_
              refine lv_iload_n hx hb dX10_owed_66 rfl (lv_at hl 4 rfl) ?_
              refine lv_icmp_gt (tgt := 86) hx hb dX10_owed_67 (by decide) (fun c67 => absurd c67 (by rw [hyt]; exact nI_nlt (by omega) (by omega))) (fun _ => ?_)
              refine lv_iload_n hx hb dX10_owed_70 rfl (lv_at hl 1 rfl) ?_
              refine lv_aload_n hx hb dX10_owed_71 rfl (lv_at hl 2 rfl) ?_
              refine z_get (ci := 10) (fs := [.int (nI (S.1 0 0)), .int (nI (S.1 1 0)), .ref (X 2), .ref (X 3), .ref (X 4), .ref (X 5), .ref (X 6), .long S.2.2, .ref (X 8), .ref (X 9), .int (nI (S.1 10 0)), .ref (X 11), .ref (X 12), .ref (X 13), .ref (X 14), .ref (X 15), .ref (X 16), .ref (X 17), .ref (X 18), .ref (X 19), .int (nI (S.1 20 0)), .ref (X 21), .ref (X 22), .ref (X 23), .ref (X 24), .ref (X 25), .ref (X 26), .ref (X 27), .int cz, .ref (X 29)]) (C := RX10) (T := TX10) (N := 30) hx hb hts in_X10 hown hK hZ m0 rfl 29 (by decide) fl_80 (fun _ h9 => h9) rfl dX10_owed_72 ?_
              refine lv_iload hx hb dX10_owed_75 (lv_at hl 0 rfl) ?_
              refine z_iald hx hb hK hZ m29 (S.1 16 j + k) rfl (by omega) (by decide) dX10_owed_77 ?_
              refine lv_iadd hx hb dX10_owed_78 ?_
              refine W.eq (congrArg (fun v => F0 m 79 ls (.int v :: [])) (show _ = -psum (fun t => S.2.1 19 (301 * j + t)) (y.toNatClampNeg + 1) + psum (fun k => dd S j (S.1 16 j + k)) (k + 1) from ow_s (dd_e S j f29 hS hj hl18 (by omega) (by omega)))) ?_
              refine W.eq (g2 := F0 m 79 ls [.int (-psum (fun t => S.2.1 19 (301 * j + t)) (y.toNatClampNeg + 1) + psum (fun k => dd S j (S.1 16 j + k)) (k + 1))]) rfl ?_
              refine lv_istore_n (lv' := [(3, .int (-psum (fun t => S.2.1 19 (301 * j + t)) (y.toNatClampNeg + 1) + psum (fun k => dd S j (S.1 16 j + k)) (k + 1))), (4, .int (nI (S.1 16 j + k))), (0, .ref (X 0)), (1, .int x), (2, .int y)]) hx hb dX10_owed_79 rfl hl (by decide) rfl (fun ls hl => ?_)
              refine lv_iinc (v := nI (S.1 16 j + (k + 1))) (lv' := [(4, .int (nI (S.1 16 j + (k + 1)))), (3, .int (-psum (fun t => S.2.1 19 (301 * j + t)) (y.toNatClampNeg + 1) + psum (fun k => dd S j (S.1 16 j + k)) (k + 1))), (0, .ref (X 0)), (1, .int x), (2, .int y)]) hx hb dX10_owed_80 hl (k := 1) rfl (nI_1 _) (by decide) rfl (fun ls hl => ?_)
              refine lv_goto (tgt := 64) hx hb dX10_owed_83 (by decide) ?_
              exact ih64 (k + 1) (by omega) _ _ _ hZ (lv_sub hl [0, 1, 2, 3, 4] rfl)
          exact loop64 (y.toNatClampNeg + 1 - S.1 16 j) 0 (by omega) _ _ _ hZ (lv_sub hl [0, 1, 2, 3, 4] rfl)
        · have hlt : ¬ S.1 16 j ≤ y.toNatClampNeg := fun h => c36 (by rw [hyt]; exact nI_le h (by omega))
          refine lv_ldc (v := (-1000000000)) hx hb hown (hts (.constant RX10 131 (-1000000000)) (by decide +kernel)) dX10_owed_39 ?_
          exact z_iret hx hb hr hlocks hZ dX10_owed_41 (mQ_of (by rw [sp_owed, hh]; simp only []; rw [if_neg (fun h => h.2.2 (Nat.not_le.mp hlt))]) ⟨_, _, _, hM⟩)

set_option maxHeartbeats 4000000 in
set_option maxRecDepth 100000 in
theorem c_X9_like (l : Launch) (D : va_G) (cT : Nat → ClassId) (G : zG) (sz : Nat) (S : zS) (X : Nat → Nat → Nat) (ct md sc rp : Int32) (fo fd : Nat → Int32) (nn : Nat) (x a b : Int32) (hF : FR cT S X ct md sc rp fo fd G) (hS : ok S nn)  : zM l D cT yX9_like wsX9_like (zR 2 1 5) [.ref (X 0 0), .int x, .int a, .int b] G sz (fQ cT (X 0 0) (sp_like S x a b)) := by
  refine z_start (cc := cX9_like) (maxL := 4) (ret := (some .int)) (by decide) rfl (Nat.le_of_ble_eq_true rfl) ?_
  intro p e s m below meth c ls hI hZ hl
  obtain ⟨hx, hb, hr, hml, hts, hown, hlocks, hname, hK, hA, hE⟩ := hI
  have hl : lv_has ls 4 [(0, .ref (X 0 0)), (1, .int x), (2, .int a), (3, .int b)] := hl
  have hown : s.vm.findClass RX9 = some m.cls := hown
  have in_X6 : ∀ w ∈ u_ws RX6 TX6 5, w ∈ wsX9_like := by decide +kernel
  have in_X9 : ∀ w ∈ u_ws RX9 TX9 12, w ∈ wsX9_like := by decide +kernel
  have fl_17 := hts (.fieldLink RX9 17 "FairRents" "likes" "[LFairRents$Like;") (by decide +kernel)
  have fl_94 := hts (.fieldLink RX9 94 "FairRents" "today" "I") (by decide +kernel)
  have fl_105 := hts (.fieldLink RX9 105 "FairRents" "likesTold" "I") (by decide +kernel)
  obtain ⟨⟨k1, k10, k20, k0⟩, kH, k9, k8, k15, k26, kL, kLn, kP, kE, kEm, kn⟩ := id hS
  refine lv_iload_n hx hb dX9_like_0 rfl (lv_at hl 1 rfl) ?_
  refine lv_iconst (v := 0) hx hb dX9_like_1 (by decide) ?_
  refine lv_iconst (v := 2) hx hb dX9_like_2 (by decide) ?_
  refine z_call (va_runS (As := [.int x, .int 0, .int 2]) (rest := []) ⟨hx, hb, hml, hown, hts⟩ (c_X9_within l D cT _ _ x 0 2) (va_cwS 3 hts gX9_like_X9_within rfl rfl rfl (by decide +kernel) ⟨(Nat.le_of_ble_eq_true rfl), (Nat.le_of_ble_eq_true rfl)⟩) (z_preS hK hE hZ hA) rfl rfl hl.1 rfl (lv_room (Nat.le_of_ble_eq_true rfl)) dX9_like_3 ⟨(Nat.le_of_ble_eq_true rfl), (Nat.le_of_ble_eq_true rfl)⟩) hZ hA (fun r G3 H locs hq hZ => ?_)
  obtain ⟨hg, rfl⟩ := hq
  replace hg := hg.symm
  subst hg
  refine W.eq (g2 := F0 m 6 ls [.int (if 0 ≤ x ∧ x ≤ 2 then 1 else 0)]) rfl ?_
  refine zb_eq (tgt := 31) hx hb dX9_like_6 (by decide) (fun c6 => ?_) (fun c6 => ?_)
  · refine lv_iconst (v := (-1)) hx hb dX9_like_31 (by decide) ?_
    refine W.widen (k := 1) (n := 5) (Nat.le_of_ble_eq_true rfl) (Nat.le_of_ble_eq_true rfl) ?_
    exact z_iret hx hb hr hlocks hZ dX9_like_32 (fQ_of (by rw [sp_like, if_neg (fun h => c6 h.1)]) rfl ⟨_, _, _, _, _, _, hF⟩)
  · refine lv_iload_n hx hb dX9_like_9 rfl (lv_at hl 2 rfl) ?_
    refine lv_iconst (v := 0) hx hb dX9_like_10 (by decide) ?_
    refine lv_sipush (v := 200) hx hb dX9_like_11 (by decide) ?_
    refine z_call (va_runS (As := [.int a, .int 0, .int 200]) (rest := []) ⟨hx, hb, hml, hown, hts⟩ (c_X9_within l D cT _ _ a 0 200) (va_cwS 3 hts gX9_like_X9_within rfl rfl rfl (by decide +kernel) ⟨(Nat.le_of_ble_eq_true rfl), (Nat.le_of_ble_eq_true rfl)⟩) (z_preS hK hE hZ hA) rfl rfl hl.1 rfl (lv_room (Nat.le_of_ble_eq_true rfl)) dX9_like_14 ⟨(Nat.le_of_ble_eq_true rfl), (Nat.le_of_ble_eq_true rfl)⟩) hZ hA (fun r G14 H locs hq hZ => ?_)
    obtain ⟨hg, rfl⟩ := hq
    replace hg := hg.symm
    subst hg
    refine W.eq (g2 := F0 m 17 ls [.int (if 0 ≤ a ∧ a ≤ 200 then 1 else 0)]) rfl ?_
    refine zb_eq (tgt := 31) hx hb dX9_like_17 (by decide) (fun c17 => ?_) (fun c17 => ?_)
    · refine lv_iconst (v := (-1)) hx hb dX9_like_31 (by decide) ?_
      refine W.widen (k := 1) (n := 5) (Nat.le_of_ble_eq_true rfl) (Nat.le_of_ble_eq_true rfl) ?_
      exact z_iret hx hb hr hlocks hZ dX9_like_32 (fQ_of (by rw [sp_like, if_neg (fun h => c17 h.2.1)]) rfl ⟨_, _, _, _, _, _, hF⟩)
    · refine lv_iload_n hx hb dX9_like_20 rfl (lv_at hl 3 rfl) ?_
      refine lv_iconst (v := 1) hx hb dX9_like_21 (by decide) ?_
      refine lv_sipush (v := 5000) hx hb dX9_like_22 (by decide) ?_
      refine z_call (va_runS (As := [.int b, .int 1, .int 5000]) (rest := []) ⟨hx, hb, hml, hown, hts⟩ (c_X9_within l D cT _ _ b 1 5000) (va_cwS 3 hts gX9_like_X9_within rfl rfl rfl (by decide +kernel) ⟨(Nat.le_of_ble_eq_true rfl), (Nat.le_of_ble_eq_true rfl)⟩) (z_preS hK hE hZ hA) rfl rfl hl.1 rfl (lv_room (Nat.le_of_ble_eq_true rfl)) dX9_like_25 ⟨(Nat.le_of_ble_eq_true rfl), (Nat.le_of_ble_eq_true rfl)⟩) hZ hA (fun r G25 H locs hq hZ => ?_)
      obtain ⟨hg, rfl⟩ := hq
      replace hg := hg.symm
      subst hg
      refine W.eq (g2 := F0 m 28 ls [.int (if 1 ≤ b ∧ b ≤ 5000 then 1 else 0)]) rfl ?_
      refine zb_ne (tgt := 33) hx hb dX9_like_28 (by decide) (fun c28 => ?_) (fun c28 => ?_)
      · refine lv_aload_n hx hb dX9_like_33 rfl (lv_at hl 0 rfl) ?_
        refine z_get (ci := 9) (fs := [.ref (X 0 1), .ref (X 0 2), .ref (X 0 3), .ref (X 0 4), .ref (X 0 5), .ref (X 0 7), .ref (X 0 9), .int (nI (S.1 1 0)), .int (nI (S.1 10 0)), .int (nI (S.1 20 0)), .int (nI (S.1 0 0)), .long S.2.2]) (C := RX9) (T := TX9) (N := 12) hx hb hts in_X9 hown hK hZ (f00 hF) rfl 8 (by decide) fl_105 (fun _ h9 => h9) rfl dX9_like_34 ?_
        refine lv_aload_n hx hb dX9_like_37 rfl (lv_at hl 0 rfl) ?_
        refine z_get (ci := 9) (fs := [.ref (X 0 1), .ref (X 0 2), .ref (X 0 3), .ref (X 0 4), .ref (X 0 5), .ref (X 0 7), .ref (X 0 9), .int (nI (S.1 1 0)), .int (nI (S.1 10 0)), .int (nI (S.1 20 0)), .int (nI (S.1 0 0)), .long S.2.2]) (C := RX9) (T := TX9) (N := 12) hx hb hts in_X9 hown hK hZ (f00 hF) rfl 1 (by decide) fl_17 (fun _ h9 => h9) rfl dX9_like_38 ?_
        refine z_alen hx hb hK hZ 3 (f02 hF) rfl dX9_like_41 ?_
        refine lv_icmp_lt (tgt := 48) hx hb dX9_like_42 (by decide) (fun c42 => ?_) (fun c42 => ?_)
        · have c8 : ¬ S.1 10 0 = 12 := fun h => absurd c42 (by rw [h]; exact (show ¬ nI 12 < nI 12 by decide))
          refine lv_aload_n hx hb dX9_like_48 rfl (lv_at hl 0 rfl) ?_
          refine z_get (ci := 9) (fs := [.ref (X 0 1), .ref (X 0 2), .ref (X 0 3), .ref (X 0 4), .ref (X 0 5), .ref (X 0 7), .ref (X 0 9), .int (nI (S.1 1 0)), .int (nI (S.1 10 0)), .int (nI (S.1 20 0)), .int (nI (S.1 0 0)), .long S.2.2]) (C := RX9) (T := TX9) (N := 12) hx hb hts in_X9 hown hK hZ (f00 hF) rfl 1 (by decide) fl_17 (fun _ h9 => h9) rfl dX9_like_49 ?_
          refine lv_aload_n hx hb dX9_like_52 rfl (lv_at hl 0 rfl) ?_
          refine z_get (ci := 9) (fs := [.ref (X 0 1), .ref (X 0 2), .ref (X 0 3), .ref (X 0 4), .ref (X 0 5), .ref (X 0 7), .ref (X 0 9), .int (nI (S.1 1 0)), .int (nI (S.1 10 0)), .int (nI (S.1 20 0)), .int (nI (S.1 0 0)), .long S.2.2]) (C := RX9) (T := TX9) (N := 12) hx hb hts in_X9 hown hK hZ (f00 hF) rfl 8 (by decide) fl_105 (fun _ h9 => h9) rfl dX9_like_53 ?_
          refine z_new (ci := 6) (fs := [.int 0, .int 0, .int 0, .int 0, .int 0]) (C := RX6) (T := TX6) (N := 5) hx hb hts in_X6 tyX6 tyX6_ok hown (hts (.classLink RX9 15 RX6) (by decide +kernel)) (hts (.instantiable RX6 5) (by decide +kernel)) (hts (.initialized RX6) (by decide +kernel)) hK hZ hA rfl (fun j hj => by rcases (show j = 0 ∨ j = 1 ∨ j = 2 ∨ j = 3 ∨ j = 4 by omega) with rfl | rfl | rfl | rfl | rfl <;> rfl) (Nat.le_of_ble_eq_true rfl) (Nat.le_of_ble_eq_true rfl) dX9_like_56 (fun q H hf_q hZ => ?_)
          have ne_X_0_0_q : X 0 0 ≠ q := z_nef (f00 hF) hf_q
          have ne_X_0_1_q : X 0 1 ≠ q := z_nef (f01 hF) hf_q
          have ne_X_0_2_q : X 0 2 ≠ q := z_nef (f02 hF) hf_q
          have ne_X_0_3_q : X 0 3 ≠ q := z_nef (f03 hF) hf_q
          have ne_X_0_4_q : X 0 4 ≠ q := z_nef (f04 hF) hf_q
          have ne_X_0_5_q : X 0 5 ≠ q := z_nef (f05 hF) hf_q
          have ne_X_0_6_q : X 0 6 ≠ q := z_nef (f06 hF) hf_q
          have ne_X_0_7_q : X 0 7 ≠ q := z_nef (f07 hF) hf_q
          have ne_X_0_8_q : X 0 8 ≠ q := z_nef (f08 hF) hf_q
          have ne_X_0_9_q : X 0 9 ≠ q := z_nef (f09 hF) hf_q
          refine W.widen (k := 1) (n := 5) (by decide) (by decide) ?_
          refine lv_dup hx hb dX9_like_59 rfl ?_
          refine lv_iload_n hx hb dX9_like_60 rfl (lv_at hl 1 rfl) ?_
          refine lv_iload_n hx hb dX9_like_61 rfl (lv_at hl 2 rfl) ?_
          refine lv_iload_n hx hb dX9_like_62 rfl (lv_at hl 3 rfl) ?_
          refine lv_aload_n hx hb dX9_like_63 rfl (lv_at hl 0 rfl) ?_
          refine z_get (ci := 9) (fs := [.ref (X 0 1), .ref (X 0 2), .ref (X 0 3), .ref (X 0 4), .ref (X 0 5), .ref (X 0 7), .ref (X 0 9), .int (nI (S.1 1 0)), .int (nI (S.1 10 0)), .int (nI (S.1 20 0)), .int (nI (S.1 0 0)), .long S.2.2]) (C := RX9) (T := TX9) (N := 12) hx hb hts in_X9 hown hK hZ ((va_up_ne _ _ ne_X_0_0_q).trans (f00 hF)) rfl 10 (by decide) fl_94 (fun _ h9 => h9) rfl dX9_like_64 ?_
          refine z_call (va_runI (As := [.int x, .int a, .int b, .int (nI (S.1 0 0))]) (rest := [.ref q, .int (nI (S.1 10 0)), .ref (X 0 2)]) ⟨hx, hb, hml, hown, hts⟩ (c_X6_init l D cT _ _ q x a b (nI (S.1 0 0)) (va_up_self _ _ _)) (cwI 4 hts gX9_like_X6_init rfl rfl rfl (hts (.initialized RX6) (by decide +kernel)) (hts (.methodLink RX9 108 yX6_init) (by decide +kernel)) (hts (.instanceMethod yX6_init) (by decide +kernel)) rfl (by decide +kernel) ⟨(Nat.le_of_ble_eq_true rfl), (Nat.le_of_ble_eq_true rfl)⟩) (z_preS hK hE hZ hA) rfl rfl hl.1 rfl (lv_room (Nat.le_of_ble_eq_true rfl)) dX9_like_67 ⟨(Nat.le_of_ble_eq_true rfl), (Nat.le_of_ble_eq_true rfl)⟩) hZ hA (fun r G67 H locs hq hZ => ?_)
          obtain ⟨hg, rfl⟩ := hq
          replace hg := hg.symm
          subst hg
          rw [bx_uu] at hZ
          refine W.eq (g2 := F0 m 70 ls [.ref q, .int (nI (S.1 10 0)), .ref (X 0 2)]) rfl ?_
          refine z_aast hx hb hK hZ 3 6 ((va_up_ne _ _ ne_X_0_2_q).trans (f02 hF)) rfl (va_up_self _ _ _) rfl (S.1 10 0) rfl (Nat.lt_of_le_of_ne k10 c8) (by decide) dX9_like_70 (fun H locs hZ => ?_)
          refine lv_aload_n hx hb dX9_like_71 rfl (lv_at hl 0 rfl) ?_
          refine lv_dup hx hb dX9_like_72 rfl ?_
          refine z_get (ci := 9) (fs := [.ref (X 0 1), .ref (X 0 2), .ref (X 0 3), .ref (X 0 4), .ref (X 0 5), .ref (X 0 7), .ref (X 0 9), .int (nI (S.1 1 0)), .int (nI (S.1 10 0)), .int (nI (S.1 20 0)), .int (nI (S.1 0 0)), .long S.2.2]) (C := RX9) (T := TX9) (N := 12) hx hb hts in_X9 hown hK hZ ((va_up_ne _ _ (z_neOA (f00 hF) (f02 hF))).trans ((va_up_ne _ _ ne_X_0_0_q).trans (f00 hF))) rfl 8 (by decide) fl_105 (fun _ h9 => h9) rfl dX9_like_73 ?_
          refine lv_iconst (v := 1) hx hb dX9_like_76 (by decide) ?_
          refine lv_iadd hx hb dX9_like_77 ?_
          refine W.eq (congrArg (fun v => F0 m 78 ls (.int v :: [.ref (X 0 0)])) (show _ = nI (S.1 10 0 + 1) from nI_1 _)) ?_
          refine W.eq (g2 := F0 m 78 ls [.int (nI (S.1 10 0 + 1)), .ref (X 0 0)]) rfl ?_
          refine z_put (ci := 9) (fs := [.ref (X 0 1), .ref (X 0 2), .ref (X 0 3), .ref (X 0 4), .ref (X 0 5), .ref (X 0 7), .ref (X 0 9), .int (nI (S.1 1 0)), .int (nI (S.1 10 0)), .int (nI (S.1 20 0)), .int (nI (S.1 0 0)), .long S.2.2]) (fs' := [.ref (X 0 1), .ref (X 0 2), .ref (X 0 3), .ref (X 0 4), .ref (X 0 5), .ref (X 0 7), .ref (X 0 9), .int (nI (S.1 1 0)), .int (nI (S.1 10 0 + 1)), .int (nI (S.1 20 0)), .int (nI (S.1 0 0)), .long S.2.2]) (v := .int (nI (S.1 10 0 + 1))) (ty := .int) (C := RX9) (T := TX9) (N := 12) hx hb hts in_X9 tyX9 tyX9_ok nmX9 hown hK hZ ((va_up_ne _ _ (z_neOA (f00 hF) (f02 hF))).trans ((va_up_ne _ _ ne_X_0_0_q).trans (f00 hF))) rfl 8 (by decide) fl_105 (fun _ h9 => h9) rfl (by decide +kernel) rfl rfl (Nat.le_of_ble_eq_true rfl) rfl dX9_like_78 (fun H locs hZ => ?_)
          refine lv_aload_n hx hb dX9_like_81 rfl (lv_at hl 0 rfl) ?_
          refine z_get (ci := 9) (fs := [.ref (X 0 1), .ref (X 0 2), .ref (X 0 3), .ref (X 0 4), .ref (X 0 5), .ref (X 0 7), .ref (X 0 9), .int (nI (S.1 1 0)), .int (nI (S.1 10 0 + 1)), .int (nI (S.1 20 0)), .int (nI (S.1 0 0)), .long S.2.2]) (C := RX9) (T := TX9) (N := 12) hx hb hts in_X9 hown hK hZ (va_up_self _ _ _) rfl 8 (by decide) fl_105 (fun _ h9 => h9) rfl dX9_like_82 ?_
          refine lv_iconst (v := 1) hx hb dX9_like_85 (by decide) ?_
          refine lv_isub hx hb dX9_like_86 ?_
          refine W.eq (congrArg (fun v => F0 m 87 ls (.int v :: [])) (show _ = nI (S.1 10 0) from nI_pred _)) ?_
          refine W.eq (g2 := F0 m 87 ls [.int (nI (S.1 10 0))]) rfl ?_
          exact z_iret hx hb hr hlocks hZ dX9_like_87 (by rw [sp_like, if_pos ⟨c6, c17, c28⟩, if_neg c8]; exact ⟨⟨xU X 5 (S.1 10 0) q, rfl, _, _, _, _, _, _, fr_like hF hf_q x a b⟩, rfl⟩)
        · have c8 : S.1 10 0 = 12 := Nat.le_antisymm k10 (Nat.not_lt.mp (fun z => c42 (nI_lt (b := 12) z (by decide))))
          refine lv_bipush (v := (-3)) hx hb dX9_like_45 (by decide) ?_
          refine W.widen (k := 1) (n := 5) (Nat.le_of_ble_eq_true rfl) (Nat.le_of_ble_eq_true rfl) ?_
          exact z_iret hx hb hr hlocks hZ dX9_like_47 (fQ_of (by rw [sp_like, if_pos ⟨c6, c17, c28⟩, if_pos c8]) rfl ⟨_, _, _, _, _, _, hF⟩)
      · refine lv_iconst (v := (-1)) hx hb dX9_like_31 (by decide) ?_
        refine W.widen (k := 1) (n := 5) (Nat.le_of_ble_eq_true rfl) (Nat.le_of_ble_eq_true rfl) ?_
        exact z_iret hx hb hr hlocks hZ dX9_like_32 (fQ_of (by rw [sp_like, if_neg (fun h => c28 h.2.2)]) rfl ⟨_, _, _, _, _, _, hF⟩)

set_option maxHeartbeats 4000000 in
set_option maxRecDepth 100000 in
theorem c_X9_ask (l : Launch) (D : va_G) (cT : Nat → ClassId) (G : zG) (sz : Nat) (S : zS) (X : Nat → Nat → Nat) (ct md sc rp : Int32) (fo fd : Nat → Int32) (nn : Nat) (x : Int32) (hF : FR cT S X ct md sc rp fo fd G) (hS : ok S nn)  : zM l D cT yX9_ask wsX9_ask (zR 4 1 9) [.ref (X 0 0), .int x] G sz (fQ cT (X 0 0) (sp_ask S x)) := by
  refine z_start (cc := cX9_ask) (maxL := 4) (ret := (some .int)) (by decide) rfl (Nat.le_of_ble_eq_true rfl) ?_
  intro p e s m below meth c ls hI hZ hl
  obtain ⟨hx, hb, hr, hml, hts, hown, hlocks, hname, hK, hA, hE⟩ := hI
  have hl : lv_has ls 4 [(0, .ref (X 0 0)), (1, .int x)] := hl
  have hown : s.vm.findClass RX9 = some m.cls := hown
  have in_X0 : ∀ w ∈ u_ws RX0 TX0 9, w ∈ wsX9_ask := by decide +kernel
  have in_X3 : ∀ w ∈ u_ws RX3 TX3 4, w ∈ wsX9_ask := by decide +kernel
  have in_X5 : ∀ w ∈ u_ws RX5 TX5 5, w ∈ wsX9_ask := by decide +kernel
  have in_X9 : ∀ w ∈ u_ws RX9 TX9 12, w ∈ wsX9_ask := by decide +kernel
  have fl_17 := hts (.fieldLink RX9 17 "FairRents" "likes" "[LFairRents$Like;") (by decide +kernel)
  have fl_23 := hts (.fieldLink RX9 23 "FairRents" "entries" "[LFairRents$Entry;") (by decide +kernel)
  have fl_43 := hts (.fieldLink RX9 43 "FairRents" "heads" "LFairRents$Heads;") (by decide +kernel)
  have fl_94 := hts (.fieldLink RX9 94 "FairRents" "today" "I") (by decide +kernel)
  have fl_135 := hts (.fieldLink RX9 135 "FairRents$Home" "letting" "LFairRents$Letting;") (by decide +kernel)
  have fl_152 := hts (.fieldLink RX9 152 "FairRents" "entriesMade" "I") (by decide +kernel)
  have fl_155 := hts (.fieldLink RX9 155 "FairRents$Letting" "number" "I") (by decide +kernel)
  obtain ⟨⟨k1, k10, k20, k0⟩, kH, k9, k8, k15, k26, kL, kLn, kP, kE, kEm, kn⟩ := id hS
  refine lv_aload_n hx hb dX9_ask_0 rfl (lv_at hl 0 rfl) ?_
  refine lv_iload_n hx hb dX9_ask_1 rfl (lv_at hl 1 rfl) ?_
  refine z_call (va_runV (As := [.int x]) (rest := []) ⟨hx, hb, hml, hown, hts⟩ (c_X9_homeAt l D cT _ _ S X _ _ _ _ _ _ nn x hF hS ) (cwV 1 hts gX9_ask_X9_homeAt rfl rfl rfl (by decide +kernel) ⟨(Nat.le_of_ble_eq_true rfl), (Nat.le_of_ble_eq_true rfl)⟩) (z_preV hK hE hZ hA (ci := 9) rfl (f00 hF)) rfl rfl hl.1 rfl (lv_room (Nat.le_of_ble_eq_true rfl)) dX9_ask_2 ⟨(Nat.le_of_ble_eq_true rfl), (Nat.le_of_ble_eq_true rfl)⟩) hZ hA (fun r G2 H locs hq hZ => ?_)
  obtain ⟨hg, rfl⟩ := hq
  replace hg := hg.symm
  subst hg
  refine W.eq (g2 := F0 m 5 ls [va_rf ((hix S x).map (X 1))]) rfl ?_
  rcases hh : hix S x with _ | j
  · refine W.eq (g2 := F0 m 5 ls [.null]) rfl ?_
    refine lv_astore_nN (lv' := [(2, .null), (0, .ref (X 0 0)), (1, .int x)]) hx hb dX9_ask_5 rfl hl (by decide) rfl (fun ls hl => ?_)
    refine lv_aload_nN hx hb dX9_ask_6 rfl (lv_at hl 0 rfl) ?_
    refine lv_ifnonnullN hx hb dX9_ask_7 ?_
    refine lv_iconst (v := (-1)) hx hb dX9_ask_10 (by decide) ?_
    refine W.widen (k := 1) (n := 9) (Nat.le_of_ble_eq_true rfl) (Nat.le_of_ble_eq_true rfl) ?_
    exact z_iret hx hb hr hlocks hZ dX9_ask_11 (fQ_of (by rw [sp_ask, hh]) rfl ⟨_, _, _, _, _, _, hF⟩)
  · refine W.eq (g2 := F0 m 5 ls [.ref (X 1 j)]) rfl ?_
    obtain ⟨hj, hxj⟩ := hix_some k1 hh
    refine lv_astore_n (lv' := [(2, .ref (X 1 j)), (0, .ref (X 0 0)), (1, .int x)]) hx hb dX9_ask_5 rfl hl (by decide) rfl (fun ls hl => ?_)
    refine lv_aload_n hx hb dX9_ask_6 rfl (lv_at hl 0 rfl) ?_
    refine lv_ifnonnull (tgt := 12) hx hb dX9_ask_7 (by decide) ?_
    refine lv_aload_n hx hb dX9_ask_12 rfl (lv_at hl 0 rfl) ?_
    refine z_get (ci := 3) (fs := [.ref (X 2 j), .int (nI (S.1 3 j)), .ref (X 3 j), .int (S.2.1 6 j)]) (C := RX3) (T := TX3) (N := 4) hx hb hts in_X3 hown hK hZ (f1 hF hj) rfl 2 (by decide) fl_135 (fun _ h9 => h9) rfl dX9_ask_13 ?_
    refine z_call (va_runV (As := []) (rest := []) ⟨hx, hb, hml, hown, hts⟩ (c_X5_isLet l D cT _ _ (X 3 j) (X 4 j) (nI (S.1 18 j)) (nI (S.1 16 j)) (S.2.1 17 j) (psum (rowS S j) 301) (f3 hF hj)) (cwV 0 hts gX9_ask_X5_isLet rfl rfl rfl (by decide +kernel) ⟨(Nat.le_of_ble_eq_true rfl), (Nat.le_of_ble_eq_true rfl)⟩) (z_preV hK hE hZ hA (ci := 5) rfl (f3 hF hj)) rfl rfl hl.1 rfl (lv_room (Nat.le_of_ble_eq_true rfl)) dX9_ask_16 ⟨(Nat.le_of_ble_eq_true rfl), (Nat.le_of_ble_eq_true rfl)⟩) hZ hA (fun r G16 H locs hq hZ => ?_)
    obtain ⟨hg, rfl⟩ := hq
    replace hg := hg.symm
    subst hg
    refine W.eq (g2 := F0 m 19 ls [.int (if 0 < (nI (S.1 18 j)) then 1 else 0)]) rfl ?_
    refine zb_eq (tgt := 34) hx hb dX9_ask_19 (by decide) (fun c19 => ?_) (fun c19 => ?_)
    · have hl18 : S.1 18 j = 0 := hl_z (by have := (kL j).1; omega) c19
      refine lv_bipush (v := (-2)) hx hb dX9_ask_34 (by decide) ?_
      refine W.widen (k := 1) (n := 9) (Nat.le_of_ble_eq_true rfl) (Nat.le_of_ble_eq_true rfl) ?_
      exact z_iret hx hb hr hlocks hZ dX9_ask_36 (fQ_of (by rw [sp_ask, hh]; simp only []; rw [if_pos (Or.inl hl18)]) rfl ⟨_, _, _, _, _, _, hF⟩)
    · have hl18 : ¬ S.1 18 j = 0 := hl_nz c19
      refine lv_aload_n hx hb dX9_ask_22 rfl (lv_at hl 1 rfl) ?_
      refine z_get (ci := 9) (fs := [.ref (X 0 1), .ref (X 0 2), .ref (X 0 3), .ref (X 0 4), .ref (X 0 5), .ref (X 0 7), .ref (X 0 9), .int (nI (S.1 1 0)), .int (nI (S.1 10 0)), .int (nI (S.1 20 0)), .int (nI (S.1 0 0)), .long S.2.2]) (C := RX9) (T := TX9) (N := 12) hx hb hts in_X9 hown hK hZ (f00 hF) rfl 10 (by decide) fl_94 (fun _ h9 => h9) rfl dX9_ask_23 ?_
      refine lv_aload_n hx hb dX9_ask_26 rfl (lv_at hl 1 rfl) ?_
      refine lv_iload_n hx hb dX9_ask_27 rfl (lv_at hl 2 rfl) ?_
      refine z_call (va_runV (As := [.int x]) (rest := [.int (nI (S.1 0 0))]) ⟨hx, hb, hml, hown, hts⟩ (c_X9_barEnd l D cT _ _ S X _ _ _ _ _ _ nn x j hF hS hj hxj) (cwV 1 hts gX9_ask_X9_barEnd rfl rfl rfl (by decide +kernel) ⟨(Nat.le_of_ble_eq_true rfl), (Nat.le_of_ble_eq_true rfl)⟩) (z_preV hK hE hZ hA (ci := 9) rfl (f00 hF)) rfl rfl hl.1 rfl (lv_room (Nat.le_of_ble_eq_true rfl)) dX9_ask_28 ⟨(Nat.le_of_ble_eq_true rfl), (Nat.le_of_ble_eq_true rfl)⟩) hZ hA (fun r G28 H locs hq hZ => ?_)
      obtain ⟨hg, rfl⟩ := hq
      replace hg := hg.symm
      subst hg
      refine W.eq (g2 := F0 m 31 ls [.int (bar S j), .int (nI (S.1 0 0))]) rfl ?_
      refine lv_icmp_ge (tgt := 37) hx hb dX9_ask_31 (by decide) (fun c31 => ?_) (fun c31 => ?_)
      · have hb2 : ¬ nI (S.1 0 0) < bar S j := z_nl c31
        refine lv_aload_n hx hb dX9_ask_37 rfl (lv_at hl 1 rfl) ?_
        refine z_get (ci := 9) (fs := [.ref (X 0 1), .ref (X 0 2), .ref (X 0 3), .ref (X 0 4), .ref (X 0 5), .ref (X 0 7), .ref (X 0 9), .int (nI (S.1 1 0)), .int (nI (S.1 10 0)), .int (nI (S.1 20 0)), .int (nI (S.1 0 0)), .long S.2.2]) (C := RX9) (T := TX9) (N := 12) hx hb hts in_X9 hown hK hZ (f00 hF) rfl 9 (by decide) fl_152 (fun _ h9 => h9) rfl dX9_ask_38 ?_
        refine lv_aload_n hx hb dX9_ask_41 rfl (lv_at hl 1 rfl) ?_
        refine z_get (ci := 9) (fs := [.ref (X 0 1), .ref (X 0 2), .ref (X 0 3), .ref (X 0 4), .ref (X 0 5), .ref (X 0 7), .ref (X 0 9), .int (nI (S.1 1 0)), .int (nI (S.1 10 0)), .int (nI (S.1 20 0)), .int (nI (S.1 0 0)), .long S.2.2]) (C := RX9) (T := TX9) (N := 12) hx hb hts in_X9 hown hK hZ (f00 hF) rfl 2 (by decide) fl_23 (fun _ h9 => h9) rfl dX9_ask_42 ?_
        refine z_alen hx hb hK hZ 4 (f03 hF) rfl dX9_ask_45 ?_
        refine lv_icmp_lt (tgt := 52) hx hb dX9_ask_46 (by decide) (fun c46 => ?_) (fun c46 => ?_)
        · have c8 : ¬ S.1 20 0 = 20 := fun h => absurd c46 (by rw [h]; exact (show ¬ nI 20 < nI 20 by decide))
          refine lv_aload_n hx hb dX9_ask_52 rfl (lv_at hl 1 rfl) ?_
          refine lv_aload_n hx hb dX9_ask_53 rfl (lv_at hl 1 rfl) ?_
          refine z_get (ci := 9) (fs := [.ref (X 0 1), .ref (X 0 2), .ref (X 0 3), .ref (X 0 4), .ref (X 0 5), .ref (X 0 7), .ref (X 0 9), .int (nI (S.1 1 0)), .int (nI (S.1 10 0)), .int (nI (S.1 20 0)), .int (nI (S.1 0 0)), .long S.2.2]) (C := RX9) (T := TX9) (N := 12) hx hb hts in_X9 hown hK hZ (f00 hF) rfl 10 (by decide) fl_94 (fun _ h9 => h9) rfl dX9_ask_54 ?_
          refine z_call (va_runV (As := [.int (nI (S.1 0 0))]) (rest := []) ⟨hx, hb, hml, hown, hts⟩ (c_X9_lawOn l D cT _ _ S X _ _ _ _ _ _ nn (nI (S.1 0 0)) (S.1 0 0) hF hS (by omega) rfl) (cwV 1 hts gX9_ask_X9_lawOn rfl rfl rfl (by decide +kernel) ⟨(Nat.le_of_ble_eq_true rfl), (Nat.le_of_ble_eq_true rfl)⟩) (z_preV hK hE hZ hA (ci := 9) rfl (f00 hF)) rfl rfl hl.1 rfl (lv_room (Nat.le_of_ble_eq_true rfl)) dX9_ask_57 ⟨(Nat.le_of_ble_eq_true rfl), (Nat.le_of_ble_eq_true rfl)⟩) hZ hA (fun r G57 H locs hq hZ => ?_)
          obtain ⟨hg, rfl⟩ := hq
          replace hg := hg.symm
          subst hg
          refine W.eq (g2 := F0 m 60 ls [.ref (lwA S X (S.1 0 0))]) rfl ?_
          refine lv_astore_n (lv' := [(3, .ref (lwA S X (S.1 0 0))), (2, .ref (X 1 j)), (0, .ref (X 0 0)), (1, .int x)]) hx hb dX9_ask_60 rfl hl (by decide) rfl (fun ls hl => ?_)
          refine lv_aload_n hx hb dX9_ask_61 rfl (lv_at hl 2 rfl) ?_
          refine z_get (ci := 9) (fs := [.ref (X 0 1), .ref (X 0 2), .ref (X 0 3), .ref (X 0 4), .ref (X 0 5), .ref (X 0 7), .ref (X 0 9), .int (nI (S.1 1 0)), .int (nI (S.1 10 0)), .int (nI (S.1 20 0)), .int (nI (S.1 0 0)), .long S.2.2]) (C := RX9) (T := TX9) (N := 12) hx hb hts in_X9 hown hK hZ (f00 hF) rfl 5 (by decide) fl_43 (fun _ h9 => h9) rfl dX9_ask_62 ?_
          refine lv_aload_n hx hb dX9_ask_65 rfl (lv_at hl 1 rfl) ?_
          refine lv_aload_n hx hb dX9_ask_66 rfl (lv_at hl 0 rfl) ?_
          refine lv_aload_n hx hb dX9_ask_67 rfl (lv_at hl 2 rfl) ?_
          refine z_get (ci := 9) (fs := [.ref (X 0 1), .ref (X 0 2), .ref (X 0 3), .ref (X 0 4), .ref (X 0 5), .ref (X 0 7), .ref (X 0 9), .int (nI (S.1 1 0)), .int (nI (S.1 10 0)), .int (nI (S.1 20 0)), .int (nI (S.1 0 0)), .long S.2.2]) (C := RX9) (T := TX9) (N := 12) hx hb hts in_X9 hown hK hZ (f00 hF) rfl 1 (by decide) fl_17 (fun _ h9 => h9) rfl dX9_ask_68 ?_
          refine lv_aload_n hx hb dX9_ask_71 rfl (lv_at hl 2 rfl) ?_
          refine z_get (ci := 9) (fs := [.ref (X 0 1), .ref (X 0 2), .ref (X 0 3), .ref (X 0 4), .ref (X 0 5), .ref (X 0 7), .ref (X 0 9), .int (nI (S.1 1 0)), .int (nI (S.1 10 0)), .int (nI (S.1 20 0)), .int (nI (S.1 0 0)), .long S.2.2]) (C := RX9) (T := TX9) (N := 12) hx hb hts in_X9 hown hK hZ (f00 hF) rfl 10 (by decide) fl_94 (fun _ h9 => h9) rfl dX9_ask_72 ?_
          refine z_call (va_runV (As := [.ref (X 1 j), .ref (lwA S X (S.1 0 0)), .ref (X 0 2), .int (nI (S.1 0 0))]) (rest := []) ⟨hx, hb, hml, hown, hts⟩ (c_X2_work l D cT _ _ S X _ _ _ _ _ _ nn j (S.1 0 0) (nI (S.1 0 0)) hF hS hj k0 rfl) (cwV 4 hts gX9_ask_X2_work rfl rfl rfl (by decide +kernel) ⟨(Nat.le_of_ble_eq_true rfl), (Nat.le_of_ble_eq_true rfl)⟩) (z_preV hK hE hZ hA (ci := 2) rfl (f07 hF)) rfl rfl hl.1 rfl (lv_room (Nat.le_of_ble_eq_true rfl)) dX9_ask_75 ⟨(Nat.le_of_ble_eq_true rfl), (Nat.le_of_ble_eq_true rfl)⟩) hZ hA (fun r G75 H locs hq hZ => ?_)
          obtain ⟨⟨fo75, hF75⟩, rfl⟩ := hq
          refine W.eq (g2 := F0 m 78 ls []) rfl ?_
          refine lv_aload_n hx hb dX9_ask_78 rfl (lv_at hl 2 rfl) ?_
          refine z_get (ci := 9) (fs := [.ref (X 0 1), .ref (X 0 2), .ref (X 0 3), .ref (X 0 4), .ref (X 0 5), .ref (X 0 7), .ref (X 0 9), .int (nI (S.1 1 0)), .int (nI (S.1 10 0)), .int (nI (S.1 20 0)), .int (nI (S.1 0 0)), .long S.2.2]) (C := RX9) (T := TX9) (N := 12) hx hb hts in_X9 hown hK hZ (f00 hF75) rfl 2 (by decide) fl_23 (fun _ h9 => h9) rfl dX9_ask_79 ?_
          refine lv_aload_n hx hb dX9_ask_82 rfl (lv_at hl 2 rfl) ?_
          refine z_get (ci := 9) (fs := [.ref (X 0 1), .ref (X 0 2), .ref (X 0 3), .ref (X 0 4), .ref (X 0 5), .ref (X 0 7), .ref (X 0 9), .int (nI (S.1 1 0)), .int (nI (S.1 10 0)), .int (nI (S.1 20 0)), .int (nI (S.1 0 0)), .long S.2.2]) (C := RX9) (T := TX9) (N := 12) hx hb hts in_X9 hown hK hZ (f00 hF75) rfl 9 (by decide) fl_152 (fun _ h9 => h9) rfl dX9_ask_83 ?_
          refine z_new (ci := 0) (fs := [.int 0, .int 0, .int 0, .null, .int 0, .int 0, .int 0, .int 0, .int 0]) (C := RX0) (T := TX0) (N := 9) hx hb hts in_X0 tyX0 tyX0_ok hown (hts (.classLink RX9 21 RX0) (by decide +kernel)) (hts (.instantiable RX0 9) (by decide +kernel)) (hts (.initialized RX0) (by decide +kernel)) hK hZ hA rfl (fun j hj => by rcases (show j = 0 ∨ j = 1 ∨ j = 2 ∨ j = 3 ∨ j = 4 ∨ j = 5 ∨ j = 6 ∨ j = 7 ∨ j = 8 by omega) with rfl | rfl | rfl | rfl | rfl | rfl | rfl | rfl | rfl <;> rfl) (Nat.le_of_ble_eq_true rfl) (Nat.le_of_ble_eq_true rfl) dX9_ask_86 (fun q H hf_q hZ => ?_)
          have ne_X_0_0_q : X 0 0 ≠ q := z_nef (f00 hF75) hf_q
          have ne_X_0_1_q : X 0 1 ≠ q := z_nef (f01 hF75) hf_q
          have ne_X_0_2_q : X 0 2 ≠ q := z_nef (f02 hF75) hf_q
          have ne_X_0_3_q : X 0 3 ≠ q := z_nef (f03 hF75) hf_q
          have ne_X_0_4_q : X 0 4 ≠ q := z_nef (f04 hF75) hf_q
          have ne_X_0_5_q : X 0 5 ≠ q := z_nef (f05 hF75) hf_q
          have ne_X_0_6_q : X 0 6 ≠ q := z_nef (f06 hF75) hf_q
          have ne_X_0_7_q : X 0 7 ≠ q := z_nef (f07 hF75) hf_q
          have ne_X_0_8_q : X 0 8 ≠ q := z_nef (f08 hF75) hf_q
          have ne_X_0_9_q : X 0 9 ≠ q := z_nef (f09 hF75) hf_q
          have ne_X_1_j_q : X 1 j ≠ q := z_nef (f1 hF75 hj) hf_q
          have ne_X_3_j_q : X 3 j ≠ q := z_nef (f3 hF75 hj) hf_q
          have ne_X_4_j_q : X 4 j ≠ q := z_nef (f4 hF75 hj) hf_q
          have ne_lwA_S_X_S_1_0_0_q : lwA S X (S.1 0 0) ≠ q := z_nef (fla hF75 (S.1 0 0)) hf_q
          have ne_lwB_S_X_S_1_0_0_q : lwB S X (S.1 0 0) ≠ q := z_nef (flb hF75 (S.1 0 0)) hf_q
          refine W.widen (k := 1) (n := 9) (by decide) (by decide) ?_
          refine lv_dup hx hb dX9_ask_89 rfl ?_
          refine lv_iload_n hx hb dX9_ask_90 rfl (lv_at hl 3 rfl) ?_
          refine W.eq (congrArg (fun v => F0 m 91 ls (.int v :: [.ref q, .ref q, .int (nI (S.1 20 0)), .ref (X 0 3)])) hxj) ?_
          refine W.eq (g2 := F0 m 91 ls [.int (nI j), .ref q, .ref q, .int (nI (S.1 20 0)), .ref (X 0 3)]) rfl ?_
          refine lv_aload_n hx hb dX9_ask_91 rfl (lv_at hl 1 rfl) ?_
          refine z_get (ci := 3) (fs := [.ref (X 2 j), .int (nI (S.1 3 j)), .ref (X 3 j), .int (S.2.1 6 j)]) (C := RX3) (T := TX3) (N := 4) hx hb hts in_X3 hown hK hZ ((va_up_ne _ _ ne_X_1_j_q).trans (f1 hF75 hj)) rfl 2 (by decide) fl_135 (fun _ h9 => h9) rfl dX9_ask_92 ?_
          refine z_get (ci := 5) (fs := [.ref (X 4 j), .int (nI (S.1 18 j)), .int (nI (S.1 16 j)), .int (S.2.1 17 j), .int (psum (rowS S j) 301)]) (C := RX5) (T := TX5) (N := 5) hx hb hts in_X5 hown hK hZ ((va_up_ne _ _ ne_X_3_j_q).trans (f3 hF75 hj)) rfl 1 (by decide) fl_155 (fun _ h9 => h9) rfl dX9_ask_95 ?_
          refine lv_aload_n hx hb dX9_ask_98 rfl (lv_at hl 2 rfl) ?_
          refine z_get (ci := 9) (fs := [.ref (X 0 1), .ref (X 0 2), .ref (X 0 3), .ref (X 0 4), .ref (X 0 5), .ref (X 0 7), .ref (X 0 9), .int (nI (S.1 1 0)), .int (nI (S.1 10 0)), .int (nI (S.1 20 0)), .int (nI (S.1 0 0)), .long S.2.2]) (C := RX9) (T := TX9) (N := 12) hx hb hts in_X9 hown hK hZ ((va_up_ne _ _ ne_X_0_0_q).trans (f00 hF75)) rfl 10 (by decide) fl_94 (fun _ h9 => h9) rfl dX9_ask_99 ?_
          refine lv_aload_n hx hb dX9_ask_102 rfl (lv_at hl 0 rfl) ?_
          refine lv_aload_n hx hb dX9_ask_103 rfl (lv_at hl 2 rfl) ?_
          refine z_get (ci := 9) (fs := [.ref (X 0 1), .ref (X 0 2), .ref (X 0 3), .ref (X 0 4), .ref (X 0 5), .ref (X 0 7), .ref (X 0 9), .int (nI (S.1 1 0)), .int (nI (S.1 10 0)), .int (nI (S.1 20 0)), .int (nI (S.1 0 0)), .long S.2.2]) (C := RX9) (T := TX9) (N := 12) hx hb hts in_X9 hown hK hZ ((va_up_ne _ _ ne_X_0_0_q).trans (f00 hF75)) rfl 5 (by decide) fl_43 (fun _ h9 => h9) rfl dX9_ask_104 ?_
          refine z_call (va_runI (As := [.int (nI j), .int (nI (S.1 18 j)), .int (nI (S.1 0 0)), .ref (lwA S X (S.1 0 0)), .ref (X 0 7)]) (rest := [.ref q, .int (nI (S.1 20 0)), .ref (X 0 3)]) ⟨hx, hb, hml, hown, hts⟩ (c_X0_init l D cT _ _ q (lwA S X (S.1 0 0)) (X 0 7) (X 0 8) (nI j) (nI (S.1 18 j)) (nI (S.1 0 0)) (nI (hcnt S j (S.1 0 0))) (h0 S j (S.1 0 0)) (h1 S j (S.1 0 0)) (h2 S j (S.1 0 0)) (va_up_self _ _ _) ((va_up_ne _ _ ne_X_0_7_q).trans (f07 hF75))) (cwI 5 hts gX9_ask_X0_init rfl rfl rfl (hts (.initialized RX0) (by decide +kernel)) (hts (.methodLink RX9 157 yX0_init) (by decide +kernel)) (hts (.instanceMethod yX0_init) (by decide +kernel)) rfl (by decide +kernel) ⟨(Nat.le_of_ble_eq_true rfl), (Nat.le_of_ble_eq_true rfl)⟩) (z_preS hK hE hZ hA) rfl rfl hl.1 rfl (lv_room (Nat.le_of_ble_eq_true rfl)) dX9_ask_107 ⟨(Nat.le_of_ble_eq_true rfl), (Nat.le_of_ble_eq_true rfl)⟩) hZ hA (fun r G107 H locs hq hZ => ?_)
          obtain ⟨hg, rfl⟩ := hq
          replace hg := hg.symm
          subst hg
          rw [bx_uu] at hZ
          refine W.eq (g2 := F0 m 110 ls [.ref q, .int (nI (S.1 20 0)), .ref (X 0 3)]) rfl ?_
          refine z_aast hx hb hK hZ 4 0 ((va_up_ne _ _ ne_X_0_3_q).trans (f03 hF75)) rfl (va_up_self _ _ _) rfl (S.1 20 0) rfl (Nat.lt_of_le_of_ne k20 c8) (by decide) dX9_ask_110 (fun H locs hZ => ?_)
          refine lv_aload_n hx hb dX9_ask_111 rfl (lv_at hl 2 rfl) ?_
          refine lv_dup hx hb dX9_ask_112 rfl ?_
          refine z_get (ci := 9) (fs := [.ref (X 0 1), .ref (X 0 2), .ref (X 0 3), .ref (X 0 4), .ref (X 0 5), .ref (X 0 7), .ref (X 0 9), .int (nI (S.1 1 0)), .int (nI (S.1 10 0)), .int (nI (S.1 20 0)), .int (nI (S.1 0 0)), .long S.2.2]) (C := RX9) (T := TX9) (N := 12) hx hb hts in_X9 hown hK hZ ((va_up_ne _ _ (z_neOA (f00 hF75) (f03 hF75))).trans ((va_up_ne _ _ ne_X_0_0_q).trans (f00 hF75))) rfl 9 (by decide) fl_152 (fun _ h9 => h9) rfl dX9_ask_113 ?_
          refine lv_iconst (v := 1) hx hb dX9_ask_116 (by decide) ?_
          refine lv_iadd hx hb dX9_ask_117 ?_
          refine W.eq (congrArg (fun v => F0 m 118 ls (.int v :: [.ref (X 0 0)])) (show _ = nI (S.1 20 0 + 1) from nI_1 _)) ?_
          refine W.eq (g2 := F0 m 118 ls [.int (nI (S.1 20 0 + 1)), .ref (X 0 0)]) rfl ?_
          refine z_put (ci := 9) (fs := [.ref (X 0 1), .ref (X 0 2), .ref (X 0 3), .ref (X 0 4), .ref (X 0 5), .ref (X 0 7), .ref (X 0 9), .int (nI (S.1 1 0)), .int (nI (S.1 10 0)), .int (nI (S.1 20 0)), .int (nI (S.1 0 0)), .long S.2.2]) (fs' := [.ref (X 0 1), .ref (X 0 2), .ref (X 0 3), .ref (X 0 4), .ref (X 0 5), .ref (X 0 7), .ref (X 0 9), .int (nI (S.1 1 0)), .int (nI (S.1 10 0)), .int (nI (S.1 20 0 + 1)), .int (nI (S.1 0 0)), .long S.2.2]) (v := .int (nI (S.1 20 0 + 1))) (ty := .int) (C := RX9) (T := TX9) (N := 12) hx hb hts in_X9 tyX9 tyX9_ok nmX9 hown hK hZ ((va_up_ne _ _ (z_neOA (f00 hF75) (f03 hF75))).trans ((va_up_ne _ _ ne_X_0_0_q).trans (f00 hF75))) rfl 9 (by decide) fl_152 (fun _ h9 => h9) rfl (by decide +kernel) rfl rfl (Nat.le_of_ble_eq_true rfl) rfl dX9_ask_118 (fun H locs hZ => ?_)
          refine lv_aload_n hx hb dX9_ask_121 rfl (lv_at hl 2 rfl) ?_
          refine z_get (ci := 9) (fs := [.ref (X 0 1), .ref (X 0 2), .ref (X 0 3), .ref (X 0 4), .ref (X 0 5), .ref (X 0 7), .ref (X 0 9), .int (nI (S.1 1 0)), .int (nI (S.1 10 0)), .int (nI (S.1 20 0 + 1)), .int (nI (S.1 0 0)), .long S.2.2]) (C := RX9) (T := TX9) (N := 12) hx hb hts in_X9 hown hK hZ (va_up_self _ _ _) rfl 9 (by decide) fl_152 (fun _ h9 => h9) rfl dX9_ask_122 ?_
          refine lv_iconst (v := 1) hx hb dX9_ask_125 (by decide) ?_
          refine lv_isub hx hb dX9_ask_126 ?_
          refine W.eq (congrArg (fun v => F0 m 127 ls (.int v :: [])) (show _ = nI (S.1 20 0) from nI_pred _)) ?_
          refine W.eq (g2 := F0 m 127 ls [.int (nI (S.1 20 0))]) rfl ?_
          exact z_iret hx hb hr hlocks hZ dX9_ask_127 (by rw [sp_ask, hh]; simp only []; rw [if_neg (fun z => z.elim hl18 hb2), if_neg c8]; exact ⟨⟨xU X 6 (S.1 20 0) q, rfl, _, _, _, _, _, _, fr_ask hF75 hf_q rfl⟩, rfl⟩)
        · have c8 : S.1 20 0 = 20 := Nat.le_antisymm k20 (Nat.not_lt.mp (fun z => c46 (nI_lt (b := 20) z (by decide))))
          refine lv_bipush (v := (-3)) hx hb dX9_ask_49 (by decide) ?_
          refine W.widen (k := 1) (n := 9) (Nat.le_of_ble_eq_true rfl) (Nat.le_of_ble_eq_true rfl) ?_
          exact z_iret hx hb hr hlocks hZ dX9_ask_51 (fQ_of (by rw [sp_ask, hh]; simp only []; rw [if_neg (fun z => z.elim hl18 hb2), if_pos c8]) rfl ⟨_, _, _, _, _, _, hF⟩)
      · have hb2 : nI (S.1 0 0) < bar S j := z_lg c31
        refine lv_bipush (v := (-2)) hx hb dX9_ask_34 (by decide) ?_
        refine W.widen (k := 1) (n := 9) (Nat.le_of_ble_eq_true rfl) (Nat.le_of_ble_eq_true rfl) ?_
        exact z_iret hx hb hr hlocks hZ dX9_ask_36 (fQ_of (by rw [sp_ask, hh]; simp only []; rw [if_pos (Or.inr hb2)]) rfl ⟨_, _, _, _, _, _, hF⟩)

set_option maxHeartbeats 4000000 in
set_option maxRecDepth 100000 in
theorem c_X9_lawful (l : Launch) (D : va_G) (cT : Nat → ClassId) (G : zG) (sz : Nat) (a : Nat) (f : Nat → Int32) (ha : G a = some (.inl (cT 0, 8, .inl f))) : zM l D cT yX9_lawful wsX9_lawful (zR 1 0 0) [.ref a] G sz (fun r G' => G' = G ∧ r = some (.int (if LwP f then 1 else 0))) := by
  refine z_start (cc := cX9_lawful) (maxL := 2) (ret := (some .boolean)) (by decide) rfl (Nat.le_of_ble_eq_true rfl) ?_
  intro p e s m below meth c ls hI hZ hl
  obtain ⟨hx, hb, hr, hml, hts, hown, hlocks, hname, hK, hA, hE⟩ := hI
  have hl : lv_has ls 2 [(0, .ref a)] := hl
  have hown : s.vm.findClass RX9 = some m.cls := hown
  have fl_216 := hts (.fieldLink RX9 216 "FairRents" "LAW_LEAST" "[I") (by decide +kernel)
  have fl_219 := hts (.fieldLink RX9 219 "FairRents" "LAW_MOST" "[I") (by decide +kernel)
  obtain ⟨t1, t2, z1, T1, z2, T2⟩ := hE.2.2
  refine lv_iconst (v := 0) hx hb dX9_lawful_0 (by decide) ?_
  refine lv_istore_n (lv' := [(1, .int 0), (0, .ref a)]) hx hb dX9_lawful_1 rfl hl (by decide) rfl (fun ls hl => ?_)
  have loop2 : ∀ (q i : Nat) (hq : i + q = 8) (hall : ∀ k, k < i → (zLeast k ≤ f k ∧ f k ≤ zMost k)) (H : Heap) (locs : List Loc) (ls : Array Slot), zW D (zA G sz) s.heap G H locs → lv_has ls 2 [(1, .int (nI i)), (0, .ref a)] → W p l e (zR 1 0 0) s m ([.ref a] : List Value).toArray below meth c H locs 0 0 (MQ below (zQ D G sz (fun r G' => G' = G ∧ r = some (.int (if LwP f then 1 else 0)))) ([.ref a] : List Value).toArray s 0 0 (zA G sz)) (F0 m 2 ls []) := by
    intro q
    induction q with
    | zero =>
      intro i hq hall H locs ls hZ hl
      refine lv_iload_n hx hb dX9_lawful_2 rfl (lv_at hl 0 rfl) ?_
      refine lv_aload_n hx hb dX9_lawful_3 rfl (lv_at hl 1 rfl) ?_
      refine z_alen hx hb hK hZ 0 ha rfl dX9_lawful_4 ?_
      refine lv_icmp_ge (tgt := 51) hx hb dX9_lawful_5 (by decide) (fun _ => ?_) (fun c5 => absurd (nI_le (a := 8) (by omega) (by omega)) c5)
      refine lv_iconst (v := 1) hx hb dX9_lawful_51 (by decide) ?_
      exact z_zret hx hb hr hlocks hZ (Or.inr rfl) dX9_lawful_52 (⟨rfl, by rw [if_pos (LwP_of (fun k hk => hall k (by omega)))]⟩)
    | succ q ih2 =>
      intro i hq hall H locs ls hZ hl
      refine lv_iload_n hx hb dX9_lawful_2 rfl (lv_at hl 0 rfl) ?_
      refine lv_aload_n hx hb dX9_lawful_3 rfl (lv_at hl 1 rfl) ?_
      refine z_alen hx hb hK hZ 0 ha rfl dX9_lawful_4 ?_
      refine lv_icmp_ge (tgt := 51) hx hb dX9_lawful_5 (by decide) (fun c5 => absurd c5 (nI_ge (b := 8) (by omega) (by decide))) (fun _ => ?_)
      refine lv_iload_n hx hb dX9_lawful_8 rfl (lv_at hl 0 rfl) ?_
      refine va_gets (C := "FairRents") (n := "LAW_LEAST") (d := "[I") hx hb z1 hZ.2.2 hown fl_216 (fun _ h9 => h9) dX9_lawful_9 ?_
      refine va_tlen hx hb T1 hZ.2.2 (v := nI 8) rfl dX9_lawful_12 ?_
      refine lv_icmp_ge (tgt := 51) hx hb dX9_lawful_13 (by decide) (fun c13 => absurd c13 (nI_ge (b := 8) (by omega) (by decide))) (fun _ => ?_)
      refine lv_iload_n hx hb dX9_lawful_16 rfl (lv_at hl 0 rfl) ?_
      refine va_gets (C := "FairRents") (n := "LAW_MOST") (d := "[I") hx hb z2 hZ.2.2 hown fl_219 (fun _ h9 => h9) dX9_lawful_17 ?_
      refine va_tlen hx hb T2 hZ.2.2 (v := nI 8) rfl dX9_lawful_20 ?_
      refine lv_icmp_ge (tgt := 51) hx hb dX9_lawful_21 (by decide) (fun c21 => absurd c21 (nI_ge (b := 8) (by omega) (by decide))) (fun _ => ?_)
      refine lv_aload_n hx hb dX9_lawful_24 rfl (lv_at hl 1 rfl) ?_
      refine lv_iload_n hx hb dX9_lawful_25 rfl (lv_at hl 0 rfl) ?_
      refine z_iald hx hb hK hZ ha i rfl (by omega) (by decide) dX9_lawful_26 ?_
      refine va_gets (C := "FairRents") (n := "LAW_LEAST") (d := "[I") hx hb z1 hZ.2.2 hown fl_216 (fun _ h9 => h9) dX9_lawful_27 ?_
      refine lv_iload_n hx hb dX9_lawful_30 rfl (lv_at hl 0 rfl) ?_
      refine va_ti hx hb T1 hZ.2.2 (i := nI i) (vp_in_nI (show i < 8 by omega) (by decide)) (v := .int (zLeast i)) (by rw [nI_clamp (by omega)]) dX9_lawful_31 ?_
      refine va_gets (C := "FairRents") (n := "LAW_MOST") (d := "[I") hx hb z2 hZ.2.2 hown fl_219 (fun _ h9 => h9) dX9_lawful_32 ?_
      refine lv_iload_n hx hb dX9_lawful_35 rfl (lv_at hl 0 rfl) ?_
      refine va_ti hx hb T2 hZ.2.2 (i := nI i) (vp_in_nI (show i < 8 by omega) (by decide)) (v := .int (zMost i)) (by rw [nI_clamp (by omega)]) dX9_lawful_36 ?_
      refine z_call (va_runS (As := [.int (f i), .int (zLeast i), .int (zMost i)]) (rest := []) ⟨hx, hb, hml, hown, hts⟩ (c_X9_within l D cT _ _ (f i) (zLeast i) (zMost i)) (va_cwS 3 hts gX9_lawful_X9_within rfl rfl rfl (by decide +kernel) ⟨(Nat.le_of_ble_eq_true rfl), (Nat.le_of_ble_eq_true rfl)⟩) (z_preS hK hE hZ hA) rfl rfl hl.1 rfl (lv_room (Nat.le_of_ble_eq_true rfl)) dX9_lawful_37 ⟨(Nat.le_of_ble_eq_true rfl), (Nat.le_of_ble_eq_true rfl)⟩) hZ hA (fun r G37 H locs hq hZ => ?_)
      obtain ⟨hg, rfl⟩ := hq
      replace hg := hg.symm
      subst hg
      refine W.eq (g2 := F0 m 40 ls [.int (if (zLeast i) ≤ (f i) ∧ (f i) ≤ (zMost i) then 1 else 0)]) rfl ?_
      refine zb_ne (tgt := 45) hx hb dX9_lawful_40 (by decide) (fun c40 => ?_) (fun c40 => ?_)
      · refine lv_iinc (v := nI (i + 1)) (lv' := [(1, .int (nI (i + 1))), (0, .ref a)]) hx hb dX9_lawful_45 hl (k := 0) rfl (nI_1 i) (by decide) rfl (fun ls hl => ?_)
        refine lv_goto (tgt := 2) hx hb dX9_lawful_48 (by decide) ?_
        exact ih2 (i + 1) (by omega) (fun k hk => by rcases Nat.lt_or_ge k i with z | z; exact hall k z; rw [show k = i by omega]; exact c40) _ _ _ hZ (lv_sub hl [0, 1] rfl)
      · refine lv_iconst (v := 0) hx hb dX9_lawful_43 (by decide) ?_
        exact z_zret hx hb hr hlocks hZ (Or.inl rfl) dX9_lawful_44 (⟨rfl, by rw [if_neg (fun h => c40 (LwP_all h i (by omega)))]⟩)
  exact loop2 8 0 (by omega) (fun k hk => absurd hk (Nat.not_lt_zero k)) _ _ _ hZ (lv_sub hl [0, 1] rfl)

set_option maxHeartbeats 4000000 in
set_option maxRecDepth 100000 in
theorem c_X9_law (l : Launch) (D : va_G) (cT : Nat → ClassId) (G : zG) (sz : Nat) (S : zS) (X : Nat → Nat → Nat) (ct md sc rp : Int32) (fo fd : Nat → Int32) (nn : Nat) (x a b c2 w le st2 ba : Int32) (hF : FR cT S X ct md sc rp fo fd G) (hS : ok S nn)  : zM l D cT yX9_law wsX9_law (zR 2 2 9) [.ref (X 0 0), .int x, .int a, .int b, .int c2, .int w, .int le, .int st2, .int ba] G sz (fQ cT (X 0 0) (sp_law S x a b c2 w le st2 ba)) := by
  refine z_start (cc := cX9_law) (maxL := 10) (ret := (some .int)) (by decide) rfl (Nat.le_of_ble_eq_true rfl) ?_
  intro p e s m below meth c ls hI hZ hl
  obtain ⟨hx, hb, hr, hml, hts, hown, hlocks, hname, hK, hA, hE⟩ := hI
  have hl : lv_has ls 10 [(0, .ref (X 0 0)), (1, .int x), (2, .int a), (3, .int b), (4, .int c2), (5, .int w), (6, .int le), (7, .int st2), (8, .int ba)] := hl
  have hown : s.vm.findClass RX9 = some m.cls := hown
  have in_X4 : ∀ w ∈ u_ws RX4 TX4 1, w ∈ wsX9_law := by decide +kernel
  have in_X9 : ∀ w ∈ u_ws RX9 TX9 12, w ∈ wsX9_law := by decide +kernel
  have fl_29 := hts (.fieldLink RX9 29 "FairRents" "laws" "[LFairRents$Law;") (by decide +kernel)
  have fl_94 := hts (.fieldLink RX9 94 "FairRents" "today" "I") (by decide +kernel)
  obtain ⟨⟨k1, k10, k20, k0⟩, kH, k9, k8, k15, k26, kL, kLn, kP, kE, kEm, kn⟩ := id hS
  refine lv_bipush (v := 8) hx hb dX9_law_0 (by decide) ?_
  refine z_newi hx hb (hts (.arrayClass .int) (by decide +kernel)) hK hZ hA 8 rfl (by decide) (Nat.le_of_ble_eq_true rfl) (Nat.le_of_ble_eq_true rfl) dX9_law_2 (fun q H hf_q hZ => ?_)
  have ne_X_0_0_q : X 0 0 ≠ q := z_nef (f00 hF) hf_q
  have ne_X_0_1_q : X 0 1 ≠ q := z_nef (f01 hF) hf_q
  have ne_X_0_2_q : X 0 2 ≠ q := z_nef (f02 hF) hf_q
  have ne_X_0_3_q : X 0 3 ≠ q := z_nef (f03 hF) hf_q
  have ne_X_0_4_q : X 0 4 ≠ q := z_nef (f04 hF) hf_q
  have ne_X_0_5_q : X 0 5 ≠ q := z_nef (f05 hF) hf_q
  have ne_X_0_6_q : X 0 6 ≠ q := z_nef (f06 hF) hf_q
  have ne_X_0_7_q : X 0 7 ≠ q := z_nef (f07 hF) hf_q
  have ne_X_0_8_q : X 0 8 ≠ q := z_nef (f08 hF) hf_q
  have ne_X_0_9_q : X 0 9 ≠ q := z_nef (f09 hF) hf_q
  refine W.widen (k := 1) (n := 8) (by decide) (by decide) ?_
  refine lv_dup hx hb dX9_law_4 rfl ?_
  refine lv_iconst (v := 0) hx hb dX9_law_5 (by decide) ?_
  refine lv_iload_n hx hb dX9_law_6 rfl (lv_at hl 2 rfl) ?_
  refine z_iast hx hb hK hZ (va_up_self _ _ _) 0 rfl (by decide) (by decide) dX9_law_7 (fun H locs hZ => ?_)
  rw [bx_uu] at hZ
  refine lv_dup hx hb dX9_law_8 rfl ?_
  refine lv_iconst (v := 1) hx hb dX9_law_9 (by decide) ?_
  refine lv_iload_n hx hb dX9_law_10 rfl (lv_at hl 3 rfl) ?_
  refine z_iast hx hb hK hZ (va_up_self _ _ _) 1 rfl (by decide) (by decide) dX9_law_11 (fun H locs hZ => ?_)
  rw [bx_uu] at hZ
  refine lv_dup hx hb dX9_law_12 rfl ?_
  refine lv_iconst (v := 2) hx hb dX9_law_13 (by decide) ?_
  refine lv_iload hx hb dX9_law_14 (lv_at hl 4 rfl) ?_
  refine z_iast hx hb hK hZ (va_up_self _ _ _) 2 rfl (by decide) (by decide) dX9_law_16 (fun H locs hZ => ?_)
  rw [bx_uu] at hZ
  refine lv_dup hx hb dX9_law_17 rfl ?_
  refine lv_iconst (v := 3) hx hb dX9_law_18 (by decide) ?_
  refine lv_iload hx hb dX9_law_19 (lv_at hl 5 rfl) ?_
  refine z_iast hx hb hK hZ (va_up_self _ _ _) 3 rfl (by decide) (by decide) dX9_law_21 (fun H locs hZ => ?_)
  rw [bx_uu] at hZ
  refine lv_dup hx hb dX9_law_22 rfl ?_
  refine lv_iconst (v := 4) hx hb dX9_law_23 (by decide) ?_
  refine lv_iload hx hb dX9_law_24 (lv_at hl 6 rfl) ?_
  refine z_iast hx hb hK hZ (va_up_self _ _ _) 4 rfl (by decide) (by decide) dX9_law_26 (fun H locs hZ => ?_)
  rw [bx_uu] at hZ
  refine lv_dup hx hb dX9_law_27 rfl ?_
  refine lv_iconst (v := 5) hx hb dX9_law_28 (by decide) ?_
  refine lv_iload hx hb dX9_law_29 (lv_at hl 7 rfl) ?_
  refine z_iast hx hb hK hZ (va_up_self _ _ _) 5 rfl (by decide) (by decide) dX9_law_31 (fun H locs hZ => ?_)
  rw [bx_uu] at hZ
  refine lv_dup hx hb dX9_law_32 rfl ?_
  refine lv_bipush (v := 6) hx hb dX9_law_33 (by decide) ?_
  refine lv_iload hx hb dX9_law_35 (lv_at hl 8 rfl) ?_
  refine z_iast hx hb hK hZ (va_up_self _ _ _) 6 rfl (by decide) (by decide) dX9_law_37 (fun H locs hZ => ?_)
  rw [bx_uu] at hZ
  refine lv_dup hx hb dX9_law_38 rfl ?_
  refine lv_bipush (v := 7) hx hb dX9_law_39 (by decide) ?_
  refine lv_iload_n hx hb dX9_law_41 rfl (lv_at hl 1 rfl) ?_
  refine z_iast hx hb hK hZ (va_up_self _ _ _) 7 rfl (by decide) (by decide) dX9_law_42 (fun H locs hZ => ?_)
  rw [bx_uu] at hZ
  refine lv_astore (lv' := [(9, .ref q), (0, .ref (X 0 0)), (1, .int x), (2, .int a), (3, .int b), (4, .int c2), (5, .int w), (6, .int le), (7, .int st2), (8, .int ba)]) hx hb dX9_law_43 hl (by decide) rfl (fun ls hl => ?_)
  refine lv_aload hx hb dX9_law_45 (lv_at hl 0 rfl) ?_
  refine z_call (va_runS (As := [.ref q]) (rest := []) ⟨hx, hb, hml, hown, hts⟩ (c_X9_lawful l D cT _ _ q (upd (upd (upd (upd (upd (upd (upd (upd (fun _ => 0) 0 a) 1 b) 2 c2) 3 w) 4 le) 5 st2) 6 ba) 7 x) (va_up_self _ _ _)) (va_cwS 1 hts gX9_law_X9_lawful rfl rfl rfl (by decide +kernel) ⟨(Nat.le_of_ble_eq_true rfl), (Nat.le_of_ble_eq_true rfl)⟩) (z_preS hK hE hZ hA) rfl rfl hl.1 rfl (lv_room (Nat.le_of_ble_eq_true rfl)) dX9_law_47 ⟨(Nat.le_of_ble_eq_true rfl), (Nat.le_of_ble_eq_true rfl)⟩) hZ hA (fun r G47 H locs hq hZ => ?_)
  obtain ⟨hg, rfl⟩ := hq
  replace hg := hg.symm
  subst hg
  refine W.eq (g2 := F0 m 50 ls [.int (if LwP (upd (upd (upd (upd (upd (upd (upd (upd (fun _ => 0) 0 a) 1 b) 2 c2) 3 w) 4 le) 5 st2) 6 ba) 7 x) then 1 else 0)]) rfl ?_
  refine zb_eq (tgt := 68) hx hb dX9_law_50 (by decide) (fun c50 => ?_) (fun c50 => ?_)
  · refine lv_iconst (v := (-1)) hx hb dX9_law_68 (by decide) ?_
    refine W.widen (k := 2) (n := 9) (Nat.le_of_ble_eq_true rfl) (Nat.le_of_ble_eq_true rfl) ?_
    exact z_iret hx hb hr hlocks hZ dX9_law_69 (fQ_of (by rw [sp_law, if_neg (fun h => c50 (LwP_of (law_iff.mpr h)))]) rfl ⟨_, _, _, _, _, _, Pic.garb hF q hf_q _⟩)
  · refine lv_iload_n hx hb dX9_law_53 rfl (lv_at hl 2 rfl) ?_
    refine lv_iconst (v := 0) hx hb dX9_law_54 (by decide) ?_
    refine lv_aload_n hx hb dX9_law_55 rfl (lv_at hl 1 rfl) ?_
    refine z_get (ci := 9) (fs := [.ref (X 0 1), .ref (X 0 2), .ref (X 0 3), .ref (X 0 4), .ref (X 0 5), .ref (X 0 7), .ref (X 0 9), .int (nI (S.1 1 0)), .int (nI (S.1 10 0)), .int (nI (S.1 20 0)), .int (nI (S.1 0 0)), .long S.2.2]) (C := RX9) (T := TX9) (N := 12) hx hb hts in_X9 hown hK hZ ((va_up_ne _ _ ne_X_0_0_q).trans (f00 hF)) rfl 3 (by decide) fl_29 (fun _ h9 => h9) rfl dX9_law_56 ?_
    refine z_alen hx hb hK hZ 5 ((va_up_ne _ _ ne_X_0_4_q).trans (f04 hF)) rfl dX9_law_59 ?_
    refine lv_iconst (v := 1) hx hb dX9_law_60 (by decide) ?_
    refine lv_isub hx hb dX9_law_61 ?_
    refine z_call (va_runS (As := [.int x, .int 0, .int ((nI 31) - 1)]) (rest := []) ⟨hx, hb, hml, hown, hts⟩ (c_X9_within l D cT _ _ x 0 ((nI 31) - 1)) (va_cwS 3 hts gX9_law_X9_within rfl rfl rfl (by decide +kernel) ⟨(Nat.le_of_ble_eq_true rfl), (Nat.le_of_ble_eq_true rfl)⟩) (z_preS hK hE hZ hA) rfl rfl hl.1 rfl (lv_room (Nat.le_of_ble_eq_true rfl)) dX9_law_62 ⟨(Nat.le_of_ble_eq_true rfl), (Nat.le_of_ble_eq_true rfl)⟩) hZ hA (fun r G62 H locs hq hZ => ?_)
    obtain ⟨hg, rfl⟩ := hq
    replace hg := hg.symm
    subst hg
    refine W.eq (g2 := F0 m 65 ls [.int (if 0 ≤ x ∧ x ≤ ((nI 31) - 1) then 1 else 0)]) rfl ?_
    refine zb_ne (tgt := 70) hx hb dX9_law_65 (by decide) (fun c65 => ?_) (fun c65 => ?_)
    · have hxj : x = nI x.toNatClampNeg := (z_self c65.1).symm
      have hj30 : x.toNatClampNeg ≤ 30 := Nat.le_of_lt_succ (ix_lt c65 (by decide)).1
      refine lv_iload_n hx hb dX9_law_70 rfl (lv_at hl 2 rfl) ?_
      refine lv_bipush (v := 10) hx hb dX9_law_71 (by decide) ?_
      refine lv_imul hx hb dX9_law_73 ?_
      refine lv_aload_n hx hb dX9_law_74 rfl (lv_at hl 1 rfl) ?_
      refine z_get (ci := 9) (fs := [.ref (X 0 1), .ref (X 0 2), .ref (X 0 3), .ref (X 0 4), .ref (X 0 5), .ref (X 0 7), .ref (X 0 9), .int (nI (S.1 1 0)), .int (nI (S.1 10 0)), .int (nI (S.1 20 0)), .int (nI (S.1 0 0)), .long S.2.2]) (C := RX9) (T := TX9) (N := 12) hx hb hts in_X9 hown hK hZ ((va_up_ne _ _ ne_X_0_0_q).trans (f00 hF)) rfl 10 (by decide) fl_94 (fun _ h9 => h9) rfl dX9_law_75 ?_
      refine lv_icmp_gt (tgt := 84) hx hb dX9_law_78 (by decide) (fun c78 => ?_) (fun c78 => ?_)
      · refine lv_aload_n hx hb dX9_law_84 rfl (lv_at hl 1 rfl) ?_
        refine z_get (ci := 9) (fs := [.ref (X 0 1), .ref (X 0 2), .ref (X 0 3), .ref (X 0 4), .ref (X 0 5), .ref (X 0 7), .ref (X 0 9), .int (nI (S.1 1 0)), .int (nI (S.1 10 0)), .int (nI (S.1 20 0)), .int (nI (S.1 0 0)), .long S.2.2]) (C := RX9) (T := TX9) (N := 12) hx hb hts in_X9 hown hK hZ ((va_up_ne _ _ ne_X_0_0_q).trans (f00 hF)) rfl 3 (by decide) fl_29 (fun _ h9 => h9) rfl dX9_law_85 ?_
        refine lv_iload_n hx hb dX9_law_88 rfl (lv_at hl 2 rfl) ?_
        refine z_new (ci := 4) (fs := [.null]) (C := RX4) (T := TX4) (N := 1) hx hb hts in_X4 tyX4 tyX4_ok hown (hts (.classLink RX9 27 RX4) (by decide +kernel)) (hts (.instantiable RX4 1) (by decide +kernel)) (hts (.initialized RX4) (by decide +kernel)) hK hZ hA rfl (fun j hj => by rcases (show j = 0 by omega) with rfl <;> rfl) (Nat.le_of_ble_eq_true rfl) (Nat.le_of_ble_eq_true rfl) dX9_law_89 (fun p H hf_p hZ => ?_)
        have ne_X_0_0_p : X 0 0 ≠ p := z_nef ((va_up_ne _ _ ne_X_0_0_q).trans (f00 hF)) hf_p
        have ne_X_0_1_p : X 0 1 ≠ p := z_nef ((va_up_ne _ _ ne_X_0_1_q).trans (f01 hF)) hf_p
        have ne_X_0_2_p : X 0 2 ≠ p := z_nef ((va_up_ne _ _ ne_X_0_2_q).trans (f02 hF)) hf_p
        have ne_X_0_3_p : X 0 3 ≠ p := z_nef ((va_up_ne _ _ ne_X_0_3_q).trans (f03 hF)) hf_p
        have ne_X_0_4_p : X 0 4 ≠ p := z_nef ((va_up_ne _ _ ne_X_0_4_q).trans (f04 hF)) hf_p
        have ne_X_0_5_p : X 0 5 ≠ p := z_nef ((va_up_ne _ _ ne_X_0_5_q).trans (f05 hF)) hf_p
        have ne_X_0_6_p : X 0 6 ≠ p := z_nef ((va_up_ne _ _ ne_X_0_6_q).trans (f06 hF)) hf_p
        have ne_X_0_7_p : X 0 7 ≠ p := z_nef ((va_up_ne _ _ ne_X_0_7_q).trans (f07 hF)) hf_p
        have ne_X_0_8_p : X 0 8 ≠ p := z_nef ((va_up_ne _ _ ne_X_0_8_q).trans (f08 hF)) hf_p
        have ne_X_0_9_p : X 0 9 ≠ p := z_nef ((va_up_ne _ _ ne_X_0_9_q).trans (f09 hF)) hf_p
        have ne_q_p : q ≠ p := z_nef (va_up_self _ _ _) hf_p
        refine W.widen (k := 2) (n := 9) (by decide) (by decide) ?_
        refine lv_dup hx hb dX9_law_92 rfl ?_
        refine lv_aload hx hb dX9_law_93 (lv_at hl 0 rfl) ?_
        refine z_call (va_runI (As := [.ref q]) (rest := [.ref p, .int x, .ref (X 0 4)]) ⟨hx, hb, hml, hown, hts⟩ (c_X4_init l D cT _ _ p q (va_up_self _ _ _)) (cwI 1 hts gX9_law_X4_init rfl rfl rfl (hts (.initialized RX4) (by decide +kernel)) (hts (.methodLink RX9 33 yX4_init) (by decide +kernel)) (hts (.instanceMethod yX4_init) (by decide +kernel)) rfl (by decide +kernel) ⟨(Nat.le_of_ble_eq_true rfl), (Nat.le_of_ble_eq_true rfl)⟩) (z_preS hK hE hZ hA) rfl rfl hl.1 rfl (lv_room (Nat.le_of_ble_eq_true rfl)) dX9_law_95 ⟨(Nat.le_of_ble_eq_true rfl), (Nat.le_of_ble_eq_true rfl)⟩) hZ hA (fun r G95 H locs hq hZ => ?_)
        obtain ⟨hg, rfl⟩ := hq
        replace hg := hg.symm
        subst hg
        rw [bx_uu] at hZ
        refine W.eq (g2 := F0 m 98 ls [.ref p, .int x, .ref (X 0 4)]) rfl ?_
        refine z_aast hx hb hK hZ 5 4 ((va_up_ne _ _ ne_X_0_4_p).trans ((va_up_ne _ _ ne_X_0_4_q).trans (f04 hF))) rfl (va_up_self _ _ _) rfl x.toNatClampNeg hxj (Nat.lt_succ_of_le hj30) (by decide) dX9_law_98 (fun H locs hZ => ?_)
        refine lv_iconst (v := 1) hx hb dX9_law_99 (by decide) ?_
        exact z_iret hx hb hr hlocks hZ dX9_law_100 (by rw [sp_law, if_pos (law_iff.mp (LwP_all c50)), if_neg (law_gt' hj30 hxj (Nat.lt_of_le_of_lt k0 (by decide)) c78)]; exact ⟨⟨xU (xU X 8 x.toNatClampNeg q) 7 x.toNatClampNeg p, rfl, _, _, _, _, _, _, fr_law hF hS hf_q hf_p hj30 (Nat.not_le.mp (law_gt' hj30 hxj (Nat.lt_of_le_of_lt k0 (by decide)) c78)) (law8_eq hxj)⟩, rfl⟩)
      · refine lv_bipush (v := (-2)) hx hb dX9_law_81 (by decide) ?_
        refine W.widen (k := 2) (n := 9) (Nat.le_of_ble_eq_true rfl) (Nat.le_of_ble_eq_true rfl) ?_
        exact z_iret hx hb hr hlocks hZ dX9_law_83 (fQ_of (by rw [sp_law, if_pos (law_iff.mp (LwP_all c50)), if_pos (law_st' hj30 hxj (Nat.lt_of_le_of_lt k0 (by decide)) c78)]) rfl ⟨_, _, _, _, _, _, Pic.garb hF q hf_q _⟩)
    · refine lv_iconst (v := (-1)) hx hb dX9_law_68 (by decide) ?_
      refine W.widen (k := 2) (n := 9) (Nat.le_of_ble_eq_true rfl) (Nat.le_of_ble_eq_true rfl) ?_
      exact z_iret hx hb hr hlocks hZ dX9_law_69 (fQ_of (by rw [sp_law, if_neg (fun h => c65 (lw_30 h.1))]) rfl ⟨_, _, _, _, _, _, Pic.garb hF q hf_q _⟩)

set_option maxHeartbeats 4000000 in
set_option maxRecDepth 100000 in
theorem c_X2_insert (l : Launch) (D : va_G) (cT : Nat → ClassId) (G : zG) (sz : Nat) (S : zS) (X : Nat → Nat → Nat) (ct md sc rp : Int32) (fo fd : Nat → Int32) (nn : Nat) (v : Int32) (c2 : Nat) (hF : FR cT S X ct md sc rp fo fd G) (hS : ok S nn) (hct : ct = nI c2) (hc : c2 < 12) : zM l D cT yX2_insert wsX2_insert (zR 1 0 0) [.ref (X 0 7), .int v] G sz (fun r G' => FR cT S X (nI (c2 + 1)) md sc rp (insAt v c2 fo) fd G' ∧ r = none) := by
  refine z_start (cc := cX2_insert) (maxL := 3) (ret := none) (by decide) rfl (Nat.le_of_ble_eq_true rfl) ?_
  intro p e s m below meth c ls hI hZ hl
  obtain ⟨hx, hb, hr, hml, hts, hown, hlocks, hname, hK, hA, hE⟩ := hI
  have hl : lv_has ls 3 [(0, .ref (X 0 7)), (1, .int v)] := hl
  have hown : s.vm.findClass RX2 = some m.cls := hown
  have in_X2 : ∀ w ∈ u_ws RX2 TX2 5, w ∈ wsX2_insert := by decide +kernel
  have fl_9 := hts (.fieldLink RX2 9 "FairRents$Heads" "ordered" "[I") (by decide +kernel)
  have fl_15 := hts (.fieldLink RX2 15 "FairRents$Heads" "counted" "I") (by decide +kernel)
  obtain ⟨⟨k1, k10, k20, k0⟩, kH, k9, k8, k15, k26, kL, kLn, kP, kE, kEm, kn⟩ := id hS
  refine lv_aload_n hx hb dX2_insert_0 rfl (lv_at hl 0 rfl) ?_
  refine z_get (ci := 2) (fs := [.ref (X 0 8), .int ct, .int md, .int sc, .int rp]) (C := RX2) (T := TX2) (N := 5) hx hb hts in_X2 hown hK hZ (f07 hF) rfl 1 (by decide) fl_15 (fun _ h9 => h9) rfl dX2_insert_1 ?_
  refine lv_iconst (v := 0) hx hb dX2_insert_4 (by decide) ?_
  refine lv_aload_n hx hb dX2_insert_5 rfl (lv_at hl 0 rfl) ?_
  refine z_get (ci := 2) (fs := [.ref (X 0 8), .int ct, .int md, .int sc, .int rp]) (C := RX2) (T := TX2) (N := 5) hx hb hts in_X2 hown hK hZ (f07 hF) rfl 0 (by decide) fl_9 (fun _ h9 => h9) rfl dX2_insert_6 ?_
  refine z_alen hx hb hK hZ 0 (f08 hF) rfl dX2_insert_9 ?_
  refine lv_iconst (v := 1) hx hb dX2_insert_10 (by decide) ?_
  refine lv_isub hx hb dX2_insert_11 ?_
  refine z_call (va_runSN (As := [.int ct, .int 0, .int ((nI 12) - 1)]) (rest := []) ⟨hx, hb, hml, hown, hts⟩ (c_X9_within l D cT _ _ ct 0 ((nI 12) - 1)) ⟨va_cnB 3 hts gX2_insert_X9_within_n74 rfl rfl rfl hE.1.2.2.2.1 (hts (.initialized RX9) (by decide +kernel)) (by decide +kernel) ⟨(Nat.le_of_ble_eq_true rfl), (Nat.le_of_ble_eq_true rfl)⟩, hts (.static yX9_within) (by decide +kernel), trivial⟩ (z_preS hK hE hZ hA) rfl rfl hl.1 rfl (lv_room (Nat.le_of_ble_eq_true rfl)) dX2_insert_12 ⟨(Nat.le_of_ble_eq_true rfl), (Nat.le_of_ble_eq_true rfl)⟩) hZ hA (fun r G12 H locs hq hZ => ?_)
  obtain ⟨hg, rfl⟩ := hq
  replace hg := hg.symm
  subst hg
  refine W.eq (g2 := F0 m 15 ls [.int (if 0 ≤ ct ∧ ct ≤ ((nI 12) - 1) then 1 else 0)]) rfl ?_
  refine zb_ne (tgt := 19) hx hb dX2_insert_15 (by decide) (fun _ => ?_) (fun c15 => absurd (by rw [hct]; exact z_wi1 hc (by decide)) c15)
  refine lv_aload_n hx hb dX2_insert_19 rfl (lv_at hl 0 rfl) ?_
  refine z_get (ci := 2) (fs := [.ref (X 0 8), .int ct, .int md, .int sc, .int rp]) (C := RX2) (T := TX2) (N := 5) hx hb hts in_X2 hown hK hZ (f07 hF) rfl 1 (by decide) fl_15 (fun _ h9 => h9) rfl dX2_insert_20 ?_
  refine W.eq (congrArg (fun v => F0 m 23 ls (.int v :: [])) (show _ = nI c2 from hct)) ?_
  refine W.eq (g2 := F0 m 23 ls [.int (nI c2)]) rfl ?_
  refine lv_istore_n (lv' := [(2, .int (nI c2)), (0, .ref (X 0 7)), (1, .int v)]) hx hb dX2_insert_23 rfl hl (by decide) rfl (fun ls hl => ?_)
  have loop24 : ∀ (a : Nat) (f2 : Nat → Int32) (G1 : zG) (hF1 : FR cT S X ct md sc rp f2 fd G1) (ha : a ≤ c2) (hi2 : insAt v a f2 = insAt v c2 fo) (H : Heap) (locs : List Loc) (ls : Array Slot), zW D (zA G sz) s.heap G1 H locs → lv_has ls 3 [(2, .int (nI a)), (0, .ref (X 0 7)), (1, .int v)] → W p l e (zR 1 0 0) s m ([.ref (X 0 7), .int v] : List Value).toArray below meth c H locs 0 0 (MQ below (zQ D G sz (fun r G' => FR cT S X (nI (c2 + 1)) md sc rp (insAt v c2 fo) fd G' ∧ r = none)) ([.ref (X 0 7), .int v] : List Value).toArray s 0 0 (zA G sz)) (F0 m 24 ls []) := by
    intro a
    induction a with
    | zero =>
      intro f2 G1 hF1 ha hi2 H locs ls hZ hl
      refine lv_iload_n hx hb dX2_insert_24 rfl (lv_at hl 0 rfl) ?_
      refine lv_if_le (tgt := 60) hx hb dX2_insert_25 (by decide) (fun _ => ?_) (fun c25 => absurd (show nI 0 ≤ 0 by decide) c25)
      refine lv_aload_n hx hb dX2_insert_60 rfl (lv_at hl 1 rfl) ?_
      refine z_get (ci := 2) (fs := [.ref (X 0 8), .int ct, .int md, .int sc, .int rp]) (C := RX2) (T := TX2) (N := 5) hx hb hts in_X2 hown hK hZ (f07 hF1) rfl 0 (by decide) fl_9 (fun _ h9 => h9) rfl dX2_insert_61 ?_
      refine lv_iload_n hx hb dX2_insert_64 rfl (lv_at hl 0 rfl) ?_
      refine lv_iload_n hx hb dX2_insert_65 rfl (lv_at hl 2 rfl) ?_
      refine z_iast hx hb hK hZ (f08 hF1) 0 rfl (by decide) (by decide) dX2_insert_66 (fun H locs hZ => ?_)
      refine lv_aload_n hx hb dX2_insert_67 rfl (lv_at hl 1 rfl) ?_
      refine lv_dup hx hb dX2_insert_68 rfl ?_
      refine z_get (ci := 2) (fs := [.ref (X 0 8), .int ct, .int md, .int sc, .int rp]) (C := RX2) (T := TX2) (N := 5) hx hb hts in_X2 hown hK hZ ((va_up_ne _ _ (z_neOA (f07 hF1) (f08 hF1))).trans (f07 hF1)) rfl 1 (by decide) fl_15 (fun _ h9 => h9) rfl dX2_insert_69 ?_
      refine lv_iconst (v := 1) hx hb dX2_insert_72 (by decide) ?_
      refine lv_iadd hx hb dX2_insert_73 ?_
      refine W.eq (congrArg (fun v => F0 m 74 ls (.int v :: [.ref (X 0 7)])) (show _ = nI (c2 + 1) from by rw [hct, nI_1])) ?_
      refine W.eq (g2 := F0 m 74 ls [.int (nI (c2 + 1)), .ref (X 0 7)]) rfl ?_
      refine z_put (ci := 2) (fs := [.ref (X 0 8), .int ct, .int md, .int sc, .int rp]) (fs' := [.ref (X 0 8), .int (nI (c2 + 1)), .int md, .int sc, .int rp]) (v := .int (nI (c2 + 1))) (ty := .int) (C := RX2) (T := TX2) (N := 5) hx hb hts in_X2 tyX2 tyX2_ok nmX2 hown hK hZ ((va_up_ne _ _ (z_neOA (f07 hF1) (f08 hF1))).trans (f07 hF1)) rfl 1 (by decide) fl_15 (fun _ h9 => h9) rfl (by decide +kernel) rfl rfl (Nat.le_of_ble_eq_true rfl) rfl dX2_insert_74 (fun H locs hZ => ?_)
      exact z_vret hx hb hr hlocks hZ dX2_insert_77 (⟨by rw [← hi2]; exact fr_7 (fr_8 hF1), rfl⟩)
    | succ a ih24 =>
      intro f2 G1 hF1 ha hi2 H locs ls hZ hl
      refine lv_iload_n hx hb dX2_insert_24 rfl (lv_at hl 0 rfl) ?_
      refine lv_if_le (tgt := 60) hx hb dX2_insert_25 (by decide) (fun c25 => absurd c25 (nI_nle (by omega) (by omega))) (fun _ => ?_)
      refine lv_aload_n hx hb dX2_insert_28 rfl (lv_at hl 1 rfl) ?_
      refine z_get (ci := 2) (fs := [.ref (X 0 8), .int ct, .int md, .int sc, .int rp]) (C := RX2) (T := TX2) (N := 5) hx hb hts in_X2 hown hK hZ (f07 hF1) rfl 0 (by decide) fl_9 (fun _ h9 => h9) rfl dX2_insert_29 ?_
      refine lv_iload_n hx hb dX2_insert_32 rfl (lv_at hl 0 rfl) ?_
      refine lv_iconst (v := 1) hx hb dX2_insert_33 (by decide) ?_
      refine lv_isub hx hb dX2_insert_34 ?_
      refine z_iald hx hb hK hZ (f08 hF1) a (nI_pred a) (by omega) (by decide) dX2_insert_35 ?_
      refine lv_iload_n hx hb dX2_insert_36 rfl (lv_at hl 2 rfl) ?_
      refine lv_icmp_le (tgt := 60) hx hb dX2_insert_37 (by decide) (fun c37 => ?_) (fun c37 => ?_)
      · refine lv_aload_n hx hb dX2_insert_60 rfl (lv_at hl 1 rfl) ?_
        refine z_get (ci := 2) (fs := [.ref (X 0 8), .int ct, .int md, .int sc, .int rp]) (C := RX2) (T := TX2) (N := 5) hx hb hts in_X2 hown hK hZ (f07 hF1) rfl 0 (by decide) fl_9 (fun _ h9 => h9) rfl dX2_insert_61 ?_
        refine lv_iload_n hx hb dX2_insert_64 rfl (lv_at hl 0 rfl) ?_
        refine lv_iload_n hx hb dX2_insert_65 rfl (lv_at hl 2 rfl) ?_
        refine z_iast hx hb hK hZ (f08 hF1) (a + 1) rfl (by omega) (by decide) dX2_insert_66 (fun H locs hZ => ?_)
        refine lv_aload_n hx hb dX2_insert_67 rfl (lv_at hl 1 rfl) ?_
        refine lv_dup hx hb dX2_insert_68 rfl ?_
        refine z_get (ci := 2) (fs := [.ref (X 0 8), .int ct, .int md, .int sc, .int rp]) (C := RX2) (T := TX2) (N := 5) hx hb hts in_X2 hown hK hZ ((va_up_ne _ _ (z_neOA (f07 hF1) (f08 hF1))).trans (f07 hF1)) rfl 1 (by decide) fl_15 (fun _ h9 => h9) rfl dX2_insert_69 ?_
        refine lv_iconst (v := 1) hx hb dX2_insert_72 (by decide) ?_
        refine lv_iadd hx hb dX2_insert_73 ?_
        refine W.eq (congrArg (fun v => F0 m 74 ls (.int v :: [.ref (X 0 7)])) (show _ = nI (c2 + 1) from by rw [hct, nI_1])) ?_
        refine W.eq (g2 := F0 m 74 ls [.int (nI (c2 + 1)), .ref (X 0 7)]) rfl ?_
        refine z_put (ci := 2) (fs := [.ref (X 0 8), .int ct, .int md, .int sc, .int rp]) (fs' := [.ref (X 0 8), .int (nI (c2 + 1)), .int md, .int sc, .int rp]) (v := .int (nI (c2 + 1))) (ty := .int) (C := RX2) (T := TX2) (N := 5) hx hb hts in_X2 tyX2 tyX2_ok nmX2 hown hK hZ ((va_up_ne _ _ (z_neOA (f07 hF1) (f08 hF1))).trans (f07 hF1)) rfl 1 (by decide) fl_15 (fun _ h9 => h9) rfl (by decide +kernel) rfl rfl (Nat.le_of_ble_eq_true rfl) rfl dX2_insert_74 (fun H locs hZ => ?_)
        exact z_vret hx hb hr hlocks hZ dX2_insert_77 (⟨by rw [← hi2, insAt, if_neg (z_nl c37)]; exact fr_7 (fr_8 hF1), rfl⟩)
      · refine lv_aload_n hx hb dX2_insert_40 rfl (lv_at hl 1 rfl) ?_
        refine z_get (ci := 2) (fs := [.ref (X 0 8), .int ct, .int md, .int sc, .int rp]) (C := RX2) (T := TX2) (N := 5) hx hb hts in_X2 hown hK hZ (f07 hF1) rfl 0 (by decide) fl_9 (fun _ h9 => h9) rfl dX2_insert_41 ?_
        refine lv_iload_n hx hb dX2_insert_44 rfl (lv_at hl 0 rfl) ?_
        refine lv_aload_n hx hb dX2_insert_45 rfl (lv_at hl 1 rfl) ?_
        refine z_get (ci := 2) (fs := [.ref (X 0 8), .int ct, .int md, .int sc, .int rp]) (C := RX2) (T := TX2) (N := 5) hx hb hts in_X2 hown hK hZ (f07 hF1) rfl 0 (by decide) fl_9 (fun _ h9 => h9) rfl dX2_insert_46 ?_
        refine lv_iload_n hx hb dX2_insert_49 rfl (lv_at hl 0 rfl) ?_
        refine lv_iconst (v := 1) hx hb dX2_insert_50 (by decide) ?_
        refine lv_isub hx hb dX2_insert_51 ?_
        refine z_iald hx hb hK hZ (f08 hF1) a (nI_pred a) (by omega) (by decide) dX2_insert_52 ?_
        refine z_iast hx hb hK hZ (f08 hF1) (a + 1) rfl (by omega) (by decide) dX2_insert_53 (fun H locs hZ => ?_)
        refine lv_iinc (v := nI a) (lv' := [(2, .int (nI a)), (0, .ref (X 0 7)), (1, .int v)]) hx hb dX2_insert_54 hl (k := 0) rfl (nI_dec a) (by decide) rfl (fun ls hl => ?_)
        refine lv_goto (tgt := 24) hx hb dX2_insert_57 (by decide) ?_
        exact ih24 _ _ (fr_8 hF1) (by omega) (by rw [← hi2, insAt, if_pos (z_lg c37)]) _ _ _ hZ (lv_sub hl [0, 1, 2] rfl)
  exact loop24 c2 fo _ hF (by omega) rfl _ _ _ hZ (lv_sub hl [0, 1, 2] rfl)

set_option maxHeartbeats 4000000 in
set_option maxRecDepth 100000 in
theorem c_X2_lowerMiddle (l : Launch) (D : va_G) (cT : Nat → ClassId) (G : zG) (sz : Nat) (S : zS) (X : Nat → Nat → Nat) (ct md sc rp : Int32) (fo fd : Nat → Int32) (nn : Nat) (c2 : Nat) (hF : FR cT S X ct md sc rp fo fd G) (hS : ok S nn) (hct : ct = nI c2) (hc : c2 ≤ 12) : zM l D cT yX2_lowerMiddle wsX2_lowerMiddle (zR 0 0 0) [.ref (X 0 7)] G sz (fun r G' => G' = G ∧ r = some (.int (if c2 = 0 then 0 else fo ((c2 - 1) / 2)))) := by
  refine z_start (cc := cX2_lowerMiddle) (maxL := 2) (ret := (some .int)) (by decide) rfl (Nat.le_of_ble_eq_true rfl) ?_
  intro p e s m below meth c ls hI hZ hl
  obtain ⟨hx, hb, hr, hml, hts, hown, hlocks, hname, hK, hA, hE⟩ := hI
  have hl : lv_has ls 2 [(0, .ref (X 0 7))] := hl
  have hown : s.vm.findClass RX2 = some m.cls := hown
  have in_X2 : ∀ w ∈ u_ws RX2 TX2 5, w ∈ wsX2_lowerMiddle := by decide +kernel
  have fl_9 := hts (.fieldLink RX2 9 "FairRents$Heads" "ordered" "[I") (by decide +kernel)
  have fl_15 := hts (.fieldLink RX2 15 "FairRents$Heads" "counted" "I") (by decide +kernel)
  obtain ⟨⟨k1, k10, k20, k0⟩, kH, k9, k8, k15, k26, kL, kLn, kP, kE, kEm, kn⟩ := id hS
  refine lv_aload_n hx hb dX2_lowerMiddle_0 rfl (lv_at hl 0 rfl) ?_
  refine z_get (ci := 2) (fs := [.ref (X 0 8), .int ct, .int md, .int sc, .int rp]) (C := RX2) (T := TX2) (N := 5) hx hb hts in_X2 hown hK hZ (f07 hF) rfl 1 (by decide) fl_15 (fun _ h9 => h9) rfl dX2_lowerMiddle_1 ?_
  refine lv_iconst (v := 1) hx hb dX2_lowerMiddle_4 (by decide) ?_
  refine lv_isub hx hb dX2_lowerMiddle_5 ?_
  refine lv_iconst (v := 2) hx hb dX2_lowerMiddle_6 (by decide) ?_
  refine lv_idiv hx hb dX2_lowerMiddle_7 (by decide) ?_
  refine lv_istore_n (lv' := [(1, .int ((ct - 1) / 2)), (0, .ref (X 0 7))]) hx hb dX2_lowerMiddle_8 rfl hl (by decide) rfl (fun ls hl => ?_)
  refine lv_aload_n hx hb dX2_lowerMiddle_9 rfl (lv_at hl 1 rfl) ?_
  refine z_get (ci := 2) (fs := [.ref (X 0 8), .int ct, .int md, .int sc, .int rp]) (C := RX2) (T := TX2) (N := 5) hx hb hts in_X2 hown hK hZ (f07 hF) rfl 1 (by decide) fl_15 (fun _ h9 => h9) rfl dX2_lowerMiddle_10 ?_
  refine lv_if_le (tgt := 34) hx hb dX2_lowerMiddle_13 (by decide) (fun c13 => ?_) (fun c13 => ?_)
  · have h0 : c2 = 0 := lm_z hc (by rw [← hct]; exact c13)
    refine lv_iconst (v := 0) hx hb dX2_lowerMiddle_34 (by decide) ?_
    exact z_iret hx hb hr hlocks hZ dX2_lowerMiddle_35 (⟨rfl, by rw [if_pos h0]⟩)
  · have h0 : ¬ c2 = 0 := fun h => c13 (by rw [hct, h]; decide)
    refine lv_iload_n hx hb dX2_lowerMiddle_16 rfl (lv_at hl 0 rfl) ?_
    refine lv_aload_n hx hb dX2_lowerMiddle_17 rfl (lv_at hl 1 rfl) ?_
    refine z_get (ci := 2) (fs := [.ref (X 0 8), .int ct, .int md, .int sc, .int rp]) (C := RX2) (T := TX2) (N := 5) hx hb hts in_X2 hown hK hZ (f07 hF) rfl 0 (by decide) fl_9 (fun _ h9 => h9) rfl dX2_lowerMiddle_18 ?_
    refine z_alen hx hb hK hZ 0 (f08 hF) rfl dX2_lowerMiddle_21 ?_
    refine lv_icmp_ge (tgt := 34) hx hb dX2_lowerMiddle_22 (by decide) (fun c22 => absurd c22 (by rw [hct, hf_ix (by omega) h0]; exact nI_ge (b := 12) (by omega) (by decide))) (fun _ => ?_)
    refine lv_aload_n hx hb dX2_lowerMiddle_25 rfl (lv_at hl 1 rfl) ?_
    refine z_get (ci := 2) (fs := [.ref (X 0 8), .int ct, .int md, .int sc, .int rp]) (C := RX2) (T := TX2) (N := 5) hx hb hts in_X2 hown hK hZ (f07 hF) rfl 0 (by decide) fl_9 (fun _ h9 => h9) rfl dX2_lowerMiddle_26 ?_
    refine lv_iload_n hx hb dX2_lowerMiddle_29 rfl (lv_at hl 0 rfl) ?_
    refine z_iald hx hb hK hZ (f08 hF) ((c2 - 1) / 2) (by rw [hct]; exact hf_ix (by omega) h0) (by omega) (by decide) dX2_lowerMiddle_30 ?_
    refine lv_goto (tgt := 35) hx hb dX2_lowerMiddle_31 (by decide) ?_
    exact z_iret hx hb hr hlocks hZ dX2_lowerMiddle_35 (⟨rfl, by rw [if_neg h0]⟩)

set_option maxHeartbeats 4000000 in
set_option maxRecDepth 100000 in
theorem c_X2_work (l : Launch) (D : va_G) (cT : Nat → ClassId) (G : zG) (sz : Nat) (S : zS) (X : Nat → Nat → Nat) (ct md sc rp : Int32) (fo fd : Nat → Int32) (nn : Nat) (j d : Nat) (y : Int32) (hF : FR cT S X ct md sc rp fo fd G) (hS : ok S nn) (hj : j < S.1 1 0) (hd : d ≤ 300) (hyd : y = nI d) : zM l D cT yX2_work wsX2_work (zR 3 0 0) [.ref (X 0 7), .ref (X 1 j), .ref (lwA S X d), .ref (X 0 2), .int y] G sz (fun r G' => (∃ f, FR cT S X (nI (hcnt S j d)) (h0 S j d) (h1 S j d) (h2 S j d) f fd G') ∧ r = none) := by
  refine z_start (cc := cX2_work) (maxL := 10) (ret := none) (by decide) rfl (Nat.le_of_ble_eq_true rfl) ?_
  intro p e s m below meth c ls hI hZ hl
  obtain ⟨hx, hb, hr, hml, hts, hown, hlocks, hname, hK, hA, hE⟩ := hI
  have hl : lv_has ls 10 [(0, .ref (X 0 7)), (1, .ref (X 1 j)), (2, .ref (lwA S X d)), (3, .ref (X 0 2)), (4, .int y)] := hl
  have hown : s.vm.findClass RX2 = some m.cls := hown
  have in_X2 : ∀ w ∈ u_ws RX2 TX2 5, w ∈ wsX2_work := by decide +kernel
  have in_X3 : ∀ w ∈ u_ws RX3 TX3 4, w ∈ wsX2_work := by decide +kernel
  have fl_15 := hts (.fieldLink RX2 15 "FairRents$Heads" "counted" "I") (by decide +kernel)
  have fl_19 := hts (.fieldLink RX2 19 "FairRents$Home" "body" "LFairRents$Plain;") (by decide +kernel)
  have fl_31 := hts (.fieldLink RX2 31 "FairRents$Home" "area" "I") (by decide +kernel)
  have fl_57 := hts (.fieldLink RX2 57 "FairRents$Heads" "middle" "I") (by decide +kernel)
  have fl_60 := hts (.fieldLink RX2 60 "FairRents$Heads" "scarcity" "I") (by decide +kernel)
  have fl_63 := hts (.fieldLink RX2 63 "FairRents$Home" "faults" "I") (by decide +kernel)
  have fl_66 := hts (.fieldLink RX2 66 "FairRents$Heads" "repairs" "I") (by decide +kernel)
  obtain ⟨⟨k1, k10, k20, k0⟩, kH, k9, k8, k15, k26, kL, kLn, kP, kE, kEm, kn⟩ := id hS
  obtain ⟨g2, g3, g4a, g4, g5⟩ := kH j hj
  refine lv_aload_n hx hb dX2_work_0 rfl (lv_at hl 0 rfl) ?_
  refine lv_iconst (v := 0) hx hb dX2_work_1 (by decide) ?_
  refine z_put (ci := 2) (fs := [.ref (X 0 8), .int ct, .int md, .int sc, .int rp]) (fs' := [.ref (X 0 8), .int 0, .int md, .int sc, .int rp]) (v := .int 0) (ty := .int) (C := RX2) (T := TX2) (N := 5) hx hb hts in_X2 tyX2 tyX2_ok nmX2 hown hK hZ (f07 hF) rfl 1 (by decide) fl_15 (fun _ h9 => h9) rfl (by decide +kernel) rfl rfl (Nat.le_of_ble_eq_true rfl) rfl dX2_work_2 (fun H locs hZ => ?_)
  have join14 : ∀ (H : Heap) (locs : List Loc) (ls : Array Slot), zW D (zA G sz) s.heap (va_up G (X 0 7) (some (.inr (2, [.ref (X 0 8), .int 0, .int md, .int sc, .int rp])))) H locs → lv_has ls 10 [(5, .int (pts S j)), (0, .ref (X 0 7)), (1, .ref (X 1 j)), (2, .ref (lwA S X d)), (3, .ref (X 0 2)), (4, .int y)] → W p l e (zR 3 0 0) s m ([.ref (X 0 7), .ref (X 1 j), .ref (lwA S X d), .ref (X 0 2), .int y] : List Value).toArray below meth c H locs 0 0 (MQ below (zQ D G sz (fun r G' => (∃ f, FR cT S X (nI (hcnt S j d)) (h0 S j d) (h1 S j d) (h2 S j d) f fd G') ∧ r = none)) ([.ref (X 0 7), .ref (X 1 j), .ref (lwA S X d), .ref (X 0 2), .int y] : List Value).toArray s 0 0 (zA G sz)) (F0 m 14 ls []) := by
    intro H locs ls hZ hl
    refine lv_aload_n hx hb dX2_work_14 rfl (lv_at hl 4 rfl) ?_
    refine lv_astore (lv' := [(6, .ref (X 0 2)), (5, .int (pts S j)), (0, .ref (X 0 7)), (1, .ref (X 1 j)), (2, .ref (lwA S X d)), (3, .ref (X 0 2)), (4, .int y)]) hx hb dX2_work_15 hl (by decide) rfl (fun ls hl => ?_)
    refine lv_aload hx hb dX2_work_17 (lv_at hl 0 rfl) ?_
    refine z_alen hx hb hK hZ 3 ((va_up_ne _ _ (z_neAO (f02 hF) (f07 hF))).trans (f02 hF)) rfl dX2_work_19 ?_
    refine lv_istore (lv' := [(7, .int (nI 12)), (6, .ref (X 0 2)), (5, .int (pts S j)), (0, .ref (X 0 7)), (1, .ref (X 1 j)), (2, .ref (lwA S X d)), (3, .ref (X 0 2)), (4, .int y)]) hx hb dX2_work_20 hl (by decide) rfl (fun ls hl => ?_)
    refine lv_iconst (v := 0) hx hb dX2_work_22 (by decide) ?_
    refine lv_istore (lv' := [(8, .int 0), (7, .int (nI 12)), (6, .ref (X 0 2)), (5, .int (pts S j)), (0, .ref (X 0 7)), (1, .ref (X 1 j)), (2, .ref (lwA S X d)), (3, .ref (X 0 2)), (4, .int y)]) hx hb dX2_work_23 hl (by decide) rfl (fun ls hl => ?_)
    have hFs : FR cT S X (nI 0) md sc rp fo fd (va_up G (X 0 7) (some (.inr (2, [.ref (X 0 8), .int 0, .int md, .int sc, .int rp])))) := fr_7 hF
    have loop25 : ∀ (q i c2 : Nat) (f : Nat → Int32) (G1 : zG) (hq : i + q = 12) (hF1 : FR cT S X (nI c2) md sc rp f fd G1) (hc : c2 ≤ min i (S.1 10 0)) (he : clc S j d fo (min i (S.1 10 0)) = (f, c2)) (H : Heap) (locs : List Loc) (ls : Array Slot), zW D (zA G sz) s.heap G1 H locs → lv_has ls 10 [(8, .int (nI i)), (7, .int (nI 12)), (6, .ref (X 0 2)), (5, .int (pts S j)), (0, .ref (X 0 7)), (1, .ref (X 1 j)), (2, .ref (lwA S X d)), (3, .ref (X 0 2)), (4, .int y)] → W p l e (zR 3 0 0) s m ([.ref (X 0 7), .ref (X 1 j), .ref (lwA S X d), .ref (X 0 2), .int y] : List Value).toArray below meth c H locs 0 0 (MQ below (zQ D G sz (fun r G' => (∃ f, FR cT S X (nI (hcnt S j d)) (h0 S j d) (h1 S j d) (h2 S j d) f fd G') ∧ r = none)) ([.ref (X 0 7), .ref (X 1 j), .ref (lwA S X d), .ref (X 0 2), .int y] : List Value).toArray s 0 0 (zA G sz)) (F0 m 25 ls []) := by
      intro q
      induction q with
      | zero =>
        intro i c2 f G1 hq hF1 hc he H locs ls hZ hl
        refine lv_iload hx hb dX2_work_25 (lv_at hl 0 rfl) ?_
        refine lv_iload hx hb dX2_work_27 (lv_at hl 1 rfl) ?_
        refine lv_icmp_ge (tgt := 80) hx hb dX2_work_29 (by decide) (fun _ => ?_) (fun c29 => absurd (nI_le (a := 12) (by omega) (by omega)) c29)
        have he2 : clc S j d fo (S.1 10 0) = (f, c2) := by rw [show min i (S.1 10 0) = S.1 10 0 by omega] at he; exact he
        have hcl := clc_agree S j d fo (fun _ => 0) (S.1 10 0)
        refine lv_aload_n hx hb dX2_work_80 rfl (lv_at hl 4 rfl) ?_
        refine lv_aload_n hx hb dX2_work_81 rfl (lv_at hl 4 rfl) ?_
        refine z_call (va_runV (As := []) (rest := [.ref (X 0 7)]) ⟨hx, hb, hml, hown, hts⟩ (c_X2_lowerMiddle l D cT _ _ S X _ _ _ _ _ _ nn c2 hF1 hS rfl (by omega)) (cwV 0 hts gX2_work_X2_lowerMiddle rfl rfl rfl (by decide +kernel) ⟨(Nat.le_of_ble_eq_true rfl), (Nat.le_of_ble_eq_true rfl)⟩) (z_preV hK hE hZ hA (ci := 2) rfl (f07 hF1)) rfl rfl hl.1 rfl (lv_room (Nat.le_of_ble_eq_true rfl)) dX2_work_82 ⟨(Nat.le_of_ble_eq_true rfl), (Nat.le_of_ble_eq_true rfl)⟩) hZ hA (fun r G82 H locs hq hZ => ?_)
        obtain ⟨hg, rfl⟩ := hq
        replace hg := hg.symm
        subst hg
        refine W.eq (g2 := F0 m 85 ls [.int (if c2 = 0 then 0 else f ((c2 - 1) / 2)), .ref (X 0 7)]) rfl ?_
        refine W.eq (congrArg (fun v => F0 m 85 ls (.int v :: [.ref (X 0 7)])) (show _ = h0 S j d from h0_w hcl he2)) ?_
        refine W.eq (g2 := F0 m 85 ls [.int (h0 S j d), .ref (X 0 7)]) rfl ?_
        refine z_put (ci := 2) (fs := [.ref (X 0 8), .int (nI c2), .int md, .int sc, .int rp]) (fs' := [.ref (X 0 8), .int (nI c2), .int (h0 S j d), .int sc, .int rp]) (v := .int (h0 S j d)) (ty := .int) (C := RX2) (T := TX2) (N := 5) hx hb hts in_X2 tyX2 tyX2_ok nmX2 hown hK hZ (f07 hF1) rfl 2 (by decide) fl_57 (fun _ h9 => h9) rfl (by decide +kernel) rfl rfl (Nat.le_of_ble_eq_true rfl) rfl dX2_work_85 (fun H locs hZ => ?_)
        refine lv_aload_n hx hb dX2_work_88 rfl (lv_at hl 4 rfl) ?_
        refine lv_aload_n hx hb dX2_work_89 rfl (lv_at hl 4 rfl) ?_
        refine z_get (ci := 2) (fs := [.ref (X 0 8), .int (nI c2), .int (h0 S j d), .int sc, .int rp]) (C := RX2) (T := TX2) (N := 5) hx hb hts in_X2 hown hK hZ (va_up_self _ _ _) rfl 2 (by decide) fl_57 (fun _ h9 => h9) rfl dX2_work_90 ?_
        refine lv_if_ge (tgt := 100) hx hb dX2_work_93 (by decide) (fun c93 => ?_) (fun c93 => ?_)
        · refine lv_aload_n hx hb dX2_work_100 rfl (lv_at hl 6 rfl) ?_
          refine lv_aload_n hx hb dX2_work_101 rfl (lv_at hl 5 rfl) ?_
          refine z_get (ci := 3) (fs := [.ref (X 2 j), .int (nI (S.1 3 j)), .ref (X 3 j), .int (S.2.1 6 j)]) (C := RX3) (T := TX3) (N := 4) hx hb hts in_X3 hown hK hZ ((va_up_ne _ _ (z_neOO (f1 hF1 hj) (f07 hF1) (by decide))).trans (f1 hF1 hj)) rfl 1 (by decide) fl_31 (fun _ h9 => h9) rfl dX2_work_102 ?_
          refine z_call (va_runV (As := [.int (nI (S.1 3 j))]) (rest := [.ref (X 0 7)]) ⟨hx, hb, hml, hown, hts⟩ (c_X4_number l D cT _ _ (lwA S X d) (lwB S X d) (lwC S d) (nI (S.1 3 j)) (S.1 3 j) ((va_up_ne _ _ (z_neOO (fla hF1 d) (f07 hF1) (by decide))).trans (fla hF1 d)) ((va_up_ne _ _ (z_neAO (flb hF1 d) (f07 hF1))).trans (flb hF1 d)) rfl (by omega)) (cwV 1 hts gX2_work_X4_number rfl rfl rfl (by decide +kernel) ⟨(Nat.le_of_ble_eq_true rfl), (Nat.le_of_ble_eq_true rfl)⟩) (z_preV hK hE hZ hA (ci := 4) rfl ((va_up_ne _ _ (z_neOO (fla hF1 d) (f07 hF1) (by decide))).trans (fla hF1 d))) rfl rfl hl.1 rfl (lv_room (Nat.le_of_ble_eq_true rfl)) dX2_work_105 ⟨(Nat.le_of_ble_eq_true rfl), (Nat.le_of_ble_eq_true rfl)⟩) hZ hA (fun r G105 H locs hq hZ => ?_)
          obtain ⟨hg, rfl⟩ := hq
          replace hg := hg.symm
          subst hg
          refine W.eq (g2 := F0 m 108 ls [.int ((lwC S d) (S.1 3 j)), .ref (X 0 7)]) rfl ?_
          refine W.eq (congrArg (fun v => F0 m 108 ls (.int v :: [.ref (X 0 7)])) (show _ = lw S d (S.1 3 j) from lwC_k hS d (by omega))) ?_
          refine W.eq (g2 := F0 m 108 ls [.int (lw S d (S.1 3 j)), .ref (X 0 7)]) rfl ?_
          refine lv_aload_n hx hb dX2_work_108 rfl (lv_at hl 4 rfl) ?_
          refine z_get (ci := 2) (fs := [.ref (X 0 8), .int (nI c2), .int (h0 S j d), .int sc, .int rp]) (C := RX2) (T := TX2) (N := 5) hx hb hts in_X2 hown hK hZ (va_up_self _ _ _) rfl 2 (by decide) fl_57 (fun _ h9 => h9) rfl dX2_work_109 ?_
          refine lv_imul hx hb dX2_work_112 ?_
          refine lv_bipush (v := 100) hx hb dX2_work_113 (by decide) ?_
          refine lv_idiv hx hb dX2_work_115 (by decide) ?_
          refine lv_ineg hx hb dX2_work_116 ?_
          refine W.eq (congrArg (fun v => F0 m 117 ls (.int v :: [.ref (X 0 7)])) (show _ = h1 S j d from h1_p c93)) ?_
          refine W.eq (g2 := F0 m 117 ls [.int (h1 S j d), .ref (X 0 7)]) rfl ?_
          refine z_put (ci := 2) (fs := [.ref (X 0 8), .int (nI c2), .int (h0 S j d), .int sc, .int rp]) (fs' := [.ref (X 0 8), .int (nI c2), .int (h0 S j d), .int (h1 S j d), .int rp]) (v := .int (h1 S j d)) (ty := .int) (C := RX2) (T := TX2) (N := 5) hx hb hts in_X2 tyX2 tyX2_ok nmX2 hown hK hZ (va_up_self _ _ _) rfl 3 (by decide) fl_60 (fun _ h9 => h9) rfl (by decide +kernel) rfl rfl (Nat.le_of_ble_eq_true rfl) rfl dX2_work_117 (fun H locs hZ => ?_)
          rw [bx_uu] at hZ
          refine lv_aload_n hx hb dX2_work_120 rfl (lv_at hl 4 rfl) ?_
          refine lv_aload_n hx hb dX2_work_121 rfl (lv_at hl 6 rfl) ?_
          refine lv_iconst (v := 4) hx hb dX2_work_122 (by decide) ?_
          refine z_call (va_runV (As := [.int 4]) (rest := [.ref (X 0 7)]) ⟨hx, hb, hml, hown, hts⟩ (c_X4_number l D cT _ _ (lwA S X d) (lwB S X d) (lwC S d) 4 4 ((va_up_ne _ _ (z_neOO (fla hF1 d) (f07 hF1) (by decide))).trans (fla hF1 d)) ((va_up_ne _ _ (z_neAO (flb hF1 d) (f07 hF1))).trans (flb hF1 d)) rfl (by decide)) (cwV 1 hts gX2_work_X4_number rfl rfl rfl (by decide +kernel) ⟨(Nat.le_of_ble_eq_true rfl), (Nat.le_of_ble_eq_true rfl)⟩) (z_preV hK hE hZ hA (ci := 4) rfl ((va_up_ne _ _ (z_neOO (fla hF1 d) (f07 hF1) (by decide))).trans (fla hF1 d))) rfl rfl hl.1 rfl (lv_room (Nat.le_of_ble_eq_true rfl)) dX2_work_123 ⟨(Nat.le_of_ble_eq_true rfl), (Nat.le_of_ble_eq_true rfl)⟩) hZ hA (fun r G123 H locs hq hZ => ?_)
          obtain ⟨hg, rfl⟩ := hq
          replace hg := hg.symm
          subst hg
          refine W.eq (g2 := F0 m 126 ls [.int ((lwC S d) 4), .ref (X 0 7)]) rfl ?_
          refine W.eq (congrArg (fun v => F0 m 126 ls (.int v :: [.ref (X 0 7)])) (show _ = lw S d 4 from lwC_k hS d (by decide))) ?_
          refine W.eq (g2 := F0 m 126 ls [.int (lw S d 4), .ref (X 0 7)]) rfl ?_
          refine lv_aload_n hx hb dX2_work_126 rfl (lv_at hl 5 rfl) ?_
          refine z_get (ci := 3) (fs := [.ref (X 2 j), .int (nI (S.1 3 j)), .ref (X 3 j), .int (S.2.1 6 j)]) (C := RX3) (T := TX3) (N := 4) hx hb hts in_X3 hown hK hZ ((va_up_ne _ _ (z_neOO (f1 hF1 hj) (f07 hF1) (by decide))).trans (f1 hF1 hj)) rfl 3 (by decide) fl_63 (fun _ h9 => h9) rfl dX2_work_127 ?_
          refine lv_imul hx hb dX2_work_130 ?_
          refine lv_ineg hx hb dX2_work_131 ?_
          refine W.eq (congrArg (fun v => F0 m 132 ls (.int v :: [.ref (X 0 7)])) (show _ = h2 S j d from rfl)) ?_
          refine W.eq (g2 := F0 m 132 ls [.int (h2 S j d), .ref (X 0 7)]) rfl ?_
          refine z_put (ci := 2) (fs := [.ref (X 0 8), .int (nI c2), .int (h0 S j d), .int (h1 S j d), .int rp]) (fs' := [.ref (X 0 8), .int (nI c2), .int (h0 S j d), .int (h1 S j d), .int (h2 S j d)]) (v := .int (h2 S j d)) (ty := .int) (C := RX2) (T := TX2) (N := 5) hx hb hts in_X2 tyX2 tyX2_ok nmX2 hown hK hZ (va_up_self _ _ _) rfl 4 (by decide) fl_66 (fun _ h9 => h9) rfl (by decide +kernel) rfl rfl (Nat.le_of_ble_eq_true rfl) rfl dX2_work_132 (fun H locs hZ => ?_)
          rw [bx_uu] at hZ
          exact z_vret hx hb hr hlocks hZ dX2_work_135 (⟨⟨f, by rw [cnt_w hcl he2]; exact fr_7 hF1⟩, rfl⟩)
        · refine lv_iconst (v := 0) hx hb dX2_work_96 (by decide) ?_
          refine lv_goto (tgt := 117) hx hb dX2_work_97 (by decide) ?_
          refine W.eq (congrArg (fun v => F0 m 117 ls (.int v :: [.ref (X 0 7)])) (show _ = h1 S j d from h1_n c93)) ?_
          refine W.eq (g2 := F0 m 117 ls [.int (h1 S j d), .ref (X 0 7)]) rfl ?_
          refine z_put (ci := 2) (fs := [.ref (X 0 8), .int (nI c2), .int (h0 S j d), .int sc, .int rp]) (fs' := [.ref (X 0 8), .int (nI c2), .int (h0 S j d), .int (h1 S j d), .int rp]) (v := .int (h1 S j d)) (ty := .int) (C := RX2) (T := TX2) (N := 5) hx hb hts in_X2 tyX2 tyX2_ok nmX2 hown hK hZ (va_up_self _ _ _) rfl 3 (by decide) fl_60 (fun _ h9 => h9) rfl (by decide +kernel) rfl rfl (Nat.le_of_ble_eq_true rfl) rfl dX2_work_117 (fun H locs hZ => ?_)
          rw [bx_uu] at hZ
          refine lv_aload_n hx hb dX2_work_120 rfl (lv_at hl 4 rfl) ?_
          refine lv_aload_n hx hb dX2_work_121 rfl (lv_at hl 6 rfl) ?_
          refine lv_iconst (v := 4) hx hb dX2_work_122 (by decide) ?_
          refine z_call (va_runV (As := [.int 4]) (rest := [.ref (X 0 7)]) ⟨hx, hb, hml, hown, hts⟩ (c_X4_number l D cT _ _ (lwA S X d) (lwB S X d) (lwC S d) 4 4 ((va_up_ne _ _ (z_neOO (fla hF1 d) (f07 hF1) (by decide))).trans (fla hF1 d)) ((va_up_ne _ _ (z_neAO (flb hF1 d) (f07 hF1))).trans (flb hF1 d)) rfl (by decide)) (cwV 1 hts gX2_work_X4_number rfl rfl rfl (by decide +kernel) ⟨(Nat.le_of_ble_eq_true rfl), (Nat.le_of_ble_eq_true rfl)⟩) (z_preV hK hE hZ hA (ci := 4) rfl ((va_up_ne _ _ (z_neOO (fla hF1 d) (f07 hF1) (by decide))).trans (fla hF1 d))) rfl rfl hl.1 rfl (lv_room (Nat.le_of_ble_eq_true rfl)) dX2_work_123 ⟨(Nat.le_of_ble_eq_true rfl), (Nat.le_of_ble_eq_true rfl)⟩) hZ hA (fun r G123 H locs hq hZ => ?_)
          obtain ⟨hg, rfl⟩ := hq
          replace hg := hg.symm
          subst hg
          refine W.eq (g2 := F0 m 126 ls [.int ((lwC S d) 4), .ref (X 0 7)]) rfl ?_
          refine W.eq (congrArg (fun v => F0 m 126 ls (.int v :: [.ref (X 0 7)])) (show _ = lw S d 4 from lwC_k hS d (by decide))) ?_
          refine W.eq (g2 := F0 m 126 ls [.int (lw S d 4), .ref (X 0 7)]) rfl ?_
          refine lv_aload_n hx hb dX2_work_126 rfl (lv_at hl 5 rfl) ?_
          refine z_get (ci := 3) (fs := [.ref (X 2 j), .int (nI (S.1 3 j)), .ref (X 3 j), .int (S.2.1 6 j)]) (C := RX3) (T := TX3) (N := 4) hx hb hts in_X3 hown hK hZ ((va_up_ne _ _ (z_neOO (f1 hF1 hj) (f07 hF1) (by decide))).trans (f1 hF1 hj)) rfl 3 (by decide) fl_63 (fun _ h9 => h9) rfl dX2_work_127 ?_
          refine lv_imul hx hb dX2_work_130 ?_
          refine lv_ineg hx hb dX2_work_131 ?_
          refine W.eq (congrArg (fun v => F0 m 132 ls (.int v :: [.ref (X 0 7)])) (show _ = h2 S j d from rfl)) ?_
          refine W.eq (g2 := F0 m 132 ls [.int (h2 S j d), .ref (X 0 7)]) rfl ?_
          refine z_put (ci := 2) (fs := [.ref (X 0 8), .int (nI c2), .int (h0 S j d), .int (h1 S j d), .int rp]) (fs' := [.ref (X 0 8), .int (nI c2), .int (h0 S j d), .int (h1 S j d), .int (h2 S j d)]) (v := .int (h2 S j d)) (ty := .int) (C := RX2) (T := TX2) (N := 5) hx hb hts in_X2 tyX2 tyX2_ok nmX2 hown hK hZ (va_up_self _ _ _) rfl 4 (by decide) fl_66 (fun _ h9 => h9) rfl (by decide +kernel) rfl rfl (Nat.le_of_ble_eq_true rfl) rfl dX2_work_132 (fun H locs hZ => ?_)
          rw [bx_uu] at hZ
          exact z_vret hx hb hr hlocks hZ dX2_work_135 (⟨⟨f, by rw [cnt_w hcl he2]; exact fr_7 hF1⟩, rfl⟩)
      | succ q ih25 =>
        intro i c2 f G1 hq hF1 hc he H locs ls hZ hl
        refine lv_iload hx hb dX2_work_25 (lv_at hl 0 rfl) ?_
        refine lv_iload hx hb dX2_work_27 (lv_at hl 1 rfl) ?_
        refine lv_icmp_ge (tgt := 80) hx hb dX2_work_29 (by decide) (fun c29 => absurd c29 (nI_ge (b := 12) (by omega) (by decide))) (fun _ => ?_)
        refine lv_aload hx hb dX2_work_32 (lv_at hl 2 rfl) ?_
        refine lv_iload hx hb dX2_work_34 (lv_at hl 0 rfl) ?_
        refine z_aald hx hb hK hZ 3 (f02 hF1) rfl i rfl (by omega) (by decide) dX2_work_36 ?_
        by_cases hi : i < S.1 10 0
        · refine W.eq (congrArg (fun v => F0 m 37 ls (v :: [])) (show _ = Value.ref (X 5 i) from fLi_y hi)) ?_
          refine W.eq (g2 := F0 m 37 ls [.ref (X 5 i)]) rfl ?_
          refine lv_astore (lv' := [(9, .ref (X 5 i)), (8, .int (nI i)), (7, .int (nI 12)), (6, .ref (X 0 2)), (5, .int (pts S j)), (0, .ref (X 0 7)), (1, .ref (X 1 j)), (2, .ref (lwA S X d)), (3, .ref (X 0 2)), (4, .int y)]) hx hb dX2_work_37 hl (by decide) rfl (fun ls hl => ?_)
          refine lv_aload hx hb dX2_work_39 (lv_at hl 0 rfl) ?_
          refine lv_ifnull hx hb dX2_work_41 ?_
          refine lv_aload hx hb dX2_work_44 (lv_at hl 0 rfl) ?_
          refine lv_aload_n hx hb dX2_work_46 rfl (lv_at hl 6 rfl) ?_
          refine z_get (ci := 3) (fs := [.ref (X 2 j), .int (nI (S.1 3 j)), .ref (X 3 j), .int (S.2.1 6 j)]) (C := RX3) (T := TX3) (N := 4) hx hb hts in_X3 hown hK hZ (f1 hF1 hj) rfl 1 (by decide) fl_31 (fun _ h9 => h9) rfl dX2_work_47 ?_
          refine lv_iload hx hb dX2_work_50 (lv_at hl 9 rfl) ?_
          refine z_call (va_runV (As := [.int (nI (S.1 3 j)), .int y]) (rest := []) ⟨hx, hb, hml, hown, hts⟩ (c_X6_countsFor l D cT _ _ (X 5 i) (S.2.1 11 i) (S.2.1 12 i) (S.2.1 13 i) (S.2.1 14 i) (nI (S.1 15 i)) (nI (S.1 3 j)) y (f5 hF1 hi)) (cwV 2 hts gX2_work_X6_countsFor rfl rfl rfl (by decide +kernel) ⟨(Nat.le_of_ble_eq_true rfl), (Nat.le_of_ble_eq_true rfl)⟩) (z_preV hK hE hZ hA (ci := 6) rfl (f5 hF1 hi)) rfl rfl hl.1 rfl (lv_room (Nat.le_of_ble_eq_true rfl)) dX2_work_52 ⟨(Nat.le_of_ble_eq_true rfl), (Nat.le_of_ble_eq_true rfl)⟩) hZ hA (fun r G52 H locs hq hZ => ?_)
          obtain ⟨hg, rfl⟩ := hq
          replace hg := hg.symm
          subst hg
          refine W.eq (g2 := F0 m 55 ls [.int (if (nI (S.1 15 i)) = 0 ∧ (S.2.1 11 i) = (nI (S.1 3 j)) ∧ ¬ y < (S.2.1 14 i) then 1 else 0)]) rfl ?_
          refine zb_eq (tgt := 74) hx hb dX2_work_55 (by decide) (fun c55 => ?_) (fun c55 => ?_)
          · refine lv_iinc (v := nI (i + 1)) (lv' := [(8, .int (nI (i + 1))), (9, .ref (X 5 i)), (7, .int (nI 12)), (6, .ref (X 0 2)), (5, .int (pts S j)), (0, .ref (X 0 7)), (1, .ref (X 1 j)), (2, .ref (lwA S X d)), (3, .ref (X 0 2)), (4, .int y)]) hx hb dX2_work_74 hl (k := 1) rfl (nI_1 i) (by decide) rfl (fun ls hl => ?_)
            refine lv_goto (tgt := 25) hx hb dX2_work_77 (by decide) ?_
            exact ih25 (i + 1) c2 f _ (by omega) hF1 (by omega) (by rw [show min (i + 1) (S.1 10 0) = i + 1 by omega]; rw [show min i (S.1 10 0) = i by omega] at he; exact clc_no (fun h => c55 ⟨by rw [h.1]; rfl, h.2.1, by rw [hyd]; exact h.2.2⟩) he) _ _ _ hZ (lv_sub hl [0, 2, 3, 4, 5, 6, 7, 8, 9] rfl)
          · refine lv_aload_n hx hb dX2_work_58 rfl (lv_at hl 5 rfl) ?_
            refine lv_aload hx hb dX2_work_59 (lv_at hl 0 rfl) ?_
            refine lv_iload hx hb dX2_work_61 (lv_at hl 4 rfl) ?_
            refine lv_aload_n hx hb dX2_work_63 rfl (lv_at hl 7 rfl) ?_
            refine lv_iconst (v := 3) hx hb dX2_work_64 (by decide) ?_
            refine z_call (va_runV (As := [.int 3]) (rest := [.int (pts S j), .ref (X 5 i), .ref (X 0 7)]) ⟨hx, hb, hml, hown, hts⟩ (c_X4_number l D cT _ _ (lwA S X d) (lwB S X d) (lwC S d) 3 3 (fla hF1 d) (flb hF1 d) rfl (by decide)) (cwV 1 hts gX2_work_X4_number rfl rfl rfl (by decide +kernel) ⟨(Nat.le_of_ble_eq_true rfl), (Nat.le_of_ble_eq_true rfl)⟩) (z_preV hK hE hZ hA (ci := 4) rfl (fla hF1 d)) rfl rfl hl.1 rfl (lv_room (Nat.le_of_ble_eq_true rfl)) dX2_work_65 ⟨(Nat.le_of_ble_eq_true rfl), (Nat.le_of_ble_eq_true rfl)⟩) hZ hA (fun r G65 H locs hq hZ => ?_)
            obtain ⟨hg, rfl⟩ := hq
            replace hg := hg.symm
            subst hg
            refine W.eq (g2 := F0 m 68 ls [.int ((lwC S d) 3), .int (pts S j), .ref (X 5 i), .ref (X 0 7)]) rfl ?_
            refine W.eq (congrArg (fun v => F0 m 68 ls (.int v :: [.int (pts S j), .ref (X 5 i), .ref (X 0 7)])) (show _ = lw S d 3 from lwC_k hS d (by decide))) ?_
            refine W.eq (g2 := F0 m 68 ls [.int (lw S d 3), .int (pts S j), .ref (X 5 i), .ref (X 0 7)]) rfl ?_
            refine z_call (va_runV (As := [.int (pts S j), .int (lw S d 3)]) (rest := [.ref (X 0 7)]) ⟨hx, hb, hml, hown, hts⟩ (c_X6_putRight l D cT _ _ (X 5 i) (S.2.1 11 i) (S.2.1 12 i) (S.2.1 13 i) (S.2.1 14 i) (nI (S.1 15 i)) (pts S j) (lw S d 3) (f5 hF1 hi)) (cwV 2 hts gX2_work_X6_putRight rfl rfl rfl (by decide +kernel) ⟨(Nat.le_of_ble_eq_true rfl), (Nat.le_of_ble_eq_true rfl)⟩) (z_preV hK hE hZ hA (ci := 6) rfl (f5 hF1 hi)) rfl rfl hl.1 rfl (lv_room (Nat.le_of_ble_eq_true rfl)) dX2_work_68 ⟨(Nat.le_of_ble_eq_true rfl), (Nat.le_of_ble_eq_true rfl)⟩) hZ hA (fun r G68 H locs hq hZ => ?_)
            obtain ⟨hg, rfl⟩ := hq
            replace hg := hg.symm
            subst hg
            refine W.eq (g2 := F0 m 71 ls [.int ((S.2.1 13 i) + (lw S d 3) * ((pts S j) - (S.2.1 12 i))), .ref (X 0 7)]) rfl ?_
            refine W.eq (congrArg (fun v => F0 m 71 ls (.int v :: [.ref (X 0 7)])) (show _ = vl S j d i from rfl)) ?_
            refine W.eq (g2 := F0 m 71 ls [.int (vl S j d i), .ref (X 0 7)]) rfl ?_
            refine z_call (va_runV (As := [.int (vl S j d i)]) (rest := []) ⟨hx, hb, hml, hown, hts⟩ (c_X2_insert l D cT _ _ S X _ _ _ _ _ _ nn (vl S j d i) c2 hF1 hS rfl (by omega)) (cwV 1 hts gX2_work_X2_insert rfl rfl rfl (by decide +kernel) ⟨(Nat.le_of_ble_eq_true rfl), (Nat.le_of_ble_eq_true rfl)⟩) (z_preV hK hE hZ hA (ci := 2) rfl (f07 hF1)) rfl rfl hl.1 rfl (lv_room (Nat.le_of_ble_eq_true rfl)) dX2_work_71 ⟨(Nat.le_of_ble_eq_true rfl), (Nat.le_of_ble_eq_true rfl)⟩) hZ hA (fun r G71 H locs hq hZ => ?_)
            obtain ⟨hF71, rfl⟩ := hq
            refine W.eq (g2 := F0 m 74 ls []) rfl ?_
            refine lv_iinc (v := nI (i + 1)) (lv' := [(8, .int (nI (i + 1))), (9, .ref (X 5 i)), (7, .int (nI 12)), (6, .ref (X 0 2)), (5, .int (pts S j)), (0, .ref (X 0 7)), (1, .ref (X 1 j)), (2, .ref (lwA S X d)), (3, .ref (X 0 2)), (4, .int y)]) hx hb dX2_work_74 hl (k := 1) rfl (nI_1 i) (by decide) rfl (fun ls hl => ?_)
            refine lv_goto (tgt := 25) hx hb dX2_work_77 (by decide) ?_
            exact ih25 (i + 1) (c2 + 1) _ _ (by omega) hF71 (by omega) (by rw [show min (i + 1) (S.1 10 0) = i + 1 by omega]; rw [show min i (S.1 10 0) = i by omega] at he; exact clc_yes ⟨n0 (Nat.le_succ_of_le (k15 _)) c55.1, c55.2.1, by rw [← hyd]; exact c55.2.2⟩ he rfl) _ _ _ hZ (lv_sub hl [0, 2, 3, 4, 5, 6, 7, 8, 9] rfl)
        · refine W.eq (congrArg (fun v => F0 m 37 ls (v :: [])) (show _ = Value.null from fLi_n hi)) ?_
          refine W.eq (g2 := F0 m 37 ls [.null]) rfl ?_
          refine lv_astoreN (lv' := [(9, .null), (8, .int (nI i)), (7, .int (nI 12)), (6, .ref (X 0 2)), (5, .int (pts S j)), (0, .ref (X 0 7)), (1, .ref (X 1 j)), (2, .ref (lwA S X d)), (3, .ref (X 0 2)), (4, .int y)]) hx hb dX2_work_37 hl (by decide) rfl (fun ls hl => ?_)
          refine lv_aloadN hx hb dX2_work_39 (lv_at hl 0 rfl) ?_
          refine lv_ifnullN (tgt := 74) hx hb dX2_work_41 (by decide) ?_
          refine lv_iinc (v := nI (i + 1)) (lv' := [(8, .int (nI (i + 1))), (9, .null), (7, .int (nI 12)), (6, .ref (X 0 2)), (5, .int (pts S j)), (0, .ref (X 0 7)), (1, .ref (X 1 j)), (2, .ref (lwA S X d)), (3, .ref (X 0 2)), (4, .int y)]) hx hb dX2_work_74 hl (k := 1) rfl (nI_1 i) (by decide) rfl (fun ls hl => ?_)
          refine lv_goto (tgt := 25) hx hb dX2_work_77 (by decide) ?_
          exact ih25 (i + 1) c2 f _ (by omega) hF1 (by omega) (by rw [show min (i + 1) (S.1 10 0) = min i (S.1 10 0) by omega]; exact he) _ _ _ hZ (lv_sub hl [0, 2, 3, 4, 5, 6, 7, 8, 9] rfl)
    exact loop25 12 0 0 fo _ (by omega) hFs (by omega) (by rw [Nat.zero_min]; rfl) _ _ _ hZ (lv_sub hl [0, 1, 2, 3, 4, 5, 6, 7, 8] rfl)
  refine lv_aload_n hx hb dX2_work_5 rfl (lv_at hl 1 rfl) ?_
  refine z_get (ci := 3) (fs := [.ref (X 2 j), .int (nI (S.1 3 j)), .ref (X 3 j), .int (S.2.1 6 j)]) (C := RX3) (T := TX3) (N := 4) hx hb hts in_X3 hown hK hZ ((va_up_ne _ _ (z_neOO (f1 hF hj) (f07 hF) (by decide))).trans (f1 hF hj)) rfl 0 (by decide) fl_19 (fun _ h9 => h9) rfl dX2_work_6 ?_
  have hk3 : S.1 2 j = 0 ∨ S.1 2 j = 1 ∨ S.1 2 j = 2 := by have := (kH j hj).1; omega
  rcases hk3 with hk | hk | hk
  · refine z_call (va_runV (As := []) (rest := []) ⟨hx, hb, hml, hown, hts⟩ (c_X8_worth_X8 l D cT _ _ (X 2 j) (nI (S.1 4 j)) ((va_up_ne _ _ (z_neOO (f2_0 hF hj hk) (f07 hF) (by decide))).trans (f2_0 hF hj hk))) (cwV 0 hts gX2_work_X8_worth rfl rfl rfl (by decide +kernel) ⟨(Nat.le_of_ble_eq_true rfl), (Nat.le_of_ble_eq_true rfl)⟩) (z_preV hK hE hZ hA (ci := 8) rfl ((va_up_ne _ _ (z_neOO (f2_0 hF hj hk) (f07 hF) (by decide))).trans (f2_0 hF hj hk))) rfl rfl hl.1 rfl (lv_room (Nat.le_of_ble_eq_true rfl)) dX2_work_9 ⟨(Nat.le_of_ble_eq_true rfl), (Nat.le_of_ble_eq_true rfl)⟩) hZ hA (fun r G9 H locs hq hZ => ?_)
    obtain ⟨hg, rfl⟩ := hq
    replace hg := hg.symm
    subst hg
    refine W.eq (g2 := F0 m 12 ls [.int (10 * (nI (S.1 4 j)))]) rfl ?_
    refine W.eq (congrArg (fun v => F0 m 12 ls (.int v :: [])) (show _ = pts S j from ptk_0 hk)) ?_
    refine W.eq (g2 := F0 m 12 ls [.int (pts S j)]) rfl ?_
    refine lv_istore (lv' := [(5, .int (pts S j)), (0, .ref (X 0 7)), (1, .ref (X 1 j)), (2, .ref (lwA S X d)), (3, .ref (X 0 2)), (4, .int y)]) hx hb dX2_work_12 hl (by decide) rfl (fun ls hl => ?_)
    exact join14 _ _ _ hZ (lv_sub hl [0, 1, 2, 3, 4, 5] rfl)
  · refine z_call (va_runU (As := []) (rest := []) ⟨hx, hb, hml, hown, hts⟩ (c_X1_worth_X1 l D cT _ _ (X 2 j) (nI (S.1 4 j)) (nI (S.1 5 j)) ((va_up_ne _ _ (z_neOO (f2_1 hF hj hk) (f07 hF) (by decide))).trans (f2_1 hF hj hk))) (va_cwO 0 hts gX2_work_X1_worth_u25X1 rfl rfl rfl (List.mem_of_getElem? (i := 20) rfl) (by decide +kernel) ⟨(Nat.le_of_ble_eq_true rfl), (Nat.le_of_ble_eq_true rfl)⟩) (z_preV hK hE hZ hA (ci := 1) rfl ((va_up_ne _ _ (z_neOO (f2_1 hF hj hk) (f07 hF) (by decide))).trans (f2_1 hF hj hk))) rfl rfl hl.1 rfl (lv_room (Nat.le_of_ble_eq_true rfl)) dX2_work_9 ⟨(Nat.le_of_ble_eq_true rfl), (Nat.le_of_ble_eq_true rfl)⟩) hZ hA (fun r G9 H locs hq hZ => ?_)
    obtain ⟨hg, rfl⟩ := hq
    replace hg := hg.symm
    subst hg
    refine W.eq (g2 := F0 m 12 ls [.int (10 * (nI (S.1 4 j)) - 2 * (nI (S.1 5 j)))]) rfl ?_
    refine W.eq (congrArg (fun v => F0 m 12 ls (.int v :: [])) (show _ = pts S j from ptk_1 hk)) ?_
    refine W.eq (g2 := F0 m 12 ls [.int (pts S j)]) rfl ?_
    refine lv_istore (lv' := [(5, .int (pts S j)), (0, .ref (X 0 7)), (1, .ref (X 1 j)), (2, .ref (lwA S X d)), (3, .ref (X 0 2)), (4, .int y)]) hx hb dX2_work_12 hl (by decide) rfl (fun ls hl => ?_)
    exact join14 _ _ _ hZ (lv_sub hl [0, 1, 2, 3, 4, 5] rfl)
  · refine z_call (va_runU (As := []) (rest := []) ⟨hx, hb, hml, hown, hts⟩ (c_X7_worth_X7 l D cT _ _ (X 2 j) (nI (S.1 4 j)) (nI (S.1 5 j)) ((va_up_ne _ _ (z_neOO (f2_2 hF hj hk) (f07 hF) (by decide))).trans (f2_2 hF hj hk))) (va_cwO 0 hts gX2_work_X7_worth_u25X7 rfl rfl rfl (List.mem_of_getElem? (i := 20) rfl) (by decide +kernel) ⟨(Nat.le_of_ble_eq_true rfl), (Nat.le_of_ble_eq_true rfl)⟩) (z_preV hK hE hZ hA (ci := 7) rfl ((va_up_ne _ _ (z_neOO (f2_2 hF hj hk) (f07 hF) (by decide))).trans (f2_2 hF hj hk))) rfl rfl hl.1 rfl (lv_room (Nat.le_of_ble_eq_true rfl)) dX2_work_9 ⟨(Nat.le_of_ble_eq_true rfl), (Nat.le_of_ble_eq_true rfl)⟩) hZ hA (fun r G9 H locs hq hZ => ?_)
    obtain ⟨hg, rfl⟩ := hq
    replace hg := hg.symm
    subst hg
    refine W.eq (g2 := F0 m 12 ls [.int (10 * (nI (S.1 4 j)) - 2 * (nI (S.1 5 j)) - zfd (10 * (nI (S.1 4 j)) - 2 * (nI (S.1 5 j))))]) rfl ?_
    refine W.eq (congrArg (fun v => F0 m 12 ls (.int v :: [])) (show _ = pts S j from ptk_2 hk)) ?_
    refine W.eq (g2 := F0 m 12 ls [.int (pts S j)]) rfl ?_
    refine lv_istore (lv' := [(5, .int (pts S j)), (0, .ref (X 0 7)), (1, .ref (X 1 j)), (2, .ref (lwA S X d)), (3, .ref (X 0 2)), (4, .int y)]) hx hb dX2_work_12 hl (by decide) rfl (fun ls hl => ?_)
    exact join14 _ _ _ hZ (lv_sub hl [0, 1, 2, 3, 4, 5] rfl)

set_option maxHeartbeats 4000000 in
set_option maxRecDepth 100000 in
theorem c_X9_head (l : Launch) (D : va_G) (cT : Nat → ClassId) (G : zG) (sz : Nat) (S : zS) (X : Nat → Nat → Nat) (ct md sc rp : Int32) (fo fd : Nat → Int32) (nn : Nat) (x y z : Int32) (hF : FR cT S X ct md sc rp fo fd G) (hS : ok S nn)  : zM l D cT yX9_head wsX9_head (zR 4 0 0) [.ref (X 0 0), .int x, .int y, .int z] G sz (fQ cT (X 0 0) (sp_head S x y z)) := by
  refine z_start (cc := cX9_head) (maxL := 5) (ret := (some .int)) (by decide) rfl (Nat.le_of_ble_eq_true rfl) ?_
  intro p e s m below meth c ls hI hZ hl
  obtain ⟨hx, hb, hr, hml, hts, hown, hlocks, hname, hK, hA, hE⟩ := hI
  have hl : lv_has ls 5 [(0, .ref (X 0 0)), (1, .int x), (2, .int y), (3, .int z)] := hl
  have hown : s.vm.findClass RX9 = some m.cls := hown
  have in_X2 : ∀ w ∈ u_ws RX2 TX2 5, w ∈ wsX9_head := by decide +kernel
  have in_X9 : ∀ w ∈ u_ws RX9 TX9 12, w ∈ wsX9_head := by decide +kernel
  have fl_17 := hts (.fieldLink RX9 17 "FairRents" "likes" "[LFairRents$Like;") (by decide +kernel)
  have fl_43 := hts (.fieldLink RX9 43 "FairRents" "heads" "LFairRents$Heads;") (by decide +kernel)
  have fl_120 := hts (.fieldLink RX9 120 "FairRents$Heads" "middle" "I") (by decide +kernel)
  have fl_123 := hts (.fieldLink RX9 123 "FairRents$Heads" "scarcity" "I") (by decide +kernel)
  have fl_126 := hts (.fieldLink RX9 126 "FairRents$Heads" "repairs" "I") (by decide +kernel)
  have fl_132 := hts (.fieldLink RX9 132 "FairRents$Heads" "counted" "I") (by decide +kernel)
  obtain ⟨⟨k1, k10, k20, k0⟩, kH, k9, k8, k15, k26, kL, kLn, kP, kE, kEm, kn⟩ := id hS
  refine lv_aload_n hx hb dX9_head_0 rfl (lv_at hl 0 rfl) ?_
  refine lv_iload_n hx hb dX9_head_1 rfl (lv_at hl 1 rfl) ?_
  refine z_call (va_runV (As := [.int x]) (rest := []) ⟨hx, hb, hml, hown, hts⟩ (c_X9_homeAt l D cT _ _ S X _ _ _ _ _ _ nn x hF hS ) (cwV 1 hts gX9_head_X9_homeAt rfl rfl rfl (by decide +kernel) ⟨(Nat.le_of_ble_eq_true rfl), (Nat.le_of_ble_eq_true rfl)⟩) (z_preV hK hE hZ hA (ci := 9) rfl (f00 hF)) rfl rfl hl.1 rfl (lv_room (Nat.le_of_ble_eq_true rfl)) dX9_head_2 ⟨(Nat.le_of_ble_eq_true rfl), (Nat.le_of_ble_eq_true rfl)⟩) hZ hA (fun r G2 H locs hq hZ => ?_)
  obtain ⟨hg, rfl⟩ := hq
  replace hg := hg.symm
  subst hg
  refine W.eq (g2 := F0 m 5 ls [va_rf ((hix S x).map (X 1))]) rfl ?_
  rcases hh : hix S x with _ | j
  · refine W.eq (g2 := F0 m 5 ls [.null]) rfl ?_
    refine lv_astoreN (lv' := [(4, .null), (0, .ref (X 0 0)), (1, .int x), (2, .int y), (3, .int z)]) hx hb dX9_head_5 hl (by decide) rfl (fun ls hl => ?_)
    refine lv_aloadN hx hb dX9_head_7 (lv_at hl 0 rfl) ?_
    refine lv_ifnullN (tgt := 32) hx hb dX9_head_9 (by decide) ?_
    refine lv_ldc (v := (-1000000000)) hx hb hown (hts (.constant RX9 115 (-1000000000)) (by decide +kernel)) dX9_head_32 ?_
    exact z_iret hx hb hr hlocks hZ dX9_head_34 (fQ_of (by rw [sp_head, hh]) rfl ⟨_, _, _, _, _, _, hF⟩)
  · refine W.eq (g2 := F0 m 5 ls [.ref (X 1 j)]) rfl ?_
    obtain ⟨hj, hxj⟩ := hix_some k1 hh
    refine lv_astore (lv' := [(4, .ref (X 1 j)), (0, .ref (X 0 0)), (1, .int x), (2, .int y), (3, .int z)]) hx hb dX9_head_5 hl (by decide) rfl (fun ls hl => ?_)
    refine lv_aload hx hb dX9_head_7 (lv_at hl 0 rfl) ?_
    refine lv_ifnull hx hb dX9_head_9 ?_
    refine lv_iload_n hx hb dX9_head_12 rfl (lv_at hl 3 rfl) ?_
    refine lv_iconst (v := 0) hx hb dX9_head_13 (by decide) ?_
    refine lv_sipush (v := 300) hx hb dX9_head_14 (by decide) ?_
    refine z_call (va_runS (As := [.int y, .int 0, .int 300]) (rest := []) ⟨hx, hb, hml, hown, hts⟩ (c_X9_within l D cT _ _ y 0 300) (va_cwS 3 hts gX9_head_X9_within rfl rfl rfl (by decide +kernel) ⟨(Nat.le_of_ble_eq_true rfl), (Nat.le_of_ble_eq_true rfl)⟩) (z_preS hK hE hZ hA) rfl rfl hl.1 rfl (lv_room (Nat.le_of_ble_eq_true rfl)) dX9_head_17 ⟨(Nat.le_of_ble_eq_true rfl), (Nat.le_of_ble_eq_true rfl)⟩) hZ hA (fun r G17 H locs hq hZ => ?_)
    obtain ⟨hg, rfl⟩ := hq
    replace hg := hg.symm
    subst hg
    refine W.eq (g2 := F0 m 20 ls [.int (if 0 ≤ y ∧ y ≤ 300 then 1 else 0)]) rfl ?_
    refine zb_eq (tgt := 32) hx hb dX9_head_20 (by decide) (fun c20 => ?_) (fun c20 => ?_)
    · refine lv_ldc (v := (-1000000000)) hx hb hown (hts (.constant RX9 115 (-1000000000)) (by decide +kernel)) dX9_head_32 ?_
      exact z_iret hx hb hr hlocks hZ dX9_head_34 (fQ_of (by rw [sp_head, hh]; simp only []; rw [if_neg (fun h => c20 h.1)]) rfl ⟨_, _, _, _, _, _, hF⟩)
    · refine lv_iload_n hx hb dX9_head_23 rfl (lv_at hl 4 rfl) ?_
      refine lv_iconst (v := 0) hx hb dX9_head_24 (by decide) ?_
      refine lv_iconst (v := 4) hx hb dX9_head_25 (by decide) ?_
      refine z_call (va_runS (As := [.int z, .int 0, .int 4]) (rest := []) ⟨hx, hb, hml, hown, hts⟩ (c_X9_within l D cT _ _ z 0 4) (va_cwS 3 hts gX9_head_X9_within rfl rfl rfl (by decide +kernel) ⟨(Nat.le_of_ble_eq_true rfl), (Nat.le_of_ble_eq_true rfl)⟩) (z_preS hK hE hZ hA) rfl rfl hl.1 rfl (lv_room (Nat.le_of_ble_eq_true rfl)) dX9_head_26 ⟨(Nat.le_of_ble_eq_true rfl), (Nat.le_of_ble_eq_true rfl)⟩) hZ hA (fun r G26 H locs hq hZ => ?_)
      obtain ⟨hg, rfl⟩ := hq
      replace hg := hg.symm
      subst hg
      refine W.eq (g2 := F0 m 29 ls [.int (if 0 ≤ z ∧ z ≤ 4 then 1 else 0)]) rfl ?_
      refine zb_ne (tgt := 35) hx hb dX9_head_29 (by decide) (fun c29 => ?_) (fun c29 => ?_)
      · have hyd : y = nI y.toNatClampNeg := (z_self c20.1).symm
        have hd : y.toNatClampNeg ≤ 300 := z_cl c20 (by decide)
        have hwk : z = nI z.toNatClampNeg := (z_self c29.1).symm
        have hw4 : z.toNatClampNeg ≤ 4 := z_cl c29 (by decide)
        refine lv_aload_n hx hb dX9_head_35 rfl (lv_at hl 1 rfl) ?_
        refine z_get (ci := 9) (fs := [.ref (X 0 1), .ref (X 0 2), .ref (X 0 3), .ref (X 0 4), .ref (X 0 5), .ref (X 0 7), .ref (X 0 9), .int (nI (S.1 1 0)), .int (nI (S.1 10 0)), .int (nI (S.1 20 0)), .int (nI (S.1 0 0)), .long S.2.2]) (C := RX9) (T := TX9) (N := 12) hx hb hts in_X9 hown hK hZ (f00 hF) rfl 5 (by decide) fl_43 (fun _ h9 => h9) rfl dX9_head_36 ?_
        refine lv_aload hx hb dX9_head_39 (lv_at hl 0 rfl) ?_
        refine lv_aload_n hx hb dX9_head_41 rfl (lv_at hl 1 rfl) ?_
        refine lv_iload_n hx hb dX9_head_42 rfl (lv_at hl 3 rfl) ?_
        refine z_call (va_runV (As := [.int y]) (rest := [.ref (X 1 j), .ref (X 0 7)]) ⟨hx, hb, hml, hown, hts⟩ (c_X9_lawOn l D cT _ _ S X _ _ _ _ _ _ nn y y.toNatClampNeg hF hS (by omega) hyd) (cwV 1 hts gX9_head_X9_lawOn rfl rfl rfl (by decide +kernel) ⟨(Nat.le_of_ble_eq_true rfl), (Nat.le_of_ble_eq_true rfl)⟩) (z_preV hK hE hZ hA (ci := 9) rfl (f00 hF)) rfl rfl hl.1 rfl (lv_room (Nat.le_of_ble_eq_true rfl)) dX9_head_43 ⟨(Nat.le_of_ble_eq_true rfl), (Nat.le_of_ble_eq_true rfl)⟩) hZ hA (fun r G43 H locs hq hZ => ?_)
        obtain ⟨hg, rfl⟩ := hq
        replace hg := hg.symm
        subst hg
        refine W.eq (g2 := F0 m 46 ls [.ref (lwA S X y.toNatClampNeg), .ref (X 1 j), .ref (X 0 7)]) rfl ?_
        refine lv_aload_n hx hb dX9_head_46 rfl (lv_at hl 1 rfl) ?_
        refine z_get (ci := 9) (fs := [.ref (X 0 1), .ref (X 0 2), .ref (X 0 3), .ref (X 0 4), .ref (X 0 5), .ref (X 0 7), .ref (X 0 9), .int (nI (S.1 1 0)), .int (nI (S.1 10 0)), .int (nI (S.1 20 0)), .int (nI (S.1 0 0)), .long S.2.2]) (C := RX9) (T := TX9) (N := 12) hx hb hts in_X9 hown hK hZ (f00 hF) rfl 1 (by decide) fl_17 (fun _ h9 => h9) rfl dX9_head_47 ?_
        refine lv_iload_n hx hb dX9_head_50 rfl (lv_at hl 3 rfl) ?_
        refine z_call (va_runV (As := [.ref (X 1 j), .ref (lwA S X y.toNatClampNeg), .ref (X 0 2), .int y]) (rest := []) ⟨hx, hb, hml, hown, hts⟩ (c_X2_work l D cT _ _ S X _ _ _ _ _ _ nn j y.toNatClampNeg y hF hS hj hd hyd) (cwV 4 hts gX9_head_X2_work rfl rfl rfl (by decide +kernel) ⟨(Nat.le_of_ble_eq_true rfl), (Nat.le_of_ble_eq_true rfl)⟩) (z_preV hK hE hZ hA (ci := 2) rfl (f07 hF)) rfl rfl hl.1 rfl (lv_room (Nat.le_of_ble_eq_true rfl)) dX9_head_51 ⟨(Nat.le_of_ble_eq_true rfl), (Nat.le_of_ble_eq_true rfl)⟩) hZ hA (fun r G51 H locs hq hZ => ?_)
        obtain ⟨⟨fo51, hF51⟩, rfl⟩ := hq
        refine W.eq (g2 := F0 m 54 ls []) rfl ?_
        refine lv_iload_n hx hb dX9_head_54 rfl (lv_at hl 4 rfl) ?_
        have hsw : z.toNatClampNeg = 0 ∨ z.toNatClampNeg = 1 ∨ z.toNatClampNeg = 2 ∨ z.toNatClampNeg = 3 ∨ z.toNatClampNeg = 4 := by omega
        rcases hsw with hw | hw | hw | hw | hw
        · have hv : z = 0 := by rw [hwk, hw]; rfl
          refine lv_tableIn (tgt := 84) hx hb dX9_head_55 (by rw [hv]; decide) (by rw [hv]; decide) (off := 29) (by rw [hv]; rfl) (by decide) ?_
          refine lv_aload_n hx hb dX9_head_84 rfl (lv_at hl 1 rfl) ?_
          refine z_get (ci := 9) (fs := [.ref (X 0 1), .ref (X 0 2), .ref (X 0 3), .ref (X 0 4), .ref (X 0 5), .ref (X 0 7), .ref (X 0 9), .int (nI (S.1 1 0)), .int (nI (S.1 10 0)), .int (nI (S.1 20 0)), .int (nI (S.1 0 0)), .long S.2.2]) (C := RX9) (T := TX9) (N := 12) hx hb hts in_X9 hown hK hZ (f00 hF51) rfl 5 (by decide) fl_43 (fun _ h9 => h9) rfl dX9_head_85 ?_
          refine z_get (ci := 2) (fs := [.ref (X 0 8), .int (nI (hcnt S j y.toNatClampNeg)), .int (h0 S j y.toNatClampNeg), .int (h1 S j y.toNatClampNeg), .int (h2 S j y.toNatClampNeg)]) (C := RX2) (T := TX2) (N := 5) hx hb hts in_X2 hown hK hZ (f07 hF51) rfl 2 (by decide) fl_120 (fun _ h9 => h9) rfl dX9_head_88 ?_
          exact z_iret hx hb hr hlocks hZ dX9_head_91 (fQ_of (by rw [sp_head, hh]; simp only []; rw [if_pos ⟨c20, c29⟩, hw]; rfl) rfl ⟨_, _, _, _, _, _, hF51⟩)
        · have hv : z = 1 := by rw [hwk, hw]; rfl
          refine lv_tableIn (tgt := 92) hx hb dX9_head_55 (by rw [hv]; decide) (by rw [hv]; decide) (off := 37) (by rw [hv]; rfl) (by decide) ?_
          refine lv_aload_n hx hb dX9_head_92 rfl (lv_at hl 1 rfl) ?_
          refine z_get (ci := 9) (fs := [.ref (X 0 1), .ref (X 0 2), .ref (X 0 3), .ref (X 0 4), .ref (X 0 5), .ref (X 0 7), .ref (X 0 9), .int (nI (S.1 1 0)), .int (nI (S.1 10 0)), .int (nI (S.1 20 0)), .int (nI (S.1 0 0)), .long S.2.2]) (C := RX9) (T := TX9) (N := 12) hx hb hts in_X9 hown hK hZ (f00 hF51) rfl 5 (by decide) fl_43 (fun _ h9 => h9) rfl dX9_head_93 ?_
          refine z_get (ci := 2) (fs := [.ref (X 0 8), .int (nI (hcnt S j y.toNatClampNeg)), .int (h0 S j y.toNatClampNeg), .int (h1 S j y.toNatClampNeg), .int (h2 S j y.toNatClampNeg)]) (C := RX2) (T := TX2) (N := 5) hx hb hts in_X2 hown hK hZ (f07 hF51) rfl 3 (by decide) fl_123 (fun _ h9 => h9) rfl dX9_head_96 ?_
          exact z_iret hx hb hr hlocks hZ dX9_head_99 (fQ_of (by rw [sp_head, hh]; simp only []; rw [if_pos ⟨c20, c29⟩, hw]; rfl) rfl ⟨_, _, _, _, _, _, hF51⟩)
        · have hv : z = 2 := by rw [hwk, hw]; rfl
          refine lv_tableIn (tgt := 100) hx hb dX9_head_55 (by rw [hv]; decide) (by rw [hv]; decide) (off := 45) (by rw [hv]; rfl) (by decide) ?_
          refine lv_aload_n hx hb dX9_head_100 rfl (lv_at hl 1 rfl) ?_
          refine z_get (ci := 9) (fs := [.ref (X 0 1), .ref (X 0 2), .ref (X 0 3), .ref (X 0 4), .ref (X 0 5), .ref (X 0 7), .ref (X 0 9), .int (nI (S.1 1 0)), .int (nI (S.1 10 0)), .int (nI (S.1 20 0)), .int (nI (S.1 0 0)), .long S.2.2]) (C := RX9) (T := TX9) (N := 12) hx hb hts in_X9 hown hK hZ (f00 hF51) rfl 5 (by decide) fl_43 (fun _ h9 => h9) rfl dX9_head_101 ?_
          refine z_get (ci := 2) (fs := [.ref (X 0 8), .int (nI (hcnt S j y.toNatClampNeg)), .int (h0 S j y.toNatClampNeg), .int (h1 S j y.toNatClampNeg), .int (h2 S j y.toNatClampNeg)]) (C := RX2) (T := TX2) (N := 5) hx hb hts in_X2 hown hK hZ (f07 hF51) rfl 4 (by decide) fl_126 (fun _ h9 => h9) rfl dX9_head_104 ?_
          exact z_iret hx hb hr hlocks hZ dX9_head_107 (fQ_of (by rw [sp_head, hh]; simp only []; rw [if_pos ⟨c20, c29⟩, hw]; rfl) rfl ⟨_, _, _, _, _, _, hF51⟩)
        · have hv : z = 3 := by rw [hwk, hw]; rfl
          refine lv_tableIn (tgt := 108) hx hb dX9_head_55 (by rw [hv]; decide) (by rw [hv]; decide) (off := 53) (by rw [hv]; rfl) (by decide) ?_
          refine lv_aload_n hx hb dX9_head_108 rfl (lv_at hl 1 rfl) ?_
          refine z_get (ci := 9) (fs := [.ref (X 0 1), .ref (X 0 2), .ref (X 0 3), .ref (X 0 4), .ref (X 0 5), .ref (X 0 7), .ref (X 0 9), .int (nI (S.1 1 0)), .int (nI (S.1 10 0)), .int (nI (S.1 20 0)), .int (nI (S.1 0 0)), .long S.2.2]) (C := RX9) (T := TX9) (N := 12) hx hb hts in_X9 hown hK hZ (f00 hF51) rfl 5 (by decide) fl_43 (fun _ h9 => h9) rfl dX9_head_109 ?_
          refine z_call (va_runV (As := []) (rest := []) ⟨hx, hb, hml, hown, hts⟩ (c_X2_fairRent l D cT _ _ (X 0 7) (X 0 8) (nI (hcnt S j y.toNatClampNeg)) (h0 S j y.toNatClampNeg) (h1 S j y.toNatClampNeg) (h2 S j y.toNatClampNeg) (f07 hF51)) (cwV 0 hts gX9_head_X2_fairRent rfl rfl rfl (by decide +kernel) ⟨(Nat.le_of_ble_eq_true rfl), (Nat.le_of_ble_eq_true rfl)⟩) (z_preV hK hE hZ hA (ci := 2) rfl (f07 hF51)) rfl rfl hl.1 rfl (lv_room (Nat.le_of_ble_eq_true rfl)) dX9_head_112 ⟨(Nat.le_of_ble_eq_true rfl), (Nat.le_of_ble_eq_true rfl)⟩) hZ hA (fun r G112 H locs hq hZ => ?_)
          obtain ⟨hg, rfl⟩ := hq
          replace hg := hg.symm
          subst hg
          refine W.eq (g2 := F0 m 115 ls [.int (if 1 < (h0 S j y.toNatClampNeg) + (h1 S j y.toNatClampNeg) + (h2 S j y.toNatClampNeg) then (h0 S j y.toNatClampNeg) + (h1 S j y.toNatClampNeg) + (h2 S j y.toNatClampNeg) else 1)]) rfl ?_
          exact z_iret hx hb hr hlocks hZ dX9_head_115 (fQ_of (by rw [sp_head, hh]; simp only []; rw [if_pos ⟨c20, c29⟩, hw]; rfl) rfl ⟨_, _, _, _, _, _, hF51⟩)
        · have hv : z = 4 := by rw [hwk, hw]; rfl
          refine lv_tableOut (tgt := 116) hx hb dX9_head_55 (by rw [hv]; decide) (by decide) ?_
          refine lv_aload_n hx hb dX9_head_116 rfl (lv_at hl 1 rfl) ?_
          refine z_get (ci := 9) (fs := [.ref (X 0 1), .ref (X 0 2), .ref (X 0 3), .ref (X 0 4), .ref (X 0 5), .ref (X 0 7), .ref (X 0 9), .int (nI (S.1 1 0)), .int (nI (S.1 10 0)), .int (nI (S.1 20 0)), .int (nI (S.1 0 0)), .long S.2.2]) (C := RX9) (T := TX9) (N := 12) hx hb hts in_X9 hown hK hZ (f00 hF51) rfl 5 (by decide) fl_43 (fun _ h9 => h9) rfl dX9_head_117 ?_
          refine z_get (ci := 2) (fs := [.ref (X 0 8), .int (nI (hcnt S j y.toNatClampNeg)), .int (h0 S j y.toNatClampNeg), .int (h1 S j y.toNatClampNeg), .int (h2 S j y.toNatClampNeg)]) (C := RX2) (T := TX2) (N := 5) hx hb hts in_X2 hown hK hZ (f07 hF51) rfl 1 (by decide) fl_132 (fun _ h9 => h9) rfl dX9_head_120 ?_
          exact z_iret hx hb hr hlocks hZ dX9_head_123 (fQ_of (by rw [sp_head, hh]; simp only []; rw [if_pos ⟨c20, c29⟩, hw]; rfl) rfl ⟨_, _, _, _, _, _, hF51⟩)
      · refine lv_ldc (v := (-1000000000)) hx hb hown (hts (.constant RX9 115 (-1000000000)) (by decide +kernel)) dX9_head_32 ?_
        exact z_iret hx hb hr hlocks hZ dX9_head_34 (fQ_of (by rw [sp_head, hh]; simp only []; rw [if_neg (fun h => c29 h.2)]) rfl ⟨_, _, _, _, _, _, hF⟩)

set_option maxHeartbeats 4000000 in
set_option maxRecDepth 100000 in
theorem c_X9_homeAt (l : Launch) (D : va_G) (cT : Nat → ClassId) (G : zG) (sz : Nat) (S : zS) (X : Nat → Nat → Nat) (ct md sc rp : Int32) (fo fd : Nat → Int32) (nn : Nat) (x : Int32) (hF : FR cT S X ct md sc rp fo fd G) (hS : ok S nn)  : zM l D cT yX9_homeAt wsX9_homeAt (zR 1 0 0) [.ref (X 0 0), .int x] G sz (fun r G' => G' = G ∧ r = some (va_rf ((hix S x).map (X 1)))) := by
  refine z_start (cc := cX9_homeAt) (maxL := 2) (ret := (some (.object "FairRents$Home"))) (by decide) rfl (Nat.le_of_ble_eq_true rfl) ?_
  intro p e s m below meth c ls hI hZ hl
  obtain ⟨hx, hb, hr, hml, hts, hown, hlocks, hname, hK, hA, hE⟩ := hI
  have hl : lv_has ls 2 [(0, .ref (X 0 0)), (1, .int x)] := hl
  have hown : s.vm.findClass RX9 = some m.cls := hown
  have in_X9 : ∀ w ∈ u_ws RX9 TX9 12, w ∈ wsX9_homeAt := by decide +kernel
  have fl_11 := hts (.fieldLink RX9 11 "FairRents" "homes" "[LFairRents$Home;") (by decide +kernel)
  obtain ⟨⟨k1, k10, k20, k0⟩, kH, k9, k8, k15, k26, kL, kLn, kP, kE, kEm, kn⟩ := id hS
  refine lv_iload_n hx hb dX9_homeAt_0 rfl (lv_at hl 1 rfl) ?_
  refine lv_iconst (v := 0) hx hb dX9_homeAt_1 (by decide) ?_
  refine lv_aload_n hx hb dX9_homeAt_2 rfl (lv_at hl 0 rfl) ?_
  refine z_get (ci := 9) (fs := [.ref (X 0 1), .ref (X 0 2), .ref (X 0 3), .ref (X 0 4), .ref (X 0 5), .ref (X 0 7), .ref (X 0 9), .int (nI (S.1 1 0)), .int (nI (S.1 10 0)), .int (nI (S.1 20 0)), .int (nI (S.1 0 0)), .long S.2.2]) (C := RX9) (T := TX9) (N := 12) hx hb hts in_X9 hown hK hZ (f00 hF) rfl 0 (by decide) fl_11 (fun _ h9 => h9) rfl dX9_homeAt_3 ?_
  refine z_alen hx hb hK hZ 2 (f01 hF) rfl dX9_homeAt_6 ?_
  refine lv_iconst (v := 1) hx hb dX9_homeAt_7 (by decide) ?_
  refine lv_isub hx hb dX9_homeAt_8 ?_
  refine z_call (va_runS (As := [.int x, .int 0, .int ((nI 8) - 1)]) (rest := []) ⟨hx, hb, hml, hown, hts⟩ (c_X9_within l D cT _ _ x 0 ((nI 8) - 1)) (va_cwS 3 hts gX9_homeAt_X9_within rfl rfl rfl (by decide +kernel) ⟨(Nat.le_of_ble_eq_true rfl), (Nat.le_of_ble_eq_true rfl)⟩) (z_preS hK hE hZ hA) rfl rfl hl.1 rfl (lv_room (Nat.le_of_ble_eq_true rfl)) dX9_homeAt_9 ⟨(Nat.le_of_ble_eq_true rfl), (Nat.le_of_ble_eq_true rfl)⟩) hZ hA (fun r G9 H locs hq hZ => ?_)
  obtain ⟨hg, rfl⟩ := hq
  replace hg := hg.symm
  subst hg
  refine W.eq (g2 := F0 m 12 ls [.int (if 0 ≤ x ∧ x ≤ ((nI 8) - 1) then 1 else 0)]) rfl ?_
  refine zb_eq (tgt := 24) hx hb dX9_homeAt_12 (by decide) (fun c12 => ?_) (fun c12 => ?_)
  · refine lv_null hx hb dX9_homeAt_24 ?_
    exact z_aretN hx hb hr hlocks hZ dX9_homeAt_25 (⟨rfl, ha_0 k1 c12⟩)
  · refine lv_aload_n hx hb dX9_homeAt_15 rfl (lv_at hl 0 rfl) ?_
    refine z_get (ci := 9) (fs := [.ref (X 0 1), .ref (X 0 2), .ref (X 0 3), .ref (X 0 4), .ref (X 0 5), .ref (X 0 7), .ref (X 0 9), .int (nI (S.1 1 0)), .int (nI (S.1 10 0)), .int (nI (S.1 20 0)), .int (nI (S.1 0 0)), .long S.2.2]) (C := RX9) (T := TX9) (N := 12) hx hb hts in_X9 hown hK hZ (f00 hF) rfl 0 (by decide) fl_11 (fun _ h9 => h9) rfl dX9_homeAt_16 ?_
    refine lv_iload_n hx hb dX9_homeAt_19 rfl (lv_at hl 1 rfl) ?_
    refine z_aald hx hb hK hZ 2 (f01 hF) rfl x.toNatClampNeg ((z_self c12.1).symm) ((ix_lt c12 (by decide)).1) (by decide) dX9_homeAt_20 ?_
    refine lv_goto (tgt := 25) hx hb dX9_homeAt_21 (by decide) ?_
    exact z_aretQ hx hb hr hlocks hZ dX9_homeAt_25 (⟨rfl, ha_1 k1 c12⟩)

set_option maxHeartbeats 4000000 in
set_option maxRecDepth 100000 in
theorem c_X9_entryAt (l : Launch) (D : va_G) (cT : Nat → ClassId) (G : zG) (sz : Nat) (S : zS) (X : Nat → Nat → Nat) (ct md sc rp : Int32) (fo fd : Nat → Int32) (nn : Nat) (x : Int32) (hF : FR cT S X ct md sc rp fo fd G) (hS : ok S nn)  : zM l D cT yX9_entryAt wsX9_entryAt (zR 1 0 0) [.ref (X 0 0), .int x] G sz (fun r G' => G' = G ∧ r = some (va_rf ((eix S x).map (X 6)))) := by
  refine z_start (cc := cX9_entryAt) (maxL := 2) (ret := (some (.object "FairRents$Entry"))) (by decide) rfl (Nat.le_of_ble_eq_true rfl) ?_
  intro p e s m below meth c ls hI hZ hl
  obtain ⟨hx, hb, hr, hml, hts, hown, hlocks, hname, hK, hA, hE⟩ := hI
  have hl : lv_has ls 2 [(0, .ref (X 0 0)), (1, .int x)] := hl
  have hown : s.vm.findClass RX9 = some m.cls := hown
  have in_X9 : ∀ w ∈ u_ws RX9 TX9 12, w ∈ wsX9_entryAt := by decide +kernel
  have fl_23 := hts (.fieldLink RX9 23 "FairRents" "entries" "[LFairRents$Entry;") (by decide +kernel)
  obtain ⟨⟨k1, k10, k20, k0⟩, kH, k9, k8, k15, k26, kL, kLn, kP, kE, kEm, kn⟩ := id hS
  refine lv_iload_n hx hb dX9_entryAt_0 rfl (lv_at hl 1 rfl) ?_
  refine lv_iconst (v := 0) hx hb dX9_entryAt_1 (by decide) ?_
  refine lv_aload_n hx hb dX9_entryAt_2 rfl (lv_at hl 0 rfl) ?_
  refine z_get (ci := 9) (fs := [.ref (X 0 1), .ref (X 0 2), .ref (X 0 3), .ref (X 0 4), .ref (X 0 5), .ref (X 0 7), .ref (X 0 9), .int (nI (S.1 1 0)), .int (nI (S.1 10 0)), .int (nI (S.1 20 0)), .int (nI (S.1 0 0)), .long S.2.2]) (C := RX9) (T := TX9) (N := 12) hx hb hts in_X9 hown hK hZ (f00 hF) rfl 2 (by decide) fl_23 (fun _ h9 => h9) rfl dX9_entryAt_3 ?_
  refine z_alen hx hb hK hZ 4 (f03 hF) rfl dX9_entryAt_6 ?_
  refine lv_iconst (v := 1) hx hb dX9_entryAt_7 (by decide) ?_
  refine lv_isub hx hb dX9_entryAt_8 ?_
  refine z_call (va_runS (As := [.int x, .int 0, .int ((nI 20) - 1)]) (rest := []) ⟨hx, hb, hml, hown, hts⟩ (c_X9_within l D cT _ _ x 0 ((nI 20) - 1)) (va_cwS 3 hts gX9_entryAt_X9_within rfl rfl rfl (by decide +kernel) ⟨(Nat.le_of_ble_eq_true rfl), (Nat.le_of_ble_eq_true rfl)⟩) (z_preS hK hE hZ hA) rfl rfl hl.1 rfl (lv_room (Nat.le_of_ble_eq_true rfl)) dX9_entryAt_9 ⟨(Nat.le_of_ble_eq_true rfl), (Nat.le_of_ble_eq_true rfl)⟩) hZ hA (fun r G9 H locs hq hZ => ?_)
  obtain ⟨hg, rfl⟩ := hq
  replace hg := hg.symm
  subst hg
  refine W.eq (g2 := F0 m 12 ls [.int (if 0 ≤ x ∧ x ≤ ((nI 20) - 1) then 1 else 0)]) rfl ?_
  refine zb_eq (tgt := 24) hx hb dX9_entryAt_12 (by decide) (fun c12 => ?_) (fun c12 => ?_)
  · refine lv_null hx hb dX9_entryAt_24 ?_
    exact z_aretN hx hb hr hlocks hZ dX9_entryAt_25 (⟨rfl, ea_0 k20 c12⟩)
  · refine lv_aload_n hx hb dX9_entryAt_15 rfl (lv_at hl 0 rfl) ?_
    refine z_get (ci := 9) (fs := [.ref (X 0 1), .ref (X 0 2), .ref (X 0 3), .ref (X 0 4), .ref (X 0 5), .ref (X 0 7), .ref (X 0 9), .int (nI (S.1 1 0)), .int (nI (S.1 10 0)), .int (nI (S.1 20 0)), .int (nI (S.1 0 0)), .long S.2.2]) (C := RX9) (T := TX9) (N := 12) hx hb hts in_X9 hown hK hZ (f00 hF) rfl 2 (by decide) fl_23 (fun _ h9 => h9) rfl dX9_entryAt_16 ?_
    refine lv_iload_n hx hb dX9_entryAt_19 rfl (lv_at hl 1 rfl) ?_
    refine z_aald hx hb hK hZ 4 (f03 hF) rfl x.toNatClampNeg ((z_self c12.1).symm) ((ix_lt c12 (by decide)).1) (by decide) dX9_entryAt_20 ?_
    refine lv_goto (tgt := 25) hx hb dX9_entryAt_21 (by decide) ?_
    exact z_aretQ hx hb hr hlocks hZ dX9_entryAt_25 (⟨rfl, ea_1 k20 c12⟩)

set_option maxHeartbeats 4000000 in
set_option maxRecDepth 100000 in
theorem c_X9_lawOn (l : Launch) (D : va_G) (cT : Nat → ClassId) (G : zG) (sz : Nat) (S : zS) (X : Nat → Nat → Nat) (ct md sc rp : Int32) (fo fd : Nat → Int32) (nn : Nat) (x : Int32) (d : Nat) (hF : FR cT S X ct md sc rp fo fd G) (hS : ok S nn) (hd : d ≤ 400) (hxd : x = nI d) : zM l D cT yX9_lawOn wsX9_lawOn (zR 1 0 0) [.ref (X 0 0), .int x] G sz (fun r G' => G' = G ∧ r = some (.ref (lwA S X d))) := by
  refine z_start (cc := cX9_lawOn) (maxL := 4) (ret := (some (.object "FairRents$Law"))) (by decide) rfl (Nat.le_of_ble_eq_true rfl) ?_
  intro p e s m below meth c ls hI hZ hl
  obtain ⟨hx, hb, hr, hml, hts, hown, hlocks, hname, hK, hA, hE⟩ := hI
  have hl : lv_has ls 4 [(0, .ref (X 0 0)), (1, .int x)] := hl
  have hown : s.vm.findClass RX9 = some m.cls := hown
  have in_X9 : ∀ w ∈ u_ws RX9 TX9 12, w ∈ wsX9_lawOn := by decide +kernel
  have fl_29 := hts (.fieldLink RX9 29 "FairRents" "laws" "[LFairRents$Law;") (by decide +kernel)
  have fl_36 := hts (.fieldLink RX9 36 "FairRents" "firstLaw" "LFairRents$Law;") (by decide +kernel)
  obtain ⟨⟨k1, k10, k20, k0⟩, kH, k9, k8, k15, k26, kL, kLn, kP, kE, kEm, kn⟩ := id hS
  refine lv_iload_n hx hb dX9_lawOn_0 rfl (lv_at hl 1 rfl) ?_
  refine lv_bipush (v := 10) hx hb dX9_lawOn_1 (by decide) ?_
  refine lv_idiv hx hb dX9_lawOn_3 (by decide) ?_
  refine lv_aload_n hx hb dX9_lawOn_4 rfl (lv_at hl 0 rfl) ?_
  refine z_get (ci := 9) (fs := [.ref (X 0 1), .ref (X 0 2), .ref (X 0 3), .ref (X 0 4), .ref (X 0 5), .ref (X 0 7), .ref (X 0 9), .int (nI (S.1 1 0)), .int (nI (S.1 10 0)), .int (nI (S.1 20 0)), .int (nI (S.1 0 0)), .long S.2.2]) (C := RX9) (T := TX9) (N := 12) hx hb hts in_X9 hown hK hZ (f00 hF) rfl 3 (by decide) fl_29 (fun _ h9 => h9) rfl dX9_lawOn_5 ?_
  refine z_alen hx hb hK hZ 5 (f04 hF) rfl dX9_lawOn_8 ?_
  refine lv_iconst (v := 1) hx hb dX9_lawOn_9 (by decide) ?_
  refine lv_isub hx hb dX9_lawOn_10 ?_
  refine va_mmin hx hb (by rw [hml]; exact hl.1.symm) hown (hts (.methodLink RX9 232 Lib.Math.min.name) (by decide +kernel)) (hts (.static Lib.Math.min.name) (by decide +kernel)) (hts (.initialized "java/lang/Math") (by decide +kernel)) (hts _ (List.mem_of_getElem? (i := 5) rfl)) (Nat.le_of_ble_eq_true rfl) (Nat.le_of_ble_eq_true rfl) (Nat.le_of_ble_eq_true rfl) (Nat.le_of_ble_eq_true rfl) dX9_lawOn_11 ?_
  refine W.eq (congrArg (fun v => F0 m 14 ls (.int v :: [])) (show _ = nI (min (d / 10) 30 + 1) - 1 from yr_min hd hxd)) ?_
  refine W.eq (g2 := F0 m 14 ls [.int (nI (min (d / 10) 30 + 1) - 1)]) rfl ?_
  refine lv_istore_n (lv' := [(2, .int (nI (min (d / 10) 30 + 1) - 1)), (0, .ref (X 0 0)), (1, .int x)]) hx hb dX9_lawOn_14 rfl hl (by decide) rfl (fun ls hl => ?_)
  refine lv_iload_n hx hb dX9_lawOn_15 rfl (lv_at hl 0 rfl) ?_
  refine lv_istore_n (lv' := [(3, .int (nI (min (d / 10) 30 + 1) - 1)), (2, .int (nI (min (d / 10) 30 + 1) - 1)), (0, .ref (X 0 0)), (1, .int x)]) hx hb dX9_lawOn_16 rfl hl (by decide) rfl (fun ls hl => ?_)
  have loop17 : ∀ (k : Nat) (hk : k ≤ 31) (he : yrS S k = yx S d) (H : Heap) (locs : List Loc) (ls : Array Slot), zW D (zA G sz) s.heap G H locs → lv_has ls 4 [(3, .int (nI k - 1)), (2, .int (nI (min (d / 10) 30 + 1) - 1)), (0, .ref (X 0 0)), (1, .int x)] → W p l e (zR 1 0 0) s m ([.ref (X 0 0), .int x] : List Value).toArray below meth c H locs 0 0 (MQ below (zQ D G sz (fun r G' => G' = G ∧ r = some (.ref (lwA S X d)))) ([.ref (X 0 0), .int x] : List Value).toArray s 0 0 (zA G sz)) (F0 m 17 ls []) := by
    intro k
    induction k with
    | zero =>
      intro hk he H locs ls hZ hl
      refine lv_iload_n hx hb dX9_lawOn_17 rfl (lv_at hl 0 rfl) ?_
      refine lv_if_lt (tgt := 43) hx hb dX9_lawOn_18 (by decide) (fun _ => ?_) (fun c18 => absurd (show nI 0 - 1 < 0 by decide) c18)
      refine lv_aload_n hx hb dX9_lawOn_43 rfl (lv_at hl 2 rfl) ?_
      refine z_get (ci := 9) (fs := [.ref (X 0 1), .ref (X 0 2), .ref (X 0 3), .ref (X 0 4), .ref (X 0 5), .ref (X 0 7), .ref (X 0 9), .int (nI (S.1 1 0)), .int (nI (S.1 10 0)), .int (nI (S.1 20 0)), .int (nI (S.1 0 0)), .long S.2.2]) (C := RX9) (T := TX9) (N := 12) hx hb hts in_X9 hown hK hZ (f00 hF) rfl 4 (by decide) fl_36 (fun _ h9 => h9) rfl dX9_lawOn_44 ?_
      exact z_aret hx hb hr hlocks hZ dX9_lawOn_47 (⟨rfl, lo_n he.symm⟩)
    | succ k ih17 =>
      intro hk he H locs ls hZ hl
      rw [nI_pred] at hl
      refine lv_iload_n hx hb dX9_lawOn_17 rfl (lv_at hl 0 rfl) ?_
      refine lv_if_lt (tgt := 43) hx hb dX9_lawOn_18 (by decide) (fun c18 => absurd c18 (nI_pos (by omega))) (fun _ => ?_)
      refine lv_aload_n hx hb dX9_lawOn_21 rfl (lv_at hl 2 rfl) ?_
      refine z_get (ci := 9) (fs := [.ref (X 0 1), .ref (X 0 2), .ref (X 0 3), .ref (X 0 4), .ref (X 0 5), .ref (X 0 7), .ref (X 0 9), .int (nI (S.1 1 0)), .int (nI (S.1 10 0)), .int (nI (S.1 20 0)), .int (nI (S.1 0 0)), .long S.2.2]) (C := RX9) (T := TX9) (N := 12) hx hb hts in_X9 hown hK hZ (f00 hF) rfl 3 (by decide) fl_29 (fun _ h9 => h9) rfl dX9_lawOn_22 ?_
      refine lv_iload_n hx hb dX9_lawOn_25 rfl (lv_at hl 0 rfl) ?_
      refine z_aald hx hb hK hZ 5 (f04 hF) rfl k rfl (by omega) (by decide) dX9_lawOn_26 ?_
      by_cases h9 : S.1 9 k = 1
      · refine W.eq (congrArg (fun v => F0 m 27 ls (v :: [])) (show _ = Value.ref (X 7 k) from fLa_y h9)) ?_
        refine W.eq (g2 := F0 m 27 ls [.ref (X 7 k)]) rfl ?_
        refine lv_ifnull hx hb dX9_lawOn_27 ?_
        refine lv_aload_n hx hb dX9_lawOn_30 rfl (lv_at hl 2 rfl) ?_
        refine z_get (ci := 9) (fs := [.ref (X 0 1), .ref (X 0 2), .ref (X 0 3), .ref (X 0 4), .ref (X 0 5), .ref (X 0 7), .ref (X 0 9), .int (nI (S.1 1 0)), .int (nI (S.1 10 0)), .int (nI (S.1 20 0)), .int (nI (S.1 0 0)), .long S.2.2]) (C := RX9) (T := TX9) (N := 12) hx hb hts in_X9 hown hK hZ (f00 hF) rfl 3 (by decide) fl_29 (fun _ h9 => h9) rfl dX9_lawOn_31 ?_
        refine lv_iload_n hx hb dX9_lawOn_34 rfl (lv_at hl 0 rfl) ?_
        refine z_aald hx hb hK hZ 5 (f04 hF) rfl k rfl (by omega) (by decide) dX9_lawOn_35 ?_
        exact z_aretQ hx hb hr hlocks hZ dX9_lawOn_36 (⟨rfl, lo_y h9 (by rw [← he, yrS, if_pos h9]) (by omega)⟩)
      · refine W.eq (congrArg (fun v => F0 m 27 ls (v :: [])) (show _ = Value.null from fLa_n h9)) ?_
        refine W.eq (g2 := F0 m 27 ls [.null]) rfl ?_
        refine lv_ifnullN (tgt := 37) hx hb dX9_lawOn_27 (by decide) ?_
        refine lv_iinc (v := nI k - 1) (lv' := [(3, .int (nI k - 1)), (2, .int (nI (min (d / 10) 30 + 1) - 1)), (0, .ref (X 0 0)), (1, .int x)]) hx hb dX9_lawOn_37 hl (k := 0) rfl (nI_m1 k) (by decide) rfl (fun ls hl => ?_)
        refine lv_goto (tgt := 17) hx hb dX9_lawOn_40 (by decide) ?_
        exact ih17 (by omega) (by rw [← he, yrS, if_neg h9]) _ _ _ hZ (lv_sub hl [0, 1, 2, 3] rfl)
  exact loop17 (min (d / 10) 30 + 1) (by omega) rfl _ _ _ hZ (lv_sub hl [0, 1, 2, 3] rfl)

set_option maxHeartbeats 4000000 in
set_option maxRecDepth 100000 in
theorem c_X9_latestStanding (l : Launch) (D : va_G) (cT : Nat → ClassId) (G : zG) (sz : Nat) (S : zS) (X : Nat → Nat → Nat) (ct md sc rp : Int32) (fo fd : Nat → Int32) (nn : Nat) (x : Int32) (j : Nat) (hF : FR cT S X ct md sc rp fo fd G) (hS : ok S nn) (hj : j < S.1 1 0) (hxj : x = nI j) : zM l D cT yX9_latestStanding wsX9_latestStanding (zR 0 0 0) [.ref (X 0 0), .int x] G sz (fun r G' => G' = G ∧ r = some (.int (lav (lat S j)))) := by
  refine z_start (cc := cX9_latestStanding) (maxL := 4) (ret := (some .int)) (by decide) rfl (Nat.le_of_ble_eq_true rfl) ?_
  intro p e s m below meth c ls hI hZ hl
  obtain ⟨hx, hb, hr, hml, hts, hown, hlocks, hname, hK, hA, hE⟩ := hI
  have hl : lv_has ls 4 [(0, .ref (X 0 0)), (1, .int x)] := hl
  have hown : s.vm.findClass RX9 = some m.cls := hown
  have in_X0 : ∀ w ∈ u_ws RX0 TX0 9, w ∈ wsX9_latestStanding := by decide +kernel
  have in_X9 : ∀ w ∈ u_ws RX9 TX9 12, w ∈ wsX9_latestStanding := by decide +kernel
  have fl_23 := hts (.fieldLink RX9 23 "FairRents" "entries" "[LFairRents$Entry;") (by decide +kernel)
  have fl_176 := hts (.fieldLink RX9 176 "FairRents$Entry" "stands" "Z") (by decide +kernel)
  have fl_179 := hts (.fieldLink RX9 179 "FairRents$Entry" "home" "I") (by decide +kernel)
  obtain ⟨⟨k1, k10, k20, k0⟩, kH, k9, k8, k15, k26, kL, kLn, kP, kE, kEm, kn⟩ := id hS
  refine lv_aload_n hx hb dX9_latestStanding_0 rfl (lv_at hl 0 rfl) ?_
  refine z_get (ci := 9) (fs := [.ref (X 0 1), .ref (X 0 2), .ref (X 0 3), .ref (X 0 4), .ref (X 0 5), .ref (X 0 7), .ref (X 0 9), .int (nI (S.1 1 0)), .int (nI (S.1 10 0)), .int (nI (S.1 20 0)), .int (nI (S.1 0 0)), .long S.2.2]) (C := RX9) (T := TX9) (N := 12) hx hb hts in_X9 hown hK hZ (f00 hF) rfl 2 (by decide) fl_23 (fun _ h9 => h9) rfl dX9_latestStanding_1 ?_
  refine z_alen hx hb hK hZ 4 (f03 hF) rfl dX9_latestStanding_4 ?_
  refine lv_iconst (v := 1) hx hb dX9_latestStanding_5 (by decide) ?_
  refine lv_isub hx hb dX9_latestStanding_6 ?_
  refine lv_istore_n (lv' := [(2, .int ((nI 20) - 1)), (0, .ref (X 0 0)), (1, .int x)]) hx hb dX9_latestStanding_7 rfl hl (by decide) rfl (fun ls hl => ?_)
  have loop8 : ∀ (k : Nat) (hk : k ≤ 20) (he : latS S j (min k (S.1 20 0)) = lat S j) (H : Heap) (locs : List Loc) (ls : Array Slot), zW D (zA G sz) s.heap G H locs → lv_has ls 4 [(2, .int (nI k - 1)), (0, .ref (X 0 0)), (1, .int x)] → W p l e (zR 0 0 0) s m ([.ref (X 0 0), .int x] : List Value).toArray below meth c H locs 0 0 (MQ below (zQ D G sz (fun r G' => G' = G ∧ r = some (.int (lav (lat S j))))) ([.ref (X 0 0), .int x] : List Value).toArray s 0 0 (zA G sz)) (F0 m 8 ls []) := by
    intro k
    induction k with
    | zero =>
      intro hk he H locs ls hZ hl
      refine lv_iload_n hx hb dX9_latestStanding_8 rfl (lv_at hl 0 rfl) ?_
      refine lv_if_lt (tgt := 46) hx hb dX9_latestStanding_9 (by decide) (fun _ => ?_) (fun c9 => absurd (show nI 0 - 1 < 0 by decide) c9)
      refine lv_bipush (v := (-9)) hx hb dX9_latestStanding_46 (by decide) ?_
      exact z_iret hx hb hr hlocks hZ dX9_latestStanding_48 (⟨rfl, by rw [← he, Nat.zero_min]; rfl⟩)
    | succ k ih8 =>
      intro hk he H locs ls hZ hl
      rw [nI_pred] at hl
      refine lv_iload_n hx hb dX9_latestStanding_8 rfl (lv_at hl 0 rfl) ?_
      refine lv_if_lt (tgt := 46) hx hb dX9_latestStanding_9 (by decide) (fun c9 => absurd c9 (nI_pos (by omega))) (fun _ => ?_)
      refine lv_aload_n hx hb dX9_latestStanding_12 rfl (lv_at hl 1 rfl) ?_
      refine z_get (ci := 9) (fs := [.ref (X 0 1), .ref (X 0 2), .ref (X 0 3), .ref (X 0 4), .ref (X 0 5), .ref (X 0 7), .ref (X 0 9), .int (nI (S.1 1 0)), .int (nI (S.1 10 0)), .int (nI (S.1 20 0)), .int (nI (S.1 0 0)), .long S.2.2]) (C := RX9) (T := TX9) (N := 12) hx hb hts in_X9 hown hK hZ (f00 hF) rfl 2 (by decide) fl_23 (fun _ h9 => h9) rfl dX9_latestStanding_13 ?_
      refine lv_iload_n hx hb dX9_latestStanding_16 rfl (lv_at hl 0 rfl) ?_
      refine z_aald hx hb hK hZ 4 (f03 hF) rfl k rfl (by omega) (by decide) dX9_latestStanding_17 ?_
      by_cases hk2 : k < S.1 20 0
      · refine W.eq (congrArg (fun v => F0 m 18 ls (v :: [])) (show _ = Value.ref (X 6 k) from fEn_y hk2)) ?_
        refine W.eq (g2 := F0 m 18 ls [.ref (X 6 k)]) rfl ?_
        refine lv_astore_n (lv' := [(3, .ref (X 6 k)), (2, .int (nI k)), (0, .ref (X 0 0)), (1, .int x)]) hx hb dX9_latestStanding_18 rfl hl (by decide) rfl (fun ls hl => ?_)
        refine lv_aload_n hx hb dX9_latestStanding_19 rfl (lv_at hl 0 rfl) ?_
        refine lv_ifnull hx hb dX9_latestStanding_20 ?_
        refine lv_aload_n hx hb dX9_latestStanding_23 rfl (lv_at hl 0 rfl) ?_
        refine z_get (ci := 0) (fs := [.int (nI (S.1 21 k)), .int (nI (S.1 25 k)), .int (nI (S.1 22 k)), .ref (lwA S X (S.1 22 k)), .int (S.2.1 23 k), .int (S.2.1 24 (3 * k)), .int (S.2.1 24 (3 * k + 1)), .int (S.2.1 24 (3 * k + 2)), .int (if S.1 26 k = 0 then 1 else 0)]) (C := RX0) (T := TX0) (N := 9) hx hb hts in_X0 hown hK hZ (f6 hF hk2) rfl 8 (by decide) fl_176 (fun _ h9 => h9) rfl dX9_latestStanding_24 ?_
        refine zb_eq (tgt := 40) hx hb dX9_latestStanding_27 (by decide) (fun c27 => ?_) (fun c27 => ?_)
        · refine lv_iinc (v := nI k - 1) (lv' := [(2, .int (nI k - 1)), (3, .ref (X 6 k)), (0, .ref (X 0 0)), (1, .int x)]) hx hb dX9_latestStanding_40 hl (k := 1) rfl (nI_m1 k) (by decide) rfl (fun ls hl => ?_)
          refine lv_goto (tgt := 8) hx hb dX9_latestStanding_43 (by decide) ?_
          exact ih8 (by omega) (by rw [← he, show min (k + 1) (S.1 20 0) = k + 1 by omega, show min k (S.1 20 0) = k by omega, latS, if_neg (fun h => c27 h.2)]) _ _ _ hZ (lv_sub hl [0, 2, 3] rfl)
        · refine lv_aload_n hx hb dX9_latestStanding_30 rfl (lv_at hl 0 rfl) ?_
          refine z_get (ci := 0) (fs := [.int (nI (S.1 21 k)), .int (nI (S.1 25 k)), .int (nI (S.1 22 k)), .ref (lwA S X (S.1 22 k)), .int (S.2.1 23 k), .int (S.2.1 24 (3 * k)), .int (S.2.1 24 (3 * k + 1)), .int (S.2.1 24 (3 * k + 2)), .int (if S.1 26 k = 0 then 1 else 0)]) (C := RX0) (T := TX0) (N := 9) hx hb hts in_X0 hown hK hZ (f6 hF hk2) rfl 0 (by decide) fl_179 (fun _ h9 => h9) rfl dX9_latestStanding_31 ?_
          refine lv_iload_n hx hb dX9_latestStanding_34 rfl (lv_at hl 3 rfl) ?_
          refine lv_icmp_ne (tgt := 40) hx hb dX9_latestStanding_35 (by decide) (fun c35 => ?_) (fun c35 => ?_)
          · refine lv_iinc (v := nI k - 1) (lv' := [(2, .int (nI k - 1)), (3, .ref (X 6 k)), (0, .ref (X 0 0)), (1, .int x)]) hx hb dX9_latestStanding_40 hl (k := 1) rfl (nI_m1 k) (by decide) rfl (fun ls hl => ?_)
            refine lv_goto (tgt := 8) hx hb dX9_latestStanding_43 (by decide) ?_
            exact ih8 (by omega) (by rw [← he, show min (k + 1) (S.1 20 0) = k + 1 by omega, show min k (S.1 20 0) = k by omega, latS, if_neg (fun h => c35 (by rw [hxj]; show nI _ = _; rw [h.1]))]) _ _ _ hZ (lv_sub hl [0, 2, 3] rfl)
          · refine lv_iload_n hx hb dX9_latestStanding_38 rfl (lv_at hl 1 rfl) ?_
            exact z_iret hx hb hr hlocks hZ dX9_latestStanding_39 (⟨rfl, by rw [← he, show min (k + 1) (S.1 20 0) = k + 1 by omega, latS, if_pos ⟨nI_inj (by have := (kE k hk2).1; omega) (by omega) (c35.trans hxj), c27⟩]; rfl⟩)
      · refine W.eq (congrArg (fun v => F0 m 18 ls (v :: [])) (show _ = Value.null from fEn_n hk2)) ?_
        refine W.eq (g2 := F0 m 18 ls [.null]) rfl ?_
        refine lv_astore_nN (lv' := [(3, .null), (2, .int (nI k)), (0, .ref (X 0 0)), (1, .int x)]) hx hb dX9_latestStanding_18 rfl hl (by decide) rfl (fun ls hl => ?_)
        refine lv_aload_nN hx hb dX9_latestStanding_19 rfl (lv_at hl 0 rfl) ?_
        refine lv_ifnullN (tgt := 40) hx hb dX9_latestStanding_20 (by decide) ?_
        refine lv_iinc (v := nI k - 1) (lv' := [(2, .int (nI k - 1)), (3, .null), (0, .ref (X 0 0)), (1, .int x)]) hx hb dX9_latestStanding_40 hl (k := 1) rfl (nI_m1 k) (by decide) rfl (fun ls hl => ?_)
        refine lv_goto (tgt := 8) hx hb dX9_latestStanding_43 (by decide) ?_
        exact ih8 (by omega) (by rw [← he, show min (k + 1) (S.1 20 0) = min k (S.1 20 0) by omega]) _ _ _ hZ (lv_sub hl [0, 2, 3] rfl)
  exact loop8 20 (by omega) (by rw [Nat.min_eq_right k20]; rfl) _ _ _ hZ (lv_sub hl [0, 1, 2] rfl)

set_option maxHeartbeats 4000000 in
set_option maxRecDepth 100000 in
theorem c_X9_barEnd (l : Launch) (D : va_G) (cT : Nat → ClassId) (G : zG) (sz : Nat) (S : zS) (X : Nat → Nat → Nat) (ct md sc rp : Int32) (fo fd : Nat → Int32) (nn : Nat) (x : Int32) (j : Nat) (hF : FR cT S X ct md sc rp fo fd G) (hS : ok S nn) (hj : j < S.1 1 0) (hxj : x = nI j) : zM l D cT yX9_barEnd wsX9_barEnd (zR 2 0 0) [.ref (X 0 0), .int x] G sz (fun r G' => G' = G ∧ r = some (.int (bar S j))) := by
  refine z_start (cc := cX9_barEnd) (maxL := 3) (ret := (some .int)) (by decide) rfl (Nat.le_of_ble_eq_true rfl) ?_
  intro p e s m below meth c ls hI hZ hl
  obtain ⟨hx, hb, hr, hml, hts, hown, hlocks, hname, hK, hA, hE⟩ := hI
  have hl : lv_has ls 3 [(0, .ref (X 0 0)), (1, .int x)] := hl
  have hown : s.vm.findClass RX9 = some m.cls := hown
  have in_X0 : ∀ w ∈ u_ws RX0 TX0 9, w ∈ wsX9_barEnd := by decide +kernel
  have fl_173 := hts (.fieldLink RX9 173 "FairRents$Entry" "day" "I") (by decide +kernel)
  have fl_235 := hts (.fieldLink RX9 235 "FairRents$Entry" "law" "LFairRents$Law;") (by decide +kernel)
  obtain ⟨⟨k1, k10, k20, k0⟩, kH, k9, k8, k15, k26, kL, kLn, kP, kE, kEm, kn⟩ := id hS
  refine lv_aload_n hx hb dX9_barEnd_0 rfl (lv_at hl 0 rfl) ?_
  refine lv_aload_n hx hb dX9_barEnd_1 rfl (lv_at hl 0 rfl) ?_
  refine lv_iload_n hx hb dX9_barEnd_2 rfl (lv_at hl 1 rfl) ?_
  refine z_call (va_runV (As := [.int x]) (rest := [.ref (X 0 0)]) ⟨hx, hb, hml, hown, hts⟩ (c_X9_latestStanding l D cT _ _ S X _ _ _ _ _ _ nn x j hF hS hj hxj) (cwV 1 hts gX9_barEnd_X9_latestStanding rfl rfl rfl (by decide +kernel) ⟨(Nat.le_of_ble_eq_true rfl), (Nat.le_of_ble_eq_true rfl)⟩) (z_preV hK hE hZ hA (ci := 9) rfl (f00 hF)) rfl rfl hl.1 rfl (lv_room (Nat.le_of_ble_eq_true rfl)) dX9_barEnd_3 ⟨(Nat.le_of_ble_eq_true rfl), (Nat.le_of_ble_eq_true rfl)⟩) hZ hA (fun r G3 H locs hq hZ => ?_)
  obtain ⟨hg, rfl⟩ := hq
  replace hg := hg.symm
  subst hg
  refine W.eq (g2 := F0 m 6 ls [.int (lav (lat S j)), .ref (X 0 0)]) rfl ?_
  rcases hlat : lat S j with _ | e2
  · refine W.eq (g2 := F0 m 6 ls [.int (-9), .ref (X 0 0)]) rfl ?_
    refine z_call (va_runV (As := [.int (-9)]) (rest := []) ⟨hx, hb, hml, hown, hts⟩ (c_X9_entryAt l D cT _ _ S X _ _ _ _ _ _ nn (-9) hF hS ) (cwV 1 hts gX9_barEnd_X9_entryAt rfl rfl rfl (by decide +kernel) ⟨(Nat.le_of_ble_eq_true rfl), (Nat.le_of_ble_eq_true rfl)⟩) (z_preV hK hE hZ hA (ci := 9) rfl (f00 hF)) rfl rfl hl.1 rfl (lv_room (Nat.le_of_ble_eq_true rfl)) dX9_barEnd_6 ⟨(Nat.le_of_ble_eq_true rfl), (Nat.le_of_ble_eq_true rfl)⟩) hZ hA (fun r G6 H locs hq hZ => ?_)
    obtain ⟨hg, rfl⟩ := hq
    replace hg := hg.symm
    subst hg
    refine W.eq (g2 := F0 m 9 ls [va_rf ((eix S (-9)).map (X 6))]) rfl ?_
    refine W.eq (congrArg (fun v => F0 m 9 ls (v :: [])) (show _ = Value.null from eix_m9 S X)) ?_
    refine W.eq (g2 := F0 m 9 ls [.null]) rfl ?_
    refine lv_astore_nN (lv' := [(2, .null), (0, .ref (X 0 0)), (1, .int x)]) hx hb dX9_barEnd_9 rfl hl (by decide) rfl (fun ls hl => ?_)
    refine lv_aload_nN hx hb dX9_barEnd_10 rfl (lv_at hl 0 rfl) ?_
    refine lv_ifnonnullN hx hb dX9_barEnd_11 ?_
    refine lv_iconst (v := 0) hx hb dX9_barEnd_14 (by decide) ?_
    refine lv_goto (tgt := 32) hx hb dX9_barEnd_15 (by decide) ?_
    refine W.eq (congrArg (fun v => F0 m 32 ls (.int v :: [])) (show _ = bar S j from bar_n hlat)) ?_
    refine W.eq (g2 := F0 m 32 ls [.int (bar S j)]) rfl ?_
    exact z_iret hx hb hr hlocks hZ dX9_barEnd_32 (⟨rfl, rfl⟩)
  · refine W.eq (g2 := F0 m 6 ls [.int (nI e2), .ref (X 0 0)]) rfl ?_
    obtain ⟨e1, e21, e26⟩ := lat_some hlat
    obtain ⟨w1, w2, w3, w4⟩ := kE e2 e1
    refine z_call (va_runV (As := [.int (nI e2)]) (rest := []) ⟨hx, hb, hml, hown, hts⟩ (c_X9_entryAt l D cT _ _ S X _ _ _ _ _ _ nn (nI e2) hF hS ) (cwV 1 hts gX9_barEnd_X9_entryAt rfl rfl rfl (by decide +kernel) ⟨(Nat.le_of_ble_eq_true rfl), (Nat.le_of_ble_eq_true rfl)⟩) (z_preV hK hE hZ hA (ci := 9) rfl (f00 hF)) rfl rfl hl.1 rfl (lv_room (Nat.le_of_ble_eq_true rfl)) dX9_barEnd_6 ⟨(Nat.le_of_ble_eq_true rfl), (Nat.le_of_ble_eq_true rfl)⟩) hZ hA (fun r G6 H locs hq hZ => ?_)
    obtain ⟨hg, rfl⟩ := hq
    replace hg := hg.symm
    subst hg
    refine W.eq (g2 := F0 m 9 ls [va_rf ((eix S (nI e2)).map (X 6))]) rfl ?_
    refine W.eq (congrArg (fun v => F0 m 9 ls (v :: [])) (show _ = Value.ref (X 6 e2) from eix_e e1 k20)) ?_
    refine W.eq (g2 := F0 m 9 ls [.ref (X 6 e2)]) rfl ?_
    refine lv_astore_n (lv' := [(2, .ref (X 6 e2)), (0, .ref (X 0 0)), (1, .int x)]) hx hb dX9_barEnd_9 rfl hl (by decide) rfl (fun ls hl => ?_)
    refine lv_aload_n hx hb dX9_barEnd_10 rfl (lv_at hl 0 rfl) ?_
    refine lv_ifnonnull (tgt := 18) hx hb dX9_barEnd_11 (by decide) ?_
    refine lv_aload_n hx hb dX9_barEnd_18 rfl (lv_at hl 0 rfl) ?_
    refine z_get (ci := 0) (fs := [.int (nI (S.1 21 e2)), .int (nI (S.1 25 e2)), .int (nI (S.1 22 e2)), .ref (lwA S X (S.1 22 e2)), .int (S.2.1 23 e2), .int (S.2.1 24 (3 * e2)), .int (S.2.1 24 (3 * e2 + 1)), .int (S.2.1 24 (3 * e2 + 2)), .int (if S.1 26 e2 = 0 then 1 else 0)]) (C := RX0) (T := TX0) (N := 9) hx hb hts in_X0 hown hK hZ (f6 hF e1) rfl 2 (by decide) fl_173 (fun _ h9 => h9) rfl dX9_barEnd_19 ?_
    refine lv_aload_n hx hb dX9_barEnd_22 rfl (lv_at hl 0 rfl) ?_
    refine z_get (ci := 0) (fs := [.int (nI (S.1 21 e2)), .int (nI (S.1 25 e2)), .int (nI (S.1 22 e2)), .ref (lwA S X (S.1 22 e2)), .int (S.2.1 23 e2), .int (S.2.1 24 (3 * e2)), .int (S.2.1 24 (3 * e2 + 1)), .int (S.2.1 24 (3 * e2 + 2)), .int (if S.1 26 e2 = 0 then 1 else 0)]) (C := RX0) (T := TX0) (N := 9) hx hb hts in_X0 hown hK hZ (f6 hF e1) rfl 3 (by decide) fl_235 (fun _ h9 => h9) rfl dX9_barEnd_23 ?_
    refine lv_bipush (v := 6) hx hb dX9_barEnd_26 (by decide) ?_
    refine z_call (va_runV (As := [.int 6]) (rest := [.int (nI (S.1 22 e2))]) ⟨hx, hb, hml, hown, hts⟩ (c_X4_number l D cT _ _ (lwA S X (S.1 22 e2)) (lwB S X (S.1 22 e2)) (lwC S (S.1 22 e2)) 6 6 (fla hF (S.1 22 e2)) (flb hF (S.1 22 e2)) rfl (by decide)) (cwV 1 hts gX9_barEnd_X4_number rfl rfl rfl (by decide +kernel) ⟨(Nat.le_of_ble_eq_true rfl), (Nat.le_of_ble_eq_true rfl)⟩) (z_preV hK hE hZ hA (ci := 4) rfl (fla hF (S.1 22 e2))) rfl rfl hl.1 rfl (lv_room (Nat.le_of_ble_eq_true rfl)) dX9_barEnd_28 ⟨(Nat.le_of_ble_eq_true rfl), (Nat.le_of_ble_eq_true rfl)⟩) hZ hA (fun r G28 H locs hq hZ => ?_)
    obtain ⟨hg, rfl⟩ := hq
    replace hg := hg.symm
    subst hg
    refine W.eq (g2 := F0 m 31 ls [.int ((lwC S (S.1 22 e2)) 6), .int (nI (S.1 22 e2))]) rfl ?_
    refine lv_iadd hx hb dX9_barEnd_31 ?_
    refine W.eq (congrArg (fun v => F0 m 32 ls (.int v :: [])) (show _ = bar S j from bar_c hS hlat)) ?_
    refine W.eq (g2 := F0 m 32 ls [.int (bar S j)]) rfl ?_
    exact z_iret hx hb hr hlocks hZ dX9_barEnd_32 (⟨rfl, rfl⟩)

set_option maxHeartbeats 4000000 in
set_option maxRecDepth 100000 in
theorem c_X9_homesLet (l : Launch) (D : va_G) (cT : Nat → ClassId) (G : zG) (sz : Nat) (S : zS) (X : Nat → Nat → Nat) (ct md sc rp : Int32) (fo fd : Nat → Int32) (nn : Nat)  (hF : FR cT S X ct md sc rp fo fd G) (hS : ok S nn)  : zM l D cT yX9_homesLet wsX9_homesLet (zR 1 0 0) [.ref (X 0 0)] G sz (fun r G' => G' = G ∧ r = some (.int (nI (ctL S (S.1 1 0))))) := by
  refine z_start (cc := cX9_homesLet) (maxL := 6) (ret := (some .int)) (by decide) rfl (Nat.le_of_ble_eq_true rfl) ?_
  intro p e s m below meth c ls hI hZ hl
  obtain ⟨hx, hb, hr, hml, hts, hown, hlocks, hname, hK, hA, hE⟩ := hI
  have hl : lv_has ls 6 [(0, .ref (X 0 0))] := hl
  have hown : s.vm.findClass RX9 = some m.cls := hown
  have in_X3 : ∀ w ∈ u_ws RX3 TX3 4, w ∈ wsX9_homesLet := by decide +kernel
  have in_X9 : ∀ w ∈ u_ws RX9 TX9 12, w ∈ wsX9_homesLet := by decide +kernel
  have fl_11 := hts (.fieldLink RX9 11 "FairRents" "homes" "[LFairRents$Home;") (by decide +kernel)
  have fl_135 := hts (.fieldLink RX9 135 "FairRents$Home" "letting" "LFairRents$Letting;") (by decide +kernel)
  obtain ⟨⟨k1, k10, k20, k0⟩, kH, k9, k8, k15, k26, kL, kLn, kP, kE, kEm, kn⟩ := id hS
  refine lv_iconst (v := 0) hx hb dX9_homesLet_0 (by decide) ?_
  refine lv_istore_n (lv' := [(1, .int 0), (0, .ref (X 0 0))]) hx hb dX9_homesLet_1 rfl hl (by decide) rfl (fun ls hl => ?_)
  refine lv_aload_n hx hb dX9_homesLet_2 rfl (lv_at hl 1 rfl) ?_
  refine z_get (ci := 9) (fs := [.ref (X 0 1), .ref (X 0 2), .ref (X 0 3), .ref (X 0 4), .ref (X 0 5), .ref (X 0 7), .ref (X 0 9), .int (nI (S.1 1 0)), .int (nI (S.1 10 0)), .int (nI (S.1 20 0)), .int (nI (S.1 0 0)), .long S.2.2]) (C := RX9) (T := TX9) (N := 12) hx hb hts in_X9 hown hK hZ (f00 hF) rfl 0 (by decide) fl_11 (fun _ h9 => h9) rfl dX9_homesLet_3 ?_
  refine lv_astore_n (lv' := [(2, .ref (X 0 1)), (1, .int 0), (0, .ref (X 0 0))]) hx hb dX9_homesLet_6 rfl hl (by decide) rfl (fun ls hl => ?_)
  refine lv_aload_n hx hb dX9_homesLet_7 rfl (lv_at hl 0 rfl) ?_
  refine z_alen hx hb hK hZ 2 (f01 hF) rfl dX9_homesLet_8 ?_
  refine lv_istore_n (lv' := [(3, .int (nI 8)), (2, .ref (X 0 1)), (1, .int 0), (0, .ref (X 0 0))]) hx hb dX9_homesLet_9 rfl hl (by decide) rfl (fun ls hl => ?_)
  refine lv_iconst (v := 0) hx hb dX9_homesLet_10 (by decide) ?_
  refine lv_istore (lv' := [(4, .int 0), (3, .int (nI 8)), (2, .ref (X 0 1)), (1, .int 0), (0, .ref (X 0 0))]) hx hb dX9_homesLet_11 hl (by decide) rfl (fun ls hl => ?_)
  have loop13 : ∀ (q i : Nat) (hq : i + q = 8) (H : Heap) (locs : List Loc) (ls : Array Slot), zW D (zA G sz) s.heap G H locs → lv_has ls 6 [(4, .int (nI i)), (1, .int (nI (ctL S (min i (S.1 1 0))))), (2, .ref (X 0 1)), (3, .int (nI 8)), (0, .ref (X 0 0))] → W p l e (zR 1 0 0) s m ([.ref (X 0 0)] : List Value).toArray below meth c H locs 0 0 (MQ below (zQ D G sz (fun r G' => G' = G ∧ r = some (.int (nI (ctL S (S.1 1 0)))))) ([.ref (X 0 0)] : List Value).toArray s 0 0 (zA G sz)) (F0 m 13 ls []) := by
    intro q
    induction q with
    | zero =>
      intro i hq H locs ls hZ hl
      refine lv_iload hx hb dX9_homesLet_13 (lv_at hl 0 rfl) ?_
      refine lv_iload_n hx hb dX9_homesLet_15 rfl (lv_at hl 3 rfl) ?_
      refine lv_icmp_ge (tgt := 50) hx hb dX9_homesLet_16 (by decide) (fun _ => ?_) (fun c16 => absurd (nI_le (a := 8) (by omega) (by omega)) c16)
      refine lv_iload_n hx hb dX9_homesLet_50 rfl (lv_at hl 1 rfl) ?_
      exact z_iret hx hb hr hlocks hZ dX9_homesLet_51 (⟨rfl, by rw [show min i (S.1 1 0) = S.1 1 0 by omega]⟩)
    | succ q ih13 =>
      intro i hq H locs ls hZ hl
      refine lv_iload hx hb dX9_homesLet_13 (lv_at hl 0 rfl) ?_
      refine lv_iload_n hx hb dX9_homesLet_15 rfl (lv_at hl 3 rfl) ?_
      refine lv_icmp_ge (tgt := 50) hx hb dX9_homesLet_16 (by decide) (fun c16 => absurd c16 (nI_ge (b := 8) (by omega) (by decide))) (fun _ => ?_)
      refine lv_aload_n hx hb dX9_homesLet_19 rfl (lv_at hl 2 rfl) ?_
      refine lv_iload hx hb dX9_homesLet_20 (lv_at hl 0 rfl) ?_
      refine z_aald hx hb hK hZ 2 (f01 hF) rfl i rfl (by omega) (by decide) dX9_homesLet_22 ?_
      by_cases hi : i < S.1 1 0
      · refine W.eq (congrArg (fun v => F0 m 23 ls (v :: [])) (show _ = Value.ref (X 1 i) from fHo_y hi)) ?_
        refine W.eq (g2 := F0 m 23 ls [.ref (X 1 i)]) rfl ?_
        refine lv_astore (lv' := [(5, .ref (X 1 i)), (4, .int (nI i)), (1, .int (nI (ctL S (min i (S.1 1 0))))), (2, .ref (X 0 1)), (3, .int (nI 8)), (0, .ref (X 0 0))]) hx hb dX9_homesLet_23 hl (by decide) rfl (fun ls hl => ?_)
        refine lv_aload hx hb dX9_homesLet_25 (lv_at hl 0 rfl) ?_
        refine lv_ifnull hx hb dX9_homesLet_27 ?_
        refine lv_aload hx hb dX9_homesLet_30 (lv_at hl 0 rfl) ?_
        refine z_get (ci := 3) (fs := [.ref (X 2 i), .int (nI (S.1 3 i)), .ref (X 3 i), .int (S.2.1 6 i)]) (C := RX3) (T := TX3) (N := 4) hx hb hts in_X3 hown hK hZ (f1 hF hi) rfl 2 (by decide) fl_135 (fun _ h9 => h9) rfl dX9_homesLet_32 ?_
        refine z_call (va_runV (As := []) (rest := []) ⟨hx, hb, hml, hown, hts⟩ (c_X5_isLet l D cT _ _ (X 3 i) (X 4 i) (nI (S.1 18 i)) (nI (S.1 16 i)) (S.2.1 17 i) (psum (rowS S i) 301) (f3 hF hi)) (cwV 0 hts gX9_homesLet_X5_isLet rfl rfl rfl (by decide +kernel) ⟨(Nat.le_of_ble_eq_true rfl), (Nat.le_of_ble_eq_true rfl)⟩) (z_preV hK hE hZ hA (ci := 5) rfl (f3 hF hi)) rfl rfl hl.1 rfl (lv_room (Nat.le_of_ble_eq_true rfl)) dX9_homesLet_35 ⟨(Nat.le_of_ble_eq_true rfl), (Nat.le_of_ble_eq_true rfl)⟩) hZ hA (fun r G35 H locs hq hZ => ?_)
        obtain ⟨hg, rfl⟩ := hq
        replace hg := hg.symm
        subst hg
        refine W.eq (g2 := F0 m 38 ls [.int (if 0 < (nI (S.1 18 i)) then 1 else 0)]) rfl ?_
        refine zb_eq (tgt := 44) hx hb dX9_homesLet_38 (by decide) (fun c38 => ?_) (fun c38 => ?_)
        · refine lv_iinc (v := nI (i + 1)) (lv' := [(4, .int (nI (i + 1))), (5, .ref (X 1 i)), (1, .int (nI (ctL S (min i (S.1 1 0))))), (2, .ref (X 0 1)), (3, .int (nI 8)), (0, .ref (X 0 0))]) hx hb dX9_homesLet_44 hl (k := 1) rfl (nI_1 i) (by decide) rfl (fun ls hl => ?_)
          refine lv_goto (tgt := 13) hx hb dX9_homesLet_47 (by decide) ?_
          rw [show nI (ctL S (min i (S.1 1 0))) = nI (ctL S (min (i + 1) (S.1 1 0))) from hl_0 hi (hl_z (by have := (kL i).1; omega) c38)] at hl
          exact ih13 (i + 1) (by omega) _ _ _ hZ (lv_sub hl [0, 2, 3, 4, 5] rfl)
        · refine lv_iinc (v := nI (ctL S (min (i + 1) (S.1 1 0)))) (lv' := [(1, .int (nI (ctL S (min (i + 1) (S.1 1 0))))), (5, .ref (X 1 i)), (4, .int (nI i)), (2, .ref (X 0 1)), (3, .int (nI 8)), (0, .ref (X 0 0))]) hx hb dX9_homesLet_41 hl (k := 2) rfl (hl_1 hi (hl_nz c38)) (by decide) rfl (fun ls hl => ?_)
          refine lv_iinc (v := nI (i + 1)) (lv' := [(4, .int (nI (i + 1))), (1, .int (nI (ctL S (min (i + 1) (S.1 1 0))))), (5, .ref (X 1 i)), (2, .ref (X 0 1)), (3, .int (nI 8)), (0, .ref (X 0 0))]) hx hb dX9_homesLet_44 hl (k := 2) rfl (nI_1 i) (by decide) rfl (fun ls hl => ?_)
          refine lv_goto (tgt := 13) hx hb dX9_homesLet_47 (by decide) ?_
          exact ih13 (i + 1) (by omega) _ _ _ hZ (lv_sub hl [0, 1, 3, 4, 5] rfl)
      · refine W.eq (congrArg (fun v => F0 m 23 ls (v :: [])) (show _ = Value.null from fHo_n hi)) ?_
        refine W.eq (g2 := F0 m 23 ls [.null]) rfl ?_
        refine lv_astoreN (lv' := [(5, .null), (4, .int (nI i)), (1, .int (nI (ctL S (min i (S.1 1 0))))), (2, .ref (X 0 1)), (3, .int (nI 8)), (0, .ref (X 0 0))]) hx hb dX9_homesLet_23 hl (by decide) rfl (fun ls hl => ?_)
        refine lv_aloadN hx hb dX9_homesLet_25 (lv_at hl 0 rfl) ?_
        refine lv_ifnullN (tgt := 44) hx hb dX9_homesLet_27 (by decide) ?_
        refine lv_iinc (v := nI (i + 1)) (lv' := [(4, .int (nI (i + 1))), (5, .null), (1, .int (nI (ctL S (min i (S.1 1 0))))), (2, .ref (X 0 1)), (3, .int (nI 8)), (0, .ref (X 0 0))]) hx hb dX9_homesLet_44 hl (k := 1) rfl (nI_1 i) (by decide) rfl (fun ls hl => ?_)
        refine lv_goto (tgt := 13) hx hb dX9_homesLet_47 (by decide) ?_
        rw [show nI (ctL S (min i (S.1 1 0))) = nI (ctL S (min (i + 1) (S.1 1 0))) from hl_out hi] at hl
        exact ih13 (i + 1) (by omega) _ _ _ hZ (lv_sub hl [0, 2, 3, 4, 5] rfl)
  exact loop13 8 0 (by omega) _ _ _ hZ (lv_sub hl [0, 3, 2, 1, 4] rfl)

set_option maxHeartbeats 4000000 in
set_option maxRecDepth 100000 in
theorem c_X9_lawsTold (l : Launch) (D : va_G) (cT : Nat → ClassId) (G : zG) (sz : Nat) (S : zS) (X : Nat → Nat → Nat) (ct md sc rp : Int32) (fo fd : Nat → Int32) (nn : Nat)  (hF : FR cT S X ct md sc rp fo fd G) (hS : ok S nn)  : zM l D cT yX9_lawsTold wsX9_lawsTold (zR 0 0 0) [.ref (X 0 0)] G sz (fun r G' => G' = G ∧ r = some (.int (nI (ctT S 31)))) := by
  refine z_start (cc := cX9_lawsTold) (maxL := 6) (ret := (some .int)) (by decide) rfl (Nat.le_of_ble_eq_true rfl) ?_
  intro p e s m below meth c ls hI hZ hl
  obtain ⟨hx, hb, hr, hml, hts, hown, hlocks, hname, hK, hA, hE⟩ := hI
  have hl : lv_has ls 6 [(0, .ref (X 0 0))] := hl
  have hown : s.vm.findClass RX9 = some m.cls := hown
  have in_X9 : ∀ w ∈ u_ws RX9 TX9 12, w ∈ wsX9_lawsTold := by decide +kernel
  have fl_29 := hts (.fieldLink RX9 29 "FairRents" "laws" "[LFairRents$Law;") (by decide +kernel)
  obtain ⟨⟨k1, k10, k20, k0⟩, kH, k9, k8, k15, k26, kL, kLn, kP, kE, kEm, kn⟩ := id hS
  refine lv_iconst (v := 0) hx hb dX9_lawsTold_0 (by decide) ?_
  refine lv_istore_n (lv' := [(1, .int 0), (0, .ref (X 0 0))]) hx hb dX9_lawsTold_1 rfl hl (by decide) rfl (fun ls hl => ?_)
  refine lv_aload_n hx hb dX9_lawsTold_2 rfl (lv_at hl 1 rfl) ?_
  refine z_get (ci := 9) (fs := [.ref (X 0 1), .ref (X 0 2), .ref (X 0 3), .ref (X 0 4), .ref (X 0 5), .ref (X 0 7), .ref (X 0 9), .int (nI (S.1 1 0)), .int (nI (S.1 10 0)), .int (nI (S.1 20 0)), .int (nI (S.1 0 0)), .long S.2.2]) (C := RX9) (T := TX9) (N := 12) hx hb hts in_X9 hown hK hZ (f00 hF) rfl 3 (by decide) fl_29 (fun _ h9 => h9) rfl dX9_lawsTold_3 ?_
  refine lv_astore_n (lv' := [(2, .ref (X 0 4)), (1, .int 0), (0, .ref (X 0 0))]) hx hb dX9_lawsTold_6 rfl hl (by decide) rfl (fun ls hl => ?_)
  refine lv_aload_n hx hb dX9_lawsTold_7 rfl (lv_at hl 0 rfl) ?_
  refine z_alen hx hb hK hZ 5 (f04 hF) rfl dX9_lawsTold_8 ?_
  refine lv_istore_n (lv' := [(3, .int (nI 31)), (2, .ref (X 0 4)), (1, .int 0), (0, .ref (X 0 0))]) hx hb dX9_lawsTold_9 rfl hl (by decide) rfl (fun ls hl => ?_)
  refine lv_iconst (v := 0) hx hb dX9_lawsTold_10 (by decide) ?_
  refine lv_istore (lv' := [(4, .int 0), (3, .int (nI 31)), (2, .ref (X 0 4)), (1, .int 0), (0, .ref (X 0 0))]) hx hb dX9_lawsTold_11 hl (by decide) rfl (fun ls hl => ?_)
  have loop13 : ∀ (q i : Nat) (hq : i + q = 31) (H : Heap) (locs : List Loc) (ls : Array Slot), zW D (zA G sz) s.heap G H locs → lv_has ls 6 [(4, .int (nI i)), (1, .int (nI (ctT S (min i 31)))), (2, .ref (X 0 4)), (3, .int (nI 31)), (0, .ref (X 0 0))] → W p l e (zR 0 0 0) s m ([.ref (X 0 0)] : List Value).toArray below meth c H locs 0 0 (MQ below (zQ D G sz (fun r G' => G' = G ∧ r = some (.int (nI (ctT S 31))))) ([.ref (X 0 0)] : List Value).toArray s 0 0 (zA G sz)) (F0 m 13 ls []) := by
    intro q
    induction q with
    | zero =>
      intro i hq H locs ls hZ hl
      refine lv_iload hx hb dX9_lawsTold_13 (lv_at hl 0 rfl) ?_
      refine lv_iload_n hx hb dX9_lawsTold_15 rfl (lv_at hl 3 rfl) ?_
      refine lv_icmp_ge (tgt := 39) hx hb dX9_lawsTold_16 (by decide) (fun _ => ?_) (fun c16 => absurd (nI_le (a := 31) (by omega) (by omega)) c16)
      refine lv_iload_n hx hb dX9_lawsTold_39 rfl (lv_at hl 1 rfl) ?_
      exact z_iret hx hb hr hlocks hZ dX9_lawsTold_40 (⟨rfl, by rw [show min i 31 = 31 by omega]⟩)
    | succ q ih13 =>
      intro i hq H locs ls hZ hl
      refine lv_iload hx hb dX9_lawsTold_13 (lv_at hl 0 rfl) ?_
      refine lv_iload_n hx hb dX9_lawsTold_15 rfl (lv_at hl 3 rfl) ?_
      refine lv_icmp_ge (tgt := 39) hx hb dX9_lawsTold_16 (by decide) (fun c16 => absurd c16 (nI_ge (b := 31) (by omega) (by decide))) (fun _ => ?_)
      refine lv_aload_n hx hb dX9_lawsTold_19 rfl (lv_at hl 2 rfl) ?_
      refine lv_iload hx hb dX9_lawsTold_20 (lv_at hl 0 rfl) ?_
      refine z_aald hx hb hK hZ 5 (f04 hF) rfl i rfl (by omega) (by decide) dX9_lawsTold_22 ?_
      by_cases h9 : S.1 9 i = 1
      · refine W.eq (congrArg (fun v => F0 m 23 ls (v :: [])) (show _ = Value.ref (X 7 i) from fLa_y h9)) ?_
        refine W.eq (g2 := F0 m 23 ls [.ref (X 7 i)]) rfl ?_
        refine lv_astore (lv' := [(5, .ref (X 7 i)), (4, .int (nI i)), (1, .int (nI (ctT S (min i 31)))), (2, .ref (X 0 4)), (3, .int (nI 31)), (0, .ref (X 0 0))]) hx hb dX9_lawsTold_23 hl (by decide) rfl (fun ls hl => ?_)
        refine lv_aload hx hb dX9_lawsTold_25 (lv_at hl 0 rfl) ?_
        refine lv_ifnull hx hb dX9_lawsTold_27 ?_
        refine lv_iinc (v := nI (ctT S (min (i + 1) 31))) (lv' := [(1, .int (nI (ctT S (min (i + 1) 31)))), (5, .ref (X 7 i)), (4, .int (nI i)), (2, .ref (X 0 4)), (3, .int (nI 31)), (0, .ref (X 0 0))]) hx hb dX9_lawsTold_30 hl (k := 2) rfl (lt_1 h9 (by omega)) (by decide) rfl (fun ls hl => ?_)
        refine lv_iinc (v := nI (i + 1)) (lv' := [(4, .int (nI (i + 1))), (1, .int (nI (ctT S (min (i + 1) 31)))), (5, .ref (X 7 i)), (2, .ref (X 0 4)), (3, .int (nI 31)), (0, .ref (X 0 0))]) hx hb dX9_lawsTold_33 hl (k := 2) rfl (nI_1 i) (by decide) rfl (fun ls hl => ?_)
        refine lv_goto (tgt := 13) hx hb dX9_lawsTold_36 (by decide) ?_
        exact ih13 (i + 1) (by omega) _ _ _ hZ (lv_sub hl [0, 1, 3, 4, 5] rfl)
      · refine W.eq (congrArg (fun v => F0 m 23 ls (v :: [])) (show _ = Value.null from fLa_n h9)) ?_
        refine W.eq (g2 := F0 m 23 ls [.null]) rfl ?_
        refine lv_astoreN (lv' := [(5, .null), (4, .int (nI i)), (1, .int (nI (ctT S (min i 31)))), (2, .ref (X 0 4)), (3, .int (nI 31)), (0, .ref (X 0 0))]) hx hb dX9_lawsTold_23 hl (by decide) rfl (fun ls hl => ?_)
        refine lv_aloadN hx hb dX9_lawsTold_25 (lv_at hl 0 rfl) ?_
        refine lv_ifnullN (tgt := 33) hx hb dX9_lawsTold_27 (by decide) ?_
        refine lv_iinc (v := nI (i + 1)) (lv' := [(4, .int (nI (i + 1))), (5, .null), (1, .int (nI (ctT S (min i 31)))), (2, .ref (X 0 4)), (3, .int (nI 31)), (0, .ref (X 0 0))]) hx hb dX9_lawsTold_33 hl (k := 1) rfl (nI_1 i) (by decide) rfl (fun ls hl => ?_)
        refine lv_goto (tgt := 13) hx hb dX9_lawsTold_36 (by decide) ?_
        rw [show nI (ctT S (min i 31)) = nI (ctT S (min (i + 1) 31)) from lt_0' (k9 i) h9 (by omega)] at hl
        exact ih13 (i + 1) (by omega) _ _ _ hZ (lv_sub hl [0, 2, 3, 4, 5] rfl)
  exact loop13 31 0 (by omega) _ _ _ hZ (lv_sub hl [0, 3, 2, 1, 4] rfl)

set_option maxHeartbeats 4000000 in
set_option maxRecDepth 100000 in
theorem c_X9_count (l : Launch) (D : va_G) (cT : Nat → ClassId) (G : zG) (sz : Nat) (S : zS) (X : Nat → Nat → Nat) (ct md sc rp : Int32) (fo fd : Nat → Int32) (nn : Nat) (x : Int32) (hF : FR cT S X ct md sc rp fo fd G) (hS : ok S nn)  : zM l D cT yX9_count wsX9_count (zR 2 0 0) [.ref (X 0 0), .int x] G sz (fQ cT (X 0 0) (sp_count S x)) := by
  refine z_start (cc := cX9_count) (maxL := 2) (ret := (some .int)) (by decide) rfl (Nat.le_of_ble_eq_true rfl) ?_
  intro p e s m below meth c ls hI hZ hl
  obtain ⟨hx, hb, hr, hml, hts, hown, hlocks, hname, hK, hA, hE⟩ := hI
  have hl : lv_has ls 2 [(0, .ref (X 0 0)), (1, .int x)] := hl
  have hown : s.vm.findClass RX9 = some m.cls := hown
  have in_X9 : ∀ w ∈ u_ws RX9 TX9 12, w ∈ wsX9_count := by decide +kernel
  have fl_55 := hts (.fieldLink RX9 55 "FairRents" "homesMade" "I") (by decide +kernel)
  have fl_94 := hts (.fieldLink RX9 94 "FairRents" "today" "I") (by decide +kernel)
  have fl_105 := hts (.fieldLink RX9 105 "FairRents" "likesTold" "I") (by decide +kernel)
  have fl_152 := hts (.fieldLink RX9 152 "FairRents" "entriesMade" "I") (by decide +kernel)
  obtain ⟨⟨k1, k10, k20, k0⟩, kH, k9, k8, k15, k26, kL, kLn, kP, kE, kEm, kn⟩ := id hS
  refine lv_iload_n hx hb dX9_count_0 rfl (lv_at hl 1 rfl) ?_
  by_cases q0 : x = 0
  · refine lv_tableIn (tgt := 40) hx hb dX9_count_1 (by rw [q0]; decide) (by rw [q0]; decide) (off := 39) (by rw [q0]; rfl) (by decide) ?_
    refine lv_aload_n hx hb dX9_count_40 rfl (lv_at hl 0 rfl) ?_
    refine z_get (ci := 9) (fs := [.ref (X 0 1), .ref (X 0 2), .ref (X 0 3), .ref (X 0 4), .ref (X 0 5), .ref (X 0 7), .ref (X 0 9), .int (nI (S.1 1 0)), .int (nI (S.1 10 0)), .int (nI (S.1 20 0)), .int (nI (S.1 0 0)), .long S.2.2]) (C := RX9) (T := TX9) (N := 12) hx hb hts in_X9 hown hK hZ (f00 hF) rfl 7 (by decide) fl_55 (fun _ h9 => h9) rfl dX9_count_41 ?_
    exact z_iret hx hb hr hlocks hZ dX9_count_44 (fQ_of (by rw [sp_count, if_pos q0]) rfl ⟨_, _, _, _, _, _, hF⟩)
  by_cases q1 : x = 1
  · refine lv_tableIn (tgt := 45) hx hb dX9_count_1 (by rw [q1]; decide) (by rw [q1]; decide) (off := 44) (by rw [q1]; rfl) (by decide) ?_
    refine lv_aload_n hx hb dX9_count_45 rfl (lv_at hl 0 rfl) ?_
    refine z_get (ci := 9) (fs := [.ref (X 0 1), .ref (X 0 2), .ref (X 0 3), .ref (X 0 4), .ref (X 0 5), .ref (X 0 7), .ref (X 0 9), .int (nI (S.1 1 0)), .int (nI (S.1 10 0)), .int (nI (S.1 20 0)), .int (nI (S.1 0 0)), .long S.2.2]) (C := RX9) (T := TX9) (N := 12) hx hb hts in_X9 hown hK hZ (f00 hF) rfl 8 (by decide) fl_105 (fun _ h9 => h9) rfl dX9_count_46 ?_
    exact z_iret hx hb hr hlocks hZ dX9_count_49 (fQ_of (by rw [sp_count, if_neg q0, if_pos q1]) rfl ⟨_, _, _, _, _, _, hF⟩)
  by_cases q2 : x = 2
  · refine lv_tableIn (tgt := 50) hx hb dX9_count_1 (by rw [q2]; decide) (by rw [q2]; decide) (off := 49) (by rw [q2]; rfl) (by decide) ?_
    refine lv_aload_n hx hb dX9_count_50 rfl (lv_at hl 0 rfl) ?_
    refine z_get (ci := 9) (fs := [.ref (X 0 1), .ref (X 0 2), .ref (X 0 3), .ref (X 0 4), .ref (X 0 5), .ref (X 0 7), .ref (X 0 9), .int (nI (S.1 1 0)), .int (nI (S.1 10 0)), .int (nI (S.1 20 0)), .int (nI (S.1 0 0)), .long S.2.2]) (C := RX9) (T := TX9) (N := 12) hx hb hts in_X9 hown hK hZ (f00 hF) rfl 9 (by decide) fl_152 (fun _ h9 => h9) rfl dX9_count_51 ?_
    exact z_iret hx hb hr hlocks hZ dX9_count_54 (fQ_of (by rw [sp_count, if_neg q0, if_neg q1, if_pos q2]) rfl ⟨_, _, _, _, _, _, hF⟩)
  by_cases q3 : x = 3
  · refine lv_tableIn (tgt := 55) hx hb dX9_count_1 (by rw [q3]; decide) (by rw [q3]; decide) (off := 54) (by rw [q3]; rfl) (by decide) ?_
    refine lv_aload_n hx hb dX9_count_55 rfl (lv_at hl 0 rfl) ?_
    refine z_get (ci := 9) (fs := [.ref (X 0 1), .ref (X 0 2), .ref (X 0 3), .ref (X 0 4), .ref (X 0 5), .ref (X 0 7), .ref (X 0 9), .int (nI (S.1 1 0)), .int (nI (S.1 10 0)), .int (nI (S.1 20 0)), .int (nI (S.1 0 0)), .long S.2.2]) (C := RX9) (T := TX9) (N := 12) hx hb hts in_X9 hown hK hZ (f00 hF) rfl 10 (by decide) fl_94 (fun _ h9 => h9) rfl dX9_count_56 ?_
    exact z_iret hx hb hr hlocks hZ dX9_count_59 (fQ_of (by rw [sp_count, if_neg q0, if_neg q1, if_neg q2, if_pos q3]) rfl ⟨_, _, _, _, _, _, hF⟩)
  by_cases q4 : x = 4
  · refine lv_tableIn (tgt := 60) hx hb dX9_count_1 (by rw [q4]; decide) (by rw [q4]; decide) (off := 59) (by rw [q4]; rfl) (by decide) ?_
    refine lv_aload_n hx hb dX9_count_60 rfl (lv_at hl 0 rfl) ?_
    refine z_call (va_runV (As := []) (rest := []) ⟨hx, hb, hml, hown, hts⟩ (c_X9_homesLet l D cT _ _ S X _ _ _ _ _ _ nn  hF hS ) (cwV 0 hts gX9_count_X9_homesLet rfl rfl rfl (by decide +kernel) ⟨(Nat.le_of_ble_eq_true rfl), (Nat.le_of_ble_eq_true rfl)⟩) (z_preV hK hE hZ hA (ci := 9) rfl (f00 hF)) rfl rfl hl.1 rfl (lv_room (Nat.le_of_ble_eq_true rfl)) dX9_count_61 ⟨(Nat.le_of_ble_eq_true rfl), (Nat.le_of_ble_eq_true rfl)⟩) hZ hA (fun r G61 H locs hq hZ => ?_)
    obtain ⟨hg, rfl⟩ := hq
    replace hg := hg.symm
    subst hg
    refine W.eq (g2 := F0 m 64 ls [.int (nI (ctL S (S.1 1 0)))]) rfl ?_
    exact z_iret hx hb hr hlocks hZ dX9_count_64 (fQ_of (by rw [sp_count, if_neg q0, if_neg q1, if_neg q2, if_neg q3, if_pos q4]) rfl ⟨_, _, _, _, _, _, hF⟩)
  by_cases q5 : x = 5
  · refine lv_tableIn (tgt := 65) hx hb dX9_count_1 (by rw [q5]; decide) (by rw [q5]; decide) (off := 64) (by rw [q5]; rfl) (by decide) ?_
    refine lv_aload_n hx hb dX9_count_65 rfl (lv_at hl 0 rfl) ?_
    refine z_call (va_runV (As := []) (rest := []) ⟨hx, hb, hml, hown, hts⟩ (c_X9_lawsTold l D cT _ _ S X _ _ _ _ _ _ nn  hF hS ) (cwV 0 hts gX9_count_X9_lawsTold rfl rfl rfl (by decide +kernel) ⟨(Nat.le_of_ble_eq_true rfl), (Nat.le_of_ble_eq_true rfl)⟩) (z_preV hK hE hZ hA (ci := 9) rfl (f00 hF)) rfl rfl hl.1 rfl (lv_room (Nat.le_of_ble_eq_true rfl)) dX9_count_66 ⟨(Nat.le_of_ble_eq_true rfl), (Nat.le_of_ble_eq_true rfl)⟩) hZ hA (fun r G66 H locs hq hZ => ?_)
    obtain ⟨hg, rfl⟩ := hq
    replace hg := hg.symm
    subst hg
    refine W.eq (g2 := F0 m 69 ls [.int (nI (ctT S 31))]) rfl ?_
    exact z_iret hx hb hr hlocks hZ dX9_count_69 (fQ_of (by rw [sp_count, if_neg q0, if_neg q1, if_neg q2, if_neg q3, if_neg q4, if_pos q5]) rfl ⟨_, _, _, _, _, _, hF⟩)
  refine lv_tableOut (tgt := 70) hx hb dX9_count_1 (cnt_out q0 q1 q2 q3 q4 q5) (by decide) ?_
  refine lv_iconst (v := (-1)) hx hb dX9_count_70 (by decide) ?_
  exact z_iret hx hb hr hlocks hZ dX9_count_71 (fQ_of (by rw [sp_count, if_neg q0, if_neg q1, if_neg q2, if_neg q3, if_neg q4, if_neg q5]) rfl ⟨_, _, _, _, _, _, hF⟩)

set_option maxHeartbeats 4000000 in
set_option maxRecDepth 100000 in
theorem c_X9_open (l : Launch) (D : va_G) (cT : Nat → ClassId) (G : zG) (sz : Nat) (S : zS) (X : Nat → Nat → Nat) (ct md sc rp : Int32) (fo fd : Nat → Int32) (nn : Nat) (x : Int32) (hF : FR cT S X ct md sc rp fo fd G) (hS : ok S nn)  : zM l D cT yX9_open wsX9_open (zR 3 0 0) [.ref (X 0 0), .int x] G sz (fQ cT (X 0 0) (sp_open S x)) := by
  refine z_start (cc := cX9_open) (maxL := 2) (ret := (some .int)) (by decide) rfl (Nat.le_of_ble_eq_true rfl) ?_
  intro p e s m below meth c ls hI hZ hl
  obtain ⟨hx, hb, hr, hml, hts, hown, hlocks, hname, hK, hA, hE⟩ := hI
  have hl : lv_has ls 2 [(0, .ref (X 0 0)), (1, .int x)] := hl
  have hown : s.vm.findClass RX9 = some m.cls := hown
  have in_X9 : ∀ w ∈ u_ws RX9 TX9 12, w ∈ wsX9_open := by decide +kernel
  have fl_94 := hts (.fieldLink RX9 94 "FairRents" "today" "I") (by decide +kernel)
  obtain ⟨⟨k1, k10, k20, k0⟩, kH, k9, k8, k15, k26, kL, kLn, kP, kE, kEm, kn⟩ := id hS
  refine lv_aload_n hx hb dX9_open_0 rfl (lv_at hl 0 rfl) ?_
  refine lv_iload_n hx hb dX9_open_1 rfl (lv_at hl 1 rfl) ?_
  refine z_call (va_runV (As := [.int x]) (rest := []) ⟨hx, hb, hml, hown, hts⟩ (c_X9_homeAt l D cT _ _ S X _ _ _ _ _ _ nn x hF hS ) (cwV 1 hts gX9_open_X9_homeAt rfl rfl rfl (by decide +kernel) ⟨(Nat.le_of_ble_eq_true rfl), (Nat.le_of_ble_eq_true rfl)⟩) (z_preV hK hE hZ hA (ci := 9) rfl (f00 hF)) rfl rfl hl.1 rfl (lv_room (Nat.le_of_ble_eq_true rfl)) dX9_open_2 ⟨(Nat.le_of_ble_eq_true rfl), (Nat.le_of_ble_eq_true rfl)⟩) hZ hA (fun r G2 H locs hq hZ => ?_)
  obtain ⟨hg, rfl⟩ := hq
  replace hg := hg.symm
  subst hg
  refine W.eq (g2 := F0 m 5 ls [va_rf ((hix S x).map (X 1))]) rfl ?_
  rcases hh : hix S x with _ | j
  · refine W.eq (g2 := F0 m 5 ls [.null]) rfl ?_
    refine lv_ifnonnullN hx hb dX9_open_5 ?_
    refine lv_iconst (v := (-1)) hx hb dX9_open_8 (by decide) ?_
    exact z_iret hx hb hr hlocks hZ dX9_open_9 (fQ_of (by rw [sp_open, hh]) rfl ⟨_, _, _, _, _, _, hF⟩)
  · refine W.eq (g2 := F0 m 5 ls [.ref (X 1 j)]) rfl ?_
    obtain ⟨hj, hxj⟩ := hix_some k1 hh
    refine lv_ifnonnull (tgt := 10) hx hb dX9_open_5 (by decide) ?_
    refine lv_aload_n hx hb dX9_open_10 rfl (lv_at hl 0 rfl) ?_
    refine z_get (ci := 9) (fs := [.ref (X 0 1), .ref (X 0 2), .ref (X 0 3), .ref (X 0 4), .ref (X 0 5), .ref (X 0 7), .ref (X 0 9), .int (nI (S.1 1 0)), .int (nI (S.1 10 0)), .int (nI (S.1 20 0)), .int (nI (S.1 0 0)), .long S.2.2]) (C := RX9) (T := TX9) (N := 12) hx hb hts in_X9 hown hK hZ (f00 hF) rfl 10 (by decide) fl_94 (fun _ h9 => h9) rfl dX9_open_11 ?_
    refine lv_aload_n hx hb dX9_open_14 rfl (lv_at hl 0 rfl) ?_
    refine lv_iload_n hx hb dX9_open_15 rfl (lv_at hl 1 rfl) ?_
    refine z_call (va_runV (As := [.int x]) (rest := [.int (nI (S.1 0 0))]) ⟨hx, hb, hml, hown, hts⟩ (c_X9_barEnd l D cT _ _ S X _ _ _ _ _ _ nn x j hF hS hj hxj) (cwV 1 hts gX9_open_X9_barEnd rfl rfl rfl (by decide +kernel) ⟨(Nat.le_of_ble_eq_true rfl), (Nat.le_of_ble_eq_true rfl)⟩) (z_preV hK hE hZ hA (ci := 9) rfl (f00 hF)) rfl rfl hl.1 rfl (lv_room (Nat.le_of_ble_eq_true rfl)) dX9_open_16 ⟨(Nat.le_of_ble_eq_true rfl), (Nat.le_of_ble_eq_true rfl)⟩) hZ hA (fun r G16 H locs hq hZ => ?_)
    obtain ⟨hg, rfl⟩ := hq
    replace hg := hg.symm
    subst hg
    refine W.eq (g2 := F0 m 19 ls [.int (bar S j), .int (nI (S.1 0 0))]) rfl ?_
    refine va_mmax hx hb (by rw [hml]; exact hl.1.symm) hown (hts (.methodLink RX9 160 Lib.Math.max.name) (by decide +kernel)) (hts (.static Lib.Math.max.name) (by decide +kernel)) (hts (.initialized "java/lang/Math") (by decide +kernel)) (hts _ (List.mem_of_getElem? (i := 5) rfl)) (Nat.le_of_ble_eq_true rfl) (Nat.le_of_ble_eq_true rfl) (Nat.le_of_ble_eq_true rfl) (Nat.le_of_ble_eq_true rfl) dX9_open_19 ?_
    exact z_iret hx hb hr hlocks hZ dX9_open_22 (fQ_of (by rw [sp_open, hh]) rfl ⟨_, _, _, _, _, _, hF⟩)

set_option maxHeartbeats 4000000 in
set_option maxRecDepth 100000 in
theorem c_X9_latest (l : Launch) (D : va_G) (cT : Nat → ClassId) (G : zG) (sz : Nat) (S : zS) (X : Nat → Nat → Nat) (ct md sc rp : Int32) (fo fd : Nat → Int32) (nn : Nat) (x : Int32) (hF : FR cT S X ct md sc rp fo fd G) (hS : ok S nn)  : zM l D cT yX9_latest wsX9_latest (zR 2 0 0) [.ref (X 0 0), .int x] G sz (fQ cT (X 0 0) (sp_latest S x)) := by
  refine z_start (cc := cX9_latest) (maxL := 2) (ret := (some .int)) (by decide) rfl (Nat.le_of_ble_eq_true rfl) ?_
  intro p e s m below meth c ls hI hZ hl
  obtain ⟨hx, hb, hr, hml, hts, hown, hlocks, hname, hK, hA, hE⟩ := hI
  have hl : lv_has ls 2 [(0, .ref (X 0 0)), (1, .int x)] := hl
  have hown : s.vm.findClass RX9 = some m.cls := hown
  obtain ⟨⟨k1, k10, k20, k0⟩, kH, k9, k8, k15, k26, kL, kLn, kP, kE, kEm, kn⟩ := id hS
  refine lv_aload_n hx hb dX9_latest_0 rfl (lv_at hl 0 rfl) ?_
  refine lv_iload_n hx hb dX9_latest_1 rfl (lv_at hl 1 rfl) ?_
  refine z_call (va_runV (As := [.int x]) (rest := []) ⟨hx, hb, hml, hown, hts⟩ (c_X9_homeAt l D cT _ _ S X _ _ _ _ _ _ nn x hF hS ) (cwV 1 hts gX9_latest_X9_homeAt rfl rfl rfl (by decide +kernel) ⟨(Nat.le_of_ble_eq_true rfl), (Nat.le_of_ble_eq_true rfl)⟩) (z_preV hK hE hZ hA (ci := 9) rfl (f00 hF)) rfl rfl hl.1 rfl (lv_room (Nat.le_of_ble_eq_true rfl)) dX9_latest_2 ⟨(Nat.le_of_ble_eq_true rfl), (Nat.le_of_ble_eq_true rfl)⟩) hZ hA (fun r G2 H locs hq hZ => ?_)
  obtain ⟨hg, rfl⟩ := hq
  replace hg := hg.symm
  subst hg
  refine W.eq (g2 := F0 m 5 ls [va_rf ((hix S x).map (X 1))]) rfl ?_
  rcases hh : hix S x with _ | j
  · refine W.eq (g2 := F0 m 5 ls [.null]) rfl ?_
    refine lv_ifnonnullN hx hb dX9_latest_5 ?_
    refine lv_iconst (v := (-1)) hx hb dX9_latest_8 (by decide) ?_
    exact z_iret hx hb hr hlocks hZ dX9_latest_9 (fQ_of (by rw [sp_latest, hh]) rfl ⟨_, _, _, _, _, _, hF⟩)
  · refine W.eq (g2 := F0 m 5 ls [.ref (X 1 j)]) rfl ?_
    obtain ⟨hj, hxj⟩ := hix_some k1 hh
    refine lv_ifnonnull (tgt := 10) hx hb dX9_latest_5 (by decide) ?_
    refine lv_aload_n hx hb dX9_latest_10 rfl (lv_at hl 0 rfl) ?_
    refine lv_iload_n hx hb dX9_latest_11 rfl (lv_at hl 1 rfl) ?_
    refine z_call (va_runV (As := [.int x]) (rest := []) ⟨hx, hb, hml, hown, hts⟩ (c_X9_latestStanding l D cT _ _ S X _ _ _ _ _ _ nn x j hF hS hj hxj) (cwV 1 hts gX9_latest_X9_latestStanding rfl rfl rfl (by decide +kernel) ⟨(Nat.le_of_ble_eq_true rfl), (Nat.le_of_ble_eq_true rfl)⟩) (z_preV hK hE hZ hA (ci := 9) rfl (f00 hF)) rfl rfl hl.1 rfl (lv_room (Nat.le_of_ble_eq_true rfl)) dX9_latest_12 ⟨(Nat.le_of_ble_eq_true rfl), (Nat.le_of_ble_eq_true rfl)⟩) hZ hA (fun r G12 H locs hq hZ => ?_)
    obtain ⟨hg, rfl⟩ := hq
    replace hg := hg.symm
    subst hg
    refine W.eq (g2 := F0 m 15 ls [.int (lav (lat S j))]) rfl ?_
    exact z_iret hx hb hr hlocks hZ dX9_latest_15 (fQ_of (sp_latest_e hh) rfl ⟨_, _, _, _, _, _, hF⟩)

set_option maxHeartbeats 4000000 in
set_option maxRecDepth 100000 in
theorem c_X9_entry (l : Launch) (D : va_G) (cT : Nat → ClassId) (G : zG) (sz : Nat) (S : zS) (X : Nat → Nat → Nat) (ct md sc rp : Int32) (fo fd : Nat → Int32) (nn : Nat) (x y : Int32) (hF : FR cT S X ct md sc rp fo fd G) (hS : ok S nn)  : zM l D cT yX9_entry wsX9_entry (zR 2 0 0) [.ref (X 0 0), .int x, .int y] G sz (fQ cT (X 0 0) (sp_entry S x y)) := by
  refine z_start (cc := cX9_entry) (maxL := 4) (ret := (some .int)) (by decide) rfl (Nat.le_of_ble_eq_true rfl) ?_
  intro p e s m below meth c ls hI hZ hl
  obtain ⟨hx, hb, hr, hml, hts, hown, hlocks, hname, hK, hA, hE⟩ := hI
  have hl : lv_has ls 4 [(0, .ref (X 0 0)), (1, .int x), (2, .int y)] := hl
  have hown : s.vm.findClass RX9 = some m.cls := hown
  have in_X0 : ∀ w ∈ u_ws RX0 TX0 9, w ∈ wsX9_entry := by decide +kernel
  have fl_173 := hts (.fieldLink RX9 173 "FairRents$Entry" "day" "I") (by decide +kernel)
  have fl_176 := hts (.fieldLink RX9 176 "FairRents$Entry" "stands" "Z") (by decide +kernel)
  have fl_179 := hts (.fieldLink RX9 179 "FairRents$Entry" "home" "I") (by decide +kernel)
  have fl_182 := hts (.fieldLink RX9 182 "FairRents$Entry" "rent" "I") (by decide +kernel)
  have fl_185 := hts (.fieldLink RX9 185 "FairRents$Entry" "middle" "I") (by decide +kernel)
  have fl_186 := hts (.fieldLink RX9 186 "FairRents$Entry" "scarcity" "I") (by decide +kernel)
  have fl_187 := hts (.fieldLink RX9 187 "FairRents$Entry" "repairs" "I") (by decide +kernel)
  obtain ⟨⟨k1, k10, k20, k0⟩, kH, k9, k8, k15, k26, kL, kLn, kP, kE, kEm, kn⟩ := id hS
  refine lv_aload_n hx hb dX9_entry_0 rfl (lv_at hl 0 rfl) ?_
  refine lv_iload_n hx hb dX9_entry_1 rfl (lv_at hl 1 rfl) ?_
  refine z_call (va_runV (As := [.int x]) (rest := []) ⟨hx, hb, hml, hown, hts⟩ (c_X9_entryAt l D cT _ _ S X _ _ _ _ _ _ nn x hF hS ) (cwV 1 hts gX9_entry_X9_entryAt rfl rfl rfl (by decide +kernel) ⟨(Nat.le_of_ble_eq_true rfl), (Nat.le_of_ble_eq_true rfl)⟩) (z_preV hK hE hZ hA (ci := 9) rfl (f00 hF)) rfl rfl hl.1 rfl (lv_room (Nat.le_of_ble_eq_true rfl)) dX9_entry_2 ⟨(Nat.le_of_ble_eq_true rfl), (Nat.le_of_ble_eq_true rfl)⟩) hZ hA (fun r G2 H locs hq hZ => ?_)
  obtain ⟨hg, rfl⟩ := hq
  replace hg := hg.symm
  subst hg
  refine W.eq (g2 := F0 m 5 ls [va_rf ((eix S x).map (X 6))]) rfl ?_
  rcases hh : eix S x with _ | e2
  · refine W.eq (g2 := F0 m 5 ls [.null]) rfl ?_
    refine lv_astore_nN (lv' := [(3, .null), (0, .ref (X 0 0)), (1, .int x), (2, .int y)]) hx hb dX9_entry_5 rfl hl (by decide) rfl (fun ls hl => ?_)
    refine lv_aload_nN hx hb dX9_entry_6 rfl (lv_at hl 0 rfl) ?_
    refine lv_ifnonnullN hx hb dX9_entry_7 ?_
    refine lv_ldc (v := (-1000000000)) hx hb hown (hts (.constant RX9 115 (-1000000000)) (by decide +kernel)) dX9_entry_10 ?_
    exact z_iret hx hb hr hlocks hZ dX9_entry_12 (fQ_of (se_none hh) rfl ⟨_, _, _, _, _, _, hF⟩)
  · refine W.eq (g2 := F0 m 5 ls [.ref (X 6 e2)]) rfl ?_
    obtain ⟨e1, hxe⟩ := eix_some k20 hh
    refine lv_astore_n (lv' := [(3, .ref (X 6 e2)), (0, .ref (X 0 0)), (1, .int x), (2, .int y)]) hx hb dX9_entry_5 rfl hl (by decide) rfl (fun ls hl => ?_)
    refine lv_aload_n hx hb dX9_entry_6 rfl (lv_at hl 0 rfl) ?_
    refine lv_ifnonnull (tgt := 13) hx hb dX9_entry_7 (by decide) ?_
    refine lv_iload_n hx hb dX9_entry_13 rfl (lv_at hl 3 rfl) ?_
    by_cases q0 : y = 0
    · refine lv_tableIn (tgt := 56) hx hb dX9_entry_14 (by rw [q0]; decide) (by rw [q0]; decide) (off := 42) (by rw [q0]; rfl) (by decide) ?_
      refine lv_aload_n hx hb dX9_entry_56 rfl (lv_at hl 0 rfl) ?_
      refine z_get (ci := 0) (fs := [.int (nI (S.1 21 e2)), .int (nI (S.1 25 e2)), .int (nI (S.1 22 e2)), .ref (lwA S X (S.1 22 e2)), .int (S.2.1 23 e2), .int (S.2.1 24 (3 * e2)), .int (S.2.1 24 (3 * e2 + 1)), .int (S.2.1 24 (3 * e2 + 2)), .int (if S.1 26 e2 = 0 then 1 else 0)]) (C := RX0) (T := TX0) (N := 9) hx hb hts in_X0 hown hK hZ (f6 hF e1) rfl 0 (by decide) fl_179 (fun _ h9 => h9) rfl dX9_entry_57 ?_
      exact z_iret hx hb hr hlocks hZ dX9_entry_60 (fQ_of (by rw [se_in e1 k20 hxe (show (0 : Int32) ≤ y ∧ y ≤ 6 by rw [q0]; decide), q0]; rfl) rfl ⟨_, _, _, _, _, _, hF⟩)
    by_cases q1 : y = 1
    · refine lv_tableIn (tgt := 61) hx hb dX9_entry_14 (by rw [q1]; decide) (by rw [q1]; decide) (off := 47) (by rw [q1]; rfl) (by decide) ?_
      refine lv_aload_n hx hb dX9_entry_61 rfl (lv_at hl 0 rfl) ?_
      refine z_get (ci := 0) (fs := [.int (nI (S.1 21 e2)), .int (nI (S.1 25 e2)), .int (nI (S.1 22 e2)), .ref (lwA S X (S.1 22 e2)), .int (S.2.1 23 e2), .int (S.2.1 24 (3 * e2)), .int (S.2.1 24 (3 * e2 + 1)), .int (S.2.1 24 (3 * e2 + 2)), .int (if S.1 26 e2 = 0 then 1 else 0)]) (C := RX0) (T := TX0) (N := 9) hx hb hts in_X0 hown hK hZ (f6 hF e1) rfl 2 (by decide) fl_173 (fun _ h9 => h9) rfl dX9_entry_62 ?_
      exact z_iret hx hb hr hlocks hZ dX9_entry_65 (fQ_of (by rw [se_in e1 k20 hxe (show (0 : Int32) ≤ y ∧ y ≤ 6 by rw [q1]; decide), q1]; rfl) rfl ⟨_, _, _, _, _, _, hF⟩)
    by_cases q2 : y = 2
    · refine lv_tableIn (tgt := 66) hx hb dX9_entry_14 (by rw [q2]; decide) (by rw [q2]; decide) (off := 52) (by rw [q2]; rfl) (by decide) ?_
      refine lv_aload_n hx hb dX9_entry_66 rfl (lv_at hl 0 rfl) ?_
      refine z_get (ci := 0) (fs := [.int (nI (S.1 21 e2)), .int (nI (S.1 25 e2)), .int (nI (S.1 22 e2)), .ref (lwA S X (S.1 22 e2)), .int (S.2.1 23 e2), .int (S.2.1 24 (3 * e2)), .int (S.2.1 24 (3 * e2 + 1)), .int (S.2.1 24 (3 * e2 + 2)), .int (if S.1 26 e2 = 0 then 1 else 0)]) (C := RX0) (T := TX0) (N := 9) hx hb hts in_X0 hown hK hZ (f6 hF e1) rfl 4 (by decide) fl_182 (fun _ h9 => h9) rfl dX9_entry_67 ?_
      exact z_iret hx hb hr hlocks hZ dX9_entry_70 (fQ_of (by rw [se_in e1 k20 hxe (show (0 : Int32) ≤ y ∧ y ≤ 6 by rw [q2]; decide), q2]; rfl) rfl ⟨_, _, _, _, _, _, hF⟩)
    by_cases q3 : y = 3
    · refine lv_tableIn (tgt := 71) hx hb dX9_entry_14 (by rw [q3]; decide) (by rw [q3]; decide) (off := 57) (by rw [q3]; rfl) (by decide) ?_
      refine lv_aload_n hx hb dX9_entry_71 rfl (lv_at hl 0 rfl) ?_
      refine z_get (ci := 0) (fs := [.int (nI (S.1 21 e2)), .int (nI (S.1 25 e2)), .int (nI (S.1 22 e2)), .ref (lwA S X (S.1 22 e2)), .int (S.2.1 23 e2), .int (S.2.1 24 (3 * e2)), .int (S.2.1 24 (3 * e2 + 1)), .int (S.2.1 24 (3 * e2 + 2)), .int (if S.1 26 e2 = 0 then 1 else 0)]) (C := RX0) (T := TX0) (N := 9) hx hb hts in_X0 hown hK hZ (f6 hF e1) rfl 5 (by decide) fl_185 (fun _ h9 => h9) rfl dX9_entry_72 ?_
      exact z_iret hx hb hr hlocks hZ dX9_entry_75 (fQ_of (by rw [se_in e1 k20 hxe (show (0 : Int32) ≤ y ∧ y ≤ 6 by rw [q3]; decide), q3]; rfl) rfl ⟨_, _, _, _, _, _, hF⟩)
    by_cases q4 : y = 4
    · refine lv_tableIn (tgt := 76) hx hb dX9_entry_14 (by rw [q4]; decide) (by rw [q4]; decide) (off := 62) (by rw [q4]; rfl) (by decide) ?_
      refine lv_aload_n hx hb dX9_entry_76 rfl (lv_at hl 0 rfl) ?_
      refine z_get (ci := 0) (fs := [.int (nI (S.1 21 e2)), .int (nI (S.1 25 e2)), .int (nI (S.1 22 e2)), .ref (lwA S X (S.1 22 e2)), .int (S.2.1 23 e2), .int (S.2.1 24 (3 * e2)), .int (S.2.1 24 (3 * e2 + 1)), .int (S.2.1 24 (3 * e2 + 2)), .int (if S.1 26 e2 = 0 then 1 else 0)]) (C := RX0) (T := TX0) (N := 9) hx hb hts in_X0 hown hK hZ (f6 hF e1) rfl 6 (by decide) fl_186 (fun _ h9 => h9) rfl dX9_entry_77 ?_
      exact z_iret hx hb hr hlocks hZ dX9_entry_80 (fQ_of (by rw [se_in e1 k20 hxe (show (0 : Int32) ≤ y ∧ y ≤ 6 by rw [q4]; decide), q4]; rfl) rfl ⟨_, _, _, _, _, _, hF⟩)
    by_cases q5 : y = 5
    · refine lv_tableIn (tgt := 81) hx hb dX9_entry_14 (by rw [q5]; decide) (by rw [q5]; decide) (off := 67) (by rw [q5]; rfl) (by decide) ?_
      refine lv_aload_n hx hb dX9_entry_81 rfl (lv_at hl 0 rfl) ?_
      refine z_get (ci := 0) (fs := [.int (nI (S.1 21 e2)), .int (nI (S.1 25 e2)), .int (nI (S.1 22 e2)), .ref (lwA S X (S.1 22 e2)), .int (S.2.1 23 e2), .int (S.2.1 24 (3 * e2)), .int (S.2.1 24 (3 * e2 + 1)), .int (S.2.1 24 (3 * e2 + 2)), .int (if S.1 26 e2 = 0 then 1 else 0)]) (C := RX0) (T := TX0) (N := 9) hx hb hts in_X0 hown hK hZ (f6 hF e1) rfl 7 (by decide) fl_187 (fun _ h9 => h9) rfl dX9_entry_82 ?_
      exact z_iret hx hb hr hlocks hZ dX9_entry_85 (fQ_of (by rw [se_in e1 k20 hxe (show (0 : Int32) ≤ y ∧ y ≤ 6 by rw [q5]; decide), q5]; rfl) rfl ⟨_, _, _, _, _, _, hF⟩)
    by_cases q6 : y = 6
    · refine lv_tableIn (tgt := 86) hx hb dX9_entry_14 (by rw [q6]; decide) (by rw [q6]; decide) (off := 72) (by rw [q6]; rfl) (by decide) ?_
      refine lv_aload_n hx hb dX9_entry_86 rfl (lv_at hl 0 rfl) ?_
      refine z_get (ci := 0) (fs := [.int (nI (S.1 21 e2)), .int (nI (S.1 25 e2)), .int (nI (S.1 22 e2)), .ref (lwA S X (S.1 22 e2)), .int (S.2.1 23 e2), .int (S.2.1 24 (3 * e2)), .int (S.2.1 24 (3 * e2 + 1)), .int (S.2.1 24 (3 * e2 + 2)), .int (if S.1 26 e2 = 0 then 1 else 0)]) (C := RX0) (T := TX0) (N := 9) hx hb hts in_X0 hown hK hZ (f6 hF e1) rfl 8 (by decide) fl_176 (fun _ h9 => h9) rfl dX9_entry_87 ?_
      refine zb_eq (tgt := 97) hx hb dX9_entry_90 (by decide) (fun c90 => ?_) (fun c90 => ?_)
      · refine lv_iconst (v := 0) hx hb dX9_entry_97 (by decide) ?_
        exact z_iret hx hb hr hlocks hZ dX9_entry_98 (fQ_of (by rw [se_in e1 k20 hxe (show (0 : Int32) ≤ y ∧ y ≤ 6 by rw [q6]; decide), q6]; exact se_6f c90) rfl ⟨_, _, _, _, _, _, hF⟩)
      · refine lv_iconst (v := 1) hx hb dX9_entry_93 (by decide) ?_
        refine lv_goto (tgt := 98) hx hb dX9_entry_94 (by decide) ?_
        exact z_iret hx hb hr hlocks hZ dX9_entry_98 (fQ_of (by rw [se_in e1 k20 hxe (show (0 : Int32) ≤ y ∧ y ≤ 6 by rw [q6]; decide), q6]; exact se_6t c90) rfl ⟨_, _, _, _, _, _, hF⟩)
    refine lv_tableOut (tgt := 99) hx hb dX9_entry_14 (cnt_out7 q0 q1 q2 q3 q4 q5 q6) (by decide) ?_
    refine lv_ldc (v := (-1000000000)) hx hb hown (hts (.constant RX9 115 (-1000000000)) (by decide +kernel)) dX9_entry_99 ?_
    exact z_iret hx hb hr hlocks hZ dX9_entry_101 (fQ_of (se_out (cnt_out7 q0 q1 q2 q3 q4 q5 q6)) rfl ⟨_, _, _, _, _, _, hF⟩)

set_option maxHeartbeats 4000000 in
set_option maxRecDepth 100000 in
theorem c_X9_trace (l : Launch) (D : va_G) (cT : Nat → ClassId) (G : zG) (sz : Nat) (S : zS) (X : Nat → Nat → Nat) (ct md sc rp : Int32) (fo fd : Nat → Int32) (nn : Nat) (hF : FR cT S X ct md sc rp fo fd G) (hS : ok S nn) : zM l D cT yX9_trace wsX9_trace (zR 0 0 0) [.ref (X 0 0)] G sz (fun r G' => (∃ X', X' 0 0 = X 0 0 ∧ FRx cT S X' G') ∧ r = some (.long S.2.2)) := by
  refine z_start (cc := cX9_trace) (maxL := 1) (ret := (some .long)) (by decide) rfl (Nat.le_of_ble_eq_true rfl) ?_
  intro p e s m below meth c ls hI hZ hl
  obtain ⟨hx, hb, hr, hml, hts, hown, hlocks, hname, hK, hA, hE⟩ := hI
  have hl : lv_has ls 1 [(0, .ref (X 0 0))] := hl
  have hown : s.vm.findClass RX9 = some m.cls := hown
  have in_X9 : ∀ w ∈ u_ws RX9 TX9 12, w ∈ wsX9_trace := by decide +kernel
  have fl_73 := hts (.fieldLink RX9 73 "FairRents" "traced" "J") (by decide +kernel)
  obtain ⟨⟨k1, k10, k20, k0⟩, kH, k9, k8, k15, k26, kL, kLn, kP, kE, kEm, kn⟩ := id hS
  refine lv_aload_n hx hb dX9_trace_0 rfl (lv_at hl 0 rfl) ?_
  refine z_get (ci := 9) (fs := [.ref (X 0 1), .ref (X 0 2), .ref (X 0 3), .ref (X 0 4), .ref (X 0 5), .ref (X 0 7), .ref (X 0 9), .int (nI (S.1 1 0)), .int (nI (S.1 10 0)), .int (nI (S.1 20 0)), .int (nI (S.1 0 0)), .long S.2.2]) (C := RX9) (T := TX9) (N := 12) hx hb hts in_X9 hown hK hZ (f00 hF) rfl 11 (by decide) fl_73 (fun _ h9 => h9) rfl dX9_trace_1 ?_
  exact z_lret hx hb hr hlocks hZ dX9_trace_4 (⟨⟨X, rfl, _, _, _, _, _, _, hF⟩, rfl⟩)

set_option maxHeartbeats 4000000 in
set_option maxRecDepth 100000 in
theorem c_X9_force (l : Launch) (D : va_G) (cT : Nat → ClassId) (G : zG) (sz : Nat) (S : zS) (X : Nat → Nat → Nat) (ct md sc rp : Int32) (fo fd : Nat → Int32) (nn : Nat) (x y : Int32) (hF : FR cT S X ct md sc rp fo fd G) (hS : ok S nn)  : zM l D cT yX9_force wsX9_force (zR 2 0 0) [.ref (X 0 0), .int x, .int y] G sz (fQ cT (X 0 0) (sp_force S x y)) := by
  refine z_start (cc := cX9_force) (maxL := 3) (ret := (some .int)) (by decide) rfl (Nat.le_of_ble_eq_true rfl) ?_
  intro p e s m below meth c ls hI hZ hl
  obtain ⟨hx, hb, hr, hml, hts, hown, hlocks, hname, hK, hA, hE⟩ := hI
  have hl : lv_has ls 3 [(0, .ref (X 0 0)), (1, .int x), (2, .int y)] := hl
  have hown : s.vm.findClass RX9 = some m.cls := hown
  obtain ⟨⟨k1, k10, k20, k0⟩, kH, k9, k8, k15, k26, kL, kLn, kP, kE, kEm, kn⟩ := id hS
  refine lv_iload_n hx hb dX9_force_0 rfl (lv_at hl 1 rfl) ?_
  refine lv_iconst (v := 0) hx hb dX9_force_1 (by decide) ?_
  refine lv_sipush (v := 400) hx hb dX9_force_2 (by decide) ?_
  refine z_call (va_runS (As := [.int x, .int 0, .int 400]) (rest := []) ⟨hx, hb, hml, hown, hts⟩ (c_X9_within l D cT _ _ x 0 400) (va_cwS 3 hts gX9_force_X9_within rfl rfl rfl (by decide +kernel) ⟨(Nat.le_of_ble_eq_true rfl), (Nat.le_of_ble_eq_true rfl)⟩) (z_preS hK hE hZ hA) rfl rfl hl.1 rfl (lv_room (Nat.le_of_ble_eq_true rfl)) dX9_force_5 ⟨(Nat.le_of_ble_eq_true rfl), (Nat.le_of_ble_eq_true rfl)⟩) hZ hA (fun r G5 H locs hq hZ => ?_)
  obtain ⟨hg, rfl⟩ := hq
  replace hg := hg.symm
  subst hg
  refine W.eq (g2 := F0 m 8 ls [.int (if 0 ≤ x ∧ x ≤ 400 then 1 else 0)]) rfl ?_
  refine zb_eq (tgt := 21) hx hb dX9_force_8 (by decide) (fun c8 => ?_) (fun c8 => ?_)
  · refine lv_iconst (v := (-1)) hx hb dX9_force_21 (by decide) ?_
    exact z_iret hx hb hr hlocks hZ dX9_force_22 (fQ_of (by rw [sp_force, if_neg (fun h => c8 h.1)]) rfl ⟨_, _, _, _, _, _, hF⟩)
  · refine lv_iload_n hx hb dX9_force_11 rfl (lv_at hl 2 rfl) ?_
    refine lv_iconst (v := 0) hx hb dX9_force_12 (by decide) ?_
    refine lv_bipush (v := 7) hx hb dX9_force_13 (by decide) ?_
    refine z_call (va_runS (As := [.int y, .int 0, .int 7]) (rest := []) ⟨hx, hb, hml, hown, hts⟩ (c_X9_within l D cT _ _ y 0 7) (va_cwS 3 hts gX9_force_X9_within rfl rfl rfl (by decide +kernel) ⟨(Nat.le_of_ble_eq_true rfl), (Nat.le_of_ble_eq_true rfl)⟩) (z_preS hK hE hZ hA) rfl rfl hl.1 rfl (lv_room (Nat.le_of_ble_eq_true rfl)) dX9_force_15 ⟨(Nat.le_of_ble_eq_true rfl), (Nat.le_of_ble_eq_true rfl)⟩) hZ hA (fun r G15 H locs hq hZ => ?_)
    obtain ⟨hg, rfl⟩ := hq
    replace hg := hg.symm
    subst hg
    refine W.eq (g2 := F0 m 18 ls [.int (if 0 ≤ y ∧ y ≤ 7 then 1 else 0)]) rfl ?_
    refine zb_ne (tgt := 23) hx hb dX9_force_18 (by decide) (fun c18 => ?_) (fun c18 => ?_)
    · have hxd : x = nI x.toNatClampNeg := (z_self c8.1).symm
      have hyk : y = nI y.toNatClampNeg := (z_self c18.1).symm
      have hd : x.toNatClampNeg ≤ 400 := z_cl c8 (by decide)
      have hk7 : y.toNatClampNeg ≤ 7 := z_cl c18 (by decide)
      refine lv_aload_n hx hb dX9_force_23 rfl (lv_at hl 0 rfl) ?_
      refine lv_iload_n hx hb dX9_force_24 rfl (lv_at hl 1 rfl) ?_
      refine z_call (va_runV (As := [.int x]) (rest := []) ⟨hx, hb, hml, hown, hts⟩ (c_X9_lawOn l D cT _ _ S X _ _ _ _ _ _ nn x x.toNatClampNeg hF hS hd hxd) (cwV 1 hts gX9_force_X9_lawOn rfl rfl rfl (by decide +kernel) ⟨(Nat.le_of_ble_eq_true rfl), (Nat.le_of_ble_eq_true rfl)⟩) (z_preV hK hE hZ hA (ci := 9) rfl (f00 hF)) rfl rfl hl.1 rfl (lv_room (Nat.le_of_ble_eq_true rfl)) dX9_force_25 ⟨(Nat.le_of_ble_eq_true rfl), (Nat.le_of_ble_eq_true rfl)⟩) hZ hA (fun r G25 H locs hq hZ => ?_)
      obtain ⟨hg, rfl⟩ := hq
      replace hg := hg.symm
      subst hg
      refine W.eq (g2 := F0 m 28 ls [.ref (lwA S X x.toNatClampNeg)]) rfl ?_
      refine lv_iload_n hx hb dX9_force_28 rfl (lv_at hl 2 rfl) ?_
      refine z_call (va_runV (As := [.int y]) (rest := []) ⟨hx, hb, hml, hown, hts⟩ (c_X4_number l D cT _ _ (lwA S X x.toNatClampNeg) (lwB S X x.toNatClampNeg) (lwC S x.toNatClampNeg) y y.toNatClampNeg (fla hF x.toNatClampNeg) (flb hF x.toNatClampNeg) hyk (by omega)) (cwV 1 hts gX9_force_X4_number rfl rfl rfl (by decide +kernel) ⟨(Nat.le_of_ble_eq_true rfl), (Nat.le_of_ble_eq_true rfl)⟩) (z_preV hK hE hZ hA (ci := 4) rfl (fla hF x.toNatClampNeg)) rfl rfl hl.1 rfl (lv_room (Nat.le_of_ble_eq_true rfl)) dX9_force_29 ⟨(Nat.le_of_ble_eq_true rfl), (Nat.le_of_ble_eq_true rfl)⟩) hZ hA (fun r G29 H locs hq hZ => ?_)
      obtain ⟨hg, rfl⟩ := hq
      replace hg := hg.symm
      subst hg
      refine W.eq (g2 := F0 m 32 ls [.int ((lwC S x.toNatClampNeg) y.toNatClampNeg)]) rfl ?_
      exact z_iret hx hb hr hlocks hZ dX9_force_32 (fQ_of (by rw [sp_force, if_pos ⟨c8, c18⟩, fr_v hS _ hk7]) rfl ⟨_, _, _, _, _, _, hF⟩)
    · refine lv_iconst (v := (-1)) hx hb dX9_force_21 (by decide) ?_
      exact z_iret hx hb hr hlocks hZ dX9_force_22 (fQ_of (by rw [sp_force, if_neg (fun h => c18 h.2)]) rfl ⟨_, _, _, _, _, _, hF⟩)

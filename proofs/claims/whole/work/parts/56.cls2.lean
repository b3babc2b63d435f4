set_option maxHeartbeats 4000000 in
set_option maxRecDepth 100000 in
theorem c_X5_begin (l : Launch) (D : va_G) (cT : Nat → ClassId) (G : zG) (sz : Nat) (a b : Nat) (nu fi rt pd : Int32) (f : Nat → Int32) (x y : Int32) (ha : G a = some (.inr (5, [.ref b, .int nu, .int fi, .int rt, .int pd]))) (hb3 : G b = some (.inl (cT 0, 301, .inl f))) : zM l D cT yX5_begin wsX5_begin (zR 0 0 0) [.ref a, .int x, .int y] G sz (fun r G' => G' = va_up (va_up G b (some (.inl (cT 0, 301, .inl (zfill f 301))))) a (some (.inr (5, [.ref b, .int (nu + 1), .int x, .int y, .int 0]))) ∧ r = none) := by
  refine z_start (cc := cX5_begin) (maxL := 4) (ret := none) (by decide) rfl (Nat.le_of_ble_eq_true rfl) ?_
  intro p e s m below meth c ls hI hZ hl
  obtain ⟨hx, hb, hr, hml, hts, hown, hlocks, hname, hK, hA, hE⟩ := hI
  have hl : lv_has ls 4 [(0, .ref a), (1, .int x), (2, .int y)] := hl
  have hown : s.vm.findClass RX5 = some m.cls := hown
  have in_X5 : ∀ w ∈ u_ws RX5 TX5 5, w ∈ wsX5_begin := by decide +kernel
  have fl_9 := hts (.fieldLink RX5 9 "FairRents$Letting" "sums" "[I") (by decide +kernel)
  have fl_15 := hts (.fieldLink RX5 15 "FairRents$Letting" "number" "I") (by decide +kernel)
  have fl_23 := hts (.fieldLink RX5 23 "FairRents$Letting" "first" "I") (by decide +kernel)
  have fl_26 := hts (.fieldLink RX5 26 "FairRents$Letting" "rent" "I") (by decide +kernel)
  have fl_29 := hts (.fieldLink RX5 29 "FairRents$Letting" "paid" "I") (by decide +kernel)
  refine lv_aload_n hx hb dX5_begin_0 rfl (lv_at hl 0 rfl) ?_
  refine lv_dup hx hb dX5_begin_1 rfl ?_
  refine z_get (ci := 5) (fs := [.ref b, .int nu, .int fi, .int rt, .int pd]) (C := RX5) (T := TX5) (N := 5) hx hb hts in_X5 hown hK hZ ha rfl 1 (by decide) fl_15 (fun _ h9 => h9) rfl dX5_begin_2 ?_
  refine lv_iconst (v := 1) hx hb dX5_begin_5 (by decide) ?_
  refine lv_iadd hx hb dX5_begin_6 ?_
  refine z_put (ci := 5) (fs := [.ref b, .int nu, .int fi, .int rt, .int pd]) (fs' := [.ref b, .int (nu + 1), .int fi, .int rt, .int pd]) (v := .int (nu + 1)) (ty := .int) (C := RX5) (T := TX5) (N := 5) hx hb hts in_X5 tyX5 tyX5_ok nmX5 hown hK hZ ha rfl 1 (by decide) fl_15 (fun _ h9 => h9) rfl (by decide +kernel) rfl rfl (Nat.le_of_ble_eq_true rfl) rfl dX5_begin_7 (fun H locs hZ => ?_)
  refine lv_aload_n hx hb dX5_begin_10 rfl (lv_at hl 0 rfl) ?_
  refine lv_iload_n hx hb dX5_begin_11 rfl (lv_at hl 1 rfl) ?_
  refine z_put (ci := 5) (fs := [.ref b, .int (nu + 1), .int fi, .int rt, .int pd]) (fs' := [.ref b, .int (nu + 1), .int x, .int rt, .int pd]) (v := .int x) (ty := .int) (C := RX5) (T := TX5) (N := 5) hx hb hts in_X5 tyX5 tyX5_ok nmX5 hown hK hZ (va_up_self _ _ _) rfl 2 (by decide) fl_23 (fun _ h9 => h9) rfl (by decide +kernel) rfl rfl (Nat.le_of_ble_eq_true rfl) rfl dX5_begin_12 (fun H locs hZ => ?_)
  rw [bx_uu] at hZ
  refine lv_aload_n hx hb dX5_begin_15 rfl (lv_at hl 0 rfl) ?_
  refine lv_iload_n hx hb dX5_begin_16 rfl (lv_at hl 2 rfl) ?_
  refine z_put (ci := 5) (fs := [.ref b, .int (nu + 1), .int x, .int rt, .int pd]) (fs' := [.ref b, .int (nu + 1), .int x, .int y, .int pd]) (v := .int y) (ty := .int) (C := RX5) (T := TX5) (N := 5) hx hb hts in_X5 tyX5 tyX5_ok nmX5 hown hK hZ (va_up_self _ _ _) rfl 3 (by decide) fl_26 (fun _ h9 => h9) rfl (by decide +kernel) rfl rfl (Nat.le_of_ble_eq_true rfl) rfl dX5_begin_17 (fun H locs hZ => ?_)
  rw [bx_uu] at hZ
  refine lv_aload_n hx hb dX5_begin_20 rfl (lv_at hl 0 rfl) ?_
  refine lv_iconst (v := 0) hx hb dX5_begin_21 (by decide) ?_
  refine z_put (ci := 5) (fs := [.ref b, .int (nu + 1), .int x, .int y, .int pd]) (fs' := [.ref b, .int (nu + 1), .int x, .int y, .int 0]) (v := .int 0) (ty := .int) (C := RX5) (T := TX5) (N := 5) hx hb hts in_X5 tyX5 tyX5_ok nmX5 hown hK hZ (va_up_self _ _ _) rfl 4 (by decide) fl_29 (fun _ h9 => h9) rfl (by decide +kernel) rfl rfl (Nat.le_of_ble_eq_true rfl) rfl dX5_begin_22 (fun H locs hZ => ?_)
  rw [bx_uu] at hZ
  refine lv_iconst (v := 0) hx hb dX5_begin_25 (by decide) ?_
  refine lv_istore_n (lv' := [(3, .int 0), (0, .ref a), (1, .int x), (2, .int y)]) hx hb dX5_begin_26 rfl hl (by decide) rfl (fun ls hl => ?_)
  have hab : a ≠ b := z_neOA ha hb3
  have loop27 : ∀ (q k : Nat) (G1 : zG) (hq : k + q = 301) (hG : G1 = va_up (va_up G a (some (.inr (5, [.ref b, .int (nu + 1), .int x, .int y, .int 0])))) b (some (.inl (cT 0, 301, .inl (zfill f k))))) (H : Heap) (locs : List Loc) (ls : Array Slot), zW D (zA G sz) s.heap G1 H locs → lv_has ls 4 [(3, .int (nI k)), (0, .ref a), (1, .int x), (2, .int y)] → W p l e (zR 0 0 0) s m ([.ref a, .int x, .int y] : List Value).toArray below meth c H locs 0 0 (MQ below (zQ D G sz (fun r G' => G' = va_up (va_up G b (some (.inl (cT 0, 301, .inl (zfill f 301))))) a (some (.inr (5, [.ref b, .int (nu + 1), .int x, .int y, .int 0]))) ∧ r = none)) ([.ref a, .int x, .int y] : List Value).toArray s 0 0 (zA G sz)) (F0 m 27 ls []) := by
    intro q
    induction q with
    | zero =>
      intro k G1 hq hG H locs ls hZ hl
      refine lv_iload_n hx hb dX5_begin_27 rfl (lv_at hl 0 rfl) ?_
      refine lv_aload_n hx hb dX5_begin_28 rfl (lv_at hl 1 rfl) ?_
      refine z_get (ci := 5) (fs := [.ref b, .int (nu + 1), .int x, .int y, .int 0]) (C := RX5) (T := TX5) (N := 5) hx hb hts in_X5 hown hK hZ (by rw [hG, va_up_ne _ _ hab, va_up_self]) rfl 0 (by decide) fl_9 (fun _ h9 => h9) rfl dX5_begin_29 ?_
      refine z_alen hx hb hK hZ 0 (by rw [hG, va_up_self]) rfl dX5_begin_32 ?_
      refine lv_icmp_ge (tgt := 49) hx hb dX5_begin_33 (by decide) (fun _ => ?_) (fun c33 => absurd (nI_le (a := 301) (by omega) (by omega)) c33)
      exact z_vret hx hb hr hlocks hZ dX5_begin_49 (⟨by rw [hG, show k = 301 by omega]; exact up_comm hab, rfl⟩)
    | succ q ih27 =>
      intro k G1 hq hG H locs ls hZ hl
      refine lv_iload_n hx hb dX5_begin_27 rfl (lv_at hl 0 rfl) ?_
      refine lv_aload_n hx hb dX5_begin_28 rfl (lv_at hl 1 rfl) ?_
      refine z_get (ci := 5) (fs := [.ref b, .int (nu + 1), .int x, .int y, .int 0]) (C := RX5) (T := TX5) (N := 5) hx hb hts in_X5 hown hK hZ (by rw [hG, va_up_ne _ _ hab, va_up_self]) rfl 0 (by decide) fl_9 (fun _ h9 => h9) rfl dX5_begin_29 ?_
      refine z_alen hx hb hK hZ 0 (by rw [hG, va_up_self]) rfl dX5_begin_32 ?_
      refine lv_icmp_ge (tgt := 49) hx hb dX5_begin_33 (by decide) (fun c33 => absurd c33 (nI_ge (b := 301) (by omega) (by decide))) (fun _ => ?_)
      refine lv_aload_n hx hb dX5_begin_36 rfl (lv_at hl 1 rfl) ?_
      refine z_get (ci := 5) (fs := [.ref b, .int (nu + 1), .int x, .int y, .int 0]) (C := RX5) (T := TX5) (N := 5) hx hb hts in_X5 hown hK hZ (by rw [hG, va_up_ne _ _ hab, va_up_self]) rfl 0 (by decide) fl_9 (fun _ h9 => h9) rfl dX5_begin_37 ?_
      refine lv_iload_n hx hb dX5_begin_40 rfl (lv_at hl 0 rfl) ?_
      refine lv_iconst (v := 0) hx hb dX5_begin_41 (by decide) ?_
      refine z_iast hx hb hK hZ (by rw [hG, va_up_self]) k rfl (by omega) (by decide) dX5_begin_42 (fun H locs hZ => ?_)
      refine lv_iinc (v := nI (k + 1)) (lv' := [(3, .int (nI (k + 1))), (0, .ref a), (1, .int x), (2, .int y)]) hx hb dX5_begin_43 hl (k := 0) rfl (nI_1 k) (by decide) rfl (fun ls hl => ?_)
      refine lv_goto (tgt := 27) hx hb dX5_begin_46 (by decide) ?_
      exact ih27 (k + 1) _ (by omega) (by rw [hG, bx_uu, zfill_s]) _ _ _ hZ (lv_sub hl [0, 1, 2, 3] rfl)
  exact loop27 301 0 _ (by omega) (by rw [zfill_0]; exact up_same ((va_up_ne _ _ hab.symm).trans hb3)) _ _ _ hZ (lv_sub hl [0, 1, 2, 3] rfl)

set_option maxHeartbeats 4000000 in
set_option maxRecDepth 100000 in
theorem c_X9_faults (l : Launch) (D : va_G) (cT : Nat → ClassId) (G : zG) (sz : Nat) (S : zS) (X : Nat → Nat → Nat) (ct md sc rp : Int32) (fo fd : Nat → Int32) (nn : Nat) (x v : Int32) (hF : FR cT S X ct md sc rp fo fd G) (hS : ok S nn)  : zM l D cT yX9_faults wsX9_faults (zR 2 0 0) [.ref (X 0 0), .int x, .int v] G sz (fQ cT (X 0 0) (sp_faults S x v)) := by
  refine z_start (cc := cX9_faults) (maxL := 5) (ret := (some .int)) (by decide) rfl (Nat.le_of_ble_eq_true rfl) ?_
  intro p e s m below meth c ls hI hZ hl
  obtain ⟨hx, hb, hr, hml, hts, hown, hlocks, hname, hK, hA, hE⟩ := hI
  have hl : lv_has ls 5 [(0, .ref (X 0 0)), (1, .int x), (2, .int v)] := hl
  have hown : s.vm.findClass RX9 = some m.cls := hown
  have in_X3 : ∀ w ∈ u_ws RX3 TX3 4, w ∈ wsX9_faults := by decide +kernel
  have fl_70 := hts (.fieldLink RX9 70 "FairRents$Home" "faults" "I") (by decide +kernel)
  obtain ⟨⟨k1, k10, k20, k0⟩, kH, k9, k8, k15, k26, kL, kLn, kP, kE, kEm, kn⟩ := id hS
  refine lv_aload_n hx hb dX9_faults_0 rfl (lv_at hl 0 rfl) ?_
  refine lv_iload_n hx hb dX9_faults_1 rfl (lv_at hl 1 rfl) ?_
  refine z_call (va_runV (As := [.int x]) (rest := []) ⟨hx, hb, hml, hown, hts⟩ (c_X9_homeAt l D cT _ _ S X _ _ _ _ _ _ nn x hF hS ) (cwV 1 hts gX9_faults_X9_homeAt rfl rfl rfl (by decide +kernel) ⟨(Nat.le_of_ble_eq_true rfl), (Nat.le_of_ble_eq_true rfl)⟩) (z_preV hK hE hZ hA (ci := 9) rfl (f00 hF)) rfl rfl hl.1 rfl (lv_room (Nat.le_of_ble_eq_true rfl)) dX9_faults_2 ⟨(Nat.le_of_ble_eq_true rfl), (Nat.le_of_ble_eq_true rfl)⟩) hZ hA (fun r G2 H locs hq hZ => ?_)
  obtain ⟨hg, rfl⟩ := hq
  replace hg := hg.symm
  subst hg
  refine W.eq (g2 := F0 m 5 ls [va_rf ((hix S x).map (X 1))]) rfl ?_
  rcases hh : hix S x with _ | j
  · refine W.eq (g2 := F0 m 5 ls [.null]) rfl ?_
    refine lv_astore_nN (lv' := [(3, .null), (0, .ref (X 0 0)), (1, .int x), (2, .int v)]) hx hb dX9_faults_5 rfl hl (by decide) rfl (fun ls hl => ?_)
    refine lv_aload_nN hx hb dX9_faults_6 rfl (lv_at hl 0 rfl) ?_
    refine lv_ifnullN (tgt := 20) hx hb dX9_faults_7 (by decide) ?_
    refine lv_iconst (v := (-1)) hx hb dX9_faults_20 (by decide) ?_
    exact z_iret hx hb hr hlocks hZ dX9_faults_21 (fQ_of (by rw [sp_faults, hh]) rfl ⟨_, _, _, _, _, _, hF⟩)
  · refine W.eq (g2 := F0 m 5 ls [.ref (X 1 j)]) rfl ?_
    obtain ⟨hj, hxj⟩ := hix_some k1 hh
    refine lv_astore_n (lv' := [(3, .ref (X 1 j)), (0, .ref (X 0 0)), (1, .int x), (2, .int v)]) hx hb dX9_faults_5 rfl hl (by decide) rfl (fun ls hl => ?_)
    refine lv_aload_n hx hb dX9_faults_6 rfl (lv_at hl 0 rfl) ?_
    refine lv_ifnull hx hb dX9_faults_7 ?_
    refine lv_iload_n hx hb dX9_faults_10 rfl (lv_at hl 3 rfl) ?_
    refine lv_iconst (v := 0) hx hb dX9_faults_11 (by decide) ?_
    refine lv_bipush (v := 9) hx hb dX9_faults_12 (by decide) ?_
    refine z_call (va_runS (As := [.int v, .int 0, .int 9]) (rest := []) ⟨hx, hb, hml, hown, hts⟩ (c_X9_within l D cT _ _ v 0 9) (va_cwS 3 hts gX9_faults_X9_within rfl rfl rfl (by decide +kernel) ⟨(Nat.le_of_ble_eq_true rfl), (Nat.le_of_ble_eq_true rfl)⟩) (z_preS hK hE hZ hA) rfl rfl hl.1 rfl (lv_room (Nat.le_of_ble_eq_true rfl)) dX9_faults_14 ⟨(Nat.le_of_ble_eq_true rfl), (Nat.le_of_ble_eq_true rfl)⟩) hZ hA (fun r G14 H locs hq hZ => ?_)
    obtain ⟨hg, rfl⟩ := hq
    replace hg := hg.symm
    subst hg
    refine W.eq (g2 := F0 m 17 ls [.int (if 0 ≤ v ∧ v ≤ 9 then 1 else 0)]) rfl ?_
    refine zb_ne (tgt := 22) hx hb dX9_faults_17 (by decide) (fun c17 => ?_) (fun c17 => ?_)
    · refine lv_aload_n hx hb dX9_faults_22 rfl (lv_at hl 0 rfl) ?_
      refine z_get (ci := 3) (fs := [.ref (X 2 j), .int (nI (S.1 3 j)), .ref (X 3 j), .int (S.2.1 6 j)]) (C := RX3) (T := TX3) (N := 4) hx hb hts in_X3 hown hK hZ (f1 hF hj) rfl 3 (by decide) fl_70 (fun _ h9 => h9) rfl dX9_faults_23 ?_
      refine lv_istore (lv' := [(4, .int (S.2.1 6 j)), (3, .ref (X 1 j)), (0, .ref (X 0 0)), (1, .int x), (2, .int v)]) hx hb dX9_faults_26 hl (by decide) rfl (fun ls hl => ?_)
      refine lv_aload_n hx hb dX9_faults_28 rfl (lv_at hl 1 rfl) ?_
      refine lv_iload_n hx hb dX9_faults_29 rfl (lv_at hl 4 rfl) ?_
      refine z_put (ci := 3) (fs := [.ref (X 2 j), .int (nI (S.1 3 j)), .ref (X 3 j), .int (S.2.1 6 j)]) (fs' := [.ref (X 2 j), .int (nI (S.1 3 j)), .ref (X 3 j), .int v]) (v := .int v) (ty := .int) (C := RX3) (T := TX3) (N := 4) hx hb hts in_X3 tyX3 tyX3_ok nmX3 hown hK hZ (f1 hF hj) rfl 3 (by decide) fl_70 (fun _ h9 => h9) rfl (by decide +kernel) rfl rfl (Nat.le_of_ble_eq_true rfl) rfl dX9_faults_30 (fun H locs hZ => ?_)
      refine lv_iload hx hb dX9_faults_33 (lv_at hl 0 rfl) ?_
      exact z_iret hx hb hr hlocks hZ dX9_faults_35 (by rw [sp_faults, hh]; simp only []; rw [if_pos c17]; exact ⟨⟨X, rfl, _, _, _, _, _, _, fr_faults hF hj v⟩, rfl⟩)
    · refine lv_iconst (v := (-1)) hx hb dX9_faults_20 (by decide) ?_
      exact z_iret hx hb hr hlocks hZ dX9_faults_21 (fQ_of (by rw [sp_faults, hh]; simp only []; rw [if_neg c17]) rfl ⟨_, _, _, _, _, _, hF⟩)

set_option maxHeartbeats 4000000 in
set_option maxRecDepth 100000 in
theorem c_X9_points (l : Launch) (D : va_G) (cT : Nat → ClassId) (G : zG) (sz : Nat) (S : zS) (X : Nat → Nat → Nat) (ct md sc rp : Int32) (fo fd : Nat → Int32) (nn : Nat) (x : Int32) (hF : FR cT S X ct md sc rp fo fd G) (hS : ok S nn)  : zM l D cT yX9_points wsX9_points (zR 3 0 0) [.ref (X 0 0), .int x] G sz (fQ cT (X 0 0) (sp_points S x)) := by
  refine z_start (cc := cX9_points) (maxL := 3) (ret := (some .int)) (by decide) rfl (Nat.le_of_ble_eq_true rfl) ?_
  intro p e s m below meth c ls hI hZ hl
  obtain ⟨hx, hb, hr, hml, hts, hown, hlocks, hname, hK, hA, hE⟩ := hI
  have hl : lv_has ls 3 [(0, .ref (X 0 0)), (1, .int x)] := hl
  have hown : s.vm.findClass RX9 = some m.cls := hown
  have in_X3 : ∀ w ∈ u_ws RX3 TX3 4, w ∈ wsX9_points := by decide +kernel
  have in_X9 : ∀ w ∈ u_ws RX9 TX9 12, w ∈ wsX9_points := by decide +kernel
  have fl_73 := hts (.fieldLink RX9 73 "FairRents" "traced" "J") (by decide +kernel)
  have fl_77 := hts (.fieldLink RX9 77 "FairRents$Home" "body" "LFairRents$Plain;") (by decide +kernel)
  obtain ⟨⟨k1, k10, k20, k0⟩, kH, k9, k8, k15, k26, kL, kLn, kP, kE, kEm, kn⟩ := id hS
  refine lv_aload_n hx hb dX9_points_0 rfl (lv_at hl 0 rfl) ?_
  refine lv_iload_n hx hb dX9_points_1 rfl (lv_at hl 1 rfl) ?_
  refine z_call (va_runV (As := [.int x]) (rest := []) ⟨hx, hb, hml, hown, hts⟩ (c_X9_homeAt l D cT _ _ S X _ _ _ _ _ _ nn x hF hS ) (cwV 1 hts gX9_points_X9_homeAt rfl rfl rfl (by decide +kernel) ⟨(Nat.le_of_ble_eq_true rfl), (Nat.le_of_ble_eq_true rfl)⟩) (z_preV hK hE hZ hA (ci := 9) rfl (f00 hF)) rfl rfl hl.1 rfl (lv_room (Nat.le_of_ble_eq_true rfl)) dX9_points_2 ⟨(Nat.le_of_ble_eq_true rfl), (Nat.le_of_ble_eq_true rfl)⟩) hZ hA (fun r G2 H locs hq hZ => ?_)
  obtain ⟨hg, rfl⟩ := hq
  replace hg := hg.symm
  subst hg
  refine W.eq (g2 := F0 m 5 ls [va_rf ((hix S x).map (X 1))]) rfl ?_
  rcases hh : hix S x with _ | j
  · refine W.eq (g2 := F0 m 5 ls [.null]) rfl ?_
    refine lv_astore_nN (lv' := [(2, .null), (0, .ref (X 0 0)), (1, .int x)]) hx hb dX9_points_5 rfl hl (by decide) rfl (fun ls hl => ?_)
    refine lv_aload_nN hx hb dX9_points_6 rfl (lv_at hl 0 rfl) ?_
    refine lv_ifnonnullN hx hb dX9_points_7 ?_
    refine lv_iconst (v := (-1)) hx hb dX9_points_10 (by decide) ?_
    exact z_iret hx hb hr hlocks hZ dX9_points_11 (fQ_of (by rw [sp_points, hh]) rfl ⟨_, _, _, _, _, _, hF⟩)
  · refine W.eq (g2 := F0 m 5 ls [.ref (X 1 j)]) rfl ?_
    obtain ⟨hj, hxj⟩ := hix_some k1 hh
    refine lv_astore_n (lv' := [(2, .ref (X 1 j)), (0, .ref (X 0 0)), (1, .int x)]) hx hb dX9_points_5 rfl hl (by decide) rfl (fun ls hl => ?_)
    refine lv_aload_n hx hb dX9_points_6 rfl (lv_at hl 0 rfl) ?_
    refine lv_ifnonnull (tgt := 12) hx hb dX9_points_7 (by decide) ?_
    have hk3 : S.1 2 j = 0 ∨ S.1 2 j = 1 ∨ S.1 2 j = 2 := by have := (kH j hj).1; omega
    rcases hk3 with hk | hk | hk
    · refine lv_aload_n hx hb dX9_points_12 rfl (lv_at hl 1 rfl) ?_
      refine lv_dup hx hb dX9_points_13 rfl ?_
      refine z_get (ci := 9) (fs := [.ref (X 0 1), .ref (X 0 2), .ref (X 0 3), .ref (X 0 4), .ref (X 0 5), .ref (X 0 7), .ref (X 0 9), .int (nI (S.1 1 0)), .int (nI (S.1 10 0)), .int (nI (S.1 20 0)), .int (nI (S.1 0 0)), .long S.2.2]) (C := RX9) (T := TX9) (N := 12) hx hb hts in_X9 hown hK hZ (f00 hF) rfl 11 (by decide) fl_73 (fun _ h9 => h9) rfl dX9_points_14 ?_
      refine lv_aload_n hx hb dX9_points_17 rfl (lv_at hl 0 rfl) ?_
      refine z_get (ci := 3) (fs := [.ref (X 2 j), .int (nI (S.1 3 j)), .ref (X 3 j), .int (S.2.1 6 j)]) (C := RX3) (T := TX3) (N := 4) hx hb hts in_X3 hown hK hZ (f1 hF hj) rfl 0 (by decide) fl_77 (fun _ h9 => h9) rfl dX9_points_18 ?_
      refine z_call (va_runV (As := []) (rest := [.long S.2.2, .ref (X 0 0)]) ⟨hx, hb, hml, hown, hts⟩ (c_X8_marks_X8 l D cT _ _ (X 2 j) (nI (S.1 4 j)) (f2_0 hF hj hk)) (cwV 0 hts gX9_points_X8_marks rfl rfl rfl (by decide +kernel) ⟨(Nat.le_of_ble_eq_true rfl), (Nat.le_of_ble_eq_true rfl)⟩) (z_preV hK hE hZ hA (ci := 8) rfl (f2_0 hF hj hk)) rfl rfl hl.1 rfl (lv_room (Nat.le_of_ble_eq_true rfl)) dX9_points_21 ⟨(Nat.le_of_ble_eq_true rfl), (Nat.le_of_ble_eq_true rfl)⟩) hZ hA (fun r G21 H locs hq hZ => ?_)
      obtain ⟨hg, rfl⟩ := hq
      replace hg := hg.symm
      subst hg
      refine W.eq (g2 := F0 m 24 ls [.int 1, .long S.2.2, .ref (X 0 0)]) rfl ?_
      refine lv_i2l hx hb dX9_points_24 rfl ?_
      refine W.eq (congrArg (fun v => F0 m 25 ls (.long v :: [.long S.2.2, .ref (X 0 0)])) (show _ = mks S j from mkk_0 hk)) ?_
      refine W.eq (g2 := F0 m 25 ls [.long (mks S j), .long S.2.2, .ref (X 0 0)]) rfl ?_
      refine lv_ladd hx hb dX9_points_25 ?_
      refine z_put (ci := 9) (fs := [.ref (X 0 1), .ref (X 0 2), .ref (X 0 3), .ref (X 0 4), .ref (X 0 5), .ref (X 0 7), .ref (X 0 9), .int (nI (S.1 1 0)), .int (nI (S.1 10 0)), .int (nI (S.1 20 0)), .int (nI (S.1 0 0)), .long S.2.2]) (fs' := [.ref (X 0 1), .ref (X 0 2), .ref (X 0 3), .ref (X 0 4), .ref (X 0 5), .ref (X 0 7), .ref (X 0 9), .int (nI (S.1 1 0)), .int (nI (S.1 10 0)), .int (nI (S.1 20 0)), .int (nI (S.1 0 0)), .long (S.2.2 + (mks S j))]) (v := .long (S.2.2 + (mks S j))) (ty := .long) (C := RX9) (T := TX9) (N := 12) hx hb hts in_X9 tyX9 tyX9_ok nmX9 hown hK hZ (f00 hF) rfl 11 (by decide) fl_73 (fun _ h9 => h9) rfl (by decide +kernel) rfl rfl (Nat.le_of_ble_eq_true rfl) rfl dX9_points_26 (fun H locs hZ => ?_)
      refine lv_aload_n hx hb dX9_points_29 rfl (lv_at hl 0 rfl) ?_
      refine z_get (ci := 3) (fs := [.ref (X 2 j), .int (nI (S.1 3 j)), .ref (X 3 j), .int (S.2.1 6 j)]) (C := RX3) (T := TX3) (N := 4) hx hb hts in_X3 hown hK hZ ((va_up_ne _ _ (z_neOO (f1 hF hj) (f00 hF) (by decide))).trans (f1 hF hj)) rfl 0 (by decide) fl_77 (fun _ h9 => h9) rfl dX9_points_30 ?_
      refine z_call (va_runV (As := []) (rest := []) ⟨hx, hb, hml, hown, hts⟩ (c_X8_worth_X8 l D cT _ _ (X 2 j) (nI (S.1 4 j)) ((va_up_ne _ _ (z_neOO (f2_0 hF hj hk) (f00 hF) (by decide))).trans (f2_0 hF hj hk))) (cwV 0 hts gX9_points_X8_worth rfl rfl rfl (by decide +kernel) ⟨(Nat.le_of_ble_eq_true rfl), (Nat.le_of_ble_eq_true rfl)⟩) (z_preV hK hE hZ hA (ci := 8) rfl ((va_up_ne _ _ (z_neOO (f2_0 hF hj hk) (f00 hF) (by decide))).trans (f2_0 hF hj hk))) rfl rfl hl.1 rfl (lv_room (Nat.le_of_ble_eq_true rfl)) dX9_points_33 ⟨(Nat.le_of_ble_eq_true rfl), (Nat.le_of_ble_eq_true rfl)⟩) hZ hA (fun r G33 H locs hq hZ => ?_)
      obtain ⟨hg, rfl⟩ := hq
      replace hg := hg.symm
      subst hg
      refine W.eq (g2 := F0 m 36 ls [.int (10 * (nI (S.1 4 j)))]) rfl ?_
      refine W.eq (congrArg (fun v => F0 m 36 ls (.int v :: [])) (show _ = pts S j from ptk_0 hk)) ?_
      refine W.eq (g2 := F0 m 36 ls [.int (pts S j)]) rfl ?_
      exact z_iret hx hb hr hlocks hZ dX9_points_36 (by rw [sp_points, hh]; exact ⟨⟨X, rfl, _, _, _, _, _, _, fr_tr hF _⟩, rfl⟩)
    · refine lv_aload_n hx hb dX9_points_12 rfl (lv_at hl 1 rfl) ?_
      refine lv_dup hx hb dX9_points_13 rfl ?_
      refine z_get (ci := 9) (fs := [.ref (X 0 1), .ref (X 0 2), .ref (X 0 3), .ref (X 0 4), .ref (X 0 5), .ref (X 0 7), .ref (X 0 9), .int (nI (S.1 1 0)), .int (nI (S.1 10 0)), .int (nI (S.1 20 0)), .int (nI (S.1 0 0)), .long S.2.2]) (C := RX9) (T := TX9) (N := 12) hx hb hts in_X9 hown hK hZ (f00 hF) rfl 11 (by decide) fl_73 (fun _ h9 => h9) rfl dX9_points_14 ?_
      refine lv_aload_n hx hb dX9_points_17 rfl (lv_at hl 0 rfl) ?_
      refine z_get (ci := 3) (fs := [.ref (X 2 j), .int (nI (S.1 3 j)), .ref (X 3 j), .int (S.2.1 6 j)]) (C := RX3) (T := TX3) (N := 4) hx hb hts in_X3 hown hK hZ (f1 hF hj) rfl 0 (by decide) fl_77 (fun _ h9 => h9) rfl dX9_points_18 ?_
      refine z_call (va_runU (As := []) (rest := [.long S.2.2, .ref (X 0 0)]) ⟨hx, hb, hml, hown, hts⟩ (c_X1_marks_X1 l D cT _ _ (X 2 j) (nI (S.1 4 j)) (nI (S.1 5 j)) (f2_1 hF hj hk)) (va_cwO 0 hts gX9_points_X1_marks_u81X1 rfl rfl rfl (List.mem_of_getElem? (i := 23) rfl) (by decide +kernel) ⟨(Nat.le_of_ble_eq_true rfl), (Nat.le_of_ble_eq_true rfl)⟩) (z_preV hK hE hZ hA (ci := 1) rfl (f2_1 hF hj hk)) rfl rfl hl.1 rfl (lv_room (Nat.le_of_ble_eq_true rfl)) dX9_points_21 ⟨(Nat.le_of_ble_eq_true rfl), (Nat.le_of_ble_eq_true rfl)⟩) hZ hA (fun r G21 H locs hq hZ => ?_)
      obtain ⟨hg, rfl⟩ := hq
      replace hg := hg.symm
      subst hg
      refine W.eq (g2 := F0 m 24 ls [.int (1 + 10), .long S.2.2, .ref (X 0 0)]) rfl ?_
      refine lv_i2l hx hb dX9_points_24 rfl ?_
      refine W.eq (congrArg (fun v => F0 m 25 ls (.long v :: [.long S.2.2, .ref (X 0 0)])) (show _ = mks S j from mkk_1 hk)) ?_
      refine W.eq (g2 := F0 m 25 ls [.long (mks S j), .long S.2.2, .ref (X 0 0)]) rfl ?_
      refine lv_ladd hx hb dX9_points_25 ?_
      refine z_put (ci := 9) (fs := [.ref (X 0 1), .ref (X 0 2), .ref (X 0 3), .ref (X 0 4), .ref (X 0 5), .ref (X 0 7), .ref (X 0 9), .int (nI (S.1 1 0)), .int (nI (S.1 10 0)), .int (nI (S.1 20 0)), .int (nI (S.1 0 0)), .long S.2.2]) (fs' := [.ref (X 0 1), .ref (X 0 2), .ref (X 0 3), .ref (X 0 4), .ref (X 0 5), .ref (X 0 7), .ref (X 0 9), .int (nI (S.1 1 0)), .int (nI (S.1 10 0)), .int (nI (S.1 20 0)), .int (nI (S.1 0 0)), .long (S.2.2 + (mks S j))]) (v := .long (S.2.2 + (mks S j))) (ty := .long) (C := RX9) (T := TX9) (N := 12) hx hb hts in_X9 tyX9 tyX9_ok nmX9 hown hK hZ (f00 hF) rfl 11 (by decide) fl_73 (fun _ h9 => h9) rfl (by decide +kernel) rfl rfl (Nat.le_of_ble_eq_true rfl) rfl dX9_points_26 (fun H locs hZ => ?_)
      refine lv_aload_n hx hb dX9_points_29 rfl (lv_at hl 0 rfl) ?_
      refine z_get (ci := 3) (fs := [.ref (X 2 j), .int (nI (S.1 3 j)), .ref (X 3 j), .int (S.2.1 6 j)]) (C := RX3) (T := TX3) (N := 4) hx hb hts in_X3 hown hK hZ ((va_up_ne _ _ (z_neOO (f1 hF hj) (f00 hF) (by decide))).trans (f1 hF hj)) rfl 0 (by decide) fl_77 (fun _ h9 => h9) rfl dX9_points_30 ?_
      refine z_call (va_runU (As := []) (rest := []) ⟨hx, hb, hml, hown, hts⟩ (c_X1_worth_X1 l D cT _ _ (X 2 j) (nI (S.1 4 j)) (nI (S.1 5 j)) ((va_up_ne _ _ (z_neOO (f2_1 hF hj hk) (f00 hF) (by decide))).trans (f2_1 hF hj hk))) (va_cwO 0 hts gX9_points_X1_worth_u87X1 rfl rfl rfl (List.mem_of_getElem? (i := 42) rfl) (by decide +kernel) ⟨(Nat.le_of_ble_eq_true rfl), (Nat.le_of_ble_eq_true rfl)⟩) (z_preV hK hE hZ hA (ci := 1) rfl ((va_up_ne _ _ (z_neOO (f2_1 hF hj hk) (f00 hF) (by decide))).trans (f2_1 hF hj hk))) rfl rfl hl.1 rfl (lv_room (Nat.le_of_ble_eq_true rfl)) dX9_points_33 ⟨(Nat.le_of_ble_eq_true rfl), (Nat.le_of_ble_eq_true rfl)⟩) hZ hA (fun r G33 H locs hq hZ => ?_)
      obtain ⟨hg, rfl⟩ := hq
      replace hg := hg.symm
      subst hg
      refine W.eq (g2 := F0 m 36 ls [.int (10 * (nI (S.1 4 j)) - 2 * (nI (S.1 5 j)))]) rfl ?_
      refine W.eq (congrArg (fun v => F0 m 36 ls (.int v :: [])) (show _ = pts S j from ptk_1 hk)) ?_
      refine W.eq (g2 := F0 m 36 ls [.int (pts S j)]) rfl ?_
      exact z_iret hx hb hr hlocks hZ dX9_points_36 (by rw [sp_points, hh]; exact ⟨⟨X, rfl, _, _, _, _, _, _, fr_tr hF _⟩, rfl⟩)
    · refine lv_aload_n hx hb dX9_points_12 rfl (lv_at hl 1 rfl) ?_
      refine lv_dup hx hb dX9_points_13 rfl ?_
      refine z_get (ci := 9) (fs := [.ref (X 0 1), .ref (X 0 2), .ref (X 0 3), .ref (X 0 4), .ref (X 0 5), .ref (X 0 7), .ref (X 0 9), .int (nI (S.1 1 0)), .int (nI (S.1 10 0)), .int (nI (S.1 20 0)), .int (nI (S.1 0 0)), .long S.2.2]) (C := RX9) (T := TX9) (N := 12) hx hb hts in_X9 hown hK hZ (f00 hF) rfl 11 (by decide) fl_73 (fun _ h9 => h9) rfl dX9_points_14 ?_
      refine lv_aload_n hx hb dX9_points_17 rfl (lv_at hl 0 rfl) ?_
      refine z_get (ci := 3) (fs := [.ref (X 2 j), .int (nI (S.1 3 j)), .ref (X 3 j), .int (S.2.1 6 j)]) (C := RX3) (T := TX3) (N := 4) hx hb hts in_X3 hown hK hZ (f1 hF hj) rfl 0 (by decide) fl_77 (fun _ h9 => h9) rfl dX9_points_18 ?_
      refine z_call (va_runU (As := []) (rest := [.long S.2.2, .ref (X 0 0)]) ⟨hx, hb, hml, hown, hts⟩ (c_X7_marks_X7 l D cT _ _ (X 2 j) (nI (S.1 4 j)) (nI (S.1 5 j)) (f2_2 hF hj hk)) (va_cwO 0 hts gX9_points_X7_marks_u81X7 rfl rfl rfl (List.mem_of_getElem? (i := 23) rfl) (by decide +kernel) ⟨(Nat.le_of_ble_eq_true rfl), (Nat.le_of_ble_eq_true rfl)⟩) (z_preV hK hE hZ hA (ci := 7) rfl (f2_2 hF hj hk)) rfl rfl hl.1 rfl (lv_room (Nat.le_of_ble_eq_true rfl)) dX9_points_21 ⟨(Nat.le_of_ble_eq_true rfl), (Nat.le_of_ble_eq_true rfl)⟩) hZ hA (fun r G21 H locs hq hZ => ?_)
      obtain ⟨hg, rfl⟩ := hq
      replace hg := hg.symm
      subst hg
      refine W.eq (g2 := F0 m 24 ls [.int (1 + 10 + 100), .long S.2.2, .ref (X 0 0)]) rfl ?_
      refine lv_i2l hx hb dX9_points_24 rfl ?_
      refine W.eq (congrArg (fun v => F0 m 25 ls (.long v :: [.long S.2.2, .ref (X 0 0)])) (show _ = mks S j from mkk_2 hk)) ?_
      refine W.eq (g2 := F0 m 25 ls [.long (mks S j), .long S.2.2, .ref (X 0 0)]) rfl ?_
      refine lv_ladd hx hb dX9_points_25 ?_
      refine z_put (ci := 9) (fs := [.ref (X 0 1), .ref (X 0 2), .ref (X 0 3), .ref (X 0 4), .ref (X 0 5), .ref (X 0 7), .ref (X 0 9), .int (nI (S.1 1 0)), .int (nI (S.1 10 0)), .int (nI (S.1 20 0)), .int (nI (S.1 0 0)), .long S.2.2]) (fs' := [.ref (X 0 1), .ref (X 0 2), .ref (X 0 3), .ref (X 0 4), .ref (X 0 5), .ref (X 0 7), .ref (X 0 9), .int (nI (S.1 1 0)), .int (nI (S.1 10 0)), .int (nI (S.1 20 0)), .int (nI (S.1 0 0)), .long (S.2.2 + (mks S j))]) (v := .long (S.2.2 + (mks S j))) (ty := .long) (C := RX9) (T := TX9) (N := 12) hx hb hts in_X9 tyX9 tyX9_ok nmX9 hown hK hZ (f00 hF) rfl 11 (by decide) fl_73 (fun _ h9 => h9) rfl (by decide +kernel) rfl rfl (Nat.le_of_ble_eq_true rfl) rfl dX9_points_26 (fun H locs hZ => ?_)
      refine lv_aload_n hx hb dX9_points_29 rfl (lv_at hl 0 rfl) ?_
      refine z_get (ci := 3) (fs := [.ref (X 2 j), .int (nI (S.1 3 j)), .ref (X 3 j), .int (S.2.1 6 j)]) (C := RX3) (T := TX3) (N := 4) hx hb hts in_X3 hown hK hZ ((va_up_ne _ _ (z_neOO (f1 hF hj) (f00 hF) (by decide))).trans (f1 hF hj)) rfl 0 (by decide) fl_77 (fun _ h9 => h9) rfl dX9_points_30 ?_
      refine z_call (va_runU (As := []) (rest := []) ⟨hx, hb, hml, hown, hts⟩ (c_X7_worth_X7 l D cT _ _ (X 2 j) (nI (S.1 4 j)) (nI (S.1 5 j)) ((va_up_ne _ _ (z_neOO (f2_2 hF hj hk) (f00 hF) (by decide))).trans (f2_2 hF hj hk))) (va_cwO 0 hts gX9_points_X7_worth_u87X7 rfl rfl rfl (List.mem_of_getElem? (i := 42) rfl) (by decide +kernel) ⟨(Nat.le_of_ble_eq_true rfl), (Nat.le_of_ble_eq_true rfl)⟩) (z_preV hK hE hZ hA (ci := 7) rfl ((va_up_ne _ _ (z_neOO (f2_2 hF hj hk) (f00 hF) (by decide))).trans (f2_2 hF hj hk))) rfl rfl hl.1 rfl (lv_room (Nat.le_of_ble_eq_true rfl)) dX9_points_33 ⟨(Nat.le_of_ble_eq_true rfl), (Nat.le_of_ble_eq_true rfl)⟩) hZ hA (fun r G33 H locs hq hZ => ?_)
      obtain ⟨hg, rfl⟩ := hq
      replace hg := hg.symm
      subst hg
      refine W.eq (g2 := F0 m 36 ls [.int (10 * (nI (S.1 4 j)) - 2 * (nI (S.1 5 j)) - zfd (10 * (nI (S.1 4 j)) - 2 * (nI (S.1 5 j))))]) rfl ?_
      refine W.eq (congrArg (fun v => F0 m 36 ls (.int v :: [])) (show _ = pts S j from ptk_2 hk)) ?_
      refine W.eq (g2 := F0 m 36 ls [.int (pts S j)]) rfl ?_
      exact z_iret hx hb hr hlocks hZ dX9_points_36 (by rw [sp_points, hh]; exact ⟨⟨X, rfl, _, _, _, _, _, _, fr_tr hF _⟩, rfl⟩)

set_option maxHeartbeats 4000000 in
set_option maxRecDepth 100000 in
theorem c_X9_days (l : Launch) (D : va_G) (cT : Nat → ClassId) (G : zG) (sz : Nat) (S : zS) (X : Nat → Nat → Nat) (ct md sc rp : Int32) (fo fd : Nat → Int32) (nn : Nat) (x : Int32) (hF : FR cT S X ct md sc rp fo fd G) (hS : ok S nn)  : zM l D cT yX9_days wsX9_days (zR 1 0 0) [.ref (X 0 0), .int x] G sz (fQ cT (X 0 0) (sp_days S x)) := by
  refine z_start (cc := cX9_days) (maxL := 2) (ret := (some .int)) (by decide) rfl (Nat.le_of_ble_eq_true rfl) ?_
  intro p e s m below meth c ls hI hZ hl
  obtain ⟨hx, hb, hr, hml, hts, hown, hlocks, hname, hK, hA, hE⟩ := hI
  have hl : lv_has ls 2 [(0, .ref (X 0 0)), (1, .int x)] := hl
  have hown : s.vm.findClass RX9 = some m.cls := hown
  have in_X9 : ∀ w ∈ u_ws RX9 TX9 12, w ∈ wsX9_days := by decide +kernel
  have fl_94 := hts (.fieldLink RX9 94 "FairRents" "today" "I") (by decide +kernel)
  obtain ⟨⟨k1, k10, k20, k0⟩, kH, k9, k8, k15, k26, kL, kLn, kP, kE, kEm, kn⟩ := id hS
  refine lv_iload_n hx hb dX9_days_0 rfl (lv_at hl 1 rfl) ?_
  refine lv_iconst (v := 1) hx hb dX9_days_1 (by decide) ?_
  refine lv_bipush (v := 30) hx hb dX9_days_2 (by decide) ?_
  refine z_call (va_runS (As := [.int x, .int 1, .int 30]) (rest := []) ⟨hx, hb, hml, hown, hts⟩ (c_X9_within l D cT _ _ x 1 30) (va_cwS 3 hts gX9_days_X9_within rfl rfl rfl (by decide +kernel) ⟨(Nat.le_of_ble_eq_true rfl), (Nat.le_of_ble_eq_true rfl)⟩) (z_preS hK hE hZ hA) rfl rfl hl.1 rfl (lv_room (Nat.le_of_ble_eq_true rfl)) dX9_days_4 ⟨(Nat.le_of_ble_eq_true rfl), (Nat.le_of_ble_eq_true rfl)⟩) hZ hA (fun r G4 H locs hq hZ => ?_)
  obtain ⟨hg, rfl⟩ := hq
  replace hg := hg.symm
  subst hg
  refine W.eq (g2 := F0 m 7 ls [.int (if 1 ≤ x ∧ x ≤ 30 then 1 else 0)]) rfl ?_
  refine zb_ne (tgt := 12) hx hb dX9_days_7 (by decide) (fun c7 => ?_) (fun c7 => ?_)
  · have hxd : x = nI x.toNatClampNeg := (z_self (z_le01 c7.1)).symm
    have hd : x.toNatClampNeg ≤ 30 := z_cl ⟨z_le01 c7.1, c7.2⟩ (by decide)
    refine lv_aload_n hx hb dX9_days_12 rfl (lv_at hl 0 rfl) ?_
    refine z_get (ci := 9) (fs := [.ref (X 0 1), .ref (X 0 2), .ref (X 0 3), .ref (X 0 4), .ref (X 0 5), .ref (X 0 7), .ref (X 0 9), .int (nI (S.1 1 0)), .int (nI (S.1 10 0)), .int (nI (S.1 20 0)), .int (nI (S.1 0 0)), .long S.2.2]) (C := RX9) (T := TX9) (N := 12) hx hb hts in_X9 hown hK hZ (f00 hF) rfl 10 (by decide) fl_94 (fun _ h9 => h9) rfl dX9_days_13 ?_
    refine lv_iload_n hx hb dX9_days_16 rfl (lv_at hl 1 rfl) ?_
    refine lv_iadd hx hb dX9_days_17 ?_
    refine W.eq (congrArg (fun v => F0 m 18 ls (.int v :: [])) (show _ = nI (S.1 0 0 + x.toNatClampNeg) from day_add hxd)) ?_
    refine W.eq (g2 := F0 m 18 ls [.int (nI (S.1 0 0 + x.toNatClampNeg))]) rfl ?_
    refine lv_sipush (v := 300) hx hb dX9_days_18 (by decide) ?_
    refine lv_icmp_le (tgt := 27) hx hb dX9_days_21 (by decide) (fun c21 => ?_) (fun c21 => ?_)
    · have hz : ¬ 300 < S.1 0 0 + x.toNatClampNeg := fun h => nI_ge h (by omega) c21
      refine lv_aload_n hx hb dX9_days_27 rfl (lv_at hl 0 rfl) ?_
      refine lv_dup hx hb dX9_days_28 rfl ?_
      refine z_get (ci := 9) (fs := [.ref (X 0 1), .ref (X 0 2), .ref (X 0 3), .ref (X 0 4), .ref (X 0 5), .ref (X 0 7), .ref (X 0 9), .int (nI (S.1 1 0)), .int (nI (S.1 10 0)), .int (nI (S.1 20 0)), .int (nI (S.1 0 0)), .long S.2.2]) (C := RX9) (T := TX9) (N := 12) hx hb hts in_X9 hown hK hZ (f00 hF) rfl 10 (by decide) fl_94 (fun _ h9 => h9) rfl dX9_days_29 ?_
      refine lv_iload_n hx hb dX9_days_32 rfl (lv_at hl 1 rfl) ?_
      refine lv_iadd hx hb dX9_days_33 ?_
      refine W.eq (congrArg (fun v => F0 m 34 ls (.int v :: [.ref (X 0 0)])) (show _ = nI (S.1 0 0 + x.toNatClampNeg) from day_add hxd)) ?_
      refine W.eq (g2 := F0 m 34 ls [.int (nI (S.1 0 0 + x.toNatClampNeg)), .ref (X 0 0)]) rfl ?_
      refine z_put (ci := 9) (fs := [.ref (X 0 1), .ref (X 0 2), .ref (X 0 3), .ref (X 0 4), .ref (X 0 5), .ref (X 0 7), .ref (X 0 9), .int (nI (S.1 1 0)), .int (nI (S.1 10 0)), .int (nI (S.1 20 0)), .int (nI (S.1 0 0)), .long S.2.2]) (fs' := [.ref (X 0 1), .ref (X 0 2), .ref (X 0 3), .ref (X 0 4), .ref (X 0 5), .ref (X 0 7), .ref (X 0 9), .int (nI (S.1 1 0)), .int (nI (S.1 10 0)), .int (nI (S.1 20 0)), .int (nI (S.1 0 0 + x.toNatClampNeg)), .long S.2.2]) (v := .int (nI (S.1 0 0 + x.toNatClampNeg))) (ty := .int) (C := RX9) (T := TX9) (N := 12) hx hb hts in_X9 tyX9 tyX9_ok nmX9 hown hK hZ (f00 hF) rfl 10 (by decide) fl_94 (fun _ h9 => h9) rfl (by decide +kernel) rfl rfl (Nat.le_of_ble_eq_true rfl) rfl dX9_days_34 (fun H locs hZ => ?_)
      refine lv_aload_n hx hb dX9_days_37 rfl (lv_at hl 0 rfl) ?_
      refine z_get (ci := 9) (fs := [.ref (X 0 1), .ref (X 0 2), .ref (X 0 3), .ref (X 0 4), .ref (X 0 5), .ref (X 0 7), .ref (X 0 9), .int (nI (S.1 1 0)), .int (nI (S.1 10 0)), .int (nI (S.1 20 0)), .int (nI (S.1 0 0 + x.toNatClampNeg)), .long S.2.2]) (C := RX9) (T := TX9) (N := 12) hx hb hts in_X9 hown hK hZ (va_up_self _ _ _) rfl 10 (by decide) fl_94 (fun _ h9 => h9) rfl dX9_days_38 ?_
      exact z_iret hx hb hr hlocks hZ dX9_days_41 (by rw [sp_days, if_pos c7, if_neg hz]; exact ⟨⟨X, rfl, _, _, _, _, _, _, fr_days hF _⟩, rfl⟩)
    · have hz : 300 < S.1 0 0 + x.toNatClampNeg := Nat.not_le.mp (fun h => c21 (nI_le h (by decide)))
      refine lv_bipush (v := (-2)) hx hb dX9_days_24 (by decide) ?_
      exact z_iret hx hb hr hlocks hZ dX9_days_26 (fQ_of (by rw [sp_days, if_pos c7, if_pos hz]) rfl ⟨_, _, _, _, _, _, hF⟩)
  · refine lv_iconst (v := (-1)) hx hb dX9_days_10 (by decide) ?_
    exact z_iret hx hb hr hlocks hZ dX9_days_11 (fQ_of (by rw [sp_days, if_neg c7]) rfl ⟨_, _, _, _, _, _, hF⟩)

set_option maxHeartbeats 4000000 in
set_option maxRecDepth 100000 in
theorem c_X9_strike (l : Launch) (D : va_G) (cT : Nat → ClassId) (G : zG) (sz : Nat) (S : zS) (X : Nat → Nat → Nat) (ct md sc rp : Int32) (fo fd : Nat → Int32) (nn : Nat) (x : Int32) (hF : FR cT S X ct md sc rp fo fd G) (hS : ok S nn)  : zM l D cT yX9_strike wsX9_strike (zR 1 0 0) [.ref (X 0 0), .int x] G sz (fQ cT (X 0 0) (sp_strike S x)) := by
  refine z_start (cc := cX9_strike) (maxL := 3) (ret := (some .int)) (by decide) rfl (Nat.le_of_ble_eq_true rfl) ?_
  intro p e s m below meth c ls hI hZ hl
  obtain ⟨hx, hb, hr, hml, hts, hown, hlocks, hname, hK, hA, hE⟩ := hI
  have hl : lv_has ls 3 [(0, .ref (X 0 0)), (1, .int x)] := hl
  have hown : s.vm.findClass RX9 = some m.cls := hown
  have in_X6 : ∀ w ∈ u_ws RX6 TX6 5, w ∈ wsX9_strike := by decide +kernel
  have in_X9 : ∀ w ∈ u_ws RX9 TX9 12, w ∈ wsX9_strike := by decide +kernel
  have fl_17 := hts (.fieldLink RX9 17 "FairRents" "likes" "[LFairRents$Like;") (by decide +kernel)
  have fl_111 := hts (.fieldLink RX9 111 "FairRents$Like" "struck" "Z") (by decide +kernel)
  obtain ⟨⟨k1, k10, k20, k0⟩, kH, k9, k8, k15, k26, kL, kLn, kP, kE, kEm, kn⟩ := id hS
  refine lv_iload_n hx hb dX9_strike_0 rfl (lv_at hl 1 rfl) ?_
  refine lv_iconst (v := 0) hx hb dX9_strike_1 (by decide) ?_
  refine lv_aload_n hx hb dX9_strike_2 rfl (lv_at hl 0 rfl) ?_
  refine z_get (ci := 9) (fs := [.ref (X 0 1), .ref (X 0 2), .ref (X 0 3), .ref (X 0 4), .ref (X 0 5), .ref (X 0 7), .ref (X 0 9), .int (nI (S.1 1 0)), .int (nI (S.1 10 0)), .int (nI (S.1 20 0)), .int (nI (S.1 0 0)), .long S.2.2]) (C := RX9) (T := TX9) (N := 12) hx hb hts in_X9 hown hK hZ (f00 hF) rfl 1 (by decide) fl_17 (fun _ h9 => h9) rfl dX9_strike_3 ?_
  refine z_alen hx hb hK hZ 3 (f02 hF) rfl dX9_strike_6 ?_
  refine lv_iconst (v := 1) hx hb dX9_strike_7 (by decide) ?_
  refine lv_isub hx hb dX9_strike_8 ?_
  refine z_call (va_runS (As := [.int x, .int 0, .int ((nI 12) - 1)]) (rest := []) ⟨hx, hb, hml, hown, hts⟩ (c_X9_within l D cT _ _ x 0 ((nI 12) - 1)) (va_cwS 3 hts gX9_strike_X9_within rfl rfl rfl (by decide +kernel) ⟨(Nat.le_of_ble_eq_true rfl), (Nat.le_of_ble_eq_true rfl)⟩) (z_preS hK hE hZ hA) rfl rfl hl.1 rfl (lv_room (Nat.le_of_ble_eq_true rfl)) dX9_strike_9 ⟨(Nat.le_of_ble_eq_true rfl), (Nat.le_of_ble_eq_true rfl)⟩) hZ hA (fun r G9 H locs hq hZ => ?_)
  obtain ⟨hg, rfl⟩ := hq
  replace hg := hg.symm
  subst hg
  refine W.eq (g2 := F0 m 12 ls [.int (if 0 ≤ x ∧ x ≤ ((nI 12) - 1) then 1 else 0)]) rfl ?_
  refine zb_eq (tgt := 24) hx hb dX9_strike_12 (by decide) (fun c12 => ?_) (fun c12 => ?_)
  · refine lv_null hx hb dX9_strike_24 ?_
    refine lv_astore_nN (lv' := [(2, .null), (0, .ref (X 0 0)), (1, .int x)]) hx hb dX9_strike_25 rfl hl (by decide) rfl (fun ls hl => ?_)
    refine lv_aload_nN hx hb dX9_strike_26 rfl (lv_at hl 0 rfl) ?_
    refine lv_ifnonnullN hx hb dX9_strike_27 ?_
    refine lv_iconst (v := (-1)) hx hb dX9_strike_30 (by decide) ?_
    exact z_iret hx hb hr hlocks hZ dX9_strike_31 (fQ_of (by rw [sp_strike, if_neg (sk_o k10 c12)]) rfl ⟨_, _, _, _, _, _, hF⟩)
  · refine lv_aload_n hx hb dX9_strike_15 rfl (lv_at hl 0 rfl) ?_
    refine z_get (ci := 9) (fs := [.ref (X 0 1), .ref (X 0 2), .ref (X 0 3), .ref (X 0 4), .ref (X 0 5), .ref (X 0 7), .ref (X 0 9), .int (nI (S.1 1 0)), .int (nI (S.1 10 0)), .int (nI (S.1 20 0)), .int (nI (S.1 0 0)), .long S.2.2]) (C := RX9) (T := TX9) (N := 12) hx hb hts in_X9 hown hK hZ (f00 hF) rfl 1 (by decide) fl_17 (fun _ h9 => h9) rfl dX9_strike_16 ?_
    refine lv_iload_n hx hb dX9_strike_19 rfl (lv_at hl 1 rfl) ?_
    refine z_aald hx hb hK hZ 3 (f02 hF) rfl x.toNatClampNeg ((z_self c12.1).symm) ((ix_lt c12 (by decide)).1) (by decide) dX9_strike_20 ?_
    refine lv_goto (tgt := 25) hx hb dX9_strike_21 (by decide) ?_
    by_cases hi : x.toNatClampNeg < S.1 10 0
    · refine W.eq (congrArg (fun v => F0 m 25 ls (v :: [])) (show _ = Value.ref (X 5 x.toNatClampNeg) from fLi_y hi)) ?_
      refine W.eq (g2 := F0 m 25 ls [.ref (X 5 x.toNatClampNeg)]) rfl ?_
      refine lv_astore_n (lv' := [(2, .ref (X 5 x.toNatClampNeg)), (0, .ref (X 0 0)), (1, .int x)]) hx hb dX9_strike_25 rfl hl (by decide) rfl (fun ls hl => ?_)
      refine lv_aload_n hx hb dX9_strike_26 rfl (lv_at hl 0 rfl) ?_
      refine lv_ifnonnull (tgt := 32) hx hb dX9_strike_27 (by decide) ?_
      refine lv_aload_n hx hb dX9_strike_32 rfl (lv_at hl 0 rfl) ?_
      refine z_get (ci := 6) (fs := [.int (S.2.1 11 x.toNatClampNeg), .int (S.2.1 12 x.toNatClampNeg), .int (S.2.1 13 x.toNatClampNeg), .int (S.2.1 14 x.toNatClampNeg), .int (nI (S.1 15 x.toNatClampNeg))]) (C := RX6) (T := TX6) (N := 5) hx hb hts in_X6 hown hK hZ (f5 hF hi) rfl 4 (by decide) fl_111 (fun _ h9 => h9) rfl dX9_strike_33 ?_
      refine lv_if_eq (tgt := 42) hx hb dX9_strike_36 (by decide) (fun c36 => ?_) (fun c36 => ?_)
      · have hz : S.1 15 x.toNatClampNeg = 0 := n0 (Nat.le_succ_of_le (k15 _)) c36
        refine lv_aload_n hx hb dX9_strike_42 rfl (lv_at hl 0 rfl) ?_
        refine lv_iconst (v := 1) hx hb dX9_strike_43 (by decide) ?_
        refine z_put (ci := 6) (fs := [.int (S.2.1 11 x.toNatClampNeg), .int (S.2.1 12 x.toNatClampNeg), .int (S.2.1 13 x.toNatClampNeg), .int (S.2.1 14 x.toNatClampNeg), .int (nI (S.1 15 x.toNatClampNeg))]) (fs' := [.int (S.2.1 11 x.toNatClampNeg), .int (S.2.1 12 x.toNatClampNeg), .int (S.2.1 13 x.toNatClampNeg), .int (S.2.1 14 x.toNatClampNeg), .int 1]) (v := .int 1) (ty := .boolean) (C := RX6) (T := TX6) (N := 5) hx hb hts in_X6 tyX6 tyX6_ok nmX6 hown hK hZ (f5 hF hi) rfl 4 (by decide) fl_111 (fun _ h9 => h9) rfl (by decide +kernel) (by decide) (by decide) (Nat.le_of_ble_eq_true rfl) rfl dX9_strike_44 (fun H locs hZ => ?_)
        refine lv_iconst (v := 1) hx hb dX9_strike_47 (by decide) ?_
        exact z_iret hx hb hr hlocks hZ dX9_strike_48 (by rw [sp_strike, if_pos (sk_i k10 c12 hi), if_pos hz]; exact ⟨⟨X, rfl, _, _, _, _, _, _, fr_strike hF hi⟩, rfl⟩)
      · have hz : ¬ S.1 15 x.toNatClampNeg = 0 := fun h => c36 (by rw [h]; rfl)
        refine lv_bipush (v := (-2)) hx hb dX9_strike_39 (by decide) ?_
        exact z_iret hx hb hr hlocks hZ dX9_strike_41 (fQ_of (by rw [sp_strike, if_pos (sk_i k10 c12 hi), if_neg hz]) rfl ⟨_, _, _, _, _, _, hF⟩)
    · refine W.eq (congrArg (fun v => F0 m 25 ls (v :: [])) (show _ = Value.null from fLi_n hi)) ?_
      refine W.eq (g2 := F0 m 25 ls [.null]) rfl ?_
      refine lv_astore_nN (lv' := [(2, .null), (0, .ref (X 0 0)), (1, .int x)]) hx hb dX9_strike_25 rfl hl (by decide) rfl (fun ls hl => ?_)
      refine lv_aload_nN hx hb dX9_strike_26 rfl (lv_at hl 0 rfl) ?_
      refine lv_ifnonnullN hx hb dX9_strike_27 ?_
      refine lv_iconst (v := (-1)) hx hb dX9_strike_30 (by decide) ?_
      exact z_iret hx hb hr hlocks hZ dX9_strike_31 (fQ_of (by rw [sp_strike, if_neg (fun z => hi (ix_lt z (by omega)).1)]) rfl ⟨_, _, _, _, _, _, hF⟩)

set_option maxHeartbeats 4000000 in
set_option maxRecDepth 100000 in
theorem c_X9_appeal (l : Launch) (D : va_G) (cT : Nat → ClassId) (G : zG) (sz : Nat) (S : zS) (X : Nat → Nat → Nat) (ct md sc rp : Int32) (fo fd : Nat → Int32) (nn : Nat) (x : Int32) (hF : FR cT S X ct md sc rp fo fd G) (hS : ok S nn)  : zM l D cT yX9_appeal wsX9_appeal (zR 2 0 0) [.ref (X 0 0), .int x] G sz (fQ cT (X 0 0) (sp_appeal S x)) := by
  refine z_start (cc := cX9_appeal) (maxL := 4) (ret := (some .int)) (by decide) rfl (Nat.le_of_ble_eq_true rfl) ?_
  intro p e s m below meth c ls hI hZ hl
  obtain ⟨hx, hb, hr, hml, hts, hown, hlocks, hname, hK, hA, hE⟩ := hI
  have hl : lv_has ls 4 [(0, .ref (X 0 0)), (1, .int x)] := hl
  have hown : s.vm.findClass RX9 = some m.cls := hown
  have in_X0 : ∀ w ∈ u_ws RX0 TX0 9, w ∈ wsX9_appeal := by decide +kernel
  have in_X9 : ∀ w ∈ u_ws RX9 TX9 12, w ∈ wsX9_appeal := by decide +kernel
  have fl_94 := hts (.fieldLink RX9 94 "FairRents" "today" "I") (by decide +kernel)
  have fl_173 := hts (.fieldLink RX9 173 "FairRents$Entry" "day" "I") (by decide +kernel)
  have fl_176 := hts (.fieldLink RX9 176 "FairRents$Entry" "stands" "Z") (by decide +kernel)
  obtain ⟨⟨k1, k10, k20, k0⟩, kH, k9, k8, k15, k26, kL, kLn, kP, kE, kEm, kn⟩ := id hS
  refine lv_aload_n hx hb dX9_appeal_0 rfl (lv_at hl 0 rfl) ?_
  refine lv_iload_n hx hb dX9_appeal_1 rfl (lv_at hl 1 rfl) ?_
  refine z_call (va_runV (As := [.int x]) (rest := []) ⟨hx, hb, hml, hown, hts⟩ (c_X9_homeAt l D cT _ _ S X _ _ _ _ _ _ nn x hF hS ) (cwV 1 hts gX9_appeal_X9_homeAt rfl rfl rfl (by decide +kernel) ⟨(Nat.le_of_ble_eq_true rfl), (Nat.le_of_ble_eq_true rfl)⟩) (z_preV hK hE hZ hA (ci := 9) rfl (f00 hF)) rfl rfl hl.1 rfl (lv_room (Nat.le_of_ble_eq_true rfl)) dX9_appeal_2 ⟨(Nat.le_of_ble_eq_true rfl), (Nat.le_of_ble_eq_true rfl)⟩) hZ hA (fun r G2 H locs hq hZ => ?_)
  obtain ⟨hg, rfl⟩ := hq
  replace hg := hg.symm
  subst hg
  refine W.eq (g2 := F0 m 5 ls [va_rf ((hix S x).map (X 1))]) rfl ?_
  rcases hh : hix S x with _ | j
  · refine W.eq (g2 := F0 m 5 ls [.null]) rfl ?_
    refine lv_ifnonnullN hx hb dX9_appeal_5 ?_
    refine lv_iconst (v := (-1)) hx hb dX9_appeal_8 (by decide) ?_
    exact z_iret hx hb hr hlocks hZ dX9_appeal_9 (fQ_of (by rw [sp_appeal, hh]) rfl ⟨_, _, _, _, _, _, hF⟩)
  · refine W.eq (g2 := F0 m 5 ls [.ref (X 1 j)]) rfl ?_
    obtain ⟨hj, hxj⟩ := hix_some k1 hh
    refine lv_ifnonnull (tgt := 10) hx hb dX9_appeal_5 (by decide) ?_
    refine lv_aload_n hx hb dX9_appeal_10 rfl (lv_at hl 0 rfl) ?_
    refine lv_iload_n hx hb dX9_appeal_11 rfl (lv_at hl 1 rfl) ?_
    refine z_call (va_runV (As := [.int x]) (rest := []) ⟨hx, hb, hml, hown, hts⟩ (c_X9_latestStanding l D cT _ _ S X _ _ _ _ _ _ nn x j hF hS hj hxj) (cwV 1 hts gX9_appeal_X9_latestStanding rfl rfl rfl (by decide +kernel) ⟨(Nat.le_of_ble_eq_true rfl), (Nat.le_of_ble_eq_true rfl)⟩) (z_preV hK hE hZ hA (ci := 9) rfl (f00 hF)) rfl rfl hl.1 rfl (lv_room (Nat.le_of_ble_eq_true rfl)) dX9_appeal_12 ⟨(Nat.le_of_ble_eq_true rfl), (Nat.le_of_ble_eq_true rfl)⟩) hZ hA (fun r G12 H locs hq hZ => ?_)
    obtain ⟨hg, rfl⟩ := hq
    replace hg := hg.symm
    subst hg
    refine W.eq (g2 := F0 m 15 ls [.int (lav (lat S j))]) rfl ?_
    rcases hlat : lat S j with _ | e2
    · refine W.eq (g2 := F0 m 15 ls [.int (-9)]) rfl ?_
      refine lv_istore_n (lv' := [(2, .int (-9)), (0, .ref (X 0 0)), (1, .int x)]) hx hb dX9_appeal_15 rfl hl (by decide) rfl (fun ls hl => ?_)
      refine lv_aload_n hx hb dX9_appeal_16 rfl (lv_at hl 1 rfl) ?_
      refine lv_iload_n hx hb dX9_appeal_17 rfl (lv_at hl 0 rfl) ?_
      refine z_call (va_runV (As := [.int (-9)]) (rest := []) ⟨hx, hb, hml, hown, hts⟩ (c_X9_entryAt l D cT _ _ S X _ _ _ _ _ _ nn (-9) hF hS ) (cwV 1 hts gX9_appeal_X9_entryAt rfl rfl rfl (by decide +kernel) ⟨(Nat.le_of_ble_eq_true rfl), (Nat.le_of_ble_eq_true rfl)⟩) (z_preV hK hE hZ hA (ci := 9) rfl (f00 hF)) rfl rfl hl.1 rfl (lv_room (Nat.le_of_ble_eq_true rfl)) dX9_appeal_18 ⟨(Nat.le_of_ble_eq_true rfl), (Nat.le_of_ble_eq_true rfl)⟩) hZ hA (fun r G18 H locs hq hZ => ?_)
      obtain ⟨hg, rfl⟩ := hq
      replace hg := hg.symm
      subst hg
      refine W.eq (g2 := F0 m 21 ls [va_rf ((eix S (-9)).map (X 6))]) rfl ?_
      refine W.eq (congrArg (fun v => F0 m 21 ls (v :: [])) (show _ = Value.null from eix_m9 S X)) ?_
      refine W.eq (g2 := F0 m 21 ls [.null]) rfl ?_
      refine lv_astore_nN (lv' := [(3, .null), (2, .int (-9)), (0, .ref (X 0 0)), (1, .int x)]) hx hb dX9_appeal_21 rfl hl (by decide) rfl (fun ls hl => ?_)
      refine lv_aload_nN hx hb dX9_appeal_22 rfl (lv_at hl 0 rfl) ?_
      refine lv_ifnullN (tgt := 39) hx hb dX9_appeal_23 (by decide) ?_
      refine lv_bipush (v := (-2)) hx hb dX9_appeal_39 (by decide) ?_
      exact z_iret hx hb hr hlocks hZ dX9_appeal_41 (fQ_of (by rw [sp_appeal, hh]; simp only [hlat]) rfl ⟨_, _, _, _, _, _, hF⟩)
    · refine W.eq (g2 := F0 m 15 ls [.int (nI e2)]) rfl ?_
      obtain ⟨e1, e21, e26⟩ := lat_some hlat
      obtain ⟨w1, w2, w3, w4⟩ := kE e2 e1
      refine lv_istore_n (lv' := [(2, .int (nI e2)), (0, .ref (X 0 0)), (1, .int x)]) hx hb dX9_appeal_15 rfl hl (by decide) rfl (fun ls hl => ?_)
      refine lv_aload_n hx hb dX9_appeal_16 rfl (lv_at hl 1 rfl) ?_
      refine lv_iload_n hx hb dX9_appeal_17 rfl (lv_at hl 0 rfl) ?_
      refine z_call (va_runV (As := [.int (nI e2)]) (rest := []) ⟨hx, hb, hml, hown, hts⟩ (c_X9_entryAt l D cT _ _ S X _ _ _ _ _ _ nn (nI e2) hF hS ) (cwV 1 hts gX9_appeal_X9_entryAt rfl rfl rfl (by decide +kernel) ⟨(Nat.le_of_ble_eq_true rfl), (Nat.le_of_ble_eq_true rfl)⟩) (z_preV hK hE hZ hA (ci := 9) rfl (f00 hF)) rfl rfl hl.1 rfl (lv_room (Nat.le_of_ble_eq_true rfl)) dX9_appeal_18 ⟨(Nat.le_of_ble_eq_true rfl), (Nat.le_of_ble_eq_true rfl)⟩) hZ hA (fun r G18 H locs hq hZ => ?_)
      obtain ⟨hg, rfl⟩ := hq
      replace hg := hg.symm
      subst hg
      refine W.eq (g2 := F0 m 21 ls [va_rf ((eix S (nI e2)).map (X 6))]) rfl ?_
      refine W.eq (congrArg (fun v => F0 m 21 ls (v :: [])) (show _ = Value.ref (X 6 e2) from eix_e e1 k20)) ?_
      refine W.eq (g2 := F0 m 21 ls [.ref (X 6 e2)]) rfl ?_
      refine lv_astore_n (lv' := [(3, .ref (X 6 e2)), (2, .int (nI e2)), (0, .ref (X 0 0)), (1, .int x)]) hx hb dX9_appeal_21 rfl hl (by decide) rfl (fun ls hl => ?_)
      refine lv_aload_n hx hb dX9_appeal_22 rfl (lv_at hl 0 rfl) ?_
      refine lv_ifnull hx hb dX9_appeal_23 ?_
      refine lv_aload_n hx hb dX9_appeal_26 rfl (lv_at hl 2 rfl) ?_
      refine z_get (ci := 9) (fs := [.ref (X 0 1), .ref (X 0 2), .ref (X 0 3), .ref (X 0 4), .ref (X 0 5), .ref (X 0 7), .ref (X 0 9), .int (nI (S.1 1 0)), .int (nI (S.1 10 0)), .int (nI (S.1 20 0)), .int (nI (S.1 0 0)), .long S.2.2]) (C := RX9) (T := TX9) (N := 12) hx hb hts in_X9 hown hK hZ (f00 hF) rfl 10 (by decide) fl_94 (fun _ h9 => h9) rfl dX9_appeal_27 ?_
      refine lv_aload_n hx hb dX9_appeal_30 rfl (lv_at hl 0 rfl) ?_
      refine z_get (ci := 0) (fs := [.int (nI (S.1 21 e2)), .int (nI (S.1 25 e2)), .int (nI (S.1 22 e2)), .ref (lwA S X (S.1 22 e2)), .int (S.2.1 23 e2), .int (S.2.1 24 (3 * e2)), .int (S.2.1 24 (3 * e2 + 1)), .int (S.2.1 24 (3 * e2 + 2)), .int (if S.1 26 e2 = 0 then 1 else 0)]) (C := RX0) (T := TX0) (N := 9) hx hb hts in_X0 hown hK hZ (f6 hF e1) rfl 2 (by decide) fl_173 (fun _ h9 => h9) rfl dX9_appeal_31 ?_
      refine lv_isub hx hb dX9_appeal_34 ?_
      refine lv_iconst (v := 5) hx hb dX9_appeal_35 (by decide) ?_
      refine lv_icmp_le (tgt := 42) hx hb dX9_appeal_36 (by decide) (fun c36 => ?_) (fun c36 => ?_)
      · have hz : ¬ S.1 22 e2 + 5 < S.1 0 0 := ap_t w2 k0 c36
        refine lv_aload_n hx hb dX9_appeal_42 rfl (lv_at hl 0 rfl) ?_
        refine lv_iconst (v := 0) hx hb dX9_appeal_43 (by decide) ?_
        refine z_put (ci := 0) (fs := [.int (nI (S.1 21 e2)), .int (nI (S.1 25 e2)), .int (nI (S.1 22 e2)), .ref (lwA S X (S.1 22 e2)), .int (S.2.1 23 e2), .int (S.2.1 24 (3 * e2)), .int (S.2.1 24 (3 * e2 + 1)), .int (S.2.1 24 (3 * e2 + 2)), .int (if S.1 26 e2 = 0 then 1 else 0)]) (fs' := [.int (nI (S.1 21 e2)), .int (nI (S.1 25 e2)), .int (nI (S.1 22 e2)), .ref (lwA S X (S.1 22 e2)), .int (S.2.1 23 e2), .int (S.2.1 24 (3 * e2)), .int (S.2.1 24 (3 * e2 + 1)), .int (S.2.1 24 (3 * e2 + 2)), .int 0]) (v := .int 0) (ty := .boolean) (C := RX0) (T := TX0) (N := 9) hx hb hts in_X0 tyX0 tyX0_ok nmX0 hown hK hZ (f6 hF e1) rfl 8 (by decide) fl_176 (fun _ h9 => h9) rfl (by decide +kernel) (by decide) (by decide) (Nat.le_of_ble_eq_true rfl) rfl dX9_appeal_44 (fun H locs hZ => ?_)
        refine lv_iload_n hx hb dX9_appeal_47 rfl (lv_at hl 1 rfl) ?_
        exact z_iret hx hb hr hlocks hZ dX9_appeal_48 (by rw [sp_appeal, hh]; simp only [hlat]; rw [if_neg hz]; exact ⟨⟨X, rfl, _, _, _, _, _, _, fr_appeal hF e1⟩, rfl⟩)
      · have hz : S.1 22 e2 + 5 < S.1 0 0 := ap_f w2 k0 c36
        refine lv_bipush (v := (-2)) hx hb dX9_appeal_39 (by decide) ?_
        exact z_iret hx hb hr hlocks hZ dX9_appeal_41 (fQ_of (by rw [sp_appeal, hh]; simp only [hlat]; rw [if_pos hz]) rfl ⟨_, _, _, _, _, _, hF⟩)

set_option maxHeartbeats 4000000 in
set_option maxRecDepth 100000 in
theorem c_X9_let (l : Launch) (D : va_G) (cT : Nat → ClassId) (G : zG) (sz : Nat) (S : zS) (X : Nat → Nat → Nat) (ct md sc rp : Int32) (fo fd : Nat → Int32) (nn : Nat) (x r : Int32) (hF : FR cT S X ct md sc rp fo fd G) (hS : ok S nn)  : zM l D cT yX9_let wsX9_let (zR 2 0 0) [.ref (X 0 0), .int x, .int r] G sz (fQ cT (X 0 0) (sp_let S x r)) := by
  refine z_start (cc := cX9_let) (maxL := 4) (ret := (some .int)) (by decide) rfl (Nat.le_of_ble_eq_true rfl) ?_
  intro p e s m below meth c ls hI hZ hl
  obtain ⟨hx, hb, hr, hml, hts, hown, hlocks, hname, hK, hA, hE⟩ := hI
  have hl : lv_has ls 4 [(0, .ref (X 0 0)), (1, .int x), (2, .int r)] := hl
  have hown : s.vm.findClass RX9 = some m.cls := hown
  have in_X3 : ∀ w ∈ u_ws RX3 TX3 4, w ∈ wsX9_let := by decide +kernel
  have in_X9 : ∀ w ∈ u_ws RX9 TX9 12, w ∈ wsX9_let := by decide +kernel
  have fl_94 := hts (.fieldLink RX9 94 "FairRents" "today" "I") (by decide +kernel)
  have fl_135 := hts (.fieldLink RX9 135 "FairRents$Home" "letting" "LFairRents$Letting;") (by decide +kernel)
  obtain ⟨⟨k1, k10, k20, k0⟩, kH, k9, k8, k15, k26, kL, kLn, kP, kE, kEm, kn⟩ := id hS
  refine lv_aload_n hx hb dX9_let_0 rfl (lv_at hl 0 rfl) ?_
  refine lv_iload_n hx hb dX9_let_1 rfl (lv_at hl 1 rfl) ?_
  refine z_call (va_runV (As := [.int x]) (rest := []) ⟨hx, hb, hml, hown, hts⟩ (c_X9_homeAt l D cT _ _ S X _ _ _ _ _ _ nn x hF hS ) (cwV 1 hts gX9_let_X9_homeAt rfl rfl rfl (by decide +kernel) ⟨(Nat.le_of_ble_eq_true rfl), (Nat.le_of_ble_eq_true rfl)⟩) (z_preV hK hE hZ hA (ci := 9) rfl (f00 hF)) rfl rfl hl.1 rfl (lv_room (Nat.le_of_ble_eq_true rfl)) dX9_let_2 ⟨(Nat.le_of_ble_eq_true rfl), (Nat.le_of_ble_eq_true rfl)⟩) hZ hA (fun r G2 H locs hq hZ => ?_)
  obtain ⟨hg, rfl⟩ := hq
  replace hg := hg.symm
  subst hg
  refine W.eq (g2 := F0 m 5 ls [va_rf ((hix S x).map (X 1))]) rfl ?_
  rcases hh : hix S x with _ | j
  · refine W.eq (g2 := F0 m 5 ls [.null]) rfl ?_
    refine lv_astore_nN (lv' := [(3, .null), (0, .ref (X 0 0)), (1, .int x), (2, .int r)]) hx hb dX9_let_5 rfl hl (by decide) rfl (fun ls hl => ?_)
    refine lv_aload_nN hx hb dX9_let_6 rfl (lv_at hl 0 rfl) ?_
    refine lv_ifnullN (tgt := 21) hx hb dX9_let_7 (by decide) ?_
    refine lv_iconst (v := (-1)) hx hb dX9_let_21 (by decide) ?_
    exact z_iret hx hb hr hlocks hZ dX9_let_22 (fQ_of (by rw [sp_let, hh]) rfl ⟨_, _, _, _, _, _, hF⟩)
  · refine W.eq (g2 := F0 m 5 ls [.ref (X 1 j)]) rfl ?_
    obtain ⟨hj, hxj⟩ := hix_some k1 hh
    refine lv_astore_n (lv' := [(3, .ref (X 1 j)), (0, .ref (X 0 0)), (1, .int x), (2, .int r)]) hx hb dX9_let_5 rfl hl (by decide) rfl (fun ls hl => ?_)
    refine lv_aload_n hx hb dX9_let_6 rfl (lv_at hl 0 rfl) ?_
    refine lv_ifnull hx hb dX9_let_7 ?_
    refine lv_iload_n hx hb dX9_let_10 rfl (lv_at hl 3 rfl) ?_
    refine lv_iconst (v := 1) hx hb dX9_let_11 (by decide) ?_
    refine lv_sipush (v := 5000) hx hb dX9_let_12 (by decide) ?_
    refine z_call (va_runS (As := [.int r, .int 1, .int 5000]) (rest := []) ⟨hx, hb, hml, hown, hts⟩ (c_X9_within l D cT _ _ r 1 5000) (va_cwS 3 hts gX9_let_X9_within rfl rfl rfl (by decide +kernel) ⟨(Nat.le_of_ble_eq_true rfl), (Nat.le_of_ble_eq_true rfl)⟩) (z_preS hK hE hZ hA) rfl rfl hl.1 rfl (lv_room (Nat.le_of_ble_eq_true rfl)) dX9_let_15 ⟨(Nat.le_of_ble_eq_true rfl), (Nat.le_of_ble_eq_true rfl)⟩) hZ hA (fun r G15 H locs hq hZ => ?_)
    obtain ⟨hg, rfl⟩ := hq
    replace hg := hg.symm
    subst hg
    refine W.eq (g2 := F0 m 18 ls [.int (if 1 ≤ r ∧ r ≤ 5000 then 1 else 0)]) rfl ?_
    refine zb_ne (tgt := 23) hx hb dX9_let_18 (by decide) (fun c18 => ?_) (fun c18 => ?_)
    · refine lv_aload_n hx hb dX9_let_23 rfl (lv_at hl 0 rfl) ?_
      refine z_get (ci := 3) (fs := [.ref (X 2 j), .int (nI (S.1 3 j)), .ref (X 3 j), .int (S.2.1 6 j)]) (C := RX3) (T := TX3) (N := 4) hx hb hts in_X3 hown hK hZ (f1 hF hj) rfl 2 (by decide) fl_135 (fun _ h9 => h9) rfl dX9_let_24 ?_
      refine lv_aload_n hx hb dX9_let_27 rfl (lv_at hl 1 rfl) ?_
      refine z_get (ci := 9) (fs := [.ref (X 0 1), .ref (X 0 2), .ref (X 0 3), .ref (X 0 4), .ref (X 0 5), .ref (X 0 7), .ref (X 0 9), .int (nI (S.1 1 0)), .int (nI (S.1 10 0)), .int (nI (S.1 20 0)), .int (nI (S.1 0 0)), .long S.2.2]) (C := RX9) (T := TX9) (N := 12) hx hb hts in_X9 hown hK hZ (f00 hF) rfl 10 (by decide) fl_94 (fun _ h9 => h9) rfl dX9_let_28 ?_
      refine lv_iload_n hx hb dX9_let_31 rfl (lv_at hl 3 rfl) ?_
      refine z_call (va_runV (As := [.int (nI (S.1 0 0)), .int r]) (rest := []) ⟨hx, hb, hml, hown, hts⟩ (c_X5_begin l D cT _ _ (X 3 j) (X 4 j) (nI (S.1 18 j)) (nI (S.1 16 j)) (S.2.1 17 j) (psum (rowS S j) 301) (rowS S j) (nI (S.1 0 0)) r (f3 hF hj) (f4 hF hj) ) (cwV 2 hts gX9_let_X5_begin rfl rfl rfl (by decide +kernel) ⟨(Nat.le_of_ble_eq_true rfl), (Nat.le_of_ble_eq_true rfl)⟩) (z_preV hK hE hZ hA (ci := 5) rfl (f3 hF hj)) rfl rfl hl.1 rfl (lv_room (Nat.le_of_ble_eq_true rfl)) dX9_let_32 ⟨(Nat.le_of_ble_eq_true rfl), (Nat.le_of_ble_eq_true rfl)⟩) hZ hA (fun r G32 H locs hq hZ => ?_)
      obtain ⟨hg, rfl⟩ := hq
      replace hg := hg.symm
      subst hg
      refine W.eq (g2 := F0 m 35 ls []) rfl ?_
      refine lv_iconst (v := 1) hx hb dX9_let_35 (by decide) ?_
      exact z_iret hx hb hr hlocks hZ dX9_let_36 (by rw [sp_let, hh]; simp only []; rw [if_pos c18]; exact ⟨⟨X, rfl, _, _, _, _, _, _, fr_let hF hj r⟩, rfl⟩)
    · refine lv_iconst (v := (-1)) hx hb dX9_let_21 (by decide) ?_
      exact z_iret hx hb hr hlocks hZ dX9_let_22 (fQ_of (by rw [sp_let, hh]; simp only []; rw [if_neg c18]) rfl ⟨_, _, _, _, _, _, hF⟩)

set_option maxHeartbeats 4000000 in
set_option maxRecDepth 100000 in
theorem c_X9_pay (l : Launch) (D : va_G) (cT : Nat → ClassId) (G : zG) (sz : Nat) (S : zS) (X : Nat → Nat → Nat) (ct md sc rp : Int32) (fo fd : Nat → Int32) (nn : Nat) (x v : Int32) (hF : FR cT S X ct md sc rp fo fd G) (hS : ok S nn)  : zM l D cT yX9_pay wsX9_pay (zR 2 0 0) [.ref (X 0 0), .int x, .int v] G sz (fQ cT (X 0 0) (sp_pay S x v)) := by
  refine z_start (cc := cX9_pay) (maxL := 4) (ret := (some .int)) (by decide) rfl (Nat.le_of_ble_eq_true rfl) ?_
  intro p e s m below meth c ls hI hZ hl
  obtain ⟨hx, hb, hr, hml, hts, hown, hlocks, hname, hK, hA, hE⟩ := hI
  have hl : lv_has ls 4 [(0, .ref (X 0 0)), (1, .int x), (2, .int v)] := hl
  have hown : s.vm.findClass RX9 = some m.cls := hown
  have in_X3 : ∀ w ∈ u_ws RX3 TX3 4, w ∈ wsX9_pay := by decide +kernel
  have in_X5 : ∀ w ∈ u_ws RX5 TX5 5, w ∈ wsX9_pay := by decide +kernel
  have in_X9 : ∀ w ∈ u_ws RX9 TX9 12, w ∈ wsX9_pay := by decide +kernel
  have fl_94 := hts (.fieldLink RX9 94 "FairRents" "today" "I") (by decide +kernel)
  have fl_135 := hts (.fieldLink RX9 135 "FairRents$Home" "letting" "LFairRents$Letting;") (by decide +kernel)
  have fl_197 := hts (.fieldLink RX9 197 "FairRents$Letting" "paid" "I") (by decide +kernel)
  obtain ⟨⟨k1, k10, k20, k0⟩, kH, k9, k8, k15, k26, kL, kLn, kP, kE, kEm, kn⟩ := id hS
  refine lv_aload_n hx hb dX9_pay_0 rfl (lv_at hl 0 rfl) ?_
  refine lv_iload_n hx hb dX9_pay_1 rfl (lv_at hl 1 rfl) ?_
  refine z_call (va_runV (As := [.int x]) (rest := []) ⟨hx, hb, hml, hown, hts⟩ (c_X9_homeAt l D cT _ _ S X _ _ _ _ _ _ nn x hF hS ) (cwV 1 hts gX9_pay_X9_homeAt rfl rfl rfl (by decide +kernel) ⟨(Nat.le_of_ble_eq_true rfl), (Nat.le_of_ble_eq_true rfl)⟩) (z_preV hK hE hZ hA (ci := 9) rfl (f00 hF)) rfl rfl hl.1 rfl (lv_room (Nat.le_of_ble_eq_true rfl)) dX9_pay_2 ⟨(Nat.le_of_ble_eq_true rfl), (Nat.le_of_ble_eq_true rfl)⟩) hZ hA (fun r G2 H locs hq hZ => ?_)
  obtain ⟨hg, rfl⟩ := hq
  replace hg := hg.symm
  subst hg
  refine W.eq (g2 := F0 m 5 ls [va_rf ((hix S x).map (X 1))]) rfl ?_
  rcases hh : hix S x with _ | j
  · refine W.eq (g2 := F0 m 5 ls [.null]) rfl ?_
    refine lv_astore_nN (lv' := [(3, .null), (0, .ref (X 0 0)), (1, .int x), (2, .int v)]) hx hb dX9_pay_5 rfl hl (by decide) rfl (fun ls hl => ?_)
    refine lv_aload_nN hx hb dX9_pay_6 rfl (lv_at hl 0 rfl) ?_
    refine lv_ifnullN (tgt := 20) hx hb dX9_pay_7 (by decide) ?_
    refine lv_iconst (v := (-1)) hx hb dX9_pay_20 (by decide) ?_
    exact z_iret hx hb hr hlocks hZ dX9_pay_21 (fQ_of (by rw [sp_pay, hh]) rfl ⟨_, _, _, _, _, _, hF⟩)
  · refine W.eq (g2 := F0 m 5 ls [.ref (X 1 j)]) rfl ?_
    obtain ⟨hj, hxj⟩ := hix_some k1 hh
    refine lv_astore_n (lv' := [(3, .ref (X 1 j)), (0, .ref (X 0 0)), (1, .int x), (2, .int v)]) hx hb dX9_pay_5 rfl hl (by decide) rfl (fun ls hl => ?_)
    refine lv_aload_n hx hb dX9_pay_6 rfl (lv_at hl 0 rfl) ?_
    refine lv_ifnull hx hb dX9_pay_7 ?_
    refine lv_iload_n hx hb dX9_pay_10 rfl (lv_at hl 3 rfl) ?_
    refine lv_iconst (v := 0) hx hb dX9_pay_11 (by decide) ?_
    refine lv_ldc (v := 100000) hx hb hown (hts (.constant RX9 196 100000) (by decide +kernel)) dX9_pay_12 ?_
    refine z_call (va_runS (As := [.int v, .int 0, .int 100000]) (rest := []) ⟨hx, hb, hml, hown, hts⟩ (c_X9_within l D cT _ _ v 0 100000) (va_cwS 3 hts gX9_pay_X9_within rfl rfl rfl (by decide +kernel) ⟨(Nat.le_of_ble_eq_true rfl), (Nat.le_of_ble_eq_true rfl)⟩) (z_preS hK hE hZ hA) rfl rfl hl.1 rfl (lv_room (Nat.le_of_ble_eq_true rfl)) dX9_pay_14 ⟨(Nat.le_of_ble_eq_true rfl), (Nat.le_of_ble_eq_true rfl)⟩) hZ hA (fun r G14 H locs hq hZ => ?_)
    obtain ⟨hg, rfl⟩ := hq
    replace hg := hg.symm
    subst hg
    refine W.eq (g2 := F0 m 17 ls [.int (if 0 ≤ v ∧ v ≤ 100000 then 1 else 0)]) rfl ?_
    refine zb_ne (tgt := 22) hx hb dX9_pay_17 (by decide) (fun c17 => ?_) (fun c17 => ?_)
    · refine lv_aload_n hx hb dX9_pay_22 rfl (lv_at hl 0 rfl) ?_
      refine z_get (ci := 3) (fs := [.ref (X 2 j), .int (nI (S.1 3 j)), .ref (X 3 j), .int (S.2.1 6 j)]) (C := RX3) (T := TX3) (N := 4) hx hb hts in_X3 hown hK hZ (f1 hF hj) rfl 2 (by decide) fl_135 (fun _ h9 => h9) rfl dX9_pay_23 ?_
      refine z_call (va_runV (As := []) (rest := []) ⟨hx, hb, hml, hown, hts⟩ (c_X5_isLet l D cT _ _ (X 3 j) (X 4 j) (nI (S.1 18 j)) (nI (S.1 16 j)) (S.2.1 17 j) (psum (rowS S j) 301) (f3 hF hj)) (cwV 0 hts gX9_pay_X5_isLet rfl rfl rfl (by decide +kernel) ⟨(Nat.le_of_ble_eq_true rfl), (Nat.le_of_ble_eq_true rfl)⟩) (z_preV hK hE hZ hA (ci := 5) rfl (f3 hF hj)) rfl rfl hl.1 rfl (lv_room (Nat.le_of_ble_eq_true rfl)) dX9_pay_26 ⟨(Nat.le_of_ble_eq_true rfl), (Nat.le_of_ble_eq_true rfl)⟩) hZ hA (fun r G26 H locs hq hZ => ?_)
      obtain ⟨hg, rfl⟩ := hq
      replace hg := hg.symm
      subst hg
      refine W.eq (g2 := F0 m 29 ls [.int (if 0 < (nI (S.1 18 j)) then 1 else 0)]) rfl ?_
      refine zb_ne (tgt := 35) hx hb dX9_pay_29 (by decide) (fun c29 => ?_) (fun c29 => ?_)
      · have hl18 := hl_nz c29
        refine lv_aload_n hx hb dX9_pay_35 rfl (lv_at hl 0 rfl) ?_
        refine z_get (ci := 3) (fs := [.ref (X 2 j), .int (nI (S.1 3 j)), .ref (X 3 j), .int (S.2.1 6 j)]) (C := RX3) (T := TX3) (N := 4) hx hb hts in_X3 hown hK hZ (f1 hF hj) rfl 2 (by decide) fl_135 (fun _ h9 => h9) rfl dX9_pay_36 ?_
        refine z_get (ci := 5) (fs := [.ref (X 4 j), .int (nI (S.1 18 j)), .int (nI (S.1 16 j)), .int (S.2.1 17 j), .int (psum (rowS S j) 301)]) (C := RX5) (T := TX5) (N := 5) hx hb hts in_X5 hown hK hZ (f3 hF hj) rfl 4 (by decide) fl_197 (fun _ h9 => h9) rfl dX9_pay_39 ?_
        refine lv_iload_n hx hb dX9_pay_42 rfl (lv_at hl 3 rfl) ?_
        refine lv_iadd hx hb dX9_pay_43 ?_
        refine lv_ldc (v := 1000000) hx hb hown (hts (.constant RX9 200 1000000) (by decide +kernel)) dX9_pay_44 ?_
        refine lv_icmp_le (tgt := 52) hx hb dX9_pay_46 (by decide) (fun c46 => ?_) (fun c46 => ?_)
        · refine lv_aload_n hx hb dX9_pay_52 rfl (lv_at hl 0 rfl) ?_
          refine z_get (ci := 3) (fs := [.ref (X 2 j), .int (nI (S.1 3 j)), .ref (X 3 j), .int (S.2.1 6 j)]) (C := RX3) (T := TX3) (N := 4) hx hb hts in_X3 hown hK hZ (f1 hF hj) rfl 2 (by decide) fl_135 (fun _ h9 => h9) rfl dX9_pay_53 ?_
          refine lv_aload_n hx hb dX9_pay_56 rfl (lv_at hl 1 rfl) ?_
          refine z_get (ci := 9) (fs := [.ref (X 0 1), .ref (X 0 2), .ref (X 0 3), .ref (X 0 4), .ref (X 0 5), .ref (X 0 7), .ref (X 0 9), .int (nI (S.1 1 0)), .int (nI (S.1 10 0)), .int (nI (S.1 20 0)), .int (nI (S.1 0 0)), .long S.2.2]) (C := RX9) (T := TX9) (N := 12) hx hb hts in_X9 hown hK hZ (f00 hF) rfl 10 (by decide) fl_94 (fun _ h9 => h9) rfl dX9_pay_57 ?_
          refine lv_iload_n hx hb dX9_pay_60 rfl (lv_at hl 3 rfl) ?_
          refine z_call (va_runV (As := [.int (nI (S.1 0 0)), .int v]) (rest := []) ⟨hx, hb, hml, hown, hts⟩ (c_X5_take l D cT _ _ (X 3 j) (X 4 j) (nI (S.1 18 j)) (nI (S.1 16 j)) (S.2.1 17 j) (psum (rowS S j) 301) (rowS S j) (nI (S.1 0 0)) v (S.1 0 0) (f3 hF hj) (f4 hF hj) rfl (by omega)) (cwV 2 hts gX9_pay_X5_take rfl rfl rfl (by decide +kernel) ⟨(Nat.le_of_ble_eq_true rfl), (Nat.le_of_ble_eq_true rfl)⟩) (z_preV hK hE hZ hA (ci := 5) rfl (f3 hF hj)) rfl rfl hl.1 rfl (lv_room (Nat.le_of_ble_eq_true rfl)) dX9_pay_61 ⟨(Nat.le_of_ble_eq_true rfl), (Nat.le_of_ble_eq_true rfl)⟩) hZ hA (fun r G61 H locs hq hZ => ?_)
          obtain ⟨hg, rfl⟩ := hq
          replace hg := hg.symm
          subst hg
          refine W.eq (g2 := F0 m 64 ls []) rfl ?_
          refine lv_aload_n hx hb dX9_pay_64 rfl (lv_at hl 0 rfl) ?_
          refine z_get (ci := 3) (fs := [.ref (X 2 j), .int (nI (S.1 3 j)), .ref (X 3 j), .int (S.2.1 6 j)]) (C := RX3) (T := TX3) (N := 4) hx hb hts in_X3 hown hK hZ ((va_up_ne _ _ (z_neOO (f1 hF hj) (f3 hF hj) (by decide))).trans ((va_up_ne _ _ (z_neOA (f1 hF hj) (f4 hF hj))).trans (f1 hF hj))) rfl 2 (by decide) fl_135 (fun _ h9 => h9) rfl dX9_pay_65 ?_
          refine z_get (ci := 5) (fs := [.ref (X 4 j), .int (nI (S.1 18 j)), .int (nI (S.1 16 j)), .int (S.2.1 17 j), .int ((psum (rowS S j) 301) + v)]) (C := RX5) (T := TX5) (N := 5) hx hb hts in_X5 hown hK hZ (va_up_self _ _ _) rfl 4 (by decide) fl_197 (fun _ h9 => h9) rfl dX9_pay_68 ?_
          exact z_iret hx hb hr hlocks hZ dX9_pay_71 (by rw [sp_pay, hh]; simp only []; rw [if_pos c17, if_neg hl18, ← pay_e hS hj, if_neg (z_nl c46)]; exact ⟨⟨X, rfl, _, _, _, _, _, _, fr_pay hF hj k0 v⟩, rfl⟩)
        · refine lv_bipush (v := (-3)) hx hb dX9_pay_49 (by decide) ?_
          exact z_iret hx hb hr hlocks hZ dX9_pay_51 (fQ_of (by rw [sp_pay, hh]; simp only []; rw [if_pos c17, if_neg hl18, ← pay_e hS hj, if_pos (z_lg c46)]) rfl ⟨_, _, _, _, _, _, hF⟩)
      · have hl18 := hl_z (by have := (kL j).1; omega) c29
        refine lv_bipush (v := (-2)) hx hb dX9_pay_32 (by decide) ?_
        exact z_iret hx hb hr hlocks hZ dX9_pay_34 (fQ_of (by rw [sp_pay, hh]; simp only []; rw [if_pos c17, if_pos hl18]) rfl ⟨_, _, _, _, _, _, hF⟩)
    · refine lv_iconst (v := (-1)) hx hb dX9_pay_20 (by decide) ?_
      exact z_iret hx hb hr hlocks hZ dX9_pay_21 (fQ_of (by rw [sp_pay, hh]; simp only []; rw [if_neg c17]) rfl ⟨_, _, _, _, _, _, hF⟩)

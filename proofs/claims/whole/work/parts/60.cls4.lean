set_option maxHeartbeats 4000000 in
set_option maxRecDepth 100000 in
theorem c_X9_workDues (l : Launch) (D : va_G) (cT : Nat → ClassId) (G : zG) (sz : Nat) (S : zS) (X : Nat → Nat → Nat) (ct md sc rp : Int32) (fo fd : Nat → Int32) (nn : Nat) (x y : Int32) (j t : Nat) (hF : FR cT S X ct md sc rp fo fd G) (hS : ok S nn) (hj : j < S.1 1 0) (hxj : x = nI j) (ht : t ≤ S.1 0 0) (hyt : y = nI t) (hl18 : ¬ S.1 18 j = 0) (hlt : S.1 16 j ≤ t) : zM l D cT yX9_workDues wsX9_workDues (zR 3 0 0) [.ref (X 0 0), .int x, .ref (X 3 j), .int y] G sz (fun r G' => FR cT S X ct md sc rp fo (duT S j fd (t + 1 - S.1 16 j)) G' ∧ r = some (.int (dd S j t))) := by
  refine z_start (cc := cX9_workDues) (maxL := 10) (ret := (some .int)) (by decide) rfl (Nat.le_of_ble_eq_true rfl) ?_
  intro p e s m below meth c ls hI hZ hl
  obtain ⟨hx, hb, hr, hml, hts, hown, hlocks, hname, hK, hA, hE⟩ := hI
  have hl : lv_has ls 10 [(0, .ref (X 0 0)), (1, .int x), (2, .ref (X 3 j)), (3, .int y)] := hl
  have hown : s.vm.findClass RX9 = some m.cls := hown
  have in_X0 : ∀ w ∈ u_ws RX0 TX0 9, w ∈ wsX9_workDues := by decide +kernel
  have in_X5 : ∀ w ∈ u_ws RX5 TX5 5, w ∈ wsX9_workDues := by decide +kernel
  have in_X9 : ∀ w ∈ u_ws RX9 TX9 12, w ∈ wsX9_workDues := by decide +kernel
  have fl_23 := hts (.fieldLink RX9 23 "FairRents" "entries" "[LFairRents$Entry;") (by decide +kernel)
  have fl_47 := hts (.fieldLink RX9 47 "FairRents" "dues" "[I") (by decide +kernel)
  have fl_155 := hts (.fieldLink RX9 155 "FairRents$Letting" "number" "I") (by decide +kernel)
  have fl_173 := hts (.fieldLink RX9 173 "FairRents$Entry" "day" "I") (by decide +kernel)
  have fl_204 := hts (.fieldLink RX9 204 "FairRents$Letting" "first" "I") (by decide +kernel)
  have fl_238 := hts (.fieldLink RX9 238 "FairRents$Letting" "rent" "I") (by decide +kernel)
  obtain ⟨⟨k1, k10, k20, k0⟩, kH, k9, k8, k15, k26, kL, kLn, kP, kE, kEm, kn⟩ := id hS
  refine lv_null hx hb dX9_workDues_0 ?_
  refine lv_astoreN (lv' := [(4, .null), (0, .ref (X 0 0)), (1, .int x), (2, .ref (X 3 j)), (3, .int y)]) hx hb dX9_workDues_1 hl (by decide) rfl (fun ls hl => ?_)
  refine lv_aload_n hx hb dX9_workDues_3 rfl (lv_at hl 3 rfl) ?_
  refine z_get (ci := 5) (fs := [.ref (X 4 j), .int (nI (S.1 18 j)), .int (nI (S.1 16 j)), .int (S.2.1 17 j), .int (psum (rowS S j) 301)]) (C := RX5) (T := TX5) (N := 5) hx hb hts in_X5 hown hK hZ (f3 hF hj) rfl 3 (by decide) fl_238 (fun _ h9 => h9) rfl dX9_workDues_4 ?_
  refine lv_istore (lv' := [(5, .int (S.2.1 17 j)), (4, .null), (0, .ref (X 0 0)), (1, .int x), (2, .ref (X 3 j)), (3, .int y)]) hx hb dX9_workDues_7 hl (by decide) rfl (fun ls hl => ?_)
  refine lv_aload_n hx hb dX9_workDues_9 rfl (lv_at hl 4 rfl) ?_
  refine z_get (ci := 5) (fs := [.ref (X 4 j), .int (nI (S.1 18 j)), .int (nI (S.1 16 j)), .int (S.2.1 17 j), .int (psum (rowS S j) 301)]) (C := RX5) (T := TX5) (N := 5) hx hb hts in_X5 hown hK hZ (f3 hF hj) rfl 3 (by decide) fl_238 (fun _ h9 => h9) rfl dX9_workDues_10 ?_
  refine lv_istore (lv' := [(6, .int (S.2.1 17 j)), (5, .int (S.2.1 17 j)), (4, .null), (0, .ref (X 0 0)), (1, .int x), (2, .ref (X 3 j)), (3, .int y)]) hx hb dX9_workDues_13 hl (by decide) rfl (fun ls hl => ?_)
  refine lv_iconst (v := 0) hx hb dX9_workDues_15 (by decide) ?_
  refine lv_istore (lv' := [(7, .int 0), (6, .int (S.2.1 17 j)), (5, .int (S.2.1 17 j)), (4, .null), (0, .ref (X 0 0)), (1, .int x), (2, .ref (X 3 j)), (3, .int y)]) hx hb dX9_workDues_16 hl (by decide) rfl (fun ls hl => ?_)
  refine lv_aload_n hx hb dX9_workDues_18 rfl (lv_at hl 6 rfl) ?_
  refine z_get (ci := 5) (fs := [.ref (X 4 j), .int (nI (S.1 18 j)), .int (nI (S.1 16 j)), .int (S.2.1 17 j), .int (psum (rowS S j) 301)]) (C := RX5) (T := TX5) (N := 5) hx hb hts in_X5 hown hK hZ (f3 hF hj) rfl 2 (by decide) fl_204 (fun _ h9 => h9) rfl dX9_workDues_19 ?_
  refine lv_iconst (v := 0) hx hb dX9_workDues_22 (by decide) ?_
  refine va_mmax hx hb (by rw [hml]; exact hl.1.symm) hown (hts (.methodLink RX9 160 Lib.Math.max.name) (by decide +kernel)) (hts (.static Lib.Math.max.name) (by decide +kernel)) (hts (.initialized "java/lang/Math") (by decide +kernel)) (hts _ (List.mem_of_getElem? (i := 6) rfl)) (Nat.le_of_ble_eq_true rfl) (Nat.le_of_ble_eq_true rfl) (Nat.le_of_ble_eq_true rfl) (Nat.le_of_ble_eq_true rfl) dX9_workDues_23 ?_
  refine W.eq (congrArg (fun v => F0 m 26 ls (.int v :: [])) (show _ = nI (S.1 16 j + 0) from wd_max (kL j).2.1 k0)) ?_
  refine W.eq (g2 := F0 m 26 ls [.int (nI (S.1 16 j + 0))]) rfl ?_
  refine lv_istore (lv' := [(8, .int (nI (S.1 16 j + 0))), (7, .int 0), (6, .int (S.2.1 17 j)), (5, .int (S.2.1 17 j)), (4, .null), (0, .ref (X 0 0)), (1, .int x), (2, .ref (X 3 j)), (3, .int y)]) hx hb dX9_workDues_26 hl (by decide) rfl (fun ls hl => ?_)
  have loop28 : ∀ (q k n2 : Nat) (G1 : zG) (hq : S.1 16 j + k + q = t + 1) (hF1 : FR cT S X ct md sc rp fo (duT S j fd k) G1) (hn : n2 ≤ S.1 20 0) (hlo : ∀ e, e < n2 → S.1 22 e < S.1 16 j + k) (hhi : ∀ e, n2 ≤ e → e < S.1 20 0 → 0 < k → S.1 16 j + k ≤ S.1 22 e) (H : Heap) (locs : List Loc) (ls : Array Slot), zW D (zA G sz) s.heap G1 H locs → lv_has ls 10 [(8, .int (nI (S.1 16 j + k))), (7, .int (nI n2)), (6, .int (yst S j k)), (5, .int (bfv S j (bndN S j n2))), (4, va_rf ((bndN S j n2).map (X 6))), (0, .ref (X 0 0)), (1, .int x), (2, .ref (X 3 j)), (3, .int y)] → W p l e (zR 3 0 0) s m ([.ref (X 0 0), .int x, .ref (X 3 j), .int y] : List Value).toArray below meth c H locs 0 0 (MQ below (zQ D G sz (fun r G' => FR cT S X ct md sc rp fo (duT S j fd (t + 1 - S.1 16 j)) G' ∧ r = some (.int (dd S j t)))) ([.ref (X 0 0), .int x, .ref (X 3 j), .int y] : List Value).toArray s 0 0 (zA G sz)) (F0 m 28 ls []) := by
    intro q
    induction q with
    | zero =>
      intro k n2 G1 hq hF1 hn hlo hhi H locs ls hZ hl
      refine lv_iload hx hb dX9_workDues_28 (lv_at hl 0 rfl) ?_
      refine lv_iload_n hx hb dX9_workDues_30 rfl (lv_at hl 8 rfl) ?_
      refine lv_icmp_gt (tgt := 151) hx hb dX9_workDues_31 (by decide) (fun _ => ?_) (fun c31 => absurd (by rw [hyt]; exact nI_lt (by omega) (by omega)) c31)
      refine lv_iload hx hb dX9_workDues_151 (lv_at hl 2 rfl) ?_
      exact z_iret hx hb hr hlocks hZ dX9_workDues_153 (⟨by rw [show t + 1 - S.1 16 j = k by omega]; exact hF1, by rw [wd_end (show S.1 16 j + k = t + 1 by omega) hlt]⟩)
    | succ q ih28 =>
      intro k n2 G1 hq hF1 hn hlo hhi H locs ls hZ hl
      refine lv_iload hx hb dX9_workDues_28 (lv_at hl 0 rfl) ?_
      refine lv_iload_n hx hb dX9_workDues_30 rfl (lv_at hl 8 rfl) ?_
      refine lv_icmp_gt (tgt := 151) hx hb dX9_workDues_31 (by decide) (fun c31 => absurd c31 (by rw [hyt]; exact nI_nlt (by omega) (by omega))) (fun _ => ?_)
      refine lv_iload hx hb dX9_workDues_34 (lv_at hl 0 rfl) ?_
      refine lv_aload_n hx hb dX9_workDues_36 rfl (lv_at hl 5 rfl) ?_
      refine z_get (ci := 9) (fs := [.ref (X 0 1), .ref (X 0 2), .ref (X 0 3), .ref (X 0 4), .ref (X 0 5), .ref (X 0 7), .ref (X 0 9), .int (nI (S.1 1 0)), .int (nI (S.1 10 0)), .int (nI (S.1 20 0)), .int (nI (S.1 0 0)), .long S.2.2]) (C := RX9) (T := TX9) (N := 12) hx hb hts in_X9 hown hK hZ (f00 hF1) rfl 6 (by decide) fl_47 (fun _ h9 => h9) rfl dX9_workDues_37 ?_
      refine z_alen hx hb hK hZ 0 (f09 hF1) rfl dX9_workDues_40 ?_
      refine lv_icmp_ge (tgt := 151) hx hb dX9_workDues_41 (by decide) (fun c41 => absurd c41 (nI_ge (b := 301) (by omega) (by decide))) (fun _ => ?_)
      have loop44 : ∀ (u n3 : Nat) (hu : n3 + u = 20) (hn3 : n3 ≤ S.1 20 0) (hlo3 : ∀ e, e < n3 → S.1 22 e ≤ S.1 16 j + k) (hhi3 : ∀ e, n3 ≤ e → e < S.1 20 0 → 0 < k → S.1 16 j + k ≤ S.1 22 e) (H : Heap) (locs : List Loc) (ls : Array Slot), zW D (zA G sz) s.heap G1 H locs → lv_has ls 10 [(8, .int (nI (S.1 16 j + k))), (7, .int (nI n3)), (6, .int (yst S j k)), (5, .int (bfv S j (bndN S j n3))), (4, va_rf ((bndN S j n3).map (X 6))), (0, .ref (X 0 0)), (1, .int x), (2, .ref (X 3 j)), (3, .int y)] → W p l e (zR 3 0 0) s m ([.ref (X 0 0), .int x, .ref (X 3 j), .int y] : List Value).toArray below meth c H locs 0 0 (MQ below (zQ D G sz (fun r G' => FR cT S X ct md sc rp fo (duT S j fd (t + 1 - S.1 16 j)) G' ∧ r = some (.int (dd S j t)))) ([.ref (X 0 0), .int x, .ref (X 3 j), .int y] : List Value).toArray s 0 0 (zA G sz)) (F0 m 44 ls []) := by
        intro u
        induction u with
        | zero =>
          intro n3 hu hn3 hlo3 hhi3 H locs ls hZ hl
          refine lv_iload hx hb dX9_workDues_44 (lv_at hl 1 rfl) ?_
          refine lv_aload_n hx hb dX9_workDues_46 rfl (lv_at hl 5 rfl) ?_
          refine z_get (ci := 9) (fs := [.ref (X 0 1), .ref (X 0 2), .ref (X 0 3), .ref (X 0 4), .ref (X 0 5), .ref (X 0 7), .ref (X 0 9), .int (nI (S.1 1 0)), .int (nI (S.1 10 0)), .int (nI (S.1 20 0)), .int (nI (S.1 0 0)), .long S.2.2]) (C := RX9) (T := TX9) (N := 12) hx hb hts in_X9 hown hK hZ (f00 hF1) rfl 2 (by decide) fl_23 (fun _ h9 => h9) rfl dX9_workDues_47 ?_
          refine z_alen hx hb hK hZ 4 (f03 hF1) rfl dX9_workDues_50 ?_
          refine lv_icmp_ge (tgt := 108) hx hb dX9_workDues_51 (by decide) (fun _ => ?_) (fun c51 => absurd (nI_le (a := 20) (by omega) (by omega)) c51)
          have hfar : ∀ e, n3 ≤ e → e < S.1 20 0 → S.1 16 j + k < S.1 22 e := fun e h1 h2 => absurd h2 (by omega)
          have hbq := bndN_eq (j := j) hlo3 hfar hn3
          rcases hbn : bndN S j n3 with _ | e2
          · rw [hbn] at hl hbq
            have hl : lv_has ls 10 [(8, .int (nI (S.1 16 j + k))), (7, .int (nI n3)), (6, .int (yst S j k)), (5, .int (bfv S j none)), (4, .null), (0, .ref (X 0 0)), (1, .int x), (2, .ref (X 3 j)), (3, .int y)] := hl
            refine lv_aload_n hx hb dX9_workDues_108 rfl (lv_at hl 5 rfl) ?_
            refine z_get (ci := 9) (fs := [.ref (X 0 1), .ref (X 0 2), .ref (X 0 3), .ref (X 0 4), .ref (X 0 5), .ref (X 0 7), .ref (X 0 9), .int (nI (S.1 1 0)), .int (nI (S.1 10 0)), .int (nI (S.1 20 0)), .int (nI (S.1 0 0)), .long S.2.2]) (C := RX9) (T := TX9) (N := 12) hx hb hts in_X9 hown hK hZ (f00 hF1) rfl 6 (by decide) fl_47 (fun _ h9 => h9) rfl dX9_workDues_109 ?_
            refine lv_iload hx hb dX9_workDues_112 (lv_at hl 0 rfl) ?_
            refine lv_aloadN hx hb dX9_workDues_114 (lv_at hl 4 rfl) ?_
            refine lv_ifnonnullN hx hb dX9_workDues_116 ?_
            refine lv_aload_n hx hb dX9_workDues_119 rfl (lv_at hl 7 rfl) ?_
            refine z_get (ci := 5) (fs := [.ref (X 4 j), .int (nI (S.1 18 j)), .int (nI (S.1 16 j)), .int (S.2.1 17 j), .int (psum (rowS S j) 301)]) (C := RX5) (T := TX5) (N := 5) hx hb hts in_X5 hown hK hZ (f3 hF1 hj) rfl 3 (by decide) fl_238 (fun _ h9 => h9) rfl dX9_workDues_120 ?_
            refine lv_goto (tgt := 135) hx hb dX9_workDues_123 (by decide) ?_
            refine W.eq (congrArg (fun v => F0 m 135 ls (.int v :: [.int (nI (S.1 16 j + k)), .ref (X 0 9)])) (show _ = dv S j (S.1 16 j + k) (duT S j fd k) from dv_n hbq)) ?_
            refine W.eq (g2 := F0 m 135 ls [.int (dv S j (S.1 16 j + k) (duT S j fd k)), .int (nI (S.1 16 j + k)), .ref (X 0 9)]) rfl ?_
            refine z_iast hx hb hK hZ (f09 hF1) (S.1 16 j + k) rfl (by omega) (by decide) dX9_workDues_135 (fun H locs hZ => ?_)
            refine lv_aload_n hx hb dX9_workDues_136 rfl (lv_at hl 5 rfl) ?_
            refine z_get (ci := 9) (fs := [.ref (X 0 1), .ref (X 0 2), .ref (X 0 3), .ref (X 0 4), .ref (X 0 5), .ref (X 0 7), .ref (X 0 9), .int (nI (S.1 1 0)), .int (nI (S.1 10 0)), .int (nI (S.1 20 0)), .int (nI (S.1 0 0)), .long S.2.2]) (C := RX9) (T := TX9) (N := 12) hx hb hts in_X9 hown hK hZ ((va_up_ne _ _ (z_neOA (f00 hF1) (f09 hF1))).trans (f00 hF1)) rfl 6 (by decide) fl_47 (fun _ h9 => h9) rfl dX9_workDues_137 ?_
            refine lv_iload hx hb dX9_workDues_140 (lv_at hl 0 rfl) ?_
            refine z_iald hx hb hK hZ (va_up_self _ _ _) (S.1 16 j + k) rfl (by omega) (by decide) dX9_workDues_142 ?_
            refine W.eq (congrArg (fun v => F0 m 143 ls (.int v :: [])) (show _ = yst S j (k + 1) from wd_y hS hj hl18)) ?_
            refine W.eq (g2 := F0 m 143 ls [.int (yst S j (k + 1))]) rfl ?_
            refine lv_istore (lv' := [(6, .int (yst S j (k + 1))), (8, .int (nI (S.1 16 j + k))), (7, .int (nI n3)), (5, .int (bfv S j none)), (4, .null), (0, .ref (X 0 0)), (1, .int x), (2, .ref (X 3 j)), (3, .int y)]) hx hb dX9_workDues_143 hl (by decide) rfl (fun ls hl => ?_)
            refine lv_iinc (v := nI (S.1 16 j + (k + 1))) (lv' := [(8, .int (nI (S.1 16 j + (k + 1)))), (6, .int (yst S j (k + 1))), (7, .int (nI n3)), (5, .int (bfv S j none)), (4, .null), (0, .ref (X 0 0)), (1, .int x), (2, .ref (X 3 j)), (3, .int y)]) hx hb dX9_workDues_145 hl (k := 1) rfl (nI_1 _) (by decide) rfl (fun ls hl => ?_)
            refine lv_goto (tgt := 28) hx hb dX9_workDues_148 (by decide) ?_
            have hl2 : lv_has ls 10 [(8, .int (nI (S.1 16 j + (k + 1)))), (7, .int (nI n3)), (6, .int (yst S j (k + 1))), (5, .int (bfv S j (bndN S j n3))), (4, va_rf ((bndN S j n3).map (X 6))), (0, .ref (X 0 0)), (1, .int x), (2, .ref (X 3 j)), (3, .int y)] := by rw [hbn]; exact lv_sub hl [0, 2, 1, 3, 4, 5, 6, 7, 8] rfl
            exact ih28 (k + 1) n3 _ (by omega) (fr_9 hF1) hn3 (fun e he => Nat.lt_of_le_of_lt (hlo3 e he) (by omega)) (fun e h1 h2 _ => by have := hfar e h1 h2; omega) _ _ _ hZ hl2
          · rw [hbn] at hl hbq
            have hl : lv_has ls 10 [(8, .int (nI (S.1 16 j + k))), (7, .int (nI n3)), (6, .int (yst S j k)), (5, .int (bfv S j (some e2))), (4, .ref (X 6 e2)), (0, .ref (X 0 0)), (1, .int x), (2, .ref (X 3 j)), (3, .int y)] := hl
            obtain ⟨e0, e21, e26, e25⟩ := bndN_some hbn
            have e1 : e2 < S.1 20 0 := by omega
            have hle22 := hlo3 e2 e0
            refine lv_aload_n hx hb dX9_workDues_108 rfl (lv_at hl 5 rfl) ?_
            refine z_get (ci := 9) (fs := [.ref (X 0 1), .ref (X 0 2), .ref (X 0 3), .ref (X 0 4), .ref (X 0 5), .ref (X 0 7), .ref (X 0 9), .int (nI (S.1 1 0)), .int (nI (S.1 10 0)), .int (nI (S.1 20 0)), .int (nI (S.1 0 0)), .long S.2.2]) (C := RX9) (T := TX9) (N := 12) hx hb hts in_X9 hown hK hZ (f00 hF1) rfl 6 (by decide) fl_47 (fun _ h9 => h9) rfl dX9_workDues_109 ?_
            refine lv_iload hx hb dX9_workDues_112 (lv_at hl 0 rfl) ?_
            refine lv_aload hx hb dX9_workDues_114 (lv_at hl 4 rfl) ?_
            refine lv_ifnonnull (tgt := 126) hx hb dX9_workDues_116 (by decide) ?_
            refine lv_aload hx hb dX9_workDues_126 (lv_at hl 4 rfl) ?_
            refine lv_iload hx hb dX9_workDues_128 (lv_at hl 3 rfl) ?_
            refine lv_iload hx hb dX9_workDues_130 (lv_at hl 0 rfl) ?_
            refine z_call (va_runV (As := [.int (bfv S j (some e2)), .int (nI (S.1 16 j + k))]) (rest := [.int (nI (S.1 16 j + k)), .ref (X 0 9)]) ⟨hx, hb, hml, hown, hts⟩ (c_X0_steppedFrom l D cT _ _ (X 6 e2) (lwA S X (S.1 22 e2)) (nI (S.1 21 e2)) (nI (S.1 25 e2)) (nI (S.1 22 e2)) (S.2.1 23 e2) (S.2.1 24 (3 * e2)) (S.2.1 24 (3 * e2 + 1)) (S.2.1 24 (3 * e2 + 2)) (if S.1 26 e2 = 0 then 1 else 0) (lwB S X (S.1 22 e2)) (lwC S (S.1 22 e2)) (bfv S j (some e2)) (nI (S.1 16 j + k)) (f6 hF1 e1) (fla hF1 (S.1 22 e2)) (flb hF1 (S.1 22 e2))) (cwV 2 hts gX9_workDues_X0_steppedFrom rfl rfl rfl (by decide +kernel) ⟨(Nat.le_of_ble_eq_true rfl), (Nat.le_of_ble_eq_true rfl)⟩) (z_preV hK hE hZ hA (ci := 0) rfl (f6 hF1 e1)) rfl rfl hl.1 rfl (lv_room (Nat.le_of_ble_eq_true rfl)) dX9_workDues_132 ⟨(Nat.le_of_ble_eq_true rfl), (Nat.le_of_ble_eq_true rfl)⟩) hZ hA (fun r G132 H locs hq hZ => ?_)
            obtain ⟨hg, rfl⟩ := hq
            replace hg := hg.symm
            subst hg
            refine W.eq (g2 := F0 m 135 ls [.int (if (bfv S j (some e2)) < (S.2.1 23 e2) then (if (bfv S j (some e2)) + lwC S (S.1 22 e2) 5 * (((nI (S.1 16 j + k)) - (nI (S.1 22 e2))) / 10 + 1) < (S.2.1 23 e2) then (bfv S j (some e2)) + lwC S (S.1 22 e2) 5 * (((nI (S.1 16 j + k)) - (nI (S.1 22 e2))) / 10 + 1) else (S.2.1 23 e2)) else (S.2.1 23 e2)), .int (nI (S.1 16 j + k)), .ref (X 0 9)]) rfl ?_
            refine W.eq (congrArg (fun v => F0 m 135 ls (.int v :: [.int (nI (S.1 16 j + k)), .ref (X 0 9)])) (show _ = dv S j (S.1 16 j + k) (duT S j fd k) from wd_dv hS hj hl18 hbq hle22 (by omega))) ?_
            refine W.eq (g2 := F0 m 135 ls [.int (dv S j (S.1 16 j + k) (duT S j fd k)), .int (nI (S.1 16 j + k)), .ref (X 0 9)]) rfl ?_
            refine z_iast hx hb hK hZ (f09 hF1) (S.1 16 j + k) rfl (by omega) (by decide) dX9_workDues_135 (fun H locs hZ => ?_)
            refine lv_aload_n hx hb dX9_workDues_136 rfl (lv_at hl 5 rfl) ?_
            refine z_get (ci := 9) (fs := [.ref (X 0 1), .ref (X 0 2), .ref (X 0 3), .ref (X 0 4), .ref (X 0 5), .ref (X 0 7), .ref (X 0 9), .int (nI (S.1 1 0)), .int (nI (S.1 10 0)), .int (nI (S.1 20 0)), .int (nI (S.1 0 0)), .long S.2.2]) (C := RX9) (T := TX9) (N := 12) hx hb hts in_X9 hown hK hZ ((va_up_ne _ _ (z_neOA (f00 hF1) (f09 hF1))).trans (f00 hF1)) rfl 6 (by decide) fl_47 (fun _ h9 => h9) rfl dX9_workDues_137 ?_
            refine lv_iload hx hb dX9_workDues_140 (lv_at hl 0 rfl) ?_
            refine z_iald hx hb hK hZ (va_up_self _ _ _) (S.1 16 j + k) rfl (by omega) (by decide) dX9_workDues_142 ?_
            refine W.eq (congrArg (fun v => F0 m 143 ls (.int v :: [])) (show _ = yst S j (k + 1) from wd_y hS hj hl18)) ?_
            refine W.eq (g2 := F0 m 143 ls [.int (yst S j (k + 1))]) rfl ?_
            refine lv_istore (lv' := [(6, .int (yst S j (k + 1))), (8, .int (nI (S.1 16 j + k))), (7, .int (nI n3)), (5, .int (bfv S j (some e2))), (4, .ref (X 6 e2)), (0, .ref (X 0 0)), (1, .int x), (2, .ref (X 3 j)), (3, .int y)]) hx hb dX9_workDues_143 hl (by decide) rfl (fun ls hl => ?_)
            refine lv_iinc (v := nI (S.1 16 j + (k + 1))) (lv' := [(8, .int (nI (S.1 16 j + (k + 1)))), (6, .int (yst S j (k + 1))), (7, .int (nI n3)), (5, .int (bfv S j (some e2))), (4, .ref (X 6 e2)), (0, .ref (X 0 0)), (1, .int x), (2, .ref (X 3 j)), (3, .int y)]) hx hb dX9_workDues_145 hl (k := 1) rfl (nI_1 _) (by decide) rfl (fun ls hl => ?_)
            refine lv_goto (tgt := 28) hx hb dX9_workDues_148 (by decide) ?_
            have hl2 : lv_has ls 10 [(8, .int (nI (S.1 16 j + (k + 1)))), (7, .int (nI n3)), (6, .int (yst S j (k + 1))), (5, .int (bfv S j (bndN S j n3))), (4, va_rf ((bndN S j n3).map (X 6))), (0, .ref (X 0 0)), (1, .int x), (2, .ref (X 3 j)), (3, .int y)] := by rw [hbn]; exact lv_sub hl [0, 2, 1, 3, 4, 5, 6, 7, 8] rfl
            exact ih28 (k + 1) n3 _ (by omega) (fr_9 hF1) hn3 (fun e he => Nat.lt_of_le_of_lt (hlo3 e he) (by omega)) (fun e h1 h2 _ => by have := hfar e h1 h2; omega) _ _ _ hZ hl2
        | succ u ih44 =>
          intro n3 hu hn3 hlo3 hhi3 H locs ls hZ hl
          refine lv_iload hx hb dX9_workDues_44 (lv_at hl 1 rfl) ?_
          refine lv_aload_n hx hb dX9_workDues_46 rfl (lv_at hl 5 rfl) ?_
          refine z_get (ci := 9) (fs := [.ref (X 0 1), .ref (X 0 2), .ref (X 0 3), .ref (X 0 4), .ref (X 0 5), .ref (X 0 7), .ref (X 0 9), .int (nI (S.1 1 0)), .int (nI (S.1 10 0)), .int (nI (S.1 20 0)), .int (nI (S.1 0 0)), .long S.2.2]) (C := RX9) (T := TX9) (N := 12) hx hb hts in_X9 hown hK hZ (f00 hF1) rfl 2 (by decide) fl_23 (fun _ h9 => h9) rfl dX9_workDues_47 ?_
          refine z_alen hx hb hK hZ 4 (f03 hF1) rfl dX9_workDues_50 ?_
          refine lv_icmp_ge (tgt := 108) hx hb dX9_workDues_51 (by decide) (fun c51 => absurd c51 (nI_ge (b := 20) (by omega) (by decide))) (fun _ => ?_)
          refine lv_aload_n hx hb dX9_workDues_54 rfl (lv_at hl 5 rfl) ?_
          refine z_get (ci := 9) (fs := [.ref (X 0 1), .ref (X 0 2), .ref (X 0 3), .ref (X 0 4), .ref (X 0 5), .ref (X 0 7), .ref (X 0 9), .int (nI (S.1 1 0)), .int (nI (S.1 10 0)), .int (nI (S.1 20 0)), .int (nI (S.1 0 0)), .long S.2.2]) (C := RX9) (T := TX9) (N := 12) hx hb hts in_X9 hown hK hZ (f00 hF1) rfl 2 (by decide) fl_23 (fun _ h9 => h9) rfl dX9_workDues_55 ?_
          refine lv_iload hx hb dX9_workDues_58 (lv_at hl 1 rfl) ?_
          refine z_aald hx hb hK hZ 4 (f03 hF1) rfl n3 rfl (by omega) (by decide) dX9_workDues_60 ?_
          by_cases hi : n3 < S.1 20 0
          · refine W.eq (congrArg (fun v => F0 m 61 ls (v :: [])) (show _ = Value.ref (X 6 n3) from fEn_y hi)) ?_
            refine W.eq (g2 := F0 m 61 ls [.ref (X 6 n3)]) rfl ?_
            refine lv_astore (lv' := [(9, .ref (X 6 n3)), (8, .int (nI (S.1 16 j + k))), (7, .int (nI n3)), (6, .int (yst S j k)), (5, .int (bfv S j (bndN S j n3))), (4, va_rf ((bndN S j n3).map (X 6))), (0, .ref (X 0 0)), (1, .int x), (2, .ref (X 3 j)), (3, .int y)]) hx hb dX9_workDues_61 hl (by decide) rfl (fun ls hl => ?_)
            refine lv_aload hx hb dX9_workDues_63 (lv_at hl 0 rfl) ?_
            refine lv_ifnull hx hb dX9_workDues_65 ?_
            refine lv_aload hx hb dX9_workDues_68 (lv_at hl 0 rfl) ?_
            refine z_get (ci := 0) (fs := [.int (nI (S.1 21 n3)), .int (nI (S.1 25 n3)), .int (nI (S.1 22 n3)), .ref (lwA S X (S.1 22 n3)), .int (S.2.1 23 n3), .int (S.2.1 24 (3 * n3)), .int (S.2.1 24 (3 * n3 + 1)), .int (S.2.1 24 (3 * n3 + 2)), .int (if S.1 26 n3 = 0 then 1 else 0)]) (C := RX0) (T := TX0) (N := 9) hx hb hts in_X0 hown hK hZ (f6 hF1 hi) rfl 2 (by decide) fl_173 (fun _ h9 => h9) rfl dX9_workDues_70 ?_
            refine lv_iload hx hb dX9_workDues_73 (lv_at hl 1 rfl) ?_
            refine lv_icmp_le (tgt := 81) hx hb dX9_workDues_75 (by decide) (fun c75 => ?_) (fun c75 => ?_)
            · have w22 := (kE n3 hi).2.1
              have hd3 : S.1 22 n3 ≤ S.1 16 j + k := (nI_leI (by omega) (by omega)).mp c75
              refine lv_aload hx hb dX9_workDues_81 (lv_at hl 0 rfl) ?_
              refine lv_iload_n hx hb dX9_workDues_83 rfl (lv_at hl 7 rfl) ?_
              refine lv_aload_n hx hb dX9_workDues_84 rfl (lv_at hl 8 rfl) ?_
              refine z_get (ci := 5) (fs := [.ref (X 4 j), .int (nI (S.1 18 j)), .int (nI (S.1 16 j)), .int (S.2.1 17 j), .int (psum (rowS S j) 301)]) (C := RX5) (T := TX5) (N := 5) hx hb hts in_X5 hown hK hZ (f3 hF1 hj) rfl 1 (by decide) fl_155 (fun _ h9 => h9) rfl dX9_workDues_85 ?_
              refine z_call (va_runV (As := [.int x, .int (nI (S.1 18 j))]) (rest := []) ⟨hx, hb, hml, hown, hts⟩ (c_X0_binds l D cT _ _ (X 6 n3) (lwA S X (S.1 22 n3)) (nI (S.1 21 n3)) (nI (S.1 25 n3)) (nI (S.1 22 n3)) (S.2.1 23 n3) (S.2.1 24 (3 * n3)) (S.2.1 24 (3 * n3 + 1)) (S.2.1 24 (3 * n3 + 2)) (if S.1 26 n3 = 0 then 1 else 0) x (nI (S.1 18 j)) (f6 hF1 hi)) (cwV 2 hts gX9_workDues_X0_binds rfl rfl rfl (by decide +kernel) ⟨(Nat.le_of_ble_eq_true rfl), (Nat.le_of_ble_eq_true rfl)⟩) (z_preV hK hE hZ hA (ci := 0) rfl (f6 hF1 hi)) rfl rfl hl.1 rfl (lv_room (Nat.le_of_ble_eq_true rfl)) dX9_workDues_88 ⟨(Nat.le_of_ble_eq_true rfl), (Nat.le_of_ble_eq_true rfl)⟩) hZ hA (fun r G88 H locs hq hZ => ?_)
              obtain ⟨hg, rfl⟩ := hq
              replace hg := hg.symm
              subst hg
              refine W.eq (g2 := F0 m 91 ls [.int (if ¬ (if S.1 26 n3 = 0 then 1 else 0) = 0 ∧ (nI (S.1 21 n3)) = x ∧ (nI (S.1 25 n3)) = (nI (S.1 18 j)) then 1 else 0)]) rfl ?_
              refine zb_eq (tgt := 102) hx hb dX9_workDues_91 (by decide) (fun c91 => ?_) (fun c91 => ?_)
              · refine lv_iinc (v := nI (n3 + 1)) (lv' := [(7, .int (nI (n3 + 1))), (9, .ref (X 6 n3)), (8, .int (nI (S.1 16 j + k))), (6, .int (yst S j k)), (5, .int (bfv S j (bndN S j n3))), (4, va_rf ((bndN S j n3).map (X 6))), (0, .ref (X 0 0)), (1, .int x), (2, .ref (X 3 j)), (3, .int y)]) hx hb dX9_workDues_102 hl (k := 2) rfl (nI_1 n3) (by decide) rfl (fun ls hl => ?_)
                refine lv_goto (tgt := 44) hx hb dX9_workDues_105 (by decide) ?_
                have hbn1 : bndN S j (n3 + 1) = bndN S j n3 := by rw [bndN, if_neg (wd_nb hS hi hj hxj c91)]
                have hl2 : lv_has ls 10 [(8, .int (nI (S.1 16 j + k))), (7, .int (nI (n3 + 1))), (6, .int (yst S j k)), (5, .int (bfv S j (bndN S j (n3 + 1)))), (4, va_rf ((bndN S j (n3 + 1)).map (X 6))), (0, .ref (X 0 0)), (1, .int x), (2, .ref (X 3 j)), (3, .int y)] := by rw [hbn1]; exact lv_sub hl [2, 0, 3, 4, 5, 6, 7, 8, 9] rfl
                exact ih44 (n3 + 1) (by omega) (by omega) (fun e he => by rcases Nat.lt_or_ge e n3 with z | z; exact hlo3 e z; rw [show e = n3 by omega]; exact hd3) (fun e h1 h2 h3 => hhi3 e (by omega) h2 h3) _ _ _ hZ hl2
              · refine lv_aload hx hb dX9_workDues_94 (lv_at hl 0 rfl) ?_
                refine lv_astore (lv' := [(4, .ref (X 6 n3)), (9, .ref (X 6 n3)), (8, .int (nI (S.1 16 j + k))), (7, .int (nI n3)), (6, .int (yst S j k)), (5, .int (bfv S j (bndN S j n3))), (0, .ref (X 0 0)), (1, .int x), (2, .ref (X 3 j)), (3, .int y)]) hx hb dX9_workDues_96 hl (by decide) rfl (fun ls hl => ?_)
                refine lv_iload hx hb dX9_workDues_98 (lv_at hl 4 rfl) ?_
                refine lv_istore (lv' := [(5, .int (yst S j k)), (4, .ref (X 6 n3)), (9, .ref (X 6 n3)), (8, .int (nI (S.1 16 j + k))), (7, .int (nI n3)), (6, .int (yst S j k)), (0, .ref (X 0 0)), (1, .int x), (2, .ref (X 3 j)), (3, .int y)]) hx hb dX9_workDues_100 hl (by decide) rfl (fun ls hl => ?_)
                refine lv_iinc (v := nI (n3 + 1)) (lv' := [(7, .int (nI (n3 + 1))), (5, .int (yst S j k)), (4, .ref (X 6 n3)), (9, .ref (X 6 n3)), (8, .int (nI (S.1 16 j + k))), (6, .int (yst S j k)), (0, .ref (X 0 0)), (1, .int x), (2, .ref (X 3 j)), (3, .int y)]) hx hb dX9_workDues_102 hl (k := 4) rfl (nI_1 n3) (by decide) rfl (fun ls hl => ?_)
                refine lv_goto (tgt := 44) hx hb dX9_workDues_105 (by decide) ?_
                have hbs := wd_b hS hi hj hxj c91
                have hbn1 : bndN S j (n3 + 1) = some n3 := by rw [bndN, if_pos hbs]
                have e5 : yst S j k = bfv S j (bndN S j (n3 + 1)) := by rw [hbn1]; exact wd_bef hS hi hbs hd3 (hhi3 n3 (Nat.le_refl _) hi)
                have e4 : Value.ref (X 6 n3) = va_rf ((bndN S j (n3 + 1)).map (X 6)) := by rw [hbn1]; rfl
                have hl2 : lv_has ls 10 [(8, .int (nI (S.1 16 j + k))), (7, .int (nI (n3 + 1))), (6, .int (yst S j k)), (5, .int (bfv S j (bndN S j (n3 + 1)))), (4, va_rf ((bndN S j (n3 + 1)).map (X 6))), (0, .ref (X 0 0)), (1, .int x), (2, .ref (X 3 j)), (3, .int y)] := by rw [← e4, ← e5]; exact lv_sub hl [4, 0, 5, 1, 2, 6, 7, 8, 9] rfl
                exact ih44 (n3 + 1) (by omega) (by omega) (fun e he => by rcases Nat.lt_or_ge e n3 with z | z; exact hlo3 e z; rw [show e = n3 by omega]; exact hd3) (fun e h1 h2 h3 => hhi3 e (by omega) h2 h3) _ _ _ hZ hl2
            · refine lv_goto (tgt := 108) hx hb dX9_workDues_78 (by decide) ?_
              have hfar : ∀ e, n3 ≤ e → e < S.1 20 0 → S.1 16 j + k < S.1 22 e := fun e h1 h2 => Nat.lt_of_lt_of_le (Nat.not_le.mp (fun z => c75 (nI_le z (by omega)))) (kEm n3 e h1 h2)
              have hbq := bndN_eq (j := j) hlo3 hfar hn3
              rcases hbn : bndN S j n3 with _ | e2
              · rw [hbn] at hl hbq
                have hl : lv_has ls 10 [(9, .ref (X 6 n3)), (8, .int (nI (S.1 16 j + k))), (7, .int (nI n3)), (6, .int (yst S j k)), (5, .int (bfv S j none)), (4, .null), (0, .ref (X 0 0)), (1, .int x), (2, .ref (X 3 j)), (3, .int y)] := hl
                refine lv_aload_n hx hb dX9_workDues_108 rfl (lv_at hl 6 rfl) ?_
                refine z_get (ci := 9) (fs := [.ref (X 0 1), .ref (X 0 2), .ref (X 0 3), .ref (X 0 4), .ref (X 0 5), .ref (X 0 7), .ref (X 0 9), .int (nI (S.1 1 0)), .int (nI (S.1 10 0)), .int (nI (S.1 20 0)), .int (nI (S.1 0 0)), .long S.2.2]) (C := RX9) (T := TX9) (N := 12) hx hb hts in_X9 hown hK hZ (f00 hF1) rfl 6 (by decide) fl_47 (fun _ h9 => h9) rfl dX9_workDues_109 ?_
                refine lv_iload hx hb dX9_workDues_112 (lv_at hl 1 rfl) ?_
                refine lv_aloadN hx hb dX9_workDues_114 (lv_at hl 5 rfl) ?_
                refine lv_ifnonnullN hx hb dX9_workDues_116 ?_
                refine lv_aload_n hx hb dX9_workDues_119 rfl (lv_at hl 8 rfl) ?_
                refine z_get (ci := 5) (fs := [.ref (X 4 j), .int (nI (S.1 18 j)), .int (nI (S.1 16 j)), .int (S.2.1 17 j), .int (psum (rowS S j) 301)]) (C := RX5) (T := TX5) (N := 5) hx hb hts in_X5 hown hK hZ (f3 hF1 hj) rfl 3 (by decide) fl_238 (fun _ h9 => h9) rfl dX9_workDues_120 ?_
                refine lv_goto (tgt := 135) hx hb dX9_workDues_123 (by decide) ?_
                refine W.eq (congrArg (fun v => F0 m 135 ls (.int v :: [.int (nI (S.1 16 j + k)), .ref (X 0 9)])) (show _ = dv S j (S.1 16 j + k) (duT S j fd k) from dv_n hbq)) ?_
                refine W.eq (g2 := F0 m 135 ls [.int (dv S j (S.1 16 j + k) (duT S j fd k)), .int (nI (S.1 16 j + k)), .ref (X 0 9)]) rfl ?_
                refine z_iast hx hb hK hZ (f09 hF1) (S.1 16 j + k) rfl (by omega) (by decide) dX9_workDues_135 (fun H locs hZ => ?_)
                refine lv_aload_n hx hb dX9_workDues_136 rfl (lv_at hl 6 rfl) ?_
                refine z_get (ci := 9) (fs := [.ref (X 0 1), .ref (X 0 2), .ref (X 0 3), .ref (X 0 4), .ref (X 0 5), .ref (X 0 7), .ref (X 0 9), .int (nI (S.1 1 0)), .int (nI (S.1 10 0)), .int (nI (S.1 20 0)), .int (nI (S.1 0 0)), .long S.2.2]) (C := RX9) (T := TX9) (N := 12) hx hb hts in_X9 hown hK hZ ((va_up_ne _ _ (z_neOA (f00 hF1) (f09 hF1))).trans (f00 hF1)) rfl 6 (by decide) fl_47 (fun _ h9 => h9) rfl dX9_workDues_137 ?_
                refine lv_iload hx hb dX9_workDues_140 (lv_at hl 1 rfl) ?_
                refine z_iald hx hb hK hZ (va_up_self _ _ _) (S.1 16 j + k) rfl (by omega) (by decide) dX9_workDues_142 ?_
                refine W.eq (congrArg (fun v => F0 m 143 ls (.int v :: [])) (show _ = yst S j (k + 1) from wd_y hS hj hl18)) ?_
                refine W.eq (g2 := F0 m 143 ls [.int (yst S j (k + 1))]) rfl ?_
                refine lv_istore (lv' := [(6, .int (yst S j (k + 1))), (9, .ref (X 6 n3)), (8, .int (nI (S.1 16 j + k))), (7, .int (nI n3)), (5, .int (bfv S j none)), (4, .null), (0, .ref (X 0 0)), (1, .int x), (2, .ref (X 3 j)), (3, .int y)]) hx hb dX9_workDues_143 hl (by decide) rfl (fun ls hl => ?_)
                refine lv_iinc (v := nI (S.1 16 j + (k + 1))) (lv' := [(8, .int (nI (S.1 16 j + (k + 1)))), (6, .int (yst S j (k + 1))), (9, .ref (X 6 n3)), (7, .int (nI n3)), (5, .int (bfv S j none)), (4, .null), (0, .ref (X 0 0)), (1, .int x), (2, .ref (X 3 j)), (3, .int y)]) hx hb dX9_workDues_145 hl (k := 2) rfl (nI_1 _) (by decide) rfl (fun ls hl => ?_)
                refine lv_goto (tgt := 28) hx hb dX9_workDues_148 (by decide) ?_
                have hl2 : lv_has ls 10 [(8, .int (nI (S.1 16 j + (k + 1)))), (7, .int (nI n3)), (6, .int (yst S j (k + 1))), (5, .int (bfv S j (bndN S j n3))), (4, va_rf ((bndN S j n3).map (X 6))), (0, .ref (X 0 0)), (1, .int x), (2, .ref (X 3 j)), (3, .int y)] := by rw [hbn]; exact lv_sub hl [0, 3, 1, 4, 5, 6, 7, 8, 9] rfl
                exact ih28 (k + 1) n3 _ (by omega) (fr_9 hF1) hn3 (fun e he => Nat.lt_of_le_of_lt (hlo3 e he) (by omega)) (fun e h1 h2 _ => by have := hfar e h1 h2; omega) _ _ _ hZ hl2
              · rw [hbn] at hl hbq
                have hl : lv_has ls 10 [(9, .ref (X 6 n3)), (8, .int (nI (S.1 16 j + k))), (7, .int (nI n3)), (6, .int (yst S j k)), (5, .int (bfv S j (some e2))), (4, .ref (X 6 e2)), (0, .ref (X 0 0)), (1, .int x), (2, .ref (X 3 j)), (3, .int y)] := hl
                obtain ⟨e0, e21, e26, e25⟩ := bndN_some hbn
                have e1 : e2 < S.1 20 0 := by omega
                have hle22 := hlo3 e2 e0
                refine lv_aload_n hx hb dX9_workDues_108 rfl (lv_at hl 6 rfl) ?_
                refine z_get (ci := 9) (fs := [.ref (X 0 1), .ref (X 0 2), .ref (X 0 3), .ref (X 0 4), .ref (X 0 5), .ref (X 0 7), .ref (X 0 9), .int (nI (S.1 1 0)), .int (nI (S.1 10 0)), .int (nI (S.1 20 0)), .int (nI (S.1 0 0)), .long S.2.2]) (C := RX9) (T := TX9) (N := 12) hx hb hts in_X9 hown hK hZ (f00 hF1) rfl 6 (by decide) fl_47 (fun _ h9 => h9) rfl dX9_workDues_109 ?_
                refine lv_iload hx hb dX9_workDues_112 (lv_at hl 1 rfl) ?_
                refine lv_aload hx hb dX9_workDues_114 (lv_at hl 5 rfl) ?_
                refine lv_ifnonnull (tgt := 126) hx hb dX9_workDues_116 (by decide) ?_
                refine lv_aload hx hb dX9_workDues_126 (lv_at hl 5 rfl) ?_
                refine lv_iload hx hb dX9_workDues_128 (lv_at hl 4 rfl) ?_
                refine lv_iload hx hb dX9_workDues_130 (lv_at hl 1 rfl) ?_
                refine z_call (va_runV (As := [.int (bfv S j (some e2)), .int (nI (S.1 16 j + k))]) (rest := [.int (nI (S.1 16 j + k)), .ref (X 0 9)]) ⟨hx, hb, hml, hown, hts⟩ (c_X0_steppedFrom l D cT _ _ (X 6 e2) (lwA S X (S.1 22 e2)) (nI (S.1 21 e2)) (nI (S.1 25 e2)) (nI (S.1 22 e2)) (S.2.1 23 e2) (S.2.1 24 (3 * e2)) (S.2.1 24 (3 * e2 + 1)) (S.2.1 24 (3 * e2 + 2)) (if S.1 26 e2 = 0 then 1 else 0) (lwB S X (S.1 22 e2)) (lwC S (S.1 22 e2)) (bfv S j (some e2)) (nI (S.1 16 j + k)) (f6 hF1 e1) (fla hF1 (S.1 22 e2)) (flb hF1 (S.1 22 e2))) (cwV 2 hts gX9_workDues_X0_steppedFrom rfl rfl rfl (by decide +kernel) ⟨(Nat.le_of_ble_eq_true rfl), (Nat.le_of_ble_eq_true rfl)⟩) (z_preV hK hE hZ hA (ci := 0) rfl (f6 hF1 e1)) rfl rfl hl.1 rfl (lv_room (Nat.le_of_ble_eq_true rfl)) dX9_workDues_132 ⟨(Nat.le_of_ble_eq_true rfl), (Nat.le_of_ble_eq_true rfl)⟩) hZ hA (fun r G132 H locs hq hZ => ?_)
                obtain ⟨hg, rfl⟩ := hq
                replace hg := hg.symm
                subst hg
                refine W.eq (g2 := F0 m 135 ls [.int (if (bfv S j (some e2)) < (S.2.1 23 e2) then (if (bfv S j (some e2)) + lwC S (S.1 22 e2) 5 * (((nI (S.1 16 j + k)) - (nI (S.1 22 e2))) / 10 + 1) < (S.2.1 23 e2) then (bfv S j (some e2)) + lwC S (S.1 22 e2) 5 * (((nI (S.1 16 j + k)) - (nI (S.1 22 e2))) / 10 + 1) else (S.2.1 23 e2)) else (S.2.1 23 e2)), .int (nI (S.1 16 j + k)), .ref (X 0 9)]) rfl ?_
                refine W.eq (congrArg (fun v => F0 m 135 ls (.int v :: [.int (nI (S.1 16 j + k)), .ref (X 0 9)])) (show _ = dv S j (S.1 16 j + k) (duT S j fd k) from wd_dv hS hj hl18 hbq hle22 (by omega))) ?_
                refine W.eq (g2 := F0 m 135 ls [.int (dv S j (S.1 16 j + k) (duT S j fd k)), .int (nI (S.1 16 j + k)), .ref (X 0 9)]) rfl ?_
                refine z_iast hx hb hK hZ (f09 hF1) (S.1 16 j + k) rfl (by omega) (by decide) dX9_workDues_135 (fun H locs hZ => ?_)
                refine lv_aload_n hx hb dX9_workDues_136 rfl (lv_at hl 6 rfl) ?_
                refine z_get (ci := 9) (fs := [.ref (X 0 1), .ref (X 0 2), .ref (X 0 3), .ref (X 0 4), .ref (X 0 5), .ref (X 0 7), .ref (X 0 9), .int (nI (S.1 1 0)), .int (nI (S.1 10 0)), .int (nI (S.1 20 0)), .int (nI (S.1 0 0)), .long S.2.2]) (C := RX9) (T := TX9) (N := 12) hx hb hts in_X9 hown hK hZ ((va_up_ne _ _ (z_neOA (f00 hF1) (f09 hF1))).trans (f00 hF1)) rfl 6 (by decide) fl_47 (fun _ h9 => h9) rfl dX9_workDues_137 ?_
                refine lv_iload hx hb dX9_workDues_140 (lv_at hl 1 rfl) ?_
                refine z_iald hx hb hK hZ (va_up_self _ _ _) (S.1 16 j + k) rfl (by omega) (by decide) dX9_workDues_142 ?_
                refine W.eq (congrArg (fun v => F0 m 143 ls (.int v :: [])) (show _ = yst S j (k + 1) from wd_y hS hj hl18)) ?_
                refine W.eq (g2 := F0 m 143 ls [.int (yst S j (k + 1))]) rfl ?_
                refine lv_istore (lv' := [(6, .int (yst S j (k + 1))), (9, .ref (X 6 n3)), (8, .int (nI (S.1 16 j + k))), (7, .int (nI n3)), (5, .int (bfv S j (some e2))), (4, .ref (X 6 e2)), (0, .ref (X 0 0)), (1, .int x), (2, .ref (X 3 j)), (3, .int y)]) hx hb dX9_workDues_143 hl (by decide) rfl (fun ls hl => ?_)
                refine lv_iinc (v := nI (S.1 16 j + (k + 1))) (lv' := [(8, .int (nI (S.1 16 j + (k + 1)))), (6, .int (yst S j (k + 1))), (9, .ref (X 6 n3)), (7, .int (nI n3)), (5, .int (bfv S j (some e2))), (4, .ref (X 6 e2)), (0, .ref (X 0 0)), (1, .int x), (2, .ref (X 3 j)), (3, .int y)]) hx hb dX9_workDues_145 hl (k := 2) rfl (nI_1 _) (by decide) rfl (fun ls hl => ?_)
                refine lv_goto (tgt := 28) hx hb dX9_workDues_148 (by decide) ?_
                have hl2 : lv_has ls 10 [(8, .int (nI (S.1 16 j + (k + 1)))), (7, .int (nI n3)), (6, .int (yst S j (k + 1))), (5, .int (bfv S j (bndN S j n3))), (4, va_rf ((bndN S j n3).map (X 6))), (0, .ref (X 0 0)), (1, .int x), (2, .ref (X 3 j)), (3, .int y)] := by rw [hbn]; exact lv_sub hl [0, 3, 1, 4, 5, 6, 7, 8, 9] rfl
                exact ih28 (k + 1) n3 _ (by omega) (fr_9 hF1) hn3 (fun e he => Nat.lt_of_le_of_lt (hlo3 e he) (by omega)) (fun e h1 h2 _ => by have := hfar e h1 h2; omega) _ _ _ hZ hl2
          · refine W.eq (congrArg (fun v => F0 m 61 ls (v :: [])) (show _ = Value.null from fEn_n hi)) ?_
            refine W.eq (g2 := F0 m 61 ls [.null]) rfl ?_
            refine lv_astoreN (lv' := [(9, .null), (8, .int (nI (S.1 16 j + k))), (7, .int (nI n3)), (6, .int (yst S j k)), (5, .int (bfv S j (bndN S j n3))), (4, va_rf ((bndN S j n3).map (X 6))), (0, .ref (X 0 0)), (1, .int x), (2, .ref (X 3 j)), (3, .int y)]) hx hb dX9_workDues_61 hl (by decide) rfl (fun ls hl => ?_)
            refine lv_aloadN hx hb dX9_workDues_63 (lv_at hl 0 rfl) ?_
            refine lv_ifnullN (tgt := 108) hx hb dX9_workDues_65 (by decide) ?_
            have hfar : ∀ e, n3 ≤ e → e < S.1 20 0 → S.1 16 j + k < S.1 22 e := fun e h1 h2 => absurd h2 (by omega)
            have hbq := bndN_eq (j := j) hlo3 hfar hn3
            rcases hbn : bndN S j n3 with _ | e2
            · rw [hbn] at hl hbq
              have hl : lv_has ls 10 [(9, .null), (8, .int (nI (S.1 16 j + k))), (7, .int (nI n3)), (6, .int (yst S j k)), (5, .int (bfv S j none)), (4, .null), (0, .ref (X 0 0)), (1, .int x), (2, .ref (X 3 j)), (3, .int y)] := hl
              refine lv_aload_n hx hb dX9_workDues_108 rfl (lv_at hl 6 rfl) ?_
              refine z_get (ci := 9) (fs := [.ref (X 0 1), .ref (X 0 2), .ref (X 0 3), .ref (X 0 4), .ref (X 0 5), .ref (X 0 7), .ref (X 0 9), .int (nI (S.1 1 0)), .int (nI (S.1 10 0)), .int (nI (S.1 20 0)), .int (nI (S.1 0 0)), .long S.2.2]) (C := RX9) (T := TX9) (N := 12) hx hb hts in_X9 hown hK hZ (f00 hF1) rfl 6 (by decide) fl_47 (fun _ h9 => h9) rfl dX9_workDues_109 ?_
              refine lv_iload hx hb dX9_workDues_112 (lv_at hl 1 rfl) ?_
              refine lv_aloadN hx hb dX9_workDues_114 (lv_at hl 5 rfl) ?_
              refine lv_ifnonnullN hx hb dX9_workDues_116 ?_
              refine lv_aload_n hx hb dX9_workDues_119 rfl (lv_at hl 8 rfl) ?_
              refine z_get (ci := 5) (fs := [.ref (X 4 j), .int (nI (S.1 18 j)), .int (nI (S.1 16 j)), .int (S.2.1 17 j), .int (psum (rowS S j) 301)]) (C := RX5) (T := TX5) (N := 5) hx hb hts in_X5 hown hK hZ (f3 hF1 hj) rfl 3 (by decide) fl_238 (fun _ h9 => h9) rfl dX9_workDues_120 ?_
              refine lv_goto (tgt := 135) hx hb dX9_workDues_123 (by decide) ?_
              refine W.eq (congrArg (fun v => F0 m 135 ls (.int v :: [.int (nI (S.1 16 j + k)), .ref (X 0 9)])) (show _ = dv S j (S.1 16 j + k) (duT S j fd k) from dv_n hbq)) ?_
              refine W.eq (g2 := F0 m 135 ls [.int (dv S j (S.1 16 j + k) (duT S j fd k)), .int (nI (S.1 16 j + k)), .ref (X 0 9)]) rfl ?_
              refine z_iast hx hb hK hZ (f09 hF1) (S.1 16 j + k) rfl (by omega) (by decide) dX9_workDues_135 (fun H locs hZ => ?_)
              refine lv_aload_n hx hb dX9_workDues_136 rfl (lv_at hl 6 rfl) ?_
              refine z_get (ci := 9) (fs := [.ref (X 0 1), .ref (X 0 2), .ref (X 0 3), .ref (X 0 4), .ref (X 0 5), .ref (X 0 7), .ref (X 0 9), .int (nI (S.1 1 0)), .int (nI (S.1 10 0)), .int (nI (S.1 20 0)), .int (nI (S.1 0 0)), .long S.2.2]) (C := RX9) (T := TX9) (N := 12) hx hb hts in_X9 hown hK hZ ((va_up_ne _ _ (z_neOA (f00 hF1) (f09 hF1))).trans (f00 hF1)) rfl 6 (by decide) fl_47 (fun _ h9 => h9) rfl dX9_workDues_137 ?_
              refine lv_iload hx hb dX9_workDues_140 (lv_at hl 1 rfl) ?_
              refine z_iald hx hb hK hZ (va_up_self _ _ _) (S.1 16 j + k) rfl (by omega) (by decide) dX9_workDues_142 ?_
              refine W.eq (congrArg (fun v => F0 m 143 ls (.int v :: [])) (show _ = yst S j (k + 1) from wd_y hS hj hl18)) ?_
              refine W.eq (g2 := F0 m 143 ls [.int (yst S j (k + 1))]) rfl ?_
              refine lv_istore (lv' := [(6, .int (yst S j (k + 1))), (9, .null), (8, .int (nI (S.1 16 j + k))), (7, .int (nI n3)), (5, .int (bfv S j none)), (4, .null), (0, .ref (X 0 0)), (1, .int x), (2, .ref (X 3 j)), (3, .int y)]) hx hb dX9_workDues_143 hl (by decide) rfl (fun ls hl => ?_)
              refine lv_iinc (v := nI (S.1 16 j + (k + 1))) (lv' := [(8, .int (nI (S.1 16 j + (k + 1)))), (6, .int (yst S j (k + 1))), (9, .null), (7, .int (nI n3)), (5, .int (bfv S j none)), (4, .null), (0, .ref (X 0 0)), (1, .int x), (2, .ref (X 3 j)), (3, .int y)]) hx hb dX9_workDues_145 hl (k := 2) rfl (nI_1 _) (by decide) rfl (fun ls hl => ?_)
              refine lv_goto (tgt := 28) hx hb dX9_workDues_148 (by decide) ?_
              have hl2 : lv_has ls 10 [(8, .int (nI (S.1 16 j + (k + 1)))), (7, .int (nI n3)), (6, .int (yst S j (k + 1))), (5, .int (bfv S j (bndN S j n3))), (4, va_rf ((bndN S j n3).map (X 6))), (0, .ref (X 0 0)), (1, .int x), (2, .ref (X 3 j)), (3, .int y)] := by rw [hbn]; exact lv_sub hl [0, 3, 1, 4, 5, 6, 7, 8, 9] rfl
              exact ih28 (k + 1) n3 _ (by omega) (fr_9 hF1) hn3 (fun e he => Nat.lt_of_le_of_lt (hlo3 e he) (by omega)) (fun e h1 h2 _ => by have := hfar e h1 h2; omega) _ _ _ hZ hl2
            · rw [hbn] at hl hbq
              have hl : lv_has ls 10 [(9, .null), (8, .int (nI (S.1 16 j + k))), (7, .int (nI n3)), (6, .int (yst S j k)), (5, .int (bfv S j (some e2))), (4, .ref (X 6 e2)), (0, .ref (X 0 0)), (1, .int x), (2, .ref (X 3 j)), (3, .int y)] := hl
              obtain ⟨e0, e21, e26, e25⟩ := bndN_some hbn
              have e1 : e2 < S.1 20 0 := by omega
              have hle22 := hlo3 e2 e0
              refine lv_aload_n hx hb dX9_workDues_108 rfl (lv_at hl 6 rfl) ?_
              refine z_get (ci := 9) (fs := [.ref (X 0 1), .ref (X 0 2), .ref (X 0 3), .ref (X 0 4), .ref (X 0 5), .ref (X 0 7), .ref (X 0 9), .int (nI (S.1 1 0)), .int (nI (S.1 10 0)), .int (nI (S.1 20 0)), .int (nI (S.1 0 0)), .long S.2.2]) (C := RX9) (T := TX9) (N := 12) hx hb hts in_X9 hown hK hZ (f00 hF1) rfl 6 (by decide) fl_47 (fun _ h9 => h9) rfl dX9_workDues_109 ?_
              refine lv_iload hx hb dX9_workDues_112 (lv_at hl 1 rfl) ?_
              refine lv_aload hx hb dX9_workDues_114 (lv_at hl 5 rfl) ?_
              refine lv_ifnonnull (tgt := 126) hx hb dX9_workDues_116 (by decide) ?_
              refine lv_aload hx hb dX9_workDues_126 (lv_at hl 5 rfl) ?_
              refine lv_iload hx hb dX9_workDues_128 (lv_at hl 4 rfl) ?_
              refine lv_iload hx hb dX9_workDues_130 (lv_at hl 1 rfl) ?_
              refine z_call (va_runV (As := [.int (bfv S j (some e2)), .int (nI (S.1 16 j + k))]) (rest := [.int (nI (S.1 16 j + k)), .ref (X 0 9)]) ⟨hx, hb, hml, hown, hts⟩ (c_X0_steppedFrom l D cT _ _ (X 6 e2) (lwA S X (S.1 22 e2)) (nI (S.1 21 e2)) (nI (S.1 25 e2)) (nI (S.1 22 e2)) (S.2.1 23 e2) (S.2.1 24 (3 * e2)) (S.2.1 24 (3 * e2 + 1)) (S.2.1 24 (3 * e2 + 2)) (if S.1 26 e2 = 0 then 1 else 0) (lwB S X (S.1 22 e2)) (lwC S (S.1 22 e2)) (bfv S j (some e2)) (nI (S.1 16 j + k)) (f6 hF1 e1) (fla hF1 (S.1 22 e2)) (flb hF1 (S.1 22 e2))) (cwV 2 hts gX9_workDues_X0_steppedFrom rfl rfl rfl (by decide +kernel) ⟨(Nat.le_of_ble_eq_true rfl), (Nat.le_of_ble_eq_true rfl)⟩) (z_preV hK hE hZ hA (ci := 0) rfl (f6 hF1 e1)) rfl rfl hl.1 rfl (lv_room (Nat.le_of_ble_eq_true rfl)) dX9_workDues_132 ⟨(Nat.le_of_ble_eq_true rfl), (Nat.le_of_ble_eq_true rfl)⟩) hZ hA (fun r G132 H locs hq hZ => ?_)
              obtain ⟨hg, rfl⟩ := hq
              replace hg := hg.symm
              subst hg
              refine W.eq (g2 := F0 m 135 ls [.int (if (bfv S j (some e2)) < (S.2.1 23 e2) then (if (bfv S j (some e2)) + lwC S (S.1 22 e2) 5 * (((nI (S.1 16 j + k)) - (nI (S.1 22 e2))) / 10 + 1) < (S.2.1 23 e2) then (bfv S j (some e2)) + lwC S (S.1 22 e2) 5 * (((nI (S.1 16 j + k)) - (nI (S.1 22 e2))) / 10 + 1) else (S.2.1 23 e2)) else (S.2.1 23 e2)), .int (nI (S.1 16 j + k)), .ref (X 0 9)]) rfl ?_
              refine W.eq (congrArg (fun v => F0 m 135 ls (.int v :: [.int (nI (S.1 16 j + k)), .ref (X 0 9)])) (show _ = dv S j (S.1 16 j + k) (duT S j fd k) from wd_dv hS hj hl18 hbq hle22 (by omega))) ?_
              refine W.eq (g2 := F0 m 135 ls [.int (dv S j (S.1 16 j + k) (duT S j fd k)), .int (nI (S.1 16 j + k)), .ref (X 0 9)]) rfl ?_
              refine z_iast hx hb hK hZ (f09 hF1) (S.1 16 j + k) rfl (by omega) (by decide) dX9_workDues_135 (fun H locs hZ => ?_)
              refine lv_aload_n hx hb dX9_workDues_136 rfl (lv_at hl 6 rfl) ?_
              refine z_get (ci := 9) (fs := [.ref (X 0 1), .ref (X 0 2), .ref (X 0 3), .ref (X 0 4), .ref (X 0 5), .ref (X 0 7), .ref (X 0 9), .int (nI (S.1 1 0)), .int (nI (S.1 10 0)), .int (nI (S.1 20 0)), .int (nI (S.1 0 0)), .long S.2.2]) (C := RX9) (T := TX9) (N := 12) hx hb hts in_X9 hown hK hZ ((va_up_ne _ _ (z_neOA (f00 hF1) (f09 hF1))).trans (f00 hF1)) rfl 6 (by decide) fl_47 (fun _ h9 => h9) rfl dX9_workDues_137 ?_
              refine lv_iload hx hb dX9_workDues_140 (lv_at hl 1 rfl) ?_
              refine z_iald hx hb hK hZ (va_up_self _ _ _) (S.1 16 j + k) rfl (by omega) (by decide) dX9_workDues_142 ?_
              refine W.eq (congrArg (fun v => F0 m 143 ls (.int v :: [])) (show _ = yst S j (k + 1) from wd_y hS hj hl18)) ?_
              refine W.eq (g2 := F0 m 143 ls [.int (yst S j (k + 1))]) rfl ?_
              refine lv_istore (lv' := [(6, .int (yst S j (k + 1))), (9, .null), (8, .int (nI (S.1 16 j + k))), (7, .int (nI n3)), (5, .int (bfv S j (some e2))), (4, .ref (X 6 e2)), (0, .ref (X 0 0)), (1, .int x), (2, .ref (X 3 j)), (3, .int y)]) hx hb dX9_workDues_143 hl (by decide) rfl (fun ls hl => ?_)
              refine lv_iinc (v := nI (S.1 16 j + (k + 1))) (lv' := [(8, .int (nI (S.1 16 j + (k + 1)))), (6, .int (yst S j (k + 1))), (9, .null), (7, .int (nI n3)), (5, .int (bfv S j (some e2))), (4, .ref (X 6 e2)), (0, .ref (X 0 0)), (1, .int x), (2, .ref (X 3 j)), (3, .int y)]) hx hb dX9_workDues_145 hl (k := 2) rfl (nI_1 _) (by decide) rfl (fun ls hl => ?_)
              refine lv_goto (tgt := 28) hx hb dX9_workDues_148 (by decide) ?_
              have hl2 : lv_has ls 10 [(8, .int (nI (S.1 16 j + (k + 1)))), (7, .int (nI n3)), (6, .int (yst S j (k + 1))), (5, .int (bfv S j (bndN S j n3))), (4, va_rf ((bndN S j n3).map (X 6))), (0, .ref (X 0 0)), (1, .int x), (2, .ref (X 3 j)), (3, .int y)] := by rw [hbn]; exact lv_sub hl [0, 3, 1, 4, 5, 6, 7, 8, 9] rfl
              exact ih28 (k + 1) n3 _ (by omega) (fr_9 hF1) hn3 (fun e he => Nat.lt_of_le_of_lt (hlo3 e he) (by omega)) (fun e h1 h2 _ => by have := hfar e h1 h2; omega) _ _ _ hZ hl2
      exact loop44 (20 - n2) n2 (by omega) hn (fun e he => Nat.le_of_lt (hlo e he)) hhi _ _ _ hZ (lv_sub hl [0, 1, 2, 3, 4, 5, 6, 7, 8] rfl)
  exact loop28 (t + 1 - S.1 16 j) 0 0 _ (by omega) hF (by omega) (fun e he => absurd he (Nat.not_lt_zero e)) (fun e h1 h2 h3 => absurd h3 (Nat.lt_irrefl 0)) _ _ _ hZ (lv_sub hl [0, 1, 2, 3, 4, 5, 6, 7, 8] rfl)

set_option maxHeartbeats 4000000 in
set_option maxRecDepth 100000 in
theorem c_X9_due (l : Launch) (D : va_G) (cT : Nat → ClassId) (G : zG) (sz : Nat) (S : zS) (X : Nat → Nat → Nat) (ct md sc rp : Int32) (fo fd : Nat → Int32) (nn : Nat) (x y : Int32) (hF : FR cT S X ct md sc rp fo fd G) (hS : ok S nn)  : zM l D cT yX9_due wsX9_due (zR 4 0 0) [.ref (X 0 0), .int x, .int y] G sz (fQ cT (X 0 0) (sp_due S x y)) := by
  refine z_start (cc := cX9_due) (maxL := 4) (ret := (some .int)) (by decide) rfl (Nat.le_of_ble_eq_true rfl) ?_
  intro p e s m below meth c ls hI hZ hl
  obtain ⟨hx, hb, hr, hml, hts, hown, hlocks, hname, hK, hA, hE⟩ := hI
  have hl : lv_has ls 4 [(0, .ref (X 0 0)), (1, .int x), (2, .int y)] := hl
  have hown : s.vm.findClass RX9 = some m.cls := hown
  have in_X3 : ∀ w ∈ u_ws RX3 TX3 4, w ∈ wsX9_due := by decide +kernel
  have in_X9 : ∀ w ∈ u_ws RX9 TX9 12, w ∈ wsX9_due := by decide +kernel
  have fl_94 := hts (.fieldLink RX9 94 "FairRents" "today" "I") (by decide +kernel)
  have fl_135 := hts (.fieldLink RX9 135 "FairRents$Home" "letting" "LFairRents$Letting;") (by decide +kernel)
  obtain ⟨⟨k1, k10, k20, k0⟩, kH, k9, k8, k15, k26, kL, kLn, kP, kE, kEm, kn⟩ := id hS
  refine lv_aload_n hx hb dX9_due_0 rfl (lv_at hl 0 rfl) ?_
  refine lv_iload_n hx hb dX9_due_1 rfl (lv_at hl 1 rfl) ?_
  refine z_call (va_runV (As := [.int x]) (rest := []) ⟨hx, hb, hml, hown, hts⟩ (c_X9_homeAt l D cT _ _ S X _ _ _ _ _ _ nn x hF hS ) (cwV 1 hts gX9_due_X9_homeAt rfl rfl rfl (by decide +kernel) ⟨(Nat.le_of_ble_eq_true rfl), (Nat.le_of_ble_eq_true rfl)⟩) (z_preV hK hE hZ hA (ci := 9) rfl (f00 hF)) rfl rfl hl.1 rfl (lv_room (Nat.le_of_ble_eq_true rfl)) dX9_due_2 ⟨(Nat.le_of_ble_eq_true rfl), (Nat.le_of_ble_eq_true rfl)⟩) hZ hA (fun r G2 H locs hq hZ => ?_)
  obtain ⟨hg, rfl⟩ := hq
  replace hg := hg.symm
  subst hg
  refine W.eq (g2 := F0 m 5 ls [va_rf ((hix S x).map (X 1))]) rfl ?_
  rcases hh : hix S x with _ | j
  · refine W.eq (g2 := F0 m 5 ls [.null]) rfl ?_
    refine lv_astore_nN (lv' := [(3, .null), (0, .ref (X 0 0)), (1, .int x), (2, .int y)]) hx hb dX9_due_5 rfl hl (by decide) rfl (fun ls hl => ?_)
    refine lv_aload_nN hx hb dX9_due_6 rfl (lv_at hl 0 rfl) ?_
    refine lv_ifnullN (tgt := 22) hx hb dX9_due_7 (by decide) ?_
    refine lv_iconst (v := (-1)) hx hb dX9_due_22 (by decide) ?_
    exact z_iret hx hb hr hlocks hZ dX9_due_23 (fQ_of (by rw [sp_due, hh]) rfl ⟨_, _, _, _, _, _, hF⟩)
  · refine W.eq (g2 := F0 m 5 ls [.ref (X 1 j)]) rfl ?_
    obtain ⟨hj, hxj⟩ := hix_some k1 hh
    refine lv_astore_n (lv' := [(3, .ref (X 1 j)), (0, .ref (X 0 0)), (1, .int x), (2, .int y)]) hx hb dX9_due_5 rfl hl (by decide) rfl (fun ls hl => ?_)
    refine lv_aload_n hx hb dX9_due_6 rfl (lv_at hl 0 rfl) ?_
    refine lv_ifnull hx hb dX9_due_7 ?_
    refine lv_iload_n hx hb dX9_due_10 rfl (lv_at hl 3 rfl) ?_
    refine lv_iconst (v := 0) hx hb dX9_due_11 (by decide) ?_
    refine lv_aload_n hx hb dX9_due_12 rfl (lv_at hl 1 rfl) ?_
    refine z_get (ci := 9) (fs := [.ref (X 0 1), .ref (X 0 2), .ref (X 0 3), .ref (X 0 4), .ref (X 0 5), .ref (X 0 7), .ref (X 0 9), .int (nI (S.1 1 0)), .int (nI (S.1 10 0)), .int (nI (S.1 20 0)), .int (nI (S.1 0 0)), .long S.2.2]) (C := RX9) (T := TX9) (N := 12) hx hb hts in_X9 hown hK hZ (f00 hF) rfl 10 (by decide) fl_94 (fun _ h9 => h9) rfl dX9_due_13 ?_
    refine z_call (va_runS (As := [.int y, .int 0, .int (nI (S.1 0 0))]) (rest := []) ⟨hx, hb, hml, hown, hts⟩ (c_X9_within l D cT _ _ y 0 (nI (S.1 0 0))) (va_cwS 3 hts gX9_due_X9_within rfl rfl rfl (by decide +kernel) ⟨(Nat.le_of_ble_eq_true rfl), (Nat.le_of_ble_eq_true rfl)⟩) (z_preS hK hE hZ hA) rfl rfl hl.1 rfl (lv_room (Nat.le_of_ble_eq_true rfl)) dX9_due_16 ⟨(Nat.le_of_ble_eq_true rfl), (Nat.le_of_ble_eq_true rfl)⟩) hZ hA (fun r G16 H locs hq hZ => ?_)
    obtain ⟨hg, rfl⟩ := hq
    replace hg := hg.symm
    subst hg
    refine W.eq (g2 := F0 m 19 ls [.int (if 0 ≤ y ∧ y ≤ (nI (S.1 0 0)) then 1 else 0)]) rfl ?_
    refine zb_ne (tgt := 24) hx hb dX9_due_19 (by decide) (fun c19 => ?_) (fun c19 => ?_)
    · have hyt : y = nI y.toNatClampNeg := (z_self c19.1).symm
      have ht : y.toNatClampNeg ≤ S.1 0 0 := z_cl c19 (nI_toInt (by omega))
      have hL16 := (kL j).2.1
      have hN18 := (kL j).1
      refine lv_aload_n hx hb dX9_due_24 rfl (lv_at hl 0 rfl) ?_
      refine z_get (ci := 3) (fs := [.ref (X 2 j), .int (nI (S.1 3 j)), .ref (X 3 j), .int (S.2.1 6 j)]) (C := RX3) (T := TX3) (N := 4) hx hb hts in_X3 hown hK hZ (f1 hF hj) rfl 2 (by decide) fl_135 (fun _ h9 => h9) rfl dX9_due_25 ?_
      refine lv_iload_n hx hb dX9_due_28 rfl (lv_at hl 3 rfl) ?_
      refine z_call (va_runV (As := [.int y]) (rest := []) ⟨hx, hb, hml, hown, hts⟩ (c_X5_covers l D cT _ _ (X 3 j) (X 4 j) (nI (S.1 18 j)) (nI (S.1 16 j)) (S.2.1 17 j) (psum (rowS S j) 301) y (f3 hF hj)) (cwV 1 hts gX9_due_X5_covers rfl rfl rfl (by decide +kernel) ⟨(Nat.le_of_ble_eq_true rfl), (Nat.le_of_ble_eq_true rfl)⟩) (z_preV hK hE hZ hA (ci := 5) rfl (f3 hF hj)) rfl rfl hl.1 rfl (lv_room (Nat.le_of_ble_eq_true rfl)) dX9_due_29 ⟨(Nat.le_of_ble_eq_true rfl), (Nat.le_of_ble_eq_true rfl)⟩) hZ hA (fun r G29 H locs hq hZ => ?_)
      obtain ⟨hg, rfl⟩ := hq
      replace hg := hg.symm
      subst hg
      refine W.eq (g2 := F0 m 32 ls [.int (if 0 < (nI (S.1 18 j)) ∧ ¬ y < (nI (S.1 16 j)) then 1 else 0)]) rfl ?_
      refine zb_ne (tgt := 38) hx hb dX9_due_32 (by decide) (fun c32 => ?_) (fun c32 => ?_)
      · have hl18 : ¬ S.1 18 j = 0 := hl_nz c32.1
        have hlt : S.1 16 j ≤ y.toNatClampNeg := wd_le hyt (by omega) (by omega) c32.2
        refine lv_aload_n hx hb dX9_due_38 rfl (lv_at hl 1 rfl) ?_
        refine lv_iload_n hx hb dX9_due_39 rfl (lv_at hl 2 rfl) ?_
        refine lv_aload_n hx hb dX9_due_40 rfl (lv_at hl 0 rfl) ?_
        refine z_get (ci := 3) (fs := [.ref (X 2 j), .int (nI (S.1 3 j)), .ref (X 3 j), .int (S.2.1 6 j)]) (C := RX3) (T := TX3) (N := 4) hx hb hts in_X3 hown hK hZ (f1 hF hj) rfl 2 (by decide) fl_135 (fun _ h9 => h9) rfl dX9_due_41 ?_
        refine lv_iload_n hx hb dX9_due_44 rfl (lv_at hl 3 rfl) ?_
        refine z_call (va_runV (As := [.int x, .ref (X 3 j), .int y]) (rest := []) ⟨hx, hb, hml, hown, hts⟩ (c_X9_workDues l D cT _ _ S X _ _ _ _ _ _ nn x y j y.toNatClampNeg hF hS hj hxj ht hyt hl18 hlt) (cwV 3 hts gX9_due_X9_workDues rfl rfl rfl (by decide +kernel) ⟨(Nat.le_of_ble_eq_true rfl), (Nat.le_of_ble_eq_true rfl)⟩) (z_preV hK hE hZ hA (ci := 9) rfl (f00 hF)) rfl rfl hl.1 rfl (lv_room (Nat.le_of_ble_eq_true rfl)) dX9_due_45 ⟨(Nat.le_of_ble_eq_true rfl), (Nat.le_of_ble_eq_true rfl)⟩) hZ hA (fun r G45 H locs hq hZ => ?_)
        obtain ⟨hF45, rfl⟩ := hq
        refine W.eq (g2 := F0 m 48 ls [.int (dd S j y.toNatClampNeg)]) rfl ?_
        exact z_iret hx hb hr hlocks hZ dX9_due_48 (fQ_of (by rw [sp_due, hh]; simp only []; rw [if_pos c19, if_neg (due_c hl18 hlt)]) rfl ⟨_, _, _, _, _, _, hF45⟩)
      · refine lv_bipush (v := (-2)) hx hb dX9_due_35 (by decide) ?_
        exact z_iret hx hb hr hlocks hZ dX9_due_37 (fQ_of (by rw [sp_due, hh]; simp only []; rw [if_pos c19, if_pos (wd_nc hyt (by omega) (by omega) (by omega) c32)]) rfl ⟨_, _, _, _, _, _, hF⟩)
    · refine lv_iconst (v := (-1)) hx hb dX9_due_22 (by decide) ?_
      exact z_iret hx hb hr hlocks hZ dX9_due_23 (fQ_of (by rw [sp_due, hh]; simp only []; rw [if_neg c19]) rfl ⟨_, _, _, _, _, _, hF⟩)

set_option maxHeartbeats 4000000 in
set_option maxRecDepth 100000 in
theorem c_X9_owed (l : Launch) (D : va_G) (cT : Nat → ClassId) (G : zG) (sz : Nat) (S : zS) (X : Nat → Nat → Nat) (ct md sc rp : Int32) (fo fd : Nat → Int32) (nn : Nat) (x y : Int32) (hF : FR cT S X ct md sc rp fo fd G) (hS : ok S nn)  : zM l D cT yX9_owed wsX9_owed (zR 4 0 0) [.ref (X 0 0), .int x, .int y] G sz (fQ cT (X 0 0) (sp_owed S x y)) := by
  refine z_start (cc := cX9_owed) (maxL := 7) (ret := (some .int)) (by decide) rfl (Nat.le_of_ble_eq_true rfl) ?_
  intro p e s m below meth c ls hI hZ hl
  obtain ⟨hx, hb, hr, hml, hts, hown, hlocks, hname, hK, hA, hE⟩ := hI
  have hl : lv_has ls 7 [(0, .ref (X 0 0)), (1, .int x), (2, .int y)] := hl
  have hown : s.vm.findClass RX9 = some m.cls := hown
  have in_X3 : ∀ w ∈ u_ws RX3 TX3 4, w ∈ wsX9_owed := by decide +kernel
  have in_X5 : ∀ w ∈ u_ws RX5 TX5 5, w ∈ wsX9_owed := by decide +kernel
  have in_X9 : ∀ w ∈ u_ws RX9 TX9 12, w ∈ wsX9_owed := by decide +kernel
  have fl_47 := hts (.fieldLink RX9 47 "FairRents" "dues" "[I") (by decide +kernel)
  have fl_94 := hts (.fieldLink RX9 94 "FairRents" "today" "I") (by decide +kernel)
  have fl_135 := hts (.fieldLink RX9 135 "FairRents$Home" "letting" "LFairRents$Letting;") (by decide +kernel)
  have fl_204 := hts (.fieldLink RX9 204 "FairRents$Letting" "first" "I") (by decide +kernel)
  obtain ⟨⟨k1, k10, k20, k0⟩, kH, k9, k8, k15, k26, kL, kLn, kP, kE, kEm, kn⟩ := id hS
  refine lv_aload_n hx hb dX9_owed_0 rfl (lv_at hl 0 rfl) ?_
  refine lv_iload_n hx hb dX9_owed_1 rfl (lv_at hl 1 rfl) ?_
  refine z_call (va_runV (As := [.int x]) (rest := []) ⟨hx, hb, hml, hown, hts⟩ (c_X9_homeAt l D cT _ _ S X _ _ _ _ _ _ nn x hF hS ) (cwV 1 hts gX9_owed_X9_homeAt rfl rfl rfl (by decide +kernel) ⟨(Nat.le_of_ble_eq_true rfl), (Nat.le_of_ble_eq_true rfl)⟩) (z_preV hK hE hZ hA (ci := 9) rfl (f00 hF)) rfl rfl hl.1 rfl (lv_room (Nat.le_of_ble_eq_true rfl)) dX9_owed_2 ⟨(Nat.le_of_ble_eq_true rfl), (Nat.le_of_ble_eq_true rfl)⟩) hZ hA (fun r G2 H locs hq hZ => ?_)
  obtain ⟨hg, rfl⟩ := hq
  replace hg := hg.symm
  subst hg
  refine W.eq (g2 := F0 m 5 ls [va_rf ((hix S x).map (X 1))]) rfl ?_
  rcases hh : hix S x with _ | j
  · refine W.eq (g2 := F0 m 5 ls [.null]) rfl ?_
    refine lv_astore_nN (lv' := [(3, .null), (0, .ref (X 0 0)), (1, .int x), (2, .int y)]) hx hb dX9_owed_5 rfl hl (by decide) rfl (fun ls hl => ?_)
    refine lv_aload_nN hx hb dX9_owed_6 rfl (lv_at hl 0 rfl) ?_
    refine lv_ifnullN (tgt := 33) hx hb dX9_owed_7 (by decide) ?_
    refine lv_ldc (v := (-1000000000)) hx hb hown (hts (.constant RX9 115 (-1000000000)) (by decide +kernel)) dX9_owed_33 ?_
    exact z_iret hx hb hr hlocks hZ dX9_owed_35 (fQ_of (by rw [sp_owed, hh]) rfl ⟨_, _, _, _, _, _, hF⟩)
  · refine W.eq (g2 := F0 m 5 ls [.ref (X 1 j)]) rfl ?_
    obtain ⟨hj, hxj⟩ := hix_some k1 hh
    refine lv_astore_n (lv' := [(3, .ref (X 1 j)), (0, .ref (X 0 0)), (1, .int x), (2, .int y)]) hx hb dX9_owed_5 rfl hl (by decide) rfl (fun ls hl => ?_)
    refine lv_aload_n hx hb dX9_owed_6 rfl (lv_at hl 0 rfl) ?_
    refine lv_ifnull hx hb dX9_owed_7 ?_
    refine lv_iload_n hx hb dX9_owed_10 rfl (lv_at hl 3 rfl) ?_
    refine lv_iconst (v := 0) hx hb dX9_owed_11 (by decide) ?_
    refine lv_aload_n hx hb dX9_owed_12 rfl (lv_at hl 1 rfl) ?_
    refine z_get (ci := 9) (fs := [.ref (X 0 1), .ref (X 0 2), .ref (X 0 3), .ref (X 0 4), .ref (X 0 5), .ref (X 0 7), .ref (X 0 9), .int (nI (S.1 1 0)), .int (nI (S.1 10 0)), .int (nI (S.1 20 0)), .int (nI (S.1 0 0)), .long S.2.2]) (C := RX9) (T := TX9) (N := 12) hx hb hts in_X9 hown hK hZ (f00 hF) rfl 10 (by decide) fl_94 (fun _ h9 => h9) rfl dX9_owed_13 ?_
    refine z_call (va_runS (As := [.int y, .int 0, .int (nI (S.1 0 0))]) (rest := []) ⟨hx, hb, hml, hown, hts⟩ (c_X9_within l D cT _ _ y 0 (nI (S.1 0 0))) (va_cwS 3 hts gX9_owed_X9_within rfl rfl rfl (by decide +kernel) ⟨(Nat.le_of_ble_eq_true rfl), (Nat.le_of_ble_eq_true rfl)⟩) (z_preS hK hE hZ hA) rfl rfl hl.1 rfl (lv_room (Nat.le_of_ble_eq_true rfl)) dX9_owed_16 ⟨(Nat.le_of_ble_eq_true rfl), (Nat.le_of_ble_eq_true rfl)⟩) hZ hA (fun r G16 H locs hq hZ => ?_)
    obtain ⟨hg, rfl⟩ := hq
    replace hg := hg.symm
    subst hg
    refine W.eq (g2 := F0 m 19 ls [.int (if 0 ≤ y ∧ y ≤ (nI (S.1 0 0)) then 1 else 0)]) rfl ?_
    refine zb_eq (tgt := 33) hx hb dX9_owed_19 (by decide) (fun c19 => ?_) (fun c19 => ?_)
    · refine lv_ldc (v := (-1000000000)) hx hb hown (hts (.constant RX9 115 (-1000000000)) (by decide +kernel)) dX9_owed_33 ?_
      exact z_iret hx hb hr hlocks hZ dX9_owed_35 (fQ_of (by rw [sp_owed, hh]; simp only []; rw [if_neg (fun h => c19 h.1)]) rfl ⟨_, _, _, _, _, _, hF⟩)
    · have hyt : y = nI y.toNatClampNeg := (z_self c19.1).symm
      have ht : y.toNatClampNeg ≤ S.1 0 0 := z_cl c19 (nI_toInt (by omega))
      have hL16 := (kL j).2.1
      have hN18 := (kL j).1
      refine lv_aload_n hx hb dX9_owed_22 rfl (lv_at hl 0 rfl) ?_
      refine z_get (ci := 3) (fs := [.ref (X 2 j), .int (nI (S.1 3 j)), .ref (X 3 j), .int (S.2.1 6 j)]) (C := RX3) (T := TX3) (N := 4) hx hb hts in_X3 hown hK hZ (f1 hF hj) rfl 2 (by decide) fl_135 (fun _ h9 => h9) rfl dX9_owed_23 ?_
      refine lv_iload_n hx hb dX9_owed_26 rfl (lv_at hl 3 rfl) ?_
      refine z_call (va_runV (As := [.int y]) (rest := []) ⟨hx, hb, hml, hown, hts⟩ (c_X5_covers l D cT _ _ (X 3 j) (X 4 j) (nI (S.1 18 j)) (nI (S.1 16 j)) (S.2.1 17 j) (psum (rowS S j) 301) y (f3 hF hj)) (cwV 1 hts gX9_owed_X5_covers rfl rfl rfl (by decide +kernel) ⟨(Nat.le_of_ble_eq_true rfl), (Nat.le_of_ble_eq_true rfl)⟩) (z_preV hK hE hZ hA (ci := 5) rfl (f3 hF hj)) rfl rfl hl.1 rfl (lv_room (Nat.le_of_ble_eq_true rfl)) dX9_owed_27 ⟨(Nat.le_of_ble_eq_true rfl), (Nat.le_of_ble_eq_true rfl)⟩) hZ hA (fun r G27 H locs hq hZ => ?_)
      obtain ⟨hg, rfl⟩ := hq
      replace hg := hg.symm
      subst hg
      refine W.eq (g2 := F0 m 30 ls [.int (if 0 < (nI (S.1 18 j)) ∧ ¬ y < (nI (S.1 16 j)) then 1 else 0)]) rfl ?_
      refine zb_ne (tgt := 36) hx hb dX9_owed_30 (by decide) (fun c30 => ?_) (fun c30 => ?_)
      · have hl18 : ¬ S.1 18 j = 0 := hl_nz c30.1
        have hlt : S.1 16 j ≤ y.toNatClampNeg := wd_le hyt (by omega) (by omega) c30.2
        refine lv_aload_n hx hb dX9_owed_36 rfl (lv_at hl 0 rfl) ?_
        refine z_get (ci := 3) (fs := [.ref (X 2 j), .int (nI (S.1 3 j)), .ref (X 3 j), .int (S.2.1 6 j)]) (C := RX3) (T := TX3) (N := 4) hx hb hts in_X3 hown hK hZ (f1 hF hj) rfl 2 (by decide) fl_135 (fun _ h9 => h9) rfl dX9_owed_37 ?_
        refine lv_astore (lv' := [(4, .ref (X 3 j)), (3, .ref (X 1 j)), (0, .ref (X 0 0)), (1, .int x), (2, .int y)]) hx hb dX9_owed_40 hl (by decide) rfl (fun ls hl => ?_)
        refine lv_aload_n hx hb dX9_owed_42 rfl (lv_at hl 2 rfl) ?_
        refine lv_iload_n hx hb dX9_owed_43 rfl (lv_at hl 3 rfl) ?_
        refine lv_aload hx hb dX9_owed_44 (lv_at hl 0 rfl) ?_
        refine lv_iload_n hx hb dX9_owed_46 rfl (lv_at hl 4 rfl) ?_
        refine z_call (va_runV (As := [.int x, .ref (X 3 j), .int y]) (rest := []) ⟨hx, hb, hml, hown, hts⟩ (c_X9_workDues l D cT _ _ S X _ _ _ _ _ _ nn x y j y.toNatClampNeg hF hS hj hxj ht hyt hl18 hlt) (cwV 3 hts gX9_owed_X9_workDues rfl rfl rfl (by decide +kernel) ⟨(Nat.le_of_ble_eq_true rfl), (Nat.le_of_ble_eq_true rfl)⟩) (z_preV hK hE hZ hA (ci := 9) rfl (f00 hF)) rfl rfl hl.1 rfl (lv_room (Nat.le_of_ble_eq_true rfl)) dX9_owed_47 ⟨(Nat.le_of_ble_eq_true rfl), (Nat.le_of_ble_eq_true rfl)⟩) hZ hA (fun r G47 H locs hq hZ => ?_)
        obtain ⟨hF47, rfl⟩ := hq
        refine W.eq (g2 := F0 m 50 ls [.int (dd S j y.toNatClampNeg)]) rfl ?_
        refine lv_pop hx hb dX9_owed_50 rfl ?_
        refine lv_iconst (v := 0) hx hb dX9_owed_51 (by decide) ?_
        refine lv_istore (lv' := [(5, .int 0), (4, .ref (X 3 j)), (3, .ref (X 1 j)), (0, .ref (X 0 0)), (1, .int x), (2, .int y)]) hx hb dX9_owed_52 hl (by decide) rfl (fun ls hl => ?_)
        refine lv_aload hx hb dX9_owed_54 (lv_at hl 1 rfl) ?_
        refine z_get (ci := 5) (fs := [.ref (X 4 j), .int (nI (S.1 18 j)), .int (nI (S.1 16 j)), .int (S.2.1 17 j), .int (psum (rowS S j) 301)]) (C := RX5) (T := TX5) (N := 5) hx hb hts in_X5 hown hK hZ (f3 hF47 hj) rfl 2 (by decide) fl_204 (fun _ h9 => h9) rfl dX9_owed_56 ?_
        refine lv_iconst (v := 0) hx hb dX9_owed_59 (by decide) ?_
        refine va_mmax hx hb (by rw [hml]; exact hl.1.symm) hown (hts (.methodLink RX9 160 Lib.Math.max.name) (by decide +kernel)) (hts (.static Lib.Math.max.name) (by decide +kernel)) (hts (.initialized "java/lang/Math") (by decide +kernel)) (hts _ (List.mem_of_getElem? (i := 8) rfl)) (Nat.le_of_ble_eq_true rfl) (Nat.le_of_ble_eq_true rfl) (Nat.le_of_ble_eq_true rfl) (Nat.le_of_ble_eq_true rfl) dX9_owed_60 ?_
        refine W.eq (congrArg (fun v => F0 m 63 ls (.int v :: [])) (show _ = nI (S.1 16 j + 0) from wd_max (kL j).2.1 k0)) ?_
        refine W.eq (g2 := F0 m 63 ls [.int (nI (S.1 16 j + 0))]) rfl ?_
        refine lv_istore (lv' := [(6, .int (nI (S.1 16 j + 0))), (5, .int 0), (4, .ref (X 3 j)), (3, .ref (X 1 j)), (0, .ref (X 0 0)), (1, .int x), (2, .int y)]) hx hb dX9_owed_63 hl (by decide) rfl (fun ls hl => ?_)
        have loop65 : ∀ (q k : Nat) (hq : S.1 16 j + k + q = y.toNatClampNeg + 1) (H : Heap) (locs : List Loc) (ls : Array Slot), zW D (zA G sz) s.heap G47 H locs → lv_has ls 7 [(6, .int (nI (S.1 16 j + k))), (5, .int (psum (fun i => dd S j (S.1 16 j + i) - S.2.1 19 (301 * j + (S.1 16 j + i))) k)), (4, .ref (X 3 j)), (0, .ref (X 0 0)), (2, .int y)] → W p l e (zR 4 0 0) s m ([.ref (X 0 0), .int x, .int y] : List Value).toArray below meth c H locs 0 0 (MQ below (zQ D G sz (fQ cT (X 0 0) (sp_owed S x y))) ([.ref (X 0 0), .int x, .int y] : List Value).toArray s 0 0 (zA G sz)) (F0 m 65 ls []) := by
          intro q
          induction q with
          | zero =>
            intro k hq H locs ls hZ hl
            refine lv_iload hx hb dX9_owed_65 (lv_at hl 0 rfl) ?_
            refine lv_iload_n hx hb dX9_owed_67 rfl (lv_at hl 4 rfl) ?_
            refine lv_icmp_gt (tgt := 107) hx hb dX9_owed_68 (by decide) (fun _ => ?_) (fun c68 => absurd (by rw [hyt]; exact nI_lt (by omega) (by omega)) c68)
            refine lv_iload hx hb dX9_owed_107 (lv_at hl 1 rfl) ?_
            exact z_iret hx hb hr hlocks hZ dX9_owed_109 (fQ_of (by rw [sp_owed, hh]; simp only []; rw [if_pos ⟨c19, hl18, Nat.not_lt.mpr hlt⟩]; exact ow_end hS hj (by omega) hlt (show S.1 16 j + k = y.toNatClampNeg + 1 by omega)) rfl ⟨_, _, _, _, _, _, hF47⟩)
          | succ q ih65 =>
            intro k hq H locs ls hZ hl
            refine lv_iload hx hb dX9_owed_65 (lv_at hl 0 rfl) ?_
            refine lv_iload_n hx hb dX9_owed_67 rfl (lv_at hl 4 rfl) ?_
            refine lv_icmp_gt (tgt := 107) hx hb dX9_owed_68 (by decide) (fun c68 => absurd c68 (by rw [hyt]; exact nI_nlt (by omega) (by omega))) (fun _ => ?_)
            refine lv_iload hx hb dX9_owed_71 (lv_at hl 0 rfl) ?_
            refine lv_aload_n hx hb dX9_owed_73 rfl (lv_at hl 3 rfl) ?_
            refine z_get (ci := 9) (fs := [.ref (X 0 1), .ref (X 0 2), .ref (X 0 3), .ref (X 0 4), .ref (X 0 5), .ref (X 0 7), .ref (X 0 9), .int (nI (S.1 1 0)), .int (nI (S.1 10 0)), .int (nI (S.1 20 0)), .int (nI (S.1 0 0)), .long S.2.2]) (C := RX9) (T := TX9) (N := 12) hx hb hts in_X9 hown hK hZ (f00 hF47) rfl 6 (by decide) fl_47 (fun _ h9 => h9) rfl dX9_owed_74 ?_
            refine z_alen hx hb hK hZ 0 (f09 hF47) rfl dX9_owed_77 ?_
            refine lv_icmp_ge (tgt := 107) hx hb dX9_owed_78 (by decide) (fun c78 => absurd c78 (nI_ge (b := 301) (by omega) (by decide))) (fun _ => ?_)
            refine lv_iload hx hb dX9_owed_81 (lv_at hl 1 rfl) ?_
            refine lv_aload_n hx hb dX9_owed_83 rfl (lv_at hl 3 rfl) ?_
            refine z_get (ci := 9) (fs := [.ref (X 0 1), .ref (X 0 2), .ref (X 0 3), .ref (X 0 4), .ref (X 0 5), .ref (X 0 7), .ref (X 0 9), .int (nI (S.1 1 0)), .int (nI (S.1 10 0)), .int (nI (S.1 20 0)), .int (nI (S.1 0 0)), .long S.2.2]) (C := RX9) (T := TX9) (N := 12) hx hb hts in_X9 hown hK hZ (f00 hF47) rfl 6 (by decide) fl_47 (fun _ h9 => h9) rfl dX9_owed_84 ?_
            refine lv_iload hx hb dX9_owed_87 (lv_at hl 0 rfl) ?_
            refine z_iald hx hb hK hZ (f09 hF47) (S.1 16 j + k) rfl (by omega) (by decide) dX9_owed_89 ?_
            refine lv_aload hx hb dX9_owed_90 (lv_at hl 2 rfl) ?_
            refine lv_iload hx hb dX9_owed_92 (lv_at hl 0 rfl) ?_
            refine z_call (va_runV (As := [.int (nI (S.1 16 j + k))]) (rest := [.int ((duT S j fd (y.toNatClampNeg + 1 - S.1 16 j)) (S.1 16 j + k)), .int (psum (fun i => dd S j (S.1 16 j + i) - S.2.1 19 (301 * j + (S.1 16 j + i))) k)]) ⟨hx, hb, hml, hown, hts⟩ (c_X5_paidOn l D cT _ _ (X 3 j) (X 4 j) (nI (S.1 18 j)) (nI (S.1 16 j)) (S.2.1 17 j) (psum (rowS S j) 301) (rowS S j) (nI (S.1 16 j + k)) (S.1 16 j + k) (f3 hF47 hj) (f4 hF47 hj) rfl (by omega)) (cwV 1 hts gX9_owed_X5_paidOn rfl rfl rfl (by decide +kernel) ⟨(Nat.le_of_ble_eq_true rfl), (Nat.le_of_ble_eq_true rfl)⟩) (z_preV hK hE hZ hA (ci := 5) rfl (f3 hF47 hj)) rfl rfl hl.1 rfl (lv_room (Nat.le_of_ble_eq_true rfl)) dX9_owed_94 ⟨(Nat.le_of_ble_eq_true rfl), (Nat.le_of_ble_eq_true rfl)⟩) hZ hA (fun r G94 H locs hq hZ => ?_)
            obtain ⟨hg, rfl⟩ := hq
            replace hg := hg.symm
            subst hg
            refine W.eq (g2 := F0 m 97 ls [.int (rowS S j (S.1 16 j + k)), .int ((duT S j fd (y.toNatClampNeg + 1 - S.1 16 j)) (S.1 16 j + k)), .int (psum (fun i => dd S j (S.1 16 j + i) - S.2.1 19 (301 * j + (S.1 16 j + i))) k)]) rfl ?_
            refine lv_isub hx hb dX9_owed_97 ?_
            refine lv_iadd hx hb dX9_owed_98 ?_
            refine W.eq (congrArg (fun v => F0 m 99 ls (.int v :: [])) (show _ = psum (fun i => dd S j (S.1 16 j + i) - S.2.1 19 (301 * j + (S.1 16 j + i))) (k + 1) from ow_c (dd_e S j fd hS hj hl18 (by omega) (by omega)) (by omega))) ?_
            refine W.eq (g2 := F0 m 99 ls [.int (psum (fun i => dd S j (S.1 16 j + i) - S.2.1 19 (301 * j + (S.1 16 j + i))) (k + 1))]) rfl ?_
            refine lv_istore (lv' := [(5, .int (psum (fun i => dd S j (S.1 16 j + i) - S.2.1 19 (301 * j + (S.1 16 j + i))) (k + 1))), (6, .int (nI (S.1 16 j + k))), (4, .ref (X 3 j)), (0, .ref (X 0 0)), (2, .int y)]) hx hb dX9_owed_99 hl (by decide) rfl (fun ls hl => ?_)
            refine lv_iinc (v := nI (S.1 16 j + (k + 1))) (lv' := [(6, .int (nI (S.1 16 j + (k + 1)))), (5, .int (psum (fun i => dd S j (S.1 16 j + i) - S.2.1 19 (301 * j + (S.1 16 j + i))) (k + 1))), (4, .ref (X 3 j)), (0, .ref (X 0 0)), (2, .int y)]) hx hb dX9_owed_101 hl (k := 1) rfl (nI_1 _) (by decide) rfl (fun ls hl => ?_)
            refine lv_goto (tgt := 65) hx hb dX9_owed_104 (by decide) ?_
            exact ih65 (k + 1) (by omega) _ _ _ hZ (lv_sub hl [0, 1, 2, 3, 4] rfl)
        exact loop65 (y.toNatClampNeg + 1 - S.1 16 j) 0 (by omega) _ _ _ hZ (lv_sub hl [0, 1, 2, 4, 6] rfl)
      · refine lv_ldc (v := (-1000000000)) hx hb hown (hts (.constant RX9 115 (-1000000000)) (by decide +kernel)) dX9_owed_33 ?_
        exact z_iret hx hb hr hlocks hZ dX9_owed_35 (fQ_of (by rw [sp_owed, hh]; simp only []; rw [if_neg (fun h => absurd (wd_nc hyt (by omega) (by omega) (by omega) c30) (due_c h.2.1 (Nat.not_lt.mp h.2.2)))]) rfl ⟨_, _, _, _, _, _, hF⟩)

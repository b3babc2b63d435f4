set_option maxHeartbeats 4000000 in
set_option maxRecDepth 100000 in
theorem c_X9_within (l : Launch) (D : va_G) (cT : Nat → ClassId) (G : zG) (sz : Nat) (x lo hi : Int32)  : zM l D cT yX9_within wsX9_within (zR 0 0 0) [.int x, .int lo, .int hi] G sz (fun r G' => G' = G ∧ r = some (.int (if lo ≤ x ∧ x ≤ hi then 1 else 0))) := by
  refine z_start (cc := cX9_within) (maxL := 3) (ret := (some .boolean)) (by decide) rfl (Nat.le_of_ble_eq_true rfl) ?_
  intro p e s m below meth c ls hI hZ hl
  obtain ⟨hx, hb, hr, hml, hts, hown, hlocks, hname, hK, hA, hE⟩ := hI
  have hl : lv_has ls 3 [(0, .int x), (1, .int lo), (2, .int hi)] := hl
  have hown : s.vm.findClass RX9 = some m.cls := hown
  refine lv_iload_n hx hb dX9_within_0 rfl (lv_at hl 0 rfl) ?_
  refine lv_iload_n hx hb dX9_within_1 rfl (lv_at hl 1 rfl) ?_
  refine lv_icmp_lt (tgt := 14) hx hb dX9_within_2 (by decide) (fun c2 => ?_) (fun c2 => ?_)
  · refine lv_iconst (v := 0) hx hb dX9_within_14 (by decide) ?_
    exact z_zret hx hb hr hlocks hZ (Or.inl rfl) dX9_within_15 (⟨rfl, z_wl c2⟩)
  · refine lv_iload_n hx hb dX9_within_5 rfl (lv_at hl 0 rfl) ?_
    refine lv_iload_n hx hb dX9_within_6 rfl (lv_at hl 2 rfl) ?_
    refine lv_icmp_gt (tgt := 14) hx hb dX9_within_7 (by decide) (fun c7 => ?_) (fun c7 => ?_)
    · refine lv_iconst (v := 0) hx hb dX9_within_14 (by decide) ?_
      exact z_zret hx hb hr hlocks hZ (Or.inl rfl) dX9_within_15 (⟨rfl, z_wr c7⟩)
    · refine lv_iconst (v := 1) hx hb dX9_within_10 (by decide) ?_
      refine lv_goto (tgt := 15) hx hb dX9_within_11 (by decide) ?_
      exact z_zret hx hb hr hlocks hZ (Or.inr rfl) dX9_within_15 (⟨rfl, z_w1 c2 c7⟩)

set_option maxHeartbeats 4000000 in
set_option maxRecDepth 100000 in
theorem c_J9_floorDiv (l : Launch) (D : va_G) (cT : Nat → ClassId) (G : zG) (sz : Nat) (x : Int32)  : zM l D cT yJ9_floorDiv_7cf53 wsJ9_floorDiv_7cf53 (zR 0 0 0) [.int x, .int 4] G sz (fun r G' => G' = G ∧ r = some (.int (zfd x))) := by
  refine z_startF (cc := cJ9_floorDiv_7cf53) (maxL := 3) (ret := (some .int)) (by decide +kernel) rfl (Nat.le_of_ble_eq_true rfl) ?_
  intro p e s m below meth c ls hI hZ hl
  obtain ⟨hx, hb, hr, hml, hts, hown, hlocks, hname, hK, hA, hE⟩ := hI
  have hl : lv_has ls 3 [(0, .int x), (1, .int 4)] := hl
  have hown : s.vm.findClass RJ9 = some m.cls := hown
  refine lv_iload_n hx hb dJ9_floorDiv_7cf53_0 rfl (lv_at hl 0 rfl) ?_
  refine lv_iload_n hx hb dJ9_floorDiv_7cf53_1 rfl (lv_at hl 1 rfl) ?_
  refine lv_idiv hx hb dJ9_floorDiv_7cf53_2 (by decide) ?_
  refine lv_istore_n (lv' := [(2, .int (x / 4)), (0, .int x), (1, .int 4)]) hx hb dJ9_floorDiv_7cf53_3 rfl hl (by decide) rfl (fun ls hl => ?_)
  refine lv_iload_n hx hb dJ9_floorDiv_7cf53_4 rfl (lv_at hl 1 rfl) ?_
  refine lv_iload_n hx hb dJ9_floorDiv_7cf53_5 rfl (lv_at hl 2 rfl) ?_
  refine lv_ixor hx hb dJ9_floorDiv_7cf53_6 ?_
  refine lv_if_ge (tgt := 21) hx hb dJ9_floorDiv_7cf53_7 (by decide) (fun c7 => ?_) (fun c7 => ?_)
  · refine lv_iload_n hx hb dJ9_floorDiv_7cf53_21 rfl (lv_at hl 0 rfl) ?_
    exact z_iret hx hb hr hlocks hZ dJ9_floorDiv_7cf53_22 (⟨rfl, by rw [zfd, if_neg (fun h => h.1 c7)]⟩)
  · refine lv_iload_n hx hb dJ9_floorDiv_7cf53_10 rfl (lv_at hl 0 rfl) ?_
    refine lv_iload_n hx hb dJ9_floorDiv_7cf53_11 rfl (lv_at hl 2 rfl) ?_
    refine lv_imul hx hb dJ9_floorDiv_7cf53_12 ?_
    refine lv_iload_n hx hb dJ9_floorDiv_7cf53_13 rfl (lv_at hl 1 rfl) ?_
    refine lv_icmp_eq (tgt := 21) hx hb dJ9_floorDiv_7cf53_14 (by decide) (fun c14 => ?_) (fun c14 => ?_)
    · refine lv_iload_n hx hb dJ9_floorDiv_7cf53_21 rfl (lv_at hl 0 rfl) ?_
      exact z_iret hx hb hr hlocks hZ dJ9_floorDiv_7cf53_22 (⟨rfl, by rw [zfd, if_neg (fun h => h.2 c14)]⟩)
    · refine lv_iload_n hx hb dJ9_floorDiv_7cf53_17 rfl (lv_at hl 0 rfl) ?_
      refine lv_iconst (v := 1) hx hb dJ9_floorDiv_7cf53_18 (by decide) ?_
      refine lv_isub hx hb dJ9_floorDiv_7cf53_19 ?_
      exact z_iret hx hb hr hlocks hZ dJ9_floorDiv_7cf53_20 (⟨rfl, by rw [zfd, if_pos ⟨c7, c14⟩]⟩)

set_option maxHeartbeats 4000000 in
set_option maxRecDepth 100000 in
theorem c_X8_worth_X8 (l : Launch) (D : va_G) (cT : Nat → ClassId) (G : zG) (sz : Nat) (a : Nat) (rm : Int32) (ha : G a = some (.inr (8, [.int rm]))) : zM l D cT yX8_worth wsX8_worth (zR 0 0 0) [.ref a] G sz (fun r G' => G' = G ∧ r = some (.int (10 * rm))) := by
  refine z_start (cc := cX8_worth) (maxL := 1) (ret := (some .int)) (by decide) rfl (Nat.le_of_ble_eq_true rfl) ?_
  intro p e s m below meth c ls hI hZ hl
  obtain ⟨hx, hb, hr, hml, hts, hown, hlocks, hname, hK, hA, hE⟩ := hI
  have hl : lv_has ls 1 [(0, .ref a)] := hl
  have hown : s.vm.findClass RX8 = some m.cls := hown
  have in_X8 : ∀ w ∈ u_ws RX8 TX8 1, w ∈ wsX8_worth := by decide +kernel
  have fl_7 := hts (.fieldLink RX8 7 "FairRents$Plain" "rooms" "I") (by decide +kernel)
  refine lv_bipush (v := 10) hx hb dX8_worth_0 (by decide) ?_
  refine lv_aload_n hx hb dX8_worth_2 rfl (lv_at hl 0 rfl) ?_
  refine z_get (ci := 8) (fs := [.int rm]) (C := RX8) (T := TX8) (N := 1) hx hb hts in_X8 hown hK hZ ha rfl 0 (by decide) fl_7 (fun _ h9 => h9) rfl dX8_worth_3 ?_
  refine lv_imul hx hb dX8_worth_6 ?_
  exact z_iret hx hb hr hlocks hZ dX8_worth_7 (⟨rfl, rfl⟩)

set_option maxHeartbeats 4000000 in
set_option maxRecDepth 100000 in
theorem c_X8_marks_X8 (l : Launch) (D : va_G) (cT : Nat → ClassId) (G : zG) (sz : Nat) (a : Nat) (rm : Int32) (ha : G a = some (.inr (8, [.int rm]))) : zM l D cT yX8_marks wsX8_marks (zR 0 0 0) [.ref a] G sz (fun r G' => G' = G ∧ r = some (.int 1)) := by
  refine z_start (cc := cX8_marks) (maxL := 1) (ret := (some .int)) (by decide) rfl (Nat.le_of_ble_eq_true rfl) ?_
  intro p e s m below meth c ls hI hZ hl
  obtain ⟨hx, hb, hr, hml, hts, hown, hlocks, hname, hK, hA, hE⟩ := hI
  have hl : lv_has ls 1 [(0, .ref a)] := hl
  have hown : s.vm.findClass RX8 = some m.cls := hown
  refine lv_iconst (v := 1) hx hb dX8_marks_0 (by decide) ?_
  exact z_iret hx hb hr hlocks hZ dX8_marks_1 (⟨rfl, rfl⟩)

set_option maxHeartbeats 4000000 in
set_option maxRecDepth 100000 in
theorem c_X8_worth_X1 (l : Launch) (D : va_G) (cT : Nat → ClassId) (G : zG) (sz : Nat) (a : Nat) (rm fl : Int32) (ha : G a = some (.inr (1, [.int rm, .int fl]))) : zM l D cT yX8_worth wsX8_worth (zR 0 0 0) [.ref a] G sz (fun r G' => G' = G ∧ r = some (.int (10 * rm))) := by
  refine z_start (cc := cX8_worth) (maxL := 1) (ret := (some .int)) (by decide) rfl (Nat.le_of_ble_eq_true rfl) ?_
  intro p e s m below meth c ls hI hZ hl
  obtain ⟨hx, hb, hr, hml, hts, hown, hlocks, hname, hK, hA, hE⟩ := hI
  have hl : lv_has ls 1 [(0, .ref a)] := hl
  have hown : s.vm.findClass RX8 = some m.cls := hown
  have in_X1 : ∀ w ∈ u_ws RX1 TX1 2, w ∈ wsX8_worth := by decide +kernel
  have fl_7 := hts (.fieldLink RX8 7 "FairRents$Plain" "rooms" "I") (by decide +kernel)
  refine lv_bipush (v := 10) hx hb dX8_worth_0 (by decide) ?_
  refine lv_aload_n hx hb dX8_worth_2 rfl (lv_at hl 0 rfl) ?_
  refine z_get (ci := 1) (fs := [.int rm, .int fl]) (C := RX1) (T := TX1) (N := 2) hx hb hts in_X1 hown hK hZ ha rfl 0 (by decide) fl_7 (fun _ h9 => h9) rfl dX8_worth_3 ?_
  refine lv_imul hx hb dX8_worth_6 ?_
  exact z_iret hx hb hr hlocks hZ dX8_worth_7 (⟨rfl, rfl⟩)

set_option maxHeartbeats 4000000 in
set_option maxRecDepth 100000 in
theorem c_X8_marks_X1 (l : Launch) (D : va_G) (cT : Nat → ClassId) (G : zG) (sz : Nat) (a : Nat) (rm fl : Int32) (ha : G a = some (.inr (1, [.int rm, .int fl]))) : zM l D cT yX8_marks wsX8_marks (zR 0 0 0) [.ref a] G sz (fun r G' => G' = G ∧ r = some (.int 1)) := by
  refine z_start (cc := cX8_marks) (maxL := 1) (ret := (some .int)) (by decide) rfl (Nat.le_of_ble_eq_true rfl) ?_
  intro p e s m below meth c ls hI hZ hl
  obtain ⟨hx, hb, hr, hml, hts, hown, hlocks, hname, hK, hA, hE⟩ := hI
  have hl : lv_has ls 1 [(0, .ref a)] := hl
  have hown : s.vm.findClass RX8 = some m.cls := hown
  refine lv_iconst (v := 1) hx hb dX8_marks_0 (by decide) ?_
  exact z_iret hx hb hr hlocks hZ dX8_marks_1 (⟨rfl, rfl⟩)

set_option maxHeartbeats 4000000 in
set_option maxRecDepth 100000 in
theorem c_X8_worth_X7 (l : Launch) (D : va_G) (cT : Nat → ClassId) (G : zG) (sz : Nat) (a : Nat) (rm fl : Int32) (ha : G a = some (.inr (7, [.int fl, .int rm]))) : zM l D cT yX8_worth wsX8_worth (zR 0 0 0) [.ref a] G sz (fun r G' => G' = G ∧ r = some (.int (10 * rm))) := by
  refine z_start (cc := cX8_worth) (maxL := 1) (ret := (some .int)) (by decide) rfl (Nat.le_of_ble_eq_true rfl) ?_
  intro p e s m below meth c ls hI hZ hl
  obtain ⟨hx, hb, hr, hml, hts, hown, hlocks, hname, hK, hA, hE⟩ := hI
  have hl : lv_has ls 1 [(0, .ref a)] := hl
  have hown : s.vm.findClass RX8 = some m.cls := hown
  have in_X7 : ∀ w ∈ u_ws RX7 TX7 2, w ∈ wsX8_worth := by decide +kernel
  have fl_7 := hts (.fieldLink RX8 7 "FairRents$Plain" "rooms" "I") (by decide +kernel)
  refine lv_bipush (v := 10) hx hb dX8_worth_0 (by decide) ?_
  refine lv_aload_n hx hb dX8_worth_2 rfl (lv_at hl 0 rfl) ?_
  refine z_get (ci := 7) (fs := [.int fl, .int rm]) (C := RX7) (T := TX7) (N := 2) hx hb hts in_X7 hown hK hZ ha rfl 1 (by decide) fl_7 (fun _ h9 => h9) rfl dX8_worth_3 ?_
  refine lv_imul hx hb dX8_worth_6 ?_
  exact z_iret hx hb hr hlocks hZ dX8_worth_7 (⟨rfl, rfl⟩)

set_option maxHeartbeats 4000000 in
set_option maxRecDepth 100000 in
theorem c_X8_marks_X7 (l : Launch) (D : va_G) (cT : Nat → ClassId) (G : zG) (sz : Nat) (a : Nat) (rm fl : Int32) (ha : G a = some (.inr (7, [.int fl, .int rm]))) : zM l D cT yX8_marks wsX8_marks (zR 0 0 0) [.ref a] G sz (fun r G' => G' = G ∧ r = some (.int 1)) := by
  refine z_start (cc := cX8_marks) (maxL := 1) (ret := (some .int)) (by decide) rfl (Nat.le_of_ble_eq_true rfl) ?_
  intro p e s m below meth c ls hI hZ hl
  obtain ⟨hx, hb, hr, hml, hts, hown, hlocks, hname, hK, hA, hE⟩ := hI
  have hl : lv_has ls 1 [(0, .ref a)] := hl
  have hown : s.vm.findClass RX8 = some m.cls := hown
  refine lv_iconst (v := 1) hx hb dX8_marks_0 (by decide) ?_
  exact z_iret hx hb hr hlocks hZ dX8_marks_1 (⟨rfl, rfl⟩)

set_option maxHeartbeats 4000000 in
set_option maxRecDepth 100000 in
theorem c_X1_worth_X1 (l : Launch) (D : va_G) (cT : Nat → ClassId) (G : zG) (sz : Nat) (a : Nat) (rm fl : Int32) (ha : G a = some (.inr (1, [.int rm, .int fl]))) : zM l D cT yX1_worth wsX1_worth (zR 1 0 0) [.ref a] G sz (fun r G' => G' = G ∧ r = some (.int (10 * rm - 2 * fl))) := by
  refine z_start (cc := cX1_worth) (maxL := 1) (ret := (some .int)) (by decide) rfl (Nat.le_of_ble_eq_true rfl) ?_
  intro p e s m below meth c ls hI hZ hl
  obtain ⟨hx, hb, hr, hml, hts, hown, hlocks, hname, hK, hA, hE⟩ := hI
  have hl : lv_has ls 1 [(0, .ref a)] := hl
  have hown : s.vm.findClass RX1 = some m.cls := hown
  have in_X1 : ∀ w ∈ u_ws RX1 TX1 2, w ∈ wsX1_worth := by decide +kernel
  have fl_7 := hts (.fieldLink RX1 7 "FairRents$Flat" "floor" "I") (by decide +kernel)
  refine lv_aload_n hx hb dX1_worth_0 rfl (lv_at hl 0 rfl) ?_
  refine z_call (va_runSU (hK.1 1 _ rfl).2 (As := []) (rest := []) ⟨hx, hb, hml, hown, hts⟩ (c_X8_worth_X1 l D cT _ _ a rm fl ha) (va_cwSU 0 hts gX1_worth_X8_worth_s13 rfl rfl rfl (by decide +kernel) ⟨(Nat.le_of_ble_eq_true rfl), (Nat.le_of_ble_eq_true rfl)⟩) (z_preV hK hE hZ hA (ci := 1) rfl ha) rfl rfl hl.1 rfl (lv_room (Nat.le_of_ble_eq_true rfl)) dX1_worth_1 ⟨(Nat.le_of_ble_eq_true rfl), (Nat.le_of_ble_eq_true rfl)⟩) hZ hA (fun r G1 H locs hq hZ => ?_)
  obtain ⟨hg, rfl⟩ := hq
  replace hg := hg.symm
  subst hg
  refine W.eq (g2 := F0 m 4 ls [.int (10 * rm)]) rfl ?_
  refine lv_iconst (v := 2) hx hb dX1_worth_4 (by decide) ?_
  refine lv_aload_n hx hb dX1_worth_5 rfl (lv_at hl 0 rfl) ?_
  refine z_get (ci := 1) (fs := [.int rm, .int fl]) (C := RX1) (T := TX1) (N := 2) hx hb hts in_X1 hown hK hZ ha rfl 1 (by decide) fl_7 (fun _ h9 => h9) rfl dX1_worth_6 ?_
  refine lv_imul hx hb dX1_worth_9 ?_
  refine lv_isub hx hb dX1_worth_10 ?_
  exact z_iret hx hb hr hlocks hZ dX1_worth_11 (⟨rfl, rfl⟩)

set_option maxHeartbeats 4000000 in
set_option maxRecDepth 100000 in
theorem c_X1_marks_X1 (l : Launch) (D : va_G) (cT : Nat → ClassId) (G : zG) (sz : Nat) (a : Nat) (rm fl : Int32) (ha : G a = some (.inr (1, [.int rm, .int fl]))) : zM l D cT yX1_marks wsX1_marks (zR 1 0 0) [.ref a] G sz (fun r G' => G' = G ∧ r = some (.int (1 + 10))) := by
  refine z_start (cc := cX1_marks) (maxL := 1) (ret := (some .int)) (by decide) rfl (Nat.le_of_ble_eq_true rfl) ?_
  intro p e s m below meth c ls hI hZ hl
  obtain ⟨hx, hb, hr, hml, hts, hown, hlocks, hname, hK, hA, hE⟩ := hI
  have hl : lv_has ls 1 [(0, .ref a)] := hl
  have hown : s.vm.findClass RX1 = some m.cls := hown
  refine lv_aload_n hx hb dX1_marks_0 rfl (lv_at hl 0 rfl) ?_
  refine z_call (va_runSU (hK.1 1 _ rfl).2 (As := []) (rest := []) ⟨hx, hb, hml, hown, hts⟩ (c_X8_marks_X1 l D cT _ _ a rm fl ha) (va_cwSU 0 hts gX1_marks_X8_marks_s17 rfl rfl rfl (by decide +kernel) ⟨(Nat.le_of_ble_eq_true rfl), (Nat.le_of_ble_eq_true rfl)⟩) (z_preV hK hE hZ hA (ci := 1) rfl ha) rfl rfl hl.1 rfl (lv_room (Nat.le_of_ble_eq_true rfl)) dX1_marks_1 ⟨(Nat.le_of_ble_eq_true rfl), (Nat.le_of_ble_eq_true rfl)⟩) hZ hA (fun r G1 H locs hq hZ => ?_)
  obtain ⟨hg, rfl⟩ := hq
  replace hg := hg.symm
  subst hg
  refine W.eq (g2 := F0 m 4 ls [.int 1]) rfl ?_
  refine lv_bipush (v := 10) hx hb dX1_marks_4 (by decide) ?_
  refine lv_iadd hx hb dX1_marks_6 ?_
  exact z_iret hx hb hr hlocks hZ dX1_marks_7 (⟨rfl, rfl⟩)

set_option maxHeartbeats 4000000 in
set_option maxRecDepth 100000 in
theorem c_X1_worth_X7 (l : Launch) (D : va_G) (cT : Nat → ClassId) (G : zG) (sz : Nat) (a : Nat) (rm fl : Int32) (ha : G a = some (.inr (7, [.int fl, .int rm]))) : zM l D cT yX1_worth wsX1_worth (zR 1 0 0) [.ref a] G sz (fun r G' => G' = G ∧ r = some (.int (10 * rm - 2 * fl))) := by
  refine z_start (cc := cX1_worth) (maxL := 1) (ret := (some .int)) (by decide) rfl (Nat.le_of_ble_eq_true rfl) ?_
  intro p e s m below meth c ls hI hZ hl
  obtain ⟨hx, hb, hr, hml, hts, hown, hlocks, hname, hK, hA, hE⟩ := hI
  have hl : lv_has ls 1 [(0, .ref a)] := hl
  have hown : s.vm.findClass RX1 = some m.cls := hown
  have in_X7 : ∀ w ∈ u_ws RX7 TX7 2, w ∈ wsX1_worth := by decide +kernel
  have fl_7 := hts (.fieldLink RX1 7 "FairRents$Flat" "floor" "I") (by decide +kernel)
  refine lv_aload_n hx hb dX1_worth_0 rfl (lv_at hl 0 rfl) ?_
  refine z_call (va_runSU (hK.1 7 _ rfl).2 (As := []) (rest := []) ⟨hx, hb, hml, hown, hts⟩ (c_X8_worth_X7 l D cT _ _ a rm fl ha) (va_cwSU 0 hts gX1_worth_X8_worth_s13 rfl rfl rfl (by decide +kernel) ⟨(Nat.le_of_ble_eq_true rfl), (Nat.le_of_ble_eq_true rfl)⟩) (z_preV hK hE hZ hA (ci := 7) rfl ha) rfl rfl hl.1 rfl (lv_room (Nat.le_of_ble_eq_true rfl)) dX1_worth_1 ⟨(Nat.le_of_ble_eq_true rfl), (Nat.le_of_ble_eq_true rfl)⟩) hZ hA (fun r G1 H locs hq hZ => ?_)
  obtain ⟨hg, rfl⟩ := hq
  replace hg := hg.symm
  subst hg
  refine W.eq (g2 := F0 m 4 ls [.int (10 * rm)]) rfl ?_
  refine lv_iconst (v := 2) hx hb dX1_worth_4 (by decide) ?_
  refine lv_aload_n hx hb dX1_worth_5 rfl (lv_at hl 0 rfl) ?_
  refine z_get (ci := 7) (fs := [.int fl, .int rm]) (C := RX7) (T := TX7) (N := 2) hx hb hts in_X7 hown hK hZ ha rfl 0 (by decide) fl_7 (fun _ h9 => h9) rfl dX1_worth_6 ?_
  refine lv_imul hx hb dX1_worth_9 ?_
  refine lv_isub hx hb dX1_worth_10 ?_
  exact z_iret hx hb hr hlocks hZ dX1_worth_11 (⟨rfl, rfl⟩)

set_option maxHeartbeats 4000000 in
set_option maxRecDepth 100000 in
theorem c_X1_marks_X7 (l : Launch) (D : va_G) (cT : Nat → ClassId) (G : zG) (sz : Nat) (a : Nat) (rm fl : Int32) (ha : G a = some (.inr (7, [.int fl, .int rm]))) : zM l D cT yX1_marks wsX1_marks (zR 1 0 0) [.ref a] G sz (fun r G' => G' = G ∧ r = some (.int (1 + 10))) := by
  refine z_start (cc := cX1_marks) (maxL := 1) (ret := (some .int)) (by decide) rfl (Nat.le_of_ble_eq_true rfl) ?_
  intro p e s m below meth c ls hI hZ hl
  obtain ⟨hx, hb, hr, hml, hts, hown, hlocks, hname, hK, hA, hE⟩ := hI
  have hl : lv_has ls 1 [(0, .ref a)] := hl
  have hown : s.vm.findClass RX1 = some m.cls := hown
  refine lv_aload_n hx hb dX1_marks_0 rfl (lv_at hl 0 rfl) ?_
  refine z_call (va_runSU (hK.1 7 _ rfl).2 (As := []) (rest := []) ⟨hx, hb, hml, hown, hts⟩ (c_X8_marks_X7 l D cT _ _ a rm fl ha) (va_cwSU 0 hts gX1_marks_X8_marks_s17 rfl rfl rfl (by decide +kernel) ⟨(Nat.le_of_ble_eq_true rfl), (Nat.le_of_ble_eq_true rfl)⟩) (z_preV hK hE hZ hA (ci := 7) rfl ha) rfl rfl hl.1 rfl (lv_room (Nat.le_of_ble_eq_true rfl)) dX1_marks_1 ⟨(Nat.le_of_ble_eq_true rfl), (Nat.le_of_ble_eq_true rfl)⟩) hZ hA (fun r G1 H locs hq hZ => ?_)
  obtain ⟨hg, rfl⟩ := hq
  replace hg := hg.symm
  subst hg
  refine W.eq (g2 := F0 m 4 ls [.int 1]) rfl ?_
  refine lv_bipush (v := 10) hx hb dX1_marks_4 (by decide) ?_
  refine lv_iadd hx hb dX1_marks_6 ?_
  exact z_iret hx hb hr hlocks hZ dX1_marks_7 (⟨rfl, rfl⟩)

set_option maxHeartbeats 4000000 in
set_option maxRecDepth 100000 in
theorem c_X7_worth_X7 (l : Launch) (D : va_G) (cT : Nat → ClassId) (G : zG) (sz : Nat) (a : Nat) (rm fl : Int32) (ha : G a = some (.inr (7, [.int fl, .int rm]))) : zM l D cT yX7_worth wsX7_worth (zR 2 0 0) [.ref a] G sz (fun r G' => G' = G ∧ r = some (.int (10 * rm - 2 * fl - zfd (10 * rm - 2 * fl)))) := by
  refine z_start (cc := cX7_worth) (maxL := 2) (ret := (some .int)) (by decide) rfl (Nat.le_of_ble_eq_true rfl) ?_
  intro p e s m below meth c ls hI hZ hl
  obtain ⟨hx, hb, hr, hml, hts, hown, hlocks, hname, hK, hA, hE⟩ := hI
  have hl : lv_has ls 2 [(0, .ref a)] := hl
  have hown : s.vm.findClass RX7 = some m.cls := hown
  refine lv_aload_n hx hb dX7_worth_0 rfl (lv_at hl 0 rfl) ?_
  refine z_call (va_runSU (hK.1 7 _ rfl).2 (As := []) (rest := []) ⟨hx, hb, hml, hown, hts⟩ (c_X1_worth_X7 l D cT _ _ a rm fl ha) (va_cwSU 0 hts gX7_worth_X1_worth_s7 rfl rfl rfl (by decide +kernel) ⟨(Nat.le_of_ble_eq_true rfl), (Nat.le_of_ble_eq_true rfl)⟩) (z_preV hK hE hZ hA (ci := 7) rfl ha) rfl rfl hl.1 rfl (lv_room (Nat.le_of_ble_eq_true rfl)) dX7_worth_1 ⟨(Nat.le_of_ble_eq_true rfl), (Nat.le_of_ble_eq_true rfl)⟩) hZ hA (fun r G1 H locs hq hZ => ?_)
  obtain ⟨hg, rfl⟩ := hq
  replace hg := hg.symm
  subst hg
  refine W.eq (g2 := F0 m 4 ls [.int (10 * rm - 2 * fl)]) rfl ?_
  refine lv_istore_n (lv' := [(1, .int (10 * rm - 2 * fl)), (0, .ref a)]) hx hb dX7_worth_4 rfl hl (by decide) rfl (fun ls hl => ?_)
  refine lv_iload_n hx hb dX7_worth_5 rfl (lv_at hl 0 rfl) ?_
  refine lv_iload_n hx hb dX7_worth_6 rfl (lv_at hl 0 rfl) ?_
  refine lv_iconst (v := 4) hx hb dX7_worth_7 (by decide) ?_
  refine z_call (va_runS (As := [.int (10 * rm - 2 * fl), .int 4]) (rest := [.int (10 * rm - 2 * fl)]) ⟨hx, hb, hml, hown, hts⟩ (c_J9_floorDiv l D cT _ _ (10 * rm - 2 * fl)) (va_cwS 2 hts gX7_worth_J9_floorDiv_7cf53 rfl rfl rfl (by decide +kernel) ⟨(Nat.le_of_ble_eq_true rfl), (Nat.le_of_ble_eq_true rfl)⟩) (z_preS hK hE hZ hA) rfl rfl hl.1 rfl (lv_room (Nat.le_of_ble_eq_true rfl)) dX7_worth_8 ⟨(Nat.le_of_ble_eq_true rfl), (Nat.le_of_ble_eq_true rfl)⟩) hZ hA (fun r G8 H locs hq hZ => ?_)
  obtain ⟨hg, rfl⟩ := hq
  replace hg := hg.symm
  subst hg
  refine W.eq (g2 := F0 m 11 ls [.int (zfd (10 * rm - 2 * fl)), .int (10 * rm - 2 * fl)]) rfl ?_
  refine lv_isub hx hb dX7_worth_11 ?_
  exact z_iret hx hb hr hlocks hZ dX7_worth_12 (⟨rfl, rfl⟩)

set_option maxHeartbeats 4000000 in
set_option maxRecDepth 100000 in
theorem c_X7_marks_X7 (l : Launch) (D : va_G) (cT : Nat → ClassId) (G : zG) (sz : Nat) (a : Nat) (rm fl : Int32) (ha : G a = some (.inr (7, [.int fl, .int rm]))) : zM l D cT yX7_marks wsX7_marks (zR 2 0 0) [.ref a] G sz (fun r G' => G' = G ∧ r = some (.int (1 + 10 + 100))) := by
  refine z_start (cc := cX7_marks) (maxL := 1) (ret := (some .int)) (by decide) rfl (Nat.le_of_ble_eq_true rfl) ?_
  intro p e s m below meth c ls hI hZ hl
  obtain ⟨hx, hb, hr, hml, hts, hown, hlocks, hname, hK, hA, hE⟩ := hI
  have hl : lv_has ls 1 [(0, .ref a)] := hl
  have hown : s.vm.findClass RX7 = some m.cls := hown
  refine lv_aload_n hx hb dX7_marks_0 rfl (lv_at hl 0 rfl) ?_
  refine z_call (va_runSU (hK.1 7 _ rfl).2 (As := []) (rest := []) ⟨hx, hb, hml, hown, hts⟩ (c_X1_marks_X7 l D cT _ _ a rm fl ha) (va_cwSU 0 hts gX7_marks_X1_marks_s17 rfl rfl rfl (by decide +kernel) ⟨(Nat.le_of_ble_eq_true rfl), (Nat.le_of_ble_eq_true rfl)⟩) (z_preV hK hE hZ hA (ci := 7) rfl ha) rfl rfl hl.1 rfl (lv_room (Nat.le_of_ble_eq_true rfl)) dX7_marks_1 ⟨(Nat.le_of_ble_eq_true rfl), (Nat.le_of_ble_eq_true rfl)⟩) hZ hA (fun r G1 H locs hq hZ => ?_)
  obtain ⟨hg, rfl⟩ := hq
  replace hg := hg.symm
  subst hg
  refine W.eq (g2 := F0 m 4 ls [.int (1 + 10)]) rfl ?_
  refine lv_bipush (v := 100) hx hb dX7_marks_4 (by decide) ?_
  refine lv_iadd hx hb dX7_marks_6 ?_
  exact z_iret hx hb hr hlocks hZ dX7_marks_7 (⟨rfl, rfl⟩)

set_option maxHeartbeats 4000000 in
set_option maxRecDepth 100000 in
theorem c_X8_init_X8 (l : Launch) (D : va_G) (cT : Nat → ClassId) (G : zG) (sz : Nat) (a : Nat) (rm : Int32) (ha : G a = some (.inr (8, [.int 0]))) : zM l D cT yX8_init wsX8_init (zR 1 0 0) [.ref a, .int rm] G sz (fun r G' => G' = va_up G a (some (.inr (8, [.int rm]))) ∧ r = none) := by
  refine z_start (cc := cX8_init) (maxL := 2) (ret := none) (by decide) rfl (Nat.le_of_ble_eq_true rfl) ?_
  intro p e s m below meth c ls hI hZ hl
  obtain ⟨hx, hb, hr, hml, hts, hown, hlocks, hname, hK, hA, hE⟩ := hI
  have hl : lv_has ls 2 [(0, .ref a), (1, .int rm)] := hl
  have hown : s.vm.findClass RX8 = some m.cls := hown
  have in_X8 : ∀ w ∈ u_ws RX8 TX8 1, w ∈ wsX8_init := by decide +kernel
  have fl_7 := hts (.fieldLink RX8 7 "FairRents$Plain" "rooms" "I") (by decide +kernel)
  refine lv_aload_n hx hb dX8_init_0 rfl (lv_at hl 0 rfl) ?_
  refine W.objInit hx hb hown (hts (.methodLink RX8 1 objectInit) (by decide +kernel)) (hts (.instanceMethod objectInit) (by decide +kernel)) (hts _ (List.mem_of_getElem? (i := 3) rfl)) rfl (by rw [hml]; exact hl.1) rfl dX8_init_1 (Nat.le_of_ble_eq_true rfl) (Nat.le_of_ble_eq_true rfl) ?_
  refine W.eq (g2 := F0 m 4 ls []) rfl ?_
  refine lv_aload_n hx hb dX8_init_4 rfl (lv_at hl 0 rfl) ?_
  refine lv_iload_n hx hb dX8_init_5 rfl (lv_at hl 1 rfl) ?_
  refine z_putF (ci := 8) (fs := [.int 0]) (fs' := [.int rm]) (v := .int rm) (ty := .int) (C := RX8) (T := TX8) (N := 1) hx hb hts in_X8 tyX8 tyX8_ok nmX8 hown hK hZ ha rfl 0 (by decide) fl_7 (fun _ h9 => h9) rfl hname rfl (by decide +kernel) rfl rfl (Nat.le_of_ble_eq_true rfl) rfl dX8_init_6 (fun H locs hZ => ?_)
  exact z_vret hx hb hr hlocks hZ dX8_init_9 (⟨rfl, rfl⟩)

set_option maxHeartbeats 4000000 in
set_option maxRecDepth 100000 in
theorem c_X8_init_X1 (l : Launch) (D : va_G) (cT : Nat → ClassId) (G : zG) (sz : Nat) (a : Nat) (rm : Int32) (ha : G a = some (.inr (1, [.int 0, .int 0]))) : zM l D cT yX8_init wsX8_init (zR 1 0 0) [.ref a, .int rm] G sz (fun r G' => G' = va_up G a (some (.inr (1, [.int rm, .int 0]))) ∧ r = none) := by
  refine z_start (cc := cX8_init) (maxL := 2) (ret := none) (by decide) rfl (Nat.le_of_ble_eq_true rfl) ?_
  intro p e s m below meth c ls hI hZ hl
  obtain ⟨hx, hb, hr, hml, hts, hown, hlocks, hname, hK, hA, hE⟩ := hI
  have hl : lv_has ls 2 [(0, .ref a), (1, .int rm)] := hl
  have hown : s.vm.findClass RX8 = some m.cls := hown
  have in_X1 : ∀ w ∈ u_ws RX1 TX1 2, w ∈ wsX8_init := by decide +kernel
  have fl_7 := hts (.fieldLink RX8 7 "FairRents$Plain" "rooms" "I") (by decide +kernel)
  refine lv_aload_n hx hb dX8_init_0 rfl (lv_at hl 0 rfl) ?_
  refine W.objInit hx hb hown (hts (.methodLink RX8 1 objectInit) (by decide +kernel)) (hts (.instanceMethod objectInit) (by decide +kernel)) (hts _ (List.mem_of_getElem? (i := 3) rfl)) rfl (by rw [hml]; exact hl.1) rfl dX8_init_1 (Nat.le_of_ble_eq_true rfl) (Nat.le_of_ble_eq_true rfl) ?_
  refine W.eq (g2 := F0 m 4 ls []) rfl ?_
  refine lv_aload_n hx hb dX8_init_4 rfl (lv_at hl 0 rfl) ?_
  refine lv_iload_n hx hb dX8_init_5 rfl (lv_at hl 1 rfl) ?_
  refine z_putF (ci := 1) (fs := [.int 0, .int 0]) (fs' := [.int rm, .int 0]) (v := .int rm) (ty := .int) (C := RX1) (T := TX1) (N := 2) hx hb hts in_X1 tyX1 tyX1_ok nmX1 hown hK hZ ha rfl 0 (by decide) fl_7 (fun _ h9 => h9) rfl hname rfl (by decide +kernel) rfl rfl (Nat.le_of_ble_eq_true rfl) rfl dX8_init_6 (fun H locs hZ => ?_)
  exact z_vret hx hb hr hlocks hZ dX8_init_9 (⟨rfl, rfl⟩)

set_option maxHeartbeats 4000000 in
set_option maxRecDepth 100000 in
theorem c_X8_init_X7 (l : Launch) (D : va_G) (cT : Nat → ClassId) (G : zG) (sz : Nat) (a : Nat) (rm : Int32) (ha : G a = some (.inr (7, [.int 0, .int 0]))) : zM l D cT yX8_init wsX8_init (zR 1 0 0) [.ref a, .int rm] G sz (fun r G' => G' = va_up G a (some (.inr (7, [.int 0, .int rm]))) ∧ r = none) := by
  refine z_start (cc := cX8_init) (maxL := 2) (ret := none) (by decide) rfl (Nat.le_of_ble_eq_true rfl) ?_
  intro p e s m below meth c ls hI hZ hl
  obtain ⟨hx, hb, hr, hml, hts, hown, hlocks, hname, hK, hA, hE⟩ := hI
  have hl : lv_has ls 2 [(0, .ref a), (1, .int rm)] := hl
  have hown : s.vm.findClass RX8 = some m.cls := hown
  have in_X7 : ∀ w ∈ u_ws RX7 TX7 2, w ∈ wsX8_init := by decide +kernel
  have fl_7 := hts (.fieldLink RX8 7 "FairRents$Plain" "rooms" "I") (by decide +kernel)
  refine lv_aload_n hx hb dX8_init_0 rfl (lv_at hl 0 rfl) ?_
  refine W.objInit hx hb hown (hts (.methodLink RX8 1 objectInit) (by decide +kernel)) (hts (.instanceMethod objectInit) (by decide +kernel)) (hts _ (List.mem_of_getElem? (i := 3) rfl)) rfl (by rw [hml]; exact hl.1) rfl dX8_init_1 (Nat.le_of_ble_eq_true rfl) (Nat.le_of_ble_eq_true rfl) ?_
  refine W.eq (g2 := F0 m 4 ls []) rfl ?_
  refine lv_aload_n hx hb dX8_init_4 rfl (lv_at hl 0 rfl) ?_
  refine lv_iload_n hx hb dX8_init_5 rfl (lv_at hl 1 rfl) ?_
  refine z_putF (ci := 7) (fs := [.int 0, .int 0]) (fs' := [.int 0, .int rm]) (v := .int rm) (ty := .int) (C := RX7) (T := TX7) (N := 2) hx hb hts in_X7 tyX7 tyX7_ok nmX7 hown hK hZ ha rfl 1 (by decide) fl_7 (fun _ h9 => h9) rfl hname rfl (by decide +kernel) rfl rfl (Nat.le_of_ble_eq_true rfl) rfl dX8_init_6 (fun H locs hZ => ?_)
  exact z_vret hx hb hr hlocks hZ dX8_init_9 (⟨rfl, rfl⟩)

set_option maxHeartbeats 4000000 in
set_option maxRecDepth 100000 in
theorem c_X1_init_X1 (l : Launch) (D : va_G) (cT : Nat → ClassId) (G : zG) (sz : Nat) (a : Nat) (rm fl : Int32) (ha : G a = some (.inr (1, [.int 0, .int 0]))) : zM l D cT yX1_init wsX1_init (zR 2 0 0) [.ref a, .int rm, .int fl] G sz (fun r G' => G' = va_up G a (some (.inr (1, [.int rm, .int fl]))) ∧ r = none) := by
  refine z_start (cc := cX1_init) (maxL := 3) (ret := none) (by decide) rfl (Nat.le_of_ble_eq_true rfl) ?_
  intro p e s m below meth c ls hI hZ hl
  obtain ⟨hx, hb, hr, hml, hts, hown, hlocks, hname, hK, hA, hE⟩ := hI
  have hl : lv_has ls 3 [(0, .ref a), (1, .int rm), (2, .int fl)] := hl
  have hown : s.vm.findClass RX1 = some m.cls := hown
  have in_X1 : ∀ w ∈ u_ws RX1 TX1 2, w ∈ wsX1_init := by decide +kernel
  have fl_7 := hts (.fieldLink RX1 7 "FairRents$Flat" "floor" "I") (by decide +kernel)
  refine lv_aload_n hx hb dX1_init_0 rfl (lv_at hl 0 rfl) ?_
  refine lv_iload_n hx hb dX1_init_1 rfl (lv_at hl 1 rfl) ?_
  refine z_call (va_runI (As := [.int rm]) (rest := []) ⟨hx, hb, hml, hown, hts⟩ (c_X8_init_X1 l D cT _ _ a rm ha) (cwI 1 hts gX1_init_X8_init rfl rfl rfl (hts (.initialized RX8) (by decide +kernel)) (hts (.methodLink RX1 1 yX8_init) (by decide +kernel)) (hts (.instanceMethod yX8_init) (by decide +kernel)) rfl (by decide +kernel) ⟨(Nat.le_of_ble_eq_true rfl), (Nat.le_of_ble_eq_true rfl)⟩) (z_preS hK hE hZ hA) rfl rfl hl.1 rfl (lv_room (Nat.le_of_ble_eq_true rfl)) dX1_init_2 ⟨(Nat.le_of_ble_eq_true rfl), (Nat.le_of_ble_eq_true rfl)⟩) hZ hA (fun r G2 H locs hq hZ => ?_)
  obtain ⟨hg, rfl⟩ := hq
  replace hg := hg.symm
  subst hg
  refine W.eq (g2 := F0 m 5 ls []) rfl ?_
  refine lv_aload_n hx hb dX1_init_5 rfl (lv_at hl 0 rfl) ?_
  refine lv_iload_n hx hb dX1_init_6 rfl (lv_at hl 2 rfl) ?_
  refine z_putF (ci := 1) (fs := [.int rm, .int 0]) (fs' := [.int rm, .int fl]) (v := .int fl) (ty := .int) (C := RX1) (T := TX1) (N := 2) hx hb hts in_X1 tyX1 tyX1_ok nmX1 hown hK hZ (va_up_self _ _ _) rfl 1 (by decide) fl_7 (fun _ h9 => h9) rfl hname rfl (by decide +kernel) rfl rfl (Nat.le_of_ble_eq_true rfl) rfl dX1_init_7 (fun H locs hZ => ?_)
  rw [bx_uu] at hZ
  exact z_vret hx hb hr hlocks hZ dX1_init_10 (⟨rfl, rfl⟩)

set_option maxHeartbeats 4000000 in
set_option maxRecDepth 100000 in
theorem c_X1_init_X7 (l : Launch) (D : va_G) (cT : Nat → ClassId) (G : zG) (sz : Nat) (a : Nat) (rm fl : Int32) (ha : G a = some (.inr (7, [.int 0, .int 0]))) : zM l D cT yX1_init wsX1_init (zR 2 0 0) [.ref a, .int rm, .int fl] G sz (fun r G' => G' = va_up G a (some (.inr (7, [.int fl, .int rm]))) ∧ r = none) := by
  refine z_start (cc := cX1_init) (maxL := 3) (ret := none) (by decide) rfl (Nat.le_of_ble_eq_true rfl) ?_
  intro p e s m below meth c ls hI hZ hl
  obtain ⟨hx, hb, hr, hml, hts, hown, hlocks, hname, hK, hA, hE⟩ := hI
  have hl : lv_has ls 3 [(0, .ref a), (1, .int rm), (2, .int fl)] := hl
  have hown : s.vm.findClass RX1 = some m.cls := hown
  have in_X7 : ∀ w ∈ u_ws RX7 TX7 2, w ∈ wsX1_init := by decide +kernel
  have fl_7 := hts (.fieldLink RX1 7 "FairRents$Flat" "floor" "I") (by decide +kernel)
  refine lv_aload_n hx hb dX1_init_0 rfl (lv_at hl 0 rfl) ?_
  refine lv_iload_n hx hb dX1_init_1 rfl (lv_at hl 1 rfl) ?_
  refine z_call (va_runI (As := [.int rm]) (rest := []) ⟨hx, hb, hml, hown, hts⟩ (c_X8_init_X7 l D cT _ _ a rm ha) (cwI 1 hts gX1_init_X8_init rfl rfl rfl (hts (.initialized RX8) (by decide +kernel)) (hts (.methodLink RX1 1 yX8_init) (by decide +kernel)) (hts (.instanceMethod yX8_init) (by decide +kernel)) rfl (by decide +kernel) ⟨(Nat.le_of_ble_eq_true rfl), (Nat.le_of_ble_eq_true rfl)⟩) (z_preS hK hE hZ hA) rfl rfl hl.1 rfl (lv_room (Nat.le_of_ble_eq_true rfl)) dX1_init_2 ⟨(Nat.le_of_ble_eq_true rfl), (Nat.le_of_ble_eq_true rfl)⟩) hZ hA (fun r G2 H locs hq hZ => ?_)
  obtain ⟨hg, rfl⟩ := hq
  replace hg := hg.symm
  subst hg
  refine W.eq (g2 := F0 m 5 ls []) rfl ?_
  refine lv_aload_n hx hb dX1_init_5 rfl (lv_at hl 0 rfl) ?_
  refine lv_iload_n hx hb dX1_init_6 rfl (lv_at hl 2 rfl) ?_
  refine z_putF (ci := 7) (fs := [.int 0, .int rm]) (fs' := [.int fl, .int rm]) (v := .int fl) (ty := .int) (C := RX7) (T := TX7) (N := 2) hx hb hts in_X7 tyX7 tyX7_ok nmX7 hown hK hZ (va_up_self _ _ _) rfl 0 (by decide) fl_7 (fun _ h9 => h9) rfl hname rfl (by decide +kernel) rfl rfl (Nat.le_of_ble_eq_true rfl) rfl dX1_init_7 (fun H locs hZ => ?_)
  rw [bx_uu] at hZ
  exact z_vret hx hb hr hlocks hZ dX1_init_10 (⟨rfl, rfl⟩)

set_option maxHeartbeats 4000000 in
set_option maxRecDepth 100000 in
theorem c_X7_init (l : Launch) (D : va_G) (cT : Nat → ClassId) (G : zG) (sz : Nat) (a : Nat) (rm fl : Int32) (ha : G a = some (.inr (7, [.int 0, .int 0]))) : zM l D cT yX7_init wsX7_init (zR 3 0 0) [.ref a, .int rm, .int fl] G sz (fun r G' => G' = va_up G a (some (.inr (7, [.int fl, .int rm]))) ∧ r = none) := by
  refine z_start (cc := cX7_init) (maxL := 3) (ret := none) (by decide) rfl (Nat.le_of_ble_eq_true rfl) ?_
  intro p e s m below meth c ls hI hZ hl
  obtain ⟨hx, hb, hr, hml, hts, hown, hlocks, hname, hK, hA, hE⟩ := hI
  have hl : lv_has ls 3 [(0, .ref a), (1, .int rm), (2, .int fl)] := hl
  have hown : s.vm.findClass RX7 = some m.cls := hown
  refine lv_aload_n hx hb dX7_init_0 rfl (lv_at hl 0 rfl) ?_
  refine lv_iload_n hx hb dX7_init_1 rfl (lv_at hl 1 rfl) ?_
  refine lv_iload_n hx hb dX7_init_2 rfl (lv_at hl 2 rfl) ?_
  refine z_call (va_runI (As := [.int rm, .int fl]) (rest := []) ⟨hx, hb, hml, hown, hts⟩ (c_X1_init_X7 l D cT _ _ a rm fl ha) (cwI 2 hts gX7_init_X1_init rfl rfl rfl (hts (.initialized RX1) (by decide +kernel)) (hts (.methodLink RX7 1 yX1_init) (by decide +kernel)) (hts (.instanceMethod yX1_init) (by decide +kernel)) rfl (by decide +kernel) ⟨(Nat.le_of_ble_eq_true rfl), (Nat.le_of_ble_eq_true rfl)⟩) (z_preS hK hE hZ hA) rfl rfl hl.1 rfl (lv_room (Nat.le_of_ble_eq_true rfl)) dX7_init_3 ⟨(Nat.le_of_ble_eq_true rfl), (Nat.le_of_ble_eq_true rfl)⟩) hZ hA (fun r G3 H locs hq hZ => ?_)
  obtain ⟨hg, rfl⟩ := hq
  replace hg := hg.symm
  subst hg
  refine W.eq (g2 := F0 m 6 ls []) rfl ?_
  exact z_vret hx hb hr hlocks hZ dX7_init_6 (⟨rfl, rfl⟩)

set_option maxHeartbeats 4000000 in
set_option maxRecDepth 100000 in
theorem c_X6_countsFor (l : Launch) (D : va_G) (cT : Nat → ClassId) (G : zG) (sz : Nat) (a : Nat) (ar pt rt dy sk : Int32) (x y : Int32) (ha : G a = some (.inr (6, [.int ar, .int pt, .int rt, .int dy, .int sk]))) : zM l D cT yX6_countsFor wsX6_countsFor (zR 0 0 0) [.ref a, .int x, .int y] G sz (fun r G' => G' = G ∧ r = some (.int (if sk = 0 ∧ ar = x ∧ ¬ y < dy then 1 else 0))) := by
  refine z_start (cc := cX6_countsFor) (maxL := 3) (ret := (some .boolean)) (by decide) rfl (Nat.le_of_ble_eq_true rfl) ?_
  intro p e s m below meth c ls hI hZ hl
  obtain ⟨hx, hb, hr, hml, hts, hown, hlocks, hname, hK, hA, hE⟩ := hI
  have hl : lv_has ls 3 [(0, .ref a), (1, .int x), (2, .int y)] := hl
  have hown : s.vm.findClass RX6 = some m.cls := hown
  have in_X6 : ∀ w ∈ u_ws RX6 TX6 5, w ∈ wsX6_countsFor := by decide +kernel
  have fl_7 := hts (.fieldLink RX6 7 "FairRents$Like" "area" "I") (by decide +kernel)
  have fl_19 := hts (.fieldLink RX6 19 "FairRents$Like" "day" "I") (by decide +kernel)
  have fl_22 := hts (.fieldLink RX6 22 "FairRents$Like" "struck" "Z") (by decide +kernel)
  refine lv_aload_n hx hb dX6_countsFor_0 rfl (lv_at hl 0 rfl) ?_
  refine z_get (ci := 6) (fs := [.int ar, .int pt, .int rt, .int dy, .int sk]) (C := RX6) (T := TX6) (N := 5) hx hb hts in_X6 hown hK hZ ha rfl 4 (by decide) fl_22 (fun _ h9 => h9) rfl dX6_countsFor_1 ?_
  refine lv_if_ne (tgt := 27) hx hb dX6_countsFor_4 (by decide) (fun c4 => ?_) (fun c4 => ?_)
  · refine lv_iconst (v := 0) hx hb dX6_countsFor_27 (by decide) ?_
    exact z_zret hx hb hr hlocks hZ (Or.inl rfl) dX6_countsFor_28 (⟨rfl, by rw [if_neg (fun h => c4 h.1)]⟩)
  · refine lv_aload_n hx hb dX6_countsFor_7 rfl (lv_at hl 0 rfl) ?_
    refine z_get (ci := 6) (fs := [.int ar, .int pt, .int rt, .int dy, .int sk]) (C := RX6) (T := TX6) (N := 5) hx hb hts in_X6 hown hK hZ ha rfl 0 (by decide) fl_7 (fun _ h9 => h9) rfl dX6_countsFor_8 ?_
    refine lv_iload_n hx hb dX6_countsFor_11 rfl (lv_at hl 1 rfl) ?_
    refine lv_icmp_ne (tgt := 27) hx hb dX6_countsFor_12 (by decide) (fun c12 => ?_) (fun c12 => ?_)
    · refine lv_iconst (v := 0) hx hb dX6_countsFor_27 (by decide) ?_
      exact z_zret hx hb hr hlocks hZ (Or.inl rfl) dX6_countsFor_28 (⟨rfl, by rw [if_neg (fun h => c12 h.2.1)]⟩)
    · refine lv_aload_n hx hb dX6_countsFor_15 rfl (lv_at hl 0 rfl) ?_
      refine z_get (ci := 6) (fs := [.int ar, .int pt, .int rt, .int dy, .int sk]) (C := RX6) (T := TX6) (N := 5) hx hb hts in_X6 hown hK hZ ha rfl 3 (by decide) fl_19 (fun _ h9 => h9) rfl dX6_countsFor_16 ?_
      refine lv_iload_n hx hb dX6_countsFor_19 rfl (lv_at hl 2 rfl) ?_
      refine lv_icmp_gt (tgt := 27) hx hb dX6_countsFor_20 (by decide) (fun c20 => ?_) (fun c20 => ?_)
      · refine lv_iconst (v := 0) hx hb dX6_countsFor_27 (by decide) ?_
        exact z_zret hx hb hr hlocks hZ (Or.inl rfl) dX6_countsFor_28 (⟨rfl, by rw [if_neg (fun h => h.2.2 c20)]⟩)
      · refine lv_iconst (v := 1) hx hb dX6_countsFor_23 (by decide) ?_
        refine lv_goto (tgt := 28) hx hb dX6_countsFor_24 (by decide) ?_
        exact z_zret hx hb hr hlocks hZ (Or.inr rfl) dX6_countsFor_28 (⟨rfl, by rw [if_pos ⟨c4, c12, c20⟩]⟩)

set_option maxHeartbeats 4000000 in
set_option maxRecDepth 100000 in
theorem c_X6_putRight (l : Launch) (D : va_G) (cT : Nat → ClassId) (G : zG) (sz : Nat) (a : Nat) (ar pt rt dy sk : Int32) (x y : Int32) (ha : G a = some (.inr (6, [.int ar, .int pt, .int rt, .int dy, .int sk]))) : zM l D cT yX6_putRight wsX6_putRight (zR 0 0 0) [.ref a, .int x, .int y] G sz (fun r G' => G' = G ∧ r = some (.int (rt + y * (x - pt)))) := by
  refine z_start (cc := cX6_putRight) (maxL := 3) (ret := (some .int)) (by decide) rfl (Nat.le_of_ble_eq_true rfl) ?_
  intro p e s m below meth c ls hI hZ hl
  obtain ⟨hx, hb, hr, hml, hts, hown, hlocks, hname, hK, hA, hE⟩ := hI
  have hl : lv_has ls 3 [(0, .ref a), (1, .int x), (2, .int y)] := hl
  have hown : s.vm.findClass RX6 = some m.cls := hown
  have in_X6 : ∀ w ∈ u_ws RX6 TX6 5, w ∈ wsX6_putRight := by decide +kernel
  have fl_13 := hts (.fieldLink RX6 13 "FairRents$Like" "points" "I") (by decide +kernel)
  have fl_16 := hts (.fieldLink RX6 16 "FairRents$Like" "rent" "I") (by decide +kernel)
  refine lv_aload_n hx hb dX6_putRight_0 rfl (lv_at hl 0 rfl) ?_
  refine z_get (ci := 6) (fs := [.int ar, .int pt, .int rt, .int dy, .int sk]) (C := RX6) (T := TX6) (N := 5) hx hb hts in_X6 hown hK hZ ha rfl 2 (by decide) fl_16 (fun _ h9 => h9) rfl dX6_putRight_1 ?_
  refine lv_iload_n hx hb dX6_putRight_4 rfl (lv_at hl 2 rfl) ?_
  refine lv_iload_n hx hb dX6_putRight_5 rfl (lv_at hl 1 rfl) ?_
  refine lv_aload_n hx hb dX6_putRight_6 rfl (lv_at hl 0 rfl) ?_
  refine z_get (ci := 6) (fs := [.int ar, .int pt, .int rt, .int dy, .int sk]) (C := RX6) (T := TX6) (N := 5) hx hb hts in_X6 hown hK hZ ha rfl 1 (by decide) fl_13 (fun _ h9 => h9) rfl dX6_putRight_7 ?_
  refine lv_isub hx hb dX6_putRight_10 ?_
  refine lv_imul hx hb dX6_putRight_11 ?_
  refine lv_iadd hx hb dX6_putRight_12 ?_
  exact z_iret hx hb hr hlocks hZ dX6_putRight_13 (⟨rfl, rfl⟩)

set_option maxHeartbeats 4000000 in
set_option maxRecDepth 100000 in
theorem c_X6_init (l : Launch) (D : va_G) (cT : Nat → ClassId) (G : zG) (sz : Nat) (a : Nat) (ar pt rt dy : Int32) (ha : G a = some (.inr (6, [.int 0, .int 0, .int 0, .int 0, .int 0]))) : zM l D cT yX6_init wsX6_init (zR 1 0 0) [.ref a, .int ar, .int pt, .int rt, .int dy] G sz (fun r G' => G' = va_up G a (some (.inr (6, [.int ar, .int pt, .int rt, .int dy, .int 0]))) ∧ r = none) := by
  refine z_start (cc := cX6_init) (maxL := 5) (ret := none) (by decide) rfl (Nat.le_of_ble_eq_true rfl) ?_
  intro p e s m below meth c ls hI hZ hl
  obtain ⟨hx, hb, hr, hml, hts, hown, hlocks, hname, hK, hA, hE⟩ := hI
  have hl : lv_has ls 5 [(0, .ref a), (1, .int ar), (2, .int pt), (3, .int rt), (4, .int dy)] := hl
  have hown : s.vm.findClass RX6 = some m.cls := hown
  have in_X6 : ∀ w ∈ u_ws RX6 TX6 5, w ∈ wsX6_init := by decide +kernel
  have fl_7 := hts (.fieldLink RX6 7 "FairRents$Like" "area" "I") (by decide +kernel)
  have fl_13 := hts (.fieldLink RX6 13 "FairRents$Like" "points" "I") (by decide +kernel)
  have fl_16 := hts (.fieldLink RX6 16 "FairRents$Like" "rent" "I") (by decide +kernel)
  have fl_19 := hts (.fieldLink RX6 19 "FairRents$Like" "day" "I") (by decide +kernel)
  refine lv_aload_n hx hb dX6_init_0 rfl (lv_at hl 0 rfl) ?_
  refine W.objInit hx hb hown (hts (.methodLink RX6 1 objectInit) (by decide +kernel)) (hts (.instanceMethod objectInit) (by decide +kernel)) (hts _ (List.mem_of_getElem? (i := 3) rfl)) rfl (by rw [hml]; exact hl.1) rfl dX6_init_1 (Nat.le_of_ble_eq_true rfl) (Nat.le_of_ble_eq_true rfl) ?_
  refine W.eq (g2 := F0 m 4 ls []) rfl ?_
  refine lv_aload_n hx hb dX6_init_4 rfl (lv_at hl 0 rfl) ?_
  refine lv_iload_n hx hb dX6_init_5 rfl (lv_at hl 1 rfl) ?_
  refine z_putF (ci := 6) (fs := [.int 0, .int 0, .int 0, .int 0, .int 0]) (fs' := [.int ar, .int 0, .int 0, .int 0, .int 0]) (v := .int ar) (ty := .int) (C := RX6) (T := TX6) (N := 5) hx hb hts in_X6 tyX6 tyX6_ok nmX6 hown hK hZ ha rfl 0 (by decide) fl_7 (fun _ h9 => h9) rfl hname rfl (by decide +kernel) rfl rfl (Nat.le_of_ble_eq_true rfl) rfl dX6_init_6 (fun H locs hZ => ?_)
  refine lv_aload_n hx hb dX6_init_9 rfl (lv_at hl 0 rfl) ?_
  refine lv_iload_n hx hb dX6_init_10 rfl (lv_at hl 2 rfl) ?_
  refine z_putF (ci := 6) (fs := [.int ar, .int 0, .int 0, .int 0, .int 0]) (fs' := [.int ar, .int pt, .int 0, .int 0, .int 0]) (v := .int pt) (ty := .int) (C := RX6) (T := TX6) (N := 5) hx hb hts in_X6 tyX6 tyX6_ok nmX6 hown hK hZ (va_up_self _ _ _) rfl 1 (by decide) fl_13 (fun _ h9 => h9) rfl hname rfl (by decide +kernel) rfl rfl (Nat.le_of_ble_eq_true rfl) rfl dX6_init_11 (fun H locs hZ => ?_)
  rw [bx_uu] at hZ
  refine lv_aload_n hx hb dX6_init_14 rfl (lv_at hl 0 rfl) ?_
  refine lv_iload_n hx hb dX6_init_15 rfl (lv_at hl 3 rfl) ?_
  refine z_putF (ci := 6) (fs := [.int ar, .int pt, .int 0, .int 0, .int 0]) (fs' := [.int ar, .int pt, .int rt, .int 0, .int 0]) (v := .int rt) (ty := .int) (C := RX6) (T := TX6) (N := 5) hx hb hts in_X6 tyX6 tyX6_ok nmX6 hown hK hZ (va_up_self _ _ _) rfl 2 (by decide) fl_16 (fun _ h9 => h9) rfl hname rfl (by decide +kernel) rfl rfl (Nat.le_of_ble_eq_true rfl) rfl dX6_init_16 (fun H locs hZ => ?_)
  rw [bx_uu] at hZ
  refine lv_aload_n hx hb dX6_init_19 rfl (lv_at hl 0 rfl) ?_
  refine lv_iload hx hb dX6_init_20 (lv_at hl 4 rfl) ?_
  refine z_putF (ci := 6) (fs := [.int ar, .int pt, .int rt, .int 0, .int 0]) (fs' := [.int ar, .int pt, .int rt, .int dy, .int 0]) (v := .int dy) (ty := .int) (C := RX6) (T := TX6) (N := 5) hx hb hts in_X6 tyX6 tyX6_ok nmX6 hown hK hZ (va_up_self _ _ _) rfl 3 (by decide) fl_19 (fun _ h9 => h9) rfl hname rfl (by decide +kernel) rfl rfl (Nat.le_of_ble_eq_true rfl) rfl dX6_init_22 (fun H locs hZ => ?_)
  rw [bx_uu] at hZ
  exact z_vret hx hb hr hlocks hZ dX6_init_25 (⟨rfl, rfl⟩)

set_option maxHeartbeats 4000000 in
set_option maxRecDepth 100000 in
theorem c_X4_init (l : Launch) (D : va_G) (cT : Nat → ClassId) (G : zG) (sz : Nat) (a b : Nat) (ha : G a = some (.inr (4, [.null]))) : zM l D cT yX4_init wsX4_init (zR 1 0 0) [.ref a, .ref b] G sz (fun r G' => G' = va_up G a (some (.inr (4, [.ref b]))) ∧ r = none) := by
  refine z_start (cc := cX4_init) (maxL := 2) (ret := none) (by decide) rfl (Nat.le_of_ble_eq_true rfl) ?_
  intro p e s m below meth c ls hI hZ hl
  obtain ⟨hx, hb, hr, hml, hts, hown, hlocks, hname, hK, hA, hE⟩ := hI
  have hl : lv_has ls 2 [(0, .ref a), (1, .ref b)] := hl
  have hown : s.vm.findClass RX4 = some m.cls := hown
  have in_X4 : ∀ w ∈ u_ws RX4 TX4 1, w ∈ wsX4_init := by decide +kernel
  have fl_9 := hts (.fieldLink RX4 9 "FairRents$Law" "numbers" "[I") (by decide +kernel)
  refine lv_aload_n hx hb dX4_init_0 rfl (lv_at hl 0 rfl) ?_
  refine W.objInit hx hb hown (hts (.methodLink RX4 3 objectInit) (by decide +kernel)) (hts (.instanceMethod objectInit) (by decide +kernel)) (hts _ (List.mem_of_getElem? (i := 3) rfl)) rfl (by rw [hml]; exact hl.1) rfl dX4_init_1 (Nat.le_of_ble_eq_true rfl) (Nat.le_of_ble_eq_true rfl) ?_
  refine W.eq (g2 := F0 m 4 ls []) rfl ?_
  refine lv_aload_n hx hb dX4_init_4 rfl (lv_at hl 0 rfl) ?_
  refine lv_aload_n hx hb dX4_init_5 rfl (lv_at hl 1 rfl) ?_
  refine z_putF (ci := 4) (fs := [.null]) (fs' := [.ref b]) (v := .ref b) (ty := .array .int) (C := RX4) (T := TX4) (N := 1) hx hb hts in_X4 tyX4 tyX4_ok nmX4 hown hK hZ ha rfl 0 (by decide) fl_9 (fun _ h9 => h9) rfl hname rfl (by decide +kernel) rfl rfl (Nat.le_of_ble_eq_true rfl) rfl dX4_init_6 (fun H locs hZ => ?_)
  exact z_vret hx hb hr hlocks hZ dX4_init_9 (⟨rfl, rfl⟩)

set_option maxHeartbeats 4000000 in
set_option maxRecDepth 100000 in
theorem c_X4_number (l : Launch) (D : va_G) (cT : Nat → ClassId) (G : zG) (sz : Nat) (a b : Nat) (f : Nat → Int32) (x : Int32) (j : Nat) (ha : G a = some (.inr (4, [.ref b]))) (hb8 : G b = some (.inl (cT 0, 8, .inl f))) (hxj : x = nI j) (hj : j < 8) : zM l D cT yX4_number wsX4_number (zR 1 0 0) [.ref a, .int x] G sz (fun r G' => G' = G ∧ r = some (.int (f j))) := by
  refine z_start (cc := cX4_number) (maxL := 2) (ret := (some .int)) (by decide) rfl (Nat.le_of_ble_eq_true rfl) ?_
  intro p e s m below meth c ls hI hZ hl
  obtain ⟨hx, hb, hr, hml, hts, hown, hlocks, hname, hK, hA, hE⟩ := hI
  have hl : lv_has ls 2 [(0, .ref a), (1, .int x)] := hl
  have hown : s.vm.findClass RX4 = some m.cls := hown
  have in_X4 : ∀ w ∈ u_ws RX4 TX4 1, w ∈ wsX4_number := by decide +kernel
  have fl_9 := hts (.fieldLink RX4 9 "FairRents$Law" "numbers" "[I") (by decide +kernel)
  refine lv_iload_n hx hb dX4_number_0 rfl (lv_at hl 1 rfl) ?_
  refine lv_iconst (v := 0) hx hb dX4_number_1 (by decide) ?_
  refine lv_aload_n hx hb dX4_number_2 rfl (lv_at hl 0 rfl) ?_
  refine z_get (ci := 4) (fs := [.ref b]) (C := RX4) (T := TX4) (N := 1) hx hb hts in_X4 hown hK hZ ha rfl 0 (by decide) fl_9 (fun _ h9 => h9) rfl dX4_number_3 ?_
  refine z_alen hx hb hK hZ 0 hb8 rfl dX4_number_6 ?_
  refine lv_iconst (v := 1) hx hb dX4_number_7 (by decide) ?_
  refine lv_isub hx hb dX4_number_8 ?_
  refine z_call (va_runSN (As := [.int x, .int 0, .int ((nI 8) - 1)]) (rest := []) ⟨hx, hb, hml, hown, hts⟩ (c_X9_within l D cT _ _ x 0 ((nI 8) - 1)) ⟨va_cnB 3 hts gX4_number_X9_within_n15 rfl rfl rfl hE.1.2.2.1 (hts (.initialized RX9) (by decide +kernel)) (by decide +kernel) ⟨(Nat.le_of_ble_eq_true rfl), (Nat.le_of_ble_eq_true rfl)⟩, hts (.static yX9_within) (by decide +kernel), trivial⟩ (z_preS hK hE hZ hA) rfl rfl hl.1 rfl (lv_room (Nat.le_of_ble_eq_true rfl)) dX4_number_9 ⟨(Nat.le_of_ble_eq_true rfl), (Nat.le_of_ble_eq_true rfl)⟩) hZ hA (fun r G9 H locs hq hZ => ?_)
  obtain ⟨hg, rfl⟩ := hq
  replace hg := hg.symm
  subst hg
  refine W.eq (g2 := F0 m 12 ls [.int (if 0 ≤ x ∧ x ≤ ((nI 8) - 1) then 1 else 0)]) rfl ?_
  refine zb_eq (tgt := 24) hx hb dX4_number_12 (by decide) (fun c12 => absurd c12 (fun h => h (by rw [hxj]; exact z_wi1 hj (by decide)))) (fun _ => ?_)
  refine lv_aload_n hx hb dX4_number_15 rfl (lv_at hl 0 rfl) ?_
  refine z_get (ci := 4) (fs := [.ref b]) (C := RX4) (T := TX4) (N := 1) hx hb hts in_X4 hown hK hZ ha rfl 0 (by decide) fl_9 (fun _ h9 => h9) rfl dX4_number_16 ?_
  refine lv_iload_n hx hb dX4_number_19 rfl (lv_at hl 1 rfl) ?_
  refine z_iald hx hb hK hZ hb8 j hxj hj (by decide) dX4_number_20 ?_
  refine lv_goto (tgt := 26) hx hb dX4_number_21 (by decide) ?_
  exact z_iret hx hb hr hlocks hZ dX4_number_26 (⟨rfl, rfl⟩)

set_option maxHeartbeats 4000000 in
set_option maxRecDepth 100000 in
theorem c_X2_fairRent (l : Launch) (D : va_G) (cT : Nat → ClassId) (G : zG) (sz : Nat) (a b : Nat) (ct md sc rp : Int32) (ha : G a = some (.inr (2, [.ref b, .int ct, .int md, .int sc, .int rp]))) : zM l D cT yX2_fairRent wsX2_fairRent (zR 1 0 0) [.ref a] G sz (fun r G' => G' = G ∧ r = some (.int (if 1 < md + sc + rp then md + sc + rp else 1))) := by
  refine z_start (cc := cX2_fairRent) (maxL := 1) (ret := (some .int)) (by decide) rfl (Nat.le_of_ble_eq_true rfl) ?_
  intro p e s m below meth c ls hI hZ hl
  obtain ⟨hx, hb, hr, hml, hts, hown, hlocks, hname, hK, hA, hE⟩ := hI
  have hl : lv_has ls 1 [(0, .ref a)] := hl
  have hown : s.vm.findClass RX2 = some m.cls := hown
  have in_X2 : ∀ w ∈ u_ws RX2 TX2 5, w ∈ wsX2_fairRent := by decide +kernel
  have fl_57 := hts (.fieldLink RX2 57 "FairRents$Heads" "middle" "I") (by decide +kernel)
  have fl_60 := hts (.fieldLink RX2 60 "FairRents$Heads" "scarcity" "I") (by decide +kernel)
  have fl_66 := hts (.fieldLink RX2 66 "FairRents$Heads" "repairs" "I") (by decide +kernel)
  refine lv_iconst (v := 1) hx hb dX2_fairRent_0 (by decide) ?_
  refine lv_aload_n hx hb dX2_fairRent_1 rfl (lv_at hl 0 rfl) ?_
  refine z_get (ci := 2) (fs := [.ref b, .int ct, .int md, .int sc, .int rp]) (C := RX2) (T := TX2) (N := 5) hx hb hts in_X2 hown hK hZ ha rfl 2 (by decide) fl_57 (fun _ h9 => h9) rfl dX2_fairRent_2 ?_
  refine lv_aload_n hx hb dX2_fairRent_5 rfl (lv_at hl 0 rfl) ?_
  refine z_get (ci := 2) (fs := [.ref b, .int ct, .int md, .int sc, .int rp]) (C := RX2) (T := TX2) (N := 5) hx hb hts in_X2 hown hK hZ ha rfl 3 (by decide) fl_60 (fun _ h9 => h9) rfl dX2_fairRent_6 ?_
  refine lv_iadd hx hb dX2_fairRent_9 ?_
  refine lv_aload_n hx hb dX2_fairRent_10 rfl (lv_at hl 0 rfl) ?_
  refine z_get (ci := 2) (fs := [.ref b, .int ct, .int md, .int sc, .int rp]) (C := RX2) (T := TX2) (N := 5) hx hb hts in_X2 hown hK hZ ha rfl 4 (by decide) fl_66 (fun _ h9 => h9) rfl dX2_fairRent_11 ?_
  refine lv_iadd hx hb dX2_fairRent_14 ?_
  refine va_mmax hx hb (by rw [hml]; exact hl.1.symm) hown (hts (.methodLink RX2 69 Lib.Math.max.name) (by decide +kernel)) (hts (.static Lib.Math.max.name) (by decide +kernel)) (hts (.initialized "java/lang/Math") (by decide +kernel)) (hts _ (List.mem_of_getElem? (i := 7) rfl)) (Nat.le_of_ble_eq_true rfl) (Nat.le_of_ble_eq_true rfl) (Nat.le_of_ble_eq_true rfl) (Nat.le_of_ble_eq_true rfl) dX2_fairRent_15 ?_
  exact z_iret hx hb hr hlocks hZ dX2_fairRent_18 (⟨rfl, rfl⟩)

set_option maxHeartbeats 4000000 in
set_option maxRecDepth 100000 in
theorem c_X2_init (l : Launch) (D : va_G) (cT : Nat → ClassId) (G : zG) (sz : Nat) (a : Nat) (ha : G a = some (.inr (2, [.null, .int 0, .int 0, .int 0, .int 0]))) : zM l D cT yX2_init wsX2_init (zR 1 1 12) [.ref a] G sz (fun r G' => (∃ q, q ≠ a ∧ G q = none ∧ G' = va_up (va_up G q (some (.inl (cT 0, 12, .inl (fun _ => 0))))) a (some (.inr (2, [.ref q, .int 0, .int 0, .int 0, .int 0])))) ∧ r = none) := by
  refine z_start (cc := cX2_init) (maxL := 1) (ret := none) (by decide) rfl (Nat.le_of_ble_eq_true rfl) ?_
  intro p e s m below meth c ls hI hZ hl
  obtain ⟨hx, hb, hr, hml, hts, hown, hlocks, hname, hK, hA, hE⟩ := hI
  have hl : lv_has ls 1 [(0, .ref a)] := hl
  have hown : s.vm.findClass RX2 = some m.cls := hown
  have in_X2 : ∀ w ∈ u_ws RX2 TX2 5, w ∈ wsX2_init := by decide +kernel
  have fl_9 := hts (.fieldLink RX2 9 "FairRents$Heads" "ordered" "[I") (by decide +kernel)
  refine lv_aload_n hx hb dX2_init_0 rfl (lv_at hl 0 rfl) ?_
  refine W.objInit hx hb hown (hts (.methodLink RX2 3 objectInit) (by decide +kernel)) (hts (.instanceMethod objectInit) (by decide +kernel)) (hts _ (List.mem_of_getElem? (i := 3) rfl)) rfl (by rw [hml]; exact hl.1) rfl dX2_init_1 (Nat.le_of_ble_eq_true rfl) (Nat.le_of_ble_eq_true rfl) ?_
  refine W.eq (g2 := F0 m 4 ls []) rfl ?_
  refine lv_aload_n hx hb dX2_init_4 rfl (lv_at hl 0 rfl) ?_
  refine lv_bipush (v := 12) hx hb dX2_init_5 (by decide) ?_
  refine z_newi hx hb (hts (.arrayClass .int) (by decide +kernel)) hK hZ hA 12 rfl (by decide) (Nat.le_of_ble_eq_true rfl) (Nat.le_of_ble_eq_true rfl) dX2_init_7 (fun q H hf_q hZ => ?_)
  have ne_a_q : a ≠ q := z_nef ha hf_q
  refine W.widen (k := 1) (n := 12) (by decide) (by decide) ?_
  refine z_putF (ci := 2) (fs := [.null, .int 0, .int 0, .int 0, .int 0]) (fs' := [.ref q, .int 0, .int 0, .int 0, .int 0]) (v := .ref q) (ty := .array .int) (C := RX2) (T := TX2) (N := 5) hx hb hts in_X2 tyX2 tyX2_ok nmX2 hown hK hZ ((va_up_ne _ _ ne_a_q).trans ha) rfl 0 (by decide) fl_9 (fun _ h9 => h9) rfl hname rfl (by decide +kernel) rfl rfl (Nat.le_of_ble_eq_true rfl) rfl dX2_init_9 (fun H locs hZ => ?_)
  exact z_vret hx hb hr hlocks hZ dX2_init_12 (⟨⟨q, ne_a_q.symm, hf_q, rfl⟩, rfl⟩)

set_option maxHeartbeats 4000000 in
set_option maxRecDepth 100000 in
theorem c_X5_init (l : Launch) (D : va_G) (cT : Nat → ClassId) (G : zG) (sz : Nat) (a : Nat) (ha : G a = some (.inr (5, [.null, .int 0, .int 0, .int 0, .int 0]))) : zM l D cT yX5_init wsX5_init (zR 1 1 301) [.ref a] G sz (fun r G' => (∃ q, q ≠ a ∧ G q = none ∧ G' = va_up (va_up G q (some (.inl (cT 0, 301, .inl (fun _ => 0))))) a (some (.inr (5, [.ref q, .int 0, .int 0, .int 0, .int 0])))) ∧ r = none) := by
  refine z_start (cc := cX5_init) (maxL := 1) (ret := none) (by decide) rfl (Nat.le_of_ble_eq_true rfl) ?_
  intro p e s m below meth c ls hI hZ hl
  obtain ⟨hx, hb, hr, hml, hts, hown, hlocks, hname, hK, hA, hE⟩ := hI
  have hl : lv_has ls 1 [(0, .ref a)] := hl
  have hown : s.vm.findClass RX5 = some m.cls := hown
  have in_X5 : ∀ w ∈ u_ws RX5 TX5 5, w ∈ wsX5_init := by decide +kernel
  have fl_9 := hts (.fieldLink RX5 9 "FairRents$Letting" "sums" "[I") (by decide +kernel)
  refine lv_aload_n hx hb dX5_init_0 rfl (lv_at hl 0 rfl) ?_
  refine W.objInit hx hb hown (hts (.methodLink RX5 3 objectInit) (by decide +kernel)) (hts (.instanceMethod objectInit) (by decide +kernel)) (hts _ (List.mem_of_getElem? (i := 3) rfl)) rfl (by rw [hml]; exact hl.1) rfl dX5_init_1 (Nat.le_of_ble_eq_true rfl) (Nat.le_of_ble_eq_true rfl) ?_
  refine W.eq (g2 := F0 m 4 ls []) rfl ?_
  refine lv_aload_n hx hb dX5_init_4 rfl (lv_at hl 0 rfl) ?_
  refine lv_sipush (v := 301) hx hb dX5_init_5 (by decide) ?_
  refine z_newi hx hb (hts (.arrayClass .int) (by decide +kernel)) hK hZ hA 301 rfl (by decide) (Nat.le_of_ble_eq_true rfl) (Nat.le_of_ble_eq_true rfl) dX5_init_8 (fun q H hf_q hZ => ?_)
  have ne_a_q : a ≠ q := z_nef ha hf_q
  refine W.widen (k := 1) (n := 301) (by decide) (by decide) ?_
  refine z_putF (ci := 5) (fs := [.null, .int 0, .int 0, .int 0, .int 0]) (fs' := [.ref q, .int 0, .int 0, .int 0, .int 0]) (v := .ref q) (ty := .array .int) (C := RX5) (T := TX5) (N := 5) hx hb hts in_X5 tyX5 tyX5_ok nmX5 hown hK hZ ((va_up_ne _ _ ne_a_q).trans ha) rfl 0 (by decide) fl_9 (fun _ h9 => h9) rfl hname rfl (by decide +kernel) rfl rfl (Nat.le_of_ble_eq_true rfl) rfl dX5_init_10 (fun H locs hZ => ?_)
  exact z_vret hx hb hr hlocks hZ dX5_init_13 (⟨⟨q, ne_a_q.symm, hf_q, rfl⟩, rfl⟩)

set_option maxHeartbeats 4000000 in
set_option maxRecDepth 100000 in
theorem c_X5_isLet (l : Launch) (D : va_G) (cT : Nat → ClassId) (G : zG) (sz : Nat) (a b : Nat) (nu fi rt pd : Int32) (ha : G a = some (.inr (5, [.ref b, .int nu, .int fi, .int rt, .int pd]))) : zM l D cT yX5_isLet wsX5_isLet (zR 0 0 0) [.ref a] G sz (fun r G' => G' = G ∧ r = some (.int (if 0 < nu then 1 else 0))) := by
  refine z_start (cc := cX5_isLet) (maxL := 1) (ret := (some .boolean)) (by decide) rfl (Nat.le_of_ble_eq_true rfl) ?_
  intro p e s m below meth c ls hI hZ hl
  obtain ⟨hx, hb, hr, hml, hts, hown, hlocks, hname, hK, hA, hE⟩ := hI
  have hl : lv_has ls 1 [(0, .ref a)] := hl
  have hown : s.vm.findClass RX5 = some m.cls := hown
  have in_X5 : ∀ w ∈ u_ws RX5 TX5 5, w ∈ wsX5_isLet := by decide +kernel
  have fl_15 := hts (.fieldLink RX5 15 "FairRents$Letting" "number" "I") (by decide +kernel)
  refine lv_aload_n hx hb dX5_isLet_0 rfl (lv_at hl 0 rfl) ?_
  refine z_get (ci := 5) (fs := [.ref b, .int nu, .int fi, .int rt, .int pd]) (C := RX5) (T := TX5) (N := 5) hx hb hts in_X5 hown hK hZ ha rfl 1 (by decide) fl_15 (fun _ h9 => h9) rfl dX5_isLet_1 ?_
  refine lv_if_le (tgt := 11) hx hb dX5_isLet_4 (by decide) (fun c4 => ?_) (fun c4 => ?_)
  · refine lv_iconst (v := 0) hx hb dX5_isLet_11 (by decide) ?_
    exact z_zret hx hb hr hlocks hZ (Or.inl rfl) dX5_isLet_12 (⟨rfl, by rw [if_neg (z_nlt c4)]⟩)
  · refine lv_iconst (v := 1) hx hb dX5_isLet_7 (by decide) ?_
    refine lv_goto (tgt := 12) hx hb dX5_isLet_8 (by decide) ?_
    exact z_zret hx hb hr hlocks hZ (Or.inr rfl) dX5_isLet_12 (⟨rfl, by rw [if_pos (z_lt c4)]⟩)

set_option maxHeartbeats 4000000 in
set_option maxRecDepth 100000 in
theorem c_X5_covers (l : Launch) (D : va_G) (cT : Nat → ClassId) (G : zG) (sz : Nat) (a b : Nat) (nu fi rt pd : Int32) (x : Int32) (ha : G a = some (.inr (5, [.ref b, .int nu, .int fi, .int rt, .int pd]))) : zM l D cT yX5_covers wsX5_covers (zR 1 0 0) [.ref a, .int x] G sz (fun r G' => G' = G ∧ r = some (.int (if 0 < nu ∧ ¬ x < fi then 1 else 0))) := by
  refine z_start (cc := cX5_covers) (maxL := 2) (ret := (some .boolean)) (by decide) rfl (Nat.le_of_ble_eq_true rfl) ?_
  intro p e s m below meth c ls hI hZ hl
  obtain ⟨hx, hb, hr, hml, hts, hown, hlocks, hname, hK, hA, hE⟩ := hI
  have hl : lv_has ls 2 [(0, .ref a), (1, .int x)] := hl
  have hown : s.vm.findClass RX5 = some m.cls := hown
  have in_X5 : ∀ w ∈ u_ws RX5 TX5 5, w ∈ wsX5_covers := by decide +kernel
  have fl_23 := hts (.fieldLink RX5 23 "FairRents$Letting" "first" "I") (by decide +kernel)
  refine lv_aload_n hx hb dX5_covers_0 rfl (lv_at hl 0 rfl) ?_
  refine z_call (va_runV (As := []) (rest := []) ⟨hx, hb, hml, hown, hts⟩ (c_X5_isLet l D cT _ _ a b nu fi rt pd ha) (cwV 0 hts gX5_covers_X5_isLet rfl rfl rfl (by decide +kernel) ⟨(Nat.le_of_ble_eq_true rfl), (Nat.le_of_ble_eq_true rfl)⟩) (z_preV hK hE hZ hA (ci := 5) rfl ha) rfl rfl hl.1 rfl (lv_room (Nat.le_of_ble_eq_true rfl)) dX5_covers_1 ⟨(Nat.le_of_ble_eq_true rfl), (Nat.le_of_ble_eq_true rfl)⟩) hZ hA (fun r G1 H locs hq hZ => ?_)
  obtain ⟨hg, rfl⟩ := hq
  replace hg := hg.symm
  subst hg
  refine W.eq (g2 := F0 m 4 ls [.int (if 0 < nu then 1 else 0)]) rfl ?_
  refine zb_eq (tgt := 19) hx hb dX5_covers_4 (by decide) (fun c4 => ?_) (fun c4 => ?_)
  · refine lv_iconst (v := 0) hx hb dX5_covers_19 (by decide) ?_
    exact z_zret hx hb hr hlocks hZ (Or.inl rfl) dX5_covers_20 (⟨rfl, by rw [if_neg (fun h => c4 h.1)]⟩)
  · refine lv_iload_n hx hb dX5_covers_7 rfl (lv_at hl 1 rfl) ?_
    refine lv_aload_n hx hb dX5_covers_8 rfl (lv_at hl 0 rfl) ?_
    refine z_get (ci := 5) (fs := [.ref b, .int nu, .int fi, .int rt, .int pd]) (C := RX5) (T := TX5) (N := 5) hx hb hts in_X5 hown hK hZ ha rfl 2 (by decide) fl_23 (fun _ h9 => h9) rfl dX5_covers_9 ?_
    refine lv_icmp_lt (tgt := 19) hx hb dX5_covers_12 (by decide) (fun c12 => ?_) (fun c12 => ?_)
    · refine lv_iconst (v := 0) hx hb dX5_covers_19 (by decide) ?_
      exact z_zret hx hb hr hlocks hZ (Or.inl rfl) dX5_covers_20 (⟨rfl, by rw [if_neg (fun h => h.2 c12)]⟩)
    · refine lv_iconst (v := 1) hx hb dX5_covers_15 (by decide) ?_
      refine lv_goto (tgt := 20) hx hb dX5_covers_16 (by decide) ?_
      exact z_zret hx hb hr hlocks hZ (Or.inr rfl) dX5_covers_20 (⟨rfl, by rw [if_pos ⟨c4, c12⟩]⟩)

set_option maxHeartbeats 4000000 in
set_option maxRecDepth 100000 in
theorem c_X5_paidOn (l : Launch) (D : va_G) (cT : Nat → ClassId) (G : zG) (sz : Nat) (a b : Nat) (nu fi rt pd : Int32) (f : Nat → Int32) (x : Int32) (j : Nat) (ha : G a = some (.inr (5, [.ref b, .int nu, .int fi, .int rt, .int pd]))) (hb3 : G b = some (.inl (cT 0, 301, .inl f))) (hxj : x = nI j) (hj : j < 301) : zM l D cT yX5_paidOn wsX5_paidOn (zR 1 0 0) [.ref a, .int x] G sz (fun r G' => G' = G ∧ r = some (.int (f j))) := by
  refine z_start (cc := cX5_paidOn) (maxL := 2) (ret := (some .int)) (by decide) rfl (Nat.le_of_ble_eq_true rfl) ?_
  intro p e s m below meth c ls hI hZ hl
  obtain ⟨hx, hb, hr, hml, hts, hown, hlocks, hname, hK, hA, hE⟩ := hI
  have hl : lv_has ls 2 [(0, .ref a), (1, .int x)] := hl
  have hown : s.vm.findClass RX5 = some m.cls := hown
  have in_X5 : ∀ w ∈ u_ws RX5 TX5 5, w ∈ wsX5_paidOn := by decide +kernel
  have fl_9 := hts (.fieldLink RX5 9 "FairRents$Letting" "sums" "[I") (by decide +kernel)
  refine lv_iload_n hx hb dX5_paidOn_0 rfl (lv_at hl 1 rfl) ?_
  refine lv_iconst (v := 0) hx hb dX5_paidOn_1 (by decide) ?_
  refine lv_aload_n hx hb dX5_paidOn_2 rfl (lv_at hl 0 rfl) ?_
  refine z_get (ci := 5) (fs := [.ref b, .int nu, .int fi, .int rt, .int pd]) (C := RX5) (T := TX5) (N := 5) hx hb hts in_X5 hown hK hZ ha rfl 0 (by decide) fl_9 (fun _ h9 => h9) rfl dX5_paidOn_3 ?_
  refine z_alen hx hb hK hZ 0 hb3 rfl dX5_paidOn_6 ?_
  refine lv_iconst (v := 1) hx hb dX5_paidOn_7 (by decide) ?_
  refine lv_isub hx hb dX5_paidOn_8 ?_
  refine z_call (va_runSN (As := [.int x, .int 0, .int ((nI 301) - 1)]) (rest := []) ⟨hx, hb, hml, hown, hts⟩ (c_X9_within l D cT _ _ x 0 ((nI 301) - 1)) ⟨va_cnB 3 hts gX5_paidOn_X9_within_n32 rfl rfl rfl hE.1.2.2.2.2 (hts (.initialized RX9) (by decide +kernel)) (by decide +kernel) ⟨(Nat.le_of_ble_eq_true rfl), (Nat.le_of_ble_eq_true rfl)⟩, hts (.static yX9_within) (by decide +kernel), trivial⟩ (z_preS hK hE hZ hA) rfl rfl hl.1 rfl (lv_room (Nat.le_of_ble_eq_true rfl)) dX5_paidOn_9 ⟨(Nat.le_of_ble_eq_true rfl), (Nat.le_of_ble_eq_true rfl)⟩) hZ hA (fun r G9 H locs hq hZ => ?_)
  obtain ⟨hg, rfl⟩ := hq
  replace hg := hg.symm
  subst hg
  refine W.eq (g2 := F0 m 12 ls [.int (if 0 ≤ x ∧ x ≤ ((nI 301) - 1) then 1 else 0)]) rfl ?_
  refine zb_eq (tgt := 24) hx hb dX5_paidOn_12 (by decide) (fun c12 => absurd c12 (fun h => h (by rw [hxj]; exact z_wi1 hj (by decide)))) (fun _ => ?_)
  refine lv_aload_n hx hb dX5_paidOn_15 rfl (lv_at hl 0 rfl) ?_
  refine z_get (ci := 5) (fs := [.ref b, .int nu, .int fi, .int rt, .int pd]) (C := RX5) (T := TX5) (N := 5) hx hb hts in_X5 hown hK hZ ha rfl 0 (by decide) fl_9 (fun _ h9 => h9) rfl dX5_paidOn_16 ?_
  refine lv_iload_n hx hb dX5_paidOn_19 rfl (lv_at hl 1 rfl) ?_
  refine z_iald hx hb hK hZ hb3 j hxj hj (by decide) dX5_paidOn_20 ?_
  refine lv_goto (tgt := 25) hx hb dX5_paidOn_21 (by decide) ?_
  exact z_iret hx hb hr hlocks hZ dX5_paidOn_25 (⟨rfl, rfl⟩)

set_option maxHeartbeats 4000000 in
set_option maxRecDepth 100000 in
theorem c_X5_take (l : Launch) (D : va_G) (cT : Nat → ClassId) (G : zG) (sz : Nat) (a b : Nat) (nu fi rt pd : Int32) (f : Nat → Int32) (x y : Int32) (j : Nat) (ha : G a = some (.inr (5, [.ref b, .int nu, .int fi, .int rt, .int pd]))) (hb3 : G b = some (.inl (cT 0, 301, .inl f))) (hxj : x = nI j) (hj : j < 301) : zM l D cT yX5_take wsX5_take (zR 1 0 0) [.ref a, .int x, .int y] G sz (fun r G' => G' = va_up (va_up G b (some (.inl (cT 0, 301, .inl (upd f j (f j + y)))))) a (some (.inr (5, [.ref b, .int nu, .int fi, .int rt, .int (pd + y)]))) ∧ r = none) := by
  refine z_start (cc := cX5_take) (maxL := 3) (ret := none) (by decide) rfl (Nat.le_of_ble_eq_true rfl) ?_
  intro p e s m below meth c ls hI hZ hl
  obtain ⟨hx, hb, hr, hml, hts, hown, hlocks, hname, hK, hA, hE⟩ := hI
  have hl : lv_has ls 3 [(0, .ref a), (1, .int x), (2, .int y)] := hl
  have hown : s.vm.findClass RX5 = some m.cls := hown
  have in_X5 : ∀ w ∈ u_ws RX5 TX5 5, w ∈ wsX5_take := by decide +kernel
  have fl_9 := hts (.fieldLink RX5 9 "FairRents$Letting" "sums" "[I") (by decide +kernel)
  have fl_29 := hts (.fieldLink RX5 29 "FairRents$Letting" "paid" "I") (by decide +kernel)
  refine lv_iload_n hx hb dX5_take_0 rfl (lv_at hl 1 rfl) ?_
  refine lv_iconst (v := 0) hx hb dX5_take_1 (by decide) ?_
  refine lv_aload_n hx hb dX5_take_2 rfl (lv_at hl 0 rfl) ?_
  refine z_get (ci := 5) (fs := [.ref b, .int nu, .int fi, .int rt, .int pd]) (C := RX5) (T := TX5) (N := 5) hx hb hts in_X5 hown hK hZ ha rfl 0 (by decide) fl_9 (fun _ h9 => h9) rfl dX5_take_3 ?_
  refine z_alen hx hb hK hZ 0 hb3 rfl dX5_take_6 ?_
  refine lv_iconst (v := 1) hx hb dX5_take_7 (by decide) ?_
  refine lv_isub hx hb dX5_take_8 ?_
  refine z_call (va_runSN (As := [.int x, .int 0, .int ((nI 301) - 1)]) (rest := []) ⟨hx, hb, hml, hown, hts⟩ (c_X9_within l D cT _ _ x 0 ((nI 301) - 1)) ⟨va_cnB 3 hts gX5_take_X9_within_n32 rfl rfl rfl hE.1.2.2.2.2 (hts (.initialized RX9) (by decide +kernel)) (by decide +kernel) ⟨(Nat.le_of_ble_eq_true rfl), (Nat.le_of_ble_eq_true rfl)⟩, hts (.static yX9_within) (by decide +kernel), trivial⟩ (z_preS hK hE hZ hA) rfl rfl hl.1 rfl (lv_room (Nat.le_of_ble_eq_true rfl)) dX5_take_9 ⟨(Nat.le_of_ble_eq_true rfl), (Nat.le_of_ble_eq_true rfl)⟩) hZ hA (fun r G9 H locs hq hZ => ?_)
  obtain ⟨hg, rfl⟩ := hq
  replace hg := hg.symm
  subst hg
  refine W.eq (g2 := F0 m 12 ls [.int (if 0 ≤ x ∧ x ≤ ((nI 301) - 1) then 1 else 0)]) rfl ?_
  refine zb_eq (tgt := 35) hx hb dX5_take_12 (by decide) (fun c12 => absurd c12 (fun h => h (by rw [hxj]; exact z_wi1 hj (by decide)))) (fun _ => ?_)
  refine lv_aload_n hx hb dX5_take_15 rfl (lv_at hl 0 rfl) ?_
  refine z_get (ci := 5) (fs := [.ref b, .int nu, .int fi, .int rt, .int pd]) (C := RX5) (T := TX5) (N := 5) hx hb hts in_X5 hown hK hZ ha rfl 0 (by decide) fl_9 (fun _ h9 => h9) rfl dX5_take_16 ?_
  refine lv_iload_n hx hb dX5_take_19 rfl (lv_at hl 1 rfl) ?_
  refine lv_dup2_11 hx hb dX5_take_20 rfl rfl ?_
  refine z_iald hx hb hK hZ hb3 j hxj hj (by decide) dX5_take_21 ?_
  refine lv_iload_n hx hb dX5_take_22 rfl (lv_at hl 2 rfl) ?_
  refine lv_iadd hx hb dX5_take_23 ?_
  refine z_iast hx hb hK hZ hb3 j hxj hj (by decide) dX5_take_24 (fun H locs hZ => ?_)
  refine lv_aload_n hx hb dX5_take_25 rfl (lv_at hl 0 rfl) ?_
  refine lv_dup hx hb dX5_take_26 rfl ?_
  refine z_get (ci := 5) (fs := [.ref b, .int nu, .int fi, .int rt, .int pd]) (C := RX5) (T := TX5) (N := 5) hx hb hts in_X5 hown hK hZ ((va_up_ne _ _ (z_neOA ha hb3)).trans ha) rfl 4 (by decide) fl_29 (fun _ h9 => h9) rfl dX5_take_27 ?_
  refine lv_iload_n hx hb dX5_take_30 rfl (lv_at hl 2 rfl) ?_
  refine lv_iadd hx hb dX5_take_31 ?_
  refine z_put (ci := 5) (fs := [.ref b, .int nu, .int fi, .int rt, .int pd]) (fs' := [.ref b, .int nu, .int fi, .int rt, .int (pd + y)]) (v := .int (pd + y)) (ty := .int) (C := RX5) (T := TX5) (N := 5) hx hb hts in_X5 tyX5 tyX5_ok nmX5 hown hK hZ ((va_up_ne _ _ (z_neOA ha hb3)).trans ha) rfl 4 (by decide) fl_29 (fun _ h9 => h9) rfl (by decide +kernel) rfl rfl (Nat.le_of_ble_eq_true rfl) rfl dX5_take_32 (fun H locs hZ => ?_)
  exact z_vret hx hb hr hlocks hZ dX5_take_35 (⟨rfl, rfl⟩)

set_option maxHeartbeats 4000000 in
set_option maxRecDepth 100000 in
theorem c_X0_binds (l : Launch) (D : va_G) (cT : Nat → ClassId) (G : zG) (sz : Nat) (a lw : Nat) (ho le dy rt md sc rp sd : Int32) (x y : Int32) (ha : G a = some (.inr (0, [.int ho, .int le, .int dy, .ref lw, .int rt, .int md, .int sc, .int rp, .int sd]))) : zM l D cT yX0_binds wsX0_binds (zR 0 0 0) [.ref a, .int x, .int y] G sz (fun r G' => G' = G ∧ r = some (.int (if ¬ sd = 0 ∧ ho = x ∧ le = y then 1 else 0))) := by
  refine z_start (cc := cX0_binds) (maxL := 3) (ret := (some .boolean)) (by decide) rfl (Nat.le_of_ble_eq_true rfl) ?_
  intro p e s m below meth c ls hI hZ hl
  obtain ⟨hx, hb, hr, hml, hts, hown, hlocks, hname, hK, hA, hE⟩ := hI
  have hl : lv_has ls 3 [(0, .ref a), (1, .int x), (2, .int y)] := hl
  have hown : s.vm.findClass RX0 = some m.cls := hown
  have in_X0 : ∀ w ∈ u_ws RX0 TX0 9, w ∈ wsX0_binds := by decide +kernel
  have fl_9 := hts (.fieldLink RX0 9 "FairRents$Entry" "home" "I") (by decide +kernel)
  have fl_15 := hts (.fieldLink RX0 15 "FairRents$Entry" "letting" "I") (by decide +kernel)
  have fl_46 := hts (.fieldLink RX0 46 "FairRents$Entry" "stands" "Z") (by decide +kernel)
  refine lv_aload_n hx hb dX0_binds_0 rfl (lv_at hl 0 rfl) ?_
  refine z_get (ci := 0) (fs := [.int ho, .int le, .int dy, .ref lw, .int rt, .int md, .int sc, .int rp, .int sd]) (C := RX0) (T := TX0) (N := 9) hx hb hts in_X0 hown hK hZ ha rfl 8 (by decide) fl_46 (fun _ h9 => h9) rfl dX0_binds_1 ?_
  refine lv_if_eq (tgt := 27) hx hb dX0_binds_4 (by decide) (fun c4 => ?_) (fun c4 => ?_)
  · refine lv_iconst (v := 0) hx hb dX0_binds_27 (by decide) ?_
    exact z_zret hx hb hr hlocks hZ (Or.inl rfl) dX0_binds_28 (⟨rfl, by rw [if_neg (fun h => h.1 c4)]⟩)
  · refine lv_aload_n hx hb dX0_binds_7 rfl (lv_at hl 0 rfl) ?_
    refine z_get (ci := 0) (fs := [.int ho, .int le, .int dy, .ref lw, .int rt, .int md, .int sc, .int rp, .int sd]) (C := RX0) (T := TX0) (N := 9) hx hb hts in_X0 hown hK hZ ha rfl 0 (by decide) fl_9 (fun _ h9 => h9) rfl dX0_binds_8 ?_
    refine lv_iload_n hx hb dX0_binds_11 rfl (lv_at hl 1 rfl) ?_
    refine lv_icmp_ne (tgt := 27) hx hb dX0_binds_12 (by decide) (fun c12 => ?_) (fun c12 => ?_)
    · refine lv_iconst (v := 0) hx hb dX0_binds_27 (by decide) ?_
      exact z_zret hx hb hr hlocks hZ (Or.inl rfl) dX0_binds_28 (⟨rfl, by rw [if_neg (fun h => c12 h.2.1)]⟩)
    · refine lv_aload_n hx hb dX0_binds_15 rfl (lv_at hl 0 rfl) ?_
      refine z_get (ci := 0) (fs := [.int ho, .int le, .int dy, .ref lw, .int rt, .int md, .int sc, .int rp, .int sd]) (C := RX0) (T := TX0) (N := 9) hx hb hts in_X0 hown hK hZ ha rfl 1 (by decide) fl_15 (fun _ h9 => h9) rfl dX0_binds_16 ?_
      refine lv_iload_n hx hb dX0_binds_19 rfl (lv_at hl 2 rfl) ?_
      refine lv_icmp_ne (tgt := 27) hx hb dX0_binds_20 (by decide) (fun c20 => ?_) (fun c20 => ?_)
      · refine lv_iconst (v := 0) hx hb dX0_binds_27 (by decide) ?_
        exact z_zret hx hb hr hlocks hZ (Or.inl rfl) dX0_binds_28 (⟨rfl, by rw [if_neg (fun h => c20 h.2.2)]⟩)
      · refine lv_iconst (v := 1) hx hb dX0_binds_23 (by decide) ?_
        refine lv_goto (tgt := 28) hx hb dX0_binds_24 (by decide) ?_
        exact z_zret hx hb hr hlocks hZ (Or.inr rfl) dX0_binds_28 (⟨rfl, by rw [if_pos ⟨c4, c12, c20⟩]⟩)

set_option maxHeartbeats 4000000 in
set_option maxRecDepth 100000 in
theorem c_X0_steppedFrom (l : Launch) (D : va_G) (cT : Nat → ClassId) (G : zG) (sz : Nat) (a lw : Nat) (ho le dy rt md sc rp sd : Int32) (b : Nat) (f : Nat → Int32) (x y : Int32) (ha : G a = some (.inr (0, [.int ho, .int le, .int dy, .ref lw, .int rt, .int md, .int sc, .int rp, .int sd]))) (hlw : G lw = some (.inr (4, [.ref b]))) (hb8 : G b = some (.inl (cT 0, 8, .inl f))) : zM l D cT yX0_steppedFrom wsX0_steppedFrom (zR 2 0 0) [.ref a, .int x, .int y] G sz (fun r G' => G' = G ∧ r = some (.int (if x < rt then (if x + f 5 * ((y - dy) / 10 + 1) < rt then x + f 5 * ((y - dy) / 10 + 1) else rt) else rt))) := by
  refine z_start (cc := cX0_steppedFrom) (maxL := 4) (ret := (some .int)) (by decide) rfl (Nat.le_of_ble_eq_true rfl) ?_
  intro p e s m below meth c ls hI hZ hl
  obtain ⟨hx, hb, hr, hml, hts, hown, hlocks, hname, hK, hA, hE⟩ := hI
  have hl : lv_has ls 4 [(0, .ref a), (1, .int x), (2, .int y)] := hl
  have hown : s.vm.findClass RX0 = some m.cls := hown
  have in_X0 : ∀ w ∈ u_ws RX0 TX0 9, w ∈ wsX0_steppedFrom := by decide +kernel
  have fl_18 := hts (.fieldLink RX0 18 "FairRents$Entry" "day" "I") (by decide +kernel)
  have fl_21 := hts (.fieldLink RX0 21 "FairRents$Entry" "law" "LFairRents$Law;") (by decide +kernel)
  have fl_31 := hts (.fieldLink RX0 31 "FairRents$Entry" "rent" "I") (by decide +kernel)
  refine lv_aload_n hx hb dX0_steppedFrom_0 rfl (lv_at hl 0 rfl) ?_
  refine z_get (ci := 0) (fs := [.int ho, .int le, .int dy, .ref lw, .int rt, .int md, .int sc, .int rp, .int sd]) (C := RX0) (T := TX0) (N := 9) hx hb hts in_X0 hown hK hZ ha rfl 4 (by decide) fl_31 (fun _ h9 => h9) rfl dX0_steppedFrom_1 ?_
  refine lv_iload_n hx hb dX0_steppedFrom_4 rfl (lv_at hl 1 rfl) ?_
  refine lv_icmp_gt (tgt := 13) hx hb dX0_steppedFrom_5 (by decide) (fun c5 => ?_) (fun c5 => ?_)
  · refine lv_iload_n hx hb dX0_steppedFrom_13 rfl (lv_at hl 2 rfl) ?_
    refine lv_aload_n hx hb dX0_steppedFrom_14 rfl (lv_at hl 0 rfl) ?_
    refine z_get (ci := 0) (fs := [.int ho, .int le, .int dy, .ref lw, .int rt, .int md, .int sc, .int rp, .int sd]) (C := RX0) (T := TX0) (N := 9) hx hb hts in_X0 hown hK hZ ha rfl 2 (by decide) fl_18 (fun _ h9 => h9) rfl dX0_steppedFrom_15 ?_
    refine lv_isub hx hb dX0_steppedFrom_18 ?_
    refine lv_bipush (v := 10) hx hb dX0_steppedFrom_19 (by decide) ?_
    refine lv_idiv hx hb dX0_steppedFrom_21 (by decide) ?_
    refine lv_iconst (v := 1) hx hb dX0_steppedFrom_22 (by decide) ?_
    refine lv_iadd hx hb dX0_steppedFrom_23 ?_
    refine lv_istore_n (lv' := [(3, .int (((y - dy) / 10) + 1)), (0, .ref a), (1, .int x), (2, .int y)]) hx hb dX0_steppedFrom_24 rfl hl (by decide) rfl (fun ls hl => ?_)
    refine lv_aload_n hx hb dX0_steppedFrom_25 rfl (lv_at hl 1 rfl) ?_
    refine z_get (ci := 0) (fs := [.int ho, .int le, .int dy, .ref lw, .int rt, .int md, .int sc, .int rp, .int sd]) (C := RX0) (T := TX0) (N := 9) hx hb hts in_X0 hown hK hZ ha rfl 4 (by decide) fl_31 (fun _ h9 => h9) rfl dX0_steppedFrom_26 ?_
    refine lv_iload_n hx hb dX0_steppedFrom_29 rfl (lv_at hl 2 rfl) ?_
    refine lv_aload_n hx hb dX0_steppedFrom_30 rfl (lv_at hl 1 rfl) ?_
    refine z_get (ci := 0) (fs := [.int ho, .int le, .int dy, .ref lw, .int rt, .int md, .int sc, .int rp, .int sd]) (C := RX0) (T := TX0) (N := 9) hx hb hts in_X0 hown hK hZ ha rfl 3 (by decide) fl_21 (fun _ h9 => h9) rfl dX0_steppedFrom_31 ?_
    refine lv_iconst (v := 5) hx hb dX0_steppedFrom_34 (by decide) ?_
    refine z_call (va_runV (As := [.int 5]) (rest := [.int x, .int rt]) ⟨hx, hb, hml, hown, hts⟩ (c_X4_number l D cT _ _ lw b f 5 5 hlw hb8 rfl (by decide)) (cwV 1 hts gX0_steppedFrom_X4_number rfl rfl rfl (by decide +kernel) ⟨(Nat.le_of_ble_eq_true rfl), (Nat.le_of_ble_eq_true rfl)⟩) (z_preV hK hE hZ hA (ci := 4) rfl hlw) rfl rfl hl.1 rfl (lv_room (Nat.le_of_ble_eq_true rfl)) dX0_steppedFrom_35 ⟨(Nat.le_of_ble_eq_true rfl), (Nat.le_of_ble_eq_true rfl)⟩) hZ hA (fun r G35 H locs hq hZ => ?_)
    obtain ⟨hg, rfl⟩ := hq
    replace hg := hg.symm
    subst hg
    refine W.eq (g2 := F0 m 38 ls [.int (f 5), .int x, .int rt]) rfl ?_
    refine lv_iload_n hx hb dX0_steppedFrom_38 rfl (lv_at hl 0 rfl) ?_
    refine lv_imul hx hb dX0_steppedFrom_39 ?_
    refine lv_iadd hx hb dX0_steppedFrom_40 ?_
    refine va_mmin hx hb (by rw [hml]; exact hl.1.symm) hown (hts (.methodLink RX0 56 Lib.Math.min.name) (by decide +kernel)) (hts (.static Lib.Math.min.name) (by decide +kernel)) (hts (.initialized "java/lang/Math") (by decide +kernel)) (hts _ (List.mem_of_getElem? (i := 7) rfl)) (Nat.le_of_ble_eq_true rfl) (Nat.le_of_ble_eq_true rfl) (Nat.le_of_ble_eq_true rfl) (Nat.le_of_ble_eq_true rfl) dX0_steppedFrom_41 ?_
    exact z_iret hx hb hr hlocks hZ dX0_steppedFrom_44 (⟨rfl, by rw [if_pos c5]⟩)
  · refine lv_aload_n hx hb dX0_steppedFrom_8 rfl (lv_at hl 0 rfl) ?_
    refine z_get (ci := 0) (fs := [.int ho, .int le, .int dy, .ref lw, .int rt, .int md, .int sc, .int rp, .int sd]) (C := RX0) (T := TX0) (N := 9) hx hb hts in_X0 hown hK hZ ha rfl 4 (by decide) fl_31 (fun _ h9 => h9) rfl dX0_steppedFrom_9 ?_
    exact z_iret hx hb hr hlocks hZ dX0_steppedFrom_12 (⟨rfl, by rw [if_neg c5]⟩)

set_option maxHeartbeats 4000000 in
set_option maxRecDepth 100000 in
theorem c_X0_init (l : Launch) (D : va_G) (cT : Nat → ClassId) (G : zG) (sz : Nat) (a lw h b : Nat) (ho le dy ct md sc rp : Int32) (ha : G a = some (.inr (0, [.int 0, .int 0, .int 0, .null, .int 0, .int 0, .int 0, .int 0, .int 0]))) (hh : G h = some (.inr (2, [.ref b, .int ct, .int md, .int sc, .int rp]))) : zM l D cT yX0_init wsX0_init (zR 2 0 0) [.ref a, .int ho, .int le, .int dy, .ref lw, .ref h] G sz (fun r G' => G' = va_up G a (some (.inr (0, [.int ho, .int le, .int dy, .ref lw, .int (if 1 < md + sc + rp then md + sc + rp else 1), .int md, .int sc, .int rp, .int 1]))) ∧ r = none) := by
  refine z_start (cc := cX0_init) (maxL := 6) (ret := none) (by decide) rfl (Nat.le_of_ble_eq_true rfl) ?_
  intro p e s m below meth c ls hI hZ hl
  obtain ⟨hx, hb, hr, hml, hts, hown, hlocks, hname, hK, hA, hE⟩ := hI
  have hl : lv_has ls 6 [(0, .ref a), (1, .int ho), (2, .int le), (3, .int dy), (4, .ref lw), (5, .ref h)] := hl
  have hown : s.vm.findClass RX0 = some m.cls := hown
  have in_X0 : ∀ w ∈ u_ws RX0 TX0 9, w ∈ wsX0_init := by decide +kernel
  have in_X2 : ∀ w ∈ u_ws RX2 TX2 5, w ∈ wsX0_init := by decide +kernel
  have fl_9 := hts (.fieldLink RX0 9 "FairRents$Entry" "home" "I") (by decide +kernel)
  have fl_15 := hts (.fieldLink RX0 15 "FairRents$Entry" "letting" "I") (by decide +kernel)
  have fl_18 := hts (.fieldLink RX0 18 "FairRents$Entry" "day" "I") (by decide +kernel)
  have fl_21 := hts (.fieldLink RX0 21 "FairRents$Entry" "law" "LFairRents$Law;") (by decide +kernel)
  have fl_31 := hts (.fieldLink RX0 31 "FairRents$Entry" "rent" "I") (by decide +kernel)
  have fl_34 := hts (.fieldLink RX0 34 "FairRents$Heads" "middle" "I") (by decide +kernel)
  have fl_37 := hts (.fieldLink RX0 37 "FairRents$Entry" "middle" "I") (by decide +kernel)
  have fl_38 := hts (.fieldLink RX0 38 "FairRents$Heads" "scarcity" "I") (by decide +kernel)
  have fl_41 := hts (.fieldLink RX0 41 "FairRents$Entry" "scarcity" "I") (by decide +kernel)
  have fl_42 := hts (.fieldLink RX0 42 "FairRents$Heads" "repairs" "I") (by decide +kernel)
  have fl_45 := hts (.fieldLink RX0 45 "FairRents$Entry" "repairs" "I") (by decide +kernel)
  have fl_46 := hts (.fieldLink RX0 46 "FairRents$Entry" "stands" "Z") (by decide +kernel)
  refine lv_aload_n hx hb dX0_init_0 rfl (lv_at hl 0 rfl) ?_
  refine W.objInit hx hb hown (hts (.methodLink RX0 3 objectInit) (by decide +kernel)) (hts (.instanceMethod objectInit) (by decide +kernel)) (hts _ (List.mem_of_getElem? (i := 3) rfl)) rfl (by rw [hml]; exact hl.1) rfl dX0_init_1 (Nat.le_of_ble_eq_true rfl) (Nat.le_of_ble_eq_true rfl) ?_
  refine W.eq (g2 := F0 m 4 ls []) rfl ?_
  refine lv_aload_n hx hb dX0_init_4 rfl (lv_at hl 0 rfl) ?_
  refine lv_iload_n hx hb dX0_init_5 rfl (lv_at hl 1 rfl) ?_
  refine z_putF (ci := 0) (fs := [.int 0, .int 0, .int 0, .null, .int 0, .int 0, .int 0, .int 0, .int 0]) (fs' := [.int ho, .int 0, .int 0, .null, .int 0, .int 0, .int 0, .int 0, .int 0]) (v := .int ho) (ty := .int) (C := RX0) (T := TX0) (N := 9) hx hb hts in_X0 tyX0 tyX0_ok nmX0 hown hK hZ ha rfl 0 (by decide) fl_9 (fun _ h9 => h9) rfl hname rfl (by decide +kernel) rfl rfl (Nat.le_of_ble_eq_true rfl) rfl dX0_init_6 (fun H locs hZ => ?_)
  refine lv_aload_n hx hb dX0_init_9 rfl (lv_at hl 0 rfl) ?_
  refine lv_iload_n hx hb dX0_init_10 rfl (lv_at hl 2 rfl) ?_
  refine z_putF (ci := 0) (fs := [.int ho, .int 0, .int 0, .null, .int 0, .int 0, .int 0, .int 0, .int 0]) (fs' := [.int ho, .int le, .int 0, .null, .int 0, .int 0, .int 0, .int 0, .int 0]) (v := .int le) (ty := .int) (C := RX0) (T := TX0) (N := 9) hx hb hts in_X0 tyX0 tyX0_ok nmX0 hown hK hZ (va_up_self _ _ _) rfl 1 (by decide) fl_15 (fun _ h9 => h9) rfl hname rfl (by decide +kernel) rfl rfl (Nat.le_of_ble_eq_true rfl) rfl dX0_init_11 (fun H locs hZ => ?_)
  rw [bx_uu] at hZ
  refine lv_aload_n hx hb dX0_init_14 rfl (lv_at hl 0 rfl) ?_
  refine lv_iload_n hx hb dX0_init_15 rfl (lv_at hl 3 rfl) ?_
  refine z_putF (ci := 0) (fs := [.int ho, .int le, .int 0, .null, .int 0, .int 0, .int 0, .int 0, .int 0]) (fs' := [.int ho, .int le, .int dy, .null, .int 0, .int 0, .int 0, .int 0, .int 0]) (v := .int dy) (ty := .int) (C := RX0) (T := TX0) (N := 9) hx hb hts in_X0 tyX0 tyX0_ok nmX0 hown hK hZ (va_up_self _ _ _) rfl 2 (by decide) fl_18 (fun _ h9 => h9) rfl hname rfl (by decide +kernel) rfl rfl (Nat.le_of_ble_eq_true rfl) rfl dX0_init_16 (fun H locs hZ => ?_)
  rw [bx_uu] at hZ
  refine lv_aload_n hx hb dX0_init_19 rfl (lv_at hl 0 rfl) ?_
  refine lv_aload hx hb dX0_init_20 (lv_at hl 4 rfl) ?_
  refine z_putF (ci := 0) (fs := [.int ho, .int le, .int dy, .null, .int 0, .int 0, .int 0, .int 0, .int 0]) (fs' := [.int ho, .int le, .int dy, .ref lw, .int 0, .int 0, .int 0, .int 0, .int 0]) (v := .ref lw) (ty := .object "FairRents$Law") (C := RX0) (T := TX0) (N := 9) hx hb hts in_X0 tyX0 tyX0_ok nmX0 hown hK hZ (va_up_self _ _ _) rfl 3 (by decide) fl_21 (fun _ h9 => h9) rfl hname rfl (by decide +kernel) rfl rfl (Nat.le_of_ble_eq_true rfl) rfl dX0_init_22 (fun H locs hZ => ?_)
  rw [bx_uu] at hZ
  refine lv_aload_n hx hb dX0_init_25 rfl (lv_at hl 0 rfl) ?_
  refine lv_aload hx hb dX0_init_26 (lv_at hl 5 rfl) ?_
  refine z_call (va_runV (As := []) (rest := [.ref a]) ⟨hx, hb, hml, hown, hts⟩ (c_X2_fairRent l D cT _ _ h b ct md sc rp ((va_up_ne _ _ (z_neOO hh ha (by decide))).trans hh)) (cwV 0 hts gX0_init_X2_fairRent rfl rfl rfl (by decide +kernel) ⟨(Nat.le_of_ble_eq_true rfl), (Nat.le_of_ble_eq_true rfl)⟩) (z_preV hK hE hZ hA (ci := 2) rfl ((va_up_ne _ _ (z_neOO hh ha (by decide))).trans hh)) rfl rfl hl.1 rfl (lv_room (Nat.le_of_ble_eq_true rfl)) dX0_init_28 ⟨(Nat.le_of_ble_eq_true rfl), (Nat.le_of_ble_eq_true rfl)⟩) hZ hA (fun r G28 H locs hq hZ => ?_)
  obtain ⟨hg, rfl⟩ := hq
  replace hg := hg.symm
  subst hg
  refine W.eq (g2 := F0 m 31 ls [.int (if 1 < md + sc + rp then md + sc + rp else 1), .ref a]) rfl ?_
  refine z_putF (ci := 0) (fs := [.int ho, .int le, .int dy, .ref lw, .int 0, .int 0, .int 0, .int 0, .int 0]) (fs' := [.int ho, .int le, .int dy, .ref lw, .int (if 1 < md + sc + rp then md + sc + rp else 1), .int 0, .int 0, .int 0, .int 0]) (v := .int (if 1 < md + sc + rp then md + sc + rp else 1)) (ty := .int) (C := RX0) (T := TX0) (N := 9) hx hb hts in_X0 tyX0 tyX0_ok nmX0 hown hK hZ (va_up_self _ _ _) rfl 4 (by decide) fl_31 (fun _ h9 => h9) rfl hname rfl (by decide +kernel) rfl rfl (Nat.le_of_ble_eq_true rfl) rfl dX0_init_31 (fun H locs hZ => ?_)
  rw [bx_uu] at hZ
  refine lv_aload_n hx hb dX0_init_34 rfl (lv_at hl 0 rfl) ?_
  refine lv_aload hx hb dX0_init_35 (lv_at hl 5 rfl) ?_
  refine z_get (ci := 2) (fs := [.ref b, .int ct, .int md, .int sc, .int rp]) (C := RX2) (T := TX2) (N := 5) hx hb hts in_X2 hown hK hZ ((va_up_ne _ _ (z_neOO hh ha (by decide))).trans hh) rfl 2 (by decide) fl_34 (fun _ h9 => h9) rfl dX0_init_37 ?_
  refine z_putF (ci := 0) (fs := [.int ho, .int le, .int dy, .ref lw, .int (if 1 < md + sc + rp then md + sc + rp else 1), .int 0, .int 0, .int 0, .int 0]) (fs' := [.int ho, .int le, .int dy, .ref lw, .int (if 1 < md + sc + rp then md + sc + rp else 1), .int md, .int 0, .int 0, .int 0]) (v := .int md) (ty := .int) (C := RX0) (T := TX0) (N := 9) hx hb hts in_X0 tyX0 tyX0_ok nmX0 hown hK hZ (va_up_self _ _ _) rfl 5 (by decide) fl_37 (fun _ h9 => h9) rfl hname rfl (by decide +kernel) rfl rfl (Nat.le_of_ble_eq_true rfl) rfl dX0_init_40 (fun H locs hZ => ?_)
  rw [bx_uu] at hZ
  refine lv_aload_n hx hb dX0_init_43 rfl (lv_at hl 0 rfl) ?_
  refine lv_aload hx hb dX0_init_44 (lv_at hl 5 rfl) ?_
  refine z_get (ci := 2) (fs := [.ref b, .int ct, .int md, .int sc, .int rp]) (C := RX2) (T := TX2) (N := 5) hx hb hts in_X2 hown hK hZ ((va_up_ne _ _ (z_neOO hh ha (by decide))).trans hh) rfl 3 (by decide) fl_38 (fun _ h9 => h9) rfl dX0_init_46 ?_
  refine z_putF (ci := 0) (fs := [.int ho, .int le, .int dy, .ref lw, .int (if 1 < md + sc + rp then md + sc + rp else 1), .int md, .int 0, .int 0, .int 0]) (fs' := [.int ho, .int le, .int dy, .ref lw, .int (if 1 < md + sc + rp then md + sc + rp else 1), .int md, .int sc, .int 0, .int 0]) (v := .int sc) (ty := .int) (C := RX0) (T := TX0) (N := 9) hx hb hts in_X0 tyX0 tyX0_ok nmX0 hown hK hZ (va_up_self _ _ _) rfl 6 (by decide) fl_41 (fun _ h9 => h9) rfl hname rfl (by decide +kernel) rfl rfl (Nat.le_of_ble_eq_true rfl) rfl dX0_init_49 (fun H locs hZ => ?_)
  rw [bx_uu] at hZ
  refine lv_aload_n hx hb dX0_init_52 rfl (lv_at hl 0 rfl) ?_
  refine lv_aload hx hb dX0_init_53 (lv_at hl 5 rfl) ?_
  refine z_get (ci := 2) (fs := [.ref b, .int ct, .int md, .int sc, .int rp]) (C := RX2) (T := TX2) (N := 5) hx hb hts in_X2 hown hK hZ ((va_up_ne _ _ (z_neOO hh ha (by decide))).trans hh) rfl 4 (by decide) fl_42 (fun _ h9 => h9) rfl dX0_init_55 ?_
  refine z_putF (ci := 0) (fs := [.int ho, .int le, .int dy, .ref lw, .int (if 1 < md + sc + rp then md + sc + rp else 1), .int md, .int sc, .int 0, .int 0]) (fs' := [.int ho, .int le, .int dy, .ref lw, .int (if 1 < md + sc + rp then md + sc + rp else 1), .int md, .int sc, .int rp, .int 0]) (v := .int rp) (ty := .int) (C := RX0) (T := TX0) (N := 9) hx hb hts in_X0 tyX0 tyX0_ok nmX0 hown hK hZ (va_up_self _ _ _) rfl 7 (by decide) fl_45 (fun _ h9 => h9) rfl hname rfl (by decide +kernel) rfl rfl (Nat.le_of_ble_eq_true rfl) rfl dX0_init_58 (fun H locs hZ => ?_)
  rw [bx_uu] at hZ
  refine lv_aload_n hx hb dX0_init_61 rfl (lv_at hl 0 rfl) ?_
  refine lv_iconst (v := 1) hx hb dX0_init_62 (by decide) ?_
  refine z_put (ci := 0) (fs := [.int ho, .int le, .int dy, .ref lw, .int (if 1 < md + sc + rp then md + sc + rp else 1), .int md, .int sc, .int rp, .int 0]) (fs' := [.int ho, .int le, .int dy, .ref lw, .int (if 1 < md + sc + rp then md + sc + rp else 1), .int md, .int sc, .int rp, .int 1]) (v := .int 1) (ty := .boolean) (C := RX0) (T := TX0) (N := 9) hx hb hts in_X0 tyX0 tyX0_ok nmX0 hown hK hZ (va_up_self _ _ _) rfl 8 (by decide) fl_46 (fun _ h9 => h9) rfl (by decide +kernel) (by decide) (by decide) (Nat.le_of_ble_eq_true rfl) rfl dX0_init_63 (fun H locs hZ => ?_)
  rw [bx_uu] at hZ
  exact z_vret hx hb hr hlocks hZ dX0_init_66 (⟨rfl, rfl⟩)

set_option maxHeartbeats 4000000 in
set_option maxRecDepth 100000 in
theorem c_X3_init (l : Launch) (D : va_G) (cT : Nat → ClassId) (G : zG) (sz : Nat) (a bd : Nat) (ar : Int32) (ha : G a = some (.inr (3, [.null, .int 0, .null, .int 0]))) : zM l D cT yX3_init wsX3_init (zR 2 2 306) [.ref a, .ref bd, .int ar] G sz (fun r G' => (∃ t q, t ≠ a ∧ q ≠ a ∧ q ≠ t ∧ G t = none ∧ G q = none ∧ G' = va_up (va_up (va_up G q (some (.inl (cT 0, 301, .inl (fun _ => 0))))) t (some (.inr (5, [.ref q, .int 0, .int 0, .int 0, .int 0])))) a (some (.inr (3, [.ref bd, .int ar, .ref t, .int 0])))) ∧ r = none) := by
  refine z_start (cc := cX3_init) (maxL := 3) (ret := none) (by decide) rfl (Nat.le_of_ble_eq_true rfl) ?_
  intro p e s m below meth c ls hI hZ hl
  obtain ⟨hx, hb, hr, hml, hts, hown, hlocks, hname, hK, hA, hE⟩ := hI
  have hl : lv_has ls 3 [(0, .ref a), (1, .ref bd), (2, .int ar)] := hl
  have hown : s.vm.findClass RX3 = some m.cls := hown
  have in_X3 : ∀ w ∈ u_ws RX3 TX3 4, w ∈ wsX3_init := by decide +kernel
  have in_X5 : ∀ w ∈ u_ws RX5 TX5 5, w ∈ wsX3_init := by decide +kernel
  have fl_7 := hts (.fieldLink RX3 7 "FairRents$Home" "body" "LFairRents$Plain;") (by decide +kernel)
  have fl_13 := hts (.fieldLink RX3 13 "FairRents$Home" "area" "I") (by decide +kernel)
  have fl_20 := hts (.fieldLink RX3 20 "FairRents$Home" "letting" "LFairRents$Letting;") (by decide +kernel)
  refine lv_aload_n hx hb dX3_init_0 rfl (lv_at hl 0 rfl) ?_
  refine W.objInit hx hb hown (hts (.methodLink RX3 1 objectInit) (by decide +kernel)) (hts (.instanceMethod objectInit) (by decide +kernel)) (hts _ (List.mem_of_getElem? (i := 3) rfl)) rfl (by rw [hml]; exact hl.1) rfl dX3_init_1 (Nat.le_of_ble_eq_true rfl) (Nat.le_of_ble_eq_true rfl) ?_
  refine W.eq (g2 := F0 m 4 ls []) rfl ?_
  refine lv_aload_n hx hb dX3_init_4 rfl (lv_at hl 0 rfl) ?_
  refine lv_aload_n hx hb dX3_init_5 rfl (lv_at hl 1 rfl) ?_
  refine z_putF (ci := 3) (fs := [.null, .int 0, .null, .int 0]) (fs' := [.ref bd, .int 0, .null, .int 0]) (v := .ref bd) (ty := .object "FairRents$Plain") (C := RX3) (T := TX3) (N := 4) hx hb hts in_X3 tyX3 tyX3_ok nmX3 hown hK hZ ha rfl 0 (by decide) fl_7 (fun _ h9 => h9) rfl hname rfl (by decide +kernel) rfl rfl (Nat.le_of_ble_eq_true rfl) rfl dX3_init_6 (fun H locs hZ => ?_)
  refine lv_aload_n hx hb dX3_init_9 rfl (lv_at hl 0 rfl) ?_
  refine lv_iload_n hx hb dX3_init_10 rfl (lv_at hl 2 rfl) ?_
  refine z_putF (ci := 3) (fs := [.ref bd, .int 0, .null, .int 0]) (fs' := [.ref bd, .int ar, .null, .int 0]) (v := .int ar) (ty := .int) (C := RX3) (T := TX3) (N := 4) hx hb hts in_X3 tyX3 tyX3_ok nmX3 hown hK hZ (va_up_self _ _ _) rfl 1 (by decide) fl_13 (fun _ h9 => h9) rfl hname rfl (by decide +kernel) rfl rfl (Nat.le_of_ble_eq_true rfl) rfl dX3_init_11 (fun H locs hZ => ?_)
  rw [bx_uu] at hZ
  refine lv_aload_n hx hb dX3_init_14 rfl (lv_at hl 0 rfl) ?_
  refine z_new (ci := 5) (fs := [.null, .int 0, .int 0, .int 0, .int 0]) (C := RX5) (T := TX5) (N := 5) hx hb hts in_X5 tyX5 tyX5_ok hown (hts (.classLink RX3 17 RX5) (by decide +kernel)) (hts (.instantiable RX5 5) (by decide +kernel)) (hts (.initialized RX5) (by decide +kernel)) hK hZ hA rfl (fun j hj => by rcases (show j = 0 ∨ j = 1 ∨ j = 2 ∨ j = 3 ∨ j = 4 by omega) with rfl | rfl | rfl | rfl | rfl <;> rfl) (Nat.le_of_ble_eq_true rfl) (Nat.le_of_ble_eq_true rfl) dX3_init_15 (fun t H hf_t hZ => ?_)
  have ne_a_t : a ≠ t := z_nef (va_up_self _ _ _) hf_t
  refine W.widen (k := 1) (n := 5) (by decide) (by decide) ?_
  refine lv_dup hx hb dX3_init_18 rfl ?_
  refine z_call (va_runIN (As := []) (rest := [.ref t, .ref a]) ⟨hx, hb, hml, hown, hts⟩ (c_X5_init l D cT _ _ t (va_up_self _ _ _)) ⟨va_cnB 0 hts gX3_init_X5_init_n19 rfl rfl rfl hE.1.2.1 (hts (.initialized RX5) (by decide +kernel)) (by decide +kernel) ⟨(Nat.le_of_ble_eq_true rfl), (Nat.le_of_ble_eq_true rfl)⟩, rfl, hts (.instanceMethod yX5_init) (by decide +kernel)⟩ (z_preS hK hE hZ hA) rfl rfl hl.1 rfl (lv_room (Nat.le_of_ble_eq_true rfl)) dX3_init_19 ⟨(Nat.le_of_ble_eq_true rfl), (Nat.le_of_ble_eq_true rfl)⟩) hZ hA (fun r G19 H locs hq hZ => ?_)
  obtain ⟨⟨q19, ne_q19, hf_q19, rfl⟩, rfl⟩ := hq
  have ne_a_q19 : a ≠ q19 := z_nef ((va_up_ne _ _ ne_a_t).trans (va_up_self _ _ _)) hf_q19
  have ne_t_q19 : t ≠ q19 := z_nef (va_up_self _ _ _) hf_q19
  refine W.eq (g2 := F0 m 22 ls [.ref t, .ref a]) rfl ?_
  refine W.widen (k := 2) (n := 306) (by decide) (by decide) ?_
  refine z_putF (ci := 3) (fs := [.ref bd, .int ar, .null, .int 0]) (fs' := [.ref bd, .int ar, .ref t, .int 0]) (v := .ref t) (ty := .object "FairRents$Letting") (C := RX3) (T := TX3) (N := 4) hx hb hts in_X3 tyX3 tyX3_ok nmX3 hown hK hZ ((va_up_ne _ _ ne_a_t).trans ((va_up_ne _ _ ne_a_q19).trans ((va_up_ne _ _ ne_a_t).trans (va_up_self _ _ _)))) rfl 2 (by decide) fl_20 (fun _ h9 => h9) rfl hname rfl (by decide +kernel) rfl rfl (Nat.le_of_ble_eq_true rfl) rfl dX3_init_22 (fun H locs hZ => ?_)
  exact z_vret hx hb hr hlocks hZ dX3_init_25 (⟨⟨t, q19, ne_a_t.symm, ne_a_q19.symm, ne_t_q19.symm, z_upn ne_a_t.symm hf_t, z_upn ne_a_q19.symm (z_upn ne_t_q19.symm hf_q19), z_up5⟩, rfl⟩)

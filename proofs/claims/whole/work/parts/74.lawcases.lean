/-! THE LAW, CASE BY CASE -/
set_option maxHeartbeats 4000000 in
set_option maxRecDepth 100000 in
theorem lw_c_home {p : Program} {l : Launch} {e : Env} {s : State} {m : MethodId} {below : List Frame} {meth : Method} {c : Code} {D : va_G} {cT : Nat → ClassId} {b L : Nat} {xs : Nat → Int32} (hL : L ≤ 4608) (C0 : lw_At p s m meth c b L xs) (hK : va_K D vwCl (zT cT) s) (hE : zE (fun q => s.heap.size ≤ q) s) {k : Nat} (hk : 9 * k + 9 ≤ L) {S : zS} {a1 : Nat} {Y : Nat → Nat} {G1 G2 : zG} {H : Heap} {locs : List Loc} {ls : Array Slot} (hS : ok S k) (J : lwJ D cT s S a1 Y G1 G2 H locs) (hl : lv_has ls 4 [(0, .ref b), (1, .ref a1), (2, .ref (Y 0)), (3, .int (nI (9 * k)))])
    (nx : ∀ (S' : zS) (G1' G2' : zG) (H' : Heap) (locs' : List Loc), ok S' (k + 1) → lwJ D cT s S' a1 Y G1' G2' H' locs' → W p l e room_1 s m #[Value.ref b] below meth c H' locs' (35 + 4 * (k + 1)) (3700 + 312 * (k + 1)) (lw_Z below #[Value.ref b] s) (F0 m 795 ls [])) : W p l e room_1 s m #[Value.ref b] below meth c H locs (35 + 4 * k) (3700 + 312 * k) (lw_Z below #[Value.ref b] s) (F0 m 128 ls []) := by
  obtain ⟨hx, hb, hr, hml, hown, hts, hX, hbl, hlocks, hgv⟩ := C0
  have hts := fun w h => hts w (wsL_law_in w h)
  have hown : s.vm.findClass RL = some m.cls := hown
  have hA : ∀ q, s.heap.size ≤ q → (fun q => s.heap.size ≤ q) q := fun _ h => h
  have hbA : ¬ (fun q => s.heap.size ≤ q) b := Nat.not_le.mpr hbl
  obtain ⟨⟨X, rfl, ct, md, sc, rp, fo, fd, hF⟩, ⟨cz, f27, f29, hM⟩, hXI, hZ1, hZ2, hD⟩ := J
  have n1 : k + 1 < 1000000 := by omega
  obtain ⟨x1, e1⟩ : ∃ x, xs (nI (9 * k) + 1).toNatClampNeg = x := ⟨_, rfl⟩
  have i1 : vp_in (nI (9 * k) + 1) L := sc_in (j := 1) (by decide) (by omega) hL
  obtain ⟨x2, e2⟩ : ∃ x, xs (nI (9 * k) + 2).toNatClampNeg = x := ⟨_, rfl⟩
  have i2 : vp_in (nI (9 * k) + 2) L := sc_in (j := 2) (by decide) (by omega) hL
  obtain ⟨x3, e3⟩ : ∃ x, xs (nI (9 * k) + 3).toNatClampNeg = x := ⟨_, rfl⟩
  have i3 : vp_in (nI (9 * k) + 3) L := sc_in (j := 3) (by decide) (by omega) hL
  obtain ⟨x4, e4⟩ : ∃ x, xs (nI (9 * k) + 4).toNatClampNeg = x := ⟨_, rfl⟩
  have i4 : vp_in (nI (9 * k) + 4) L := sc_in (j := 4) (by decide) (by omega) hL
  refine lv_aload_n hx hb dL_law_128 rfl (lv_at hl 1 rfl) ?_
  refine lv_aload_n hx hb dL_law_129 rfl (lv_at hl 0 rfl) ?_
  refine lv_iload_n hx hb dL_law_130 rfl (lv_at hl 3 rfl) ?_
  refine lv_iconst (v := 1) hx hb dL_law_131 (by decide) ?_
  refine lv_iadd hx hb dL_law_132 ?_
  refine z_sld hx hb hX hbl hbA hZ1.2.2 i1 e1 dL_law_133 ?_
  refine lv_aload_n hx hb dL_law_134 rfl (lv_at hl 0 rfl) ?_
  refine lv_iload_n hx hb dL_law_135 rfl (lv_at hl 3 rfl) ?_
  refine lv_iconst (v := 2) hx hb dL_law_136 (by decide) ?_
  refine lv_iadd hx hb dL_law_137 ?_
  refine z_sld hx hb hX hbl hbA hZ1.2.2 i2 e2 dL_law_138 ?_
  refine lv_aload_n hx hb dL_law_139 rfl (lv_at hl 0 rfl) ?_
  refine lv_iload_n hx hb dL_law_140 rfl (lv_at hl 3 rfl) ?_
  refine lv_iconst (v := 3) hx hb dL_law_141 (by decide) ?_
  refine lv_iadd hx hb dL_law_142 ?_
  refine z_sld hx hb hX hbl hbA hZ1.2.2 i3 e3 dL_law_143 ?_
  refine lv_aload_n hx hb dL_law_144 rfl (lv_at hl 0 rfl) ?_
  refine lv_iload_n hx hb dL_law_145 rfl (lv_at hl 3 rfl) ?_
  refine lv_iconst (v := 4) hx hb dL_law_146 (by decide) ?_
  refine lv_iadd hx hb dL_law_147 ?_
  refine z_sld hx hb hX hbl hbA hZ1.2.2 i4 e4 dL_law_148 ?_
  refine z_call2 (va_runV (As := [.int x1, .int x2, .int x3, .int x4]) (rest := []) ⟨hx, hb, hml, hown, hts⟩ (c_X9_home l D cT _ _ S X _ _ _ _ _ _ k x1 x2 x3 x4 hF hS) (cwV 4 hts gL_law_X9_home rfl rfl rfl (by decide +kernel) ⟨(Nat.le_of_ble_eq_true rfl), (Nat.le_of_ble_eq_true rfl)⟩) (z_preV hK hE hZ1 hA (ci := 9) rfl (f00 hF)) rfl rfl hl.1 rfl (lv_room (Nat.le_of_ble_eq_true rfl)) dL_law_149 ⟨(by show 35 + 4 * k + 4 ≤ 600000; omega), (by show 3700 + 312 * k + 312 ≤ 7302250; omega)⟩) hZ1 hA hZ2 hD (fun r G1' H locs hq hZ1 hZ2 hD => ?_)
  obtain ⟨hF1, rfl⟩ := hq
  refine W.eq (g2 := F0 m 152 ls [.int (sp_home S x1 x2 x3 x4).1]) rfl ?_
  refine lv_aload_n hx hb dL_law_152 rfl (lv_at hl 2 rfl) ?_
  refine lv_aload_n hx hb dL_law_153 rfl (lv_at hl 0 rfl) ?_
  refine lv_iload_n hx hb dL_law_154 rfl (lv_at hl 3 rfl) ?_
  refine lv_iconst (v := 1) hx hb dL_law_155 (by decide) ?_
  refine lv_iadd hx hb dL_law_156 ?_
  refine z_sld hx hb hX hbl hbA hZ1.2.2 i1 e1 dL_law_157 ?_
  refine lv_aload_n hx hb dL_law_158 rfl (lv_at hl 0 rfl) ?_
  refine lv_iload_n hx hb dL_law_159 rfl (lv_at hl 3 rfl) ?_
  refine lv_iconst (v := 2) hx hb dL_law_160 (by decide) ?_
  refine lv_iadd hx hb dL_law_161 ?_
  refine z_sld hx hb hX hbl hbA hZ1.2.2 i2 e2 dL_law_162 ?_
  refine lv_aload_n hx hb dL_law_163 rfl (lv_at hl 0 rfl) ?_
  refine lv_iload_n hx hb dL_law_164 rfl (lv_at hl 3 rfl) ?_
  refine lv_iconst (v := 3) hx hb dL_law_165 (by decide) ?_
  refine lv_iadd hx hb dL_law_166 ?_
  refine z_sld hx hb hX hbl hbA hZ1.2.2 i3 e3 dL_law_167 ?_
  refine lv_aload_n hx hb dL_law_168 rfl (lv_at hl 0 rfl) ?_
  refine lv_iload_n hx hb dL_law_169 rfl (lv_at hl 3 rfl) ?_
  refine lv_iconst (v := 4) hx hb dL_law_170 (by decide) ?_
  refine lv_iadd hx hb dL_law_171 ?_
  refine z_sld hx hb hX hbl hbA hZ1.2.2 i4 e4 dL_law_172 ?_
  refine z_call2 (va_runV (As := [.int x1, .int x2, .int x3, .int x4]) (rest := [.int (sp_home S x1 x2 x3 x4).1]) ⟨hx, hb, hml, hown, hts⟩ (c_X10_home l D cT _ _ S Y _ _ _ k x1 x2 x3 x4 hM hXI hS) (cwV 4 hts gL_law_X10_home rfl rfl rfl (by decide +kernel) ⟨(Nat.le_of_ble_eq_true rfl), (Nat.le_of_ble_eq_true rfl)⟩) (z_preV hK hE hZ2 hA (ci := 10) rfl hM.1) rfl rfl hl.1 rfl (lv_room (Nat.le_of_ble_eq_true rfl)) dL_law_173 ⟨(by show 35 + 4 * k + 4 + 0 ≤ 600000; omega), (by show 3700 + 312 * k + 312 + 0 ≤ 7302250; omega)⟩) hZ2 hA hZ1 hD.sym (fun r G2' H locs hq hZ2 hZ1 hD => ?_)
  obtain ⟨hM1, rfl⟩ := hq
  refine W.eq (g2 := F0 m 176 ls [.int (sp_home S x1 x2 x3 x4).1, .int (sp_home S x1 x2 x3 x4).1]) rfl ?_
  exact lv_icmp_eq (tgt := 795) hx hb dL_law_176 (by decide) (fun _ => W.widen (k := 35 + 4 * (k + 1)) (n := 3700 + 312 * (k + 1)) (by show 35 + 4 * k + 4 + 0 ≤ 35 + 4 * (k + 1); omega) (by show 3700 + 312 * k + 312 + 0 ≤ 3700 + 312 * (k + 1); omega) (nx ((sp_home S x1 x2 x3 x4).2) _ _ _ _ (on_home hS n1 x1 x2 x3 x4) ⟨hF1, hM1, hXI, hZ1, hZ2, hD.sym⟩)) (fun h => absurd rfl h)
set_option maxHeartbeats 4000000 in
set_option maxRecDepth 100000 in
theorem lw_c_faults {p : Program} {l : Launch} {e : Env} {s : State} {m : MethodId} {below : List Frame} {meth : Method} {c : Code} {D : va_G} {cT : Nat → ClassId} {b L : Nat} {xs : Nat → Int32} (hL : L ≤ 4608) (C0 : lw_At p s m meth c b L xs) (hK : va_K D vwCl (zT cT) s) (hE : zE (fun q => s.heap.size ≤ q) s) {k : Nat} (hk : 9 * k + 9 ≤ L) {S : zS} {a1 : Nat} {Y : Nat → Nat} {G1 G2 : zG} {H : Heap} {locs : List Loc} {ls : Array Slot} (hS : ok S k) (J : lwJ D cT s S a1 Y G1 G2 H locs) (hl : lv_has ls 4 [(0, .ref b), (1, .ref a1), (2, .ref (Y 0)), (3, .int (nI (9 * k)))])
    (nx : ∀ (S' : zS) (G1' G2' : zG) (H' : Heap) (locs' : List Loc), ok S' (k + 1) → lwJ D cT s S' a1 Y G1' G2' H' locs' → W p l e room_1 s m #[Value.ref b] below meth c H' locs' (35 + 4 * (k + 1)) (3700 + 312 * (k + 1)) (lw_Z below #[Value.ref b] s) (F0 m 795 ls [])) : W p l e room_1 s m #[Value.ref b] below meth c H locs (35 + 4 * k) (3700 + 312 * k) (lw_Z below #[Value.ref b] s) (F0 m 181 ls []) := by
  obtain ⟨hx, hb, hr, hml, hown, hts, hX, hbl, hlocks, hgv⟩ := C0
  have hts := fun w h => hts w (wsL_law_in w h)
  have hown : s.vm.findClass RL = some m.cls := hown
  have hA : ∀ q, s.heap.size ≤ q → (fun q => s.heap.size ≤ q) q := fun _ h => h
  have hbA : ¬ (fun q => s.heap.size ≤ q) b := Nat.not_le.mpr hbl
  obtain ⟨⟨X, rfl, ct, md, sc, rp, fo, fd, hF⟩, ⟨cz, f27, f29, hM⟩, hXI, hZ1, hZ2, hD⟩ := J
  have n1 : k + 1 < 1000000 := by omega
  obtain ⟨x1, e1⟩ : ∃ x, xs (nI (9 * k) + 1).toNatClampNeg = x := ⟨_, rfl⟩
  have i1 : vp_in (nI (9 * k) + 1) L := sc_in (j := 1) (by decide) (by omega) hL
  obtain ⟨x2, e2⟩ : ∃ x, xs (nI (9 * k) + 2).toNatClampNeg = x := ⟨_, rfl⟩
  have i2 : vp_in (nI (9 * k) + 2) L := sc_in (j := 2) (by decide) (by omega) hL
  refine lv_aload_n hx hb dL_law_181 rfl (lv_at hl 1 rfl) ?_
  refine lv_aload_n hx hb dL_law_182 rfl (lv_at hl 0 rfl) ?_
  refine lv_iload_n hx hb dL_law_183 rfl (lv_at hl 3 rfl) ?_
  refine lv_iconst (v := 1) hx hb dL_law_184 (by decide) ?_
  refine lv_iadd hx hb dL_law_185 ?_
  refine z_sld hx hb hX hbl hbA hZ1.2.2 i1 e1 dL_law_186 ?_
  refine lv_aload_n hx hb dL_law_187 rfl (lv_at hl 0 rfl) ?_
  refine lv_iload_n hx hb dL_law_188 rfl (lv_at hl 3 rfl) ?_
  refine lv_iconst (v := 2) hx hb dL_law_189 (by decide) ?_
  refine lv_iadd hx hb dL_law_190 ?_
  refine z_sld hx hb hX hbl hbA hZ1.2.2 i2 e2 dL_law_191 ?_
  refine z_call2 (va_runV (As := [.int x1, .int x2]) (rest := []) ⟨hx, hb, hml, hown, hts⟩ (c_X9_faults l D cT _ _ S X _ _ _ _ _ _ k x1 x2 hF hS) (cwV 2 hts gL_law_X9_faults rfl rfl rfl (by decide +kernel) ⟨(Nat.le_of_ble_eq_true rfl), (Nat.le_of_ble_eq_true rfl)⟩) (z_preV hK hE hZ1 hA (ci := 9) rfl (f00 hF)) rfl rfl hl.1 rfl (lv_room (Nat.le_of_ble_eq_true rfl)) dL_law_192 ⟨(by show 35 + 4 * k + 0 ≤ 600000; omega), (by show 3700 + 312 * k + 0 ≤ 7302250; omega)⟩) hZ1 hA hZ2 hD (fun r G1' H locs hq hZ1 hZ2 hD => ?_)
  obtain ⟨hF1, rfl⟩ := hq
  refine W.eq (g2 := F0 m 195 ls [.int (sp_faults S x1 x2).1]) rfl ?_
  refine lv_aload_n hx hb dL_law_195 rfl (lv_at hl 2 rfl) ?_
  refine lv_aload_n hx hb dL_law_196 rfl (lv_at hl 0 rfl) ?_
  refine lv_iload_n hx hb dL_law_197 rfl (lv_at hl 3 rfl) ?_
  refine lv_iconst (v := 1) hx hb dL_law_198 (by decide) ?_
  refine lv_iadd hx hb dL_law_199 ?_
  refine z_sld hx hb hX hbl hbA hZ1.2.2 i1 e1 dL_law_200 ?_
  refine lv_aload_n hx hb dL_law_201 rfl (lv_at hl 0 rfl) ?_
  refine lv_iload_n hx hb dL_law_202 rfl (lv_at hl 3 rfl) ?_
  refine lv_iconst (v := 2) hx hb dL_law_203 (by decide) ?_
  refine lv_iadd hx hb dL_law_204 ?_
  refine z_sld hx hb hX hbl hbA hZ1.2.2 i2 e2 dL_law_205 ?_
  refine z_call2 (va_runV (As := [.int x1, .int x2]) (rest := [.int (sp_faults S x1 x2).1]) ⟨hx, hb, hml, hown, hts⟩ (c_X10_faults l D cT _ _ S Y _ _ _ k x1 x2 hM hXI hS) (cwV 2 hts gL_law_X10_faults rfl rfl rfl (by decide +kernel) ⟨(Nat.le_of_ble_eq_true rfl), (Nat.le_of_ble_eq_true rfl)⟩) (z_preV hK hE hZ2 hA (ci := 10) rfl hM.1) rfl rfl hl.1 rfl (lv_room (Nat.le_of_ble_eq_true rfl)) dL_law_206 ⟨(by show 35 + 4 * k + 0 + 0 ≤ 600000; omega), (by show 3700 + 312 * k + 0 + 0 ≤ 7302250; omega)⟩) hZ2 hA hZ1 hD.sym (fun r G2' H locs hq hZ2 hZ1 hD => ?_)
  obtain ⟨hM1, rfl⟩ := hq
  refine W.eq (g2 := F0 m 209 ls [.int (sp_faults S x1 x2).1, .int (sp_faults S x1 x2).1]) rfl ?_
  exact lv_icmp_eq (tgt := 795) hx hb dL_law_209 (by decide) (fun _ => W.widen (k := 35 + 4 * (k + 1)) (n := 3700 + 312 * (k + 1)) (by show 35 + 4 * k + 0 + 0 ≤ 35 + 4 * (k + 1); omega) (by show 3700 + 312 * k + 0 + 0 ≤ 3700 + 312 * (k + 1); omega) (nx ((sp_faults S x1 x2).2) _ _ _ _ (on_faults hS n1 x1 x2) ⟨hF1, hM1, hXI, hZ1, hZ2, hD.sym⟩)) (fun h => absurd rfl h)
set_option maxHeartbeats 4000000 in
set_option maxRecDepth 100000 in
theorem lw_c_points {p : Program} {l : Launch} {e : Env} {s : State} {m : MethodId} {below : List Frame} {meth : Method} {c : Code} {D : va_G} {cT : Nat → ClassId} {b L : Nat} {xs : Nat → Int32} (hL : L ≤ 4608) (C0 : lw_At p s m meth c b L xs) (hK : va_K D vwCl (zT cT) s) (hE : zE (fun q => s.heap.size ≤ q) s) {k : Nat} (hk : 9 * k + 9 ≤ L) {S : zS} {a1 : Nat} {Y : Nat → Nat} {G1 G2 : zG} {H : Heap} {locs : List Loc} {ls : Array Slot} (hS : ok S k) (J : lwJ D cT s S a1 Y G1 G2 H locs) (hl : lv_has ls 4 [(0, .ref b), (1, .ref a1), (2, .ref (Y 0)), (3, .int (nI (9 * k)))])
    (nx : ∀ (S' : zS) (G1' G2' : zG) (H' : Heap) (locs' : List Loc), ok S' (k + 1) → lwJ D cT s S' a1 Y G1' G2' H' locs' → W p l e room_1 s m #[Value.ref b] below meth c H' locs' (35 + 4 * (k + 1)) (3700 + 312 * (k + 1)) (lw_Z below #[Value.ref b] s) (F0 m 795 ls [])) : W p l e room_1 s m #[Value.ref b] below meth c H locs (35 + 4 * k) (3700 + 312 * k) (lw_Z below #[Value.ref b] s) (F0 m 214 ls []) := by
  obtain ⟨hx, hb, hr, hml, hown, hts, hX, hbl, hlocks, hgv⟩ := C0
  have hts := fun w h => hts w (wsL_law_in w h)
  have hown : s.vm.findClass RL = some m.cls := hown
  have hA : ∀ q, s.heap.size ≤ q → (fun q => s.heap.size ≤ q) q := fun _ h => h
  have hbA : ¬ (fun q => s.heap.size ≤ q) b := Nat.not_le.mpr hbl
  obtain ⟨⟨X, rfl, ct, md, sc, rp, fo, fd, hF⟩, ⟨cz, f27, f29, hM⟩, hXI, hZ1, hZ2, hD⟩ := J
  have n1 : k + 1 < 1000000 := by omega
  obtain ⟨x1, e1⟩ : ∃ x, xs (nI (9 * k) + 1).toNatClampNeg = x := ⟨_, rfl⟩
  have i1 : vp_in (nI (9 * k) + 1) L := sc_in (j := 1) (by decide) (by omega) hL
  refine lv_aload_n hx hb dL_law_214 rfl (lv_at hl 1 rfl) ?_
  refine lv_aload_n hx hb dL_law_215 rfl (lv_at hl 0 rfl) ?_
  refine lv_iload_n hx hb dL_law_216 rfl (lv_at hl 3 rfl) ?_
  refine lv_iconst (v := 1) hx hb dL_law_217 (by decide) ?_
  refine lv_iadd hx hb dL_law_218 ?_
  refine z_sld hx hb hX hbl hbA hZ1.2.2 i1 e1 dL_law_219 ?_
  refine z_call2 (va_runV (As := [.int x1]) (rest := []) ⟨hx, hb, hml, hown, hts⟩ (c_X9_points l D cT _ _ S X _ _ _ _ _ _ k x1 hF hS) (cwV 1 hts gL_law_X9_points rfl rfl rfl (by decide +kernel) ⟨(Nat.le_of_ble_eq_true rfl), (Nat.le_of_ble_eq_true rfl)⟩) (z_preV hK hE hZ1 hA (ci := 9) rfl (f00 hF)) rfl rfl hl.1 rfl (lv_room (Nat.le_of_ble_eq_true rfl)) dL_law_220 ⟨(by show 35 + 4 * k + 0 ≤ 600000; omega), (by show 3700 + 312 * k + 0 ≤ 7302250; omega)⟩) hZ1 hA hZ2 hD (fun r G1' H locs hq hZ1 hZ2 hD => ?_)
  obtain ⟨hF1, rfl⟩ := hq
  refine W.eq (g2 := F0 m 223 ls [.int (sp_points S x1).1]) rfl ?_
  refine lv_aload_n hx hb dL_law_223 rfl (lv_at hl 2 rfl) ?_
  refine lv_aload_n hx hb dL_law_224 rfl (lv_at hl 0 rfl) ?_
  refine lv_iload_n hx hb dL_law_225 rfl (lv_at hl 3 rfl) ?_
  refine lv_iconst (v := 1) hx hb dL_law_226 (by decide) ?_
  refine lv_iadd hx hb dL_law_227 ?_
  refine z_sld hx hb hX hbl hbA hZ1.2.2 i1 e1 dL_law_228 ?_
  refine z_call2 (va_runV (As := [.int x1]) (rest := [.int (sp_points S x1).1]) ⟨hx, hb, hml, hown, hts⟩ (c_X10_points l D cT _ _ S Y _ _ _ k x1 hM hXI hS) (cwV 1 hts gL_law_X10_points rfl rfl rfl (by decide +kernel) ⟨(Nat.le_of_ble_eq_true rfl), (Nat.le_of_ble_eq_true rfl)⟩) (z_preV hK hE hZ2 hA (ci := 10) rfl hM.1) rfl rfl hl.1 rfl (lv_room (Nat.le_of_ble_eq_true rfl)) dL_law_229 ⟨(by show 35 + 4 * k + 0 + 0 ≤ 600000; omega), (by show 3700 + 312 * k + 0 + 0 ≤ 7302250; omega)⟩) hZ2 hA hZ1 hD.sym (fun r G2' H locs hq hZ2 hZ1 hD => ?_)
  obtain ⟨hM1, rfl⟩ := hq
  refine W.eq (g2 := F0 m 232 ls [.int (sp_points S x1).1, .int (sp_points S x1).1]) rfl ?_
  exact lv_icmp_eq (tgt := 795) hx hb dL_law_232 (by decide) (fun _ => W.widen (k := 35 + 4 * (k + 1)) (n := 3700 + 312 * (k + 1)) (by show 35 + 4 * k + 0 + 0 ≤ 35 + 4 * (k + 1); omega) (by show 3700 + 312 * k + 0 + 0 ≤ 3700 + 312 * (k + 1); omega) (nx ((sp_points S x1).2) _ _ _ _ (on_points hS n1 x1) ⟨hF1, hM1, hXI, hZ1, hZ2, hD.sym⟩)) (fun h => absurd rfl h)
set_option maxHeartbeats 4000000 in
set_option maxRecDepth 100000 in
theorem lw_c_law {p : Program} {l : Launch} {e : Env} {s : State} {m : MethodId} {below : List Frame} {meth : Method} {c : Code} {D : va_G} {cT : Nat → ClassId} {b L : Nat} {xs : Nat → Int32} (hL : L ≤ 4608) (C0 : lw_At p s m meth c b L xs) (hK : va_K D vwCl (zT cT) s) (hE : zE (fun q => s.heap.size ≤ q) s) {k : Nat} (hk : 9 * k + 9 ≤ L) {S : zS} {a1 : Nat} {Y : Nat → Nat} {G1 G2 : zG} {H : Heap} {locs : List Loc} {ls : Array Slot} (hS : ok S k) (J : lwJ D cT s S a1 Y G1 G2 H locs) (hl : lv_has ls 4 [(0, .ref b), (1, .ref a1), (2, .ref (Y 0)), (3, .int (nI (9 * k)))])
    (nx : ∀ (S' : zS) (G1' G2' : zG) (H' : Heap) (locs' : List Loc), ok S' (k + 1) → lwJ D cT s S' a1 Y G1' G2' H' locs' → W p l e room_1 s m #[Value.ref b] below meth c H' locs' (35 + 4 * (k + 1)) (3700 + 312 * (k + 1)) (lw_Z below #[Value.ref b] s) (F0 m 795 ls [])) : W p l e room_1 s m #[Value.ref b] below meth c H locs (35 + 4 * k) (3700 + 312 * k) (lw_Z below #[Value.ref b] s) (F0 m 237 ls []) := by
  obtain ⟨hx, hb, hr, hml, hown, hts, hX, hbl, hlocks, hgv⟩ := C0
  have hts := fun w h => hts w (wsL_law_in w h)
  have hown : s.vm.findClass RL = some m.cls := hown
  have hA : ∀ q, s.heap.size ≤ q → (fun q => s.heap.size ≤ q) q := fun _ h => h
  have hbA : ¬ (fun q => s.heap.size ≤ q) b := Nat.not_le.mpr hbl
  obtain ⟨⟨X, rfl, ct, md, sc, rp, fo, fd, hF⟩, ⟨cz, f27, f29, hM⟩, hXI, hZ1, hZ2, hD⟩ := J
  have n1 : k + 1 < 1000000 := by omega
  obtain ⟨x1, e1⟩ : ∃ x, xs (nI (9 * k) + 1).toNatClampNeg = x := ⟨_, rfl⟩
  have i1 : vp_in (nI (9 * k) + 1) L := sc_in (j := 1) (by decide) (by omega) hL
  obtain ⟨x2, e2⟩ : ∃ x, xs (nI (9 * k) + 2).toNatClampNeg = x := ⟨_, rfl⟩
  have i2 : vp_in (nI (9 * k) + 2) L := sc_in (j := 2) (by decide) (by omega) hL
  obtain ⟨x3, e3⟩ : ∃ x, xs (nI (9 * k) + 3).toNatClampNeg = x := ⟨_, rfl⟩
  have i3 : vp_in (nI (9 * k) + 3) L := sc_in (j := 3) (by decide) (by omega) hL
  obtain ⟨x4, e4⟩ : ∃ x, xs (nI (9 * k) + 4).toNatClampNeg = x := ⟨_, rfl⟩
  have i4 : vp_in (nI (9 * k) + 4) L := sc_in (j := 4) (by decide) (by omega) hL
  obtain ⟨x5, e5⟩ : ∃ x, xs (nI (9 * k) + 5).toNatClampNeg = x := ⟨_, rfl⟩
  have i5 : vp_in (nI (9 * k) + 5) L := sc_in (j := 5) (by decide) (by omega) hL
  obtain ⟨x6, e6⟩ : ∃ x, xs (nI (9 * k) + 6).toNatClampNeg = x := ⟨_, rfl⟩
  have i6 : vp_in (nI (9 * k) + 6) L := sc_in (j := 6) (by decide) (by omega) hL
  obtain ⟨x7, e7⟩ : ∃ x, xs (nI (9 * k) + 7).toNatClampNeg = x := ⟨_, rfl⟩
  have i7 : vp_in (nI (9 * k) + 7) L := sc_in (j := 7) (by decide) (by omega) hL
  obtain ⟨x8, e8⟩ : ∃ x, xs (nI (9 * k) + 8).toNatClampNeg = x := ⟨_, rfl⟩
  have i8 : vp_in (nI (9 * k) + 8) L := sc_in (j := 8) (by decide) (by omega) hL
  refine lv_aload_n hx hb dL_law_237 rfl (lv_at hl 1 rfl) ?_
  refine lv_aload_n hx hb dL_law_238 rfl (lv_at hl 0 rfl) ?_
  refine lv_iload_n hx hb dL_law_239 rfl (lv_at hl 3 rfl) ?_
  refine lv_iconst (v := 1) hx hb dL_law_240 (by decide) ?_
  refine lv_iadd hx hb dL_law_241 ?_
  refine z_sld hx hb hX hbl hbA hZ1.2.2 i1 e1 dL_law_242 ?_
  refine lv_aload_n hx hb dL_law_243 rfl (lv_at hl 0 rfl) ?_
  refine lv_iload_n hx hb dL_law_244 rfl (lv_at hl 3 rfl) ?_
  refine lv_iconst (v := 2) hx hb dL_law_245 (by decide) ?_
  refine lv_iadd hx hb dL_law_246 ?_
  refine z_sld hx hb hX hbl hbA hZ1.2.2 i2 e2 dL_law_247 ?_
  refine lv_aload_n hx hb dL_law_248 rfl (lv_at hl 0 rfl) ?_
  refine lv_iload_n hx hb dL_law_249 rfl (lv_at hl 3 rfl) ?_
  refine lv_iconst (v := 3) hx hb dL_law_250 (by decide) ?_
  refine lv_iadd hx hb dL_law_251 ?_
  refine z_sld hx hb hX hbl hbA hZ1.2.2 i3 e3 dL_law_252 ?_
  refine lv_aload_n hx hb dL_law_253 rfl (lv_at hl 0 rfl) ?_
  refine lv_iload_n hx hb dL_law_254 rfl (lv_at hl 3 rfl) ?_
  refine lv_iconst (v := 4) hx hb dL_law_255 (by decide) ?_
  refine lv_iadd hx hb dL_law_256 ?_
  refine z_sld hx hb hX hbl hbA hZ1.2.2 i4 e4 dL_law_257 ?_
  refine lv_aload_n hx hb dL_law_258 rfl (lv_at hl 0 rfl) ?_
  refine lv_iload_n hx hb dL_law_259 rfl (lv_at hl 3 rfl) ?_
  refine lv_iconst (v := 5) hx hb dL_law_260 (by decide) ?_
  refine lv_iadd hx hb dL_law_261 ?_
  refine z_sld hx hb hX hbl hbA hZ1.2.2 i5 e5 dL_law_262 ?_
  refine lv_aload_n hx hb dL_law_263 rfl (lv_at hl 0 rfl) ?_
  refine lv_iload_n hx hb dL_law_264 rfl (lv_at hl 3 rfl) ?_
  refine lv_bipush (v := 6) hx hb dL_law_265 (by decide) ?_
  refine lv_iadd hx hb dL_law_267 ?_
  refine z_sld hx hb hX hbl hbA hZ1.2.2 i6 e6 dL_law_268 ?_
  refine lv_aload_n hx hb dL_law_269 rfl (lv_at hl 0 rfl) ?_
  refine lv_iload_n hx hb dL_law_270 rfl (lv_at hl 3 rfl) ?_
  refine lv_bipush (v := 7) hx hb dL_law_271 (by decide) ?_
  refine lv_iadd hx hb dL_law_273 ?_
  refine z_sld hx hb hX hbl hbA hZ1.2.2 i7 e7 dL_law_274 ?_
  refine lv_aload_n hx hb dL_law_275 rfl (lv_at hl 0 rfl) ?_
  refine lv_iload_n hx hb dL_law_276 rfl (lv_at hl 3 rfl) ?_
  refine lv_bipush (v := 8) hx hb dL_law_277 (by decide) ?_
  refine lv_iadd hx hb dL_law_279 ?_
  refine z_sld hx hb hX hbl hbA hZ1.2.2 i8 e8 dL_law_280 ?_
  refine z_call2 (va_runV (As := [.int x1, .int x2, .int x3, .int x4, .int x5, .int x6, .int x7, .int x8]) (rest := []) ⟨hx, hb, hml, hown, hts⟩ (c_X9_law l D cT _ _ S X _ _ _ _ _ _ k x1 x2 x3 x4 x5 x6 x7 x8 hF hS) (cwV 8 hts gL_law_X9_law rfl rfl rfl (by decide +kernel) ⟨(Nat.le_of_ble_eq_true rfl), (Nat.le_of_ble_eq_true rfl)⟩) (z_preV hK hE hZ1 hA (ci := 9) rfl (f00 hF)) rfl rfl hl.1 rfl (lv_room (Nat.le_of_ble_eq_true rfl)) dL_law_281 ⟨(by show 35 + 4 * k + 2 ≤ 600000; omega), (by show 3700 + 312 * k + 9 ≤ 7302250; omega)⟩) hZ1 hA hZ2 hD (fun r G1' H locs hq hZ1 hZ2 hD => ?_)
  obtain ⟨hF1, rfl⟩ := hq
  refine W.eq (g2 := F0 m 284 ls [.int (sp_law S x1 x2 x3 x4 x5 x6 x7 x8).1]) rfl ?_
  refine lv_aload_n hx hb dL_law_284 rfl (lv_at hl 2 rfl) ?_
  refine lv_aload_n hx hb dL_law_285 rfl (lv_at hl 0 rfl) ?_
  refine lv_iload_n hx hb dL_law_286 rfl (lv_at hl 3 rfl) ?_
  refine lv_iconst (v := 1) hx hb dL_law_287 (by decide) ?_
  refine lv_iadd hx hb dL_law_288 ?_
  refine z_sld hx hb hX hbl hbA hZ1.2.2 i1 e1 dL_law_289 ?_
  refine lv_aload_n hx hb dL_law_290 rfl (lv_at hl 0 rfl) ?_
  refine lv_iload_n hx hb dL_law_291 rfl (lv_at hl 3 rfl) ?_
  refine lv_iconst (v := 2) hx hb dL_law_292 (by decide) ?_
  refine lv_iadd hx hb dL_law_293 ?_
  refine z_sld hx hb hX hbl hbA hZ1.2.2 i2 e2 dL_law_294 ?_
  refine lv_aload_n hx hb dL_law_295 rfl (lv_at hl 0 rfl) ?_
  refine lv_iload_n hx hb dL_law_296 rfl (lv_at hl 3 rfl) ?_
  refine lv_iconst (v := 3) hx hb dL_law_297 (by decide) ?_
  refine lv_iadd hx hb dL_law_298 ?_
  refine z_sld hx hb hX hbl hbA hZ1.2.2 i3 e3 dL_law_299 ?_
  refine lv_aload_n hx hb dL_law_300 rfl (lv_at hl 0 rfl) ?_
  refine lv_iload_n hx hb dL_law_301 rfl (lv_at hl 3 rfl) ?_
  refine lv_iconst (v := 4) hx hb dL_law_302 (by decide) ?_
  refine lv_iadd hx hb dL_law_303 ?_
  refine z_sld hx hb hX hbl hbA hZ1.2.2 i4 e4 dL_law_304 ?_
  refine lv_aload_n hx hb dL_law_305 rfl (lv_at hl 0 rfl) ?_
  refine lv_iload_n hx hb dL_law_306 rfl (lv_at hl 3 rfl) ?_
  refine lv_iconst (v := 5) hx hb dL_law_307 (by decide) ?_
  refine lv_iadd hx hb dL_law_308 ?_
  refine z_sld hx hb hX hbl hbA hZ1.2.2 i5 e5 dL_law_309 ?_
  refine lv_aload_n hx hb dL_law_310 rfl (lv_at hl 0 rfl) ?_
  refine lv_iload_n hx hb dL_law_311 rfl (lv_at hl 3 rfl) ?_
  refine lv_bipush (v := 6) hx hb dL_law_312 (by decide) ?_
  refine lv_iadd hx hb dL_law_314 ?_
  refine z_sld hx hb hX hbl hbA hZ1.2.2 i6 e6 dL_law_315 ?_
  refine lv_aload_n hx hb dL_law_316 rfl (lv_at hl 0 rfl) ?_
  refine lv_iload_n hx hb dL_law_317 rfl (lv_at hl 3 rfl) ?_
  refine lv_bipush (v := 7) hx hb dL_law_318 (by decide) ?_
  refine lv_iadd hx hb dL_law_320 ?_
  refine z_sld hx hb hX hbl hbA hZ1.2.2 i7 e7 dL_law_321 ?_
  refine lv_aload_n hx hb dL_law_322 rfl (lv_at hl 0 rfl) ?_
  refine lv_iload_n hx hb dL_law_323 rfl (lv_at hl 3 rfl) ?_
  refine lv_bipush (v := 8) hx hb dL_law_324 (by decide) ?_
  refine lv_iadd hx hb dL_law_326 ?_
  refine z_sld hx hb hX hbl hbA hZ1.2.2 i8 e8 dL_law_327 ?_
  refine z_call2 (va_runV (As := [.int x1, .int x2, .int x3, .int x4, .int x5, .int x6, .int x7, .int x8]) (rest := [.int (sp_law S x1 x2 x3 x4 x5 x6 x7 x8).1]) ⟨hx, hb, hml, hown, hts⟩ (c_X10_law l D cT _ _ S Y _ _ _ k x1 x2 x3 x4 x5 x6 x7 x8 hM hXI hS) (cwV 8 hts gL_law_X10_law rfl rfl rfl (by decide +kernel) ⟨(Nat.le_of_ble_eq_true rfl), (Nat.le_of_ble_eq_true rfl)⟩) (z_preV hK hE hZ2 hA (ci := 10) rfl hM.1) rfl rfl hl.1 rfl (lv_room (Nat.le_of_ble_eq_true rfl)) dL_law_328 ⟨(by show 35 + 4 * k + 2 + 0 ≤ 600000; omega), (by show 3700 + 312 * k + 9 + 0 ≤ 7302250; omega)⟩) hZ2 hA hZ1 hD.sym (fun r G2' H locs hq hZ2 hZ1 hD => ?_)
  obtain ⟨hM1, rfl⟩ := hq
  refine W.eq (g2 := F0 m 331 ls [.int (sp_law S x1 x2 x3 x4 x5 x6 x7 x8).1, .int (sp_law S x1 x2 x3 x4 x5 x6 x7 x8).1]) rfl ?_
  exact lv_icmp_eq (tgt := 795) hx hb dL_law_331 (by decide) (fun _ => W.widen (k := 35 + 4 * (k + 1)) (n := 3700 + 312 * (k + 1)) (by show 35 + 4 * k + 2 + 0 ≤ 35 + 4 * (k + 1); omega) (by show 3700 + 312 * k + 9 + 0 ≤ 3700 + 312 * (k + 1); omega) (nx ((sp_law S x1 x2 x3 x4 x5 x6 x7 x8).2) _ _ _ _ (on_law hS n1 x1 x2 x3 x4 x5 x6 x7 x8) ⟨hF1, hM1, hXI, hZ1, hZ2, hD.sym⟩)) (fun h => absurd rfl h)
set_option maxHeartbeats 4000000 in
set_option maxRecDepth 100000 in
theorem lw_c_force {p : Program} {l : Launch} {e : Env} {s : State} {m : MethodId} {below : List Frame} {meth : Method} {c : Code} {D : va_G} {cT : Nat → ClassId} {b L : Nat} {xs : Nat → Int32} (hL : L ≤ 4608) (C0 : lw_At p s m meth c b L xs) (hK : va_K D vwCl (zT cT) s) (hE : zE (fun q => s.heap.size ≤ q) s) {k : Nat} (hk : 9 * k + 9 ≤ L) {S : zS} {a1 : Nat} {Y : Nat → Nat} {G1 G2 : zG} {H : Heap} {locs : List Loc} {ls : Array Slot} (hS : ok S k) (J : lwJ D cT s S a1 Y G1 G2 H locs) (hl : lv_has ls 4 [(0, .ref b), (1, .ref a1), (2, .ref (Y 0)), (3, .int (nI (9 * k)))])
    (nx : ∀ (S' : zS) (G1' G2' : zG) (H' : Heap) (locs' : List Loc), ok S' (k + 1) → lwJ D cT s S' a1 Y G1' G2' H' locs' → W p l e room_1 s m #[Value.ref b] below meth c H' locs' (35 + 4 * (k + 1)) (3700 + 312 * (k + 1)) (lw_Z below #[Value.ref b] s) (F0 m 795 ls [])) : W p l e room_1 s m #[Value.ref b] below meth c H locs (35 + 4 * k) (3700 + 312 * k) (lw_Z below #[Value.ref b] s) (F0 m 336 ls []) := by
  obtain ⟨hx, hb, hr, hml, hown, hts, hX, hbl, hlocks, hgv⟩ := C0
  have hts := fun w h => hts w (wsL_law_in w h)
  have hown : s.vm.findClass RL = some m.cls := hown
  have hA : ∀ q, s.heap.size ≤ q → (fun q => s.heap.size ≤ q) q := fun _ h => h
  have hbA : ¬ (fun q => s.heap.size ≤ q) b := Nat.not_le.mpr hbl
  obtain ⟨⟨X, rfl, ct, md, sc, rp, fo, fd, hF⟩, ⟨cz, f27, f29, hM⟩, hXI, hZ1, hZ2, hD⟩ := J
  have n1 : k + 1 < 1000000 := by omega
  obtain ⟨x1, e1⟩ : ∃ x, xs (nI (9 * k) + 1).toNatClampNeg = x := ⟨_, rfl⟩
  have i1 : vp_in (nI (9 * k) + 1) L := sc_in (j := 1) (by decide) (by omega) hL
  obtain ⟨x2, e2⟩ : ∃ x, xs (nI (9 * k) + 2).toNatClampNeg = x := ⟨_, rfl⟩
  have i2 : vp_in (nI (9 * k) + 2) L := sc_in (j := 2) (by decide) (by omega) hL
  refine lv_aload_n hx hb dL_law_336 rfl (lv_at hl 1 rfl) ?_
  refine lv_aload_n hx hb dL_law_337 rfl (lv_at hl 0 rfl) ?_
  refine lv_iload_n hx hb dL_law_338 rfl (lv_at hl 3 rfl) ?_
  refine lv_iconst (v := 1) hx hb dL_law_339 (by decide) ?_
  refine lv_iadd hx hb dL_law_340 ?_
  refine z_sld hx hb hX hbl hbA hZ1.2.2 i1 e1 dL_law_341 ?_
  refine lv_aload_n hx hb dL_law_342 rfl (lv_at hl 0 rfl) ?_
  refine lv_iload_n hx hb dL_law_343 rfl (lv_at hl 3 rfl) ?_
  refine lv_iconst (v := 2) hx hb dL_law_344 (by decide) ?_
  refine lv_iadd hx hb dL_law_345 ?_
  refine z_sld hx hb hX hbl hbA hZ1.2.2 i2 e2 dL_law_346 ?_
  refine z_call2 (va_runV (As := [.int x1, .int x2]) (rest := []) ⟨hx, hb, hml, hown, hts⟩ (c_X9_force l D cT _ _ S X _ _ _ _ _ _ k x1 x2 hF hS) (cwV 2 hts gL_law_X9_force rfl rfl rfl (by decide +kernel) ⟨(Nat.le_of_ble_eq_true rfl), (Nat.le_of_ble_eq_true rfl)⟩) (z_preV hK hE hZ1 hA (ci := 9) rfl (f00 hF)) rfl rfl hl.1 rfl (lv_room (Nat.le_of_ble_eq_true rfl)) dL_law_347 ⟨(by show 35 + 4 * k + 0 ≤ 600000; omega), (by show 3700 + 312 * k + 0 ≤ 7302250; omega)⟩) hZ1 hA hZ2 hD (fun r G1' H locs hq hZ1 hZ2 hD => ?_)
  obtain ⟨hF1, rfl⟩ := hq
  refine W.eq (g2 := F0 m 350 ls [.int (sp_force S x1 x2).1]) rfl ?_
  refine lv_aload_n hx hb dL_law_350 rfl (lv_at hl 2 rfl) ?_
  refine lv_aload_n hx hb dL_law_351 rfl (lv_at hl 0 rfl) ?_
  refine lv_iload_n hx hb dL_law_352 rfl (lv_at hl 3 rfl) ?_
  refine lv_iconst (v := 1) hx hb dL_law_353 (by decide) ?_
  refine lv_iadd hx hb dL_law_354 ?_
  refine z_sld hx hb hX hbl hbA hZ1.2.2 i1 e1 dL_law_355 ?_
  refine lv_aload_n hx hb dL_law_356 rfl (lv_at hl 0 rfl) ?_
  refine lv_iload_n hx hb dL_law_357 rfl (lv_at hl 3 rfl) ?_
  refine lv_iconst (v := 2) hx hb dL_law_358 (by decide) ?_
  refine lv_iadd hx hb dL_law_359 ?_
  refine z_sld hx hb hX hbl hbA hZ1.2.2 i2 e2 dL_law_360 ?_
  refine z_call2 (va_runV (As := [.int x1, .int x2]) (rest := [.int (sp_force S x1 x2).1]) ⟨hx, hb, hml, hown, hts⟩ (c_X10_force l D cT _ _ S Y _ _ _ k x1 x2 hM hXI hS) (cwV 2 hts gL_law_X10_force rfl rfl rfl (by decide +kernel) ⟨(Nat.le_of_ble_eq_true rfl), (Nat.le_of_ble_eq_true rfl)⟩) (z_preV hK hE hZ2 hA (ci := 10) rfl hM.1) rfl rfl hl.1 rfl (lv_room (Nat.le_of_ble_eq_true rfl)) dL_law_361 ⟨(by show 35 + 4 * k + 0 + 0 ≤ 600000; omega), (by show 3700 + 312 * k + 0 + 0 ≤ 7302250; omega)⟩) hZ2 hA hZ1 hD.sym (fun r G2' H locs hq hZ2 hZ1 hD => ?_)
  obtain ⟨hM1, rfl⟩ := hq
  refine W.eq (g2 := F0 m 364 ls [.int (sp_force S x1 x2).1, .int (sp_force S x1 x2).1]) rfl ?_
  exact lv_icmp_eq (tgt := 795) hx hb dL_law_364 (by decide) (fun _ => W.widen (k := 35 + 4 * (k + 1)) (n := 3700 + 312 * (k + 1)) (by show 35 + 4 * k + 0 + 0 ≤ 35 + 4 * (k + 1); omega) (by show 3700 + 312 * k + 0 + 0 ≤ 3700 + 312 * (k + 1); omega) (nx ((sp_force S x1 x2).2) _ _ _ _ (on_force hS n1 x1 x2) ⟨hF1, hM1, hXI, hZ1, hZ2, hD.sym⟩)) (fun h => absurd rfl h)
set_option maxHeartbeats 4000000 in
set_option maxRecDepth 100000 in
theorem lw_c_like {p : Program} {l : Launch} {e : Env} {s : State} {m : MethodId} {below : List Frame} {meth : Method} {c : Code} {D : va_G} {cT : Nat → ClassId} {b L : Nat} {xs : Nat → Int32} (hL : L ≤ 4608) (C0 : lw_At p s m meth c b L xs) (hK : va_K D vwCl (zT cT) s) (hE : zE (fun q => s.heap.size ≤ q) s) {k : Nat} (hk : 9 * k + 9 ≤ L) {S : zS} {a1 : Nat} {Y : Nat → Nat} {G1 G2 : zG} {H : Heap} {locs : List Loc} {ls : Array Slot} (hS : ok S k) (J : lwJ D cT s S a1 Y G1 G2 H locs) (hl : lv_has ls 4 [(0, .ref b), (1, .ref a1), (2, .ref (Y 0)), (3, .int (nI (9 * k)))])
    (nx : ∀ (S' : zS) (G1' G2' : zG) (H' : Heap) (locs' : List Loc), ok S' (k + 1) → lwJ D cT s S' a1 Y G1' G2' H' locs' → W p l e room_1 s m #[Value.ref b] below meth c H' locs' (35 + 4 * (k + 1)) (3700 + 312 * (k + 1)) (lw_Z below #[Value.ref b] s) (F0 m 795 ls [])) : W p l e room_1 s m #[Value.ref b] below meth c H locs (35 + 4 * k) (3700 + 312 * k) (lw_Z below #[Value.ref b] s) (F0 m 369 ls []) := by
  obtain ⟨hx, hb, hr, hml, hown, hts, hX, hbl, hlocks, hgv⟩ := C0
  have hts := fun w h => hts w (wsL_law_in w h)
  have hown : s.vm.findClass RL = some m.cls := hown
  have hA : ∀ q, s.heap.size ≤ q → (fun q => s.heap.size ≤ q) q := fun _ h => h
  have hbA : ¬ (fun q => s.heap.size ≤ q) b := Nat.not_le.mpr hbl
  obtain ⟨⟨X, rfl, ct, md, sc, rp, fo, fd, hF⟩, ⟨cz, f27, f29, hM⟩, hXI, hZ1, hZ2, hD⟩ := J
  have n1 : k + 1 < 1000000 := by omega
  obtain ⟨x1, e1⟩ : ∃ x, xs (nI (9 * k) + 1).toNatClampNeg = x := ⟨_, rfl⟩
  have i1 : vp_in (nI (9 * k) + 1) L := sc_in (j := 1) (by decide) (by omega) hL
  obtain ⟨x2, e2⟩ : ∃ x, xs (nI (9 * k) + 2).toNatClampNeg = x := ⟨_, rfl⟩
  have i2 : vp_in (nI (9 * k) + 2) L := sc_in (j := 2) (by decide) (by omega) hL
  obtain ⟨x3, e3⟩ : ∃ x, xs (nI (9 * k) + 3).toNatClampNeg = x := ⟨_, rfl⟩
  have i3 : vp_in (nI (9 * k) + 3) L := sc_in (j := 3) (by decide) (by omega) hL
  refine lv_aload_n hx hb dL_law_369 rfl (lv_at hl 1 rfl) ?_
  refine lv_aload_n hx hb dL_law_370 rfl (lv_at hl 0 rfl) ?_
  refine lv_iload_n hx hb dL_law_371 rfl (lv_at hl 3 rfl) ?_
  refine lv_iconst (v := 1) hx hb dL_law_372 (by decide) ?_
  refine lv_iadd hx hb dL_law_373 ?_
  refine z_sld hx hb hX hbl hbA hZ1.2.2 i1 e1 dL_law_374 ?_
  refine lv_aload_n hx hb dL_law_375 rfl (lv_at hl 0 rfl) ?_
  refine lv_iload_n hx hb dL_law_376 rfl (lv_at hl 3 rfl) ?_
  refine lv_iconst (v := 2) hx hb dL_law_377 (by decide) ?_
  refine lv_iadd hx hb dL_law_378 ?_
  refine z_sld hx hb hX hbl hbA hZ1.2.2 i2 e2 dL_law_379 ?_
  refine lv_aload_n hx hb dL_law_380 rfl (lv_at hl 0 rfl) ?_
  refine lv_iload_n hx hb dL_law_381 rfl (lv_at hl 3 rfl) ?_
  refine lv_iconst (v := 3) hx hb dL_law_382 (by decide) ?_
  refine lv_iadd hx hb dL_law_383 ?_
  refine z_sld hx hb hX hbl hbA hZ1.2.2 i3 e3 dL_law_384 ?_
  refine z_call2 (va_runV (As := [.int x1, .int x2, .int x3]) (rest := []) ⟨hx, hb, hml, hown, hts⟩ (c_X9_like l D cT _ _ S X _ _ _ _ _ _ k x1 x2 x3 hF hS) (cwV 3 hts gL_law_X9_like rfl rfl rfl (by decide +kernel) ⟨(Nat.le_of_ble_eq_true rfl), (Nat.le_of_ble_eq_true rfl)⟩) (z_preV hK hE hZ1 hA (ci := 9) rfl (f00 hF)) rfl rfl hl.1 rfl (lv_room (Nat.le_of_ble_eq_true rfl)) dL_law_385 ⟨(by show 35 + 4 * k + 1 ≤ 600000; omega), (by show 3700 + 312 * k + 5 ≤ 7302250; omega)⟩) hZ1 hA hZ2 hD (fun r G1' H locs hq hZ1 hZ2 hD => ?_)
  obtain ⟨hF1, rfl⟩ := hq
  refine W.eq (g2 := F0 m 388 ls [.int (sp_like S x1 x2 x3).1]) rfl ?_
  refine lv_aload_n hx hb dL_law_388 rfl (lv_at hl 2 rfl) ?_
  refine lv_aload_n hx hb dL_law_389 rfl (lv_at hl 0 rfl) ?_
  refine lv_iload_n hx hb dL_law_390 rfl (lv_at hl 3 rfl) ?_
  refine lv_iconst (v := 1) hx hb dL_law_391 (by decide) ?_
  refine lv_iadd hx hb dL_law_392 ?_
  refine z_sld hx hb hX hbl hbA hZ1.2.2 i1 e1 dL_law_393 ?_
  refine lv_aload_n hx hb dL_law_394 rfl (lv_at hl 0 rfl) ?_
  refine lv_iload_n hx hb dL_law_395 rfl (lv_at hl 3 rfl) ?_
  refine lv_iconst (v := 2) hx hb dL_law_396 (by decide) ?_
  refine lv_iadd hx hb dL_law_397 ?_
  refine z_sld hx hb hX hbl hbA hZ1.2.2 i2 e2 dL_law_398 ?_
  refine lv_aload_n hx hb dL_law_399 rfl (lv_at hl 0 rfl) ?_
  refine lv_iload_n hx hb dL_law_400 rfl (lv_at hl 3 rfl) ?_
  refine lv_iconst (v := 3) hx hb dL_law_401 (by decide) ?_
  refine lv_iadd hx hb dL_law_402 ?_
  refine z_sld hx hb hX hbl hbA hZ1.2.2 i3 e3 dL_law_403 ?_
  refine z_call2 (va_runV (As := [.int x1, .int x2, .int x3]) (rest := [.int (sp_like S x1 x2 x3).1]) ⟨hx, hb, hml, hown, hts⟩ (c_X10_like l D cT _ _ S Y _ _ _ k x1 x2 x3 hM hXI hS) (cwV 3 hts gL_law_X10_like rfl rfl rfl (by decide +kernel) ⟨(Nat.le_of_ble_eq_true rfl), (Nat.le_of_ble_eq_true rfl)⟩) (z_preV hK hE hZ2 hA (ci := 10) rfl hM.1) rfl rfl hl.1 rfl (lv_room (Nat.le_of_ble_eq_true rfl)) dL_law_404 ⟨(by show 35 + 4 * k + 1 + 0 ≤ 600000; omega), (by show 3700 + 312 * k + 5 + 0 ≤ 7302250; omega)⟩) hZ2 hA hZ1 hD.sym (fun r G2' H locs hq hZ2 hZ1 hD => ?_)
  obtain ⟨hM1, rfl⟩ := hq
  refine W.eq (g2 := F0 m 407 ls [.int (sp_like S x1 x2 x3).1, .int (sp_like S x1 x2 x3).1]) rfl ?_
  exact lv_icmp_eq (tgt := 795) hx hb dL_law_407 (by decide) (fun _ => W.widen (k := 35 + 4 * (k + 1)) (n := 3700 + 312 * (k + 1)) (by show 35 + 4 * k + 1 + 0 ≤ 35 + 4 * (k + 1); omega) (by show 3700 + 312 * k + 5 + 0 ≤ 3700 + 312 * (k + 1); omega) (nx ((sp_like S x1 x2 x3).2) _ _ _ _ (on_like hS n1 x1 x2 x3) ⟨hF1, hM1, hXI, hZ1, hZ2, hD.sym⟩)) (fun h => absurd rfl h)
set_option maxHeartbeats 4000000 in
set_option maxRecDepth 100000 in
theorem lw_c_strike {p : Program} {l : Launch} {e : Env} {s : State} {m : MethodId} {below : List Frame} {meth : Method} {c : Code} {D : va_G} {cT : Nat → ClassId} {b L : Nat} {xs : Nat → Int32} (hL : L ≤ 4608) (C0 : lw_At p s m meth c b L xs) (hK : va_K D vwCl (zT cT) s) (hE : zE (fun q => s.heap.size ≤ q) s) {k : Nat} (hk : 9 * k + 9 ≤ L) {S : zS} {a1 : Nat} {Y : Nat → Nat} {G1 G2 : zG} {H : Heap} {locs : List Loc} {ls : Array Slot} (hS : ok S k) (J : lwJ D cT s S a1 Y G1 G2 H locs) (hl : lv_has ls 4 [(0, .ref b), (1, .ref a1), (2, .ref (Y 0)), (3, .int (nI (9 * k)))])
    (nx : ∀ (S' : zS) (G1' G2' : zG) (H' : Heap) (locs' : List Loc), ok S' (k + 1) → lwJ D cT s S' a1 Y G1' G2' H' locs' → W p l e room_1 s m #[Value.ref b] below meth c H' locs' (35 + 4 * (k + 1)) (3700 + 312 * (k + 1)) (lw_Z below #[Value.ref b] s) (F0 m 795 ls [])) : W p l e room_1 s m #[Value.ref b] below meth c H locs (35 + 4 * k) (3700 + 312 * k) (lw_Z below #[Value.ref b] s) (F0 m 412 ls []) := by
  obtain ⟨hx, hb, hr, hml, hown, hts, hX, hbl, hlocks, hgv⟩ := C0
  have hts := fun w h => hts w (wsL_law_in w h)
  have hown : s.vm.findClass RL = some m.cls := hown
  have hA : ∀ q, s.heap.size ≤ q → (fun q => s.heap.size ≤ q) q := fun _ h => h
  have hbA : ¬ (fun q => s.heap.size ≤ q) b := Nat.not_le.mpr hbl
  obtain ⟨⟨X, rfl, ct, md, sc, rp, fo, fd, hF⟩, ⟨cz, f27, f29, hM⟩, hXI, hZ1, hZ2, hD⟩ := J
  have n1 : k + 1 < 1000000 := by omega
  obtain ⟨x1, e1⟩ : ∃ x, xs (nI (9 * k) + 1).toNatClampNeg = x := ⟨_, rfl⟩
  have i1 : vp_in (nI (9 * k) + 1) L := sc_in (j := 1) (by decide) (by omega) hL
  refine lv_aload_n hx hb dL_law_412 rfl (lv_at hl 1 rfl) ?_
  refine lv_aload_n hx hb dL_law_413 rfl (lv_at hl 0 rfl) ?_
  refine lv_iload_n hx hb dL_law_414 rfl (lv_at hl 3 rfl) ?_
  refine lv_iconst (v := 1) hx hb dL_law_415 (by decide) ?_
  refine lv_iadd hx hb dL_law_416 ?_
  refine z_sld hx hb hX hbl hbA hZ1.2.2 i1 e1 dL_law_417 ?_
  refine z_call2 (va_runV (As := [.int x1]) (rest := []) ⟨hx, hb, hml, hown, hts⟩ (c_X9_strike l D cT _ _ S X _ _ _ _ _ _ k x1 hF hS) (cwV 1 hts gL_law_X9_strike rfl rfl rfl (by decide +kernel) ⟨(Nat.le_of_ble_eq_true rfl), (Nat.le_of_ble_eq_true rfl)⟩) (z_preV hK hE hZ1 hA (ci := 9) rfl (f00 hF)) rfl rfl hl.1 rfl (lv_room (Nat.le_of_ble_eq_true rfl)) dL_law_418 ⟨(by show 35 + 4 * k + 0 ≤ 600000; omega), (by show 3700 + 312 * k + 0 ≤ 7302250; omega)⟩) hZ1 hA hZ2 hD (fun r G1' H locs hq hZ1 hZ2 hD => ?_)
  obtain ⟨hF1, rfl⟩ := hq
  refine W.eq (g2 := F0 m 421 ls [.int (sp_strike S x1).1]) rfl ?_
  refine lv_aload_n hx hb dL_law_421 rfl (lv_at hl 2 rfl) ?_
  refine lv_aload_n hx hb dL_law_422 rfl (lv_at hl 0 rfl) ?_
  refine lv_iload_n hx hb dL_law_423 rfl (lv_at hl 3 rfl) ?_
  refine lv_iconst (v := 1) hx hb dL_law_424 (by decide) ?_
  refine lv_iadd hx hb dL_law_425 ?_
  refine z_sld hx hb hX hbl hbA hZ1.2.2 i1 e1 dL_law_426 ?_
  refine z_call2 (va_runV (As := [.int x1]) (rest := [.int (sp_strike S x1).1]) ⟨hx, hb, hml, hown, hts⟩ (c_X10_strike l D cT _ _ S Y _ _ _ k x1 hM hXI hS) (cwV 1 hts gL_law_X10_strike rfl rfl rfl (by decide +kernel) ⟨(Nat.le_of_ble_eq_true rfl), (Nat.le_of_ble_eq_true rfl)⟩) (z_preV hK hE hZ2 hA (ci := 10) rfl hM.1) rfl rfl hl.1 rfl (lv_room (Nat.le_of_ble_eq_true rfl)) dL_law_427 ⟨(by show 35 + 4 * k + 0 + 0 ≤ 600000; omega), (by show 3700 + 312 * k + 0 + 0 ≤ 7302250; omega)⟩) hZ2 hA hZ1 hD.sym (fun r G2' H locs hq hZ2 hZ1 hD => ?_)
  obtain ⟨hM1, rfl⟩ := hq
  refine W.eq (g2 := F0 m 430 ls [.int (sp_strike S x1).1, .int (sp_strike S x1).1]) rfl ?_
  exact lv_icmp_eq (tgt := 795) hx hb dL_law_430 (by decide) (fun _ => W.widen (k := 35 + 4 * (k + 1)) (n := 3700 + 312 * (k + 1)) (by show 35 + 4 * k + 0 + 0 ≤ 35 + 4 * (k + 1); omega) (by show 3700 + 312 * k + 0 + 0 ≤ 3700 + 312 * (k + 1); omega) (nx ((sp_strike S x1).2) _ _ _ _ (on_strike hS n1 x1) ⟨hF1, hM1, hXI, hZ1, hZ2, hD.sym⟩)) (fun h => absurd rfl h)
set_option maxHeartbeats 4000000 in
set_option maxRecDepth 100000 in
theorem lw_c_days {p : Program} {l : Launch} {e : Env} {s : State} {m : MethodId} {below : List Frame} {meth : Method} {c : Code} {D : va_G} {cT : Nat → ClassId} {b L : Nat} {xs : Nat → Int32} (hL : L ≤ 4608) (C0 : lw_At p s m meth c b L xs) (hK : va_K D vwCl (zT cT) s) (hE : zE (fun q => s.heap.size ≤ q) s) {k : Nat} (hk : 9 * k + 9 ≤ L) {S : zS} {a1 : Nat} {Y : Nat → Nat} {G1 G2 : zG} {H : Heap} {locs : List Loc} {ls : Array Slot} (hS : ok S k) (J : lwJ D cT s S a1 Y G1 G2 H locs) (hl : lv_has ls 4 [(0, .ref b), (1, .ref a1), (2, .ref (Y 0)), (3, .int (nI (9 * k)))])
    (nx : ∀ (S' : zS) (G1' G2' : zG) (H' : Heap) (locs' : List Loc), ok S' (k + 1) → lwJ D cT s S' a1 Y G1' G2' H' locs' → W p l e room_1 s m #[Value.ref b] below meth c H' locs' (35 + 4 * (k + 1)) (3700 + 312 * (k + 1)) (lw_Z below #[Value.ref b] s) (F0 m 795 ls [])) : W p l e room_1 s m #[Value.ref b] below meth c H locs (35 + 4 * k) (3700 + 312 * k) (lw_Z below #[Value.ref b] s) (F0 m 435 ls []) := by
  obtain ⟨hx, hb, hr, hml, hown, hts, hX, hbl, hlocks, hgv⟩ := C0
  have hts := fun w h => hts w (wsL_law_in w h)
  have hown : s.vm.findClass RL = some m.cls := hown
  have hA : ∀ q, s.heap.size ≤ q → (fun q => s.heap.size ≤ q) q := fun _ h => h
  have hbA : ¬ (fun q => s.heap.size ≤ q) b := Nat.not_le.mpr hbl
  obtain ⟨⟨X, rfl, ct, md, sc, rp, fo, fd, hF⟩, ⟨cz, f27, f29, hM⟩, hXI, hZ1, hZ2, hD⟩ := J
  have n1 : k + 1 < 1000000 := by omega
  obtain ⟨x1, e1⟩ : ∃ x, xs (nI (9 * k) + 1).toNatClampNeg = x := ⟨_, rfl⟩
  have i1 : vp_in (nI (9 * k) + 1) L := sc_in (j := 1) (by decide) (by omega) hL
  refine lv_aload_n hx hb dL_law_435 rfl (lv_at hl 1 rfl) ?_
  refine lv_aload_n hx hb dL_law_436 rfl (lv_at hl 0 rfl) ?_
  refine lv_iload_n hx hb dL_law_437 rfl (lv_at hl 3 rfl) ?_
  refine lv_iconst (v := 1) hx hb dL_law_438 (by decide) ?_
  refine lv_iadd hx hb dL_law_439 ?_
  refine z_sld hx hb hX hbl hbA hZ1.2.2 i1 e1 dL_law_440 ?_
  refine z_call2 (va_runV (As := [.int x1]) (rest := []) ⟨hx, hb, hml, hown, hts⟩ (c_X9_days l D cT _ _ S X _ _ _ _ _ _ k x1 hF hS) (cwV 1 hts gL_law_X9_days rfl rfl rfl (by decide +kernel) ⟨(Nat.le_of_ble_eq_true rfl), (Nat.le_of_ble_eq_true rfl)⟩) (z_preV hK hE hZ1 hA (ci := 9) rfl (f00 hF)) rfl rfl hl.1 rfl (lv_room (Nat.le_of_ble_eq_true rfl)) dL_law_441 ⟨(by show 35 + 4 * k + 0 ≤ 600000; omega), (by show 3700 + 312 * k + 0 ≤ 7302250; omega)⟩) hZ1 hA hZ2 hD (fun r G1' H locs hq hZ1 hZ2 hD => ?_)
  obtain ⟨hF1, rfl⟩ := hq
  refine W.eq (g2 := F0 m 444 ls [.int (sp_days S x1).1]) rfl ?_
  refine lv_aload_n hx hb dL_law_444 rfl (lv_at hl 2 rfl) ?_
  refine lv_aload_n hx hb dL_law_445 rfl (lv_at hl 0 rfl) ?_
  refine lv_iload_n hx hb dL_law_446 rfl (lv_at hl 3 rfl) ?_
  refine lv_iconst (v := 1) hx hb dL_law_447 (by decide) ?_
  refine lv_iadd hx hb dL_law_448 ?_
  refine z_sld hx hb hX hbl hbA hZ1.2.2 i1 e1 dL_law_449 ?_
  refine z_call2 (va_runV (As := [.int x1]) (rest := [.int (sp_days S x1).1]) ⟨hx, hb, hml, hown, hts⟩ (c_X10_days l D cT _ _ S Y _ _ _ k x1 hM hXI hS) (cwV 1 hts gL_law_X10_days rfl rfl rfl (by decide +kernel) ⟨(Nat.le_of_ble_eq_true rfl), (Nat.le_of_ble_eq_true rfl)⟩) (z_preV hK hE hZ2 hA (ci := 10) rfl hM.1) rfl rfl hl.1 rfl (lv_room (Nat.le_of_ble_eq_true rfl)) dL_law_450 ⟨(by show 35 + 4 * k + 0 + 0 ≤ 600000; omega), (by show 3700 + 312 * k + 0 + 0 ≤ 7302250; omega)⟩) hZ2 hA hZ1 hD.sym (fun r G2' H locs hq hZ2 hZ1 hD => ?_)
  obtain ⟨hM1, rfl⟩ := hq
  refine W.eq (g2 := F0 m 453 ls [.int (sp_days S x1).1, .int (sp_days S x1).1]) rfl ?_
  exact lv_icmp_eq (tgt := 795) hx hb dL_law_453 (by decide) (fun _ => W.widen (k := 35 + 4 * (k + 1)) (n := 3700 + 312 * (k + 1)) (by show 35 + 4 * k + 0 + 0 ≤ 35 + 4 * (k + 1); omega) (by show 3700 + 312 * k + 0 + 0 ≤ 3700 + 312 * (k + 1); omega) (nx ((sp_days S x1).2) _ _ _ _ (on_days hS n1 x1) ⟨hF1, hM1, hXI, hZ1, hZ2, hD.sym⟩)) (fun h => absurd rfl h)
set_option maxHeartbeats 4000000 in
set_option maxRecDepth 100000 in
theorem lw_c_head {p : Program} {l : Launch} {e : Env} {s : State} {m : MethodId} {below : List Frame} {meth : Method} {c : Code} {D : va_G} {cT : Nat → ClassId} {b L : Nat} {xs : Nat → Int32} (hL : L ≤ 4608) (C0 : lw_At p s m meth c b L xs) (hK : va_K D vwCl (zT cT) s) (hE : zE (fun q => s.heap.size ≤ q) s) {k : Nat} (hk : 9 * k + 9 ≤ L) {S : zS} {a1 : Nat} {Y : Nat → Nat} {G1 G2 : zG} {H : Heap} {locs : List Loc} {ls : Array Slot} (hS : ok S k) (J : lwJ D cT s S a1 Y G1 G2 H locs) (hl : lv_has ls 4 [(0, .ref b), (1, .ref a1), (2, .ref (Y 0)), (3, .int (nI (9 * k)))])
    (nx : ∀ (S' : zS) (G1' G2' : zG) (H' : Heap) (locs' : List Loc), ok S' (k + 1) → lwJ D cT s S' a1 Y G1' G2' H' locs' → W p l e room_1 s m #[Value.ref b] below meth c H' locs' (35 + 4 * (k + 1)) (3700 + 312 * (k + 1)) (lw_Z below #[Value.ref b] s) (F0 m 795 ls [])) : W p l e room_1 s m #[Value.ref b] below meth c H locs (35 + 4 * k) (3700 + 312 * k) (lw_Z below #[Value.ref b] s) (F0 m 458 ls []) := by
  obtain ⟨hx, hb, hr, hml, hown, hts, hX, hbl, hlocks, hgv⟩ := C0
  have hts := fun w h => hts w (wsL_law_in w h)
  have hown : s.vm.findClass RL = some m.cls := hown
  have hA : ∀ q, s.heap.size ≤ q → (fun q => s.heap.size ≤ q) q := fun _ h => h
  have hbA : ¬ (fun q => s.heap.size ≤ q) b := Nat.not_le.mpr hbl
  obtain ⟨⟨X, rfl, ct, md, sc, rp, fo, fd, hF⟩, ⟨cz, f27, f29, hM⟩, hXI, hZ1, hZ2, hD⟩ := J
  have n1 : k + 1 < 1000000 := by omega
  obtain ⟨x1, e1⟩ : ∃ x, xs (nI (9 * k) + 1).toNatClampNeg = x := ⟨_, rfl⟩
  have i1 : vp_in (nI (9 * k) + 1) L := sc_in (j := 1) (by decide) (by omega) hL
  obtain ⟨x2, e2⟩ : ∃ x, xs (nI (9 * k) + 2).toNatClampNeg = x := ⟨_, rfl⟩
  have i2 : vp_in (nI (9 * k) + 2) L := sc_in (j := 2) (by decide) (by omega) hL
  obtain ⟨x3, e3⟩ : ∃ x, xs (nI (9 * k) + 3).toNatClampNeg = x := ⟨_, rfl⟩
  have i3 : vp_in (nI (9 * k) + 3) L := sc_in (j := 3) (by decide) (by omega) hL
  refine lv_aload_n hx hb dL_law_458 rfl (lv_at hl 1 rfl) ?_
  refine lv_aload_n hx hb dL_law_459 rfl (lv_at hl 0 rfl) ?_
  refine lv_iload_n hx hb dL_law_460 rfl (lv_at hl 3 rfl) ?_
  refine lv_iconst (v := 1) hx hb dL_law_461 (by decide) ?_
  refine lv_iadd hx hb dL_law_462 ?_
  refine z_sld hx hb hX hbl hbA hZ1.2.2 i1 e1 dL_law_463 ?_
  refine lv_aload_n hx hb dL_law_464 rfl (lv_at hl 0 rfl) ?_
  refine lv_iload_n hx hb dL_law_465 rfl (lv_at hl 3 rfl) ?_
  refine lv_iconst (v := 2) hx hb dL_law_466 (by decide) ?_
  refine lv_iadd hx hb dL_law_467 ?_
  refine z_sld hx hb hX hbl hbA hZ1.2.2 i2 e2 dL_law_468 ?_
  refine lv_aload_n hx hb dL_law_469 rfl (lv_at hl 0 rfl) ?_
  refine lv_iload_n hx hb dL_law_470 rfl (lv_at hl 3 rfl) ?_
  refine lv_iconst (v := 3) hx hb dL_law_471 (by decide) ?_
  refine lv_iadd hx hb dL_law_472 ?_
  refine z_sld hx hb hX hbl hbA hZ1.2.2 i3 e3 dL_law_473 ?_
  refine z_call2 (va_runV (As := [.int x1, .int x2, .int x3]) (rest := []) ⟨hx, hb, hml, hown, hts⟩ (c_X9_head l D cT _ _ S X _ _ _ _ _ _ k x1 x2 x3 hF hS) (cwV 3 hts gL_law_X9_head rfl rfl rfl (by decide +kernel) ⟨(Nat.le_of_ble_eq_true rfl), (Nat.le_of_ble_eq_true rfl)⟩) (z_preV hK hE hZ1 hA (ci := 9) rfl (f00 hF)) rfl rfl hl.1 rfl (lv_room (Nat.le_of_ble_eq_true rfl)) dL_law_474 ⟨(by show 35 + 4 * k + 0 ≤ 600000; omega), (by show 3700 + 312 * k + 0 ≤ 7302250; omega)⟩) hZ1 hA hZ2 hD (fun r G1' H locs hq hZ1 hZ2 hD => ?_)
  obtain ⟨hF1, rfl⟩ := hq
  refine W.eq (g2 := F0 m 477 ls [.int (sp_head S x1 x2 x3).1]) rfl ?_
  refine lv_aload_n hx hb dL_law_477 rfl (lv_at hl 2 rfl) ?_
  refine lv_aload_n hx hb dL_law_478 rfl (lv_at hl 0 rfl) ?_
  refine lv_iload_n hx hb dL_law_479 rfl (lv_at hl 3 rfl) ?_
  refine lv_iconst (v := 1) hx hb dL_law_480 (by decide) ?_
  refine lv_iadd hx hb dL_law_481 ?_
  refine z_sld hx hb hX hbl hbA hZ1.2.2 i1 e1 dL_law_482 ?_
  refine lv_aload_n hx hb dL_law_483 rfl (lv_at hl 0 rfl) ?_
  refine lv_iload_n hx hb dL_law_484 rfl (lv_at hl 3 rfl) ?_
  refine lv_iconst (v := 2) hx hb dL_law_485 (by decide) ?_
  refine lv_iadd hx hb dL_law_486 ?_
  refine z_sld hx hb hX hbl hbA hZ1.2.2 i2 e2 dL_law_487 ?_
  refine lv_aload_n hx hb dL_law_488 rfl (lv_at hl 0 rfl) ?_
  refine lv_iload_n hx hb dL_law_489 rfl (lv_at hl 3 rfl) ?_
  refine lv_iconst (v := 3) hx hb dL_law_490 (by decide) ?_
  refine lv_iadd hx hb dL_law_491 ?_
  refine z_sld hx hb hX hbl hbA hZ1.2.2 i3 e3 dL_law_492 ?_
  refine z_call2 (va_runV (As := [.int x1, .int x2, .int x3]) (rest := [.int (sp_head S x1 x2 x3).1]) ⟨hx, hb, hml, hown, hts⟩ (c_X10_head l D cT _ _ S Y _ _ _ k x1 x2 x3 hM hXI hS) (cwV 3 hts gL_law_X10_head rfl rfl rfl (by decide +kernel) ⟨(Nat.le_of_ble_eq_true rfl), (Nat.le_of_ble_eq_true rfl)⟩) (z_preV hK hE hZ2 hA (ci := 10) rfl hM.1) rfl rfl hl.1 rfl (lv_room (Nat.le_of_ble_eq_true rfl)) dL_law_493 ⟨(by show 35 + 4 * k + 0 + 0 ≤ 600000; omega), (by show 3700 + 312 * k + 0 + 0 ≤ 7302250; omega)⟩) hZ2 hA hZ1 hD.sym (fun r G2' H locs hq hZ2 hZ1 hD => ?_)
  obtain ⟨hM1, rfl⟩ := hq
  refine W.eq (g2 := F0 m 496 ls [.int (sp_head S x1 x2 x3).1, .int (sp_head S x1 x2 x3).1]) rfl ?_
  exact lv_icmp_eq (tgt := 795) hx hb dL_law_496 (by decide) (fun _ => W.widen (k := 35 + 4 * (k + 1)) (n := 3700 + 312 * (k + 1)) (by show 35 + 4 * k + 0 + 0 ≤ 35 + 4 * (k + 1); omega) (by show 3700 + 312 * k + 0 + 0 ≤ 3700 + 312 * (k + 1); omega) (nx ((sp_head S x1 x2 x3).2) _ _ _ _ (on_head hS n1 x1 x2 x3) ⟨hF1, hM1, hXI, hZ1, hZ2, hD.sym⟩)) (fun h => absurd rfl h)
set_option maxHeartbeats 4000000 in
set_option maxRecDepth 100000 in
theorem lw_c_let {p : Program} {l : Launch} {e : Env} {s : State} {m : MethodId} {below : List Frame} {meth : Method} {c : Code} {D : va_G} {cT : Nat → ClassId} {b L : Nat} {xs : Nat → Int32} (hL : L ≤ 4608) (C0 : lw_At p s m meth c b L xs) (hK : va_K D vwCl (zT cT) s) (hE : zE (fun q => s.heap.size ≤ q) s) {k : Nat} (hk : 9 * k + 9 ≤ L) {S : zS} {a1 : Nat} {Y : Nat → Nat} {G1 G2 : zG} {H : Heap} {locs : List Loc} {ls : Array Slot} (hS : ok S k) (J : lwJ D cT s S a1 Y G1 G2 H locs) (hl : lv_has ls 4 [(0, .ref b), (1, .ref a1), (2, .ref (Y 0)), (3, .int (nI (9 * k)))])
    (nx : ∀ (S' : zS) (G1' G2' : zG) (H' : Heap) (locs' : List Loc), ok S' (k + 1) → lwJ D cT s S' a1 Y G1' G2' H' locs' → W p l e room_1 s m #[Value.ref b] below meth c H' locs' (35 + 4 * (k + 1)) (3700 + 312 * (k + 1)) (lw_Z below #[Value.ref b] s) (F0 m 795 ls [])) : W p l e room_1 s m #[Value.ref b] below meth c H locs (35 + 4 * k) (3700 + 312 * k) (lw_Z below #[Value.ref b] s) (F0 m 501 ls []) := by
  obtain ⟨hx, hb, hr, hml, hown, hts, hX, hbl, hlocks, hgv⟩ := C0
  have hts := fun w h => hts w (wsL_law_in w h)
  have hown : s.vm.findClass RL = some m.cls := hown
  have hA : ∀ q, s.heap.size ≤ q → (fun q => s.heap.size ≤ q) q := fun _ h => h
  have hbA : ¬ (fun q => s.heap.size ≤ q) b := Nat.not_le.mpr hbl
  obtain ⟨⟨X, rfl, ct, md, sc, rp, fo, fd, hF⟩, ⟨cz, f27, f29, hM⟩, hXI, hZ1, hZ2, hD⟩ := J
  have n1 : k + 1 < 1000000 := by omega
  obtain ⟨x1, e1⟩ : ∃ x, xs (nI (9 * k) + 1).toNatClampNeg = x := ⟨_, rfl⟩
  have i1 : vp_in (nI (9 * k) + 1) L := sc_in (j := 1) (by decide) (by omega) hL
  obtain ⟨x2, e2⟩ : ∃ x, xs (nI (9 * k) + 2).toNatClampNeg = x := ⟨_, rfl⟩
  have i2 : vp_in (nI (9 * k) + 2) L := sc_in (j := 2) (by decide) (by omega) hL
  refine lv_aload_n hx hb dL_law_501 rfl (lv_at hl 1 rfl) ?_
  refine lv_aload_n hx hb dL_law_502 rfl (lv_at hl 0 rfl) ?_
  refine lv_iload_n hx hb dL_law_503 rfl (lv_at hl 3 rfl) ?_
  refine lv_iconst (v := 1) hx hb dL_law_504 (by decide) ?_
  refine lv_iadd hx hb dL_law_505 ?_
  refine z_sld hx hb hX hbl hbA hZ1.2.2 i1 e1 dL_law_506 ?_
  refine lv_aload_n hx hb dL_law_507 rfl (lv_at hl 0 rfl) ?_
  refine lv_iload_n hx hb dL_law_508 rfl (lv_at hl 3 rfl) ?_
  refine lv_iconst (v := 2) hx hb dL_law_509 (by decide) ?_
  refine lv_iadd hx hb dL_law_510 ?_
  refine z_sld hx hb hX hbl hbA hZ1.2.2 i2 e2 dL_law_511 ?_
  refine z_call2 (va_runV (As := [.int x1, .int x2]) (rest := []) ⟨hx, hb, hml, hown, hts⟩ (c_X9_let l D cT _ _ S X _ _ _ _ _ _ k x1 x2 hF hS) (cwV 2 hts gL_law_X9_let rfl rfl rfl (by decide +kernel) ⟨(Nat.le_of_ble_eq_true rfl), (Nat.le_of_ble_eq_true rfl)⟩) (z_preV hK hE hZ1 hA (ci := 9) rfl (f00 hF)) rfl rfl hl.1 rfl (lv_room (Nat.le_of_ble_eq_true rfl)) dL_law_512 ⟨(by show 35 + 4 * k + 0 ≤ 600000; omega), (by show 3700 + 312 * k + 0 ≤ 7302250; omega)⟩) hZ1 hA hZ2 hD (fun r G1' H locs hq hZ1 hZ2 hD => ?_)
  obtain ⟨hF1, rfl⟩ := hq
  refine W.eq (g2 := F0 m 515 ls [.int (sp_let S x1 x2).1]) rfl ?_
  refine lv_aload_n hx hb dL_law_515 rfl (lv_at hl 2 rfl) ?_
  refine lv_aload_n hx hb dL_law_516 rfl (lv_at hl 0 rfl) ?_
  refine lv_iload_n hx hb dL_law_517 rfl (lv_at hl 3 rfl) ?_
  refine lv_iconst (v := 1) hx hb dL_law_518 (by decide) ?_
  refine lv_iadd hx hb dL_law_519 ?_
  refine z_sld hx hb hX hbl hbA hZ1.2.2 i1 e1 dL_law_520 ?_
  refine lv_aload_n hx hb dL_law_521 rfl (lv_at hl 0 rfl) ?_
  refine lv_iload_n hx hb dL_law_522 rfl (lv_at hl 3 rfl) ?_
  refine lv_iconst (v := 2) hx hb dL_law_523 (by decide) ?_
  refine lv_iadd hx hb dL_law_524 ?_
  refine z_sld hx hb hX hbl hbA hZ1.2.2 i2 e2 dL_law_525 ?_
  refine z_call2 (va_runV (As := [.int x1, .int x2]) (rest := [.int (sp_let S x1 x2).1]) ⟨hx, hb, hml, hown, hts⟩ (c_X10_let l D cT _ _ S Y _ _ _ k x1 x2 hM hXI hS) (cwV 2 hts gL_law_X10_let rfl rfl rfl (by decide +kernel) ⟨(Nat.le_of_ble_eq_true rfl), (Nat.le_of_ble_eq_true rfl)⟩) (z_preV hK hE hZ2 hA (ci := 10) rfl hM.1) rfl rfl hl.1 rfl (lv_room (Nat.le_of_ble_eq_true rfl)) dL_law_526 ⟨(by show 35 + 4 * k + 0 + 0 ≤ 600000; omega), (by show 3700 + 312 * k + 0 + 0 ≤ 7302250; omega)⟩) hZ2 hA hZ1 hD.sym (fun r G2' H locs hq hZ2 hZ1 hD => ?_)
  obtain ⟨hM1, rfl⟩ := hq
  refine W.eq (g2 := F0 m 529 ls [.int (sp_let S x1 x2).1, .int (sp_let S x1 x2).1]) rfl ?_
  exact lv_icmp_eq (tgt := 795) hx hb dL_law_529 (by decide) (fun _ => W.widen (k := 35 + 4 * (k + 1)) (n := 3700 + 312 * (k + 1)) (by show 35 + 4 * k + 0 + 0 ≤ 35 + 4 * (k + 1); omega) (by show 3700 + 312 * k + 0 + 0 ≤ 3700 + 312 * (k + 1); omega) (nx ((sp_let S x1 x2).2) _ _ _ _ (on_let hS n1 x1 x2) ⟨hF1, hM1, hXI, hZ1, hZ2, hD.sym⟩)) (fun h => absurd rfl h)
set_option maxHeartbeats 4000000 in
set_option maxRecDepth 100000 in
theorem lw_c_ask {p : Program} {l : Launch} {e : Env} {s : State} {m : MethodId} {below : List Frame} {meth : Method} {c : Code} {D : va_G} {cT : Nat → ClassId} {b L : Nat} {xs : Nat → Int32} (hL : L ≤ 4608) (C0 : lw_At p s m meth c b L xs) (hK : va_K D vwCl (zT cT) s) (hE : zE (fun q => s.heap.size ≤ q) s) {k : Nat} (hk : 9 * k + 9 ≤ L) {S : zS} {a1 : Nat} {Y : Nat → Nat} {G1 G2 : zG} {H : Heap} {locs : List Loc} {ls : Array Slot} (hS : ok S k) (J : lwJ D cT s S a1 Y G1 G2 H locs) (hl : lv_has ls 4 [(0, .ref b), (1, .ref a1), (2, .ref (Y 0)), (3, .int (nI (9 * k)))])
    (nx : ∀ (S' : zS) (G1' G2' : zG) (H' : Heap) (locs' : List Loc), ok S' (k + 1) → lwJ D cT s S' a1 Y G1' G2' H' locs' → W p l e room_1 s m #[Value.ref b] below meth c H' locs' (35 + 4 * (k + 1)) (3700 + 312 * (k + 1)) (lw_Z below #[Value.ref b] s) (F0 m 795 ls [])) : W p l e room_1 s m #[Value.ref b] below meth c H locs (35 + 4 * k) (3700 + 312 * k) (lw_Z below #[Value.ref b] s) (F0 m 534 ls []) := by
  obtain ⟨hx, hb, hr, hml, hown, hts, hX, hbl, hlocks, hgv⟩ := C0
  have hts := fun w h => hts w (wsL_law_in w h)
  have hown : s.vm.findClass RL = some m.cls := hown
  have hA : ∀ q, s.heap.size ≤ q → (fun q => s.heap.size ≤ q) q := fun _ h => h
  have hbA : ¬ (fun q => s.heap.size ≤ q) b := Nat.not_le.mpr hbl
  obtain ⟨⟨X, rfl, ct, md, sc, rp, fo, fd, hF⟩, ⟨cz, f27, f29, hM⟩, hXI, hZ1, hZ2, hD⟩ := J
  have n1 : k + 1 < 1000000 := by omega
  obtain ⟨x1, e1⟩ : ∃ x, xs (nI (9 * k) + 1).toNatClampNeg = x := ⟨_, rfl⟩
  have i1 : vp_in (nI (9 * k) + 1) L := sc_in (j := 1) (by decide) (by omega) hL
  refine lv_aload_n hx hb dL_law_534 rfl (lv_at hl 1 rfl) ?_
  refine lv_aload_n hx hb dL_law_535 rfl (lv_at hl 0 rfl) ?_
  refine lv_iload_n hx hb dL_law_536 rfl (lv_at hl 3 rfl) ?_
  refine lv_iconst (v := 1) hx hb dL_law_537 (by decide) ?_
  refine lv_iadd hx hb dL_law_538 ?_
  refine z_sld hx hb hX hbl hbA hZ1.2.2 i1 e1 dL_law_539 ?_
  refine z_call2 (va_runV (As := [.int x1]) (rest := []) ⟨hx, hb, hml, hown, hts⟩ (c_X9_ask l D cT _ _ S X _ _ _ _ _ _ k x1 hF hS) (cwV 1 hts gL_law_X9_ask rfl rfl rfl (by decide +kernel) ⟨(Nat.le_of_ble_eq_true rfl), (Nat.le_of_ble_eq_true rfl)⟩) (z_preV hK hE hZ1 hA (ci := 9) rfl (f00 hF)) rfl rfl hl.1 rfl (lv_room (Nat.le_of_ble_eq_true rfl)) dL_law_540 ⟨(by show 35 + 4 * k + 1 ≤ 600000; omega), (by show 3700 + 312 * k + 9 ≤ 7302250; omega)⟩) hZ1 hA hZ2 hD (fun r G1' H locs hq hZ1 hZ2 hD => ?_)
  obtain ⟨hF1, rfl⟩ := hq
  refine W.eq (g2 := F0 m 543 ls [.int (sp_ask S x1).1]) rfl ?_
  refine lv_aload_n hx hb dL_law_543 rfl (lv_at hl 2 rfl) ?_
  refine lv_aload_n hx hb dL_law_544 rfl (lv_at hl 0 rfl) ?_
  refine lv_iload_n hx hb dL_law_545 rfl (lv_at hl 3 rfl) ?_
  refine lv_iconst (v := 1) hx hb dL_law_546 (by decide) ?_
  refine lv_iadd hx hb dL_law_547 ?_
  refine z_sld hx hb hX hbl hbA hZ1.2.2 i1 e1 dL_law_548 ?_
  refine z_call2 (va_runV (As := [.int x1]) (rest := [.int (sp_ask S x1).1]) ⟨hx, hb, hml, hown, hts⟩ (c_X10_ask l D cT _ _ S Y _ _ _ k x1 hM hXI hS) (cwV 1 hts gL_law_X10_ask rfl rfl rfl (by decide +kernel) ⟨(Nat.le_of_ble_eq_true rfl), (Nat.le_of_ble_eq_true rfl)⟩) (z_preV hK hE hZ2 hA (ci := 10) rfl hM.1) rfl rfl hl.1 rfl (lv_room (Nat.le_of_ble_eq_true rfl)) dL_law_549 ⟨(by show 35 + 4 * k + 1 + 0 ≤ 600000; omega), (by show 3700 + 312 * k + 9 + 0 ≤ 7302250; omega)⟩) hZ2 hA hZ1 hD.sym (fun r G2' H locs hq hZ2 hZ1 hD => ?_)
  obtain ⟨hM1, rfl⟩ := hq
  refine W.eq (g2 := F0 m 552 ls [.int (sp_ask S x1).1, .int (sp_ask S x1).1]) rfl ?_
  exact lv_icmp_eq (tgt := 795) hx hb dL_law_552 (by decide) (fun _ => W.widen (k := 35 + 4 * (k + 1)) (n := 3700 + 312 * (k + 1)) (by show 35 + 4 * k + 1 + 0 ≤ 35 + 4 * (k + 1); omega) (by show 3700 + 312 * k + 9 + 0 ≤ 3700 + 312 * (k + 1); omega) (nx ((sp_ask S x1).2) _ _ _ _ (on_ask hS n1 x1) ⟨hF1, hM1, hXI, hZ1, hZ2, hD.sym⟩)) (fun h => absurd rfl h)
set_option maxHeartbeats 4000000 in
set_option maxRecDepth 100000 in
theorem lw_c_open {p : Program} {l : Launch} {e : Env} {s : State} {m : MethodId} {below : List Frame} {meth : Method} {c : Code} {D : va_G} {cT : Nat → ClassId} {b L : Nat} {xs : Nat → Int32} (hL : L ≤ 4608) (C0 : lw_At p s m meth c b L xs) (hK : va_K D vwCl (zT cT) s) (hE : zE (fun q => s.heap.size ≤ q) s) {k : Nat} (hk : 9 * k + 9 ≤ L) {S : zS} {a1 : Nat} {Y : Nat → Nat} {G1 G2 : zG} {H : Heap} {locs : List Loc} {ls : Array Slot} (hS : ok S k) (J : lwJ D cT s S a1 Y G1 G2 H locs) (hl : lv_has ls 4 [(0, .ref b), (1, .ref a1), (2, .ref (Y 0)), (3, .int (nI (9 * k)))])
    (nx : ∀ (S' : zS) (G1' G2' : zG) (H' : Heap) (locs' : List Loc), ok S' (k + 1) → lwJ D cT s S' a1 Y G1' G2' H' locs' → W p l e room_1 s m #[Value.ref b] below meth c H' locs' (35 + 4 * (k + 1)) (3700 + 312 * (k + 1)) (lw_Z below #[Value.ref b] s) (F0 m 795 ls [])) : W p l e room_1 s m #[Value.ref b] below meth c H locs (35 + 4 * k) (3700 + 312 * k) (lw_Z below #[Value.ref b] s) (F0 m 557 ls []) := by
  obtain ⟨hx, hb, hr, hml, hown, hts, hX, hbl, hlocks, hgv⟩ := C0
  have hts := fun w h => hts w (wsL_law_in w h)
  have hown : s.vm.findClass RL = some m.cls := hown
  have hA : ∀ q, s.heap.size ≤ q → (fun q => s.heap.size ≤ q) q := fun _ h => h
  have hbA : ¬ (fun q => s.heap.size ≤ q) b := Nat.not_le.mpr hbl
  obtain ⟨⟨X, rfl, ct, md, sc, rp, fo, fd, hF⟩, ⟨cz, f27, f29, hM⟩, hXI, hZ1, hZ2, hD⟩ := J
  have n1 : k + 1 < 1000000 := by omega
  obtain ⟨x1, e1⟩ : ∃ x, xs (nI (9 * k) + 1).toNatClampNeg = x := ⟨_, rfl⟩
  have i1 : vp_in (nI (9 * k) + 1) L := sc_in (j := 1) (by decide) (by omega) hL
  refine lv_aload_n hx hb dL_law_557 rfl (lv_at hl 1 rfl) ?_
  refine lv_aload_n hx hb dL_law_558 rfl (lv_at hl 0 rfl) ?_
  refine lv_iload_n hx hb dL_law_559 rfl (lv_at hl 3 rfl) ?_
  refine lv_iconst (v := 1) hx hb dL_law_560 (by decide) ?_
  refine lv_iadd hx hb dL_law_561 ?_
  refine z_sld hx hb hX hbl hbA hZ1.2.2 i1 e1 dL_law_562 ?_
  refine z_call2 (va_runV (As := [.int x1]) (rest := []) ⟨hx, hb, hml, hown, hts⟩ (c_X9_open l D cT _ _ S X _ _ _ _ _ _ k x1 hF hS) (cwV 1 hts gL_law_X9_open rfl rfl rfl (by decide +kernel) ⟨(Nat.le_of_ble_eq_true rfl), (Nat.le_of_ble_eq_true rfl)⟩) (z_preV hK hE hZ1 hA (ci := 9) rfl (f00 hF)) rfl rfl hl.1 rfl (lv_room (Nat.le_of_ble_eq_true rfl)) dL_law_563 ⟨(by show 35 + 4 * k + 0 ≤ 600000; omega), (by show 3700 + 312 * k + 0 ≤ 7302250; omega)⟩) hZ1 hA hZ2 hD (fun r G1' H locs hq hZ1 hZ2 hD => ?_)
  obtain ⟨hF1, rfl⟩ := hq
  refine W.eq (g2 := F0 m 566 ls [.int (sp_open S x1).1]) rfl ?_
  refine lv_aload_n hx hb dL_law_566 rfl (lv_at hl 2 rfl) ?_
  refine lv_aload_n hx hb dL_law_567 rfl (lv_at hl 0 rfl) ?_
  refine lv_iload_n hx hb dL_law_568 rfl (lv_at hl 3 rfl) ?_
  refine lv_iconst (v := 1) hx hb dL_law_569 (by decide) ?_
  refine lv_iadd hx hb dL_law_570 ?_
  refine z_sld hx hb hX hbl hbA hZ1.2.2 i1 e1 dL_law_571 ?_
  refine z_call2 (va_runV (As := [.int x1]) (rest := [.int (sp_open S x1).1]) ⟨hx, hb, hml, hown, hts⟩ (c_X10_open l D cT _ _ S Y _ _ _ k x1 hM hXI hS) (cwV 1 hts gL_law_X10_open rfl rfl rfl (by decide +kernel) ⟨(Nat.le_of_ble_eq_true rfl), (Nat.le_of_ble_eq_true rfl)⟩) (z_preV hK hE hZ2 hA (ci := 10) rfl hM.1) rfl rfl hl.1 rfl (lv_room (Nat.le_of_ble_eq_true rfl)) dL_law_572 ⟨(by show 35 + 4 * k + 0 + 0 ≤ 600000; omega), (by show 3700 + 312 * k + 0 + 0 ≤ 7302250; omega)⟩) hZ2 hA hZ1 hD.sym (fun r G2' H locs hq hZ2 hZ1 hD => ?_)
  obtain ⟨hM1, rfl⟩ := hq
  refine W.eq (g2 := F0 m 575 ls [.int (sp_open S x1).1, .int (sp_open S x1).1]) rfl ?_
  exact lv_icmp_eq (tgt := 795) hx hb dL_law_575 (by decide) (fun _ => W.widen (k := 35 + 4 * (k + 1)) (n := 3700 + 312 * (k + 1)) (by show 35 + 4 * k + 0 + 0 ≤ 35 + 4 * (k + 1); omega) (by show 3700 + 312 * k + 0 + 0 ≤ 3700 + 312 * (k + 1); omega) (nx ((sp_open S x1).2) _ _ _ _ (on_open hS n1 x1) ⟨hF1, hM1, hXI, hZ1, hZ2, hD.sym⟩)) (fun h => absurd rfl h)
set_option maxHeartbeats 4000000 in
set_option maxRecDepth 100000 in
theorem lw_c_appeal {p : Program} {l : Launch} {e : Env} {s : State} {m : MethodId} {below : List Frame} {meth : Method} {c : Code} {D : va_G} {cT : Nat → ClassId} {b L : Nat} {xs : Nat → Int32} (hL : L ≤ 4608) (C0 : lw_At p s m meth c b L xs) (hK : va_K D vwCl (zT cT) s) (hE : zE (fun q => s.heap.size ≤ q) s) {k : Nat} (hk : 9 * k + 9 ≤ L) {S : zS} {a1 : Nat} {Y : Nat → Nat} {G1 G2 : zG} {H : Heap} {locs : List Loc} {ls : Array Slot} (hS : ok S k) (J : lwJ D cT s S a1 Y G1 G2 H locs) (hl : lv_has ls 4 [(0, .ref b), (1, .ref a1), (2, .ref (Y 0)), (3, .int (nI (9 * k)))])
    (nx : ∀ (S' : zS) (G1' G2' : zG) (H' : Heap) (locs' : List Loc), ok S' (k + 1) → lwJ D cT s S' a1 Y G1' G2' H' locs' → W p l e room_1 s m #[Value.ref b] below meth c H' locs' (35 + 4 * (k + 1)) (3700 + 312 * (k + 1)) (lw_Z below #[Value.ref b] s) (F0 m 795 ls [])) : W p l e room_1 s m #[Value.ref b] below meth c H locs (35 + 4 * k) (3700 + 312 * k) (lw_Z below #[Value.ref b] s) (F0 m 580 ls []) := by
  obtain ⟨hx, hb, hr, hml, hown, hts, hX, hbl, hlocks, hgv⟩ := C0
  have hts := fun w h => hts w (wsL_law_in w h)
  have hown : s.vm.findClass RL = some m.cls := hown
  have hA : ∀ q, s.heap.size ≤ q → (fun q => s.heap.size ≤ q) q := fun _ h => h
  have hbA : ¬ (fun q => s.heap.size ≤ q) b := Nat.not_le.mpr hbl
  obtain ⟨⟨X, rfl, ct, md, sc, rp, fo, fd, hF⟩, ⟨cz, f27, f29, hM⟩, hXI, hZ1, hZ2, hD⟩ := J
  have n1 : k + 1 < 1000000 := by omega
  obtain ⟨x1, e1⟩ : ∃ x, xs (nI (9 * k) + 1).toNatClampNeg = x := ⟨_, rfl⟩
  have i1 : vp_in (nI (9 * k) + 1) L := sc_in (j := 1) (by decide) (by omega) hL
  refine lv_aload_n hx hb dL_law_580 rfl (lv_at hl 1 rfl) ?_
  refine lv_aload_n hx hb dL_law_581 rfl (lv_at hl 0 rfl) ?_
  refine lv_iload_n hx hb dL_law_582 rfl (lv_at hl 3 rfl) ?_
  refine lv_iconst (v := 1) hx hb dL_law_583 (by decide) ?_
  refine lv_iadd hx hb dL_law_584 ?_
  refine z_sld hx hb hX hbl hbA hZ1.2.2 i1 e1 dL_law_585 ?_
  refine z_call2 (va_runV (As := [.int x1]) (rest := []) ⟨hx, hb, hml, hown, hts⟩ (c_X9_appeal l D cT _ _ S X _ _ _ _ _ _ k x1 hF hS) (cwV 1 hts gL_law_X9_appeal rfl rfl rfl (by decide +kernel) ⟨(Nat.le_of_ble_eq_true rfl), (Nat.le_of_ble_eq_true rfl)⟩) (z_preV hK hE hZ1 hA (ci := 9) rfl (f00 hF)) rfl rfl hl.1 rfl (lv_room (Nat.le_of_ble_eq_true rfl)) dL_law_586 ⟨(by show 35 + 4 * k + 0 ≤ 600000; omega), (by show 3700 + 312 * k + 0 ≤ 7302250; omega)⟩) hZ1 hA hZ2 hD (fun r G1' H locs hq hZ1 hZ2 hD => ?_)
  obtain ⟨hF1, rfl⟩ := hq
  refine W.eq (g2 := F0 m 589 ls [.int (sp_appeal S x1).1]) rfl ?_
  refine lv_aload_n hx hb dL_law_589 rfl (lv_at hl 2 rfl) ?_
  refine lv_aload_n hx hb dL_law_590 rfl (lv_at hl 0 rfl) ?_
  refine lv_iload_n hx hb dL_law_591 rfl (lv_at hl 3 rfl) ?_
  refine lv_iconst (v := 1) hx hb dL_law_592 (by decide) ?_
  refine lv_iadd hx hb dL_law_593 ?_
  refine z_sld hx hb hX hbl hbA hZ1.2.2 i1 e1 dL_law_594 ?_
  refine z_call2 (va_runV (As := [.int x1]) (rest := [.int (sp_appeal S x1).1]) ⟨hx, hb, hml, hown, hts⟩ (c_X10_appeal l D cT _ _ S Y _ _ _ k x1 hM hXI hS) (cwV 1 hts gL_law_X10_appeal rfl rfl rfl (by decide +kernel) ⟨(Nat.le_of_ble_eq_true rfl), (Nat.le_of_ble_eq_true rfl)⟩) (z_preV hK hE hZ2 hA (ci := 10) rfl hM.1) rfl rfl hl.1 rfl (lv_room (Nat.le_of_ble_eq_true rfl)) dL_law_595 ⟨(by show 35 + 4 * k + 0 + 0 ≤ 600000; omega), (by show 3700 + 312 * k + 0 + 0 ≤ 7302250; omega)⟩) hZ2 hA hZ1 hD.sym (fun r G2' H locs hq hZ2 hZ1 hD => ?_)
  obtain ⟨hM1, rfl⟩ := hq
  refine W.eq (g2 := F0 m 598 ls [.int (sp_appeal S x1).1, .int (sp_appeal S x1).1]) rfl ?_
  exact lv_icmp_eq (tgt := 795) hx hb dL_law_598 (by decide) (fun _ => W.widen (k := 35 + 4 * (k + 1)) (n := 3700 + 312 * (k + 1)) (by show 35 + 4 * k + 0 + 0 ≤ 35 + 4 * (k + 1); omega) (by show 3700 + 312 * k + 0 + 0 ≤ 3700 + 312 * (k + 1); omega) (nx ((sp_appeal S x1).2) _ _ _ _ (on_appeal hS n1 x1) ⟨hF1, hM1, hXI, hZ1, hZ2, hD.sym⟩)) (fun h => absurd rfl h)
set_option maxHeartbeats 4000000 in
set_option maxRecDepth 100000 in
theorem lw_c_entry {p : Program} {l : Launch} {e : Env} {s : State} {m : MethodId} {below : List Frame} {meth : Method} {c : Code} {D : va_G} {cT : Nat → ClassId} {b L : Nat} {xs : Nat → Int32} (hL : L ≤ 4608) (C0 : lw_At p s m meth c b L xs) (hK : va_K D vwCl (zT cT) s) (hE : zE (fun q => s.heap.size ≤ q) s) {k : Nat} (hk : 9 * k + 9 ≤ L) {S : zS} {a1 : Nat} {Y : Nat → Nat} {G1 G2 : zG} {H : Heap} {locs : List Loc} {ls : Array Slot} (hS : ok S k) (J : lwJ D cT s S a1 Y G1 G2 H locs) (hl : lv_has ls 4 [(0, .ref b), (1, .ref a1), (2, .ref (Y 0)), (3, .int (nI (9 * k)))])
    (nx : ∀ (S' : zS) (G1' G2' : zG) (H' : Heap) (locs' : List Loc), ok S' (k + 1) → lwJ D cT s S' a1 Y G1' G2' H' locs' → W p l e room_1 s m #[Value.ref b] below meth c H' locs' (35 + 4 * (k + 1)) (3700 + 312 * (k + 1)) (lw_Z below #[Value.ref b] s) (F0 m 795 ls [])) : W p l e room_1 s m #[Value.ref b] below meth c H locs (35 + 4 * k) (3700 + 312 * k) (lw_Z below #[Value.ref b] s) (F0 m 603 ls []) := by
  obtain ⟨hx, hb, hr, hml, hown, hts, hX, hbl, hlocks, hgv⟩ := C0
  have hts := fun w h => hts w (wsL_law_in w h)
  have hown : s.vm.findClass RL = some m.cls := hown
  have hA : ∀ q, s.heap.size ≤ q → (fun q => s.heap.size ≤ q) q := fun _ h => h
  have hbA : ¬ (fun q => s.heap.size ≤ q) b := Nat.not_le.mpr hbl
  obtain ⟨⟨X, rfl, ct, md, sc, rp, fo, fd, hF⟩, ⟨cz, f27, f29, hM⟩, hXI, hZ1, hZ2, hD⟩ := J
  have n1 : k + 1 < 1000000 := by omega
  obtain ⟨x1, e1⟩ : ∃ x, xs (nI (9 * k) + 1).toNatClampNeg = x := ⟨_, rfl⟩
  have i1 : vp_in (nI (9 * k) + 1) L := sc_in (j := 1) (by decide) (by omega) hL
  obtain ⟨x2, e2⟩ : ∃ x, xs (nI (9 * k) + 2).toNatClampNeg = x := ⟨_, rfl⟩
  have i2 : vp_in (nI (9 * k) + 2) L := sc_in (j := 2) (by decide) (by omega) hL
  refine lv_aload_n hx hb dL_law_603 rfl (lv_at hl 1 rfl) ?_
  refine lv_aload_n hx hb dL_law_604 rfl (lv_at hl 0 rfl) ?_
  refine lv_iload_n hx hb dL_law_605 rfl (lv_at hl 3 rfl) ?_
  refine lv_iconst (v := 1) hx hb dL_law_606 (by decide) ?_
  refine lv_iadd hx hb dL_law_607 ?_
  refine z_sld hx hb hX hbl hbA hZ1.2.2 i1 e1 dL_law_608 ?_
  refine lv_aload_n hx hb dL_law_609 rfl (lv_at hl 0 rfl) ?_
  refine lv_iload_n hx hb dL_law_610 rfl (lv_at hl 3 rfl) ?_
  refine lv_iconst (v := 2) hx hb dL_law_611 (by decide) ?_
  refine lv_iadd hx hb dL_law_612 ?_
  refine z_sld hx hb hX hbl hbA hZ1.2.2 i2 e2 dL_law_613 ?_
  refine z_call2 (va_runV (As := [.int x1, .int x2]) (rest := []) ⟨hx, hb, hml, hown, hts⟩ (c_X9_entry l D cT _ _ S X _ _ _ _ _ _ k x1 x2 hF hS) (cwV 2 hts gL_law_X9_entry rfl rfl rfl (by decide +kernel) ⟨(Nat.le_of_ble_eq_true rfl), (Nat.le_of_ble_eq_true rfl)⟩) (z_preV hK hE hZ1 hA (ci := 9) rfl (f00 hF)) rfl rfl hl.1 rfl (lv_room (Nat.le_of_ble_eq_true rfl)) dL_law_614 ⟨(by show 35 + 4 * k + 0 ≤ 600000; omega), (by show 3700 + 312 * k + 0 ≤ 7302250; omega)⟩) hZ1 hA hZ2 hD (fun r G1' H locs hq hZ1 hZ2 hD => ?_)
  obtain ⟨hF1, rfl⟩ := hq
  refine W.eq (g2 := F0 m 617 ls [.int (sp_entry S x1 x2).1]) rfl ?_
  refine lv_aload_n hx hb dL_law_617 rfl (lv_at hl 2 rfl) ?_
  refine lv_aload_n hx hb dL_law_618 rfl (lv_at hl 0 rfl) ?_
  refine lv_iload_n hx hb dL_law_619 rfl (lv_at hl 3 rfl) ?_
  refine lv_iconst (v := 1) hx hb dL_law_620 (by decide) ?_
  refine lv_iadd hx hb dL_law_621 ?_
  refine z_sld hx hb hX hbl hbA hZ1.2.2 i1 e1 dL_law_622 ?_
  refine lv_aload_n hx hb dL_law_623 rfl (lv_at hl 0 rfl) ?_
  refine lv_iload_n hx hb dL_law_624 rfl (lv_at hl 3 rfl) ?_
  refine lv_iconst (v := 2) hx hb dL_law_625 (by decide) ?_
  refine lv_iadd hx hb dL_law_626 ?_
  refine z_sld hx hb hX hbl hbA hZ1.2.2 i2 e2 dL_law_627 ?_
  refine z_call2 (va_runV (As := [.int x1, .int x2]) (rest := [.int (sp_entry S x1 x2).1]) ⟨hx, hb, hml, hown, hts⟩ (c_X10_entry l D cT _ _ S Y _ _ _ k x1 x2 hM hXI hS) (cwV 2 hts gL_law_X10_entry rfl rfl rfl (by decide +kernel) ⟨(Nat.le_of_ble_eq_true rfl), (Nat.le_of_ble_eq_true rfl)⟩) (z_preV hK hE hZ2 hA (ci := 10) rfl hM.1) rfl rfl hl.1 rfl (lv_room (Nat.le_of_ble_eq_true rfl)) dL_law_628 ⟨(by show 35 + 4 * k + 0 + 0 ≤ 600000; omega), (by show 3700 + 312 * k + 0 + 0 ≤ 7302250; omega)⟩) hZ2 hA hZ1 hD.sym (fun r G2' H locs hq hZ2 hZ1 hD => ?_)
  obtain ⟨hM1, rfl⟩ := hq
  refine W.eq (g2 := F0 m 631 ls [.int (sp_entry S x1 x2).1, .int (sp_entry S x1 x2).1]) rfl ?_
  exact lv_icmp_eq (tgt := 795) hx hb dL_law_631 (by decide) (fun _ => W.widen (k := 35 + 4 * (k + 1)) (n := 3700 + 312 * (k + 1)) (by show 35 + 4 * k + 0 + 0 ≤ 35 + 4 * (k + 1); omega) (by show 3700 + 312 * k + 0 + 0 ≤ 3700 + 312 * (k + 1); omega) (nx ((sp_entry S x1 x2).2) _ _ _ _ (on_entry hS n1 x1 x2) ⟨hF1, hM1, hXI, hZ1, hZ2, hD.sym⟩)) (fun h => absurd rfl h)
set_option maxHeartbeats 4000000 in
set_option maxRecDepth 100000 in
theorem lw_c_latest {p : Program} {l : Launch} {e : Env} {s : State} {m : MethodId} {below : List Frame} {meth : Method} {c : Code} {D : va_G} {cT : Nat → ClassId} {b L : Nat} {xs : Nat → Int32} (hL : L ≤ 4608) (C0 : lw_At p s m meth c b L xs) (hK : va_K D vwCl (zT cT) s) (hE : zE (fun q => s.heap.size ≤ q) s) {k : Nat} (hk : 9 * k + 9 ≤ L) {S : zS} {a1 : Nat} {Y : Nat → Nat} {G1 G2 : zG} {H : Heap} {locs : List Loc} {ls : Array Slot} (hS : ok S k) (J : lwJ D cT s S a1 Y G1 G2 H locs) (hl : lv_has ls 4 [(0, .ref b), (1, .ref a1), (2, .ref (Y 0)), (3, .int (nI (9 * k)))])
    (nx : ∀ (S' : zS) (G1' G2' : zG) (H' : Heap) (locs' : List Loc), ok S' (k + 1) → lwJ D cT s S' a1 Y G1' G2' H' locs' → W p l e room_1 s m #[Value.ref b] below meth c H' locs' (35 + 4 * (k + 1)) (3700 + 312 * (k + 1)) (lw_Z below #[Value.ref b] s) (F0 m 795 ls [])) : W p l e room_1 s m #[Value.ref b] below meth c H locs (35 + 4 * k) (3700 + 312 * k) (lw_Z below #[Value.ref b] s) (F0 m 636 ls []) := by
  obtain ⟨hx, hb, hr, hml, hown, hts, hX, hbl, hlocks, hgv⟩ := C0
  have hts := fun w h => hts w (wsL_law_in w h)
  have hown : s.vm.findClass RL = some m.cls := hown
  have hA : ∀ q, s.heap.size ≤ q → (fun q => s.heap.size ≤ q) q := fun _ h => h
  have hbA : ¬ (fun q => s.heap.size ≤ q) b := Nat.not_le.mpr hbl
  obtain ⟨⟨X, rfl, ct, md, sc, rp, fo, fd, hF⟩, ⟨cz, f27, f29, hM⟩, hXI, hZ1, hZ2, hD⟩ := J
  have n1 : k + 1 < 1000000 := by omega
  obtain ⟨x1, e1⟩ : ∃ x, xs (nI (9 * k) + 1).toNatClampNeg = x := ⟨_, rfl⟩
  have i1 : vp_in (nI (9 * k) + 1) L := sc_in (j := 1) (by decide) (by omega) hL
  refine lv_aload_n hx hb dL_law_636 rfl (lv_at hl 1 rfl) ?_
  refine lv_aload_n hx hb dL_law_637 rfl (lv_at hl 0 rfl) ?_
  refine lv_iload_n hx hb dL_law_638 rfl (lv_at hl 3 rfl) ?_
  refine lv_iconst (v := 1) hx hb dL_law_639 (by decide) ?_
  refine lv_iadd hx hb dL_law_640 ?_
  refine z_sld hx hb hX hbl hbA hZ1.2.2 i1 e1 dL_law_641 ?_
  refine z_call2 (va_runV (As := [.int x1]) (rest := []) ⟨hx, hb, hml, hown, hts⟩ (c_X9_latest l D cT _ _ S X _ _ _ _ _ _ k x1 hF hS) (cwV 1 hts gL_law_X9_latest rfl rfl rfl (by decide +kernel) ⟨(Nat.le_of_ble_eq_true rfl), (Nat.le_of_ble_eq_true rfl)⟩) (z_preV hK hE hZ1 hA (ci := 9) rfl (f00 hF)) rfl rfl hl.1 rfl (lv_room (Nat.le_of_ble_eq_true rfl)) dL_law_642 ⟨(by show 35 + 4 * k + 0 ≤ 600000; omega), (by show 3700 + 312 * k + 0 ≤ 7302250; omega)⟩) hZ1 hA hZ2 hD (fun r G1' H locs hq hZ1 hZ2 hD => ?_)
  obtain ⟨hF1, rfl⟩ := hq
  refine W.eq (g2 := F0 m 645 ls [.int (sp_latest S x1).1]) rfl ?_
  refine lv_aload_n hx hb dL_law_645 rfl (lv_at hl 2 rfl) ?_
  refine lv_aload_n hx hb dL_law_646 rfl (lv_at hl 0 rfl) ?_
  refine lv_iload_n hx hb dL_law_647 rfl (lv_at hl 3 rfl) ?_
  refine lv_iconst (v := 1) hx hb dL_law_648 (by decide) ?_
  refine lv_iadd hx hb dL_law_649 ?_
  refine z_sld hx hb hX hbl hbA hZ1.2.2 i1 e1 dL_law_650 ?_
  refine z_call2 (va_runV (As := [.int x1]) (rest := [.int (sp_latest S x1).1]) ⟨hx, hb, hml, hown, hts⟩ (c_X10_latest l D cT _ _ S Y _ _ _ k x1 hM hXI hS) (cwV 1 hts gL_law_X10_latest rfl rfl rfl (by decide +kernel) ⟨(Nat.le_of_ble_eq_true rfl), (Nat.le_of_ble_eq_true rfl)⟩) (z_preV hK hE hZ2 hA (ci := 10) rfl hM.1) rfl rfl hl.1 rfl (lv_room (Nat.le_of_ble_eq_true rfl)) dL_law_651 ⟨(by show 35 + 4 * k + 0 + 0 ≤ 600000; omega), (by show 3700 + 312 * k + 0 + 0 ≤ 7302250; omega)⟩) hZ2 hA hZ1 hD.sym (fun r G2' H locs hq hZ2 hZ1 hD => ?_)
  obtain ⟨hM1, rfl⟩ := hq
  refine W.eq (g2 := F0 m 654 ls [.int (sp_latest S x1).1, .int (sp_latest S x1).1]) rfl ?_
  exact lv_icmp_eq (tgt := 795) hx hb dL_law_654 (by decide) (fun _ => W.widen (k := 35 + 4 * (k + 1)) (n := 3700 + 312 * (k + 1)) (by show 35 + 4 * k + 0 + 0 ≤ 35 + 4 * (k + 1); omega) (by show 3700 + 312 * k + 0 + 0 ≤ 3700 + 312 * (k + 1); omega) (nx ((sp_latest S x1).2) _ _ _ _ (on_latest hS n1 x1) ⟨hF1, hM1, hXI, hZ1, hZ2, hD.sym⟩)) (fun h => absurd rfl h)
set_option maxHeartbeats 4000000 in
set_option maxRecDepth 100000 in
theorem lw_c_due {p : Program} {l : Launch} {e : Env} {s : State} {m : MethodId} {below : List Frame} {meth : Method} {c : Code} {D : va_G} {cT : Nat → ClassId} {b L : Nat} {xs : Nat → Int32} (hL : L ≤ 4608) (C0 : lw_At p s m meth c b L xs) (hK : va_K D vwCl (zT cT) s) (hE : zE (fun q => s.heap.size ≤ q) s) {k : Nat} (hk : 9 * k + 9 ≤ L) {S : zS} {a1 : Nat} {Y : Nat → Nat} {G1 G2 : zG} {H : Heap} {locs : List Loc} {ls : Array Slot} (hS : ok S k) (J : lwJ D cT s S a1 Y G1 G2 H locs) (hl : lv_has ls 4 [(0, .ref b), (1, .ref a1), (2, .ref (Y 0)), (3, .int (nI (9 * k)))])
    (nx : ∀ (S' : zS) (G1' G2' : zG) (H' : Heap) (locs' : List Loc), ok S' (k + 1) → lwJ D cT s S' a1 Y G1' G2' H' locs' → W p l e room_1 s m #[Value.ref b] below meth c H' locs' (35 + 4 * (k + 1)) (3700 + 312 * (k + 1)) (lw_Z below #[Value.ref b] s) (F0 m 795 ls [])) : W p l e room_1 s m #[Value.ref b] below meth c H locs (35 + 4 * k) (3700 + 312 * k) (lw_Z below #[Value.ref b] s) (F0 m 659 ls []) := by
  obtain ⟨hx, hb, hr, hml, hown, hts, hX, hbl, hlocks, hgv⟩ := C0
  have hts := fun w h => hts w (wsL_law_in w h)
  have hown : s.vm.findClass RL = some m.cls := hown
  have hA : ∀ q, s.heap.size ≤ q → (fun q => s.heap.size ≤ q) q := fun _ h => h
  have hbA : ¬ (fun q => s.heap.size ≤ q) b := Nat.not_le.mpr hbl
  obtain ⟨⟨X, rfl, ct, md, sc, rp, fo, fd, hF⟩, ⟨cz, f27, f29, hM⟩, hXI, hZ1, hZ2, hD⟩ := J
  have n1 : k + 1 < 1000000 := by omega
  obtain ⟨x1, e1⟩ : ∃ x, xs (nI (9 * k) + 1).toNatClampNeg = x := ⟨_, rfl⟩
  have i1 : vp_in (nI (9 * k) + 1) L := sc_in (j := 1) (by decide) (by omega) hL
  obtain ⟨x2, e2⟩ : ∃ x, xs (nI (9 * k) + 2).toNatClampNeg = x := ⟨_, rfl⟩
  have i2 : vp_in (nI (9 * k) + 2) L := sc_in (j := 2) (by decide) (by omega) hL
  refine lv_aload_n hx hb dL_law_659 rfl (lv_at hl 1 rfl) ?_
  refine lv_aload_n hx hb dL_law_660 rfl (lv_at hl 0 rfl) ?_
  refine lv_iload_n hx hb dL_law_661 rfl (lv_at hl 3 rfl) ?_
  refine lv_iconst (v := 1) hx hb dL_law_662 (by decide) ?_
  refine lv_iadd hx hb dL_law_663 ?_
  refine z_sld hx hb hX hbl hbA hZ1.2.2 i1 e1 dL_law_664 ?_
  refine lv_aload_n hx hb dL_law_665 rfl (lv_at hl 0 rfl) ?_
  refine lv_iload_n hx hb dL_law_666 rfl (lv_at hl 3 rfl) ?_
  refine lv_iconst (v := 2) hx hb dL_law_667 (by decide) ?_
  refine lv_iadd hx hb dL_law_668 ?_
  refine z_sld hx hb hX hbl hbA hZ1.2.2 i2 e2 dL_law_669 ?_
  refine z_call2 (va_runV (As := [.int x1, .int x2]) (rest := []) ⟨hx, hb, hml, hown, hts⟩ (c_X9_due l D cT _ _ S X _ _ _ _ _ _ k x1 x2 hF hS) (cwV 2 hts gL_law_X9_due rfl rfl rfl (by decide +kernel) ⟨(Nat.le_of_ble_eq_true rfl), (Nat.le_of_ble_eq_true rfl)⟩) (z_preV hK hE hZ1 hA (ci := 9) rfl (f00 hF)) rfl rfl hl.1 rfl (lv_room (Nat.le_of_ble_eq_true rfl)) dL_law_670 ⟨(by show 35 + 4 * k + 0 ≤ 600000; omega), (by show 3700 + 312 * k + 0 ≤ 7302250; omega)⟩) hZ1 hA hZ2 hD (fun r G1' H locs hq hZ1 hZ2 hD => ?_)
  obtain ⟨hF1, rfl⟩ := hq
  refine W.eq (g2 := F0 m 673 ls [.int (sp_due S x1 x2).1]) rfl ?_
  refine lv_aload_n hx hb dL_law_673 rfl (lv_at hl 2 rfl) ?_
  refine lv_aload_n hx hb dL_law_674 rfl (lv_at hl 0 rfl) ?_
  refine lv_iload_n hx hb dL_law_675 rfl (lv_at hl 3 rfl) ?_
  refine lv_iconst (v := 1) hx hb dL_law_676 (by decide) ?_
  refine lv_iadd hx hb dL_law_677 ?_
  refine z_sld hx hb hX hbl hbA hZ1.2.2 i1 e1 dL_law_678 ?_
  refine lv_aload_n hx hb dL_law_679 rfl (lv_at hl 0 rfl) ?_
  refine lv_iload_n hx hb dL_law_680 rfl (lv_at hl 3 rfl) ?_
  refine lv_iconst (v := 2) hx hb dL_law_681 (by decide) ?_
  refine lv_iadd hx hb dL_law_682 ?_
  refine z_sld hx hb hX hbl hbA hZ1.2.2 i2 e2 dL_law_683 ?_
  refine z_call2 (va_runV (As := [.int x1, .int x2]) (rest := [.int (sp_due S x1 x2).1]) ⟨hx, hb, hml, hown, hts⟩ (c_X10_due l D cT _ _ S Y _ _ _ k x1 x2 hM hXI hS) (cwV 2 hts gL_law_X10_due rfl rfl rfl (by decide +kernel) ⟨(Nat.le_of_ble_eq_true rfl), (Nat.le_of_ble_eq_true rfl)⟩) (z_preV hK hE hZ2 hA (ci := 10) rfl hM.1) rfl rfl hl.1 rfl (lv_room (Nat.le_of_ble_eq_true rfl)) dL_law_684 ⟨(by show 35 + 4 * k + 0 + 0 ≤ 600000; omega), (by show 3700 + 312 * k + 0 + 0 ≤ 7302250; omega)⟩) hZ2 hA hZ1 hD.sym (fun r G2' H locs hq hZ2 hZ1 hD => ?_)
  obtain ⟨hM1, rfl⟩ := hq
  refine W.eq (g2 := F0 m 687 ls [.int (sp_due S x1 x2).1, .int (sp_due S x1 x2).1]) rfl ?_
  exact lv_icmp_eq (tgt := 795) hx hb dL_law_687 (by decide) (fun _ => W.widen (k := 35 + 4 * (k + 1)) (n := 3700 + 312 * (k + 1)) (by show 35 + 4 * k + 0 + 0 ≤ 35 + 4 * (k + 1); omega) (by show 3700 + 312 * k + 0 + 0 ≤ 3700 + 312 * (k + 1); omega) (nx ((sp_due S x1 x2).2) _ _ _ _ (on_due hS n1 x1 x2) ⟨hF1, hM1, hXI, hZ1, hZ2, hD.sym⟩)) (fun h => absurd rfl h)
set_option maxHeartbeats 4000000 in
set_option maxRecDepth 100000 in
theorem lw_c_pay {p : Program} {l : Launch} {e : Env} {s : State} {m : MethodId} {below : List Frame} {meth : Method} {c : Code} {D : va_G} {cT : Nat → ClassId} {b L : Nat} {xs : Nat → Int32} (hL : L ≤ 4608) (C0 : lw_At p s m meth c b L xs) (hK : va_K D vwCl (zT cT) s) (hE : zE (fun q => s.heap.size ≤ q) s) {k : Nat} (hk : 9 * k + 9 ≤ L) {S : zS} {a1 : Nat} {Y : Nat → Nat} {G1 G2 : zG} {H : Heap} {locs : List Loc} {ls : Array Slot} (hS : ok S k) (J : lwJ D cT s S a1 Y G1 G2 H locs) (hl : lv_has ls 4 [(0, .ref b), (1, .ref a1), (2, .ref (Y 0)), (3, .int (nI (9 * k)))])
    (nx : ∀ (S' : zS) (G1' G2' : zG) (H' : Heap) (locs' : List Loc), ok S' (k + 1) → lwJ D cT s S' a1 Y G1' G2' H' locs' → W p l e room_1 s m #[Value.ref b] below meth c H' locs' (35 + 4 * (k + 1)) (3700 + 312 * (k + 1)) (lw_Z below #[Value.ref b] s) (F0 m 795 ls [])) : W p l e room_1 s m #[Value.ref b] below meth c H locs (35 + 4 * k) (3700 + 312 * k) (lw_Z below #[Value.ref b] s) (F0 m 692 ls []) := by
  obtain ⟨hx, hb, hr, hml, hown, hts, hX, hbl, hlocks, hgv⟩ := C0
  have hts := fun w h => hts w (wsL_law_in w h)
  have hown : s.vm.findClass RL = some m.cls := hown
  have hA : ∀ q, s.heap.size ≤ q → (fun q => s.heap.size ≤ q) q := fun _ h => h
  have hbA : ¬ (fun q => s.heap.size ≤ q) b := Nat.not_le.mpr hbl
  obtain ⟨⟨X, rfl, ct, md, sc, rp, fo, fd, hF⟩, ⟨cz, f27, f29, hM⟩, hXI, hZ1, hZ2, hD⟩ := J
  have n1 : k + 1 < 1000000 := by omega
  obtain ⟨x1, e1⟩ : ∃ x, xs (nI (9 * k) + 1).toNatClampNeg = x := ⟨_, rfl⟩
  have i1 : vp_in (nI (9 * k) + 1) L := sc_in (j := 1) (by decide) (by omega) hL
  obtain ⟨x2, e2⟩ : ∃ x, xs (nI (9 * k) + 2).toNatClampNeg = x := ⟨_, rfl⟩
  have i2 : vp_in (nI (9 * k) + 2) L := sc_in (j := 2) (by decide) (by omega) hL
  refine lv_aload_n hx hb dL_law_692 rfl (lv_at hl 1 rfl) ?_
  refine lv_aload_n hx hb dL_law_693 rfl (lv_at hl 0 rfl) ?_
  refine lv_iload_n hx hb dL_law_694 rfl (lv_at hl 3 rfl) ?_
  refine lv_iconst (v := 1) hx hb dL_law_695 (by decide) ?_
  refine lv_iadd hx hb dL_law_696 ?_
  refine z_sld hx hb hX hbl hbA hZ1.2.2 i1 e1 dL_law_697 ?_
  refine lv_aload_n hx hb dL_law_698 rfl (lv_at hl 0 rfl) ?_
  refine lv_iload_n hx hb dL_law_699 rfl (lv_at hl 3 rfl) ?_
  refine lv_iconst (v := 2) hx hb dL_law_700 (by decide) ?_
  refine lv_iadd hx hb dL_law_701 ?_
  refine z_sld hx hb hX hbl hbA hZ1.2.2 i2 e2 dL_law_702 ?_
  refine z_call2 (va_runV (As := [.int x1, .int x2]) (rest := []) ⟨hx, hb, hml, hown, hts⟩ (c_X9_pay l D cT _ _ S X _ _ _ _ _ _ k x1 x2 hF hS) (cwV 2 hts gL_law_X9_pay rfl rfl rfl (by decide +kernel) ⟨(Nat.le_of_ble_eq_true rfl), (Nat.le_of_ble_eq_true rfl)⟩) (z_preV hK hE hZ1 hA (ci := 9) rfl (f00 hF)) rfl rfl hl.1 rfl (lv_room (Nat.le_of_ble_eq_true rfl)) dL_law_703 ⟨(by show 35 + 4 * k + 0 ≤ 600000; omega), (by show 3700 + 312 * k + 0 ≤ 7302250; omega)⟩) hZ1 hA hZ2 hD (fun r G1' H locs hq hZ1 hZ2 hD => ?_)
  obtain ⟨hF1, rfl⟩ := hq
  refine W.eq (g2 := F0 m 706 ls [.int (sp_pay S x1 x2).1]) rfl ?_
  refine lv_aload_n hx hb dL_law_706 rfl (lv_at hl 2 rfl) ?_
  refine lv_aload_n hx hb dL_law_707 rfl (lv_at hl 0 rfl) ?_
  refine lv_iload_n hx hb dL_law_708 rfl (lv_at hl 3 rfl) ?_
  refine lv_iconst (v := 1) hx hb dL_law_709 (by decide) ?_
  refine lv_iadd hx hb dL_law_710 ?_
  refine z_sld hx hb hX hbl hbA hZ1.2.2 i1 e1 dL_law_711 ?_
  refine lv_aload_n hx hb dL_law_712 rfl (lv_at hl 0 rfl) ?_
  refine lv_iload_n hx hb dL_law_713 rfl (lv_at hl 3 rfl) ?_
  refine lv_iconst (v := 2) hx hb dL_law_714 (by decide) ?_
  refine lv_iadd hx hb dL_law_715 ?_
  refine z_sld hx hb hX hbl hbA hZ1.2.2 i2 e2 dL_law_716 ?_
  refine z_call2 (va_runV (As := [.int x1, .int x2]) (rest := [.int (sp_pay S x1 x2).1]) ⟨hx, hb, hml, hown, hts⟩ (c_X10_pay l D cT _ _ S Y _ _ _ k x1 x2 hM hXI hS) (cwV 2 hts gL_law_X10_pay rfl rfl rfl (by decide +kernel) ⟨(Nat.le_of_ble_eq_true rfl), (Nat.le_of_ble_eq_true rfl)⟩) (z_preV hK hE hZ2 hA (ci := 10) rfl hM.1) rfl rfl hl.1 rfl (lv_room (Nat.le_of_ble_eq_true rfl)) dL_law_717 ⟨(by show 35 + 4 * k + 0 + 0 ≤ 600000; omega), (by show 3700 + 312 * k + 0 + 0 ≤ 7302250; omega)⟩) hZ2 hA hZ1 hD.sym (fun r G2' H locs hq hZ2 hZ1 hD => ?_)
  obtain ⟨hM1, rfl⟩ := hq
  refine W.eq (g2 := F0 m 720 ls [.int (sp_pay S x1 x2).1, .int (sp_pay S x1 x2).1]) rfl ?_
  exact lv_icmp_eq (tgt := 795) hx hb dL_law_720 (by decide) (fun _ => W.widen (k := 35 + 4 * (k + 1)) (n := 3700 + 312 * (k + 1)) (by show 35 + 4 * k + 0 + 0 ≤ 35 + 4 * (k + 1); omega) (by show 3700 + 312 * k + 0 + 0 ≤ 3700 + 312 * (k + 1); omega) (nx ((sp_pay S x1 x2).2) _ _ _ _ (on_pay hS n1 x1 x2) ⟨hF1, hM1, hXI, hZ1, hZ2, hD.sym⟩)) (fun h => absurd rfl h)
set_option maxHeartbeats 4000000 in
set_option maxRecDepth 100000 in
theorem lw_c_owed {p : Program} {l : Launch} {e : Env} {s : State} {m : MethodId} {below : List Frame} {meth : Method} {c : Code} {D : va_G} {cT : Nat → ClassId} {b L : Nat} {xs : Nat → Int32} (hL : L ≤ 4608) (C0 : lw_At p s m meth c b L xs) (hK : va_K D vwCl (zT cT) s) (hE : zE (fun q => s.heap.size ≤ q) s) {k : Nat} (hk : 9 * k + 9 ≤ L) {S : zS} {a1 : Nat} {Y : Nat → Nat} {G1 G2 : zG} {H : Heap} {locs : List Loc} {ls : Array Slot} (hS : ok S k) (J : lwJ D cT s S a1 Y G1 G2 H locs) (hl : lv_has ls 4 [(0, .ref b), (1, .ref a1), (2, .ref (Y 0)), (3, .int (nI (9 * k)))])
    (nx : ∀ (S' : zS) (G1' G2' : zG) (H' : Heap) (locs' : List Loc), ok S' (k + 1) → lwJ D cT s S' a1 Y G1' G2' H' locs' → W p l e room_1 s m #[Value.ref b] below meth c H' locs' (35 + 4 * (k + 1)) (3700 + 312 * (k + 1)) (lw_Z below #[Value.ref b] s) (F0 m 795 ls [])) : W p l e room_1 s m #[Value.ref b] below meth c H locs (35 + 4 * k) (3700 + 312 * k) (lw_Z below #[Value.ref b] s) (F0 m 725 ls []) := by
  obtain ⟨hx, hb, hr, hml, hown, hts, hX, hbl, hlocks, hgv⟩ := C0
  have hts := fun w h => hts w (wsL_law_in w h)
  have hown : s.vm.findClass RL = some m.cls := hown
  have hA : ∀ q, s.heap.size ≤ q → (fun q => s.heap.size ≤ q) q := fun _ h => h
  have hbA : ¬ (fun q => s.heap.size ≤ q) b := Nat.not_le.mpr hbl
  obtain ⟨⟨X, rfl, ct, md, sc, rp, fo, fd, hF⟩, ⟨cz, f27, f29, hM⟩, hXI, hZ1, hZ2, hD⟩ := J
  have n1 : k + 1 < 1000000 := by omega
  obtain ⟨x1, e1⟩ : ∃ x, xs (nI (9 * k) + 1).toNatClampNeg = x := ⟨_, rfl⟩
  have i1 : vp_in (nI (9 * k) + 1) L := sc_in (j := 1) (by decide) (by omega) hL
  obtain ⟨x2, e2⟩ : ∃ x, xs (nI (9 * k) + 2).toNatClampNeg = x := ⟨_, rfl⟩
  have i2 : vp_in (nI (9 * k) + 2) L := sc_in (j := 2) (by decide) (by omega) hL
  refine lv_aload_n hx hb dL_law_725 rfl (lv_at hl 1 rfl) ?_
  refine lv_aload_n hx hb dL_law_726 rfl (lv_at hl 0 rfl) ?_
  refine lv_iload_n hx hb dL_law_727 rfl (lv_at hl 3 rfl) ?_
  refine lv_iconst (v := 1) hx hb dL_law_728 (by decide) ?_
  refine lv_iadd hx hb dL_law_729 ?_
  refine z_sld hx hb hX hbl hbA hZ1.2.2 i1 e1 dL_law_730 ?_
  refine lv_aload_n hx hb dL_law_731 rfl (lv_at hl 0 rfl) ?_
  refine lv_iload_n hx hb dL_law_732 rfl (lv_at hl 3 rfl) ?_
  refine lv_iconst (v := 2) hx hb dL_law_733 (by decide) ?_
  refine lv_iadd hx hb dL_law_734 ?_
  refine z_sld hx hb hX hbl hbA hZ1.2.2 i2 e2 dL_law_735 ?_
  refine z_call2 (va_runV (As := [.int x1, .int x2]) (rest := []) ⟨hx, hb, hml, hown, hts⟩ (c_X9_owed l D cT _ _ S X _ _ _ _ _ _ k x1 x2 hF hS) (cwV 2 hts gL_law_X9_owed rfl rfl rfl (by decide +kernel) ⟨(Nat.le_of_ble_eq_true rfl), (Nat.le_of_ble_eq_true rfl)⟩) (z_preV hK hE hZ1 hA (ci := 9) rfl (f00 hF)) rfl rfl hl.1 rfl (lv_room (Nat.le_of_ble_eq_true rfl)) dL_law_736 ⟨(by show 35 + 4 * k + 0 ≤ 600000; omega), (by show 3700 + 312 * k + 0 ≤ 7302250; omega)⟩) hZ1 hA hZ2 hD (fun r G1' H locs hq hZ1 hZ2 hD => ?_)
  obtain ⟨hF1, rfl⟩ := hq
  refine W.eq (g2 := F0 m 739 ls [.int (sp_owed S x1 x2).1]) rfl ?_
  refine lv_aload_n hx hb dL_law_739 rfl (lv_at hl 2 rfl) ?_
  refine lv_aload_n hx hb dL_law_740 rfl (lv_at hl 0 rfl) ?_
  refine lv_iload_n hx hb dL_law_741 rfl (lv_at hl 3 rfl) ?_
  refine lv_iconst (v := 1) hx hb dL_law_742 (by decide) ?_
  refine lv_iadd hx hb dL_law_743 ?_
  refine z_sld hx hb hX hbl hbA hZ1.2.2 i1 e1 dL_law_744 ?_
  refine lv_aload_n hx hb dL_law_745 rfl (lv_at hl 0 rfl) ?_
  refine lv_iload_n hx hb dL_law_746 rfl (lv_at hl 3 rfl) ?_
  refine lv_iconst (v := 2) hx hb dL_law_747 (by decide) ?_
  refine lv_iadd hx hb dL_law_748 ?_
  refine z_sld hx hb hX hbl hbA hZ1.2.2 i2 e2 dL_law_749 ?_
  refine z_call2 (va_runV (As := [.int x1, .int x2]) (rest := [.int (sp_owed S x1 x2).1]) ⟨hx, hb, hml, hown, hts⟩ (c_X10_owed l D cT _ _ S Y _ _ _ k x1 x2 hM hXI hS) (cwV 2 hts gL_law_X10_owed rfl rfl rfl (by decide +kernel) ⟨(Nat.le_of_ble_eq_true rfl), (Nat.le_of_ble_eq_true rfl)⟩) (z_preV hK hE hZ2 hA (ci := 10) rfl hM.1) rfl rfl hl.1 rfl (lv_room (Nat.le_of_ble_eq_true rfl)) dL_law_750 ⟨(by show 35 + 4 * k + 0 + 0 ≤ 600000; omega), (by show 3700 + 312 * k + 0 + 0 ≤ 7302250; omega)⟩) hZ2 hA hZ1 hD.sym (fun r G2' H locs hq hZ2 hZ1 hD => ?_)
  obtain ⟨hM1, rfl⟩ := hq
  refine W.eq (g2 := F0 m 753 ls [.int (sp_owed S x1 x2).1, .int (sp_owed S x1 x2).1]) rfl ?_
  exact lv_icmp_eq (tgt := 795) hx hb dL_law_753 (by decide) (fun _ => W.widen (k := 35 + 4 * (k + 1)) (n := 3700 + 312 * (k + 1)) (by show 35 + 4 * k + 0 + 0 ≤ 35 + 4 * (k + 1); omega) (by show 3700 + 312 * k + 0 + 0 ≤ 3700 + 312 * (k + 1); omega) (nx ((sp_owed S x1 x2).2) _ _ _ _ (on_owed hS n1 x1 x2) ⟨hF1, hM1, hXI, hZ1, hZ2, hD.sym⟩)) (fun h => absurd rfl h)
set_option maxHeartbeats 4000000 in
set_option maxRecDepth 100000 in
theorem lw_c_count {p : Program} {l : Launch} {e : Env} {s : State} {m : MethodId} {below : List Frame} {meth : Method} {c : Code} {D : va_G} {cT : Nat → ClassId} {b L : Nat} {xs : Nat → Int32} (hL : L ≤ 4608) (C0 : lw_At p s m meth c b L xs) (hK : va_K D vwCl (zT cT) s) (hE : zE (fun q => s.heap.size ≤ q) s) {k : Nat} (hk : 9 * k + 9 ≤ L) {S : zS} {a1 : Nat} {Y : Nat → Nat} {G1 G2 : zG} {H : Heap} {locs : List Loc} {ls : Array Slot} (hS : ok S k) (J : lwJ D cT s S a1 Y G1 G2 H locs) (hl : lv_has ls 4 [(0, .ref b), (1, .ref a1), (2, .ref (Y 0)), (3, .int (nI (9 * k)))])
    (nx : ∀ (S' : zS) (G1' G2' : zG) (H' : Heap) (locs' : List Loc), ok S' (k + 1) → lwJ D cT s S' a1 Y G1' G2' H' locs' → W p l e room_1 s m #[Value.ref b] below meth c H' locs' (35 + 4 * (k + 1)) (3700 + 312 * (k + 1)) (lw_Z below #[Value.ref b] s) (F0 m 795 ls [])) : W p l e room_1 s m #[Value.ref b] below meth c H locs (35 + 4 * k) (3700 + 312 * k) (lw_Z below #[Value.ref b] s) (F0 m 758 ls []) := by
  obtain ⟨hx, hb, hr, hml, hown, hts, hX, hbl, hlocks, hgv⟩ := C0
  have hts := fun w h => hts w (wsL_law_in w h)
  have hown : s.vm.findClass RL = some m.cls := hown
  have hA : ∀ q, s.heap.size ≤ q → (fun q => s.heap.size ≤ q) q := fun _ h => h
  have hbA : ¬ (fun q => s.heap.size ≤ q) b := Nat.not_le.mpr hbl
  obtain ⟨⟨X, rfl, ct, md, sc, rp, fo, fd, hF⟩, ⟨cz, f27, f29, hM⟩, hXI, hZ1, hZ2, hD⟩ := J
  have n1 : k + 1 < 1000000 := by omega
  obtain ⟨x1, e1⟩ : ∃ x, xs (nI (9 * k) + 1).toNatClampNeg = x := ⟨_, rfl⟩
  have i1 : vp_in (nI (9 * k) + 1) L := sc_in (j := 1) (by decide) (by omega) hL
  refine lv_aload_n hx hb dL_law_758 rfl (lv_at hl 1 rfl) ?_
  refine lv_aload_n hx hb dL_law_759 rfl (lv_at hl 0 rfl) ?_
  refine lv_iload_n hx hb dL_law_760 rfl (lv_at hl 3 rfl) ?_
  refine lv_iconst (v := 1) hx hb dL_law_761 (by decide) ?_
  refine lv_iadd hx hb dL_law_762 ?_
  refine z_sld hx hb hX hbl hbA hZ1.2.2 i1 e1 dL_law_763 ?_
  refine z_call2 (va_runV (As := [.int x1]) (rest := []) ⟨hx, hb, hml, hown, hts⟩ (c_X9_count l D cT _ _ S X _ _ _ _ _ _ k x1 hF hS) (cwV 1 hts gL_law_X9_count rfl rfl rfl (by decide +kernel) ⟨(Nat.le_of_ble_eq_true rfl), (Nat.le_of_ble_eq_true rfl)⟩) (z_preV hK hE hZ1 hA (ci := 9) rfl (f00 hF)) rfl rfl hl.1 rfl (lv_room (Nat.le_of_ble_eq_true rfl)) dL_law_764 ⟨(by show 35 + 4 * k + 0 ≤ 600000; omega), (by show 3700 + 312 * k + 0 ≤ 7302250; omega)⟩) hZ1 hA hZ2 hD (fun r G1' H locs hq hZ1 hZ2 hD => ?_)
  obtain ⟨hF1, rfl⟩ := hq
  refine W.eq (g2 := F0 m 767 ls [.int (sp_count S x1).1]) rfl ?_
  refine lv_aload_n hx hb dL_law_767 rfl (lv_at hl 2 rfl) ?_
  refine lv_aload_n hx hb dL_law_768 rfl (lv_at hl 0 rfl) ?_
  refine lv_iload_n hx hb dL_law_769 rfl (lv_at hl 3 rfl) ?_
  refine lv_iconst (v := 1) hx hb dL_law_770 (by decide) ?_
  refine lv_iadd hx hb dL_law_771 ?_
  refine z_sld hx hb hX hbl hbA hZ1.2.2 i1 e1 dL_law_772 ?_
  refine z_call2 (va_runV (As := [.int x1]) (rest := [.int (sp_count S x1).1]) ⟨hx, hb, hml, hown, hts⟩ (c_X10_count l D cT _ _ S Y _ _ _ k x1 hM hXI hS) (cwV 1 hts gL_law_X10_count rfl rfl rfl (by decide +kernel) ⟨(Nat.le_of_ble_eq_true rfl), (Nat.le_of_ble_eq_true rfl)⟩) (z_preV hK hE hZ2 hA (ci := 10) rfl hM.1) rfl rfl hl.1 rfl (lv_room (Nat.le_of_ble_eq_true rfl)) dL_law_773 ⟨(by show 35 + 4 * k + 0 + 0 ≤ 600000; omega), (by show 3700 + 312 * k + 0 + 0 ≤ 7302250; omega)⟩) hZ2 hA hZ1 hD.sym (fun r G2' H locs hq hZ2 hZ1 hD => ?_)
  obtain ⟨hM1, rfl⟩ := hq
  refine W.eq (g2 := F0 m 776 ls [.int (sp_count S x1).1, .int (sp_count S x1).1]) rfl ?_
  exact lv_icmp_eq (tgt := 795) hx hb dL_law_776 (by decide) (fun _ => W.widen (k := 35 + 4 * (k + 1)) (n := 3700 + 312 * (k + 1)) (by show 35 + 4 * k + 0 + 0 ≤ 35 + 4 * (k + 1); omega) (by show 3700 + 312 * k + 0 + 0 ≤ 3700 + 312 * (k + 1); omega) (nx ((sp_count S x1).2) _ _ _ _ (on_count hS n1 x1) ⟨hF1, hM1, hXI, hZ1, hZ2, hD.sym⟩)) (fun h => absurd rfl h)
set_option maxHeartbeats 4000000 in
set_option maxRecDepth 100000 in
theorem lw_c_trace {p : Program} {l : Launch} {e : Env} {s : State} {m : MethodId} {below : List Frame} {meth : Method} {c : Code} {D : va_G} {cT : Nat → ClassId} {b L : Nat} {xs : Nat → Int32} (hL : L ≤ 4608) (C0 : lw_At p s m meth c b L xs) (hK : va_K D vwCl (zT cT) s) (hE : zE (fun q => s.heap.size ≤ q) s) {k : Nat} (hk : 9 * k + 9 ≤ L) {S : zS} {a1 : Nat} {Y : Nat → Nat} {G1 G2 : zG} {H : Heap} {locs : List Loc} {ls : Array Slot} (hS : ok S k) (J : lwJ D cT s S a1 Y G1 G2 H locs) (hl : lv_has ls 4 [(0, .ref b), (1, .ref a1), (2, .ref (Y 0)), (3, .int (nI (9 * k)))])
    (nx : ∀ (S' : zS) (G1' G2' : zG) (H' : Heap) (locs' : List Loc), ok S' (k + 1) → lwJ D cT s S' a1 Y G1' G2' H' locs' → W p l e room_1 s m #[Value.ref b] below meth c H' locs' (35 + 4 * (k + 1)) (3700 + 312 * (k + 1)) (lw_Z below #[Value.ref b] s) (F0 m 795 ls [])) : W p l e room_1 s m #[Value.ref b] below meth c H locs (35 + 4 * k) (3700 + 312 * k) (lw_Z below #[Value.ref b] s) (F0 m 781 ls []) := by
  obtain ⟨hx, hb, hr, hml, hown, hts, hX, hbl, hlocks, hgv⟩ := C0
  have hts := fun w h => hts w (wsL_law_in w h)
  have hown : s.vm.findClass RL = some m.cls := hown
  have hA : ∀ q, s.heap.size ≤ q → (fun q => s.heap.size ≤ q) q := fun _ h => h
  have hbA : ¬ (fun q => s.heap.size ≤ q) b := Nat.not_le.mpr hbl
  obtain ⟨⟨X, rfl, ct, md, sc, rp, fo, fd, hF⟩, ⟨cz, f27, f29, hM⟩, hXI, hZ1, hZ2, hD⟩ := J
  have n1 : k + 1 < 1000000 := by omega
  refine lv_aload_n hx hb dL_law_781 rfl (lv_at hl 1 rfl) ?_
  refine z_call2 (va_runV (As := []) (rest := []) ⟨hx, hb, hml, hown, hts⟩ (c_X9_trace l D cT _ _ S X _ _ _ _ _ _ k  hF hS) (cwV 0 hts gL_law_X9_trace rfl rfl rfl (by decide +kernel) ⟨(Nat.le_of_ble_eq_true rfl), (Nat.le_of_ble_eq_true rfl)⟩) (z_preV hK hE hZ1 hA (ci := 9) rfl (f00 hF)) rfl rfl hl.1 rfl (lv_room (Nat.le_of_ble_eq_true rfl)) dL_law_782 ⟨(by show 35 + 4 * k + 0 ≤ 600000; omega), (by show 3700 + 312 * k + 0 ≤ 7302250; omega)⟩) hZ1 hA hZ2 hD (fun r G1' H locs hq hZ1 hZ2 hD => ?_)
  obtain ⟨hF1, rfl⟩ := hq
  refine W.eq (g2 := F0 m 785 ls [.long S.2.2]) rfl ?_
  refine lv_aload_n hx hb dL_law_785 rfl (lv_at hl 2 rfl) ?_
  refine z_call2 (va_runV (As := []) (rest := [.long S.2.2]) ⟨hx, hb, hml, hown, hts⟩ (c_X10_trace l D cT _ _ S Y _ _ _ k  hM hXI hS) (cwV 0 hts gL_law_X10_trace rfl rfl rfl (by decide +kernel) ⟨(Nat.le_of_ble_eq_true rfl), (Nat.le_of_ble_eq_true rfl)⟩) (z_preV hK hE hZ2 hA (ci := 10) rfl hM.1) rfl rfl hl.1 rfl (lv_room (Nat.le_of_ble_eq_true rfl)) dL_law_786 ⟨(by show 35 + 4 * k + 0 + 0 ≤ 600000; omega), (by show 3700 + 312 * k + 0 + 0 ≤ 7302250; omega)⟩) hZ2 hA hZ1 hD.sym (fun r G2' H locs hq hZ2 hZ1 hD => ?_)
  obtain ⟨hM1, rfl⟩ := hq
  refine W.eq (g2 := F0 m 789 ls [.long S.2.2, .long S.2.2]) rfl ?_
  refine z_lcmp hx hb dL_law_789 ?_
  exact lv_if_eq (tgt := 795) hx hb dL_law_790 (by decide) (fun _ => W.widen (k := 35 + 4 * (k + 1)) (n := 3700 + 312 * (k + 1)) (by show 35 + 4 * k + 0 + 0 ≤ 35 + 4 * (k + 1); omega) (by show 3700 + 312 * k + 0 + 0 ≤ 3700 + 312 * (k + 1); omega) (nx S _ _ _ _ (ok_up hS n1) ⟨hF1, hM1, hXI, hZ1, hZ2, hD.sym⟩)) (fun h => absurd rfl h)

theorem lw_more {k L : Nat} (hL : L ≤ 4608) (hk : 9 * k ≤ L + 8) (h : ¬ Int32.ofNat L - 9 < nI (9 * k)) : 9 * k + 9 ≤ L := by
  have e0 : Int32.ofNat L = nI L := rfl
  rw [e0, i_lt] at h
  have e1 : (nI L - 9).toInt = (L : Int) - 9 := by
    rw [Int32.toInt_sub, nI_toInt (by omega), show (9 : Int32).toInt = 9 by decide]
    rw [Int.bmod_eq_of_le (by omega) (by omega)]
  rw [e1, nI_toInt (by omega)] at h
  omega
theorem sw20 (x : Int32) : x.toInt = 0 ∨ x.toInt = 1 ∨ x.toInt = 2 ∨ x.toInt = 3 ∨ x.toInt = 4 ∨ x.toInt = 5 ∨ x.toInt = 6 ∨ x.toInt = 7 ∨ x.toInt = 8 ∨ x.toInt = 9 ∨ x.toInt = 10 ∨ x.toInt = 11 ∨ x.toInt = 12 ∨ x.toInt = 13 ∨ x.toInt = 14 ∨ x.toInt = 15 ∨ x.toInt = 16 ∨ x.toInt = 17 ∨ x.toInt = 18 ∨ x.toInt = 19 ∨ (x.toInt < 0 ∨ 19 < x.toInt) := by omega
set_option maxHeartbeats 4000000 in
set_option maxRecDepth 100000 in
theorem lw_loop {p : Program} {l : Launch} {e : Env} {s : State} {m : MethodId} {below : List Frame} {meth : Method} {c : Code} {D : va_G} {cT : Nat → ClassId} {b L : Nat} {xs : Nat → Int32} (hL : L ≤ 4608) (C0 : lw_At p s m meth c b L xs) (hK : va_K D vwCl (zT cT) s) (hE : zE (fun q => s.heap.size ≤ q) s) : ∀ (n k : Nat), 9 * k ≤ L + 8 → L + 9 ≤ 9 * (k + n) → ∀ {S : zS} {a1 : Nat} {Y : Nat → Nat} {G1 G2 : zG} {H : Heap} {locs : List Loc} {ls : Array Slot}, ok S k → lwJ D cT s S a1 Y G1 G2 H locs → lv_has ls 4 [(0, .ref b), (1, .ref a1), (2, .ref (Y 0)), (3, .int (nI (9 * k)))] → W p l e room_1 s m #[Value.ref b] below meth c H locs (35 + 4 * k) (3700 + 312 * k) (lw_Z below #[Value.ref b] s) (F0 m 18 ls []) := by
  intro n
  induction n with
  | zero =>
    intro k h1 h2
    exact absurd h2 (by omega)
  | succ n ih =>
    intro k h1 h2 S a1 Y G1 G2 H locs ls hS J hl
    obtain ⟨hx, hb, hr, hml, hown, hts, hX, hbl, hlocks, hgv⟩ := id C0
    have hbA : ¬ (fun q => s.heap.size ≤ q) b := Nat.not_le.mpr hbl
    have hS0 := J.2.2.2.1.2.2
    refine lv_iload_n hx hb dL_law_18 rfl (lv_at hl 3 rfl) ?_
    refine lv_aload_n hx hb dL_law_19 rfl (lv_at hl 0 rfl) ?_
    refine va_slen hx hb hX hbl hbA hS0 dL_law_20 ?_
    refine lv_bipush (v := 9) hx hb dL_law_21 (by decide) ?_
    refine lv_isub hx hb dL_law_23 ?_
    refine lv_icmp_gt (tgt := 801) hx hb dL_law_24 (by decide) (fun c0 => ?_) (fun c0 => ?_)
    · refine lv_iconst (v := 1) hx hb dL_law_801 (by decide) ?_
      refine va_forget (fun q hq => hS0.2.2 q hq) ?_
      refine W.widen (k := 600000) (n := 7302250) (by omega) (by omega) ?_
      exact lw_ret hx hb hr hlocks dL_law_802
    have hk : 9 * k + 9 ≤ L := lw_more hL h1 c0
    have nx : ∀ (S' : zS) (G1' G2' : zG) (H' : Heap) (locs' : List Loc), ok S' (k + 1) → lwJ D cT s S' a1 Y G1' G2' H' locs' → W p l e room_1 s m #[Value.ref b] below meth c H' locs' (35 + 4 * (k + 1)) (3700 + 312 * (k + 1)) (lw_Z below #[Value.ref b] s) (F0 m 795 ls []) := by
      intro S' G1' G2' H' locs' hS' J'
      refine lv_iinc (v := nI (9 * (k + 1))) (lv' := [(3, .int (nI (9 * (k + 1)))), (0, .ref b), (1, .ref a1), (2, .ref (Y 0))]) hx hb dL_law_795 hl (k := 3) rfl (by show nI (9 * k) + nI 9 = nI (9 * (k + 1)); rw [nI_add]; rfl) (by decide) rfl (fun ls hl => ?_)
      refine lv_goto (tgt := 18) hx hb dL_law_798 (by decide) ?_
      exact ih (k + 1) (by omega) (by omega) hS' J' (lv_sub hl [1, 2, 3, 0] rfl)
    refine lv_aload_n hx hb dL_law_27 rfl (lv_at hl 0 rfl) ?_
    refine lv_iload_n hx hb dL_law_28 rfl (lv_at hl 3 rfl) ?_
    obtain ⟨x0, e0⟩ : ∃ x, xs (nI (9 * k)).toNatClampNeg = x := ⟨_, rfl⟩
    refine z_sld hx hb hX hbl hbA hS0 (vp_in_nI (by omega) (by omega)) e0 dL_law_29 ?_
    refine lv_bipush (v := 31) hx hb dL_law_30 (by decide) ?_
    refine lv_iand hx hb dL_law_32 ?_
    generalize x0 &&& 31 = w
    rcases sw20 w with q | q | q | q | q | q | q | q | q | q | q | q | q | q | q | q | q | q | q | q | q
    · exact lv_tableIn (tgt := 128) hx hb dL_law_33 (by rw [q]; decide) (by rw [q]; decide) (off := 95) (by rw [q]; rfl) (by decide) (lw_c_home hL C0 hK hE hk hS J hl nx)
    · exact lv_tableIn (tgt := 181) hx hb dL_law_33 (by rw [q]; decide) (by rw [q]; decide) (off := 148) (by rw [q]; rfl) (by decide) (lw_c_faults hL C0 hK hE hk hS J hl nx)
    · exact lv_tableIn (tgt := 214) hx hb dL_law_33 (by rw [q]; decide) (by rw [q]; decide) (off := 181) (by rw [q]; rfl) (by decide) (lw_c_points hL C0 hK hE hk hS J hl nx)
    · exact lv_tableIn (tgt := 237) hx hb dL_law_33 (by rw [q]; decide) (by rw [q]; decide) (off := 204) (by rw [q]; rfl) (by decide) (lw_c_law hL C0 hK hE hk hS J hl nx)
    · exact lv_tableIn (tgt := 336) hx hb dL_law_33 (by rw [q]; decide) (by rw [q]; decide) (off := 303) (by rw [q]; rfl) (by decide) (lw_c_force hL C0 hK hE hk hS J hl nx)
    · exact lv_tableIn (tgt := 369) hx hb dL_law_33 (by rw [q]; decide) (by rw [q]; decide) (off := 336) (by rw [q]; rfl) (by decide) (lw_c_like hL C0 hK hE hk hS J hl nx)
    · exact lv_tableIn (tgt := 412) hx hb dL_law_33 (by rw [q]; decide) (by rw [q]; decide) (off := 379) (by rw [q]; rfl) (by decide) (lw_c_strike hL C0 hK hE hk hS J hl nx)
    · exact lv_tableIn (tgt := 435) hx hb dL_law_33 (by rw [q]; decide) (by rw [q]; decide) (off := 402) (by rw [q]; rfl) (by decide) (lw_c_days hL C0 hK hE hk hS J hl nx)
    · exact lv_tableIn (tgt := 458) hx hb dL_law_33 (by rw [q]; decide) (by rw [q]; decide) (off := 425) (by rw [q]; rfl) (by decide) (lw_c_head hL C0 hK hE hk hS J hl nx)
    · exact lv_tableIn (tgt := 501) hx hb dL_law_33 (by rw [q]; decide) (by rw [q]; decide) (off := 468) (by rw [q]; rfl) (by decide) (lw_c_let hL C0 hK hE hk hS J hl nx)
    · exact lv_tableIn (tgt := 534) hx hb dL_law_33 (by rw [q]; decide) (by rw [q]; decide) (off := 501) (by rw [q]; rfl) (by decide) (lw_c_ask hL C0 hK hE hk hS J hl nx)
    · exact lv_tableIn (tgt := 557) hx hb dL_law_33 (by rw [q]; decide) (by rw [q]; decide) (off := 524) (by rw [q]; rfl) (by decide) (lw_c_open hL C0 hK hE hk hS J hl nx)
    · exact lv_tableIn (tgt := 580) hx hb dL_law_33 (by rw [q]; decide) (by rw [q]; decide) (off := 547) (by rw [q]; rfl) (by decide) (lw_c_appeal hL C0 hK hE hk hS J hl nx)
    · exact lv_tableIn (tgt := 603) hx hb dL_law_33 (by rw [q]; decide) (by rw [q]; decide) (off := 570) (by rw [q]; rfl) (by decide) (lw_c_entry hL C0 hK hE hk hS J hl nx)
    · exact lv_tableIn (tgt := 636) hx hb dL_law_33 (by rw [q]; decide) (by rw [q]; decide) (off := 603) (by rw [q]; rfl) (by decide) (lw_c_latest hL C0 hK hE hk hS J hl nx)
    · exact lv_tableIn (tgt := 659) hx hb dL_law_33 (by rw [q]; decide) (by rw [q]; decide) (off := 626) (by rw [q]; rfl) (by decide) (lw_c_due hL C0 hK hE hk hS J hl nx)
    · exact lv_tableIn (tgt := 692) hx hb dL_law_33 (by rw [q]; decide) (by rw [q]; decide) (off := 659) (by rw [q]; rfl) (by decide) (lw_c_pay hL C0 hK hE hk hS J hl nx)
    · exact lv_tableIn (tgt := 725) hx hb dL_law_33 (by rw [q]; decide) (by rw [q]; decide) (off := 692) (by rw [q]; rfl) (by decide) (lw_c_owed hL C0 hK hE hk hS J hl nx)
    · exact lv_tableIn (tgt := 758) hx hb dL_law_33 (by rw [q]; decide) (by rw [q]; decide) (off := 725) (by rw [q]; rfl) (by decide) (lw_c_count hL C0 hK hE hk hS J hl nx)
    · exact lv_tableIn (tgt := 781) hx hb dL_law_33 (by rw [q]; decide) (by rw [q]; decide) (off := 748) (by rw [q]; rfl) (by decide) (lw_c_trace hL C0 hK hE hk hS J hl nx)
    · exact lv_tableOut (tgt := 795) hx hb dL_law_33 q (by decide) (W.widen (k := 35 + 4 * (k + 1)) (n := 3700 + 312 * (k + 1)) (by omega) (by omega) (nx S G1 G2 H locs (ok_up hS (by omega)) J))

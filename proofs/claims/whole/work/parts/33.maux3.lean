def lav : Option Nat → Int32
  | none => -9
  | some e => nI e
theorem sp_latest_e {S : zS} {x : Int32} {j : Nat} (hh : hix S x = some j) : sp_latest S x = (lav (lat S j), S) := by
  rw [sp_latest, hh]
  show ((match lat S j with | none => -9 | some e => nI e), S) = _
  cases lat S j <;> rfl
theorem clc_no {S : zS} {j d i : Nat} {f0 f : Nat → Int32} {c : Nat} (h : ¬ (S.1 15 i = 0 ∧ S.2.1 11 i = nI (S.1 3 j) ∧ ¬ nI d < S.2.1 14 i)) (he : clc S j d f0 i = (f, c)) : clc S j d f0 (i + 1) = (f, c) := by
  rw [clc, if_neg h, he]
theorem clc_yes {S : zS} {j d i : Nat} {f0 f r : Nat → Int32} {c : Nat} (h : S.1 15 i = 0 ∧ S.2.1 11 i = nI (S.1 3 j) ∧ ¬ nI d < S.2.1 14 i) (he : clc S j d f0 i = (f, c)) (hr : insAt (vl S j d i) c f = r) : clc S j d f0 (i + 1) = (r, c + 1) := by
  rw [clc, if_pos h, he, ← hr]
theorem z_nl {a b : Int32} (c : a ≤ b) : ¬ b < a := fun h => by rw [i_le] at c; rw [i_lt] at h; omega
theorem z_lg {a b : Int32} (c : ¬ a ≤ b) : b < a := by rw [i_le] at c; rw [i_lt]; omega
theorem nI_dec (a : Nat) : nI (a + 1) + Int32.ofInt (-1) = nI a := by rw [nI_m1, nI_pred]
theorem clc_le (S : zS) (j d : Nat) (f : Nat → Int32) : ∀ n, (clc S j d f n).2 ≤ n
  | 0 => Nat.le_refl 0
  | n + 1 => by
    have ih := clc_le S j d f n
    by_cases h : S.1 15 n = 0 ∧ S.2.1 11 n = nI (S.1 3 j) ∧ ¬ nI d < S.2.1 14 n
    · rw [clc, if_pos h]; exact Nat.succ_le_succ ih
    · rw [clc, if_neg h]; exact Nat.le_succ_of_le ih
theorem insAt_agree (v : Int32) : ∀ (k : Nat) (f g : Nat → Int32) (n : Nat), k ≤ n → (∀ i, i < k → f i = g i) → (∀ i, k < i → i ≤ n → f i = g i) → ∀ i, i ≤ n → insAt v k f i = insAt v k g i
  | 0, f, g, n, _, _, h2, i, hi => by
    show upd f 0 v i = upd g 0 v i
    by_cases h0 : i = 0
    · simp [upd, h0]
    · simp only [upd, if_neg h0]; exact h2 i (by omega) hi
  | k + 1, f, g, n, hk, h1, h2, i, hi => by
    have hfg : f k = g k := h1 k (by omega)
    by_cases hv : v < f k
    · rw [insAt, if_pos hv, insAt, if_pos (by rw [← hfg]; exact hv)]
      refine insAt_agree v k _ _ n (by omega) (fun a ha => ?_) (fun a ha hb => ?_) i hi
      · simp only [upd, if_neg (show ¬ a = k + 1 by omega)]; exact h1 a (by omega)
      · by_cases hak : a = k + 1
        · simp only [upd, if_pos hak]; exact hfg
        · simp only [upd, if_neg hak]; exact h2 a (by omega) hb
    · rw [insAt, if_neg hv, insAt, if_neg (by rw [← hfg]; exact hv)]
      by_cases hak : i = k + 1
      · simp only [upd, if_pos hak]
      · simp only [upd, if_neg hak]
        rcases Nat.lt_or_ge i (k + 1) with q | q
        · exact h1 i q
        · exact h2 i (by omega) hi
theorem clc_agree (S : zS) (j d : Nat) (f g : Nat → Int32) : ∀ n, (clc S j d f n).2 = (clc S j d g n).2 ∧ ∀ k, k < (clc S j d f n).2 → (clc S j d f n).1 k = (clc S j d g n).1 k
  | 0 => ⟨rfl, fun k h => absurd h (Nat.not_lt_zero k)⟩
  | n + 1 => by
    obtain ⟨e1, e2⟩ := clc_agree S j d f g n
    by_cases h : S.1 15 n = 0 ∧ S.2.1 11 n = nI (S.1 3 j) ∧ ¬ nI d < S.2.1 14 n
    · rw [clc, if_pos h, clc, if_pos h]
      refine ⟨by show _ + 1 = _ + 1; rw [e1], fun k hk => ?_⟩
      show insAt _ _ _ k = insAt _ _ _ k
      have hk' : k < (clc S j d f n).2 + 1 := hk
      rw [← e1]
      exact insAt_agree _ _ _ _ (clc S j d f n).2 (Nat.le_refl _) e2 (fun i h1 h2 => absurd h1 (by omega)) k (by omega)
    · rw [clc, if_neg h, clc, if_neg h]
      exact ⟨e1, e2⟩
theorem h0_z {S : zS} {j d : Nat} (f : Nat → Int32) (h : (clc S j d f (S.1 10 0)).2 = 0) : (0 : Int32) = h0 S j d := by
  rw [h0, if_pos (by rw [hcnt, ← (clc_agree S j d f (fun _ => 0) (S.1 10 0)).1]; exact h)]
theorem h0_n {S : zS} {j d : Nat} (f : Nat → Int32) (h : ¬ (clc S j d f (S.1 10 0)).2 = 0) : (clc S j d f (S.1 10 0)).1 (((clc S j d f (S.1 10 0)).2 - 1) / 2) = h0 S j d := by
  obtain ⟨e1, e2⟩ := clc_agree S j d f (fun _ => 0) (S.1 10 0)
  rw [h0, if_neg (by rw [hcnt, ← e1]; exact h), hcnt, ← e1]
  exact e2 _ (by omega)
theorem h1_n {S : zS} {j d : Nat} (c : ¬ 0 ≤ h0 S j d) : (0 : Int32) = h1 S j d := by rw [h1, if_pos (z_lg c)]
theorem h1_p {S : zS} {j d : Nat} (c : 0 ≤ h0 S j d) : -(lw S d (S.1 3 j) * h0 S j d / 100) = h1 S j d := by rw [h1, if_neg (z_nl c)]
theorem h2_e {S : zS} {j d : Nat} : -lw S d 4 * S.2.1 6 j = h2 S j d := by rw [h2, Int32.neg_mul]
theorem hf_ix {c : Nat} (h : c < 1000) (hc : ¬ c = 0) : (nI c - 1) / 2 = nI ((c - 1) / 2) := by
  rw [nI_sub1 (by omega)]
  exact pk_div (d := 2) (by omega) (by decide) (by decide)
theorem hv_k {z : Int32} {w : Nat} (hw : w ≤ 4) (hz : z = nI w) {k : Nat} (hk : k ≤ 4) (c : z = nI k) : w = k := nI_inj (by omega) (by omega) (hz.symm.trans c)
theorem hv_0 {S : zS} {j d w : Nat} {z : Int32} (hw : w ≤ 4) (hz : z = nI w) (c : z = 0) : some (Value.int (h0 S j d)) = some (.int (hv S j d w)) := by
  have h := hv_k hw hz (k := 0) (by decide) c
  subst h; rfl
theorem hv_1 {S : zS} {j d w : Nat} {z : Int32} (hw : w ≤ 4) (hz : z = nI w) (c : z = 1) : some (Value.int (h1 S j d)) = some (.int (hv S j d w)) := by
  have h := hv_k hw hz (k := 1) (by decide) c
  subst h; rfl
theorem hv_2 {S : zS} {j d w : Nat} {z : Int32} (hw : w ≤ 4) (hz : z = nI w) (c : z = 2) : some (Value.int (h2 S j d)) = some (.int (hv S j d w)) := by
  have h := hv_k hw hz (k := 2) (by decide) c
  subst h; rfl
theorem hv_3a {S : zS} {j d w : Nat} {z : Int32} (hw : w ≤ 4) (hz : z = nI w) (c : z = 3) (c2 : ¬ 1 ≤ h0 S j d + h1 S j d + h2 S j d) : some (Value.int 1) = some (.int (hv S j d w)) := by
  have h := hv_k hw hz (k := 3) (by decide) c
  subst h
  show _ = some (Value.int (h3 S j d))
  rw [h3, if_neg (fun q => c2 (by rw [i_le]; rw [i_lt] at q; omega))]
theorem hv_3b {S : zS} {j d w : Nat} {z : Int32} (hw : w ≤ 4) (hz : z = nI w) (c : z = 3) (c2 : 1 ≤ h0 S j d + h1 S j d + h2 S j d) : some (Value.int (h0 S j d + h1 S j d + h2 S j d)) = some (.int (hv S j d w)) := by
  have h := hv_k hw hz (k := 3) (by decide) c
  subst h
  show _ = some (Value.int (h3 S j d))
  by_cases q : 1 < h0 S j d + h1 S j d + h2 S j d
  · rw [h3, if_pos q]
  · rw [h3, if_neg q]
    have e : h0 S j d + h1 S j d + h2 S j d = 1 := by
      apply Int32.toInt_inj.mp
      rw [i_le] at c2; rw [i_lt] at q; omega
    rw [e]
theorem hv_4 {S : zS} {j d w : Nat} {z : Int32} (f : Nat → Int32) (hw : w ≤ 4) (hz : z = nI w) (c0 : ¬ z = 0) (c1 : ¬ z = 1) (c2 : ¬ z = 2) (c3 : ¬ z = 3) : some (Value.int (nI (clc S j d f (S.1 10 0)).2)) = some (.int (hv S j d w)) := by
  have h : w = 4 := by
    have a0 : ¬ w = 0 := fun q => c0 (by rw [hz, q]; rfl)
    have a1 : ¬ w = 1 := fun q => c1 (by rw [hz, q]; rfl)
    have a2 : ¬ w = 2 := fun q => c2 (by rw [hz, q]; rfl)
    have a3 : ¬ w = 3 := fun q => c3 (by rw [hz, q]; rfl)
    omega
  subst h
  show _ = some (Value.int (nI (hcnt S j d)))
  rw [hcnt, (clc_agree S j d f (fun _ => 0) (S.1 10 0)).1]
theorem latS_some {S : zS} {j e : Nat} : ∀ {n : Nat}, latS S j n = some e → e < n ∧ S.1 21 e = j ∧ S.1 26 e = 0
  | 0, h => by cases h
  | n + 1, h => by
    rw [latS] at h
    by_cases c : S.1 21 n = j ∧ S.1 26 n = 0
    · rw [if_pos c] at h
      have h2 : n = e := Option.some.inj h
      rw [← h2]
      exact ⟨Nat.lt_succ_self n, c⟩
    · rw [if_neg c] at h
      obtain ⟨a, b⟩ := latS_some h
      exact ⟨Nat.lt_succ_of_lt a, b⟩
theorem lat_some {S : zS} {j e : Nat} (h : lat S j = some e) : e < S.1 20 0 ∧ S.1 21 e = j ∧ S.1 26 e = 0 := latS_some h
theorem op_t {t b : Int32} (c : t ≤ b) : some (Value.int b) = some (.int (if t < b then b else t)) := by
  by_cases q : t < b
  · rw [if_pos q]
  · rw [if_neg q]
    have e : t = b := by apply Int32.toInt_inj.mp; rw [i_le] at c; rw [i_lt] at q; omega
    rw [e]
theorem op_f {t b : Int32} (c : ¬ t ≤ b) : some (Value.int t) = some (.int (if t < b then b else t)) := by
  rw [if_neg (fun q => c (by rw [i_le]; rw [i_lt] at q; omega))]
theorem ap_t {t d : Nat} (w2 : d ≤ t) (k0 : t ≤ 300) (c : nI t - nI d ≤ 5) : ¬ d + 5 < t := by
  rw [pk_sub w2] at c
  have := (nI_leI (by omega) (by decide)).mp (show nI (t - d) ≤ nI 5 from c)
  omega
theorem ap_f {t d : Nat} (w2 : d ≤ t) (k0 : t ≤ 300) (c : ¬ nI t - nI d ≤ 5) : d + 5 < t := by
  rw [pk_sub w2] at c
  have : ¬ t - d ≤ 5 := fun q => c (nI_le q (by decide))
  omega
theorem bar_n {S : zS} {j : Nat} (h : lat S j = none) : (0 : Int32) = bar S j := by unfold bar; rw [h]
theorem bar_s {S : zS} {j e : Nat} (h : lat S j = some e) : nI (S.1 22 e) + lw S (S.1 22 e) 6 = bar S j := by unfold bar; rw [h]

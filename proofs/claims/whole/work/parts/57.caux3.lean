theorem lm_z {k : Nat} (h : k ≤ 12) (c : nI k ≤ 0) : k = 0 := by
  have := (nI_leI (by omega) (by decide)).mp (show nI k ≤ nI 0 from c)
  omega
theorem h0_w {S : zS} {j d : Nat} {fo f : Nat → Int32} {c : Nat} (hcl : (clc S j d fo (S.1 10 0)).2 = (clc S j d (fun _ => 0) (S.1 10 0)).2 ∧ ∀ k, k < (clc S j d fo (S.1 10 0)).2 → (clc S j d fo (S.1 10 0)).1 k = (clc S j d (fun _ => 0) (S.1 10 0)).1 k) (he : clc S j d fo (S.1 10 0) = (f, c)) : (if c = 0 then 0 else f ((c - 1) / 2)) = h0 S j d := by
  rw [he] at hcl
  obtain ⟨e1, e2⟩ := hcl
  have e1' : c = hcnt S j d := e1
  rw [h0, ← e1']
  by_cases q : c = 0
  · rw [if_pos q, if_pos q]
  · rw [if_neg q, if_neg q]
    exact e2 _ (by show (c - 1) / 2 < c; omega)
theorem cnt_w {S : zS} {j d : Nat} {fo f : Nat → Int32} {c : Nat} (hcl : (clc S j d fo (S.1 10 0)).2 = (clc S j d (fun _ => 0) (S.1 10 0)).2 ∧ ∀ k, k < (clc S j d fo (S.1 10 0)).2 → (clc S j d fo (S.1 10 0)).1 k = (clc S j d (fun _ => 0) (S.1 10 0)).1 k) (he : clc S j d fo (S.1 10 0) = (f, c)) : hcnt S j d = c := by
  rw [hcnt, ← hcl.1, he]

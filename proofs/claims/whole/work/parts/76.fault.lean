/-! run: where the fault lies, the reference's way -/
theorem fault_0 {g : eH} {c : Nat → Nat} {n e : Nat} (hd : RD g c (min n 60) e) (hn : n ≤ 80) : f_X11_faultOf LF g 73 (nI n) 60 0 = some (-1 - nI e) := by
  have e5 := hd.2.2.2.2
  unfold f_X11_faultOf f_X11_faultOf_J20 f_X11_faultOf_J44
  rw [if_pos rfl]
  by_cases q : n ≤ 60
  · rw [if_pos (show nI n ≤ 60 from nI_le (b := 60) q (by decide)), if_pos rfl, if_pos iO_73, hd.2.1]
  · rw [if_neg (show ¬ nI n ≤ 60 from nI_ge (a := 60) (by omega) (by omega)), if_pos rfl, if_pos iO_73, hd.2.1]
    by_cases q2 : e < 60
    · rw [if_pos (show nI e < 60 from nI_lt (b := 60) q2 (by decide)), if_pos rfl, if_pos iO_73]
    · rw [if_neg (show ¬ nI e < 60 from nI_nlt (b := 60) (by omega) (by omega)), show e = 60 by omega]; rfl
theorem fault_1 {g : eH} {c : Nat → Nat} {n : Nat} (hd : RD g c (min n 60) (min n 60)) (hn : n ≤ 80) : f_X11_faultOf LF g 73 (nI n) 60 1 = some (if 60 < n then -1 - nI (min n 60) else 0) := by
  unfold f_X11_faultOf f_X11_faultOf_J20 f_X11_faultOf_J44
  rw [if_neg i10, if_pos iO_73, hd.2.1, hd.1, if_pos rfl]
  by_cases q : n ≤ 60
  · rw [if_pos (show nI n ≤ 60 from nI_le (b := 60) q (by decide)), if_neg i10, if_neg (by omega)]
  · rw [if_neg (show ¬ nI n ≤ 60 from nI_ge (a := 60) (by omega) (by omega)), if_neg i10, if_pos (by omega), show min n 60 = 60 by omega]; rfl

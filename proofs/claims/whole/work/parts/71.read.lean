/-! The reference reads signs: its tape, how far it is, how far it may. -/
def RD (g : eH) (c : Nat → Nat) (lim a : Nat) : Prop := gI g 73 12 = nI lim ∧ gI g 73 11 = nI a ∧ (∀ k, k < lim → gI g 78 k = nI (c k) ∧ c k < 256) ∧ lim ≤ 80 ∧ a ≤ lim
theorem RD_n {g : eH} {c : Nat → Nat} {lim a a' : Nat} (h : RD g c lim a) (ha : a' ≤ lim) : RD (sI g 73 11 (nI a')) c lim a' := by
  obtain ⟨h1, h2, h3, h4, h5⟩ := h
  exact ⟨by rw [gI_sI, if_neg (by omega)]; exact h1, by rw [gI_sI, if_pos ⟨rfl, rfl⟩], fun k hk => ⟨by rw [gI_sI, if_neg (by omega)]; exact (h3 k hk).1, (h3 k hk).2⟩, h4, ha⟩
theorem RD_only {W : Nat → Nat → Prop} {g g' : eH} {c : Nat → Nat} {lim a : Nat} (o : only W g g') (h1 : ¬ W 73 11) (h2 : ¬ W 73 12) (h3 : ∀ k, ¬ W 78 k) (h : RD g c lim a) : RD g' c lim a := ⟨(o_I o h2).trans h.1, (o_I o h1).trans h.2.1, fun k hk => ⟨(o_I o (h3 k)).trans (h.2.2.1 k hk).1, (h.2.2.1 k hk).2⟩, h.2.2.2⟩
def dgT (c : Nat → Nat) (lim a : Nat) : Prop := a < lim ∧ 48 ≤ c a ∧ c a ≤ 57
theorem isDigit_M {g : eH} {c : Nat → Nat} {lim a : Nat} (hR : RefsOK g) (h : RD g c lim a) : (dgT c lim a ∧ f_X11_isDigit LF g 73 = some 1) ∨ (¬ dgT c lim a ∧ f_X11_isDigit LF g 73 = some 0) := by
  obtain ⟨h1, h2, h3, h4, h5⟩ := h
  unfold f_X11_isDigit dgT
  rw [if_pos iO_73, h1, h2]
  by_cases q : a < lim
  · obtain ⟨e1, e2⟩ := h3 a q
    have hin : f_X11_in (nI (c a)).toInt64 48 57 = if nI (c a) < 48 then 0 else if (57 : Int32) < nI (c a) then 0 else 1 := in_spec (nI (c a)) 48 57
    rw [if_neg (nI_ge q (by omega)), r_73_9 hR, Option.bind_some, iA_78, if_pos (in_nI (by omega) (by decide)), nI_clamp (by omega), e1, hin]
    by_cases q1 : c a < 48
    · rw [if_pos (show nI (c a) < 48 from nI_lt (b := 48) q1 (by decide)), if_pos rfl]
      exact Or.inr ⟨by omega, rfl⟩
    · rw [if_neg (show ¬ nI (c a) < 48 from nI_nlt (b := 48) (by omega) (by omega))]
      by_cases q2 : 57 < c a
      · rw [if_pos (show (57 : Int32) < nI (c a) from nI_lt (a := 57) q2 (by omega)), if_pos rfl]
        exact Or.inr ⟨by omega, rfl⟩
      · rw [if_neg (show ¬ (57 : Int32) < nI (c a) from nI_nlt (a := 57) (by omega) (by decide)), if_neg i10]
        exact Or.inl ⟨by omega, rfl⟩
  · rw [if_pos (nI_le (by omega) (by omega))]
    exact Or.inr ⟨by omega, rfl⟩
theorem number1_M {g : eH} {c : Nat → Nat} {lim a : Nat} (hR : RefsOK g) (h : RD g c lim a) : (dgT c lim a ∧ f_X11_number LF g 73 1 = some (sI g 73 11 (nI (a + 1)), nI (c a - 48))) ∨ (¬ dgT c lim a ∧ f_X11_number LF g 73 1 = some (g, -1)) := by
  rcases isDigit_M hR h with ⟨d, e⟩ | ⟨d, e⟩
  · refine Or.inl ⟨d, ?_⟩
    obtain ⟨h1, h2, h3, h4, h5⟩ := id h
    obtain ⟨d1, d2, d3⟩ := d
    obtain ⟨e1, e2⟩ := h3 a d1
    obtain ⟨fu, hfu⟩ := fu_s 1 (by decide)
    unfold f_X11_number
    rw [if_pos iO_73, e, Option.bind_some, if_neg i10, hfu]
    show f_X11_number_L13 LF (fu + 1 + 1) _ g 73 1 0 0 = _
    have s1 : f_X11_number_L13 LF (fu + 1 + 1) (fun (h10 : eH) (w2_11 : Int32) => some (h10, w2_11)) g 73 1 0 0 = f_X11_number_L13 LF (fu + 1) (fun (h10 : eH) (w2_11 : Int32) => some (h10, w2_11)) (sI g 73 11 (nI (a + 1))) 73 1 (nI (c a - 48)) 1 := by
      show (if (1 : Int32) ≤ 0 then _ else if isO LF 73 11 = true then (f_X11_isDigit LF g 73).bind fun r5 => if r5 = 0 then _ else (gR g 73 9).bind fun b7 => if inA LF b7 0 (gI g 73 11) = true then f_X11_number_L13 LF (fu + 1) (fun (h10 : eH) (w2_11 : Int32) => some (h10, w2_11)) (sI g 73 11 ((gI g 73 11) + 1)) 73 1 (((10 * 0) + (gI g b7 (gI g 73 11).toNatClampNeg)) - 48) (0 + Int32.ofInt 1) else none else none) = _
      rw [if_neg (by decide), if_pos iO_73, e, Option.bind_some, if_neg i10, r_73_9 hR, Option.bind_some, h2, iA_78, if_pos (in_nI (by omega) (by decide)), nI_clamp (by omega), e1, show nI a + 1 = nI (a + 1) from nI_add a 1, show (10 * 0 + nI (c a)) - 48 = nI (c a - 48) by rw [show (10 : Int32) * 0 = nI 0 from by decide, nI_add, Nat.zero_add]; exact pk_sub (b := 48) d2]
      rfl
    rw [s1]
    unfold f_X11_number_L13
    rw [if_pos (by decide)]
  · refine Or.inr ⟨d, ?_⟩
    unfold f_X11_number
    rw [if_pos iO_73, e, Option.bind_some, if_pos rfl]
theorem signIn_M {g : eH} {c : Nat → Nat} {lim a lo hi : Nat} (hR : RefsOK g) (h : RD g c lim a) (hlo : lo ≤ hi) (hhi : hi ≤ 100) : ((a < lim ∧ 48 + lo ≤ c a ∧ c a ≤ 48 + hi) ∧ f_X11_signIn LF g 73 48 (nI lo) (nI hi) = some (sI g 73 11 (nI (a + 1)), nI (c a - 48))) ∨ (¬ (a < lim ∧ 48 + lo ≤ c a ∧ c a ≤ 48 + hi) ∧ f_X11_signIn LF g 73 48 (nI lo) (nI hi) = some (g, -1)) := by
  obtain ⟨h1, h2, h3, h4, h5⟩ := id h
  unfold f_X11_signIn
  rw [if_pos iO_73, h1, h2]
  by_cases q : a < lim
  · obtain ⟨e1, e2⟩ := h3 a q
    have hin : f_X11_in (nI (c a) - 48).toInt64 (nI lo).toInt64 (nI hi).toInt64 = if nI (c a) - 48 < nI lo then 0 else if nI hi < nI (c a) - 48 then 0 else 1 := in_spec (nI (c a) - 48) (nI lo) (nI hi)
    have hx : (nI (c a) - 48).toInt = (c a : Int) - 48 := pk_sub_toInt (b := 48) (by omega) (by omega)
    rw [if_neg (nI_ge q (by omega)), r_73_9 hR, Option.bind_some, iA_78, if_pos (in_nI (by omega) (by decide)), nI_clamp (by omega), e1, hin]
    by_cases q1 : c a < 48 + lo
    · rw [if_pos (show nI (c a) - 48 < nI lo by rw [fa_lt, hx, nI_toInt (by omega)]; omega), if_pos rfl]
      exact Or.inr ⟨by omega, rfl⟩
    · rw [if_neg (show ¬ nI (c a) - 48 < nI lo by rw [fa_lt, hx, nI_toInt (by omega)]; omega)]
      by_cases q2 : 48 + hi < c a
      · rw [if_pos (show nI hi < nI (c a) - 48 by rw [fa_lt, hx, nI_toInt (by omega)]; omega), if_pos rfl]
        exact Or.inr ⟨by omega, rfl⟩
      · have hR2 : RefsOK (sI g 73 11 (nI (a + 1))) := refs_sI hR
        have e11 : gI (sI g 73 11 (nI (a + 1))) 73 11 = nI (a + 1) := by rw [gI_sI, if_pos ⟨rfl, rfl⟩]
        have e78 : gI (sI g 73 11 (nI (a + 1))) 78 a = nI (c a) := by rw [gI_sI, if_neg (by omega)]; exact e1
        refine Or.inl ⟨by omega, ?_⟩
        rw [if_neg (show ¬ nI hi < nI (c a) - 48 by rw [fa_lt, hx, nI_toInt (by omega)]; omega), if_neg i10, show nI a + 1 = nI (a + 1) from nI_add a 1, r_73_9 hR2, Option.bind_some, e11, show nI (a + 1) - 1 = nI a from nI_pred a, iA_78, if_pos (in_nI (by omega) (by decide)), nI_clamp (by omega), e78, show nI (c a) - 48 = nI (c a - 48) from pk_sub (b := 48) (by omega)]
  · rw [if_pos (nI_le (by omega) (by omega))]
    exact Or.inr ⟨by omega, rfl⟩

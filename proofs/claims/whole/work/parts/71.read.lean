/-! The reference reads signs: its tape, how far it is, how far it may. -/
def RD (g : eH) (c : Nat → Nat) (lim a : Nat) : Prop := gI g 73 12 = nI lim ∧ gI g 73 11 = nI a ∧ (∀ k, k < lim → gI g 78 k = nI (c k) ∧ c k < 256) ∧ lim ≤ 80 ∧ a ≤ lim
theorem RD_n {g : eH} {c : Nat → Nat} {lim a a' : Nat} (h : RD g c lim a) (ha : a' ≤ lim) : RD (sI g 73 11 (nI a')) c lim a' := by
  obtain ⟨h1, h2, h3, h4, h5⟩ := h
  exact ⟨by rw [gI_sI, if_neg (by omega)]; exact h1, by rw [gI_sI, if_pos ⟨rfl, rfl⟩], fun k hk => ⟨by rw [gI_sI, if_neg (by omega)]; exact (h3 k hk).1, (h3 k hk).2⟩, h4, ha⟩
theorem RD_only {W : Nat → Nat → Prop} {g g' : eH} {c : Nat → Nat} {lim a : Nat} (o : only W g g') (h1 : ¬ W 73 11) (h2 : ¬ W 73 12) (h3 : ∀ k, ¬ W 78 k) (h : RD g c lim a) : RD g' c lim a := ⟨(o_I o h2).trans h.1, (o_I o h1).trans h.2.1, fun k hk => ⟨(o_I o (h3 k)).trans (h.2.2.1 k hk).1, (h.2.2.1 k hk).2⟩, h.2.2.2⟩
def dgT (c : Nat → Nat) (lim a : Nat) : Prop := a < lim ∧ 48 ≤ c a ∧ c a ≤ 57
theorem isDigit_M {g : eH} {c : Nat → Nat} {lim a : Nat} (hR : RefsOK g) (h : RD g c lim a) : (dgT c lim a ∧ f_X11_isDigit LF g 73 = some 1) ∨ (¬ dgT c lim a ∧ f_X11_isDigit LF g 73 = some 0) := by
  obtain ⟨h1, h2, h3, h4, h5⟩ := h
  unfold f_X11_isDigit dgT
  rw [if_pos iO_73, h1, h2]
  by_cases q : a < lim
  · obtain ⟨e1, e2⟩ := h3 a q
    have hin : f_X11_in (nI (c a)).toInt64 48 57 = if nI (c a) < 48 then 0 else if (57 : Int32) < nI (c a) then 0 else 1 := in_spec (nI (c a)) 48 57
    rw [if_neg (nI_ge q (by omega)), r_73_9 hR, Option.bind_some, iA_78, if_pos (in_nI (by omega) (by decide)), nI_clamp (by omega), e1, hin]
    by_cases q1 : c a < 48
    · rw [if_pos (show nI (c a) < 48 from nI_lt (b := 48) q1 (by decide)), if_pos rfl]
      exact Or.inr ⟨by omega, rfl⟩
    · rw [if_neg (show ¬ nI (c a) < 48 from nI_nlt (b := 48) (by omega) (by omega))]
      by_cases q2 : 57 < c a
      · rw [if_pos (show (57 : Int32) < nI (c a) from nI_lt (a := 57) q2 (by omega)), if_pos rfl]
        exact Or.inr ⟨by omega, rfl⟩
      · rw [if_neg (show ¬ (57 : Int32) < nI (c a) from nI_nlt (a := 57) (by omega) (by decide)), if_neg i10]
        exact Or.inl ⟨by omega, rfl⟩
  · rw [if_pos (nI_le (by omega) (by omega))]
    exact Or.inr ⟨by omega, rfl⟩
theorem number1_M {g : eH} {c : Nat → Nat} {lim a : Nat} (hR : RefsOK g) (h : RD g c lim a) : (dgT c lim a ∧ f_X11_number LF g 73 1 = some (sI g 73 11 (nI (a + 1)), nI (c a - 48))) ∨ (¬ dgT c lim a ∧ f_X11_number LF g 73 1 = some (g, -1)) := by
  rcases isDigit_M hR h with ⟨d, e⟩ | ⟨d, e⟩
  · refine Or.inl ⟨d, ?_⟩
    obtain ⟨h1, h2, h3, h4, h5⟩ := id h
    obtain ⟨d1, d2, d3⟩ := d
    obtain ⟨e1, e2⟩ := h3 a d1
    obtain ⟨fu, hfu⟩ := fu_s 1 (by decide)
    unfold f_X11_number
    rw [if_pos iO_73, e, Option.bind_some, if_neg i10, hfu]
    show f_X11_number_L13 LF (fu + 1 + 1) _ g 73 1 0 0 = _
    have s1 : f_X11_number_L13 LF (fu + 1 + 1) (fun (h10 : eH) (w2_11 : Int32) => some (h10, w2_11)) g 73 1 0 0 = f_X11_number_L13 LF (fu + 1) (fun (h10 : eH) (w2_11 : Int32) => some (h10, w2_11)) (sI g 73 11 (nI (a + 1))) 73 1 (nI (c a - 48)) 1 := by
      show (if (1 : Int32) ≤ 0 then _ else if isO LF 73 11 = true then (f_X11_isDigit LF g 73).bind fun r5 => if r5 = 0 then _ else (gR g 73 9).bind fun b7 => if inA LF b7 0 (gI g 73 11) = true then f_X11_number_L13 LF (fu + 1) (fun (h10 : eH) (w2_11 : Int32) => some (h10, w2_11)) (sI g 73 11 ((gI g 73 11) + 1)) 73 1 (((10 * 0) + (gI g b7 (gI g 73 11).toNatClampNeg)) - 48) (0 + Int32.ofInt 1) else none else none) = _
      rw [if_neg (by decide), if_pos iO_73, e, Option.bind_some, if_neg i10, r_73_9 hR, Option.bind_some, h2, iA_78, if_pos (in_nI (by omega) (by decide)), nI_clamp (by omega), e1, show nI a + 1 = nI (a + 1) from nI_add a 1, show (10 * 0 + nI (c a)) - 48 = nI (c a - 48) by rw [show (10 : Int32) * 0 = nI 0 from by decide, nI_add, Nat.zero_add]; exact pk_sub (b := 48) d2]
      rfl
    rw [s1]
    unfold f_X11_number_L13
    rw [if_pos (by decide)]
  · refine Or.inr ⟨d, ?_⟩
    unfold f_X11_number
    rw [if_pos iO_73, e, Option.bind_some, if_pos rfl]
theorem signIn_M {g : eH} {c : Nat → Nat} {lim a lo hi : Nat} (hR : RefsOK g) (h : RD g c lim a) (hlo : lo ≤ hi) (hhi : hi ≤ 100) : ((a < lim ∧ 48 + lo ≤ c a ∧ c a ≤ 48 + hi) ∧ f_X11_signIn LF g 73 48 (nI lo) (nI hi) = some (sI g 73 11 (nI (a + 1)), nI (c a - 48))) ∨ (¬ (a < lim ∧ 48 + lo ≤ c a ∧ c a ≤ 48 + hi) ∧ f_X11_signIn LF g 73 48 (nI lo) (nI hi) = some (g, -1)) := by
  obtain ⟨h1, h2, h3, h4, h5⟩ := id h
  unfold f_X11_signIn
  rw [if_pos iO_73, h1, h2]
  by_cases q : a < lim
  · obtain ⟨e1, e2⟩ := h3 a q
    have hin : f_X11_in (nI (c a) - 48).toInt64 (nI lo).toInt64 (nI hi).toInt64 = if nI (c a) - 48 < nI lo then 0 else if nI hi < nI (c a) - 48 then 0 else 1 := in_spec (nI (c a) - 48) (nI lo) (nI hi)
    have hx : (nI (c a) - 48).toInt = (c a : Int) - 48 := pk_sub_toInt (b := 48) (by omega) (by omega)
    rw [if_neg (nI_ge q (by omega)), r_73_9 hR, Option.bind_some, iA_78, if_pos (in_nI (by omega) (by decide)), nI_clamp (by omega), e1, hin]
    by_cases q1 : c a < 48 + lo
    · rw [if_pos (show nI (c a) - 48 < nI lo by rw [fa_lt, hx, nI_toInt (by omega)]; omega), if_pos rfl]
      exact Or.inr ⟨by omega, rfl⟩
    · rw [if_neg (show ¬ nI (c a) - 48 < nI lo by rw [fa_lt, hx, nI_toInt (by omega)]; omega)]
      by_cases q2 : 48 + hi < c a
      · rw [if_pos (show nI hi < nI (c a) - 48 by rw [fa_lt, hx, nI_toInt (by omega)]; omega), if_pos rfl]
        exact Or.inr ⟨by omega, rfl⟩
      · have hR2 : RefsOK (sI g 73 11 (nI (a + 1))) := refs_sI hR
        have e11 : gI (sI g 73 11 (nI (a + 1))) 73 11 = nI (a + 1) := by rw [gI_sI, if_pos ⟨rfl, rfl⟩]
        have e78 : gI (sI g 73 11 (nI (a + 1))) 78 a = nI (c a) := by rw [gI_sI, if_neg (by omega)]; exact e1
        refine Or.inl ⟨by omega, ?_⟩
        rw [if_neg (show ¬ nI hi < nI (c a) - 48 by rw [fa_lt, hx, nI_toInt (by omega)]; omega), if_neg i10, show nI a + 1 = nI (a + 1) from nI_add a 1, r_73_9 hR2, Option.bind_some, e11, show nI (a + 1) - 1 = nI a from nI_pred a, iA_78, if_pos (in_nI (by omega) (by decide)), nI_clamp (by omega), e78, show nI (c a) - 48 = nI (c a - 48) from pk_sub (b := 48) (by omega)]
  · rw [if_pos (nI_le (by omega) (by omega))]
    exact Or.inr ⟨by omega, rfl⟩
def sLn (j : Nat) : Nat := e_slen.getD j 0
def sBy (j i : Nat) : Int32 := (e_sbyt.getD j []).getD i 0
theorem sLn_le : ∀ j, j < 7 → sLn j ≤ 5 := by decide
theorem sLen_k {j : Nat} (hj : j < 7) : sLen (e_str + j) = some (nI (sLn j)) := by
  unfold sLen
  rw [if_pos (by omega), Nat.add_sub_cancel_left]; rfl
theorem sAt_k {j i : Nat} (hj : j < 7) (hi : i < sLn j) : sAt (e_str + j) (nI i) = some (sBy j i) := by
  have l5 := sLn_le j hj
  unfold sAt
  rw [if_pos (by omega), Nat.add_sub_cancel_left, nI_clamp (by omega), if_neg (by rintro (x | x); exact nI_pos (n := i) (by omega) x; exact absurd x (by show ¬ sLn j ≤ i; omega))]; rfl
theorem among_M {g : eH} {c : Nat → Nat} {lim a j : Nat} (hR : RefsOK g) (h : RD g c lim a) (hj : j < 7) : (∃ i, a < lim ∧ i < sLn j ∧ sBy j i = nI (c a) ∧ (∀ i', i' < i → sBy j i' ≠ nI (c a)) ∧ f_X11_among LF g 73 (e_str + j) = some (nI i)) ∨ ((a < lim → ∀ i', i' < sLn j → sBy j i' ≠ nI (c a)) ∧ f_X11_among LF g 73 (e_str + j) = some (-1)) := by
  obtain ⟨h1, h2, h3, h4, h5⟩ := id h
  have l5 := sLn_le j hj
  unfold f_X11_among
  refine lpF (N := sLn j) (s := ()) (run := fun fu (_ : Unit) i => f_X11_among_L2 LF g fu (fun (w2_9 : Int32) => some w2_9) (some (-1)) 73 (e_str + j) (nI i)) (Inv := fun i _ => a < lim → ∀ i', i' < i → sBy j i' ≠ nI (c a)) (Post := fun r => (∃ i, a < lim ∧ i < sLn j ∧ sBy j i = nI (c a) ∧ (∀ i', i' < i → sBy j i' ≠ nI (c a)) ∧ r = some (nI i)) ∨ ((a < lim → ∀ i', i' < sLn j → sBy j i' ≠ nI (c a)) ∧ r = some (-1))) (by omega) (fun _ i' hi' => absurd hi' (Nat.not_lt_zero i')) ?_ ?_
  · rintro fu _ hv
    refine Or.inr ⟨hv, ?_⟩
    show f_X11_among_L2 LF g (fu + 1) _ _ 73 (e_str + j) (nI (sLn j)) = _
    unfold f_X11_among_L2
    rw [sLen_k hj, Option.bind_some, if_pos (nI_le (Nat.le_refl _) (by omega))]
  · rintro i fu _ hi hv
    by_cases q : a < lim
    · obtain ⟨e1, e2⟩ := h3 a q
      by_cases q2 : sBy j i = nI (c a)
      · refine Or.inl (Or.inl ⟨i, q, hi, q2, hv q, ?_⟩)
        show f_X11_among_L2 LF g (fu + 1) _ _ 73 (e_str + j) (nI i) = _
        unfold f_X11_among_L2
        rw [sLen_k hj, Option.bind_some, if_neg (nI_ge hi (by omega)), if_pos iO_73, h1, h2, if_neg (nI_ge q (by omega)), sAt_k hj hi, Option.bind_some, r_73_9 hR, Option.bind_some, iA_78, if_pos (in_nI (by omega) (by decide)), nI_clamp (by omega), e1, if_pos q2]
      · refine Or.inr ⟨(), fun _ i' hi' => ?_, fun z hz => ?_⟩
        · by_cases e : i' = i
          · rw [e]; exact q2
          · exact hv q i' (by omega)
        · show f_X11_among_L2 LF g (fu + 1) _ _ 73 (e_str + j) (nI i) = z
          unfold f_X11_among_L2
          rw [sLen_k hj, Option.bind_some, if_neg (nI_ge hi (by omega)), if_pos iO_73, h1, h2, if_neg (nI_ge q (by omega)), sAt_k hj hi, Option.bind_some, r_73_9 hR, Option.bind_some, iA_78, if_pos (in_nI (by omega) (by decide)), nI_clamp (by omega), e1, if_neg q2, nI_p1]
          exact hz
    · refine Or.inl (Or.inr ⟨fun x => absurd x q, ?_⟩)
      show f_X11_among_L2 LF g (fu + 1) _ _ 73 (e_str + j) (nI i) = _
      unfold f_X11_among_L2
      rw [sLen_k hj, Option.bind_some, if_neg (nI_ge hi (by omega)), if_pos iO_73, h1, h2, if_pos (nI_le (by omega) (by omega))]
theorem takesOf_M {g : eH} {c : Nat → Nat} {lim a j : Nat} (hR : RefsOK g) (h : RD g c lim a) (hj : j < 7) : (∃ i, a < lim ∧ i < sLn j ∧ sBy j i = nI (c a) ∧ (∀ i', i' < i → sBy j i' ≠ nI (c a)) ∧ f_X11_takesOf LF g 73 (e_str + j) = some (sI g 73 11 (nI (a + 1)), nI i)) ∨ ((a < lim → ∀ i', i' < sLn j → sBy j i' ≠ nI (c a)) ∧ f_X11_takesOf LF g 73 (e_str + j) = some (sI g 73 11 (nI a), -1)) := by
  have l5 := sLn_le j hj
  rcases among_M hR h hj with ⟨i, x1, x2, x3, x4, x5⟩ | ⟨x1, x2⟩
  · refine Or.inl ⟨i, x1, x2, x3, x4, ?_⟩
    unfold f_X11_takesOf
    rw [if_pos iO_73, x5, Option.bind_some, if_neg (nI_pos (by omega)), h.2.1, show f_X11_flag 1 = nI 1 by decide, nI_add]
  · refine Or.inr ⟨x1, ?_⟩
    unfold f_X11_takesOf
    rw [if_pos iO_73, x2, Option.bind_some, if_pos (by decide), h.2.1, show f_X11_flag 0 = nI 0 by decide, nI_add]; rfl
theorem takes_M {g : eH} {c : Nat → Nat} {lim a w : Nat} (hR : RefsOK g) (h : RD g c lim a) (hw : w < 256) : ((a < lim ∧ c a = w) ∧ f_X11_takes LF g 73 (nI w) = some (sI g 73 11 (nI (a + 1)), 1)) ∨ (¬ (a < lim ∧ c a = w) ∧ f_X11_takes LF g 73 (nI w) = some (sI g 73 11 (nI a), 0)) := by
  obtain ⟨h1, h2, h3, h4, h5⟩ := id h
  unfold f_X11_takes f_X11_takes_J29
  rw [if_pos iO_73, h1, h2]
  by_cases q : a < lim
  · obtain ⟨e1, e2⟩ := h3 a q
    rw [if_neg (nI_ge q (by omega)), r_73_9 hR, Option.bind_some, iA_78, if_pos (in_nI (by omega) (by decide)), nI_clamp (by omega), e1]
    by_cases q2 : c a = w
    · refine Or.inl ⟨⟨q, q2⟩, ?_⟩
      rw [if_pos (by rw [q2]), if_pos iO_73, if_pos (by decide), show f_X11_flag 1 = nI 1 by decide, nI_add]
    · refine Or.inr ⟨fun x => q2 x.2, ?_⟩
      rw [if_neg (fun e => q2 (nI_inj (by omega) (by omega) e)), if_pos iO_73, if_pos (by decide), show f_X11_flag 0 = nI 0 by decide, nI_add]; rfl
  · refine Or.inr ⟨fun x => q x.1, ?_⟩
    rw [if_pos (nI_le (by omega) (by omega)), if_pos iO_73, if_pos (by decide), show f_X11_flag 0 = nI 0 by decide, nI_add]; rfl

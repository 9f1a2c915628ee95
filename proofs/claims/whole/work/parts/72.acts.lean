/-! run: the reference reads its acts -/
def actC (c : Nat) : Nat := if c = 115 then 0 else if c = 116 then 1 else if c = 100 then 2 else if c = 99 then 3 else 4
theorem actC_k : ∀ c, c < 256 → ∀ i, i < 5 → sBy 6 i = nI c → dgB c ≠ 0 ∧ actC c = i := by decide +kernel
theorem actC_e : ∀ c, c < 256 → dgB c ≠ 0 → actC c < 5 ∧ sBy 6 (actC c) = nI c := by decide +kernel
def rdW (j k : Nat) : Prop := (j = 73 ∧ (k = 11 ∨ k = 28)) ∨ j = 85 ∨ j = 86
/-- after the letter: the act's sign is laid down -/
theorem letter_M {g : eH} {c : Nat → Nat} {lim a m : Nat} (hR : RefsOK g) (h : RD g c lim a) (hm : gI g 73 28 = nI m) (hm6 : m < 60) (ha : a < lim) : (dgB (c a) = 0 ∧ ∃ g', f_X11_readsAct LF g 73 = some (g', 0) ∧ RD g' c lim a ∧ only rdW g g') ∨ (dgB (c a) ≠ 0 ∧ f_X11_takesOf LF g 73 (e_str + 6) = some (sI g 73 11 (nI (a + 1)), nI (actC (c a)))) := by
  have l5 : sLn 6 = 5 := rfl
  have ca := (h.2.2.1 a ha).2
  rcases takesOf_M hR h (show 6 < 7 by decide) with ⟨i, x1, x2, x3, x4, x5⟩ | ⟨x1, x2⟩
  · have := actC_k _ ca i (by omega) x3
    rw [← this.2] at x5
    exact Or.inr ⟨this.1, x5⟩
  · have z : dgB (c a) = 0 := by
      by_cases q : dgB (c a) = 0
      · exact q
      · have := actC_e _ ca q
        exact absurd this.2 (x1 ha _ (by omega))
    refine Or.inl ⟨z, sI (sI (sI g 73 11 (nI a)) 85 m (-1)) 73 28 (nI (m + 1)), ?_, ?_, ?_⟩
    · have e1 : gI (sI (sI g 73 11 (nI a)) 85 m (-1)) 73 28 = nI m := by rw [gI_sI, if_neg (by omega), gI_sI, if_neg (by omega)]; exact hm
      have e2 : gI (sI (sI (sI g 73 11 (nI a)) 85 m (-1)) 73 28 (nI (m + 1))) 85 m = -1 := by rw [gI_sI, if_neg (by omega), gI_sI, if_pos ⟨rfl, rfl⟩]
      have hR7 : RefsOK (sI (sI (sI g 73 11 (nI a)) 85 m (-1)) 73 28 (nI (m + 1))) := refs_sI (refs_sI (refs_sI hR))
      unfold f_X11_readsAct
      rw [if_pos iO_73, r_73_26 hR, Option.bind_some, x2, Option.bind_some, hm, iA_85, if_pos (in_nI hm6 (by decide)), nI_clamp (by omega)]
      show ((some (sI (sI (sI g 73 11 (nI a)) 85 m (-1)) 73 28 ((gI (sI (sI g 73 11 (nI a)) 85 m (-1)) 73 28) + 1))).bind fun h7 => _) = _
      rw [e1, show nI m + 1 = nI (m + 1) from nI_add m 1, Option.bind_some, r_73_26 hR7, Option.bind_some, iA_85, if_pos (in_nI hm6 (by decide)), e2, if_neg (by decide)]
    · exact RD_only (W := fun j k => j = 85 ∨ (j = 73 ∧ k = 28)) (only_trans (only_sI (Or.inl rfl)) (only_sI (Or.inr ⟨rfl, rfl⟩))) (by omega) (by omega) (fun k => by omega) (RD_n h (by omega))
    · exact only_trans (only_sI (by unfold rdW; omega)) (only_trans (only_sI (by unfold rdW; omega)) (only_sI (by unfold rdW; omega)))

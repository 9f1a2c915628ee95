/-! run: the reference reads its acts -/
def actC (c : Nat) : Nat := if c = 115 then 0 else if c = 116 then 1 else if c = 100 then 2 else if c = 99 then 3 else 4
theorem actC_k : ∀ c, c < 256 → ∀ i, i < 5 → sBy 6 i = nI c → dgB c ≠ 0 ∧ actC c = i := by decide +kernel
theorem actC_e : ∀ c, c < 256 → dgB c ≠ 0 → actC c < 5 ∧ sBy 6 (actC c) = nI c := by decide +kernel
def rdW (j k : Nat) : Prop := (j = 73 ∧ (k = 11 ∨ k = 28)) ∨ j = 85 ∨ j = 86
/-- after the letter: the act's sign is laid down -/
theorem letter_M {g : eH} {c : Nat → Nat} {lim a m : Nat} (hR : RefsOK g) (h : RD g c lim a) (hm : gI g 73 28 = nI m) (hm6 : m < 60) (ha : a < lim) : (dgB (c a) = 0 ∧ ∃ g', f_X11_readsAct LF g 73 = some (g', 0) ∧ RD g' c lim a ∧ only rdW g g') ∨ (dgB (c a) ≠ 0 ∧ f_X11_takesOf LF g 73 (e_str + 6) = some (sI g 73 11 (nI (a + 1)), nI (actC (c a)))) := by
  have l5 : sLn 6 = 5 := rfl
  have ca := (h.2.2.1 a ha).2
  rcases takesOf_M hR h (show 6 < 7 by decide) with ⟨i, x1, x2, x3, x4, x5⟩ | ⟨x1, x2⟩
  · have := actC_k _ ca i (by omega) x3
    rw [← this.2] at x5
    exact Or.inr ⟨this.1, x5⟩
  · have z : dgB (c a) = 0 := by
      by_cases q : dgB (c a) = 0
      · exact q
      · have := actC_e _ ca q
        exact absurd this.2 (x1 ha _ (by omega))
    refine Or.inl ⟨z, sI (sI (sI g 73 11 (nI a)) 85 m (-1)) 73 28 (nI (m + 1)), ?_, ?_, ?_⟩
    · have e1 : gI (sI (sI g 73 11 (nI a)) 85 m (-1)) 73 28 = nI m := by rw [gI_sI, if_neg (by omega), gI_sI, if_neg (by omega)]; exact hm
      have e2 : gI (sI (sI (sI g 73 11 (nI a)) 85 m (-1)) 73 28 (nI (m + 1))) 85 m = -1 := by rw [gI_sI, if_neg (by omega), gI_sI, if_pos ⟨rfl, rfl⟩]
      have hR7 : RefsOK (sI (sI (sI g 73 11 (nI a)) 85 m (-1)) 73 28 (nI (m + 1))) := refs_sI (refs_sI (refs_sI hR))
      unfold f_X11_readsAct
      rw [if_pos iO_73, r_73_26 hR, Option.bind_some, x2, Option.bind_some, hm, iA_85, if_pos (in_nI hm6 (by decide)), nI_clamp (by omega)]
      show ((some (sI (sI (sI g 73 11 (nI a)) 85 m (-1)) 73 28 ((gI (sI (sI g 73 11 (nI a)) 85 m (-1)) 73 28) + 1))).bind fun h7 => _) = _
      rw [e1, show nI m + 1 = nI (m + 1) from nI_add m 1, Option.bind_some, r_73_26 hR7, Option.bind_some, iA_85, if_pos (in_nI hm6 (by decide)), e2, if_neg (by decide)]
    · exact RD_only (W := fun j k => j = 85 ∨ (j = 73 ∧ k = 28)) (only_trans (only_sI (Or.inl rfl)) (only_sI (Or.inr ⟨rfl, rfl⟩))) (by omega) (by omega) (fun k => by omega) (RD_n h (by omega))
    · exact only_trans (only_sI (by unfold rdW; omega)) (only_trans (only_sI (by unfold rdW; omega)) (only_sI (by unfold rdW; omega)))
def vlA (c : Nat → Nat) (a : Nat) : Nat := if dgB (c a) = 2 then 10 * (c (a + 1) - 48) + (c (a + 2) - 48) else c (a + 1) - 48
def dgO (c : Nat → Nat) (lim a e : Nat) : Prop := e < lim ∧ csB (c a) (c e) = true
def actBad (c : Nat → Nat) (lim a e : Nat) : Prop := (dgB (c a) = 0 ∧ e = a) ∨ (dgB (c a) ≠ 0 ∧ e = a + 1 ∧ ¬ dgO c lim a (a + 1)) ∨ (dgB (c a) = 2 ∧ e = a + 2 ∧ dgO c lim a (a + 1) ∧ ¬ dgO c lim a (a + 2))
def actGood (c : Nat → Nat) (lim a : Nat) : Prop := dgB (c a) ≠ 0 ∧ dgO c lim a (a + 1) ∧ (dgB (c a) = 2 → dgO c lim a (a + 2))
theorem act_1 {g : eH} {c : Nat → Nat} {lim a m lo hi : Nat} {w : Int32} (hR : RefsOK g) (h : RD g c lim (a + 1)) (hm6 : m < 60) (hlo : lo ≤ hi) (hhi : hi ≤ 9) : ((a + 1 < lim ∧ 48 + lo ≤ c (a + 1) ∧ c (a + 1) ≤ 48 + hi) ∧ ((f_X11_signIn LF g 73 48 (nI lo) (nI hi)).bind fun r40 => f_X11_readsAct_J98 LF r40.1 73 (nI m) 86 (nI m) r40.2) = some (sI (sI g 73 11 (nI (a + 2))) 86 m (nI (c (a + 1) - 48)), 1)) ∨ (¬ (a + 1 < lim ∧ 48 + lo ≤ c (a + 1) ∧ c (a + 1) ≤ 48 + hi) ∧ ((f_X11_signIn LF g 73 48 (nI lo) (nI hi)).bind fun r40 => f_X11_readsAct_J98 LF r40.1 73 (nI m) 86 (nI m) r40.2) = some (sI g 86 m (-1), 0)) := by
  have fin : ∀ (g' : eH) (v : Int32), RefsOK g' → f_X11_readsAct_J98 LF g' 73 (nI m) 86 (nI m) v = if v < 0 then some (sI g' 86 m v, 0) else some (sI g' 86 m v, 1) := fun g' v hR' => by
    have e : gI (sI g' 86 m v) 86 m = v := by rw [gI_sI, if_pos ⟨rfl, rfl⟩]
    have hR2 : RefsOK (sI g' 86 m v) := refs_sI hR'
    unfold f_X11_readsAct_J98
    rw [iA_86, if_pos (in_nI hm6 (by decide)), if_pos iO_73, nI_clamp (by omega), r_73_27 hR2, Option.bind_some, iA_86, if_pos (in_nI hm6 (by decide)), e]
  rcases signIn_M (lo := lo) (hi := hi) hR h hlo (by omega) with ⟨d, e⟩ | ⟨d, e⟩
  · refine Or.inl ⟨d, ?_⟩
    have ca := (h.2.2.1 (a + 1) d.1).2
    rw [e, Option.bind_some]
    show f_X11_readsAct_J98 LF (sI g 73 11 (nI (a + 1 + 1))) 73 (nI m) 86 (nI m) (nI (c (a + 1) - 48)) = _
    rw [fin _ _ (refs_sI hR), if_neg (nI_pos (by omega))]
  · refine Or.inr ⟨d, ?_⟩
    rw [e, Option.bind_some]
    show f_X11_readsAct_J98 LF g 73 (nI m) 86 (nI m) (-1) = _
    rw [fin _ _ hR, if_pos (by decide)]
theorem act_2 {g : eH} {c : Nat → Nat} {lim a m : Nat} (hR : RefsOK g) (h : RD g c lim (a + 1)) (hm6 : m < 60) : (dgT c lim (a + 1) ∧ dgT c lim (a + 2) ∧ ((f_X11_number LF g 73 1).bind fun r15 => if 0 ≤ r15.2 then (f_X11_number LF r15.1 73 1).bind fun r17 => f_X11_readsAct_J133 LF r17.1 73 (nI m) r15.2 r17.2 else f_X11_readsAct_J133 LF r15.1 73 (nI m) r15.2 (-1)) = some (sI (sI (sI g 73 11 (nI (a + 2))) 73 11 (nI (a + 3))) 86 m (nI (10 * (c (a + 1) - 48) + (c (a + 2) - 48))), 1)) ∨ (∃ e g', ((e = a + 1 ∧ ¬ dgT c lim (a + 1)) ∨ (e = a + 2 ∧ dgT c lim (a + 1) ∧ ¬ dgT c lim (a + 2))) ∧ ((f_X11_number LF g 73 1).bind fun r15 => if 0 ≤ r15.2 then (f_X11_number LF r15.1 73 1).bind fun r17 => f_X11_readsAct_J133 LF r17.1 73 (nI m) r15.2 r17.2 else f_X11_readsAct_J133 LF r15.1 73 (nI m) r15.2 (-1)) = some (g', 0) ∧ RD g' c lim e ∧ only rdW g g') := by
  have fin : ∀ (g' : eH) (v s : Int32), RefsOK g' → f_X11_readsAct_J133 LF g' 73 (nI m) v s = if s < 0 then some (sI g' 86 m (10 * v + s), 0) else some (sI g' 86 m (10 * v + s), 1) := fun g' v s hR' => by
    unfold f_X11_readsAct_J133
    rw [if_pos iO_73, r_73_27 hR', Option.bind_some, iA_86, if_pos (in_nI hm6 (by decide)), nI_clamp (by omega)]
  rcases number1_M hR h with ⟨d, e⟩ | ⟨d, e⟩
  · have ca := (h.2.2.1 (a + 1) d.1).2
    have h2 : RD (sI g 73 11 (nI (a + 1 + 1))) c lim (a + 1 + 1) := RD_n h (by have := d.1; omega)
    have hR2 : RefsOK (sI g 73 11 (nI (a + 1 + 1))) := refs_sI hR
    rcases number1_M hR2 h2 with ⟨d2, e2⟩ | ⟨d2, e2⟩
    · have ca2 : c (a + 1 + 1) < 256 := (h.2.2.1 (a + 1 + 1) d2.1).2
      refine Or.inl ⟨d, d2, ?_⟩
      rw [e, Option.bind_some]
      show (if 0 ≤ nI (c (a + 1) - 48) then (f_X11_number LF (sI g 73 11 (nI (a + 1 + 1))) 73 1).bind fun r17 => f_X11_readsAct_J133 LF r17.1 73 (nI m) (nI (c (a + 1) - 48)) r17.2 else _) = _
      rw [if_pos (show 0 ≤ nI (c (a + 1) - 48) from nI_le (a := 0) (by omega) (by omega)), e2, Option.bind_some]
      show f_X11_readsAct_J133 LF (sI (sI g 73 11 (nI (a + 1 + 1))) 73 11 (nI (a + 1 + 1 + 1))) 73 (nI m) (nI (c (a + 1) - 48)) (nI (c (a + 1 + 1) - 48)) = _
      rw [fin _ _ _ (refs_sI hR2), if_neg (nI_pos (by omega)), show (10 : Int32) * nI (c (a + 1) - 48) + nI (c (a + 1 + 1) - 48) = nI (10 * (c (a + 1) - 48) + (c (a + 2) - 48)) by rw [show (10 : Int32) = nI 10 from rfl, pk_mul, nI_add]]
    · refine Or.inr ⟨a + 2, sI (sI g 73 11 (nI (a + 1 + 1))) 86 m (10 * nI (c (a + 1) - 48) + -1), Or.inr ⟨rfl, d, d2⟩, ?_, RD_only (W := fun j _ => j = 86) (only_sI rfl) (by omega) (by omega) (fun k => by omega) h2, only_trans (only_sI (by unfold rdW; omega)) (only_sI (by unfold rdW; omega))⟩
      rw [e, Option.bind_some]
      show (if 0 ≤ nI (c (a + 1) - 48) then (f_X11_number LF (sI g 73 11 (nI (a + 1 + 1))) 73 1).bind fun r17 => f_X11_readsAct_J133 LF r17.1 73 (nI m) (nI (c (a + 1) - 48)) r17.2 else _) = _
      rw [if_pos (show 0 ≤ nI (c (a + 1) - 48) from nI_le (a := 0) (by omega) (by omega)), e2, Option.bind_some]
      show f_X11_readsAct_J133 LF (sI g 73 11 (nI (a + 1 + 1))) 73 (nI m) (nI (c (a + 1) - 48)) (-1) = _
      rw [fin _ _ _ hR2, if_pos (by decide)]
  · refine Or.inr ⟨a + 1, sI g 86 m (10 * -1 + -1), Or.inl ⟨rfl, d⟩, ?_, RD_only (W := fun j _ => j = 86) (only_sI rfl) (by omega) (by omega) (fun k => by omega) h, only_sI (by unfold rdW; omega)⟩
    rw [e, Option.bind_some]
    show (if (0 : Int32) ≤ -1 then _ else f_X11_readsAct_J133 LF g 73 (nI m) (-1) (-1)) = _
    rw [if_neg (by decide), fin _ _ _ hR, if_pos (by decide)]

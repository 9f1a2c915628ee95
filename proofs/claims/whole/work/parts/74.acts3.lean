/-! run: what the reference reads, as the class scans it -/
theorem good_sc {c : Nat → Nat} {lim a l : Nat} (h0 : scS c a = some (l, 0)) (g : actGood c lim a) : scS c (a + 1 + dgB (c a)) = some (c a, 0) ∧ a + 1 + dgB (c a) ≤ lim := by
  obtain ⟨g1, g2, g3⟩ := g
  have s1 : scS c (a + 1) = some (c a, dgB (c a)) := by rw [scS_0 h0, if_neg g1]
  have d12 : dgB (c a) = 1 ∨ dgB (c a) = 2 := by rcases dgB_ne g1 with q | q | q | q | q <;> rw [q] <;> decide
  rcases d12 with d | d
  · rw [d] at s1 ⊢
    refine ⟨?_, by have := g2.1; omega⟩
    rw [scS_r s1, if_pos g2.2]
  · rw [d] at s1 ⊢
    have g4 := g3 d
    have s2 : scS c (a + 2) = some (c a, 1) := by rw [scS_r s1, if_pos g2.2]
    refine ⟨?_, by have := g4.1; omega⟩
    show scS c (a + 2 + 1) = _
    rw [scS_r s2, if_pos g4.2]
theorem bad_sc {c : Nat → Nat} {lim a l e : Nat} (ha : a < lim) (h0 : scS c a = some (l, 0)) (b : actBad c lim a e) : e ≤ lim ∧ scS c e ≠ none ∧ ((e < lim ∧ scS c (e + 1) = none) ∨ (e = lim ∧ ∃ l r, scS c e = some (l, r + 1))) := by
  have one : ∀ e l r, e ≤ lim → scS c e = some (l, r + 1) → ¬ (e < lim ∧ csB l (c e) = true) → e ≤ lim ∧ scS c e ≠ none ∧ ((e < lim ∧ scS c (e + 1) = none) ∨ (e = lim ∧ ∃ l r, scS c e = some (l, r + 1))) := fun e l r he hs hn => by
    refine ⟨he, (by rw [hs]; exact fun x => by cases x), ?_⟩
    by_cases q : e < lim
    · refine Or.inl ⟨q, ?_⟩
      rw [scS_r hs, if_neg (fun x => hn ⟨q, x⟩)]
    · exact Or.inr ⟨by omega, l, r, hs⟩
  rcases b with ⟨z, rfl⟩ | ⟨nz, rfl, hn⟩ | ⟨d, rfl, g2, hn⟩
  · exact ⟨by omega, (by rw [h0]; exact fun x => by cases x), Or.inl ⟨ha, by rw [scS_0 h0, if_pos z]⟩⟩
  · obtain ⟨r, hr⟩ : ∃ r, dgB (c a) = r + 1 := ⟨dgB (c a) - 1, by omega⟩
    have s1 : scS c (a + 1) = some (c a, r + 1) := by rw [scS_0 h0, if_neg nz, hr]
    exact one (a + 1) (c a) r (by omega) s1 hn
  · have s1 : scS c (a + 1) = some (c a, 2) := by rw [scS_0 h0, if_neg (by omega), d]
    have s2 : scS c (a + 2) = some (c a, 1) := by rw [scS_r s1, if_pos g2.2]
    exact one (a + 2) (c a) 0 (by have := g2.1; omega) s2 hn

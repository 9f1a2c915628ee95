/-! Frames of the functions: what is written lies in a region P that is closed under references. -/
def fr (P : Nat → Prop) (h0 h : eH) : Prop := (∀ i k j, P i → gR h i k = some j → P j) ∧ (∀ i, ¬ P i → ∀ k, gI h i k = gI h0 i k ∧ gL h i k = gL h0 i k ∧ gR h i k = gR h0 i k) ∧ ∀ j, e_str ≤ j → P j
theorem e_or {α : Type} {c : Prop} [Decidable c] {a b x : α} (h : (if c then a else b) = x) : a = x ∨ b = x := by
  by_cases hc : c
  · rw [if_pos hc] at h; exact Or.inl h
  · rw [if_neg hc] at h; exact Or.inr h
section
variable {P : Nat → Prop} {h0 h : eH} {b k : Nat}
theorem fr_sI {v : Int32} (f : fr P h0 h) (p : P b) : fr P h0 (sI h b k v) := by
  refine ⟨f.1, fun i hi q => ?_, f.2.2⟩
  have hne : i ≠ b := fun e => hi (e ▸ p)
  have := f.2.1 i hi q
  exact ⟨by simpa [gI, sI, hne] using this.1, this.2.1, this.2.2⟩
theorem fr_sL {v : Int64} (f : fr P h0 h) (p : P b) : fr P h0 (sL h b k v) := by
  refine ⟨f.1, fun i hi q => ?_, f.2.2⟩
  have hne : i ≠ b := fun e => hi (e ▸ p)
  have := f.2.1 i hi q
  exact ⟨this.1, by simpa [gL, sL, hne] using this.2.1, this.2.2⟩
theorem fr_sR {v : Nat} (f : fr P h0 h) (p : P b) (pv : P v) : fr P h0 (sR h b k (some v)) := by
  refine ⟨fun i q j hi hj => ?_, fun i hi q => ?_, f.2.2⟩
  · simp only [gR, sR] at hj
    split at hj
    · cases hj; exact pv
    · exact f.1 i q j hi hj
  · have hne : i ≠ b := fun e => hi (e ▸ p)
    have := f.2.1 i hi q
    exact ⟨this.1, this.2.1, by simpa [gR, sR, hne] using this.2.2⟩
theorem fr_cpI {a : Nat} {sp dp n : Int32} (f : fr P h0 h) (p : P b) : fr P h0 (cpI h a b sp dp n) := by
  refine ⟨f.1, fun i hi q => ?_, f.2.2⟩
  have hne : i ≠ b := fun e => hi (e ▸ p)
  have := f.2.1 i hi q
  exact ⟨by simpa [gI, cpI, hne] using this.1, this.2.1, this.2.2⟩
theorem fr_cpL {a : Nat} {sp dp n : Int32} (f : fr P h0 h) (p : P b) : fr P h0 (cpL h a b sp dp n) := by
  refine ⟨f.1, fun i hi q => ?_, f.2.2⟩
  have hne : i ≠ b := fun e => hi (e ▸ p)
  have := f.2.1 i hi q
  exact ⟨this.1, by simpa [gL, cpL, hne] using this.2.1, this.2.2⟩
theorem fr_oW {x : Int32} {r : eH × Int32} (hf : some (h, x) = some r) (f : fr P h0 h) : fr P h0 r.1 := by cases hf; exact f
theorem fr_oL {x : Int64} {r : eH × Int64} (hf : some (h, x) = some r) (f : fr P h0 h) : fr P h0 r.1 := by cases hf; exact f
theorem fr_oV {r : eH} (hf : some h = some r) (f : fr P h0 h) : fr P h0 r := by cases hf; exact f
end

/-! Copies of states, on both sides. -/
def tb (x : Int64) (k : Nat) : Bool := x.toBitVec.getLsbD k
/-- the cells of the class's states -/
def stL : List Nat := [8, 10, 12, 14, 16, 18, 20, 22, 24, 26, 28, 30, 32, 34, 36, 46, 48, 50, 53, 55, 57]
theorem st_O : ∀ a ∈ stL, isO LF a 6 = true := by decide +kernel
theorem st_sh : ∀ a ∈ stL, LF.2 (a + 1) = .inr (0, 36) ∧ a + 1 < 100 := by decide +kernel
theorem st_tab : ∀ a ∈ stL, (a, 0, a + 1) ∈ rTab := by decide +kernel
theorem st_ne : ∀ a ∈ stL, ∀ b ∈ stL, a ≠ b + 1 := by decide +kernel
theorem st_lo : ∀ a ∈ stL, a + 1 < 59 := by decide +kernel
theorem st_ref {h : eH} (hR : RefsOK h) {a : Nat} (ha : a ∈ stL) : gR h a 0 = some (a + 1) := hR _ (st_tab a ha)
/-- state b of h' is state a of h -/
def sameS (h : eH) (a : Nat) (h' : eH) (b : Nat) : Prop := (∀ k, k < 36 → gI h' (b + 1) k = gI h (a + 1) k) ∧ (∀ k, 1 ≤ k → k ≤ 7 → gI h' b k = gI h a k) ∧ gL h' b 8 = gL h a 8
theorem gI_cpI {h : eH} {a b j q : Nat} {sp dp n : Int32} : gI (cpI h a b sp dp n) j q = if j = b then va_cpy (h.1 a) (h.1 b) sp.toNatClampNeg dp.toNatClampNeg n.toNatClampNeg q else gI h j q := rfl
theorem gL_cpI {h : eH} {a b j q : Nat} {sp dp n : Int32} : gL (cpI h a b sp dp n) j q = gL h j q := rfl
theorem gR_cpI {h : eH} {a b j q : Nat} {sp dp n : Int32} : gR (cpI h a b sp dp n) j q = gR h j q := rfl
theorem cp36 {h : eH} {a b k : Nat} (hk : k < 36) : gI (cpI h a b 0 0 36) b k = gI h a k := by
  rw [gI_cpI, if_pos rfl]
  have e1 : (0 : Int32).toNatClampNeg = 0 := by decide
  have e2 : (36 : Int32).toNatClampNeg = 36 := by decide
  rw [e1, e2]
  unfold va_cpy
  rw [if_pos (by omega)]
  simp [gI]
theorem cpOK_st {a b : Nat} (ha : a ∈ stL) (hb : b ∈ stL) : cpOK LF (b + 1) (a + 1) 0 0 0 36 = true := by
  have h1 := st_sh a ha
  have h2 := st_sh b hb
  unfold cpOK
  rw [h1.1, h2.1]
  have e1 : (0 : Int32).toNatClampNeg = 0 := by decide
  have e2 : (36 : Int32).toNatClampNeg = 36 := by decide
  have e3 : ¬ (0 : Int32) < 0 := by decide
  have e4 : ¬ (36 : Int32) < 0 := by decide
  simp [LF_n, h1.2, h2.2, e1, e2, e3, e4]
theorem copyFrom_ok {h : eH} (hR : RefsOK h) {a b : Nat} (ha : a ∈ stL) (hb : b ∈ stL) : ∃ h', f_X6_copyFrom LF h a b = some h' ∧ sameS h b h' a ∧ (∀ j k, j ≠ a → j ≠ a + 1 → gI h' j k = gI h j k) ∧ (∀ j k, j ≠ a → gL h' j k = gL h j k) ∧ ∀ j k, gR h' j k = gR h j k := by
  have n1 := st_ne a ha b hb
  have n2 := st_ne b hb a ha
  have n3 := st_ne a ha a ha
  unfold f_X6_copyFrom
  rw [if_pos (st_O b hb), st_ref hR hb, Option.bind_some, if_pos (st_O a ha), st_ref hR ha, Option.bind_some, if_pos (cpOK_st ha hb)]
  simp only [Option.bind_some]
  refine ⟨_, rfl, ⟨?_, ?_, ?_⟩, ?_, ?_, ?_⟩
  · intro k hk
    have : a + 1 ≠ a := by omega
    simp only [gI_sL, gI_sI, this, false_and, if_false]
    exact cp36 hk
  · intro k h1 h7
    by_cases hab : a = b
    · subst hab
      have q : ∀ k, gI (cpI h (a + 1) (a + 1) 0 0 36) a k = gI h a k := fun k => by rw [gI_cpI, if_neg (by omega)]
      have hk : k = 1 ∨ k = 2 ∨ k = 3 ∨ k = 4 ∨ k = 5 ∨ k = 6 ∨ k = 7 := by omega
      rcases hk with rfl | rfl | rfl | rfl | rfl | rfl | rfl <;> simp [gI_sL, gI_sI, q]
    · have hba : b ≠ a := fun e => hab e.symm
      have q : ∀ k, gI (cpI h (b + 1) (a + 1) 0 0 36) b k = gI h b k := fun k => by rw [gI_cpI, if_neg n2]
      have hk : k = 1 ∨ k = 2 ∨ k = 3 ∨ k = 4 ∨ k = 5 ∨ k = 6 ∨ k = 7 := by omega
      rcases hk with rfl | rfl | rfl | rfl | rfl | rfl | rfl <;> simp [gI_sL, gI_sI, q, hba]
  · simp [gL_sL, gL_sI, gL_cpI]
  · intro j k h1 h2
    simp only [gI_sL, gI_sI, h1, false_and, if_false]
    rw [gI_cpI, if_neg h2]
  · intro j k h1
    simp [gL_sL, gL_sI, gL_cpI, h1]
  · intro j k
    simp only [gR_sL, gR_sI, gR_cpI]

/-! Where a spot lies: the class's aheadOf and the reference's beside are one function. -/
def hasP (r c s : Int32) : Int32 := if s < 0 then 0 else if r * c ≤ s then 0 else 1
def aheadP (r c : Int32) (le re : Int64) (s d : Int32) : Int32 :=
  if hasP r c s = 0 then -1
  else if d = 0 then (if s < c then -1 else s - c)
  else if d = 1 then (if f_X10_holds re s = 0 then s + 1 else -1)
  else if d = 2 then (if hasP r c (s + c) = 0 then -1 else s + c)
  else if d = 3 then (if f_X10_holds le s = 0 then s - 1 else -1)
  else -1
def besP (r c y x : Int32) : Int32 := if f_X11_in y.toInt64 0 ((r - 1).toInt64) = 0 then -1 else if f_X11_in x.toInt64 0 ((c - 1).toInt64) = 0 then -1 else c * y + x
def besideP (r c s d : Int32) : Int32 := besP r c (s / c + (if d = 2 then 1 else if d = 0 then -1 else 0)) ((s - s / c * c) + (if d = 1 then 1 else if d = 3 then -1 else 0))
theorem has_P {h : eH} {p : Nat} (hp : isO LF p 2 = true) (s : Int32) : f_X2_has LF h p s = some (hasP (gI h p 1) (gI h p 2) s) := by
  unfold f_X2_has hasP
  rw [if_pos hp]
  split
  · rfl
  · split <;> rfl
theorem ahead_P {h : eH} {p : Nat} (hp : isO LF p 2 = true) (s d : Int32) : f_X2_aheadOf LF h p s d = some (aheadP (gI h p 1) (gI h p 2) (gL h p 6) (gL h p 7) s d) := by
  unfold f_X2_aheadOf aheadP
  rw [if_pos hp, has_P hp, Option.bind_some, has_P hp, Option.bind_some]
  split
  · rfl
  · split
    · split <;> rfl
    · split
      · split <;> rfl
      · split
        · split <;> rfl
        · split
          · split <;> rfl
          · rfl
theorem beside_P {h : eH} (hw : ¬ gI h 73 4 = 0) (s d : Int32) : f_X11_beside LF h 73 s d = some (besideP (gI h 73 3) (gI h 73 4) s d) := by
  have j51 : ∀ y a b : Int32, f_X11_beside_J51 LF h 73 y a b = some (besP (gI h 73 3) (gI h 73 4) y (a + b)) := fun y a b => by
    unfold f_X11_beside_J51 besP
    rw [if_pos iO_73]
    split
    · rfl
    · split <;> rfl
  have j24 : ∀ a b : Int32, f_X11_beside_J24 LF h 73 s d a b = some (besP (gI h 73 3) (gI h 73 4) (a + b) ((s - s / gI h 73 4 * gI h 73 4) + (if d = 1 then 1 else if d = 3 then -1 else 0))) := fun a b => by
    unfold f_X11_beside_J24
    rw [if_pos iO_73, if_neg hw]
    split
    · rw [j51]
    · split
      · rw [j51]
      · rw [j51]
  unfold f_X11_beside besideP
  rw [if_pos iO_73, if_neg hw]
  split
  · rw [j24]
  · split
    · rw [j24]
    · rw [j24]
/-- the left and the right edge of R rows of C spots -/
def leN (R C : Nat) : Nat := (List.range R).foldl (fun a r => a + 2 ^ (r * C)) 0
def reN (R C : Nat) : Nat := leN R C * 2 ^ (C - 1)
set_option maxRecDepth 100000 in
theorem geo1 : ∀ R, R < 7 → ∀ C, C < 7 → ∀ s, s < R * C → ∀ d, d < 4 → aheadP (nI R) (nI C) (lN (leN R C)) (lN (reN R C)) (nI s) (nI d) = besideP (nI R) (nI C) (nI s) (nI d) := by decide +kernel
-- the neighbour: below R * C, or -1
set_option maxRecDepth 100000 in
theorem geo2 : ∀ R, R < 7 → ∀ C, C < 7 → ∀ s, s < R * C → ∀ d, d < 4 → besideP (nI R) (nI C) (nI s) (nI d) = -1 ∨ ∃ t, t < R * C ∧ besideP (nI R) (nI C) (nI s) (nI d) = nI t := by
  have : ∀ R, R < 7 → ∀ C, C < 7 → ∀ s, s < R * C → ∀ d, d < 4 → besideP (nI R) (nI C) (nI s) (nI d) = -1 ∨ (¬ besideP (nI R) (nI C) (nI s) (nI d) < 0 ∧ besideP (nI R) (nI C) (nI s) (nI d) < nI (R * C)) := by decide +kernel
  intro R hR C hC s hs d hd
  have hRC : R * C ≤ 36 := Nat.mul_le_mul (show R ≤ 6 by omega) (show C ≤ 6 by omega)
  rcases this R hR C hC s hs d hd with h | ⟨h1, h2⟩
  · exact Or.inl h
  · obtain ⟨t, t1, t2⟩ := nI_of h1
    rw [t2] at h2 ⊢
    exact Or.inr ⟨t, (nI_ltI t1 (by omega)).mp h2, rfl⟩

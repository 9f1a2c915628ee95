/-! The law's start: what the two constructors left shows the same state. -/
def x0 : AX := ((1, 1, fun k => if k = 0 then 1 else 0, none), (0, fun _ => 0), (0, fun _ => 0), (fun k => if k = 74 then 100 else 0), (0, fun _ _ => 0), (0, fun _ _ => 0), (0, fun _ => 0), [])
theorem x0_ok : okX 0 x0 := by
  refine ⟨⟨by decide, by decide, by decide, by decide, fun k => ?_, fun p hp => nomatch hp⟩, ⟨by decide, fun k hk => absurd hk (Nat.not_lt_zero k), fun q => absurd q (by decide)⟩, ⟨by decide, fun k hk => absurd hk (Nat.not_lt_zero k)⟩, ⟨⟨0, by decide, by decide, rfl, rfl⟩, ⟨0, by decide, rfl⟩, ⟨100, by decide, rfl⟩, ⟨0, by decide, rfl⟩, fun k hk => ⟨0, by decide, ?_, fun _ => rfl⟩, fun k hk => Or.inl ?_⟩, ⟨by decide, fun k hk => absurd hk (Nat.not_lt_zero k)⟩, ⟨by decide, fun i _ hi => ?_⟩, ⟨by decide, fun k hk => absurd hk (Nat.not_lt_zero k)⟩, Nat.zero_le _⟩
  · show (if k = 0 then 1 else 0) ≤ 2
    split <;> omega
  · show (if k = 74 then (100 : Int32) else 0) = nI 0
    rw [if_neg (by omega)]; rfl
  · show (if 36 + k = 74 then (100 : Int32) else 0) = 0
    rw [if_neg (by omega)]
  · exact absurd hi (by rw [show (xK x0).1 = 0 from rfl, Nat.zero_testBit]; decide)
theorem i0_I1 : ∀ k, k < 36 → gI wH169 47 k = 0 := by decide +kernel
theorem i0_I2 : ∀ k, k < 8 → 1 ≤ k → gI wH169 46 k = if k = 3 then 100 else 0 := by decide +kernel
theorem i0_L8 : gL wH169 46 8 = 0 := by decide +kernel
theorem i0_M : ∀ k, k < 79 → gI wH169 76 k = if k = 74 then 100 else 0 := by decide +kernel
theorem i0_K : ∀ k, k < 36 → gI wH169 75 k = if k = 0 then 1 else 0 := by decide +kernel
theorem i0_P : gI wH169 63 1 = 1 ∧ gI wH169 63 2 = 1 ∧ gI wH169 63 3 = -1 ∧ gL wH169 63 4 = 1 ∧ gL wH169 63 5 = 0 ∧ gL wH169 63 6 = lN (leN 1 1) ∧ gL wH169 63 7 = lN (reN 1 1) ∧ gI wH169 64 0 = 1 := by decide +kernel
theorem i0_R : gI wH169 67 2 = 0 ∧ gI wH169 1 1 = 0 ∧ gI wH169 6 1 = 0 ∧ gI wH169 6 2 = 0 ∧ gI wH169 0 19 = 0 ∧ gI wH169 40 2 = 0 ∧ gI wH169 3 1 = 0 := by decide +kernel
theorem i0_m : gI wH169 73 3 = 1 ∧ gI wH169 73 4 = 1 ∧ gI wH169 73 5 = -1 ∧ gI wH169 73 19 = 0 ∧ gI wH169 73 23 = -1 ∧ gI wH169 73 10 = 0 ∧ gI wH169 73 24 = 0 ∧ gI wH169 73 36 = 0 ∧ gI wH169 73 1 = 0 ∧ gI wH169 97 0 = 0 ∧ gI wH169 97 1 = 0 ∧ gI wH169 97 2 = 0 := by decide +kernel
theorem i0_r : gR wH169 0 15 = some 63 ∧ gR wH169 0 16 = some 65 ∧ gR wH169 0 17 = some 67 ∧ gR wH169 0 18 = some 70 := by decide +kernel
theorem kF_0 (k : Nat) : kF (xF x0) k = if k = 0 then 1 else 0 := by
  unfold kF
  show (if k < 1 * 1 then (if k = 0 then 1 else 0) else 0) = _
  split
  · rfl
  · rw [if_neg (by omega)]
theorem x0_C : CI wH169 x0 := by
  obtain ⟨p1, p2, p3, p4, p5, p6, p7, p8⟩ := i0_P
  obtain ⟨r1, r2, r3, r4, r5, r6, r7⟩ := i0_R
  obtain ⟨q1, q2, q3, q4⟩ := i0_r
  refine ⟨refs_start, ⟨63, Or.inl rfl, q1, q2, p1, p2, p3, fun k => ?_, fun k => ?_, p6, p7, fun k hk => ?_⟩, ⟨67, Or.inl rfl, q3, q4, r1, fun k hk => absurd hk (Nat.not_lt_zero k)⟩, ⟨r2, fun k hk => absurd hk (Nat.not_lt_zero k)⟩, ⟨fun k hk => ?_, fun k hk => ?_, fun k h1 h2 => ?_, fun k hk => ?_⟩, ⟨0, by decide, r3, r4, fun k hk => absurd hk (Nat.not_lt_zero k)⟩, ⟨r5, fun i _ hi => ?_⟩, ⟨r6, fun k hk => absurd hk (Nat.not_lt_zero k)⟩, ⟨r7, fun k hk => absurd hk (Nat.not_lt_zero k)⟩⟩
  · rw [p4, kF_0, tb_one]
    by_cases h0 : k = 0
    · subst h0; rfl
    · rw [if_neg h0]; simp [h0]
  · rw [p5, kF_0, tb_0]
    by_cases h0 : k = 0
    · subst h0; rfl
    · rw [if_neg h0]; rfl
  · have : k = 0 := by have : nF (xF x0) = 1 := rfl; omega
    subst this
    exact p8
  · rw [i0_I1 k hk]
    show (0 : Int32) = if k = 74 then 100 else 0
    rw [if_neg (by omega)]
  · rw [i0_L8, tb_0]
    show (if 36 + k = 74 then (100 : Int32) else 0) = if false = true then 1 else 0
    rw [if_neg (by omega), if_neg (by decide)]
  · rw [i0_I2 k (by omega) h1]
    show _ = if 71 + k = 74 then (100 : Int32) else 0
    by_cases h3 : k = 3
    · subst h3; rfl
    · rw [if_neg h3, if_neg (by omega)]
  · rw [i0_L8, tb_0] at hk
    cases hk
  · exact absurd hi (by rw [show (xK x0).1 = 0 from rfl, Nat.zero_testBit]; decide)
theorem x0_M : MI wH169 x0 := by
  obtain ⟨m1, m2, m3, m4, m5, m6, m7, m8, m9, n0, n1, n2⟩ := i0_m
  refine ⟨⟨m1, m2, m3, fun k hk => ?_⟩, ⟨m4, fun k hk => absurd hk (Nat.not_lt_zero k)⟩, m5, ⟨m6, fun k hk => absurd hk (Nat.not_lt_zero k)⟩, fun k hk => ?_, ⟨m7, fun k hk => absurd hk (Nat.not_lt_zero k)⟩, fun i hi => ?_, ⟨m8, fun k hk => absurd hk (Nat.not_lt_zero k)⟩, ⟨m9, fun k hk => absurd hk (Nat.not_lt_zero k)⟩⟩
  · rw [i0_K k hk, kF_0]
    split <;> rfl
  · rw [show 0 + k = k by omega, i0_M k hk]; rfl
  · have e : (xK x0).1.testBit i = false := by rw [show (xK x0).1 = 0 from rfl, Nat.zero_testBit]
    refine ⟨?_, fun q => absurd q (by rw [e]; decide)⟩
    rw [e]
    have : i = 0 ∨ i = 1 ∨ i = 2 := by omega
    rcases this with rfl | rfl | rfl
    · exact n0
    · exact n1
    · exact n2

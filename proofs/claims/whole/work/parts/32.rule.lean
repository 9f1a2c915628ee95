/-! THE RULE: its reckoning, one side at a time. -/
/-- what is asked of a state: strikes, heading, spot, rug, dust -/
def askA (F : FV) (S : Nat → Int32) (i : Nat) : Int32 := match i with
  | 0 => S 77 - S 77 / 8 * 8
  | 1 => S 73
  | 2 => S 72
  | 3 => if kF F (S 72).toNatClampNeg = 2 then 1 else 0
  | _ => S (S 72).toNatClampNeg
def wkA (a : Nat) (x y : Int32) : Int32 := match a with
  | 0 => if x < y then 1 else 0
  | 1 => if y < x then 1 else 0
  | 2 => if x = y then 1 else 0
  | 3 => x + y
  | 4 => x - y
  | 5 => x * y
  | _ => if y = 0 then 0 else x / y
/-- the class's code for the reference's -/
def ccA (c : Nat) : Int32 := if c < 1000 then nI c else if c < 2000 then -(nI (([98, 104, 115, 114, 100] : List Nat).getD (c - 1000) 0)) else if c < 3000 then -(nI (([60, 62, 61, 43, 45, 42, 47] : List Nat).getD (c - 2000) 0)) else -126
def okC (c : Nat) : Prop := c < 1000 ∨ (1000 ≤ c ∧ c < 1005) ∨ (2000 ≤ c ∧ c < 2007) ∨ c = 3000
def rsp (ask : Nat → Int32) (c : Nat) (q : Nat × (Nat → Int32)) : Nat × (Nat → Int32) :=
  if c = 3000 then (q.1, upd q.2 (q.1 - 1) (-(q.2 (q.1 - 1)))) else if c < 1000 then (q.1 + 1, upd q.2 q.1 (nI c)) else if c < 2000 then (q.1 + 1, upd q.2 q.1 (ask (c - 1000))) else (q.1 - 1, upd q.2 (q.1 - 2) (wkA (c - 2000) (q.2 (q.1 - 2)) (q.2 (q.1 - 1))))
def rsN (ask : Nat → Int32) (c : Nat → Nat) : Nat → Nat × (Nat → Int32)
  | 0 => (0, fun _ => 0)
  | k + 1 => rsp ask (c k) (rsN ask c k)
def dpN (c : Nat → Nat) : Nat → Nat
  | 0 => 0
  | k + 1 => if c k = 3000 then dpN c k else if c k < 2000 then dpN c k + 1 else dpN c k - 1
def okR (n : Nat) (c : Nat → Nat) : Prop := n ≤ 40 ∧ (∀ k, k < n → okC (c k) ∧ (c k = 3000 → 1 ≤ dpN c k) ∧ (2000 ≤ c k → c k < 3000 → 2 ≤ dpN c k)) ∧ (0 < n → 1 ≤ dpN c n)
theorem rsN_1 {ask : Nat → Int32} {c : Nat → Nat} : ∀ k, (rsN ask c k).1 = dpN c k
  | 0 => rfl
  | k + 1 => by
    have ih := rsN_1 (ask := ask) (c := c) k
    show (rsp ask (c k) (rsN ask c k)).1 = _
    unfold rsp dpN
    split
    · exact ih
    · split
      · rw [if_pos (by omega)]; show (rsN ask c k).1 + 1 = _; rw [ih]
      · split
        · show (rsN ask c k).1 + 1 = _; rw [ih]
        · show (rsN ask c k).1 - 1 = _; rw [ih]
theorem dpN_le {c : Nat → Nat} : ∀ k, dpN c k ≤ k
  | 0 => Nat.le_refl 0
  | k + 1 => by
    have := dpN_le (c := c) k
    unfold dpN
    split
    · omega
    · split <;> omega
/-- the turn that the rule tells, 0 .. 3 -/
def rmA (x : Int32) : Int32 := if 0 ≤ x - x / 4 * 4 then x - x / 4 * 4 else (x - x / 4 * 4) + 4
def rvA (n : Nat) (c : Nat → Nat) (ask : Nat → Int32) : Int32 := rmA (if n = 0 then 1 else (rsN ask c n).2 0)
def CR (h : eH) (q n : Nat) (c : Nat → Nat) : Prop := (q = 67 ∨ q = 70) ∧ gR h 0 17 = some q ∧ gR h 0 18 = some (137 - q) ∧ gI h q 2 = nI n ∧ ∀ k, k < n → gI h (q + 1) k = ccA (c k)
def MR (h : eH) (n : Nat) (c : Nat → Nat) : Prop := gI h 73 19 = nI n ∧ ∀ k, k < n → gI h 80 k = nI (c k)
theorem CR_only {W : Nat → Nat → Prop} {h h' : eH} {q n : Nat} {c : Nat → Nat} (ho : only W h h') (hW : ∀ j k, (j = 67 ∨ j = 68 ∨ j = 70 ∨ j = 71) → ¬ W j k) (hc : CR h q n c) : CR h' q n c := by
  obtain ⟨hq, r1, r2, c1, c2⟩ := hc
  exact ⟨hq, (ho.2 _ _).trans r1, (ho.2 _ _).trans r2, (ho.1 _ _ (hW _ _ (by omega))).1.trans c1, fun k hk => (ho.1 _ _ (hW _ _ (by omega))).1.trans (c2 k hk)⟩
theorem MR_only {W : Nat → Nat → Prop} {h h' : eH} {n : Nat} {c : Nat → Nat} (ho : only W h h') (hW : ¬ W 73 19) (hW2 : ∀ k, ¬ W 80 k) (hc : MR h n c) : MR h' n c := ⟨(ho.1 _ _ hW).1.trans hc.1, fun k hk => (ho.1 _ _ (hW2 k)).1.trans (hc.2 k hk)⟩
theorem q_O {q : Nat} (hq : q = 67 ∨ q = 70) : isO LF q 4 = true := by
  rcases hq with rfl | rfl
  · exact iO_67
  · exact iO_70
theorem q_c {h : eH} {q : Nat} (hR : RefsOK h) (hq : q = 67 ∨ q = 70) : gR h q 0 = some (q + 1) ∧ gR h q 1 = some (q + 2) := by
  rcases hq with rfl | rfl
  · exact ⟨r_67_0 hR, r_67_1 hR⟩
  · exact ⟨r_70_0 hR, r_70_1 hR⟩
theorem q_A {q : Nat} (hq : q = 67 ∨ q = 70) (i : Int32) : inA LF (q + 1) 0 i = (!(decide (i < 0)) && decide (i.toNatClampNeg < 40)) ∧ inA LF (q + 2) 0 i = (!(decide (i < 0)) && decide (i.toNatClampNeg < 40)) := by
  rcases hq with rfl | rfl
  · exact ⟨iA_68 i, iA_69 i⟩
  · exact ⟨iA_71 i, iA_72 i⟩
theorem cc_num {c : Nat} (h : c < 1000) : ccA c = nI c := by unfold ccA; rw [if_pos h]
theorem cc_thing : ∀ i, i < 5 → ¬ 0 ≤ ccA (1000 + i) ∧ ccA (1000 + i) < 0 ∧ ¬ f_X4_isThing (-(ccA (1000 + i))) = 0 := by decide +kernel
theorem cc_act : ∀ i, i < 7 → ¬ 0 ≤ ccA (2000 + i) ∧ f_X4_isThing (-(ccA (2000 + i))) = 0 ∧ ¬ -(ccA (2000 + i)) = 126 := by decide +kernel
theorem cc_neg : ¬ 0 ≤ ccA 3000 ∧ f_X4_isThing (-(ccA 3000)) = 0 ∧ -(ccA 3000) = 126 := by decide +kernel
theorem reck_w (i : Nat) (hi : i < 7) (x y : Int32) : f_X4_reckoned (-(ccA (2000 + i))) x y = some (wkA i x y) := by
  have l1 : (if y ≤ x then some (f_X10_oneIf 0) else some (f_X10_oneIf 1)) = some (if x < y then (1 : Int32) else 0) := by
    by_cases h : x < y
    · rw [if_neg (by rw [fa_le]; rw [fa_lt] at h; omega), if_pos h]; rfl
    · rw [if_pos (by rw [fa_le]; rw [fa_lt] at h; omega), if_neg h]; rfl
  have l2 : (if x ≤ y then some (f_X10_oneIf 0) else some (f_X10_oneIf 1)) = some (if y < x then (1 : Int32) else 0) := by
    by_cases h : y < x
    · rw [if_neg (by rw [fa_le]; rw [fa_lt] at h; omega), if_pos h]; rfl
    · rw [if_pos (by rw [fa_le]; rw [fa_lt] at h; omega), if_neg h]; rfl
  have l3 : (if x = y then some (f_X10_oneIf 1) else some (f_X10_oneIf 0)) = some (if x = y then (1 : Int32) else 0) := by split <;> rfl
  have : i = 0 ∨ i = 1 ∨ i = 2 ∨ i = 3 ∨ i = 4 ∨ i = 5 ∨ i = 6 := by omega
  unfold f_X4_reckoned
  rcases this with rfl | rfl | rfl | rfl | rfl | rfl | rfl
  · rw [show -(ccA (2000 + 0)) = 60 by decide +kernel]; simp only [wkA]; exact l1
  · rw [show -(ccA (2000 + 1)) = 62 by decide +kernel]; simp only [wkA]; exact l2
  · rw [show -(ccA (2000 + 2)) = 61 by decide +kernel]; simp only [wkA]; exact l3
  · rw [show -(ccA (2000 + 3)) = 43 by decide +kernel]; rfl
  · rw [show -(ccA (2000 + 4)) = 45 by decide +kernel]; rfl
  · rw [show -(ccA (2000 + 5)) = 42 by decide +kernel]; rfl
  · rw [show -(ccA (2000 + 6)) = 47 by decide +kernel]
    show (if y = 0 then some 0 else if y = 0 then none else some (x / y)) = some (if y = 0 then 0 else x / y)
    by_cases h : y = 0
    · rw [if_pos h, if_pos h]
    · rw [if_neg h, if_neg h, if_neg h]
theorem work_w (i : Nat) (hi : i < 7) (x y : Int32) : f_X11_worked (nI i) x y = some (wkA i x y) := by
  have l1 : (if y ≤ x then some (f_X11_flag 0) else some (f_X11_flag 1)) = some (if x < y then (1 : Int32) else 0) := by
    by_cases h : x < y
    · rw [if_neg (by rw [fa_le]; rw [fa_lt] at h; omega), if_pos h]; rfl
    · rw [if_pos (by rw [fa_le]; rw [fa_lt] at h; omega), if_neg h]; rfl
  have l2 : (if x ≤ y then some (f_X11_flag 0) else some (f_X11_flag 1)) = some (if y < x then (1 : Int32) else 0) := by
    by_cases h : y < x
    · rw [if_neg (by rw [fa_le]; rw [fa_lt] at h; omega), if_pos h]; rfl
    · rw [if_pos (by rw [fa_le]; rw [fa_lt] at h; omega), if_neg h]; rfl
  have l3 : (if x = y then some (f_X11_flag 1) else some (f_X11_flag 0)) = some (if x = y then (1 : Int32) else 0) := by split <;> rfl
  have : i = 0 ∨ i = 1 ∨ i = 2 ∨ i = 3 ∨ i = 4 ∨ i = 5 ∨ i = 6 := by omega
  unfold f_X11_worked
  rcases this with rfl | rfl | rfl | rfl | rfl | rfl | rfl
  · exact l1
  · exact l2
  · exact l3
  · rfl
  · rfl
  · rfl
  · show (if y = 0 then some 0 else if y = 0 then none else some (x / y)) = some (if y = 0 then 0 else x / y)
    by_cases h : y = 0
    · rw [if_pos h, if_pos h]
    · rw [if_neg h, if_neg h, if_neg h]

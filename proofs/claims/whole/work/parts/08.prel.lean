/-! What the laid walks use. -/
def e_fu : Nat := 4000
theorem e_metl {l : Launch} {y : MethodName} {cc : ByteArray} {nL : Nat} {ret : Option FieldType} {mc ms : Nat} {fx : Bool} {Qa : Option Value → eL → eH → Prop} {L : eL} {h : eH} {d : Nat} {as : List Value} {lv : List (Nat × Value)} (hy : plainName y.cls = true) (hn : (lg_sl as).length ≤ nL) (hlv : lv_args 0 as = lv) (hE : E l y cc nL ret (e_rm d mc ms) mc ms fx L Qa L h 0 0 0 lv []) : e_Met l y cc nL ret d mc ms fx L h as Qa := e_met hy hn (by rw [hlv]; exact hE)
def isB (x : Int32) : Bool := decide (x = 0) || decide (x = 1)
theorem isB_n {x : Int32} (h : isB x = true) : narrow .boolean (.int x) = .int x := by
  simp only [isB, Bool.or_eq_true, decide_eq_true_eq] at h
  rcases h with rfl | rfl <;> rfl
theorem qT {L : eL} {h : eH} {x r : Int32} (hf : x = r) : Qx (some (.int r)) L h (some (.int x)) L h := ⟨by rw [hf], rfl, rfl⟩
theorem qTL {L : eL} {h : eH} {x r : Int64} (hf : x = r) : Qx (some (.long r)) L h (some (.long x)) L h := ⟨by rw [hf], rfl, rfl⟩
theorem qP {L : eL} {h : eH} {x r : Int32} (hf : some x = some r) : Qx (some (.int r)) L h (some (.int x)) L h := ⟨by cases hf; rfl, rfl, rfl⟩
theorem qPL {L : eL} {h : eH} {x r : Int64} (hf : some x = some r) : Qx (some (.long r)) L h (some (.long x)) L h := ⟨by cases hf; rfl, rfl, rfl⟩
theorem qW {L : eL} {h : eH} {x : Int32} {r : eH × Int32} (hf : some (h, x) = some r) : Qx (some (.int r.2)) L r.1 (some (.int x)) L h := by cases hf; exact ⟨rfl, rfl, rfl⟩
theorem qWL {L : eL} {h : eH} {x : Int64} {r : eH × Int64} (hf : some (h, x) = some r) : Qx (some (.long r.2)) L r.1 (some (.long x)) L h := by cases hf; exact ⟨rfl, rfl, rfl⟩
theorem qV {L : eL} {h r : eH} (hf : some h = some r) : Qx none L r none L h := by cases hf; exact ⟨rfl, rfl, rfl⟩
theorem fc_0_0 : (0 < 12 ∧ 0 < e_N 0) ∧ ((∃ c, e_ty 0 0 = .object c) ∨ ∃ c, e_ty 0 0 = .array c) := ⟨⟨by decide, by decide⟩, Or.inr ⟨_, rfl⟩⟩
theorem fc_0_1 : (0 < 12 ∧ 1 < e_N 0) ∧ ((∃ c, e_ty 0 1 = .object c) ∨ ∃ c, e_ty 0 1 = .array c) := ⟨⟨by decide, by decide⟩, Or.inr ⟨_, rfl⟩⟩
theorem fc_0_2 : (0 < 12 ∧ 2 < e_N 0) ∧ e_ty 0 2 = .int := ⟨⟨by decide, by decide⟩, rfl⟩
theorem fc_1_0 : (1 < 12 ∧ 0 < e_N 1) ∧ ((∃ c, e_ty 1 0 = .object c) ∨ ∃ c, e_ty 1 0 = .array c) := ⟨⟨by decide, by decide⟩, Or.inr ⟨_, rfl⟩⟩
theorem fc_1_1 : (1 < 12 ∧ 1 < e_N 1) ∧ e_ty 1 1 = .int := ⟨⟨by decide, by decide⟩, rfl⟩
theorem fc_1_2 : (1 < 12 ∧ 2 < e_N 1) ∧ e_ty 1 2 = .int := ⟨⟨by decide, by decide⟩, rfl⟩
theorem fc_2_0 : (2 < 12 ∧ 0 < e_N 2) ∧ ((∃ c, e_ty 2 0 = .object c) ∨ ∃ c, e_ty 2 0 = .array c) := ⟨⟨by decide, by decide⟩, Or.inr ⟨_, rfl⟩⟩
theorem fc_2_1 : (2 < 12 ∧ 1 < e_N 2) ∧ e_ty 2 1 = .int := ⟨⟨by decide, by decide⟩, rfl⟩
theorem fc_2_2 : (2 < 12 ∧ 2 < e_N 2) ∧ e_ty 2 2 = .int := ⟨⟨by decide, by decide⟩, rfl⟩
theorem fc_2_3 : (2 < 12 ∧ 3 < e_N 2) ∧ e_ty 2 3 = .int := ⟨⟨by decide, by decide⟩, rfl⟩
theorem fc_2_4 : (2 < 12 ∧ 4 < e_N 2) ∧ e_ty 2 4 = .long := ⟨⟨by decide, by decide⟩, rfl⟩
theorem fc_2_5 : (2 < 12 ∧ 5 < e_N 2) ∧ e_ty 2 5 = .long := ⟨⟨by decide, by decide⟩, rfl⟩
theorem fc_2_6 : (2 < 12 ∧ 6 < e_N 2) ∧ e_ty 2 6 = .long := ⟨⟨by decide, by decide⟩, rfl⟩
theorem fc_2_7 : (2 < 12 ∧ 7 < e_N 2) ∧ e_ty 2 7 = .long := ⟨⟨by decide, by decide⟩, rfl⟩
theorem fc_3_0 : (3 < 12 ∧ 0 < e_N 3) ∧ ((∃ c, e_ty 3 0 = .object c) ∨ ∃ c, e_ty 3 0 = .array c) := ⟨⟨by decide, by decide⟩, Or.inr ⟨_, rfl⟩⟩
theorem fc_3_1 : (3 < 12 ∧ 1 < e_N 3) ∧ e_ty 3 1 = .int := ⟨⟨by decide, by decide⟩, rfl⟩
theorem fc_4_0 : (4 < 12 ∧ 0 < e_N 4) ∧ ((∃ c, e_ty 4 0 = .object c) ∨ ∃ c, e_ty 4 0 = .array c) := ⟨⟨by decide, by decide⟩, Or.inr ⟨_, rfl⟩⟩
theorem fc_4_1 : (4 < 12 ∧ 1 < e_N 4) ∧ ((∃ c, e_ty 4 1 = .object c) ∨ ∃ c, e_ty 4 1 = .array c) := ⟨⟨by decide, by decide⟩, Or.inr ⟨_, rfl⟩⟩
theorem fc_4_2 : (4 < 12 ∧ 2 < e_N 4) ∧ e_ty 4 2 = .int := ⟨⟨by decide, by decide⟩, rfl⟩
theorem fc_5_0 : (5 < 12 ∧ 0 < e_N 5) ∧ ((∃ c, e_ty 5 0 = .object c) ∨ ∃ c, e_ty 5 0 = .array c) := ⟨⟨by decide, by decide⟩, Or.inl ⟨_, rfl⟩⟩
theorem fc_5_1 : (5 < 12 ∧ 1 < e_N 5) ∧ ((∃ c, e_ty 5 1 = .object c) ∨ ∃ c, e_ty 5 1 = .array c) := ⟨⟨by decide, by decide⟩, Or.inl ⟨_, rfl⟩⟩
theorem fc_5_2 : (5 < 12 ∧ 2 < e_N 5) ∧ e_ty 5 2 = .int := ⟨⟨by decide, by decide⟩, rfl⟩
theorem fc_5_3 : (5 < 12 ∧ 3 < e_N 5) ∧ e_ty 5 3 = .int := ⟨⟨by decide, by decide⟩, rfl⟩
theorem fc_6_0 : (6 < 12 ∧ 0 < e_N 6) ∧ ((∃ c, e_ty 6 0 = .object c) ∨ ∃ c, e_ty 6 0 = .array c) := ⟨⟨by decide, by decide⟩, Or.inr ⟨_, rfl⟩⟩
theorem fc_6_1 : (6 < 12 ∧ 1 < e_N 6) ∧ e_ty 6 1 = .int := ⟨⟨by decide, by decide⟩, rfl⟩
theorem fc_6_2 : (6 < 12 ∧ 2 < e_N 6) ∧ e_ty 6 2 = .int := ⟨⟨by decide, by decide⟩, rfl⟩
theorem fc_6_3 : (6 < 12 ∧ 3 < e_N 6) ∧ e_ty 6 3 = .int := ⟨⟨by decide, by decide⟩, rfl⟩
theorem fc_6_4 : (6 < 12 ∧ 4 < e_N 6) ∧ e_ty 6 4 = .int := ⟨⟨by decide, by decide⟩, rfl⟩
theorem fc_6_5 : (6 < 12 ∧ 5 < e_N 6) ∧ e_ty 6 5 = .int := ⟨⟨by decide, by decide⟩, rfl⟩
theorem fc_6_6 : (6 < 12 ∧ 6 < e_N 6) ∧ e_ty 6 6 = .int := ⟨⟨by decide, by decide⟩, rfl⟩
theorem fc_6_7 : (6 < 12 ∧ 7 < e_N 6) ∧ e_ty 6 7 = .int := ⟨⟨by decide, by decide⟩, rfl⟩
theorem fc_6_8 : (6 < 12 ∧ 8 < e_N 6) ∧ e_ty 6 8 = .long := ⟨⟨by decide, by decide⟩, rfl⟩
theorem fc_7_0 : (7 < 12 ∧ 0 < e_N 7) ∧ ((∃ c, e_ty 7 0 = .object c) ∨ ∃ c, e_ty 7 0 = .array c) := ⟨⟨by decide, by decide⟩, Or.inr ⟨_, rfl⟩⟩
theorem fc_7_1 : (7 < 12 ∧ 1 < e_N 7) ∧ ((∃ c, e_ty 7 1 = .object c) ∨ ∃ c, e_ty 7 1 = .array c) := ⟨⟨by decide, by decide⟩, Or.inr ⟨_, rfl⟩⟩
theorem fc_7_2 : (7 < 12 ∧ 2 < e_N 7) ∧ ((∃ c, e_ty 7 2 = .object c) ∨ ∃ c, e_ty 7 2 = .array c) := ⟨⟨by decide, by decide⟩, Or.inl ⟨_, rfl⟩⟩
theorem fc_7_3 : (7 < 12 ∧ 3 < e_N 7) ∧ ((∃ c, e_ty 7 3 = .object c) ∨ ∃ c, e_ty 7 3 = .array c) := ⟨⟨by decide, by decide⟩, Or.inl ⟨_, rfl⟩⟩
theorem fc_7_4 : (7 < 12 ∧ 4 < e_N 7) ∧ e_ty 7 4 = .long := ⟨⟨by decide, by decide⟩, rfl⟩
theorem fc_7_5 : (7 < 12 ∧ 5 < e_N 7) ∧ e_ty 7 5 = .int := ⟨⟨by decide, by decide⟩, rfl⟩
theorem fc_7_6 : (7 < 12 ∧ 6 < e_N 7) ∧ e_ty 7 6 = .int := ⟨⟨by decide, by decide⟩, rfl⟩
theorem fc_7_7 : (7 < 12 ∧ 7 < e_N 7) ∧ e_ty 7 7 = .int := ⟨⟨by decide, by decide⟩, rfl⟩
theorem fc_7_8 : (7 < 12 ∧ 8 < e_N 7) ∧ e_ty 7 8 = .int := ⟨⟨by decide, by decide⟩, rfl⟩
theorem fc_8_0 : (8 < 12 ∧ 0 < e_N 8) ∧ ((∃ c, e_ty 8 0 = .object c) ∨ ∃ c, e_ty 8 0 = .array c) := ⟨⟨by decide, by decide⟩, Or.inr ⟨_, rfl⟩⟩
theorem fc_8_1 : (8 < 12 ∧ 1 < e_N 8) ∧ e_ty 8 1 = .int := ⟨⟨by decide, by decide⟩, rfl⟩
theorem fc_9_0 : (9 < 12 ∧ 0 < e_N 9) ∧ ((∃ c, e_ty 9 0 = .object c) ∨ ∃ c, e_ty 9 0 = .array c) := ⟨⟨by decide, by decide⟩, Or.inr ⟨_, rfl⟩⟩
theorem fc_9_1 : (9 < 12 ∧ 1 < e_N 9) ∧ e_ty 9 1 = .long := ⟨⟨by decide, by decide⟩, rfl⟩
theorem fc_10_0 : (10 < 12 ∧ 0 < e_N 10) ∧ ((∃ c, e_ty 10 0 = .object c) ∨ ∃ c, e_ty 10 0 = .array c) := ⟨⟨by decide, by decide⟩, Or.inl ⟨_, rfl⟩⟩
theorem fc_10_1 : (10 < 12 ∧ 1 < e_N 10) ∧ ((∃ c, e_ty 10 1 = .object c) ∨ ∃ c, e_ty 10 1 = .array c) := ⟨⟨by decide, by decide⟩, Or.inl ⟨_, rfl⟩⟩
theorem fc_10_2 : (10 < 12 ∧ 2 < e_N 10) ∧ ((∃ c, e_ty 10 2 = .object c) ∨ ∃ c, e_ty 10 2 = .array c) := ⟨⟨by decide, by decide⟩, Or.inl ⟨_, rfl⟩⟩
theorem fc_10_3 : (10 < 12 ∧ 3 < e_N 10) ∧ ((∃ c, e_ty 10 3 = .object c) ∨ ∃ c, e_ty 10 3 = .array c) := ⟨⟨by decide, by decide⟩, Or.inl ⟨_, rfl⟩⟩
theorem fc_10_4 : (10 < 12 ∧ 4 < e_N 10) ∧ ((∃ c, e_ty 10 4 = .object c) ∨ ∃ c, e_ty 10 4 = .array c) := ⟨⟨by decide, by decide⟩, Or.inl ⟨_, rfl⟩⟩
theorem fc_10_5 : (10 < 12 ∧ 5 < e_N 10) ∧ ((∃ c, e_ty 10 5 = .object c) ∨ ∃ c, e_ty 10 5 = .array c) := ⟨⟨by decide, by decide⟩, Or.inl ⟨_, rfl⟩⟩
theorem fc_10_6 : (10 < 12 ∧ 6 < e_N 10) ∧ ((∃ c, e_ty 10 6 = .object c) ∨ ∃ c, e_ty 10 6 = .array c) := ⟨⟨by decide, by decide⟩, Or.inl ⟨_, rfl⟩⟩
theorem fc_10_7 : (10 < 12 ∧ 7 < e_N 10) ∧ ((∃ c, e_ty 10 7 = .object c) ∨ ∃ c, e_ty 10 7 = .array c) := ⟨⟨by decide, by decide⟩, Or.inl ⟨_, rfl⟩⟩
theorem fc_10_8 : (10 < 12 ∧ 8 < e_N 10) ∧ ((∃ c, e_ty 10 8 = .object c) ∨ ∃ c, e_ty 10 8 = .array c) := ⟨⟨by decide, by decide⟩, Or.inl ⟨_, rfl⟩⟩
theorem fc_10_9 : (10 < 12 ∧ 9 < e_N 10) ∧ ((∃ c, e_ty 10 9 = .object c) ∨ ∃ c, e_ty 10 9 = .array c) := ⟨⟨by decide, by decide⟩, Or.inl ⟨_, rfl⟩⟩
theorem fc_10_10 : (10 < 12 ∧ 10 < e_N 10) ∧ ((∃ c, e_ty 10 10 = .object c) ∨ ∃ c, e_ty 10 10 = .array c) := ⟨⟨by decide, by decide⟩, Or.inr ⟨_, rfl⟩⟩
theorem fc_10_11 : (10 < 12 ∧ 11 < e_N 10) ∧ ((∃ c, e_ty 10 11 = .object c) ∨ ∃ c, e_ty 10 11 = .array c) := ⟨⟨by decide, by decide⟩, Or.inr ⟨_, rfl⟩⟩
theorem fc_10_12 : (10 < 12 ∧ 12 < e_N 10) ∧ ((∃ c, e_ty 10 12 = .object c) ∨ ∃ c, e_ty 10 12 = .array c) := ⟨⟨by decide, by decide⟩, Or.inr ⟨_, rfl⟩⟩
theorem fc_10_13 : (10 < 12 ∧ 13 < e_N 10) ∧ ((∃ c, e_ty 10 13 = .object c) ∨ ∃ c, e_ty 10 13 = .array c) := ⟨⟨by decide, by decide⟩, Or.inr ⟨_, rfl⟩⟩
theorem fc_10_14 : (10 < 12 ∧ 14 < e_N 10) ∧ ((∃ c, e_ty 10 14 = .object c) ∨ ∃ c, e_ty 10 14 = .array c) := ⟨⟨by decide, by decide⟩, Or.inr ⟨_, rfl⟩⟩
theorem fc_10_15 : (10 < 12 ∧ 15 < e_N 10) ∧ ((∃ c, e_ty 10 15 = .object c) ∨ ∃ c, e_ty 10 15 = .array c) := ⟨⟨by decide, by decide⟩, Or.inl ⟨_, rfl⟩⟩
theorem fc_10_16 : (10 < 12 ∧ 16 < e_N 10) ∧ ((∃ c, e_ty 10 16 = .object c) ∨ ∃ c, e_ty 10 16 = .array c) := ⟨⟨by decide, by decide⟩, Or.inl ⟨_, rfl⟩⟩
theorem fc_10_17 : (10 < 12 ∧ 17 < e_N 10) ∧ ((∃ c, e_ty 10 17 = .object c) ∨ ∃ c, e_ty 10 17 = .array c) := ⟨⟨by decide, by decide⟩, Or.inl ⟨_, rfl⟩⟩
theorem fc_10_18 : (10 < 12 ∧ 18 < e_N 10) ∧ ((∃ c, e_ty 10 18 = .object c) ∨ ∃ c, e_ty 10 18 = .array c) := ⟨⟨by decide, by decide⟩, Or.inl ⟨_, rfl⟩⟩
theorem fc_10_19 : (10 < 12 ∧ 19 < e_N 10) ∧ e_ty 10 19 = .int := ⟨⟨by decide, by decide⟩, rfl⟩
theorem fc_11_0 : (11 < 12 ∧ 0 < e_N 11) ∧ e_ty 11 0 = .int := ⟨⟨by decide, by decide⟩, rfl⟩
theorem fc_11_1 : (11 < 12 ∧ 1 < e_N 11) ∧ e_ty 11 1 = .int := ⟨⟨by decide, by decide⟩, rfl⟩
theorem fc_11_2 : (11 < 12 ∧ 2 < e_N 11) ∧ ((∃ c, e_ty 11 2 = .object c) ∨ ∃ c, e_ty 11 2 = .array c) := ⟨⟨by decide, by decide⟩, Or.inr ⟨_, rfl⟩⟩
theorem fc_11_3 : (11 < 12 ∧ 3 < e_N 11) ∧ e_ty 11 3 = .int := ⟨⟨by decide, by decide⟩, rfl⟩
theorem fc_11_4 : (11 < 12 ∧ 4 < e_N 11) ∧ e_ty 11 4 = .int := ⟨⟨by decide, by decide⟩, rfl⟩
theorem fc_11_5 : (11 < 12 ∧ 5 < e_N 11) ∧ e_ty 11 5 = .int := ⟨⟨by decide, by decide⟩, rfl⟩
theorem fc_11_6 : (11 < 12 ∧ 6 < e_N 11) ∧ ((∃ c, e_ty 11 6 = .object c) ∨ ∃ c, e_ty 11 6 = .array c) := ⟨⟨by decide, by decide⟩, Or.inr ⟨_, rfl⟩⟩
theorem fc_11_7 : (11 < 12 ∧ 7 < e_N 11) ∧ ((∃ c, e_ty 11 7 = .object c) ∨ ∃ c, e_ty 11 7 = .array c) := ⟨⟨by decide, by decide⟩, Or.inr ⟨_, rfl⟩⟩
theorem fc_11_8 : (11 < 12 ∧ 8 < e_N 11) ∧ ((∃ c, e_ty 11 8 = .object c) ∨ ∃ c, e_ty 11 8 = .array c) := ⟨⟨by decide, by decide⟩, Or.inr ⟨_, rfl⟩⟩
theorem fc_11_9 : (11 < 12 ∧ 9 < e_N 11) ∧ ((∃ c, e_ty 11 9 = .object c) ∨ ∃ c, e_ty 11 9 = .array c) := ⟨⟨by decide, by decide⟩, Or.inr ⟨_, rfl⟩⟩
theorem fc_11_10 : (11 < 12 ∧ 10 < e_N 11) ∧ e_ty 11 10 = .int := ⟨⟨by decide, by decide⟩, rfl⟩
theorem fc_11_11 : (11 < 12 ∧ 11 < e_N 11) ∧ e_ty 11 11 = .int := ⟨⟨by decide, by decide⟩, rfl⟩
theorem fc_11_12 : (11 < 12 ∧ 12 < e_N 11) ∧ e_ty 11 12 = .int := ⟨⟨by decide, by decide⟩, rfl⟩
theorem fc_11_13 : (11 < 12 ∧ 13 < e_N 11) ∧ e_ty 11 13 = .int := ⟨⟨by decide, by decide⟩, rfl⟩
theorem fc_11_14 : (11 < 12 ∧ 14 < e_N 11) ∧ ((∃ c, e_ty 11 14 = .object c) ∨ ∃ c, e_ty 11 14 = .array c) := ⟨⟨by decide, by decide⟩, Or.inr ⟨_, rfl⟩⟩
theorem fc_11_15 : (11 < 12 ∧ 15 < e_N 11) ∧ e_ty 11 15 = .int := ⟨⟨by decide, by decide⟩, rfl⟩
theorem fc_11_16 : (11 < 12 ∧ 16 < e_N 11) ∧ e_ty 11 16 = .int := ⟨⟨by decide, by decide⟩, rfl⟩
theorem fc_11_17 : (11 < 12 ∧ 17 < e_N 11) ∧ ((∃ c, e_ty 11 17 = .object c) ∨ ∃ c, e_ty 11 17 = .array c) := ⟨⟨by decide, by decide⟩, Or.inr ⟨_, rfl⟩⟩
theorem fc_11_18 : (11 < 12 ∧ 18 < e_N 11) ∧ ((∃ c, e_ty 11 18 = .object c) ∨ ∃ c, e_ty 11 18 = .array c) := ⟨⟨by decide, by decide⟩, Or.inr ⟨_, rfl⟩⟩
theorem fc_11_19 : (11 < 12 ∧ 19 < e_N 11) ∧ e_ty 11 19 = .int := ⟨⟨by decide, by decide⟩, rfl⟩
theorem fc_11_20 : (11 < 12 ∧ 20 < e_N 11) ∧ e_ty 11 20 = .int := ⟨⟨by decide, by decide⟩, rfl⟩
theorem fc_11_21 : (11 < 12 ∧ 21 < e_N 11) ∧ ((∃ c, e_ty 11 21 = .object c) ∨ ∃ c, e_ty 11 21 = .array c) := ⟨⟨by decide, by decide⟩, Or.inr ⟨_, rfl⟩⟩
theorem fc_11_22 : (11 < 12 ∧ 22 < e_N 11) ∧ ((∃ c, e_ty 11 22 = .object c) ∨ ∃ c, e_ty 11 22 = .array c) := ⟨⟨by decide, by decide⟩, Or.inr ⟨_, rfl⟩⟩
theorem fc_11_23 : (11 < 12 ∧ 23 < e_N 11) ∧ e_ty 11 23 = .int := ⟨⟨by decide, by decide⟩, rfl⟩
theorem fc_11_24 : (11 < 12 ∧ 24 < e_N 11) ∧ e_ty 11 24 = .int := ⟨⟨by decide, by decide⟩, rfl⟩
theorem fc_11_25 : (11 < 12 ∧ 25 < e_N 11) ∧ ((∃ c, e_ty 11 25 = .object c) ∨ ∃ c, e_ty 11 25 = .array c) := ⟨⟨by decide, by decide⟩, Or.inr ⟨_, rfl⟩⟩
theorem fc_11_26 : (11 < 12 ∧ 26 < e_N 11) ∧ ((∃ c, e_ty 11 26 = .object c) ∨ ∃ c, e_ty 11 26 = .array c) := ⟨⟨by decide, by decide⟩, Or.inr ⟨_, rfl⟩⟩
theorem fc_11_27 : (11 < 12 ∧ 27 < e_N 11) ∧ ((∃ c, e_ty 11 27 = .object c) ∨ ∃ c, e_ty 11 27 = .array c) := ⟨⟨by decide, by decide⟩, Or.inr ⟨_, rfl⟩⟩
theorem fc_11_28 : (11 < 12 ∧ 28 < e_N 11) ∧ e_ty 11 28 = .int := ⟨⟨by decide, by decide⟩, rfl⟩
theorem fc_11_29 : (11 < 12 ∧ 29 < e_N 11) ∧ e_ty 11 29 = .long := ⟨⟨by decide, by decide⟩, rfl⟩
theorem fc_11_30 : (11 < 12 ∧ 30 < e_N 11) ∧ ((∃ c, e_ty 11 30 = .object c) ∨ ∃ c, e_ty 11 30 = .array c) := ⟨⟨by decide, by decide⟩, Or.inr ⟨_, rfl⟩⟩
theorem fc_11_31 : (11 < 12 ∧ 31 < e_N 11) ∧ ((∃ c, e_ty 11 31 = .object c) ∨ ∃ c, e_ty 11 31 = .array c) := ⟨⟨by decide, by decide⟩, Or.inr ⟨_, rfl⟩⟩
theorem fc_11_32 : (11 < 12 ∧ 32 < e_N 11) ∧ ((∃ c, e_ty 11 32 = .object c) ∨ ∃ c, e_ty 11 32 = .array c) := ⟨⟨by decide, by decide⟩, Or.inr ⟨_, rfl⟩⟩
theorem fc_11_33 : (11 < 12 ∧ 33 < e_N 11) ∧ ((∃ c, e_ty 11 33 = .object c) ∨ ∃ c, e_ty 11 33 = .array c) := ⟨⟨by decide, by decide⟩, Or.inr ⟨_, rfl⟩⟩
theorem fc_11_34 : (11 < 12 ∧ 34 < e_N 11) ∧ e_ty 11 34 = .int := ⟨⟨by decide, by decide⟩, rfl⟩
theorem fc_11_35 : (11 < 12 ∧ 35 < e_N 11) ∧ e_ty 11 35 = .int := ⟨⟨by decide, by decide⟩, rfl⟩
theorem fc_11_36 : (11 < 12 ∧ 36 < e_N 11) ∧ e_ty 11 36 = .int := ⟨⟨by decide, by decide⟩, rfl⟩
theorem fc_11_37 : (11 < 12 ∧ 37 < e_N 11) ∧ ((∃ c, e_ty 11 37 = .object c) ∨ ∃ c, e_ty 11 37 = .array c) := ⟨⟨by decide, by decide⟩, Or.inr ⟨_, rfl⟩⟩
theorem fc_11_38 : (11 < 12 ∧ 38 < e_N 11) ∧ ((∃ c, e_ty 11 38 = .object c) ∨ ∃ c, e_ty 11 38 = .array c) := ⟨⟨by decide, by decide⟩, Or.inr ⟨_, rfl⟩⟩
theorem fc_11_39 : (11 < 12 ∧ 39 < e_N 11) ∧ ((∃ c, e_ty 11 39 = .object c) ∨ ∃ c, e_ty 11 39 = .array c) := ⟨⟨by decide, by decide⟩, Or.inr ⟨_, rfl⟩⟩
theorem fc_11_40 : (11 < 12 ∧ 40 < e_N 11) ∧ ((∃ c, e_ty 11 40 = .object c) ∨ ∃ c, e_ty 11 40 = .array c) := ⟨⟨by decide, by decide⟩, Or.inr ⟨_, rfl⟩⟩
theorem fc_11_41 : (11 < 12 ∧ 41 < e_N 11) ∧ ((∃ c, e_ty 11 41 = .object c) ∨ ∃ c, e_ty 11 41 = .array c) := ⟨⟨by decide, by decide⟩, Or.inr ⟨_, rfl⟩⟩
theorem fc_11_42 : (11 < 12 ∧ 42 < e_N 11) ∧ ((∃ c, e_ty 11 42 = .object c) ∨ ∃ c, e_ty 11 42 = .array c) := ⟨⟨by decide, by decide⟩, Or.inr ⟨_, rfl⟩⟩
theorem fc_11_43 : (11 < 12 ∧ 43 < e_N 11) ∧ e_ty 11 43 = .int := ⟨⟨by decide, by decide⟩, rfl⟩
theorem fc_11_44 : (11 < 12 ∧ 44 < e_N 11) ∧ ((∃ c, e_ty 11 44 = .object c) ∨ ∃ c, e_ty 11 44 = .array c) := ⟨⟨by decide, by decide⟩, Or.inr ⟨_, rfl⟩⟩
theorem fc_11_45 : (11 < 12 ∧ 45 < e_N 11) ∧ ((∃ c, e_ty 11 45 = .object c) ∨ ∃ c, e_ty 11 45 = .array c) := ⟨⟨by decide, by decide⟩, Or.inr ⟨_, rfl⟩⟩
theorem cop_RX6_44 : e_cop RX6 44 := ⟨e_mem 595 (by decide +kernel) (by decide +kernel), e_mem 597 (by decide +kernel) (by decide +kernel), e_mem 596 (by decide +kernel) (by decide +kernel), e_mem 108 (by decide +kernel) (by decide +kernel)⟩
theorem cop_RX10_423 : e_cop RX10 423 := ⟨e_mem 952 (by decide +kernel) (by decide +kernel), e_mem 597 (by decide +kernel) (by decide +kernel), e_mem 596 (by decide +kernel) (by decide +kernel), e_mem 108 (by decide +kernel) (by decide +kernel)⟩
def mnI (x b : Int32) : Int32 := if b < x then b else x
def mxI (x b : Int32) : Int32 := if x < b then b else x
theorem e_mnw : Cond.static Lib.Math.min.name ∈ e_gw ∧ Cond.initialized "java/lang/Math" ∈ e_gw ∧ Cond.code Lib.Math.min.name Lib.Math.min.code 2 (some .int) ∈ e_gw := ⟨e_mem 514 (by decide +kernel) (by decide +kernel), e_mem 99 (by decide +kernel) (by decide +kernel), e_mem 515 (by decide +kernel) (by decide +kernel)⟩
theorem e_mxw : Cond.static Lib.Math.max.name ∈ e_gw ∧ Cond.initialized "java/lang/Math" ∈ e_gw ∧ Cond.code Lib.Math.max.name Lib.Math.max.code 2 (some .int) ∈ e_gw := ⟨e_mem 581 (by decide +kernel) (by decide +kernel), e_mem 99 (by decide +kernel) (by decide +kernel), e_mem 582 (by decide +kernel) (by decide +kernel)⟩
theorem e_mn {l : Launch} {y : MethodName} {cc : ByteArray} {nL : Nat} {ret : Option FieldType} {d mc ms : Nat} {fx : Bool} {L0 : eL} {Qa : Option Value → eL → eH → Prop} {L : eL} {h : eH} {k n pc : Nat} {lv : List (Nat × Value)} {st : List Value} {ix : Nat} {x b : Int32} (hw : Cond.methodLink y.cls ix Lib.Math.min.name ∈ e_gw) (hR : 1 ≤ d) (h8 : (st.map fun v => v.category).sum ≤ 8) (hk : k ≤ mc ∧ n ≤ ms) (hd : decode cc pc = .ok (.invokestatic ix, 3)) (kk : E l y cc nL ret (e_rm d mc ms) mc ms fx L0 Qa L h k n (pc + 3) lv (.int (mnI x b) :: st)) : E l y cc nL ret (e_rm d mc ms) mc ms fx L0 Qa L h k n pc lv (.int b :: .int x :: st) := by
  intro G α0 α A p e s m args below meth c H locs ls C X ag hP hD hS hl
  have hts := C.2.2.2.2.2.2.1
  obtain ⟨w1, w2, w3⟩ := e_mnw
  exact va_mmin C.1 C.2.1 (C.2.2.2.1.trans hl.1.symm) C.2.2.2.2.1 (hts _ hw) (hts _ w1) (hts _ w2) (hts _ w3) hR (by rw [e_cats]; simp only [e_rm]; omega) hk.1 hk.2 hd (kk G α0 α A p e s m args below meth c H locs ls C X ag hP hD hS hl)
theorem e_mx {l : Launch} {y : MethodName} {cc : ByteArray} {nL : Nat} {ret : Option FieldType} {d mc ms : Nat} {fx : Bool} {L0 : eL} {Qa : Option Value → eL → eH → Prop} {L : eL} {h : eH} {k n pc : Nat} {lv : List (Nat × Value)} {st : List Value} {ix : Nat} {x b : Int32} (hw : Cond.methodLink y.cls ix Lib.Math.max.name ∈ e_gw) (hR : 1 ≤ d) (h8 : (st.map fun v => v.category).sum ≤ 8) (hk : k ≤ mc ∧ n ≤ ms) (hd : decode cc pc = .ok (.invokestatic ix, 3)) (kk : E l y cc nL ret (e_rm d mc ms) mc ms fx L0 Qa L h k n (pc + 3) lv (.int (mxI x b) :: st)) : E l y cc nL ret (e_rm d mc ms) mc ms fx L0 Qa L h k n pc lv (.int b :: .int x :: st) := by
  intro G α0 α A p e s m args below meth c H locs ls C X ag hP hD hS hl
  have hts := C.2.2.2.2.2.2.1
  obtain ⟨w1, w2, w3⟩ := e_mxw
  exact va_mmax C.1 C.2.1 (C.2.2.2.1.trans hl.1.symm) C.2.2.2.2.1 (hts _ hw) (hts _ w1) (hts _ w2) (hts _ w3) hR (by rw [e_cats]; simp only [e_rm]; omega) hk.1 hk.2 hd (kk G α0 α A p e s m args below meth c H locs ls C X ag hP hD hS hl)

/-! What the tables and the Statement say of the start: classes, arrays, strings, statics. -/
def lw_sx : List Nat := [171, 173, 205, 213, 215, 217, 306]
def lw_tm (i : Nat) : Term := .string "UnderTheSofaModel" (lw_sx.getD i 0)
abbrev lw_vl (t : Term) : Term := .field t "java/lang/String" "value" "[B"
theorem lw_s1 : ∀ i, i < 7 → Cond.exactly (lw_tm i) "java/lang/String" ∈ flatC (Jvm.Cond.and given_1 narrow_1) := by decide +kernel
theorem lw_s2 : ∀ i, i < 7 → Cond.eq (.field (lw_tm i) "java/lang/String" "coder" "B") (.int 0) ∈ flatC (Jvm.Cond.and given_1 narrow_1) := by decide +kernel
theorem lw_s3 : ∀ i, i < 7 → Cond.arrayOf (lw_vl (lw_tm i)) .byte ∈ flatC (Jvm.Cond.and given_1 narrow_1) := by decide +kernel
theorem lw_s4 : ∀ i, i < 7 → Cond.eq (.length (lw_vl (lw_tm i))) (.int (Int32.ofNat (e_slen.getD i 0))) ∈ flatC (Jvm.Cond.and given_1 narrow_1) := by decide +kernel
theorem lw_s5 : ∀ i, i < 7 → ∀ j, j < e_slen.getD i 0 → Cond.eq (.elem (lw_vl (lw_tm i)) (.int (Int32.ofNat j))) (.int ((e_sbyt.getD i []).getD j 0)) ∈ flatC (Jvm.Cond.and given_1 narrow_1) := by decide +kernel
theorem lw_s6 : ∀ i, i < 7 → ∀ j, j < i → Cond.not (Cond.eq (lw_tm j) (lw_tm i)) ∈ flatC (Jvm.Cond.and given_1 narrow_1) := by decide +kernel
theorem lw_s7 : ∀ k ∈ [157, 190, 215, 453], Cond.exactly (.string "UnderTheSofa" k) "java/lang/String" ∈ flatC (Jvm.Cond.and given_1 narrow_1) := by decide +kernel
theorem lw_ris4 : ∀ j, j < 4 → Cond.eq (.elem (.static "UnderTheSofa$Sweep" "RISING" "[I") (.int (Int32.ofNat j))) (.int (([0, 3, 1, 2] : List Int32).getD j 0)) ∈ flatC (Jvm.Cond.and given_1 narrow_1) := by decide +kernel
theorem lw_it : ∀ ci, ci < 12 → Cond.instantiable (e_R ci) (e_N ci) ∈ e_gw := by
  intro ci h
  have : ci = 0 ∨ ci = 1 ∨ ci = 2 ∨ ci = 3 ∨ ci = 4 ∨ ci = 5 ∨ ci = 6 ∨ ci = 7 ∨ ci = 8 ∨ ci = 9 ∨ ci = 10 ∨ ci = 11 := by omega
  rcases this with rfl | rfl | rfl | rfl | rfl | rfl | rfl | rfl | rfl | rfl | rfl | rfl
  · exact it_0
  · exact it_1
  · exact it_2
  · exact it_3
  · exact it_4
  · exact it_5
  · exact it_6
  · exact it_7
  · exact it_8
  · exact it_9
  · exact it_10
  · exact it_11
/-- the classes, and the arrays' -/
theorem lw_K {s : State} {args : Array Value} (hts : ∀ w ∈ lw_tbl, w.before args s = true) : ∃ G : eG, va_K (e_D G) vwCl (e_tys G) s := by
  have hg : ∀ w ∈ e_gw, w.before args s = true := fun w hw => hts w (List.mem_filter.mp hw).1
  have h0 : ∀ ci : Nat, ∃ q : ClassId × (Nat → Nat), ci < 12 → u_Kn s (e_R ci) (e_T ci) (e_N ci) q.1 q.2 := by
    intro ci
    by_cases h : ci < 12
    · obtain ⟨c, i, k⟩ := u_known (ws := e_gw) hg (e_cl ci h).2.1 (hg _ (lw_it ci h))
      exact ⟨(c, i), fun _ => k⟩
    · exact ⟨(0, fun _ => 0), fun q => absurd q h⟩
  obtain ⟨ad, had⟩ := Classical.axiomOfChoice h0
  obtain ⟨c0, k0, m0, a0, b0, d0⟩ := Cond.arrayClass_spec (hg _ aw_int)
  obtain ⟨c1, k1, m1, a1, b1, d1⟩ := Cond.arrayClass_spec (hg _ aw_long)
  obtain ⟨c2, k2, m2, a2, b2, d2⟩ := Cond.arrayClass_spec (hg _ aw_boolean)
  obtain ⟨m3, c3, k3, a3, -, b3, d3, f3⟩ := Cond.arrayOver_spec (hts (.arrayOver (.object "UnderTheSofa$State")) (by decide +kernel))
  refine ⟨(fun k => (ad k).1, fun k => (ad k).2, fun k => if k = 0 then c0 else if k = 1 then c1 else if k = 2 then c2 else c3), fun k q hq => ?_, fun k q hq => ?_⟩
  · have hk : k < 12 := (List.getElem?_eq_some_iff.mp hq).1
    have := hq.symm.trans (e_cl k hk).1
    cases this
    exact had k hk
  · have hk : k < 4 := (List.getElem?_eq_some_iff.mp hq).1
    have : k = 0 ∨ k = 1 ∨ k = 2 ∨ k = 3 := by omega
    rcases this with rfl | rfl | rfl | rfl
    · cases hq; exact ⟨fun n z => ⟨fun k h => (by cases h), k0, b0, m0, d0⟩, a0⟩
    · cases hq; exact ⟨fun n z => ⟨fun k h => (by cases h), k1, b1, m1, d1⟩, a1⟩
    · cases hq; exact ⟨fun n z => ⟨fun k h => (by cases h), k2, b2, m2, d2⟩, a2⟩
    · cases hq; exact ⟨fun n z => ⟨fun k h => (by cases h), k3, b3, m3, d3⟩, k3, m3, b3, d3, a3, f3⟩
/-- what lies outside the worlds -/
theorem lw_X {s : State} {b : Nat} (hts : ∀ w ∈ lw_tbl, w.before #[.ref b] s = true) (hgv : (Jvm.Cond.and given_1 narrow_1).before #[.ref b] s = true) : ∃ α : Nat → Nat, e_X α (fun q => s.heap.size ≤ q) s ∧ e_Y (fun q => s.heap.size ≤ q) s ∧ α e_scr = b := by
  have hs := flat_of_before _ hgv
  have hA : ∀ a : Nat, a < s.heap.size → ¬ (fun q => s.heap.size ≤ q) a := fun a h => Nat.not_le.mpr h
  obtain ⟨tR, hR, hT⟩ := va_Tof (N := 4) (f := e_risf) (A := fun q => s.heap.size ≤ q) (by decide) (hs (.arrayOf (.static "UnderTheSofa$Sweep" "RISING" "[I") .int) (by decide +kernel)) (va_eqt (hs (.eq (.length (.static "UnderTheSofa$Sweep" "RISING" "[I")) (.int (Int32.ofNat 4))) (by decide +kernel))) (fun j hj => va_eqt (hs _ (lw_ris4 j hj))) hA
  obtain ⟨adK, adV, hS, hE⟩ := vk_Sof (N := 7) (tm := lw_tm) (len := e_slen) (byt := e_sbyt) (A := fun q => s.heap.size ≤ q) (by decide) (fun i h => hs _ (lw_s1 i h)) (fun i h => hs _ (lw_s2 i h)) (fun i h => hs _ (lw_s3 i h)) (fun i h => hs _ (lw_s4 i h)) (fun i h j hj => hs _ (lw_s5 i h j hj)) (fun i j hi hj hij => by
    rcases Nat.lt_or_ge i j with q | q
    · exact Or.inl (hs _ (lw_s6 j hj i q))
    · exact Or.inr (hs _ (lw_s6 i hi j (by omega)))) hA
  have hx : ∀ k ∈ [157, 190, 215, 453], ∃ a : Nat, (Term.string "UnderTheSofa" k).eval #[.ref b] s none [] s = some (.ref a) := fun k hk => by
    obtain ⟨a, c, cA, kA, q1, -⟩ := Cond.exactly_spec (hs _ (lw_s7 k hk))
    exact ⟨a, q1⟩
  obtain ⟨x7, e7⟩ := hx 157 (by decide)
  obtain ⟨x8, e8⟩ := hx 190 (by decide)
  obtain ⟨x9, e9⟩ := hx 215 (by decide)
  obtain ⟨x10, e10⟩ := hx 453 (by decide)
  let α : Nat → Nat := fun i => if i = 3000000 then b else if i = 2000000 then tR else if 1500000 ≤ i then adV (i - 1500000) else if i = 1000007 then x7 else if i = 1000008 then x8 else if i = 1000009 then x9 else if i = 1000010 then x10 else adK (i - 1000000)
  have aK : ∀ i, i < 7 → α (e_str + i) = adK i := fun i hi => by
    show (if 1000000 + i = 3000000 then b else if 1000000 + i = 2000000 then tR else if 1500000 ≤ 1000000 + i then adV (1000000 + i - 1500000) else if 1000000 + i = 1000007 then x7 else if 1000000 + i = 1000008 then x8 else if 1000000 + i = 1000009 then x9 else if 1000000 + i = 1000010 then x10 else adK (1000000 + i - 1000000)) = adK i
    rw [if_neg (by omega), if_neg (by omega), if_neg (by omega), if_neg (by omega), if_neg (by omega), if_neg (by omega), if_neg (by omega), Nat.add_sub_cancel_left]
  have aV : ∀ i, i < 7 → α (e_svl + i) = adV i := fun i hi => by
    show (if 1500000 + i = 3000000 then b else if 1500000 + i = 2000000 then tR else if 1500000 ≤ 1500000 + i then adV (1500000 + i - 1500000) else _) = adV i
    rw [if_neg (by omega), if_neg (by omega), if_pos (by omega), Nat.add_sub_cancel_left]
  refine ⟨α, ⟨fun w hw => ?_, ⟨?_, hT⟩, ?_, fun q hq => ?_, ?_, ?_, ?_, ?_, ?_⟩, ⟨?_, ?_⟩, rfl⟩
  · have h0 := hts w (List.mem_filter.mp hw).1
    have h6 := (List.mem_filter.mp hw).2
    cases w <;> first | exact va_Nw.of rfl h0 | (exact absurd h6 (by simp [e_isn]))
  · exact va_Zof (hts (.laysStatic "UnderTheSofa$Sweep" "RISING" "[I") (by decide +kernel)) (hts (.initialized "UnderTheSofa$Sweep") (by decide +kernel)) hR hA
  · refine ⟨fun i hi => ?_, fun i j hi hj ee => ?_⟩
    · have := hS.1 i hi
      dsimp only
      rw [aK i hi, aV i hi]
      exact this
    · dsimp only at ee
      rw [aK i hi, aK j hj] at ee
      exact hS.2 i j hi hj ee
  · simp only [e_srefs, List.mem_cons, List.not_mem_nil, or_false] at hq
    rcases hq with rfl | rfl | rfl | rfl | rfl | rfl | rfl | rfl | rfl | rfl | rfl
    · exact ⟨"#.rpq", vk_R.of (hts (.stringRef "UnderTheSofaModel" 171 "#.rpq") (by decide +kernel)) (hE 0 (by decide))⟩
    · exact ⟨"#.\x72", vk_R.of (hts (.stringRef "UnderTheSofaModel" 173 "#.\x72") (by decide +kernel)) (hE 1 (by decide))⟩
    · exact ⟨"bhsrd", vk_R.of (hts (.stringRef "UnderTheSofaModel" 205 "bhsrd") (by decide +kernel)) (hE 2 (by decide))⟩
    · exact ⟨"<>=", vk_R.of (hts (.stringRef "UnderTheSofaModel" 213 "<>=") (by decide +kernel)) (hE 3 (by decide))⟩
    · exact ⟨"+-", vk_R.of (hts (.stringRef "UnderTheSofaModel" 215 "+-") (by decide +kernel)) (hE 4 (by decide))⟩
    · exact ⟨"*/", vk_R.of (hts (.stringRef "UnderTheSofaModel" 217 "*/") (by decide +kernel)) (hE 5 (by decide))⟩
    · exact ⟨"stdcl", vk_R.of (hts (.stringRef "UnderTheSofaModel" 306 "stdcl") (by decide +kernel)) (hE 6 (by decide))⟩
    · exact ⟨"no such spot", vk_R.of (hts (.stringRef "UnderTheSofa" 157 "no such spot") (by decide +kernel)) e7⟩
    · exact ⟨"no such thing of a spot", vk_R.of (hts (.stringRef "UnderTheSofa" 190 "no such thing of a spot") (by decide +kernel)) e8⟩
    · exact ⟨"no such thing of the machine", vk_R.of (hts (.stringRef "UnderTheSofa" 215 "no such thing of the machine") (by decide +kernel)) e9⟩
    · exact ⟨"no such number", vk_R.of (hts (.stringRef "UnderTheSofa" 453 "no such number") (by decide +kernel)) e10⟩
  · exact va_Zof (hts (.laysStatic "java/lang/String" "COMPACT_STRINGS" "Z") (by decide +kernel)) (hts (.initialized "java/lang/String") (by decide +kernel)) (va_eqt (hs (.eq (.static "java/lang/String" "COMPACT_STRINGS" "Z") (.int 1)) (by decide +kernel))) hA
  · exact va_Zqof (hts (.laysStatic "jdk/internal/util/Preconditions" "SIOOBE_FORMATTER" "Ljava/util/function/BiFunction;") (by decide +kernel)) (hts (.initialized "jdk/internal/util/Preconditions") (by decide +kernel)) (hs (.isRef (.static "jdk/internal/util/Preconditions" "SIOOBE_FORMATTER" "Ljava/util/function/BiFunction;")) (by decide +kernel)) hA
  · exact va_Zqof (hts (.laysStatic "java/lang/Throwable" "SUPPRESSED_SENTINEL" "Ljava/util/List;") (by decide +kernel)) (hts (.initialized "java/lang/Throwable") (by decide +kernel)) (hs (.isRef (.static "java/lang/Throwable" "SUPPRESSED_SENTINEL" "Ljava/util/List;")) (by decide +kernel)) hA
  · exact va_Zqof (hts (.laysStatic "java/lang/Throwable" "UNASSIGNED_STACK" "[Ljava/lang/StackTraceElement;") (by decide +kernel)) (hts (.initialized "java/lang/Throwable") (by decide +kernel)) (hs (.isRef (.static "java/lang/Throwable" "UNASSIGNED_STACK" "[Ljava/lang/StackTraceElement;")) (by decide +kernel)) hA
  · exact va_AO.of (hts (.arrayOver (.object "UnderTheSofa$State")) (by decide +kernel))
  · exact vx_Zqof (hts (.laysStatic "java/lang/Throwable" "UNASSIGNED_STACK" "[Ljava/lang/StackTraceElement;") (by decide +kernel)) (hts (.initialized "java/lang/Throwable") (by decide +kernel)) (hs (.isRef (.static "java/lang/Throwable" "UNASSIGNED_STACK" "[Ljava/lang/StackTraceElement;")) (by decide +kernel)) hA
  · exact vx_Zqof (hts (.laysStatic "java/lang/Throwable" "SUPPRESSED_SENTINEL" "Ljava/util/List;") (by decide +kernel)) (hts (.initialized "java/lang/Throwable") (by decide +kernel)) (hs (.isRef (.static "java/lang/Throwable" "SUPPRESSED_SENTINEL" "Ljava/util/List;")) (by decide +kernel)) hA

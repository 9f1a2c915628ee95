/-! run: the scan of its signs, the class's way -/
def dgB (c : Nat) : Nat := if c = 99 then 2 else if c = 100 then 1 else if c = 108 then 2 else if c = 115 then 1 else if c = 116 then 1 else 0
def csB (l c : Nat) : Bool := if l = 116 then decide (48 ≤ c ∧ c ≤ 51) else if l = 100 then decide (49 ≤ c ∧ c ≤ 57) else decide (48 ≤ c ∧ c ≤ 57)
theorem dgB_k : ∀ c, c < 256 → f_X10_digitsBehind (nI c) = nI (dgB c) ∧ dgB c ≤ 2 := by decide +kernel
theorem csB_k : ∀ l, l < 256 → dgB l = 0 ∨ ∀ c, c < 256 → f_X10_canStandBehind (nI l) (nI c) = if csB l c then 1 else 0 := by decide +kernel
/-- after i signs: the letter that was read last, and how many digits it still wants -/
def scS (c : Nat → Nat) : Nat → Option (Nat × Nat)
  | 0 => some (0, 0)
  | i + 1 => match scS c i with
    | none => none
    | some (_, 0) => if dgB (c i) = 0 then none else some (c i, dgB (c i))
    | some (l, r + 1) => if csB l (c i) then some (l, r) else none
theorem scS_0 {c : Nat → Nat} {i l : Nat} (h : scS c i = some (l, 0)) : scS c (i + 1) = if dgB (c i) = 0 then none else some (c i, dgB (c i)) := by
  show (match scS c i with | none => none | some (_, 0) => if dgB (c i) = 0 then none else some (c i, dgB (c i)) | some (l, r + 1) => if csB l (c i) then some (l, r) else none) = _
  rw [h]
theorem scS_r {c : Nat → Nat} {i l r : Nat} (h : scS c i = some (l, r + 1)) : scS c (i + 1) = if csB l (c i) then some (l, r) else none := by
  show (match scS c i with | none => none | some (_, 0) => if dgB (c i) = 0 then none else some (c i, dgB (c i)) | some (l, r + 1) => if csB l (c i) then some (l, r) else none) = _
  rw [h]
theorem scS_n {c : Nat → Nat} {i : Nat} (h : scS c i = none) : scS c (i + 1) = none := by
  show (match scS c i with | none => none | some (_, 0) => if dgB (c i) = 0 then none else some (c i, dgB (c i)) | some (l, r + 1) => if csB l (c i) then some (l, r) else none) = _
  rw [h]
theorem scS_ok {c : Nat → Nat} : ∀ {i l r : Nat}, (∀ k, k < i → c k < 256) → scS c i = some (l, r) → l < 256 ∧ r ≤ 2 ∧ (0 < r → dgB l ≠ 0)
  | 0, l, r, _, h => by cases h; exact ⟨by omega, by omega, fun a => absurd a (by omega)⟩
  | i + 1, l, r, hc, h => by
    cases hs : scS c i with
    | none => rw [scS_n hs] at h; cases h
    | some p =>
      obtain ⟨l', r'⟩ := p
      have ih := scS_ok (fun k hk => hc k (by omega)) hs
      have ci := hc i (by omega)
      cases r' with
      | zero =>
        rw [scS_0 hs] at h
        by_cases q : dgB (c i) = 0
        · rw [if_pos q] at h; cases h
        · rw [if_neg q] at h; cases h; exact ⟨ci, (dgB_k _ ci).2, fun _ => q⟩
      | succ r' =>
        rw [scS_r hs] at h
        cases q : csB l' (c i) with
        | false => rw [q, if_neg (by decide)] at h; cases h
        | true => rw [q, if_pos rfl] at h; cases h; exact ⟨ih.1, by omega, fun _ => ih.2.2 (by omega)⟩
theorem at_C {h : eH} {T : Nat × (Nat → Nat)} {i : Nat} (hR : RefsOK h) (hT : CT h T) (ho : okTx T) (hi : i < T.1) : f_X8_at LF h 1 (nI i) = some (nI (T.2 i)) := by
  have := ho.1
  unfold f_X8_at
  rw [if_neg (nI_pos (by omega)), if_pos iO_1, hT.1, if_neg (nI_ge hi (by omega)), if_neg (show ¬ (80 : Int32) ≤ nI i from nI_ge (b := 80) (by omega) (by decide)), r_1_0 hR, Option.bind_some, iA_2, if_pos (in_nI (by omega) (by decide)), nI_clamp (by omega), hT.2 i hi]
theorem mn60 : ∀ n, n < 81 → mnI (nI n) 60 = nI (min n 60) := by decide +kernel
theorem wrong_C {P : Option Int32 → Prop} {h : eH} {X : AX} {B : Nat} (hc : CI h X) (ho : okX B X) (y1 : ∀ i, i < min (xT X).1 60 → scS (xT X).2 i ≠ none → scS (xT X).2 (i + 1) = none → P (some (nI i))) (y2 : ∀ l r, scS (xT X).2 (min (xT X).1 60) = some (l, r) → P (some (if 0 < r ∨ 60 < (xT X).1 then nI (min (xT X).1 60) else -1))) : P (f_X10_wrongSignOfRun LF h 0) := by
  have hT := hc.2.2.2.1
  have hoT := ho.2.2.1
  obtain ⟨t1, t2⟩ := id hoT
  have hsz : f_X8_size LF h 1 = some (nI (xT X).1) := by unfold f_X8_size; rw [if_pos iO_1, hT.1]
  unfold f_X10_wrongSignOfRun
  rw [if_pos iO_0, r_0_0 hc.1, Option.bind_some, if_pos iO_1, hsz, Option.bind_some, mn60 _ (by omega)]
  refine lpF (N := min (xT X).1 60) (s := ((-1 : Int32), (0 : Nat))) (run := fun fu (q : Int32 × Nat) i => f_X10_wrongSignOfRun_L20 LF h fu (fun (w4_13 : Int32) => some w4_13) (fun (w4_14 : Int32) => some w4_14) (fun (w0_15 : Nat) (w1_16 : Int32) (w3_17 : Int32) => if 0 < w3_17 then some w1_16 else if isO LF w0_15 10 = true then (gR h w0_15 0).bind fun b19 => if isO LF b19 8 = true then (f_X8_size LF h b19).bind fun r22 => if r22 ≤ 60 then some (-1) else some w1_16 else none else none) 0 (nI (min (xT X).1 60)) q.1 (nI q.2) (nI i)) (Inv := fun i q => ∃ l, scS (xT X).2 i = some (l, q.2) ∧ (0 < q.2 → q.1 = nI l)) (Post := P) (by omega) ⟨0, rfl, fun a => absurd a (by show ¬ 0 < 0; omega)⟩ ?_ ?_
  · rintro fu ⟨v, r⟩ ⟨l, hl, hv⟩
    have hl : scS (xT X).2 (min (xT X).1 60) = some (l, r) := hl
    have ok := scS_ok (fun k hk => t2 k (by omega)) hl
    have yy := y2 l r hl
    show P (f_X10_wrongSignOfRun_L20 LF h (fu + 1) _ _ _ 0 (nI (min (xT X).1 60)) v (nI r) (nI (min (xT X).1 60)))
    unfold f_X10_wrongSignOfRun_L20
    rw [if_pos (nI_le (Nat.le_refl _) (by omega))]
    show P (if 0 < nI r then some (nI (min (xT X).1 60)) else if isO LF 0 10 = true then (gR h 0 0).bind fun b19 => if isO LF b19 8 = true then (f_X8_size LF h b19).bind fun r22 => if r22 ≤ 60 then some (-1) else some (nI (min (xT X).1 60)) else none else none)
    by_cases q : 0 < r
    · rw [if_pos (Or.inl q)] at yy
      rw [if_pos (show 0 < nI r from nI_lt (a := 0) q (by omega))]; exact yy
    · rw [if_neg (show ¬ 0 < nI r from nI_nlt (a := 0) (by omega) (by omega)), if_pos iO_0, r_0_0 hc.1, Option.bind_some, if_pos iO_1, hsz, Option.bind_some]
      by_cases q2 : 60 < (xT X).1
      · rw [if_pos (Or.inr q2)] at yy
        rw [if_neg (show ¬ nI (xT X).1 ≤ 60 from nI_ge (a := 60) q2 (by omega))]; exact yy
      · rw [if_neg (by omega)] at yy
        rw [if_pos (show nI (xT X).1 ≤ 60 from nI_le (b := 60) (by omega) (by decide))]; exact yy
  · rintro i fu ⟨v, r⟩ hi ⟨l, hl, hv⟩
    have hl : scS (xT X).2 i = some (l, r) := hl
    have hv : 0 < r → v = nI l := hv
    have ok := scS_ok (fun k hk => t2 k (by omega)) hl
    have ci := t2 i (by omega)
    have nN : ¬ nI (min (xT X).1 60) ≤ nI i := nI_ge hi (by omega)
    have ea := at_C hc.1 hT hoT (show i < (xT X).1 by omega)
    obtain ⟨d1, d2⟩ := dgB_k _ ci
    cases r with
    | zero =>
      have nx := scS_0 hl
      by_cases q : dgB ((xT X).2 i) = 0
      · rw [if_pos q] at nx
        refine Or.inl ?_
        show P (f_X10_wrongSignOfRun_L20 LF h (fu + 1) _ _ _ 0 (nI (min (xT X).1 60)) v (nI 0) (nI i))
        unfold f_X10_wrongSignOfRun_L20
        rw [if_neg nN, if_pos iO_0, r_0_0 hc.1, Option.bind_some, if_pos iO_1, ea, Option.bind_some, if_pos (show nI 0 = 0 from rfl), d1, if_pos (by rw [q]; rfl)]
        exact y1 i hi (by rw [hl]; exact fun e => by cases e) nx
      · rw [if_neg q] at nx
        refine Or.inr ⟨(nI ((xT X).2 i), dgB ((xT X).2 i)), ⟨(xT X).2 i, nx, fun _ => rfl⟩, fun z hz => ?_⟩
        show f_X10_wrongSignOfRun_L20 LF h (fu + 1) _ _ _ 0 (nI (min (xT X).1 60)) v (nI 0) (nI i) = z
        unfold f_X10_wrongSignOfRun_L20
        rw [if_neg nN, if_pos iO_0, r_0_0 hc.1, Option.bind_some, if_pos iO_1, ea, Option.bind_some, if_pos (show nI 0 = 0 from rfl), d1, if_neg (nI_ne0 (by omega) (by omega)), nI_p1]
        exact hz
    | succ r =>
      have nx := scS_r hl
      have cs := ((csB_k l ok.1).resolve_left (ok.2.2 (by omega))) _ ci
      have hvl := hv (by omega)
      cases q : csB l ((xT X).2 i) with
      | false =>
        rw [q, if_neg (by decide)] at nx
        rw [q] at cs
        refine Or.inl ?_
        show P (f_X10_wrongSignOfRun_L20 LF h (fu + 1) _ _ _ 0 (nI (min (xT X).1 60)) v (nI (r + 1)) (nI i))
        unfold f_X10_wrongSignOfRun_L20
        rw [if_neg nN, if_pos iO_0, r_0_0 hc.1, Option.bind_some, if_pos iO_1, ea, Option.bind_some, if_neg (nI_ne0 (by omega) (by omega)), hvl, cs, if_pos (show (if false = true then (1 : Int32) else 0) = 0 from rfl)]
        exact y1 i hi (by rw [hl]; exact fun e => by cases e) nx
      | true =>
        rw [q, if_pos rfl] at nx
        rw [q] at cs
        refine Or.inr ⟨(v, r), ⟨l, nx, fun _ => hvl⟩, fun z hz => ?_⟩
        show f_X10_wrongSignOfRun_L20 LF h (fu + 1) _ _ _ 0 (nI (min (xT X).1 60)) v (nI (r + 1)) (nI i) = z
        unfold f_X10_wrongSignOfRun_L20
        rw [if_neg nN, if_pos iO_0, r_0_0 hc.1, Option.bind_some, if_pos iO_1, ea, Option.bind_some, if_neg (nI_ne0 (by omega) (by omega)), hvl, cs, if_neg (show ¬ (if true = true then (1 : Int32) else 0) = 0 from i10), nI_dn (by omega), nI_p1, ← hvl]
        exact hz

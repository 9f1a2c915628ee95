/-! flat: its signs, scanned; the class's way -/
def kdO (s : Nat) : Option Nat := if s = 35 then some 0 else if s = 46 then some 1 else if s = 112 then some 1 else if s = 113 then some 2 else if s = 114 then some 2 else none
def plB (s : Nat) : Bool := s == 112 || s == 113
def kdI (s : Nat) : Int32 := match kdO s with
  | none => -1
  | some k => nI k
theorem kdO_k : ∀ s, s < 256 → f_X2_kindBy (nI s) = kdI s := by decide +kernel
theorem kdO_n {s : Nat} (h : kdO s = none) : kdI s = -1 := by unfold kdI; rw [h]
theorem kdO_s {s k : Nat} (h : kdO s = some k) : kdI s = nI k := by unfold kdI; rw [h]
theorem kdO_le : ∀ s, s < 256 → ∀ k, kdO s = some k → k ≤ 2 ∧ (plB s = true → k ≠ 0) := by
  intro s hs k h
  unfold kdO at h
  unfold plB
  by_cases h1 : s = 35
  · rw [if_pos h1] at h; cases h; subst h1; exact ⟨by omega, fun x => absurd x (by decide)⟩
  · rw [if_neg h1] at h
    by_cases h2 : s = 46
    · rw [if_pos h2] at h; cases h; exact ⟨by omega, fun _ => by omega⟩
    · rw [if_neg h2] at h
      by_cases h3 : s = 112
      · rw [if_pos h3] at h; cases h; exact ⟨by omega, fun _ => by omega⟩
      · rw [if_neg h3] at h
        by_cases h4 : s = 113
        · rw [if_pos h4] at h; cases h; exact ⟨by omega, fun _ => by omega⟩
        · rw [if_neg h4] at h
          by_cases h5 : s = 114
          · rw [if_pos h5] at h; cases h; exact ⟨by omega, fun _ => by omega⟩
          · rw [if_neg h5] at h; cases h
/-- row, place in it, width (6 while unknown), plug, kinds -/
abbrev FSt : Type := Nat × Nat × Nat × Option Nat × (Nat → Nat)
abbrev whF (q : FSt) : Prop := if q.1 = 0 then 0 < q.2.1 else q.2.1 = q.2.2.1
abbrev acF (s : Nat) (pl : Option Nat) : Prop := kdO s ≠ none ∧ ¬ (plB s = true ∧ pl ≠ none)
def ptF (s k : Nat) (q : FSt) : FSt := (q.1, q.2.1 + 1, q.2.2.1, (if plB s then some (q.1 * q.2.2.1 + q.2.1) else q.2.2.2.1), fun j => if j = q.1 * q.2.2.1 + q.2.1 then k else q.2.2.2.2 j)
def fl1 (s : Nat) (q : FSt) : Option FSt := if s = 47 then (if whF q ∧ q.1 ≠ 5 then some (q.1 + 1, 0, q.2.1, q.2.2.2.1, q.2.2.2.2) else none) else if q.2.2.1 ≤ q.2.1 then none else match kdO s with
  | none => none
  | some k => if plB s && q.2.2.2.1.isSome then none else some (ptF s k q)
def flS (c : Nat → Nat) : Nat → Option FSt
  | 0 => some (0, 0, 6, none, fun _ => 0)
  | i + 1 => (flS c i).bind (fl1 (c i))
theorem flS_s {c : Nat → Nat} {i : Nat} {q : FSt} (h : flS c i = some q) : flS c (i + 1) = fl1 (c i) q := by
  show (flS c i).bind (fl1 (c i)) = _
  rw [h]; rfl
theorem flS_n {c : Nat → Nat} {i : Nat} (h : flS c i = none) : flS c (i + 1) = none := by
  show (flS c i).bind (fl1 (c i)) = _
  rw [h]; rfl
theorem fl1_slash {q : FSt} (h : whF q) (h5 : q.1 ≠ 5) : fl1 47 q = some (q.1 + 1, 0, q.2.1, q.2.2.2.1, q.2.2.2.2) := by
  unfold fl1; rw [if_pos rfl, if_pos ⟨h, h5⟩]
theorem fl1_sn {q : FSt} (h : ¬ (whF q ∧ q.1 ≠ 5)) : fl1 47 q = none := by
  unfold fl1; rw [if_pos rfl, if_neg h]
theorem fl1_full {s : Nat} {q : FSt} (hs : s ≠ 47) (h : q.2.2.1 ≤ q.2.1) : fl1 s q = none := by
  unfold fl1; rw [if_neg hs, if_pos h]
theorem fl1_put {s k : Nat} {q : FSt} (hs : s ≠ 47) (h : q.2.1 < q.2.2.1) (hk : kdO s = some k) (hp : ¬ (plB s = true ∧ q.2.2.2.1 ≠ none)) : fl1 s q = some (ptF s k q) := by
  unfold fl1; rw [if_neg hs, if_neg (by omega), hk]
  show (if (plB s && q.2.2.2.1.isSome) = true then none else some (ptF s k q)) = _
  rw [if_neg]
  intro x
  apply hp
  cases h1 : plB s
  · rw [h1] at x; exact absurd x (by simp)
  · refine ⟨rfl, fun y => ?_⟩
    rw [h1, y] at x; exact absurd x (by simp)
theorem fl1_no {s : Nat} {q : FSt} (hs : s ≠ 47) (hp : ¬ acF s q.2.2.2.1) : fl1 s q = none := by
  unfold fl1; rw [if_neg hs]
  by_cases w : q.2.2.1 ≤ q.2.1
  · rw [if_pos w]
  · rw [if_neg w]
    cases hk : kdO s with
    | none => rfl
    | some k =>
      show (if (plB s && q.2.2.2.1.isSome) = true then none else some (ptF s k q)) = _
      rw [if_pos]
      cases h1 : plB s
      · exact absurd ⟨by rw [hk]; exact (fun x => by cases x), fun x => by rw [h1] at x; cases x.1⟩ hp
      · cases h2 : q.2.2.2.1 with
        | none => exact absurd ⟨by rw [hk]; exact (fun x => by cases x), fun x => x.2 h2⟩ hp
        | some p => rfl
/-- how a scan stands -/
def okFS (q : FSt) : Prop := q.1 ≤ 5 ∧ q.2.1 ≤ q.2.2.1 ∧ 1 ≤ q.2.2.1 ∧ q.2.2.1 ≤ 6 ∧ (q.1 = 0 → q.2.2.1 = 6) ∧ (∀ p, q.2.2.2.1 = some p → p < q.1 * q.2.2.1 + q.2.1 ∧ q.2.2.2.2 p ≠ 0) ∧ ∀ k, q.2.2.2.2 k ≤ 2
theorem okFS_t {q : FSt} (h : okFS q) (hx : q.2.1 < q.2.2.1) : q.1 * q.2.2.1 + q.2.1 < 36 := by
  obtain ⟨h1, h2, h3, h4, -⟩ := h
  have := Nat.mul_le_mul h1 h4
  omega
theorem okFS_1 {s : Nat} {q q' : FSt} (hs : s < 256) (h : okFS q) (e : fl1 s q = some q') : okFS q' := by
  obtain ⟨h1, h2, h3, h4, h5, h6, h7⟩ := h
  by_cases s47 : s = 47
  · subst s47
    by_cases w : whF q ∧ q.1 ≠ 5
    · rw [fl1_slash w.1 w.2] at e
      cases e
      have w1 := w.1
      unfold whF at w1
      have em : (q.1 + 1) * q.2.1 = q.1 * q.2.1 + q.2.1 := Nat.succ_mul _ _
      refine ⟨?_, Nat.zero_le _, ?_, ?_, ?_, fun p hp => ?_, h7⟩
      · show q.1 + 1 ≤ 5; omega
      · show 1 ≤ q.2.1
        by_cases z : q.1 = 0
        · rw [if_pos z] at w1; omega
        · rw [if_neg z] at w1; omega
      · show q.2.1 ≤ 6; omega
      · intro x; exact absurd x (by show ¬ q.1 + 1 = 0; omega)
      · have := h6 p hp
        refine ⟨?_, this.2⟩
        show p < (q.1 + 1) * q.2.1 + 0
        by_cases z : q.1 = 0
        · rw [z, Nat.zero_mul] at this; rw [z, Nat.zero_add, Nat.one_mul]; omega
        · rw [if_neg z] at w1; rw [← w1] at this; omega
    · rw [fl1_sn w] at e; cases e
  · by_cases w : q.2.2.1 ≤ q.2.1
    · rw [fl1_full s47 w] at e; cases e
    · cases hk : kdO s with
      | none => rw [fl1_no s47 (fun x => x.1 hk)] at e; cases e
      | some k =>
        by_cases hp : plB s = true ∧ q.2.2.2.1 ≠ none
        · rw [fl1_no s47 (fun x => x.2 hp)] at e; cases e
        · rw [fl1_put s47 (by omega) hk hp] at e
          cases e
          have kl := kdO_le s hs k hk
          refine ⟨h1, ?_, h3, h4, h5, fun p hpp => ?_, fun j => ?_⟩
          · show q.2.1 + 1 ≤ q.2.2.1; omega
          · have hpp : (if plB s then some (q.1 * q.2.2.1 + q.2.1) else q.2.2.2.1) = some p := hpp
            show p < q.1 * q.2.2.1 + (q.2.1 + 1) ∧ (if p = q.1 * q.2.2.1 + q.2.1 then k else q.2.2.2.2 p) ≠ 0
            by_cases b : plB s = true
            · rw [if_pos b] at hpp; cases hpp
              rw [if_pos rfl]; exact ⟨by omega, kl.2 b⟩
            · rw [if_neg b] at hpp
              have := h6 p hpp
              rw [if_neg (by omega)]; exact ⟨by omega, this.2⟩
          · show (if j = q.1 * q.2.2.1 + q.2.1 then k else q.2.2.2.2 j) ≤ 2
            by_cases z : j = q.1 * q.2.2.1 + q.2.1
            · rw [if_pos z]; exact kl.1
            · rw [if_neg z]; exact h7 j
theorem okFS_S {c : Nat → Nat} : ∀ {i : Nat} {q : FSt}, (∀ k, k < i → c k < 256) → flS c i = some q → okFS q
  | 0, q, _, h => by cases h; exact ⟨by decide, by decide, by decide, by decide, fun _ => rfl, fun p hp => (by cases hp), fun k => (by show 0 ≤ 2; omega)⟩
  | i + 1, q, hc, h => by
    cases hs : flS c i with
    | none => rw [flS_n hs] at h; cases h
    | some p =>
      rw [flS_s hs] at h
      exact okFS_1 (hc i (by omega)) (okFS_S (fun k hk => hc k (by omega)) hs) h
/-! the class reads it into its draft -/
def plO (p : Option Nat) : Int32 := match p with
  | none => -1
  | some p => nI p
def dW (d : Nat) (j _k : Nat) : Prop := j = d ∨ j = d + 1
def CFS (g : eH) (d : Nat) (q : FSt) : Prop := gI g d 2 = nI q.2.2.1 ∧ gI g d 3 = plO q.2.2.2.1 ∧ ∀ k, k < q.1 * q.2.2.1 + q.2.1 → gI g (d + 1) k = nI (q.2.2.2.2 k)
theorem dO {d : Nat} (hd : d = 63 ∨ d = 65) : isO LF d 2 = true := by
  rcases hd with rfl | rfl
  · exact iO_63
  · exact iO_65
theorem dRf {h : eH} {d : Nat} (hR : RefsOK h) (hd : d = 63 ∨ d = 65) : gR h d 0 = some (d + 1) := by
  rcases hd with rfl | rfl
  · exact r_63_0 hR
  · exact r_65_0 hR
theorem dA {d : Nat} (hd : d = 63 ∨ d = 65) (i : Int32) : inA LF (d + 1) 0 i = (!(decide (i < 0)) && decide (i.toNatClampNeg < 36)) := by
  rcases hd with rfl | rfl
  · exact iA_64 i
  · exact iA_66 i
theorem plO_m {p : Option Nat} (h : ∀ x, p = some x → x < 36) : plO p = -1 ↔ p = none := by
  cases p with
  | none => exact ⟨fun _ => rfl, fun _ => rfl⟩
  | some x =>
    refine ⟨fun e => ?_, fun e => by cases e⟩
    have e : nI x = -1 := e
    have hx := h x rfl
    exact absurd e ((by decide +kernel : ∀ x, x < 36 → ¬ nI x = -1) x hx)
theorem kdI_m {s k : Nat} (hs : s < 256) (h : kdO s = some k) : ¬ kdI s = -1 := by
  rw [kdO_s h]
  exact (by decide +kernel : ∀ x, x < 3 → ¬ nI x = -1) k (by have := (kdO_le s hs k h).1; omega)
theorem put_C {g : eH} {d s : Nat} {q : FSt} (hR : RefsOK g) (hd : d = 63 ∨ d = 65) (hs : s < 256) (hq : okFS q) (hx : q.2.1 < q.2.2.1) (hr : CFS g d q) : (¬ acF s q.2.2.2.1 ∧ f_X2_put LF g d (nI s) (nI (q.1 * q.2.2.1 + q.2.1)) = some (g, 0)) ∨ (∃ k, kdO s = some k ∧ ¬ (plB s = true ∧ q.2.2.2.1 ≠ none) ∧ ∃ g', f_X2_put LF g d (nI s) (nI (q.1 * q.2.2.1 + q.2.1)) = some (g', 1) ∧ CFS g' d (ptF s k q) ∧ only (dW d) g g') := by
  have t36 := okFS_t hq hx
  have pm := plO_m (p := q.2.2.2.1) (fun x e => by have := (hq.2.2.2.2.2.1 x e).1; omega)
  have put2 : f_X2_put LF g d (nI s) (nI (q.1 * q.2.2.1 + q.2.1)) = f_X2_put_J22 LF g d (nI (q.1 * q.2.2.1 + q.2.1)) (kdI s) (if plB s then 1 else 0) := by
    unfold f_X2_put
    rw [kdO_k s hs]
    by_cases h1 : s = 112
    · subst h1; rw [if_pos (show nI 112 = 112 from rfl)]; rfl
    · rw [if_neg (show ¬ nI s = 112 from fun e => h1 (nI_inj (by omega) (by decide) e))]
      by_cases h2 : s = 113
      · subst h2; rw [if_pos (show nI 113 = 113 from rfl)]; rfl
      · rw [if_neg (show ¬ nI s = 113 from fun e => h2 (nI_inj (by omega) (by decide) e))]
        rw [if_neg (show ¬ plB s = true by unfold plB; simp [h1, h2])]
  rw [put2]
  unfold f_X2_put_J22
  cases hk : kdO s with
  | none =>
    refine Or.inl ⟨fun x => x.1 hk, ?_⟩
    rw [if_pos (kdO_n hk)]
  | some k =>
    rw [if_neg (kdI_m hs hk), if_neg (nI_pos (by omega)), if_neg (show ¬ (36 : Int32) ≤ nI (q.1 * q.2.2.1 + q.2.1) from nI_ge (b := 36) t36 (by decide)), kdO_s hk]
    have e1 : ∀ v, gI (sI g (d + 1) (q.1 * q.2.2.1 + q.2.1) v) d 3 = gI g d 3 := fun v => by rw [gI_sI, if_neg (by omega)]
    have J : ∀ v4, f_X2_put_J54 LF g d (nI (q.1 * q.2.2.1 + q.2.1)) (nI k) v4 = some (sI (sI g (d + 1) (q.1 * q.2.2.1 + q.2.1) (nI k)) d 3 (if v4 = 0 then gI g d 3 else nI (q.1 * q.2.2.1 + q.2.1)), 1) := fun v4 => by
      unfold f_X2_put_J54
      rw [if_pos (dO hd), dRf hR hd, Option.bind_some, dA hd, if_pos (in_nI t36 (by decide)), nI_clamp (by omega), e1]
      by_cases z : v4 = 0
      · rw [if_pos z, if_pos z]; rfl
      · rw [if_neg z, if_neg z]
    have rel : ∀ v, v = plO (if plB s then some (q.1 * q.2.2.1 + q.2.1) else q.2.2.2.1) → CFS (sI (sI g (d + 1) (q.1 * q.2.2.1 + q.2.1) (nI k)) d 3 v) d (ptF s k q) := fun v hv => by
      refine ⟨?_, ?_, fun j hj => ?_⟩
      · rw [gI_sI, if_neg (by omega), gI_sI, if_neg (by omega)]; exact hr.1
      · rw [gI_sI, if_pos ⟨rfl, rfl⟩]; exact hv
      · have hj : j < q.1 * q.2.2.1 + (q.2.1 + 1) := hj
        show _ = nI (if j = q.1 * q.2.2.1 + q.2.1 then k else q.2.2.2.2 j)
        rw [gI_sI, if_neg (by omega), gI_sI]
        by_cases z : j = q.1 * q.2.2.1 + q.2.1
        · rw [if_pos ⟨rfl, z⟩, if_pos z]
        · rw [if_neg (fun x => z x.2), if_neg z]; exact hr.2.2 j (by omega)
    have on : ∀ v, only (dW d) g (sI (sI g (d + 1) (q.1 * q.2.2.1 + q.2.1) (nI k)) d 3 v) := fun v => only_trans (only_sI (Or.inr rfl)) (only_sI (Or.inl rfl))
    by_cases b : plB s = true
    · by_cases n0 : q.2.2.2.1 = none
      · refine Or.inr ⟨k, rfl, fun x => x.2 n0, _, ?_, rel (nI (q.1 * q.2.2.1 + q.2.1)) (by rw [if_pos b]; rfl), on _⟩
        rw [if_pos b, if_neg i10, if_pos (dO hd), hr.2.1, if_pos (pm.mpr n0), J, if_neg i10]
      · refine Or.inl ⟨fun x => x.2 ⟨b, n0⟩, ?_⟩
        rw [if_pos b, if_neg i10, if_pos (dO hd), hr.2.1, if_neg (fun x => n0 (pm.mp x))]
    · refine Or.inr ⟨k, rfl, fun x => b x.1, _, ?_, rel (gI g d 3) (by rw [if_neg b]; exact hr.2.1), on _⟩
      rw [if_neg b, if_pos rfl, J, if_pos rfl]
theorem whole_C {g : eH} {d : Nat} {q : FSt} (hd : d = 63 ∨ d = 65) (hq : okFS q) (hr : CFS g d q) : f_X2_isWhole LF g d (nI q.1) (nI q.2.1) = some (if whF q then 1 else 0) := by
  obtain ⟨h1, h2, h3, h4, -⟩ := hq
  unfold f_X2_isWhole
  by_cases z : q.1 = 0
  · have wz : whF q ↔ 0 < q.2.1 := by unfold whF; rw [if_pos z]
    rw [if_pos (by rw [z]; rfl)]
    by_cases x : 0 < q.2.1
    · rw [if_neg (show ¬ nI q.2.1 ≤ 0 from nI_ge (a := 0) x (by omega)), if_pos (wz.mpr x)]
    · rw [if_pos (show nI q.2.1 ≤ 0 from nI_le (b := 0) (by omega) (by decide)), if_neg (fun y => x (wz.mp y))]
  · have wz : whF q ↔ q.2.1 = q.2.2.1 := by unfold whF; rw [if_neg z]
    rw [if_neg (nI_ne0 (by omega) (by omega)), if_pos (dO hd), hr.1]
    by_cases x : q.2.1 = q.2.2.1
    · rw [if_pos (wz.mpr x), if_pos (by rw [x])]
    · rw [if_neg (fun y => x (wz.mp y)), if_neg (fun e => x (nI_inj (by omega) (by omega) e))]
theorem read_C {P : Option (eH × Int32) → Prop} {k56 k101 : eH → Int32 → Option (eH × Int32)} {k113 : eH → Nat → Nat → Int32 → Int32 → Option (eH × Int32)} {h g0 : eH} {T : Nat × (Nat → Nat)} {d : Nat} (hd : d = 63 ∨ d = 65) (hR : RefsOK h) (hT : CT h T) (hoT : okTx T) (og : only (dW d) h g0) (h0 : CFS g0 d (0, 0, 6, none, fun _ => 0)) (y1 : ∀ g e q, e < T.1 → flS T.2 e = some q → fl1 (T.2 e) q = none → only (dW d) h g → P (k56 g (nI e)) ∧ P (k101 g (nI e))) (y2 : ∀ g q, flS T.2 T.1 = some q → CFS g d q → only (dW d) h g → P (k113 g d 1 (nI q.1) (nI q.2.1))) : P (f_X2_read_L18 LF e_fu k56 k101 k113 g0 d 1 0 0 0) := by
  have t80 := hoT.1
  refine lpF (N := T.1) (s := (g0, ((0, 0, 6, none, fun _ => 0) : FSt))) (run := fun fu (u : eH × FSt) i => f_X2_read_L18 LF fu k56 k101 k113 u.1 d 1 (nI u.2.1) (nI u.2.2.1) (nI i)) (Inv := fun i u => flS T.2 i = some u.2 ∧ CFS u.1 d u.2 ∧ only (dW d) h u.1) (Post := P) (by omega) ⟨rfl, h0, og⟩ ?_ ?_
  · rintro fu ⟨g, q⟩ ⟨a1, a2, a3⟩
    have a1 : flS T.2 T.1 = some q := a1
    have a3 : only (dW d) h g := a3
    have hTg : CT g T := CT_only a3 (fun j k a => by unfold dW; omega) hT
    have hsz : f_X8_size LF g 1 = some (nI T.1) := by unfold f_X8_size; rw [if_pos iO_1, hTg.1]
    show P (f_X2_read_L18 LF (fu + 1) k56 k101 k113 g d 1 (nI q.1) (nI q.2.1) (nI T.1))
    unfold f_X2_read_L18
    rw [if_pos iO_1, hsz, Option.bind_some, if_pos (nI_le (Nat.le_refl _) (by omega))]
    exact y2 g q a1 a2 a3
  · rintro i fu ⟨g, q⟩ hi ⟨a1, a2, a3⟩
    have a1 : flS T.2 i = some q := a1
    have a2 : CFS g d q := a2
    have a3 : only (dW d) h g := a3
    have hRg := only_refs a3 hR
    have hTg : CT g T := CT_only a3 (fun j k a => by unfold dW; omega) hT
    have hsz : f_X8_size LF g 1 = some (nI T.1) := by unfold f_X8_size; rw [if_pos iO_1, hTg.1]
    have ea := at_C hRg hTg hoT hi
    have hq := okFS_S (fun k hk => hoT.2 k (by omega)) a1
    have ci := hoT.2 i hi
    have nN : ¬ nI T.1 ≤ nI i := nI_ge hi (by omega)
    have nx := flS_s a1
    obtain ⟨q1, q2, q3, q4, -⟩ := id hq
    by_cases s47 : T.2 i = 47
    · have wc := whole_C hd hq a2
      by_cases w : whF q ∧ q.1 ≠ 5
      · rw [s47, fl1_slash w.1 w.2] at nx
        have on : only (dW d) g (sI g d 2 (nI q.2.1)) := only_sI (Or.inl rfl)
        refine Or.inr ⟨(sI g d 2 (nI q.2.1), (q.1 + 1, 0, q.2.1, q.2.2.2.1, q.2.2.2.2)), ⟨nx, ⟨?_, ?_, fun k hk => ?_⟩, only_trans a3 on⟩, fun z hz => ?_⟩
        · show gI (sI g d 2 (nI q.2.1)) d 2 = nI q.2.1
          rw [gI_sI, if_pos ⟨rfl, rfl⟩]
        · show gI (sI g d 2 (nI q.2.1)) d 3 = plO q.2.2.2.1
          rw [gI_sI, if_neg (by omega)]; exact a2.2.1
        · have hk : k < (q.1 + 1) * q.2.1 + 0 := hk
          show gI (sI g d 2 (nI q.2.1)) (d + 1) k = nI (q.2.2.2.2 k)
          rw [gI_sI, if_neg (by omega)]
          refine a2.2.2 k ?_
          have w1 := w.1
          unfold whF at w1
          rw [Nat.succ_mul] at hk
          by_cases z : q.1 = 0
          · rw [z, Nat.zero_mul] at hk ⊢; omega
          · rw [if_neg z] at w1; rw [← w1]; omega
        · show f_X2_read_L18 LF (fu + 1) k56 k101 k113 g d 1 (nI q.1) (nI q.2.1) (nI i) = z
          unfold f_X2_read_L18
          rw [if_pos iO_1, hsz, Option.bind_some, if_neg nN, ea, Option.bind_some, s47, if_pos (show nI 47 = 47 from rfl), if_pos (dO hd), wc, if_pos w.1, Option.bind_some, if_neg i10, if_neg (show ¬ nI q.1 = 5 from fun e => w.2 (nI_inj (by omega) (by decide) e)), nI_p1, nI_p1]
          exact hz
      · rw [s47, fl1_sn w] at nx
        refine Or.inl ?_
        show P (f_X2_read_L18 LF (fu + 1) k56 k101 k113 g d 1 (nI q.1) (nI q.2.1) (nI i))
        unfold f_X2_read_L18
        rw [if_pos iO_1, hsz, Option.bind_some, if_neg nN, ea, Option.bind_some, s47, if_pos (show nI 47 = 47 from rfl), if_pos (dO hd), wc, Option.bind_some]
        have yy := (y1 g i q hi a1 (by rw [s47]; exact fl1_sn w) a3).1
        by_cases w1 : whF q
        · have w5 : q.1 = 5 := Classical.byContradiction fun x => w ⟨w1, x⟩
          rw [if_pos w1, if_neg i10, if_pos (show nI q.1 = 5 by rw [w5]; rfl)]; exact yy
        · rw [if_neg w1, if_pos rfl]; exact yy
    · have n47 : ¬ nI (T.2 i) = 47 := fun e => s47 (nI_inj (by omega) (by decide) e)
      by_cases full : q.2.2.1 ≤ q.2.1
      · refine Or.inl ?_
        show P (f_X2_read_L18 LF (fu + 1) k56 k101 k113 g d 1 (nI q.1) (nI q.2.1) (nI i))
        unfold f_X2_read_L18
        rw [if_pos iO_1, hsz, Option.bind_some, if_neg nN, ea, Option.bind_some, if_neg n47, if_pos (dO hd), a2.1, if_pos (nI_le full (by omega))]
        exact (y1 g i q hi a1 (fl1_full s47 full) a3).2
      · have et : nI q.1 * nI q.2.2.1 + nI q.2.1 = nI (q.1 * q.2.2.1 + q.2.1) := by rw [pk_mul, nI_add]
        rcases put_C hRg hd ci hq (by omega) a2 with ⟨b1, b2⟩ | ⟨k, b1, b2, g', b3, b4, b5⟩
        · refine Or.inl ?_
          show P (f_X2_read_L18 LF (fu + 1) k56 k101 k113 g d 1 (nI q.1) (nI q.2.1) (nI i))
          unfold f_X2_read_L18
          rw [if_pos iO_1, hsz, Option.bind_some, if_neg nN, ea, Option.bind_some, if_neg n47, if_pos (dO hd), a2.1, if_neg (nI_ge (by omega) (by omega)), et, b2, Option.bind_some, if_pos rfl]
          exact (y1 g i q hi a1 (fl1_no s47 b1) a3).2
        · rw [fl1_put s47 (by omega) b1 b2] at nx
          refine Or.inr ⟨(g', ptF (T.2 i) k q), ⟨nx, b4, only_trans a3 b5⟩, fun z hz => ?_⟩
          show f_X2_read_L18 LF (fu + 1) k56 k101 k113 g d 1 (nI q.1) (nI q.2.1) (nI i) = z
          unfold f_X2_read_L18
          rw [if_pos iO_1, hsz, Option.bind_some, if_neg nN, ea, Option.bind_some, if_neg n47, if_pos (dO hd), a2.1, if_neg (nI_ge (by omega) (by omega)), et, b3, Option.bind_some, if_neg i10, nI_p1, nI_p1]
          exact hz

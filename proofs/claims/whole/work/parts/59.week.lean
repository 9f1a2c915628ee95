/-! week, rests on both sides. -/
def dwA (days v : Int32) : Nat → Int32 × Int32
  | 0 => (0, 0)
  | n + 1 => if ((days >>> (nI n &&& 31)) &&& 1) = 1 then (0, (dwA days v n).2 + 0) else ((dwA days v n).1 + v, (dwA days v n).2 + ((dwA days v n).1 + v))
theorem dwA_ok {days : Int32} {v : Nat} (hv : v ≤ 9) : ∀ n, n ≤ 7 → ∃ a b, dwA days (nI v) n = (nI a, nI b) ∧ a ≤ 9 * n ∧ b ≤ 9 * n * n
  | 0, _ => ⟨0, 0, rfl, by omega, by omega⟩
  | n + 1, hn => by
    obtain ⟨a, b, h1, h2, h3⟩ := dwA_ok (days := days) hv n (by omega)
    have h4 : 9 * (n + 1) * (n + 1) = 9 * n * n + 18 * n + 9 := by
      have : n = 0 ∨ n = 1 ∨ n = 2 ∨ n = 3 ∨ n = 4 ∨ n = 5 ∨ n = 6 := by omega
      rcases this with rfl | rfl | rfl | rfl | rfl | rfl | rfl <;> rfl
    unfold dwA
    rw [h1]
    split
    · exact ⟨0, b, by show ((0 : Int32), nI b + 0) = (nI 0, nI b); rw [show nI b + 0 = nI b from nI_add b 0]; rfl, by omega, by omega⟩
    · exact ⟨a + v, b + (a + v), by show (nI a + nI v, nI b + (nI a + nI v)) = _; rw [nI_add, nI_add], by omega, by omega⟩
theorem week_d (days v : Int32) : f_X10_dustOfWeek days v = some (dwA days v 7).2 := by
  unfold f_X10_dustOfWeek
  refine lpF (N := 7) (s := ((0 : Int32), (0 : Int32))) (run := fun fu (q : Int32 × Int32) i => f_X10_dustOfWeek_L7 fu (fun (w3_1 : Int32) => some w3_1) days v q.1 q.2 (nI i)) (Inv := fun i q => q = dwA days v i) (Post := fun r => r = some (dwA days v 7).2) (by decide) rfl ?_ ?_
  · rintro fu q rfl
    show f_X10_dustOfWeek_L7 (fu + 1) _ days v (dwA days v 7).1 (dwA days v 7).2 (nI 7) = _
    unfold f_X10_dustOfWeek_L7
    rw [if_pos (by decide)]
  · rintro i fu q hi rfl
    refine Or.inr ⟨dwA days v (i + 1), rfl, fun z hz => ?_⟩
    have hz : f_X10_dustOfWeek_L7 fu (fun (w3_1 : Int32) => some w3_1) days v (dwA days v (i + 1)).1 (dwA days v (i + 1)).2 (nI (i + 1)) = z := hz
    unfold dwA at hz
    show f_X10_dustOfWeek_L7 (fu + 1) _ days v (dwA days v i).1 (dwA days v i).2 (nI i) = z
    unfold f_X10_dustOfWeek_L7
    rw [if_neg (show ¬ (7 : Int32) ≤ nI i from nI_ge (b := 7) hi (by decide)), nI_p1]
    by_cases q : ((days >>> (nI i &&& 31)) &&& 1) = 1
    · rw [if_pos q] at hz ⊢; exact hz
    · rw [if_neg q] at hz ⊢; exact hz
def weS : Option (Nat × Nat) → Nat → Nat → Option (Nat × Nat)
  | none, i, m => some (i, m)
  | some (b, l), i, m => if l ≤ m then some (b, l) else some (i, m)
theorem weS_some {b l i m : Nat} : weS (some (b, l)) i m = if l ≤ m then some (b, l) else some (i, m) := rfl
def weA (k : Int32) (m : Nat → Nat) : Nat → Option (Nat × Nat)
  | 0 => none
  | i + 1 => if f_J6_bitCount_0f7a4 (nI i) = k then weS (weA k m i) i (m i) else weA k m i
theorem weA_ok {k : Int32} {m : Nat → Nat} (hm : ∀ i, i < 128 → m i ≤ 500) : ∀ n, n ≤ 128 → ∀ b l, weA k m n = some (b, l) → b < n ∧ l ≤ 500
  | 0, _, b, l, h => by cases h
  | n + 1, hn, b, l, h => by
    have ih := weA_ok (k := k) hm n (by omega)
    have hmn := hm n (by omega)
    unfold weA at h
    by_cases q : f_J6_bitCount_0f7a4 (nI n) = k
    · rw [if_pos q] at h
      cases hw : weA k m n with
      | none =>
        rw [hw] at h
        unfold weS at h
        cases h
        exact ⟨by omega, hmn⟩
      | some p =>
        obtain ⟨b', l'⟩ := p
        have ih2 := ih b' l' hw
        rw [hw, weS_some] at h
        by_cases q2 : l' ≤ m n
        · rw [if_pos q2] at h; cases h; exact ⟨by omega, ih2.2⟩
        · rw [if_neg q2] at h; cases h; exact ⟨by omega, hmn⟩
    · rw [if_neg q] at h
      have := ih b l h
      exact ⟨by omega, this.2⟩
theorem weA_some {k : Int32} {m : Nat → Nat} {j : Nat} (hj : f_J6_bitCount_0f7a4 (nI j) = k) : ∀ n, j < n → weA k m n ≠ none
  | 0, h => absurd h (Nat.not_lt_zero _)
  | n + 1, h => by
    unfold weA
    by_cases q : f_J6_bitCount_0f7a4 (nI n) = k
    · rw [if_pos q]
      cases weA k m n with
      | none => intro e; cases e
      | some p =>
        obtain ⟨b, l⟩ := p
        rw [weS_some]
        by_cases q2 : l ≤ m n
        · rw [if_pos q2]; intro e; cases e
        · rw [if_neg q2]; intro e; cases e
    · rw [if_neg q]
      by_cases e : j = n
      · rw [e] at hj; exact absurd hj q
      · exact weA_some hj n (by omega)
theorem bit7 : ∀ k, k ≤ 7 → f_J6_bitCount_0f7a4 (nI (2 ^ k - 1)) = nI k ∧ 2 ^ k - 1 < 128 := by decide +kernel
def weC (o : Option (Nat × Nat)) (l0 : Int32) : Int32 × Int32 := match o with
  | none => (-1, l0)
  | some (b, l) => (nI b, nI l)
theorem week_CL {P : Option (eH × Int32) → Prop} {k84 : eH → Nat → Int32 → Int32 → Option (eH × Int32)} {h : eH} {k v : Int32} {m : Nat → Nat} (hm : ∀ i, i < 128 → m i ≤ 500 ∧ (dwA (nI i) v 7).2 = nI (m i)) (y : P (k84 h 0 (weC (weA k m 128) 0).1 (weC (weA k m 128) 0).2)) : P (f_X10_week_L31 LF e_fu k84 h 0 k v (-1) 0 0) := by
  refine lpF (N := 128) (s := ((-1 : Int32), (0 : Int32))) (run := fun fu (q : Int32 × Int32) i => f_X10_week_L31 LF fu k84 h 0 k v q.1 q.2 (nI i)) (Inv := fun i q => q = weC (weA k m i) 0) (Post := P) (by decide) rfl ?_ ?_
  · rintro fu q rfl
    show P (f_X10_week_L31 LF (fu + 1) k84 h 0 k v (weC (weA k m 128) 0).1 (weC (weA k m 128) 0).2 (nI 128))
    unfold f_X10_week_L31
    rw [if_pos (by decide)]
    exact y
  · rintro i fu q hi rfl
    refine Or.inr ⟨weC (weA k m (i + 1)) 0, rfl, fun z hz => ?_⟩
    have hz : f_X10_week_L31 LF fu k84 h 0 k v (weC (weA k m (i + 1)) 0).1 (weC (weA k m (i + 1)) 0).2 (nI (i + 1)) = z := hz
    have hmi := hm i hi
    show f_X10_week_L31 LF (fu + 1) k84 h 0 k v (weC (weA k m i) 0).1 (weC (weA k m i) 0).2 (nI i) = z
    unfold f_X10_week_L31
    rw [if_neg (show ¬ (128 : Int32) ≤ nI i from nI_ge (b := 128) hi (by decide)), week_d, hmi.2, Option.bind_some, nI_p1]
    have hok := weA_ok (k := k) (fun i hi => (hm i hi).1) i (by omega)
    unfold weA at hz
    by_cases q : f_J6_bitCount_0f7a4 (nI i) = k
    · rw [if_pos q] at hz ⊢
      cases hw : weA k m i with
      | none =>
        rw [hw] at hz
        rw [if_pos (show (weC none 0).1 = -1 from rfl)]; exact hz
      | some p =>
        obtain ⟨b, l⟩ := p
        have h2 := hok b l hw
        rw [hw, weS_some] at hz
        show (if nI b = -1 then _ else if nI l ≤ nI (m i) then _ else _) = z
        rw [if_neg (fun e => nI_pos (n := b) (by omega) (by rw [e]; decide))]
        by_cases q2 : l ≤ m i
        · rw [if_pos q2] at hz
          rw [if_pos (nI_le q2 (by omega))]; exact hz
        · rw [if_neg q2] at hz
          rw [if_neg (nI_ge (by omega) (by omega))]; exact hz
    · rw [if_neg q] at hz ⊢; exact hz
theorem week_M1 {P : Option (eH × Int32) → Prop} {k99 : eH → Nat → Int32 → Int32 → Int32 → Int32 → Int32 → Int32 → Option (eH × Int32)} {h : eH} {v1 v2 v3 v4 v5 : Int32} (y : P (k99 h 73 v1 v2 v3 v4 v5 (dwA v5 v2 7).2)) : P (f_X11_week_L58 LF e_fu k99 h 73 v1 v2 v3 v4 v5 0 0 0) := by
  refine lpF (N := 7) (s := ((0 : Int32), (0 : Int32))) (run := fun fu (q : Int32 × Int32) i => f_X11_week_L58 LF fu k99 h 73 v1 v2 v3 v4 v5 q.1 q.2 (nI i)) (Inv := fun i q => q = dwA v5 v2 i) (Post := P) (by decide) rfl ?_ ?_
  · rintro fu q rfl
    show P (f_X11_week_L58 LF (fu + 1) k99 h 73 v1 v2 v3 v4 v5 (dwA v5 v2 7).1 (dwA v5 v2 7).2 (nI 7))
    unfold f_X11_week_L58
    rw [if_pos (by decide)]
    exact y
  · rintro i fu q hi rfl
    refine Or.inr ⟨dwA v5 v2 (i + 1), rfl, fun z hz => ?_⟩
    have hz : f_X11_week_L58 LF fu k99 h 73 v1 v2 v3 v4 v5 (dwA v5 v2 (i + 1)).1 (dwA v5 v2 (i + 1)).2 (nI (i + 1)) = z := hz
    unfold dwA at hz
    show f_X11_week_L58 LF (fu + 1) k99 h 73 v1 v2 v3 v4 v5 (dwA v5 v2 i).1 (dwA v5 v2 i).2 (nI i) = z
    unfold f_X11_week_L58
    rw [if_neg (show ¬ (7 : Int32) ≤ nI i from nI_ge (b := 7) hi (by decide)), nI_p1]
    by_cases q : ((v5 >>> (nI i &&& 31)) &&& 1) = 1
    · rw [if_pos q] at hz ⊢; exact hz
    · rw [if_neg q] at hz ⊢; exact hz
theorem L41_s {n : Nat} {k154 : eH → Nat → Int32 → Int32 → Option (eH × Int32)} {h : eH} {v0 : Nat} {v1 v2 v3 v4 v5 : Int32} : f_X11_week_L41 LF (n + 1) k154 h v0 v1 v2 v3 v4 v5 = (if 128 ≤ v5 then k154 h v0 v3 v4 else f_X11_week_L58 LF e_fu (fun (h2 : eH) (w0_3 : Nat) (w1_4 : Int32) (w2_5 : Int32) (w3_6 : Int32) (w4_7 : Int32) (w5_8 : Int32) (w7_9 : Int32) => if (f_J6_bitCount_0f7a4 w5_8) = w1_4 then if w4_7 ≤ w7_9 then f_X11_week_J133 LF (f_X11_week_L41 LF n k154) k154 h2 w0_3 w1_4 w2_5 w4_7 w5_8 w7_9 0 w3_6 else f_X11_week_J133 LF (f_X11_week_L41 LF n k154) k154 h2 w0_3 w1_4 w2_5 w4_7 w5_8 w7_9 1 w5_8 else f_X11_week_J133 LF (f_X11_week_L41 LF n k154) k154 h2 w0_3 w1_4 w2_5 w4_7 w5_8 w7_9 0 w3_6) h v0 v1 v2 v3 v4 v5 0 0 0) := rfl
theorem week_ML {P : Option (eH × Int32) → Prop} {k154 : eH → Nat → Int32 → Int32 → Option (eH × Int32)} {h : eH} {k v : Int32} {m : Nat → Nat} (hm : ∀ i, i < 128 → m i ≤ 500 ∧ (dwA (nI i) v 7).2 = nI (m i)) (y : P (k154 h 73 (weC (weA k m 128) 1000000).1 (weC (weA k m 128) 1000000).2)) : P (f_X11_week_L41 LF e_fu k154 h 73 k v (-1) 1000000 0) := by
  refine lpF (N := 128) (s := ((-1 : Int32), (1000000 : Int32))) (run := fun fu (q : Int32 × Int32) i => f_X11_week_L41 LF fu k154 h 73 k v q.1 q.2 (nI i)) (Inv := fun i q => q = weC (weA k m i) 1000000) (Post := P) (by decide) rfl ?_ ?_
  · rintro fu q rfl
    show P (f_X11_week_L41 LF (fu + 1) k154 h 73 k v (weC (weA k m 128) 1000000).1 (weC (weA k m 128) 1000000).2 (nI 128))
    rw [L41_s, if_pos (by decide)]
    exact y
  · rintro i fu q hi rfl
    refine Or.inr ⟨weC (weA k m (i + 1)) 1000000, rfl, fun z hz => ?_⟩
    have hz : f_X11_week_L41 LF fu k154 h 73 k v (weC (weA k m (i + 1)) 1000000).1 (weC (weA k m (i + 1)) 1000000).2 (nI (i + 1)) = z := hz
    have hmi := hm i hi
    show f_X11_week_L41 LF (fu + 1) k154 h 73 k v (weC (weA k m i) 1000000).1 (weC (weA k m i) 1000000).2 (nI i) = z
    rw [L41_s, if_neg (show ¬ (128 : Int32) ≤ nI i from nI_ge (b := 128) hi (by decide))]
    refine week_M1 (P := fun r => r = z) ?_
    rw [hmi.2]
    unfold f_X11_week_J133
    rw [nI_p1]
    have hok := weA_ok (k := k) (fun i hi => (hm i hi).1) i (by omega)
    unfold weA at hz
    by_cases q : f_J6_bitCount_0f7a4 (nI i) = k
    · rw [if_pos q] at hz ⊢
      cases hw : weA k m i with
      | none =>
        rw [hw] at hz
        have : ¬ (weC none 1000000).2 ≤ nI (m i) := nI_ge (b := 1000000) (by omega) (by decide)
        rw [if_neg this, if_neg i10]; exact hz
      | some p =>
        obtain ⟨b, l⟩ := p
        have h2 := hok b l hw
        rw [hw, weS_some] at hz
        by_cases q2 : l ≤ m i
        · rw [if_pos q2] at hz
          have : (weC (some (b, l)) 1000000).2 ≤ nI (m i) := nI_le q2 (by omega)
          rw [if_pos this, if_pos rfl]; exact hz
        · rw [if_neg q2] at hz
          have : ¬ (weC (some (b, l)) 1000000).2 ≤ nI (m i) := nI_ge (by omega) (by omega)
          rw [if_neg this, if_neg i10]; exact hz
    · rw [if_neg q] at hz ⊢
      rw [if_pos rfl]; exact hz
theorem week_P {B : Nat} {h : eH} {X : AX} (hc : CI h X) (hm : MI h X) (ho : okX B X) (k v : Int32) : PR B (f_X10_week LF h 0 k v) (fun h1 => f_X11_week LF h1 73 k v) := by
  have in7 : f_X11_in k.toInt64 0 7 = if k < 0 then 0 else if (7 : Int32) < k then 0 else 1 := in_00 k 7
  have in9 : f_X11_in v.toInt64 1 9 = if v < 1 then 0 else if (9 : Int32) < v then 0 else 1 := in_lo v 9
  by_cases a1 : k < 0
  · refine PR_no hc hm ho (r := -1) ?_ (fun h1 hR h9 => ?_)
    · unfold f_X10_week; rw [if_pos a1]
    · show f_X11_week LF h1 73 k v = _
      unfold f_X11_week; rw [if_pos iO_73, in7, if_pos a1, if_pos rfl]
  by_cases a2 : (7 : Int32) < k
  · refine PR_no hc hm ho (r := -1) ?_ (fun h1 hR h9 => ?_)
    · unfold f_X10_week; rw [if_neg a1, if_pos a2]
    · show f_X11_week LF h1 73 k v = _
      unfold f_X11_week; rw [if_pos iO_73, in7, if_neg a1, if_pos a2, if_pos rfl]
  have n7 : ¬ f_X11_in k.toInt64 0 7 = 0 := by rw [in7, if_neg a1, if_neg a2]; exact i10
  by_cases a3 : v < 1
  · refine PR_no hc hm ho (r := -1) ?_ (fun h1 hR h9 => ?_)
    · unfold f_X10_week; rw [if_neg a1, if_neg a2, if_pos a3]
    · show f_X11_week LF h1 73 k v = _
      unfold f_X11_week; rw [if_pos iO_73, if_neg n7, in9, if_pos a3, if_pos rfl]
  by_cases a4 : v ≤ 9
  · have n9 : ¬ f_X11_in v.toInt64 1 9 = 0 := by rw [in9, if_neg a3, if_neg (show ¬ (9 : Int32) < v by rw [fa_le] at a4; rw [fa_lt]; omega)]; exact i10
    obtain ⟨q, q1, q2, rfl⟩ := low1 (n := 9) (by decide) a3 a4
    obtain ⟨j, j1, rfl⟩ : ∃ j, j ≤ 7 ∧ k = nI j := by
      rcases pos_le k 7 (by decide) with x | ⟨x1, x2, x3⟩ | x
      · exact absurd x a1
      · exact absurd x3 a2
      · exact x
    have hx : ∀ i, ∃ m : Nat, m ≤ 500 ∧ (dwA (nI i) (nI q) 7).2 = nI m := fun i => by
      obtain ⟨a, b, h1, h2, h3⟩ := dwA_ok (days := nI i) q2 7 (Nat.le_refl _)
      exact ⟨b, by omega, by rw [h1]⟩
    obtain ⟨m, hmm⟩ := Classical.axiomOfChoice hx
    obtain ⟨b7, b8⟩ := bit7 j j1
    have hne := weA_some (k := nI j) (m := m) b7 128 b8
    obtain ⟨b, l, hbl⟩ : ∃ b l, weA (nI j) m 128 = some (b, l) := by
      cases hw : weA (nI j) m 128 with
      | none => exact absurd hw hne
      | some p => exact ⟨p.1, p.2, rfl⟩
    refine PR_q hc hm ho (r := nI l) (l := [(nI b).toInt64]) (by show 1 ≤ 37; omega) ?_ (fun h1 hR h9 => ?_)
    · unfold f_X10_week
      rw [if_neg a1, if_neg a2, if_neg a3, if_pos a4]
      refine week_CL (P := fun r => ∃ h1, r = some (h1, nI l) ∧ CW h1 [(nI b).toInt64] ∧ only cscW h h1) (fun i _ => hmm i) ?_
      rw [hbl]
      obtain ⟨b1, b2⟩ := rowbeg_C h
      have hRb : RefsOK (sI h 3 1 0) := refs_sI hc.1
      obtain ⟨h3, r1, r2, r3⟩ := rowadd_C hRb b2 (by decide) ((nI b).toInt64)
      have obb : only (fun j _ => j = 3 ∨ j = 4) h (sI h 3 1 0) := only_sI (Or.inl rfl)
      refine ⟨h3, ?_, r2, row_w (only_trans obb r3)⟩
      show (if isO LF 0 10 = true then (gR h 0 1).bind fun b8 => if isO LF b8 3 = true then (f_X3_begin LF h b8).bind fun r11 => (gR r11 0 1).bind fun b13 => if isO LF b13 3 = true then (f_X3_add LF r11 b13 (nI b).toInt64).bind fun r16 => some (r16, nI l) else none else none else none) = _
      rw [if_pos iO_0, r_0_1 hc.1, Option.bind_some, if_pos iO_3, b1, Option.bind_some, r_0_1 hRb, Option.bind_some, if_pos iO_3, r1, Option.bind_some]
    · show ∃ h2, f_X11_week LF h1 73 (nI j) (nI q) = _ ∧ _
      unfold f_X11_week
      rw [if_pos iO_73, if_neg n7, if_neg n9]
      refine week_ML (P := fun r => ∃ h2, r = some (h2, nI l) ∧ MW h2 [(nI b).toInt64] ∧ only mscW h1 h2) (fun i _ => hmm i) ?_
      rw [hbl]
      have hRb : RefsOK (sI (sI h1 73 0 0) 73 1 0) := refs_sI (refs_sI hR)
      obtain ⟨h3, r1, r2, r3⟩ := rowadd_M hRb (rowbeg_M (sI h1 73 0 0)) (by decide) ((nI b).toInt64)
      have obb : only (fun j k => (j = 73 ∧ k = 1) ∨ j = 74) (sI h1 73 0 0) (sI (sI h1 73 0 0) 73 1 0) := only_sI (Or.inl ⟨rfl, rfl⟩)
      refine ⟨h3, ?_, r2, only_trans (msc_w thr_M) (rowm_w (only_trans obb r3))⟩
      show (if isO LF 73 11 = true then (f_X11_enters LF (sI (sI h1 73 0 0) 73 1 0) 73 (nI b).toInt64).bind fun r15 => some (r15, nI l) else none) = _
      rw [if_pos iO_73, r1, Option.bind_some]
  · refine PR_no hc hm ho (r := -1) ?_ (fun h1 hR h9 => ?_)
    · unfold f_X10_week; rw [if_neg a1, if_neg a2, if_neg a3, if_neg a4]
    · show f_X11_week LF h1 73 k v = _
      unfold f_X11_week; rw [if_pos iO_73, if_neg n7, in9, if_neg a3, if_pos (show (9 : Int32) < v by rw [fa_le] at a4; rw [fa_lt]; omega), if_pos rfl]
/-! rests -/
theorem rest_e (a b v : Int32) : f_X10_rested a b v = f_X11_earns a b v := by
  unfold f_X10_rested f_X11_earns
  by_cases h1 : b ≤ a
  · rw [if_pos h1, if_pos h1]
    by_cases h2 : a ≤ b
    · rw [if_pos h2, if_pos (by rw [fa_eq]; rw [fa_le] at h1 h2; omega)]
    · rw [if_neg h2, if_neg (fun e => h2 (by rw [e, fa_le]; omega))]
  · rw [if_neg h1, if_neg h1]
def stN (own other v : Int32) : Nat → Bool
  | 0 => true
  | n + 1 => stN own other v n && decide (f_X11_earns (nI n) other v ≤ f_X11_earns own other v)
theorem stN_up {own other v : Int32} : ∀ {m n : Nat}, m ≤ n → stN own other v n = true → stN own other v m = true := by
  intro m n h hs
  induction n with
  | zero => have : m = 0 := by omega
            subst this; rfl
  | succ n ih =>
    rcases Nat.lt_or_ge m (n + 1) with g | g
    · unfold stN at hs
      simp only [Bool.and_eq_true] at hs
      exact ih (by omega) hs.1
    · have : m = n + 1 := by omega
      subst this; exact hs
theorem stays_C (own other v : Int32) : f_X10_staysWith own other v = some (if stN own other v 10 then 1 else 0) := by
  unfold f_X10_staysWith
  rw [rest_e]
  refine lpF (N := 10) (s := ()) (run := fun fu (_ : Unit) i => f_X10_staysWith_L10 fu (some 0) (some 1) other v (f_X11_earns own other v) (nI i)) (Inv := fun i _ => stN own other v i = true) (Post := fun r => r = some (if stN own other v 10 then 1 else 0)) (by decide) rfl ?_ ?_
  · rintro fu _ h
    have h : stN own other v 10 = true := h
    show f_X10_staysWith_L10 (fu + 1) _ _ other v _ (nI 10) = _
    unfold f_X10_staysWith_L10
    rw [if_pos (by decide), if_pos h]
  · rintro i fu _ hi h
    have h : stN own other v i = true := h
    have n10 : ¬ (10 : Int32) ≤ nI i := nI_ge (b := 10) hi (by decide)
    by_cases q : f_X11_earns (nI i) other v ≤ f_X11_earns own other v
    · refine Or.inr ⟨(), ?_, fun z hz => ?_⟩
      · show stN own other v (i + 1) = true
        unfold stN; rw [h, decide_eq_true q]; rfl
      · show f_X10_staysWith_L10 (fu + 1) _ _ other v _ (nI i) = z
        unfold f_X10_staysWith_L10
        rw [if_neg n10, rest_e, if_pos q, nI_p1]; exact hz
    · refine Or.inl ?_
      show f_X10_staysWith_L10 (fu + 1) _ _ other v _ (nI i) = _
      unfold f_X10_staysWith_L10
      rw [if_neg n10, rest_e, if_neg q, if_neg (fun e => ?_)]
      have := stN_up (m := i + 1) (by omega) e
      unfold stN at this
      rw [decide_eq_false q] at this
      simp at this
theorem rest_M (own other v : Int32) : f_X11_isRest own other v = some (if stN own other v 10 then 1 else 0) := by
  unfold f_X11_isRest
  refine lpF (N := 10) (s := (1 : Int32)) (run := fun fu (q : Int32) i => f_X11_isRest_L5 fu (fun (w3_1 : Int32) => if isB w3_1 = true then some w3_1 else none) own other v q (nI i)) (Inv := fun i q => q = if stN own other v i then 1 else 0) (Post := fun r => r = some (if stN own other v 10 then 1 else 0)) (by decide) rfl ?_ ?_
  · rintro fu q rfl
    show f_X11_isRest_L5 (fu + 1) _ own other v (if stN own other v 10 then 1 else 0) (nI 10) = _
    unfold f_X11_isRest_L5
    rw [if_pos (by decide)]
    cases stN own other v 10
    · exact if_pos (show isB 0 = true by decide)
    · exact if_pos (show isB 1 = true by decide)
  · rintro i fu q hi rfl
    refine Or.inr ⟨if stN own other v (i + 1) then 1 else 0, rfl, fun z hz => ?_⟩
    have hz : f_X11_isRest_L5 fu (fun (w3_1 : Int32) => if isB w3_1 = true then some w3_1 else none) own other v (if stN own other v (i + 1) then 1 else 0) (nI (i + 1)) = z := hz
    unfold stN at hz
    show f_X11_isRest_L5 (fu + 1) _ own other v (if stN own other v i then 1 else 0) (nI i) = z
    unfold f_X11_isRest_L5
    rw [if_neg (show ¬ (9 : Int32) < nI i from nI_nlt (a := 9) (by omega) (by decide)), nI_p1]
    cases hs : stN own other v i with
    | false =>
      rw [hs] at hz
      rw [if_pos (show (if false = true then (1 : Int32) else 0) = 0 from rfl)]; exact hz
    | true =>
      rw [hs] at hz
      rw [if_neg (show ¬ (if true = true then (1 : Int32) else 0) = 0 from i10)]
      by_cases q : f_X11_earns (nI i) other v ≤ f_X11_earns own other v
      · rw [decide_eq_true q] at hz
        rw [if_neg (show ¬ f_X11_earns own other v < f_X11_earns (nI i) other v by rw [fa_lt]; rw [fa_le] at q; omega)]; exact hz
      · rw [decide_eq_false q] at hz
        rw [if_pos (show f_X11_earns own other v < f_X11_earns (nI i) other v by rw [fa_lt]; rw [fa_le] at q; omega)]; exact hz
def rs1 (v : Int32) (x y : Nat) (st : Nat × List Int64) : Nat × List Int64 := if stN (nI x) (nI y) v 10 && stN (nI y) (nI x) v 10 then (st.1 + 1, if st.1 = 0 then st.2 ++ [(nI x).toInt64] ++ [(nI y).toInt64] else st.2) else st
theorem rs1_f {v : Int32} {x y : Nat} {st : Nat × List Int64} (c : stN (nI x) (nI y) v 10 = false) : rs1 v x y st = st := by
  unfold rs1; rw [c]; rfl
theorem rs1_g {v : Int32} {x y : Nat} {st : Nat × List Int64} (c : stN (nI x) (nI y) v 10 = true) (c2 : stN (nI y) (nI x) v 10 = false) : rs1 v x y st = st := by
  unfold rs1; rw [c, c2]; rfl
theorem rs1_t {v : Int32} {x y : Nat} {st : Nat × List Int64} (c : stN (nI x) (nI y) v 10 = true) (c2 : stN (nI y) (nI x) v 10 = true) : rs1 v x y st = (st.1 + 1, if st.1 = 0 then st.2 ++ [(nI x).toInt64] ++ [(nI y).toInt64] else st.2) := by
  unfold rs1; rw [c, c2]; rfl
def rsI (v : Int32) (x : Nat) (st : Nat × List Int64) : Nat → Nat × List Int64
  | 0 => st
  | n + 1 => rs1 v x n (rsI v x st n)
def rsO (v : Int32) : Nat → Nat × List Int64
  | 0 => (0, [])
  | n + 1 => rsI v n (rsO v n) 10
def rsK (b : Nat) (st : Nat × List Int64) : Prop := st.1 ≤ b ∧ ((st.1 = 0 ∧ st.2 = []) ∨ (0 < st.1 ∧ st.2.length = 2))
theorem rs1_ok {v : Int32} {x y b : Nat} {st : Nat × List Int64} (h : rsK b st) : rsK (b + 1) (rs1 v x y st) := by
  obtain ⟨h1, h2⟩ := h
  unfold rs1
  split
  · refine ⟨by show st.1 + 1 ≤ b + 1; omega, Or.inr ⟨by show 0 < st.1 + 1; omega, ?_⟩⟩
    rcases h2 with ⟨e1, e2⟩ | ⟨e1, e2⟩
    · show (if st.1 = 0 then _ else _ : List Int64).length = 2
      rw [if_pos e1, e2]; rfl
    · show (if st.1 = 0 then _ else _ : List Int64).length = 2
      rw [if_neg (by omega)]; exact e2
  · exact ⟨by omega, h2⟩
theorem rsI_ok {v : Int32} {x b : Nat} {st : Nat × List Int64} (h : rsK b st) : ∀ n, rsK (b + n) (rsI v x st n)
  | 0 => h
  | n + 1 => rs1_ok (rsI_ok h n)
theorem rsO_ok {v : Int32} : ∀ n, rsK (10 * n) (rsO v n)
  | 0 => ⟨Nat.le_refl _, Or.inl ⟨rfl, rfl⟩⟩
  | n + 1 => by
    have := rsI_ok (v := v) (x := n) (rsO_ok (v := v) n) 10
    rw [show 10 * (n + 1) = 10 * n + 10 by omega]; exact this
theorem rests_C1 {P : Option (eH × Int32) → Prop} {k95 : eH → Nat → Int32 → Int32 → Int32 → Option (eH × Int32)} {h g0 : eH} {v : Int32} {x b : Nat} {st : Nat × List Int64} (hR : RefsOK h) (hst : rsK b st) (hb : b ≤ 200) (og : only cscW h g0) (hl : CW g0 st.2) (y : ∀ g, only cscW h g → CW g (rsI v x st 10).2 → P (k95 g 0 v (nI (rsI v x st 10).1) (nI x))) : P (f_X10_rests_L33 LF e_fu k95 g0 0 v (nI st.1) (nI x) 0) := by
  refine lpF (N := 10) (s := (g0, st)) (run := fun fu (q : eH × Nat × List Int64) i => f_X10_rests_L33 LF fu k95 q.1 0 v (nI q.2.1) (nI x) (nI i)) (Inv := fun i q => only cscW h q.1 ∧ CW q.1 q.2.2 ∧ q.2 = rsI v x st i) (Post := P) (by decide) ⟨og, hl, rfl⟩ ?_ ?_
  · rintro fu ⟨g, s⟩ ⟨g1, g2, g3⟩
    have g3 : s = rsI v x st 10 := g3
    have g2 : CW g s.2 := g2
    show P (f_X10_rests_L33 LF (fu + 1) k95 g 0 v (nI s.1) (nI x) (nI 10))
    unfold f_X10_rests_L33
    rw [if_pos (by decide), g3]
    exact y g g1 (by rw [← g3]; exact g2)
  · rintro i fu ⟨g, s⟩ hi ⟨g1, g2, g3⟩
    have g1 : only cscW h g := g1
    have g2 : CW g s.2 := g2
    have g3 : s = rsI v x st i := g3
    have hk := rsI_ok (v := v) (x := x) hst i
    rw [← g3] at hk
    have nx : rsI v x st (i + 1) = rs1 v x i s := by rw [g3]; rfl
    have hRg := only_refs g1 hR
    have n10 : ¬ (10 : Int32) ≤ nI i := nI_ge (b := 10) hi (by decide)
    cases c1 : stN (nI x) (nI i) v 10 with
    | false =>
      rw [rs1_f c1] at nx
      refine Or.inr ⟨(g, s), ⟨g1, g2, nx.symm⟩, fun z hz => ?_⟩
      show f_X10_rests_L33 LF (fu + 1) k95 g 0 v (nI s.1) (nI x) (nI i) = z
      unfold f_X10_rests_L33
      rw [if_neg n10, stays_C, c1, Option.bind_some, if_pos (show (if false = true then (1 : Int32) else 0) = 0 from rfl), nI_p1]; exact hz
    | true =>
      cases c2 : stN (nI i) (nI x) v 10 with
      | false =>
        rw [rs1_g c1 c2] at nx
        refine Or.inr ⟨(g, s), ⟨g1, g2, nx.symm⟩, fun z hz => ?_⟩
        show f_X10_rests_L33 LF (fu + 1) k95 g 0 v (nI s.1) (nI x) (nI i) = z
        unfold f_X10_rests_L33
        rw [if_neg n10, stays_C, c1, Option.bind_some, if_neg (show ¬ (if true = true then (1 : Int32) else 0) = 0 from i10), stays_C, c2, Option.bind_some, if_pos (show (if false = true then (1 : Int32) else 0) = 0 from rfl), nI_p1]; exact hz
      | true =>
        rw [rs1_t c1 c2] at nx
        by_cases h0 : s.1 = 0
        · rw [if_pos h0] at nx
          have hlen : s.2.length = 0 := by
            rcases hk.2 with ⟨-, e⟩ | ⟨e, -⟩
            · rw [e]; rfl
            · omega
          obtain ⟨g', r1, r2, r3⟩ := rowadd_C hRg g2 (by omega) ((nI x).toInt64)
          have hR' := only_refs r3 hRg
          obtain ⟨g'', s1, s2, s3⟩ := rowadd_C hR' r2 (by rw [List.length_append]; show s.2.length + 1 < 37; omega) ((nI i).toInt64)
          refine Or.inr ⟨(g'', s.1 + 1, s.2 ++ [(nI x).toInt64] ++ [(nI i).toInt64]), ⟨only_trans g1 (row_w (only_trans r3 s3)), s2, nx.symm⟩, fun z hz => ?_⟩
          show f_X10_rests_L33 LF (fu + 1) k95 g 0 v (nI s.1) (nI x) (nI i) = z
          unfold f_X10_rests_L33
          rw [if_neg n10, stays_C, c1, Option.bind_some, if_neg (show ¬ (if true = true then (1 : Int32) else 0) = 0 from i10), stays_C, c2, Option.bind_some, if_neg (show ¬ (if true = true then (1 : Int32) else 0) = 0 from i10), if_pos (by rw [h0]; rfl), if_pos iO_0, r_0_1 hRg, Option.bind_some, if_pos iO_3, r1, Option.bind_some, r_0_1 hR', Option.bind_some, if_pos iO_3, s1, Option.bind_some, nI_p1, nI_p1]; exact hz
        · rw [if_neg h0] at nx
          have hk1 := hk.1
          refine Or.inr ⟨(g, s.1 + 1, s.2), ⟨g1, g2, nx.symm⟩, fun z hz => ?_⟩
          show f_X10_rests_L33 LF (fu + 1) k95 g 0 v (nI s.1) (nI x) (nI i) = z
          unfold f_X10_rests_L33
          rw [if_neg n10, stays_C, c1, Option.bind_some, if_neg (show ¬ (if true = true then (1 : Int32) else 0) = 0 from i10), stays_C, c2, Option.bind_some, if_neg (show ¬ (if true = true then (1 : Int32) else 0) = 0 from i10), if_neg (nI_ne0 (by omega) (by omega)), nI_p1, nI_p1]; exact hz
theorem rests_M1 {P : Option (eH × Int32) → Prop} {k90 : eH → Nat → Int32 → Int32 → Int32 → Option (eH × Int32)} {h g0 : eH} {v : Int32} {x b : Nat} {st : Nat × List Int64} (hR : RefsOK h) (hst : rsK b st) (hb : b ≤ 200) (og : only mscW h g0) (hl : MW g0 st.2) (y : ∀ g, only mscW h g → MW g (rsI v x st 10).2 → P (k90 g 73 v (nI (rsI v x st 10).1) (nI x))) : P (f_X11_rests_L37 LF e_fu k90 g0 73 v (nI st.1) (nI x) 0) := by
  refine lpF (N := 10) (s := (g0, st)) (run := fun fu (q : eH × Nat × List Int64) i => f_X11_rests_L37 LF fu k90 q.1 73 v (nI q.2.1) (nI x) (nI i)) (Inv := fun i q => only mscW h q.1 ∧ MW q.1 q.2.2 ∧ q.2 = rsI v x st i) (Post := P) (by decide) ⟨og, hl, rfl⟩ ?_ ?_
  · rintro fu ⟨g, s⟩ ⟨g1, g2, g3⟩
    have g3 : s = rsI v x st 10 := g3
    have g2 : MW g s.2 := g2
    show P (f_X11_rests_L37 LF (fu + 1) k90 g 73 v (nI s.1) (nI x) (nI 10))
    unfold f_X11_rests_L37
    rw [if_pos (by decide), g3]
    exact y g g1 (by rw [← g3]; exact g2)
  · rintro i fu ⟨g, s⟩ hi ⟨g1, g2, g3⟩
    have g1 : only mscW h g := g1
    have g2 : MW g s.2 := g2
    have g3 : s = rsI v x st i := g3
    have hk := rsI_ok (v := v) (x := x) hst i
    rw [← g3] at hk
    have nx : rsI v x st (i + 1) = rs1 v x i s := by rw [g3]; rfl
    have hRg := only_refs g1 hR
    have n10 : ¬ (9 : Int32) < nI i := nI_nlt (a := 9) (by omega) (by decide)
    cases c1 : stN (nI x) (nI i) v 10 with
    | false =>
      rw [rs1_f c1] at nx
      refine Or.inr ⟨(g, s), ⟨g1, g2, nx.symm⟩, fun z hz => ?_⟩
      show f_X11_rests_L37 LF (fu + 1) k90 g 73 v (nI s.1) (nI x) (nI i) = z
      unfold f_X11_rests_L37
      rw [if_neg n10, rest_M, c1, Option.bind_some, if_pos (show (if false = true then (1 : Int32) else 0) = 0 from rfl), nI_p1]; exact hz
    | true =>
      cases c2 : stN (nI i) (nI x) v 10 with
      | false =>
        rw [rs1_g c1 c2] at nx
        refine Or.inr ⟨(g, s), ⟨g1, g2, nx.symm⟩, fun z hz => ?_⟩
        show f_X11_rests_L37 LF (fu + 1) k90 g 73 v (nI s.1) (nI x) (nI i) = z
        unfold f_X11_rests_L37
        rw [if_neg n10, rest_M, c1, Option.bind_some, if_neg (show ¬ (if true = true then (1 : Int32) else 0) = 0 from i10), rest_M, c2, Option.bind_some, if_pos (show (if false = true then (1 : Int32) else 0) = 0 from rfl), nI_p1]; exact hz
      | true =>
        rw [rs1_t c1 c2] at nx
        by_cases h0 : s.1 = 0
        · rw [if_pos h0] at nx
          have hlen : s.2.length = 0 := by
            rcases hk.2 with ⟨-, e⟩ | ⟨e, -⟩
            · rw [e]; rfl
            · omega
          obtain ⟨g', r1, r2, r3⟩ := rowadd_M hRg g2 (by omega) ((nI x).toInt64)
          have hR' := only_refs r3 hRg
          obtain ⟨g'', s1, s2, s3⟩ := rowadd_M hR' r2 (by rw [List.length_append]; show s.2.length + 1 < 48; omega) ((nI i).toInt64)
          refine Or.inr ⟨(g'', s.1 + 1, s.2 ++ [(nI x).toInt64] ++ [(nI i).toInt64]), ⟨only_trans g1 (rowm_w (only_trans r3 s3)), s2, nx.symm⟩, fun z hz => ?_⟩
          show f_X11_rests_L37 LF (fu + 1) k90 g 73 v (nI s.1) (nI x) (nI i) = z
          unfold f_X11_rests_L37
          rw [if_neg n10, rest_M, c1, Option.bind_some, if_neg (show ¬ (if true = true then (1 : Int32) else 0) = 0 from i10), rest_M, c2, Option.bind_some, if_neg (show ¬ (if true = true then (1 : Int32) else 0) = 0 from i10), if_pos (by rw [h0]; rfl), if_pos iO_73, r1, Option.bind_some, s1, Option.bind_some, nI_p1, nI_p1]; exact hz
        · rw [if_neg h0] at nx
          have hk1 := hk.1
          refine Or.inr ⟨(g, s.1 + 1, s.2), ⟨g1, g2, nx.symm⟩, fun z hz => ?_⟩
          show f_X11_rests_L37 LF (fu + 1) k90 g 73 v (nI s.1) (nI x) (nI i) = z
          unfold f_X11_rests_L37
          rw [if_neg n10, rest_M, c1, Option.bind_some, if_neg (show ¬ (if true = true then (1 : Int32) else 0) = 0 from i10), rest_M, c2, Option.bind_some, if_neg (show ¬ (if true = true then (1 : Int32) else 0) = 0 from i10), if_neg (nI_ne0 (by omega) (by omega)), nI_p1, nI_p1]; exact hz
theorem rests_P {B : Nat} {h : eH} {X : AX} (hc : CI h X) (hm : MI h X) (ho : okX B X) (v : Int32) : PR B (f_X10_rests LF h 0 v) (fun h1 => f_X11_rests LF h1 73 v) := by
  have in9 : f_X11_in v.toInt64 1 99 = if v < 1 then 0 else if (99 : Int32) < v then 0 else 1 := in_lo v 99
  by_cases a3 : v < 1
  · refine PR_no hc hm ho (r := -1) ?_ (fun h1 hR h9 => ?_)
    · unfold f_X10_rests; rw [if_pos a3]
    · show f_X11_rests LF h1 73 v = _
      unfold f_X11_rests; rw [if_pos iO_73, in9, if_pos a3, if_pos rfl]
  by_cases a4 : v ≤ 99
  · have n9 : ¬ f_X11_in v.toInt64 1 99 = 0 := by rw [in9, if_neg a3, if_neg (show ¬ (99 : Int32) < v by rw [fa_le] at a4; rw [fa_lt]; omega)]; exact i10
    have hk := rsO_ok (v := v) 10
    refine PR_q hc hm ho (r := nI (rsO v 10).1) (l := (rsO v 10).2) (by rcases hk.2 with ⟨-, e⟩ | ⟨-, e⟩; rw [e]; exact Nat.zero_le _; omega) ?_ (fun h1 hR h9 => ?_)
    · obtain ⟨b1, b2⟩ := rowbeg_C h
      have hRb : RefsOK (sI h 3 1 0) := refs_sI hc.1
      have obb : only cscW h (sI h 3 1 0) := row_w (only_sI (Or.inl rfl))
      unfold f_X10_rests
      rw [if_neg a3, if_pos a4, if_pos iO_0, r_0_1 hc.1, Option.bind_some, if_pos iO_3, b1, Option.bind_some]
      have main : ∀ (m i fu : Nat) (g : eH), i + m = 10 → m < fu → only cscW h g → CW g (rsO v i).2 → ∃ h1, f_X10_rests_L24 LF fu (fun (h27 : eH) (w2_28 : Int32) => some (h27, w2_28)) g 0 v (nI (rsO v i).1) (nI i) = some (h1, nI (rsO v 10).1) ∧ CW h1 (rsO v 10).2 ∧ only cscW h h1 := by
        intro m
        induction m with
        | zero =>
          intro i fu g hi hf o1 o2
          obtain ⟨f, rfl⟩ : ∃ f, fu = f + 1 := ⟨fu - 1, by omega⟩
          have : i = 10 := by omega
          subst this
          refine ⟨g, ?_, o2, o1⟩
          unfold f_X10_rests_L24
          rw [if_pos (by decide)]
        | succ m ih =>
          intro i fu g hi hf o1 o2
          obtain ⟨f, rfl⟩ : ∃ f, fu = f + 1 := ⟨fu - 1, by omega⟩
          unfold f_X10_rests_L24
          rw [if_neg (show ¬ (10 : Int32) ≤ nI i from nI_ge (b := 10) (by omega) (by decide))]
          refine rests_C1 (P := fun r => ∃ h1, r = some (h1, nI (rsO v 10).1) ∧ CW h1 (rsO v 10).2 ∧ only cscW h h1) hc.1 (rsO_ok (v := v) i) (by omega) o1 o2 (fun g' p1 p2 => ?_)
          show ∃ h1, f_X10_rests_L24 LF f (fun (h27 : eH) (w2_28 : Int32) => some (h27, w2_28)) g' 0 v (nI (rsI v i (rsO v i) 10).1) (nI i + Int32.ofInt 1) = _ ∧ _
          rw [nI_p1]
          exact ih (i + 1) f g' (by omega) (by omega) p1 p2
      exact main 10 0 e_fu _ rfl (by unfold e_fu; omega) obb b2
    · have hR0 : RefsOK (sI h1 73 0 0) := refs_sI hR
      have obb : only mscW h1 (sI (sI h1 73 0 0) 73 1 0) := only_trans (msc_w thr_M) (rowm_w (only_sI (Or.inl ⟨rfl, rfl⟩)))
      show ∃ h2, f_X11_rests LF h1 73 v = _ ∧ _
      unfold f_X11_rests
      rw [if_pos iO_73, if_neg n9]
      have main : ∀ (m i fu : Nat) (g : eH), i + m = 10 → m < fu → only mscW h1 g → MW g (rsO v i).2 → ∃ h2, f_X11_rests_L28 LF fu (fun (h16 : eH) (w2_17 : Int32) => some (h16, w2_17)) g 73 v (nI (rsO v i).1) (nI i) = some (h2, nI (rsO v 10).1) ∧ MW h2 (rsO v 10).2 ∧ only mscW h1 h2 := by
        intro m
        induction m with
        | zero =>
          intro i fu g hi hf o1 o2
          obtain ⟨f, rfl⟩ : ∃ f, fu = f + 1 := ⟨fu - 1, by omega⟩
          have : i = 10 := by omega
          subst this
          refine ⟨g, ?_, o2, o1⟩
          unfold f_X11_rests_L28
          rw [if_pos (by decide)]
        | succ m ih =>
          intro i fu g hi hf o1 o2
          obtain ⟨f, rfl⟩ : ∃ f, fu = f + 1 := ⟨fu - 1, by omega⟩
          unfold f_X11_rests_L28
          rw [if_neg (show ¬ (9 : Int32) < nI i from nI_nlt (a := 9) (by omega) (by decide))]
          refine rests_M1 (P := fun r => ∃ h2, r = some (h2, nI (rsO v 10).1) ∧ MW h2 (rsO v 10).2 ∧ only mscW h1 h2) hR (rsO_ok (v := v) i) (by omega) o1 o2 (fun g' p1 p2 => ?_)
          show ∃ h2, f_X11_rests_L28 LF f (fun (h16 : eH) (w2_17 : Int32) => some (h16, w2_17)) g' 73 v (nI (rsI v i (rsO v i) 10).1) (nI i + Int32.ofInt 1) = _ ∧ _
          rw [nI_p1]
          exact ih (i + 1) f g' (by omega) (by omega) p1 p2
      exact main 10 0 e_fu _ rfl (by unfold e_fu; omega) obb (rowbeg_M _)
  · refine PR_no hc hm ho (r := -1) ?_ (fun h1 hR h9 => ?_)
    · unfold f_X10_rests; rw [if_neg a3, if_neg a4]
    · show f_X11_rests LF h1 73 v = _
      unfold f_X11_rests; rw [if_pos iO_73, in9, if_neg a3, if_pos (show (99 : Int32) < v by rw [fa_le] at a4; rw [fa_lt]; omega), if_pos rfl]

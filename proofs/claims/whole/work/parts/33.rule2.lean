/-! The rule's reckoning in the class. -/
theorem m1I (n : Nat) : nI (n + 1) + Int32.ofInt (-1) = nI n := by rw [show Int32.ofInt (-1) = (-1 : Int32) by decide]; exact pk_m1 n
theorem stL_ne {s : Nat} (hs : s ∈ stL) : s < 58 := by have := st_lo s hs; omega
theorem askA_0 {F : FV} {S : Nat → Int32} {bu : Nat} (h : S 77 = nI bu) (hb : bu < 2 ^ 31) : askA F S 0 = nI (bu % 8) := by
  show S 77 - S 77 / 8 * 8 = _
  rw [h]; exact pk_rem (d := 8) hb (by decide) (by decide)
theorem thing_A {h : eH} {s p B : Nat} {F : FV} {S : Nat → Int32} (hF : okF F) (hR : RefsOK h) (hs : s ∈ stL) (hc : CF h p F) (hS : CS h s S) (ho : okA F B S) (hB : B < 2 ^ 31) {i : Nat} (hi : i < 5) : f_X4_thing LF h (-(ccA (1000 + i))) s p = some (askA F S i) := by
  obtain ⟨⟨sp, a1, a2, a3, a4⟩, ⟨hd, b1, b2⟩, ⟨cu, c1, c2⟩, ⟨bu, d1, d2⟩, e1, g1⟩ := ho
  have s1 : gI h s 1 = nI sp := (hS.2.2.1 1 (by omega) (by omega)).trans a4
  have s2 : gI h s 2 = nI hd := (hS.2.2.1 2 (by omega) (by omega)).trans b2
  have s6 : gI h s 6 = nI bu := (hS.2.2.1 6 (by omega) (by omega)).trans d2
  unfold f_X4_thing
  have : i = 0 ∨ i = 1 ∨ i = 2 ∨ i = 3 ∨ i = 4 := by omega
  rcases this with rfl | rfl | rfl | rfl | rfl
  · rw [show -(ccA (1000 + 0)) = 98 by decide +kernel, if_pos rfl, if_pos (st_O s hs), s6, askA_0 d2 (by omega)]
    exact congrArg some (pk_andN (by omega) 3 (by decide))
  · rw [show -(ccA (1000 + 1)) = 104 by decide +kernel, if_neg (by decide), if_pos rfl, if_pos (st_O s hs), s2, ← b2]; rfl
  · rw [show -(ccA (1000 + 2)) = 115 by decide +kernel, if_neg (by decide), if_neg (by decide), if_neg (by decide), if_pos rfl, if_pos (st_O s hs), s1, ← a4]; rfl
  · rw [show -(ccA (1000 + 3)) = 114 by decide +kernel, if_neg (by decide), if_neg (by decide), if_pos rfl, if_pos (p_O hc), if_pos (st_O s hs), s1, holds_k _ a1, hc.2.2.2.2.2.2.2.1]
    show some (f_X10_oneIf _) = some (if kF F (S 72).toNatClampNeg = 2 then 1 else 0)
    rw [a4, nI_clamp (by omega)]
    by_cases hk : kF F sp = 2
    · rw [if_pos hk, decide_eq_true hk]; rfl
    · rw [if_neg hk, decide_eq_false hk]; rfl
  · rw [show -(ccA (1000 + 4)) = 100 by decide +kernel, if_neg (by decide), if_neg (by decide), if_neg (by decide), if_neg (by decide), if_pos (st_O s hs), s1]
    unfold f_X6_dustAt
    rw [if_neg (nI_pos (by omega)), if_neg (show ¬ (36 : Int32) ≤ nI sp from nI_ge (b := 36) a1 (by decide)), if_pos (st_O s hs), st_ref hR hs, Option.bind_some, inA_of (st_sh s hs).2 (st_sh s hs).1, if_pos (in_nI a1 (by decide)), nI_clamp (by omega), Option.bind_some, hS.1 sp a1]
    show _ = some (S (S 72).toNatClampNeg)
    rw [a4, nI_clamp (by omega)]
theorem turn_loop {k155 : eH → Nat → Option (eH × Int32)} {q n s p B : Nat} {c : Nat → Nat} {F : FV} {S : Nat → Int32} (hF : okF F) (hw : okR n c) (hs : s ∈ stL) (ho : okA F B S) (hB : B < 2 ^ 31) : ∀ (m i fu : Nat) (h : eH), i + m = n → RefsOK h → CR h q n c → CF h p F → CS h s S → (∀ k, k < dpN c i → gI h (q + 2) k = (rsN (askA F S) c i).2 k) → ∃ h', f_X4_turnOf_L5 LF (fu + m + 1) k155 h q s p (nI (dpN c i)) (nI i) = k155 h' q ∧ only (fun j _ => j = q + 2) h h' ∧ ∀ k, k < dpN c n → gI h' (q + 2) k = (rsN (askA F S) c n).2 k := by
  intro m
  induction m with
  | zero =>
    intro i fu h hi hR hq hp hS hst
    have : i = n := by omega
    subst this
    refine ⟨h, ?_, only_rfl, hst⟩
    unfold f_X4_turnOf_L5
    rw [if_pos (q_O hq.1), hq.2.2.2.1, if_pos (nI_le (Nat.le_refl i) (by have := hw.1; omega))]
  | succ m ih =>
    intro i fu h hi hR hq hp hS hst
    have hn := hw.1
    have hd := dpN_le (c := c) i
    obtain ⟨w1, w2, w3⟩ := hw.2.1 i (by omega)
    have hr1 := rsN_1 (ask := askA F S) (c := c) i
    have hsl := stL_ne hs
    have hq1 := hq.1
    -- one place of the stack is written
    have go : ∀ (d : Nat) (v : Int32), dpN c (i + 1) = d → (∀ k, k < d → gI (sI h (q + 2) (d - 1) v) (q + 2) k = (rsN (askA F S) c (i + 1)).2 k) → ∃ h', f_X4_turnOf_L5 LF (fu + m + 1) k155 (sI h (q + 2) (d - 1) v) q s p (nI d) (nI (i + 1)) = k155 h' q ∧ only (fun j _ => j = q + 2) h h' ∧ ∀ k, k < dpN c n → gI h' (q + 2) k = (rsN (askA F S) c n).2 k := by
      intro d v hd2 hv
      have o1 : only (fun j _ => j = q + 2) h (sI h (q + 2) (d - 1) v) := only_sI rfl
      subst hd2
      obtain ⟨h', x1, x2, x3⟩ := ih (i + 1) fu (sI h (q + 2) (dpN c (i + 1) - 1) v) (by omega) (refs_sI hR) (CR_only o1 (fun j k hj e => by omega) hq) (CF_only o1 (fun j k a b e => by omega) hp) (CS_only o1 (fun k => ⟨by omega, by omega⟩) hS) hv
      exact ⟨h', x1, only_trans o1 x2, x3⟩
    have hcode : gI h (q + 1) i = ccA (c i) := hq.2.2.2.2 i (by omega)
    unfold f_X4_turnOf_L5
    rw [if_pos (q_O hq.1), hq.2.2.2.1, if_neg (show ¬ nI n ≤ nI i from nI_ge (by omega) (by omega)), if_neg (show ¬ (40 : Int32) ≤ nI i from nI_ge (b := 40) (by omega) (by decide)), (q_c hR hq.1).1, Option.bind_some, (q_A hq.1 _).1, if_pos (in_nI (by omega) (by decide)), nI_clamp (by omega), hcode]
    rcases w1 with hc | ⟨hc1, hc2⟩ | ⟨hc1, hc2⟩ | hc
    · have e1 : dpN c (i + 1) = dpN c i + 1 := by show (if c i = 3000 then dpN c i else if c i < 2000 then dpN c i + 1 else dpN c i - 1) = _; rw [if_neg (by omega), if_pos (by omega)]
      rw [cc_num hc, if_pos (nI_pos' (by omega))]
      unfold f_X4_turnOf_J44
      rw [if_neg (show ¬ (40 : Int32) ≤ nI (dpN c i) from nI_ge (b := 40) (by omega) (by decide)), if_pos (q_O hq.1), (q_c hR hq.1).2, Option.bind_some, if_neg (nI_pos (by omega)), (q_A hq.1 _).2, if_pos (in_nI (by omega) (by decide)), nI_clamp (by omega), nI_p1, nI_p1]
      refine go (dpN c i + 1) (nI (c i)) e1 (fun k hk => ?_)
      show _ = (rsp (askA F S) (c i) (rsN (askA F S) c i)).2 k
      unfold rsp
      rw [if_neg (by omega), if_pos hc, gI_sI, hr1]
      by_cases hk2 : k = dpN c i
      · subst hk2; rw [if_pos ⟨rfl, rfl⟩]; exact pk_us.symm
      · rw [if_neg (by omega), hst k (by omega)]; exact (pk_un hk2).symm
    · have e1 : dpN c (i + 1) = dpN c i + 1 := by show (if c i = 3000 then dpN c i else if c i < 2000 then dpN c i + 1 else dpN c i - 1) = _; rw [if_neg (by omega), if_pos (by omega)]
      obtain ⟨t, ht⟩ : ∃ t, c i = 1000 + t := ⟨c i - 1000, by omega⟩
      obtain ⟨y1, y2, y3⟩ := cc_thing t (by omega)
      rw [ht, if_neg y1, if_neg y3]
      unfold f_X4_turnOf_J44
      rw [if_neg (show ¬ (40 : Int32) ≤ nI (dpN c i) from nI_ge (b := 40) (by omega) (by decide)), if_pos (q_O hq.1), (q_c hR hq.1).2, Option.bind_some, if_pos y2, thing_A hF hR hs hp hS ho hB (by omega), Option.bind_some, (q_A hq.1 _).2, if_pos (in_nI (by omega) (by decide)), nI_clamp (by omega), nI_p1, nI_p1]
      refine go (dpN c i + 1) (askA F S t) e1 (fun k hk => ?_)
      show _ = (rsp (askA F S) (c i) (rsN (askA F S) c i)).2 k
      unfold rsp
      rw [if_neg (by omega), if_neg (by omega), if_pos (by omega), gI_sI, hr1, ht, Nat.add_sub_cancel_left]
      by_cases hk2 : k = dpN c i
      · subst hk2; rw [if_pos ⟨rfl, rfl⟩]; exact pk_us.symm
      · rw [if_neg (by omega), hst k (by omega)]; exact (pk_un hk2).symm
    · obtain ⟨e, he⟩ : ∃ e, dpN c i = e + 2 := ⟨dpN c i - 2, by have := w3 hc1 (by omega); omega⟩
      have e1 : dpN c (i + 1) = e + 1 := by show (if c i = 3000 then dpN c i else if c i < 2000 then dpN c i + 1 else dpN c i - 1) = _; rw [if_neg (by omega), if_neg (by omega)]; omega
      obtain ⟨t, ht⟩ : ∃ t, c i = 2000 + t := ⟨c i - 2000, by omega⟩
      obtain ⟨y1, y2, y3⟩ := cc_act t (by omega)
      rw [ht, if_neg y1, if_pos y2, if_neg y3, he, if_neg (show ¬ nI (e + 2) < 2 from nI_nlt (b := 2) (by omega) (by omega)), (q_c hR hq.1).2, Option.bind_some, Option.bind_some, Option.bind_some, show e + 2 = (e + 1) + 1 from rfl, m1I, nI_pred, (q_A hq.1 _).2, if_pos (in_nI (by omega) (by decide)), (q_A hq.1 _).2, if_pos (in_nI (by omega) (by decide)), reck_w t (by omega), Option.bind_some, if_pos (in_nI (by omega) (by decide)), nI_clamp (n := e) (by omega), nI_clamp (n := e + 1) (by omega), Option.bind_some, nI_p1]
      refine go (e + 1) (wkA t (gI h (q + 2) e) (gI h (q + 2) (e + 1))) e1 (fun k hk => ?_)
      show _ = (rsp (askA F S) (c i) (rsN (askA F S) c i)).2 k
      unfold rsp
      rw [if_neg (by omega), if_neg (by omega), if_neg (by omega), gI_sI, hr1, ht, Nat.add_sub_cancel_left, he, show e + 2 - 2 = e by omega, show e + 2 - 1 = e + 1 by omega, hst e (by omega), hst (e + 1) (by omega)]
      by_cases hk2 : k = e
      · subst hk2; rw [if_pos ⟨rfl, rfl⟩]; exact pk_us.symm
      · rw [if_neg (by omega), hst k (by omega)]; exact (pk_un hk2).symm
    · obtain ⟨e, he⟩ : ∃ e, dpN c i = e + 1 := ⟨dpN c i - 1, by have := w2 hc; omega⟩
      have e1 : dpN c (i + 1) = e + 1 := by show (if c i = 3000 then dpN c i else if c i < 2000 then dpN c i + 1 else dpN c i - 1) = _; rw [if_pos hc]; exact he
      obtain ⟨y1, y2, y3⟩ := cc_neg
      rw [hc, if_neg y1, if_pos y2, if_pos y3, he, if_neg (show ¬ nI (e + 1) < 1 from nI_nlt (b := 1) (by omega) (by omega)), (q_c hR hq.1).2, Option.bind_some, Option.bind_some, nI_pred, (q_A hq.1 _).2, if_pos (in_nI (by omega) (by decide)), if_pos (in_nI (by omega) (by decide)), nI_clamp (n := e) (by omega), Option.bind_some, nI_p1]
      refine go (e + 1) (-(gI h (q + 2) e)) e1 (fun k hk => ?_)
      show _ = (rsp (askA F S) (c i) (rsN (askA F S) c i)).2 k
      unfold rsp
      rw [if_pos hc, gI_sI, hr1, he, show e + 1 - 1 = e by omega, hst e (by omega)]
      by_cases hk2 : k = e
      · subst hk2; rw [if_pos ⟨rfl, rfl⟩]; exact pk_us.symm
      · rw [if_neg (by omega), hst k (by omega)]; exact (pk_un hk2).symm
/-- the class's turn by the rule -/
theorem turn_C {h : eH} {q n s p B : Nat} {c : Nat → Nat} {F : FV} {S : Nat → Int32} (hF : okF F) (hw : okR n c) (hs : s ∈ stL) (ho : okA F B S) (hB : B < 2 ^ 31) (hR : RefsOK h) (hq : CR h q n c) (hp : CF h p F) (hS : CS h s S) : ∃ h', f_X4_turnOf LF h q s p = some (h', rvA n c (askA F S)) ∧ only (fun j _ => j = q + 2) h h' := by
  have hn := hw.1
  obtain ⟨fu, hfu⟩ := fu_s n (by omega)
  obtain ⟨h', x1, x2, x3⟩ := turn_loop (k155 := fun (h33 : eH) (w0_34 : Nat) => f_X4_turnOf_J155 LF h33 w0_34) hF hw hs ho hB n 0 fu h (by omega) hR hq hp hS (fun k hk => absurd hk (Nat.not_lt_zero k))
  have o1 := only_refs x2 hR
  have hq1 := hq.1
  have hl : gI h' q 2 = nI n := (x2.1 _ _ (by omega)).1.trans hq.2.2.2.1
  refine ⟨h', ?_, x2⟩
  unfold f_X4_turnOf
  rw [hfu]
  refine Eq.trans x1 ?_
  show f_X4_turnOf_J155 LF h' q = _
  unfold f_X4_turnOf_J155 rvA
  rw [if_pos (q_O hq.1), hl]
  by_cases h0 : n = 0
  · subst h0
    rw [if_pos nI_0, if_pos rfl]; rfl
  · rw [if_neg (nI_ne0 (by omega) (by omega)), if_neg h0, (q_c o1 hq.1).2, Option.bind_some, (q_A hq.1 _).2, if_pos (by decide)]
    have e := x3 0 (by have := hw.2.2 (by omega); omega)
    rw [show (0 : Int32).toNatClampNeg = 0 by decide, e]
    unfold f_X4_turnOf_J174 rmA
    split <;> rfl

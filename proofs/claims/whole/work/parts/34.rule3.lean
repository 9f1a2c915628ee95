/-! The rule's reckoning in the reference. -/
theorem ruled_loop {k125 : eH → Nat → Option (eH × Int32)} {n : Nat} {c : Nat → Nat} {ask : Nat → Int32} (hw : okR n c) : ∀ (m i fu : Nat) (h : eH), i + m = n → RefsOK h → MR h n c → (∀ j, j < 5 → gI h 83 j = ask j) → (∀ k, k < dpN c i → gI h 82 k = (rsN ask c i).2 k) → ∃ h', f_X11_ruled_L4 LF (fu + m + 1) k125 h 73 (nI (dpN c i)) (nI i) = k125 h' 73 ∧ only (fun j _ => j = 82) h h' ∧ ∀ k, k < dpN c n → gI h' 82 k = (rsN ask c n).2 k := by
  intro m
  induction m with
  | zero =>
    intro i fu h hi hR hq ha hst
    have : i = n := by omega
    subst this
    refine ⟨h, ?_, only_rfl, hst⟩
    unfold f_X11_ruled_L4
    rw [if_pos iO_73, hq.1, if_pos (nI_le (Nat.le_refl i) (by have := hw.1; omega))]
  | succ m ih =>
    intro i fu h hi hR hq ha hst
    have hn := hw.1
    have hd := dpN_le (c := c) i
    obtain ⟨w1, w2, w3⟩ := hw.2.1 i (by omega)
    have hr1 := rsN_1 (ask := ask) (c := c) i
    have go : ∀ (d : Nat) (v : Int32), dpN c (i + 1) = d → (∀ k, k < d → gI (sI h 82 (d - 1) v) 82 k = (rsN ask c (i + 1)).2 k) → ∃ h', f_X11_ruled_L4 LF (fu + m + 1) k125 (sI h 82 (d - 1) v) 73 (nI d) (nI (i + 1)) = k125 h' 73 ∧ only (fun j _ => j = 82) h h' ∧ ∀ k, k < dpN c n → gI h' 82 k = (rsN ask c n).2 k := by
      intro d v hd2 hv
      have o1 : only (fun j _ => j = 82) h (sI h 82 (d - 1) v) := only_sI rfl
      subst hd2
      obtain ⟨h', x1, x2, x3⟩ := ih (i + 1) fu (sI h 82 (dpN c (i + 1) - 1) v) (by omega) (refs_sI hR) (MR_only o1 (by omega) (fun k => by omega) hq) (fun j hj => (o1.1 83 j (by omega)).1.trans (ha j hj)) hv
      exact ⟨h', x1, only_trans o1 x2, x3⟩
    have hcode : gI h 80 i = nI (c i) := hq.2 i (by omega)
    unfold f_X11_ruled_L4
    rw [if_pos iO_73, hq.1, if_neg (show ¬ nI n ≤ nI i from nI_ge (by omega) (by omega)), r_73_17 hR, Option.bind_some, iA_80, if_pos (in_nI (by omega) (by decide)), nI_clamp (by omega), hcode]
    rcases w1 with hc | ⟨hc1, hc2⟩ | ⟨hc1, hc2⟩ | hc
    · have e1 : dpN c (i + 1) = dpN c i + 1 := by show (if c i = 3000 then dpN c i else if c i < 2000 then dpN c i + 1 else dpN c i - 1) = _; rw [if_neg (by omega), if_pos (by omega)]
      rw [if_neg (fun q => by have := nI_inj (by omega) (show (3000 : Nat) < 2 ^ 31 by decide) q; omega), if_pos (show nI (c i) < 2000 from nI_lt (b := 2000) (by omega) (by decide)), r_73_21 hR, Option.bind_some, if_pos (show nI (c i) < 1000 from nI_lt (b := 1000) (by omega) (by decide)), iA_82, if_pos (in_nI (by omega) (by decide)), nI_clamp (by omega), Option.bind_some, nI_p1, nI_p1]
      refine go (dpN c i + 1) (nI (c i)) e1 (fun k hk => ?_)
      show _ = (rsp ask (c i) (rsN ask c i)).2 k
      unfold rsp
      rw [if_neg (by omega), if_pos hc, gI_sI, hr1]
      by_cases hk2 : k = dpN c i
      · subst hk2; rw [if_pos ⟨rfl, rfl⟩]; exact pk_us.symm
      · rw [if_neg (by omega), hst k (by omega)]; exact (pk_un hk2).symm
    · have e1 : dpN c (i + 1) = dpN c i + 1 := by show (if c i = 3000 then dpN c i else if c i < 2000 then dpN c i + 1 else dpN c i - 1) = _; rw [if_neg (by omega), if_pos (by omega)]
      obtain ⟨t, ht⟩ : ∃ t, c i = 1000 + t := ⟨c i - 1000, by omega⟩
      have et : nI (1000 + t) - 1000 = nI t := by have := pk_sub (show 1000 ≤ 1000 + t by omega); rw [Nat.add_sub_cancel_left] at this; exact this
      rw [if_neg (fun q => by have := nI_inj (by omega) (show (3000 : Nat) < 2 ^ 31 by decide) q; omega), if_pos (show nI (c i) < 2000 from nI_lt (b := 2000) (by omega) (by decide)), r_73_21 hR, Option.bind_some, if_neg (show ¬ nI (c i) < 1000 from nI_nlt (b := 1000) (by omega) (by omega)), r_73_22 hR, Option.bind_some, ht, et, iA_83, if_pos (in_nI (by omega) (by decide)), iA_82, if_pos (in_nI (by omega) (by decide)), nI_clamp (n := dpN c i) (by omega), nI_clamp (n := t) (by omega), Option.bind_some, nI_p1, nI_p1, ha t (by omega)]
      refine go (dpN c i + 1) (ask t) e1 (fun k hk => ?_)
      show _ = (rsp ask (c i) (rsN ask c i)).2 k
      unfold rsp
      rw [if_neg (by omega), if_neg (by omega), if_pos (by omega), gI_sI, hr1, ht, Nat.add_sub_cancel_left]
      by_cases hk2 : k = dpN c i
      · subst hk2; rw [if_pos ⟨rfl, rfl⟩]; exact pk_us.symm
      · rw [if_neg (by omega), hst k (by omega)]; exact (pk_un hk2).symm
    · obtain ⟨e, he⟩ : ∃ e, dpN c i = e + 2 := ⟨dpN c i - 2, by have := w3 hc1 (by omega); omega⟩
      have e1 : dpN c (i + 1) = e + 1 := by show (if c i = 3000 then dpN c i else if c i < 2000 then dpN c i + 1 else dpN c i - 1) = _; rw [if_neg (by omega), if_neg (by omega)]; omega
      obtain ⟨t, ht⟩ : ∃ t, c i = 2000 + t := ⟨c i - 2000, by omega⟩
      have et : nI (2000 + t) - 2000 = nI t := by have := pk_sub (show 2000 ≤ 2000 + t by omega); rw [Nat.add_sub_cancel_left] at this; exact this
      rw [if_neg (fun q => by have := nI_inj (by omega) (show (3000 : Nat) < 2 ^ 31 by decide) q; omega), if_neg (show ¬ nI (c i) < 2000 from nI_nlt (b := 2000) (by omega) (by omega)), r_73_21 hR, Option.bind_some, Option.bind_some, Option.bind_some, ht, et, he, show e + 2 = (e + 1) + 1 from rfl, m1I, nI_pred, iA_82, if_pos (in_nI (by omega) (by decide)), iA_82, if_pos (in_nI (by omega) (by decide)), work_w t (by omega), Option.bind_some, if_pos (in_nI (by omega) (by decide)), nI_clamp (n := e) (by omega), nI_clamp (n := e + 1) (by omega), Option.bind_some, nI_p1]
      refine go (e + 1) (wkA t (gI h 82 e) (gI h 82 (e + 1))) e1 (fun k hk => ?_)
      show _ = (rsp ask (c i) (rsN ask c i)).2 k
      unfold rsp
      rw [if_neg (by omega), if_neg (by omega), if_neg (by omega), gI_sI, hr1, ht, Nat.add_sub_cancel_left, he, show e + 2 - 2 = e by omega, show e + 2 - 1 = e + 1 by omega, hst e (by omega), hst (e + 1) (by omega)]
      by_cases hk2 : k = e
      · subst hk2; rw [if_pos ⟨rfl, rfl⟩]; exact pk_us.symm
      · rw [if_neg (by omega), hst k (by omega)]; exact (pk_un hk2).symm
    · obtain ⟨e, he⟩ : ∃ e, dpN c i = e + 1 := ⟨dpN c i - 1, by have := w2 hc; omega⟩
      have e1 : dpN c (i + 1) = e + 1 := by show (if c i = 3000 then dpN c i else if c i < 2000 then dpN c i + 1 else dpN c i - 1) = _; rw [if_pos hc]; exact he
      rw [hc, if_pos (show nI 3000 = 3000 from rfl), r_73_21 hR, Option.bind_some, Option.bind_some, he, nI_pred, iA_82, if_pos (in_nI (by omega) (by decide)), if_pos (in_nI (by omega) (by decide)), nI_clamp (n := e) (by omega), Option.bind_some, nI_p1]
      refine go (e + 1) (-(gI h 82 e)) e1 (fun k hk => ?_)
      show _ = (rsp ask (c i) (rsN ask c i)).2 k
      unfold rsp
      rw [if_pos hc, gI_sI, hr1, he, show e + 1 - 1 = e by omega, hst e (by omega)]
      by_cases hk2 : k = e
      · subst hk2; rw [if_pos ⟨rfl, rfl⟩]; exact pk_us.symm
      · rw [if_neg (by omega), hst k (by omega)]; exact (pk_un hk2).symm
theorem ruled_M {h : eH} {n : Nat} {c : Nat → Nat} {ask : Nat → Int32} (hw : okR n c) (hR : RefsOK h) (hq : MR h n c) (ha : ∀ j, j < 5 → gI h 83 j = ask j) : ∃ h', f_X11_ruled LF h 73 = some (h', if n = 0 then 1 else (rsN ask c n).2 0) ∧ only (fun j _ => j = 82) h h' := by
  have hn := hw.1
  obtain ⟨fu, hfu⟩ := fu_s n (by omega)
  unfold f_X11_ruled
  rw [hfu]
  obtain ⟨h', x1, x2, x3⟩ := ruled_loop (k125 := fun (h37 : eH) (w0_38 : Nat) =>
    if isO LF w0_38 11 = true then
    if (gI h37 w0_38 19) = 0 then
      some (h37, 1)
    else
      (gR h37 w0_38 21).bind fun b40 =>
      if inA LF b40 0 0 = true then
      some (h37, gI h37 b40 (0 : Int32).toNatClampNeg)
      else none
    else none) hw n 0 fu h (by omega) hR hq ha (fun k hk => absurd hk (Nat.not_lt_zero k))
  have o1 := only_refs x2 hR
  have hl : gI h' 73 19 = nI n := (x2.1 _ _ (by omega)).1.trans hq.1
  refine ⟨h', ?_, x2⟩
  refine Eq.trans x1 ?_
  show (if isO LF 73 11 = true then if gI h' 73 19 = 0 then some (h', 1) else (gR h' 73 21).bind fun b40 => if inA LF b40 0 0 = true then some (h', gI h' b40 (0 : Int32).toNatClampNeg) else none else none) = _
  rw [if_pos iO_73, hl]
  by_cases h0 : n = 0
  · subst h0
    rw [if_pos nI_0, if_pos rfl]
  · rw [if_neg (nI_ne0 (by omega) (by omega)), if_neg h0, r_73_21 o1, Option.bind_some, iA_82, if_pos (by decide), show (0 : Int32).toNatClampNeg = 0 by decide, x3 0 (by have := hw.2.2 (by omega); omega)]
theorem c72 : (72 : Int32).toNatClampNeg = 72 := by decide
theorem c73 : (73 : Int32).toNatClampNeg = 73 := by decide
theorem c74 : (74 : Int32).toNatClampNeg = 74 := by decide
theorem c75 : (75 : Int32).toNatClampNeg = 75 := by decide
theorem c76 : (76 : Int32).toNatClampNeg = 76 := by decide
theorem c77 : (77 : Int32).toNatClampNeg = 77 := by decide
theorem c78 : (78 : Int32).toNatClampNeg = 78 := by decide
theorem iM {a : Nat} (ha : a = 76 ∨ a = 77) : inA LF a 0 72 = true ∧ inA LF a 0 73 = true ∧ inA LF a 0 74 = true ∧ inA LF a 0 75 = true ∧ inA LF a 0 76 = true ∧ inA LF a 0 77 = true ∧ inA LF a 0 78 = true := by
  rcases ha with rfl | rfl <;> decide
theorem i83 : inA LF 83 0 0 = true ∧ inA LF 83 0 1 = true ∧ inA LF 83 0 2 = true ∧ inA LF 83 0 3 = true ∧ inA LF 83 0 4 = true := by decide
/-- the turn: told by the fixed turn, or by the rule -/
def tnA (F : FV) (n : Nat) (c : Nat → Nat) (ft : Int32) (S : Nat → Int32) : Int32 := if ft < 0 then rvA n c (askA F S) else ft
theorem turn_M {h : eH} {n a B : Nat} {c : Nat → Nat} {F : FV} {S : Nat → Int32} {ft : Int32} (hF : okF F) (hw : okR n c) (ha : a = 76 ∨ a = 77) (ho : okA F B S) (hR : RefsOK h) (hq : MR h n c) (hm : MF h F) (hS : MS h a 0 S) (hft : gI h 73 23 = ft) : ∃ h', f_X11_turnOf LF h 73 a = some (h', tnA F n c ft S) ∧ only (fun j _ => j = 82 ∨ j = 83) h h' := by
  unfold f_X11_turnOf tnA
  rw [if_pos iO_73, hft]
  by_cases hf : ft < 0
  · obtain ⟨⟨sp, a1, a2, a3, a4⟩, ⟨hd, b1, b2⟩, -, ⟨bu, d1, d2⟩, e1, g1⟩ := ho
    obtain ⟨i1, i2, -, -, -, i6, -⟩ := iM ha
    obtain ⟨j0, j1, j2, j3, j4⟩ := i83
    have m : ∀ k, k < 79 → gI h a k = S k := fun k hk => by have := hS k hk; rwa [Nat.zero_add] at this
    have m72 : gI h a 72 = nI sp := (m 72 (by omega)).trans a4
    have q0 : (0 : Int32).toNatClampNeg = 0 := by decide
    have q1 : (1 : Int32).toNatClampNeg = 1 := by decide
    have q2 : (2 : Int32).toNatClampNeg = 2 := by decide
    have q3 : (3 : Int32).toNatClampNeg = 3 := by decide
    have q4 : (4 : Int32).toNatClampNeg = 4 := by decide
    have ha83 : a ≠ 83 := by omega
    rw [if_pos hf, if_pos hf, if_pos i1, r_73_22 hR, Option.bind_some, if_pos i6, if_pos j0, Option.bind_some, gR_sI, r_73_22 hR, Option.bind_some, if_pos i2, if_pos j1, Option.bind_some, gR_sI, gR_sI, r_73_22 hR, Option.bind_some, if_pos j2, Option.bind_some, gR_sI, gR_sI, gR_sI, r_73_22 hR, Option.bind_some, gR_sI, gR_sI, gR_sI, r_73_6 hR, Option.bind_some, c72, c73, c77, m72, iA_75, if_pos (in_nI a1 (by decide)), nI_clamp (by omega)]
    have k75 : gI (sI (sI (sI h 83 (0 : Int32).toNatClampNeg (gI h a 77 - gI h a 77 / 8 * 8)) 83 (1 : Int32).toNatClampNeg (gI (sI h 83 (0 : Int32).toNatClampNeg (gI h a 77 - gI h a 77 / 8 * 8)) a 73)) 83 (2 : Int32).toNatClampNeg (nI sp)) 75 sp = nI (kF F sp) := by
      rw [gI_sI, if_neg (by omega), gI_sI, if_neg (by omega), gI_sI, if_neg (by omega)]; exact hm.2.2.2 sp a1
    rw [k75]
    -- the last entries, and the reckoning
    have fin : ∀ f : Int32, f = (if kF F sp = 2 then 1 else 0) → ∃ h', f_X11_turnOf_J67 LF (sI (sI (sI h 83 (0 : Int32).toNatClampNeg (gI h a 77 - gI h a 77 / 8 * 8)) 83 (1 : Int32).toNatClampNeg (gI (sI h 83 (0 : Int32).toNatClampNeg (gI h a 77 - gI h a 77 / 8 * 8)) a 73)) 83 (2 : Int32).toNatClampNeg (nI sp)) 73 a (nI sp) 83 3 f = some (h', rvA n c (askA F S)) ∧ only (fun j _ => j = 82 ∨ j = 83) h h' := by
      intro f hf2
      have ff : f_X11_flag f = f := by rw [hf2]; split <;> rfl
      unfold f_X11_turnOf_J67
      rw [if_pos j3, if_pos iO_73, gR_sI, gR_sI, gR_sI, gR_sI, r_73_22 hR, Option.bind_some, inA36 ha, if_pos (in_nI (by omega) (by decide)), if_pos j4, Option.bind_some, nI_clamp (by omega), q0, q1, q2, q3, q4, ff]
      have o0 : only (fun j _ => j = 82 ∨ j = 83) h (sI (sI (sI (sI (sI h 83 0 (gI h a 77 - gI h a 77 / 8 * 8)) 83 1 (gI (sI h 83 0 (gI h a 77 - gI h a 77 / 8 * 8)) a 73)) 83 2 (nI sp)) 83 3 f) 83 4 (gI (sI (sI (sI (sI h 83 0 (gI h a 77 - gI h a 77 / 8 * 8)) 83 1 (gI (sI h 83 0 (gI h a 77 - gI h a 77 / 8 * 8)) a 73)) 83 2 (nI sp)) 83 3 f) a sp)) := only_trans (only_sI (Or.inr rfl)) (only_trans (only_sI (Or.inr rfl)) (only_trans (only_sI (Or.inr rfl)) (only_trans (only_sI (Or.inr rfl)) (only_sI (Or.inr rfl)))))
      obtain ⟨h', x1, x2⟩ := ruled_M (ask := askA F S) hw (only_refs o0 hR) (MR_only o0 (by omega) (fun k => by omega) hq) (fun j hj => by
        have : j = 0 ∨ j = 1 ∨ j = 2 ∨ j = 3 ∨ j = 4 := by omega
        rcases this with rfl | rfl | rfl | rfl | rfl
        · rw [gI_sI, if_neg (by omega), gI_sI, if_neg (by omega), gI_sI, if_neg (by omega), gI_sI, if_neg (by omega), gI_sI, if_pos ⟨rfl, rfl⟩, m 77 (by omega)]; rfl
        · rw [gI_sI, if_neg (by omega), gI_sI, if_neg (by omega), gI_sI, if_neg (by omega), gI_sI, if_pos ⟨rfl, rfl⟩, gI_sI, if_neg (by omega), m 73 (by omega)]; rfl
        · rw [gI_sI, if_neg (by omega), gI_sI, if_neg (by omega), gI_sI, if_pos ⟨rfl, rfl⟩, ← a4]; rfl
        · rw [gI_sI, if_neg (by omega), gI_sI, if_pos ⟨rfl, rfl⟩, hf2]
          show _ = if kF F (S 72).toNatClampNeg = 2 then 1 else 0
          rw [a4, nI_clamp (by omega)]
        · rw [gI_sI, if_pos ⟨rfl, rfl⟩, gI_sI, if_neg (by omega), gI_sI, if_neg (by omega), gI_sI, if_neg (by omega), gI_sI, if_neg (by omega), m sp (by omega)]
          show _ = S (S 72).toNatClampNeg
          rw [a4, nI_clamp (by omega)])
      rw [x1, Option.bind_some]
      refine ⟨h', ?_, only_trans o0 (only_mono (fun j k hj => Or.inl hj) x2)⟩
      unfold rvA rmA
      generalize (if n = 0 then (1 : Int32) else (rsN (askA F S) c n).2 0) = x
      show (if 0 ≤ x - x / 4 * 4 then some (h', x - x / 4 * 4) else some (h', x - x / 4 * 4 + 4)) = _
      split <;> rfl
    by_cases hk : kF F sp = 2
    · rw [if_pos (by rw [hk]; rfl)]; exact fin 1 (by rw [if_pos hk])
    · rw [if_neg (show ¬ nI (kF F sp) = 2 from fun q => hk (nI_inj (by have := kF_le hF sp; omega) (by decide) q))]; exact fin 0 (by rw [if_neg hk])
  · rw [if_neg hf, if_neg hf]; exact ⟨h, rfl, only_rfl⟩

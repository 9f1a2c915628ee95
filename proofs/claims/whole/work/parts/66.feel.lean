/-! held, feel -/
theorem held_ML {P : Option (eH × Int32) → Prop} {k47 : eH → Nat → Int64 → Option (eH × Int32)} {g : eH} {Q : Nat → Nat → Bool} {W : Int64} (hR : RefsOK g) (hq : MQp g 92 Q) (far : ∀ d t, 36 ≤ t → Q d t = false) (hW : ∀ t, tb W t = (Q 0 t || Q 1 t || Q 2 t || Q 3 t)) (y : P (k47 g 73 W)) : P (f_X11_held_L13 LF e_fu k47 g 73 0 0) := by
  refine lpF (N := 144) (s := (0 : Int64)) (run := fun fu (q : Int64) i => f_X11_held_L13 LF fu k47 g 73 q (nI i)) (Inv := fun i q => ∀ t, tb q t = true ↔ ∃ p, p < i ∧ Q (p % 4) (p / 4) = true ∧ p / 4 = t) (Post := P) (by decide) (fun t => by rw [tb_0]; exact ⟨fun a => absurd a (by decide), fun ⟨p, a, _⟩ => absurd a (Nat.not_lt_zero p)⟩) ?_ ?_
  · rintro fu q hv
    have e : q = W := tb_ext (fun t _ => by
      rw [Bool.eq_iff_iff, hv t, hW t]
      constructor
      · rintro ⟨p, p1, p2, p3⟩
        subst p3
        rcases (show p % 4 = 0 ∨ p % 4 = 1 ∨ p % 4 = 2 ∨ p % 4 = 3 by omega) with e | e | e | e <;> rw [e] at p2 <;> simp [p2]
      · intro h
        have h36 : t < 36 := by
          rcases Nat.lt_or_ge t 36 with x | x
          · exact x
          · rw [far 0 t x, far 1 t x, far 2 t x, far 3 t x] at h; cases h
        have fin : ∀ d, d < 4 → Q d t = true → ∃ p, p < 144 ∧ Q (p % 4) (p / 4) = true ∧ p / 4 = t := fun d hd hq => ⟨4 * t + d, by omega, by rw [show (4 * t + d) % 4 = d by omega, show (4 * t + d) / 4 = t by omega]; exact hq, by omega⟩
        rw [Bool.or_eq_true, Bool.or_eq_true, Bool.or_eq_true] at h
        rcases h with ((h | h) | h) | h
        · exact fin 0 (by omega) h
        · exact fin 1 (by omega) h
        · exact fin 2 (by omega) h
        · exact fin 3 (by omega) h)
    subst e
    show P (f_X11_held_L13 LF (fu + 1) k47 g 73 q (nI 144))
    unfold f_X11_held_L13
    rw [if_pos (by decide)]
    exact y
  · rintro i fu q hi hv
    have n144 : ¬ (144 : Int32) ≤ nI i := nI_ge (b := 144) hi (by decide)
    have e92 := hq i hi
    cases hQ : Q (i % 4) (i / 4) with
    | false =>
      rw [hQ, if_neg (by decide)] at e92
      refine Or.inr ⟨q, fun t => ?_, fun z hz => ?_⟩
      · rw [hv t]
        constructor
        · rintro ⟨p, p1, p2⟩; exact ⟨p, by omega, p2⟩
        · rintro ⟨p, p1, p2, p3⟩
          by_cases e : p = i
          · subst e; rw [hQ] at p2; cases p2
          · exact ⟨p, by omega, p2, p3⟩
      · show f_X11_held_L13 LF (fu + 1) k47 g 73 q (nI i) = z
        unfold f_X11_held_L13
        rw [if_neg n144, if_pos iO_73, r_73_38 hR, Option.bind_some, iA_92, if_pos (in_nI hi (by decide)), nI_clamp (by omega), e92, if_pos rfl, or0, nI_p1]; exact hz
    | true =>
      rw [hQ, if_pos rfl] at e92
      refine Or.inr ⟨q ||| f_X10_bit (nI (i / 4)), fun t => ?_, fun z hz => ?_⟩
      · rw [tb_or, Bool.or_eq_true, hv t, bit_tb (by omega), decide_eq_true_iff]
        constructor
        · rintro (⟨p, p1, p2⟩ | e)
          · exact ⟨p, by omega, p2⟩
          · exact ⟨i, by omega, hQ, e.symm⟩
        · rintro ⟨p, p1, p2, p3⟩
          by_cases e : p = i
          · subst e; exact Or.inr p3.symm
          · exact Or.inl ⟨p, by omega, p2, p3⟩
      · show f_X11_held_L13 LF (fu + 1) k47 g 73 q (nI i) = z
        unfold f_X11_held_L13
        rw [if_neg n144, if_pos iO_73, r_73_38 hR, Option.bind_some, iA_92, if_pos (in_nI hi (by decide)), nI_clamp (by omega), e92, if_neg i10, (div4 i hi).1, sh1 (by omega), nI_p1]; exact hz
theorem MQ_only {W : Nat → Nat → Prop} {h h' : eH} {a : Nat} {Q : Nat → Nat → Bool} (o : only W h h') (hW : ∀ k, ¬ W a k) (hq : MQp h a Q) : MQp h' a Q := fun p hp => (o_I o (hW p)).trans (hq p hp)
theorem QC_only {W : Nat → Nat → Prop} {h h' : eH} {Q : Nat → Nat → Bool} (o : only W h h') (hW : ∀ k, ¬ W 42 k) (hq : QC h Q) : QC h' Q := fun d hd t => by rw [o_L o (hW d)]; exact hq d hd t
theorem held_P {B : Nat} {h : eH} {X : AX} (hc : CI h X) (hm : MI h X) (ho : okX B X) : PR B (f_X10_held LF h 0) (fun h1 => f_X11_held LF h1 73) := by
  obtain ⟨p, hp⟩ := hc.2.1
  obtain ⟨g, x1, x2, x3⟩ := find_C hc ho hp (fr := (gL h p 4) &&& ((gL h 46 8) ^^^ (-1))) (fun k => free_tb ho.1 hp hc.2.2.2.2.1 k)
  have hRg := only_refs x2 hc.1
  have far : ∀ d t, 36 ≤ t → hdN (xF X) (xS X) (xH X).2 (xH X).1 d t = false := fun d t ht => hdN_far _ d t (by have := nF_le ho.1; omega)
  have lay : ∀ h1, RefsOK h1 → MI h1 X → ∃ g, f_X11_laysPlaces LF (sI h1 73 0 0) 73 = some g ∧ only msc h1 g ∧ MQp g 92 (hdN (xF X) (xS X) (xH X).2 (xH X).1) := fun h1 hR h9 => lays_M hR h9 ho thr_M
  generalize hdN (xF X) (xS X) (xH X).2 (xH X).1 = Q at x3 far lay
  obtain ⟨W, w1, w2⟩ := spt_C hRg x3
  refine PR_q hc hm ho (l := [W, (nI (ctQ Q)).toInt64]) (r := f_J13_bitCount_95d88 W) (by show 2 ≤ 37; omega) ?_ (fun h1 hR h9 => ?_)
  · obtain ⟨b1, b2⟩ := rowbeg_C g
    have hRb : RefsOK (sI g 3 1 0) := refs_sI hRg
    have ob : only (fun j _ => j = 3 ∨ j = 4) g (sI g 3 1 0) := only_sI (Or.inl rfl)
    obtain ⟨h3, r1, r2, r3⟩ := rowadd_C hRb b2 (by decide) W
    have hR3 := only_refs r3 hRb
    obtain ⟨h4, s1, s2, s3⟩ := rowadd_C hR3 r2 (show 1 < 37 by decide) ((nI (ctQ Q)).toInt64)
    have hR4 := only_refs s3 hR3
    have qb : QC (sI g 3 1 0) Q := QC_only ob (fun k => by omega) x3
    have q3 : QC h3 Q := QC_only r3 (fun k => by omega) qb
    have q4 : QC h4 Q := QC_only s3 (fun k => by omega) q3
    have sp : ∀ g', RefsOK g' → QC g' Q → f_X0_spots LF g' 40 = some W := fun g' hR' hq' => by
      obtain ⟨W', v1, v2⟩ := spt_C hR' hq'
      rw [v1, tb_ext (x := W') (y := W) (fun k _ => by rw [v2, w2])]
    refine ⟨h4, ?_, s2, only_trans (csc_w x2) (row_w (only_trans ob (only_trans r3 s3)))⟩
    unfold f_X10_held
    rw [if_pos iO_0, r_0_5 hc.1, Option.bind_some, hp.2.1, Option.bind_some, free_C hc hp, Option.bind_some, if_pos iO_40, x1, Option.bind_some, r_0_1 hRg, Option.bind_some, if_pos iO_3, b1, Option.bind_some, r_0_1 hRb, Option.bind_some, r_0_5 hRb, Option.bind_some, if_pos iO_40, sp _ hRb qb, Option.bind_some, if_pos iO_3, r1, Option.bind_some, r_0_1 hR3, Option.bind_some, r_0_5 hR3, Option.bind_some, if_pos iO_40, plc_C hR3 q3 far, Option.bind_some, if_pos iO_3, s1, Option.bind_some, r_0_5 hR4, Option.bind_some, if_pos iO_40, sp _ hR4 q4, Option.bind_some]
  · obtain ⟨g, l1, l2, l3⟩ := lay h1 hR h9
    have hRm := only_refs l2 hR
    show ∃ h2, f_X11_held LF h1 73 = _ ∧ _
    unfold f_X11_held
    rw [if_pos iO_73, l1, Option.bind_some]
    refine held_ML (P := fun r => ∃ h2, r = some (h2, _) ∧ MW h2 _ ∧ only mscW h1 h2) hRm l3 far w2 ?_
    have hRb : RefsOK (sI g 73 1 0) := refs_sI hRm
    have ob : only (fun j k => (j = 73 ∧ k = 1) ∨ j = 74) g (sI g 73 1 0) := only_sI (Or.inl ⟨rfl, rfl⟩)
    obtain ⟨h3, r1, r2, r3⟩ := rowadd_M hRb (rowbeg_M g) (by decide) W
    have hR3 := only_refs r3 hRb
    obtain ⟨h4, s1, s2, s3⟩ := rowadd_M hR3 r2 (show 1 < 48 by decide) ((nI (ctQ Q)).toInt64)
    have q3 : MQp h3 92 Q := MQ_only (only_trans ob r3) (fun k => by omega) l3
    refine ⟨h4, ?_, s2, only_trans (msc_w l2) (rowm_w (only_trans ob (only_trans r3 s3)))⟩
    rw [if_pos iO_73, r1, Option.bind_some, many_M hR3 q3, Option.bind_some, s1, Option.bind_some]
/-! feel -/
def fqQ (F : FV) (S : Nat → Int32) (Q : Nat → Nat → Bool) (q d t : Nat) : Bool := Q d t && ob (nbF F t ((d + q) % 4)) (frA F S)
theorem ct_two (A x : Nat → Bool) : ∀ n, fb_ct (fun k => A k && !(x k)) n + fb_ct (fun k => A k && x k) n = fb_ct A n
  | 0 => rfl
  | n + 1 => by
    have ih := ct_two A x n
    rw [fb_ct_succ, fb_ct_succ, fb_ct_succ]
    cases A n <;> cases x n <;> simp <;> omega
theorem ct_sum (F : FV) (S : Nat → Int32) (Q : Nat → Nat → Bool) (q : Nat) : ctQ (skQ F S Q q) + ctQ (fqQ F S Q q) = ctQ Q := by
  have e : ∀ d, fb_ct (skQ F S Q q d) 36 + fb_ct (fqQ F S Q q d) 36 = fb_ct (Q d) 36 := fun d => ct_two (Q d) (fun t => ob (nbF F t ((d + q) % 4)) (frA F S)) 36
  unfold ctQ
  have := e 0
  have := e 1
  have := e 2
  have := e 3
  omega
def feA (m : Nat → Nat) (P : Nat) : Nat → Nat × Nat
  | 0 => (0, P + 1)
  | q + 1 => if (feA m P q).2 ≤ m q then feA m P q else (q, m q)
theorem feA_le {m : Nat → Nat} {P : Nat} (hm : ∀ q, m q ≤ P) : ∀ q, (feA m P q).1 ≤ q ∧ (feA m P q).2 ≤ P + 1
  | 0 => ⟨Nat.le_refl _, Nat.le_refl _⟩
  | q + 1 => by
    have ih := feA_le hm q
    have := hm q
    have e : feA m P (q + 1) = if (feA m P q).2 ≤ m q then feA m P q else (q, m q) := rfl
    rw [e]
    split
    · exact ⟨by omega, ih.2⟩
    · exact ⟨by show q ≤ q + 1; omega, by show m q ≤ P + 1; omega⟩
theorem feel_CL {P : Option (eH × Int32) → Prop} {k97 : eH → Nat → Int32 → Int32 → Option (eH × Int32)} {g : eH} {F : FV} {S : Nat → Int32} {p : Nat} {fr : Int64} {Q : Nat → Nat → Bool} {m : Nat → Nat} (hF : okF F) (hR : RefsOK g) (hp : CF g p F) (hfr : ∀ k, tb fr k = frA F S k) (hq : QC g Q) (far : ∀ d t, nF F ≤ t → Q d t = false) (hm : m = fun q => max (ctQ (skQ F S Q q)) (ctQ Q - ctQ (skQ F S Q q))) (y : P (k97 g 0 (nI (feA m (ctQ Q) 4).1) (nI (feA m (ctQ Q) 4).2))) : P (f_X10_feel_L43 LF e_fu k97 g 0 fr (nI (ctQ Q)) 0 (nI (ctQ Q) + 1) 0) := by
  have l144 := ctQ_le Q
  have mle : ∀ q, m q ≤ ctQ Q := fun q => by
    have := ct_sum F S Q q
    rw [hm]
    show max (ctQ (skQ F S Q q)) (ctQ Q - ctQ (skQ F S Q q)) ≤ ctQ Q
    omega
  rw [show nI (ctQ Q) + 1 = nI (ctQ Q + 1) from nI_add _ 1]
  refine lpF (N := 4) (s := ((0 : Nat), ctQ Q + 1)) (run := fun fu (q : Nat × Nat) i => f_X10_feel_L43 LF fu k97 g 0 fr (nI (ctQ Q)) (nI q.1) (nI q.2) (nI i)) (Inv := fun i q => q = feA m (ctQ Q) i) (Post := P) (by decide) rfl ?_ ?_
  · rintro fu q rfl
    show P (f_X10_feel_L43 LF (fu + 1) k97 g 0 fr (nI (ctQ Q)) (nI (feA m (ctQ Q) 4).1) (nI (feA m (ctQ Q) 4).2) (nI 4))
    unfold f_X10_feel_L43
    rw [if_pos (by decide)]; exact y
  · rintro i fu q hi rfl
    refine Or.inr ⟨feA m (ctQ Q) (i + 1), rfl, fun z hz => ?_⟩
    have hz : f_X10_feel_L43 LF fu k97 g 0 fr (nI (ctQ Q)) (nI (feA m (ctQ Q) (i + 1)).1) (nI (feA m (ctQ Q) (i + 1)).2) (nI (i + 1)) = z := hz
    have e : feA m (ctQ Q) (i + 1) = if (feA m (ctQ Q) i).2 ≤ m i then feA m (ctQ Q) i else (i, m i) := rfl
    rw [e] at hz
    have fl := feA_le mle i
    have cs := ct_sum F S Q i
    have em : mxI (nI (ctQ (skQ F S Q i))) (nI (ctQ Q) - nI (ctQ (skQ F S Q i))) = nI (m i) := by
      rw [pk_sub (by omega), mxI_n (by omega) (by omega), hm]
    show f_X10_feel_L43 LF (fu + 1) k97 g 0 fr (nI (ctQ Q)) (nI (feA m (ctQ Q) i).1) (nI (feA m (ctQ Q) i).2) (nI i) = z
    have mi := mle i
    generalize feA m (ctQ Q) i = f at hz fl
    unfold f_X10_feel_L43
    rw [if_neg (show ¬ (4 : Int32) ≤ nI i from nI_ge (b := 4) hi (by decide)), if_pos iO_0, r_0_5 hR, Option.bind_some, hp.2.1, Option.bind_some, if_pos iO_40, stk_C hF hR hp hfr hi hq far, Option.bind_some, em, nI_p1]
    by_cases q : f.2 ≤ m i
    · rw [if_pos q] at hz; rw [if_pos (nI_le q (by omega))]; exact hz
    · rw [if_neg q] at hz; rw [if_neg (nI_ge (by omega) (by omega))]; exact hz
theorem feel_M1 {P : Option (eH × Int32) → Prop} {k100 : eH → Nat → Int32 → Int32 → Int32 → Int32 → Option (eH × Int32)} {g : eH} {F : FV} {S : Nat → Int32} {q : Nat} {v1 v2 : Int32} {Q : Nat → Nat → Bool} (hF : okF F) (hR : RefsOK g) (hm : MF g F) (hS : MS g 76 0 S) (hq4 : q < 4) (hq : MQp g 92 Q) (far : ∀ d t, nF F ≤ t → Q d t = false) (y : P (k100 g 73 v1 v2 (nI q) (nI (ctQ (fqQ F S Q q))))) : P (f_X11_feel_L38 LF e_fu k100 g 73 v1 v2 (nI q) 0 0) := by
  rw [← ct144] at y
  refine lpF (N := 144) (s := (0 : Int32)) (run := fun fu (a : Int32) i => f_X11_feel_L38 LF fu k100 g 73 v1 v2 (nI q) a (nI i)) (Inv := fun i a => a = nI (fb_ct (fun p => fqQ F S Q q (p % 4) (p / 4)) i)) (Post := P) (by decide) rfl ?_ ?_
  · rintro fu a rfl
    show P (f_X11_feel_L38 LF (fu + 1) k100 g 73 v1 v2 (nI q) _ (nI 144))
    unfold f_X11_feel_L38
    rw [if_pos (by decide)]; exact y
  · rintro i fu a hi rfl
    refine Or.inr ⟨nI (fb_ct (fun p => fqQ F S Q q (p % 4) (p / 4)) (i + 1)), rfl, fun z hz => ?_⟩
    have hz : f_X11_feel_L38 LF fu k100 g 73 v1 v2 (nI q) (nI (fb_ct (fun p => fqQ F S Q q (p % 4) (p / 4)) i + (if fqQ F S Q q (i % 4) (i / 4) then 1 else 0))) (nI (i + 1)) = z := hz
    have e92 := hq i hi
    have n144 : ¬ (144 : Int32) ≤ nI i := nI_ge (b := 144) hi (by decide)
    have hd : fqQ F S Q q (i % 4) (i / 4) = (Q (i % 4) (i / 4) && ob (nbF F (i / 4) ((i + q) % 4)) (frA F S)) := by
      unfold fqQ
      rw [show (i % 4 + q) % 4 = (i + q) % 4 by omega]
    rw [hd] at hz
    show f_X11_feel_L38 LF (fu + 1) k100 g 73 v1 v2 (nI q) (nI (fb_ct (fun p => fqQ F S Q q (p % 4) (p / 4)) i)) (nI i) = z
    unfold f_X11_feel_L38
    rw [if_neg n144, if_pos iO_73, r_73_38 hR, Option.bind_some, iA_92, if_pos (in_nI hi (by decide)), nI_clamp (by omega), e92]
    cases hQ : Q (i % 4) (i / 4) with
    | false =>
      rw [hQ] at hz
      have hz : f_X11_feel_L38 LF fu k100 g 73 v1 v2 (nI q) (nI (fb_ct (fun p => fqQ F S Q q (p % 4) (p / 4)) i + 0)) (nI (i + 1)) = z := hz
      rw [if_pos (show (if false = true then (1 : Int32) else 0) = 0 from rfl), show f_X11_flag 0 = nI 0 by decide, nI_add, nI_p1]; exact hz
    | true =>
      rw [hQ, Bool.true_and] at hz
      have ht : i / 4 < nF F := by
        rcases Nat.lt_or_ge (i / 4) (nF F) with x | x
        · exact x
        · rw [far _ _ x] at hQ; cases hQ
      have hf := isF_M hF hR hm hS ht (show (i + q) % 4 < 4 by omega)
      rw [if_neg (show ¬ (if true = true then (1 : Int32) else 0) = 0 from i10), r_73_7 hR, Option.bind_some, (adv4 i hi q (by omega)).1, (div4 i hi).1, beside_nb hF hm, Option.bind_some, hf, Option.bind_some]
      cases ho : ob (nbF F (i / 4) ((i + q) % 4)) (frA F S) with
      | false =>
        rw [ho] at hz
        rw [if_pos (show (if false = true then (1 : Int32) else 0) = 0 from rfl), show f_X11_flag 0 = nI 0 by decide, nI_add, nI_p1]; exact hz
      | true =>
        rw [ho] at hz
        rw [if_neg (show ¬ (if true = true then (1 : Int32) else 0) = 0 from i10), show f_X11_flag 1 = nI 1 by decide, nI_add, nI_p1]; exact hz
theorem feel_s {n : Nat} {k139 : eH → Nat → Int32 → Int32 → Option (eH × Int32)} {h : eH} {v0 : Nat} {v1 v2 v3 : Int32} : f_X11_feel_L27 LF (n + 1) k139 h v0 v1 v2 v3 = (if 4 ≤ v3 then k139 h v0 v1 v2 else f_X11_feel_L38 LF e_fu (fun (h16 : eH) (w0_17 : Nat) (w1_18 : Int32) (w2_19 : Int32) (w3_20 : Int32) (w4_21 : Int32) => if isO LF w0_17 11 = true then (f_X11_placeMany LF h16 w0_17).bind fun r23 => if w2_19 ≤ (mxI w4_21 (r23 - w4_21)) then f_X11_feel_L27 LF n k139 h16 w0_17 w1_18 (mnI w2_19 (mxI w4_21 (r23 - w4_21))) (w3_20 + Int32.ofInt 1) else f_X11_feel_L27 LF n k139 h16 w0_17 w3_20 (mnI w2_19 (mxI w4_21 (r23 - w4_21))) (w3_20 + Int32.ofInt 1) else none) h v0 v1 v2 v3 0 0) := rfl
theorem feel_ML {P : Option (eH × Int32) → Prop} {k139 : eH → Nat → Int32 → Int32 → Option (eH × Int32)} {g : eH} {F : FV} {S : Nat → Int32} {Q : Nat → Nat → Bool} {m : Nat → Nat} (hF : okF F) (hR : RefsOK g) (hmf : MF g F) (hS : MS g 76 0 S) (hq : MQp g 92 Q) (far : ∀ d t, nF F ≤ t → Q d t = false) (hm : m = fun q => max (ctQ (skQ F S Q q)) (ctQ Q - ctQ (skQ F S Q q))) (y : P (k139 g 73 (nI (feA m (ctQ Q) 4).1) (nI (feA m (ctQ Q) 4).2))) : P (f_X11_feel_L27 LF e_fu k139 g 73 (-1) 1000000 0) := by
  have l144 := ctQ_le Q
  have mle : ∀ q, m q ≤ ctQ Q := fun q => by
    have := ct_sum F S Q q
    rw [hm]
    show max (ctQ (skQ F S Q q)) (ctQ Q - ctQ (skQ F S Q q)) ≤ ctQ Q
    omega
  refine lpF (N := 4) (s := ((-1 : Int32), (1000000 : Int32))) (run := fun fu (q : Int32 × Int32) i => f_X11_feel_L27 LF fu k139 g 73 q.1 q.2 (nI i)) (Inv := fun i q => (i = 0 ∧ q = (-1, 1000000)) ∨ (0 < i ∧ q = (nI (feA m (ctQ Q) i).1, nI (feA m (ctQ Q) i).2))) (Post := P) (by decide) (Or.inl ⟨rfl, rfl⟩) ?_ ?_
  · rintro fu q (⟨a, _⟩ | ⟨_, rfl⟩)
    · exact absurd a (by omega)
    · show P (f_X11_feel_L27 LF (fu + 1) k139 g 73 (nI (feA m (ctQ Q) 4).1) (nI (feA m (ctQ Q) 4).2) (nI 4))
      rw [feel_s, if_pos (by decide)]; exact y
  · rintro i fu q hi hv
    have mi := mle i
    have cs := ct_sum F S Q i
    have fl := feA_le mle i
    have e : feA m (ctQ Q) (i + 1) = if (feA m (ctQ Q) i).2 ≤ m i then feA m (ctQ Q) i else (i, m i) := rfl
    have em : mxI (nI (ctQ (fqQ F S Q i))) (nI (ctQ Q) - nI (ctQ (fqQ F S Q i))) = nI (m i) := by
      rw [pk_sub (by omega), mxI_n (by omega) (by omega), hm]
      congr 1
      show max (ctQ (fqQ F S Q i)) (ctQ Q - ctQ (fqQ F S Q i)) = max (ctQ (skQ F S Q i)) (ctQ Q - ctQ (skQ F S Q i))
      omega
    have un : ∀ v1 v2, f_X11_feel_L27 LF (fu + 1) k139 g 73 v1 v2 (nI i) = if v2 ≤ nI (m i) then f_X11_feel_L27 LF fu k139 g 73 v1 (mnI v2 (nI (m i))) (nI (i + 1)) else f_X11_feel_L27 LF fu k139 g 73 (nI i) (mnI v2 (nI (m i))) (nI (i + 1)) := fun v1 v2 => by
      rw [feel_s, if_neg (show ¬ (4 : Int32) ≤ nI i from nI_ge (b := 4) hi (by decide))]
      refine feel_M1 (P := fun r => r = _) hF hR hmf hS hi hq far ?_
      rw [if_pos iO_73, many_M hR hq, Option.bind_some, em, nI_p1]
    rcases hv with ⟨a, hq2⟩ | ⟨a, hq2⟩
    · subst a
      have e1 : feA m (ctQ Q) (0 + 1) = (0, m 0) := by
        rw [e, if_neg (show ¬ (feA m (ctQ Q) 0).2 ≤ m 0 by show ¬ ctQ Q + 1 ≤ m 0; omega)]
      refine Or.inr ⟨(nI 0, nI (m 0)), Or.inr ⟨by omega, by rw [e1]⟩, fun z hz => ?_⟩
      have hz : f_X11_feel_L27 LF fu k139 g 73 (nI 0) (nI (m 0)) (nI (0 + 1)) = z := hz
      rw [hq2]
      show f_X11_feel_L27 LF (fu + 1) k139 g 73 (-1) 1000000 (nI 0) = z
      rw [un, if_neg (show ¬ (1000000 : Int32) ≤ nI (m 0) from nI_ge (b := 1000000) (by omega) (by decide)), show mnI 1000000 (nI (m 0)) = nI (m 0) by rw [show (1000000 : Int32) = nI 1000000 from rfl, mnI_n (by omega) (by omega), Nat.min_eq_right (by omega)]]
      exact hz
    · refine Or.inr ⟨(nI (feA m (ctQ Q) (i + 1)).1, nI (feA m (ctQ Q) (i + 1)).2), Or.inr ⟨by omega, rfl⟩, fun z hz => ?_⟩
      have hz : f_X11_feel_L27 LF fu k139 g 73 (nI (feA m (ctQ Q) (i + 1)).1) (nI (feA m (ctQ Q) (i + 1)).2) (nI (i + 1)) = z := hz
      rw [e] at hz
      rw [hq2]
      show f_X11_feel_L27 LF (fu + 1) k139 g 73 (nI (feA m (ctQ Q) i).1) (nI (feA m (ctQ Q) i).2) (nI i) = z
      generalize feA m (ctQ Q) i = f at hz fl
      rw [un, mnI_n (by omega) (by omega)]
      by_cases q : f.2 ≤ m i
      · rw [if_pos q] at hz; rw [if_pos (nI_le q (by omega)), Nat.min_eq_left q]; exact hz
      · rw [if_neg q] at hz; rw [if_neg (nI_ge (by omega) (by omega)), Nat.min_eq_right (by omega)]; exact hz
theorem feel_P {B : Nat} {h : eH} {X : AX} (hc : CI h X) (hm : MI h X) (ho : okX B X) : PR B (f_X10_feel LF h 0) (fun h1 => f_X11_feel LF h1 73) := by
  obtain ⟨p, hp⟩ := hc.2.1
  have hfr : ∀ k, tb ((gL h p 4) &&& ((gL h 46 8) ^^^ (-1))) k = frA (xF X) (xS X) k := fun k => free_tb ho.1 hp hc.2.2.2.2.1 k
  have efr := free_C hc hp
  generalize (gL h p 4) &&& ((gL h 46 8) ^^^ (-1)) = fr at hfr efr
  obtain ⟨g, x1, x2, x3⟩ := find_C hc ho hp hfr
  have hRg := only_refs x2 hc.1
  have far := hdN_far (F := xF X) (S := xS X) (H := (xH X).2) (xH X).1
  have far36 : ∀ d t, 36 ≤ t → hdN (xF X) (xS X) (xH X).2 (xH X).1 d t = false := fun d t ht => far d t (by have := nF_le ho.1; omega)
  have lay : ∀ h1, RefsOK h1 → MI h1 X → ∃ g, f_X11_laysPlaces LF (sI h1 73 0 0) 73 = some g ∧ only msc h1 g ∧ MQp g 92 (hdN (xF X) (xS X) (xH X).2 (xH X).1) := fun h1 hR h9 => lays_M hR h9 ho thr_M
  generalize hdN (xF X) (xS X) (xH X).2 (xH X).1 = Q at x3 far far36 lay
  have l144 := ctQ_le Q
  have pre : f_X10_feel LF h 0 = if nI (ctQ Q) = 0 then some (g, -2) else f_X10_feel_L43 LF e_fu (fun (h24 : eH) (w0_25 : Nat) (w4_26 : Int32) (w5_27 : Int32) => if isO LF w0_25 10 = true then (gR h24 w0_25 1).bind fun b29 => if isO LF b29 3 = true then (f_X3_begin LF h24 b29).bind fun r32 => (gR r32 w0_25 1).bind fun b34 => if isO LF b34 3 = true then (f_X3_add LF r32 b34 w5_27.toInt64).bind fun r37 => some (r37, w4_26) else none else none else none) g 0 fr (nI (ctQ Q)) 0 (nI (ctQ Q) + 1) 0 := by
    unfold f_X10_feel
    rw [if_pos iO_0, efr, Option.bind_some, r_0_5 hc.1, Option.bind_some, hp.2.1, Option.bind_some, if_pos iO_40, x1, Option.bind_some, r_0_5 hRg, Option.bind_some, if_pos iO_40, plc_C hRg x3 far36, Option.bind_some]
  by_cases z0 : ctQ Q = 0
  · refine PR_s hc hm ho (r := -2) ⟨g, ?_, x2⟩ (fun h1 hR h9 => ?_)
    · rw [pre, if_pos (by rw [z0]; rfl)]
    · obtain ⟨gm, l1, l2, l3⟩ := lay h1 hR h9
      refine ⟨gm, ?_, l2⟩
      show f_X11_feel LF h1 73 = _
      unfold f_X11_feel
      rw [if_pos iO_73, l1, Option.bind_some, many_M (only_refs l2 hR) l3, Option.bind_some, if_pos (by rw [z0]; rfl)]
  · have nz : ¬ nI (ctQ Q) = 0 := nI_ne0 (by omega) (by omega)
    obtain ⟨m, hmm⟩ : ∃ m : Nat → Nat, m = fun q => max (ctQ (skQ (xF X) (xS X) Q q)) (ctQ Q - ctQ (skQ (xF X) (xS X) Q q)) := ⟨_, rfl⟩
    refine PR_q hc hm ho (l := [(nI (feA m (ctQ Q) 4).2).toInt64]) (r := nI (feA m (ctQ Q) 4).1) (by show 1 ≤ 37; omega) ?_ (fun h1 hR h9 => ?_)
    · rw [pre, if_neg nz]
      refine feel_CL (P := fun r => ∃ h1, r = some (h1, _) ∧ CW h1 _ ∧ only cscW h h1) (F := xF X) (S := xS X) (p := p) (m := m) ho.1 hRg (CF_only x2 (fun j k a b => by unfold csc; omega) hp) hfr x3 far hmm ?_
      generalize feA m (ctQ Q) 4 = f
      obtain ⟨b1, b2⟩ := rowbeg_C g
      have hRb : RefsOK (sI g 3 1 0) := refs_sI hRg
      have ob : only (fun j _ => j = 3 ∨ j = 4) g (sI g 3 1 0) := only_sI (Or.inl rfl)
      obtain ⟨h3, r1, r2, r3⟩ := rowadd_C hRb b2 (by decide) ((nI f.2).toInt64)
      refine ⟨h3, ?_, r2, only_trans (csc_w x2) (row_w (only_trans ob r3))⟩
      rw [if_pos iO_0, r_0_1 hRg, Option.bind_some, if_pos iO_3, b1, Option.bind_some, r_0_1 hRb, Option.bind_some, if_pos iO_3, r1, Option.bind_some]
    · obtain ⟨gm, l1, l2, l3⟩ := lay h1 hR h9
      have hRm := only_refs l2 hR
      have hmg := MI_scr l2 h9
      show ∃ h2, f_X11_feel LF h1 73 = _ ∧ _
      unfold f_X11_feel
      rw [if_pos iO_73, l1, Option.bind_some, many_M hRm l3, Option.bind_some, if_neg nz]
      refine feel_ML (P := fun r => ∃ h2, r = some (h2, _) ∧ MW h2 _ ∧ only mscW h1 h2) (F := xF X) (S := xS X) (m := m) ho.1 hRm hmg.1 hmg.2.2.2.2.1 l3 far hmm ?_
      generalize feA m (ctQ Q) 4 = f
      have hRb : RefsOK (sI gm 73 1 0) := refs_sI hRm
      have ob : only (fun j k => (j = 73 ∧ k = 1) ∨ j = 74) gm (sI gm 73 1 0) := only_sI (Or.inl ⟨rfl, rfl⟩)
      obtain ⟨h3, r1, r2, r3⟩ := rowadd_M hRb (rowbeg_M gm) (by decide) ((nI f.2).toInt64)
      refine ⟨h3, ?_, r2, only_trans (msc_w l2) (rowm_w (only_trans ob r3))⟩
      rw [if_pos iO_73, r1, Option.bind_some]

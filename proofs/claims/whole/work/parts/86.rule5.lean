/-! rule: the class's reader -/
def CQ (g : eH) (d lim a : Nat) (l : List Nat) : Prop := gI g 5 3 = nI a ∧ gI g 5 2 = nI lim ∧ gR g 5 0 = some 1 ∧ gR g 5 1 = some d ∧ gI g d 2 = nI l.length ∧ ∀ k, k < l.length → gI g (d + 1) k = ccA (l.getD k 0)
def rqW (d : Nat) (j k : Nat) : Prop := (j = 5 ∧ k = 3) ∨ j = d ∨ j = d + 1
def QE (T : Nat × (Nat → Nat)) (lim d : Nat) : Prop := (d = 67 ∨ d = 70) ∧ okTx T ∧ lim ≤ T.1 ∧ lim ≤ 40
def CSp (T : Nat × (Nat → Nat)) (lim d : Nat) (f : eH → Option (eH × Int32)) (P : Nat → Rs) : Prop := ∀ g a l, RefsOK g → CT g T → CQ g d lim a l → a ≤ lim → l.length ≤ a → ∃ g', f g = some (g', if (P a).1 then 1 else 0) ∧ gI g' 5 3 = nI (P a).2.1 ∧ ((P a).1 = true → CQ g' d lim (P a).2.1 (l ++ (P a).2.2)) ∧ only (rqW d) g g'
theorem getN_app {l : List Nat} {v k : Nat} (hk : k < l.length + 1) : (l ++ [v]).getD k 0 = if k = l.length then v else l.getD k 0 := by
  by_cases h : k = l.length
  · subst h; rw [if_pos rfl]; simp [List.getD]
  · rw [if_neg h]; simp [List.getD, List.getElem?_append_left (show k < l.length by omega)]
theorem CT_q {d : Nat} {g g' : eH} {T : Nat × (Nat → Nat)} (hd : d = 67 ∨ d = 70) (o : only (rqW d) g g') (h : CT g T) : CT g' T := CT_only o (fun j k a => by unfold rqW; omega) h
theorem here_C {T : Nat × (Nat → Nat)} {lim d a : Nat} {g : eH} {l : List Nat} (hQ : QE T lim d) (hR : RefsOK g) (hT : CT g T) (hq : CQ g d lim a l) (ha : a ≤ lim) : f_X5_here LF g 5 = some (if a < lim then nI (T.2 a) else -1) := by
  obtain ⟨q1, q2, q3, q4⟩ := hQ
  unfold f_X5_here
  rw [if_pos iO_5, hq.2.2.1, Option.bind_some, hq.1, hq.2.1]
  by_cases z : a < lim
  · rw [if_neg (nI_ge z (by omega)), Option.bind_some, if_pos iO_1, at_C hR hT q2 (by omega), Option.bind_some, if_pos z]
  · rw [if_pos (nI_le (by omega) (by omega)), if_neg z]
theorem CQ_n {d lim a : Nat} {g : eH} {l : List Nat} (hd : d = 67 ∨ d = 70) (hq : CQ g d lim a l) : CQ (sI g 5 3 (gI g 5 3 + 1)) d lim (a + 1) l ∧ only (rqW d) g (sI g 5 3 (gI g 5 3 + 1)) := by
  obtain ⟨q1, q2, q3, q4, q5, q6⟩ := hq
  refine ⟨⟨by rw [gI_sI, if_pos ⟨rfl, rfl⟩, q1]; exact nI_add a 1, by rw [gI_sI, if_neg (by omega)]; exact q2, q3, q4, by rw [gI_sI, if_neg (by omega)]; exact q5, fun k hk => by rw [gI_sI, if_neg (by omega)]; exact q6 k hk⟩, only_sI (Or.inl ⟨rfl, rfl⟩)⟩
theorem add_C {d lim a k : Nat} {g : eH} {l : List Nat} {v : Int32} (hd : d = 67 ∨ d = 70) (hR : RefsOK g) (hq : CQ g d lim a l) (hl : l.length < 40) (hv : v = ccA k) : ∃ g', f_X4_add LF g d v = some g' ∧ CQ g' d lim a (l ++ [k]) ∧ only (rqW d) g g' := by
  obtain ⟨q1, q2, q3, q4, q5, q6⟩ := hq
  have e2 : gI (sI g (d + 1) l.length v) d 2 = nI l.length := by rw [gI_sI, if_neg (by omega)]; exact q5
  have o : only (rqW d) g (sI (sI g (d + 1) l.length v) d 2 (nI (l.length + 1))) := only_trans (only_sI (Or.inr (Or.inr rfl))) (only_sI (Or.inr (Or.inl rfl)))
  have o2 : only (fun j _ => j = d ∨ j = d + 1) g (sI (sI g (d + 1) l.length v) d 2 (nI (l.length + 1))) := only_trans (only_sI (Or.inr rfl)) (only_sI (Or.inl rfl))
  refine ⟨sI (sI g (d + 1) l.length v) d 2 (nI (l.length + 1)), ?_, ⟨(o_I o2 (by omega)).trans q1, (o_I o2 (by omega)).trans q2, q3, q4, ?_, fun j hj => ?_⟩, o⟩
  · unfold f_X4_add
    rw [if_pos (q_O hd), q5, if_neg (nI_pos (by omega)), if_neg (show ¬ (40 : Int32) ≤ nI l.length from nI_ge (b := 40) hl (by decide)), (q_c hR hd).1, Option.bind_some, (q_A hd _).1, if_pos (in_nI hl (by decide)), nI_clamp (by omega), e2, Option.bind_some, show nI l.length + 1 = nI (l.length + 1) from nI_add _ 1]
  · rw [gI_sI, if_pos ⟨rfl, rfl⟩, List.length_append]; rfl
  · rw [List.length_append] at hj
    have hj : j < l.length + 1 := hj
    rw [getN_app hj, gI_sI, if_neg (by omega), gI_sI]
    by_cases z : j = l.length
    · rw [if_pos ⟨rfl, z⟩, if_pos z]; exact hv
    · rw [if_neg (fun x => z x.2), if_neg z]; exact q6 j (by omega)
theorem emit_C {d lim a k : Nat} {g : eH} {l : List Nat} {v : Int32} (hd : d = 67 ∨ d = 70) (hR : RefsOK g) (hq : CQ g d lim a l) (hl : l.length < 40) (hv : -v = ccA k) : ∃ g', f_X5_emit LF g 5 v = some g' ∧ CQ g' d lim a (l ++ [k]) ∧ only (rqW d) g g' := by
  obtain ⟨g', x1, x2, x3⟩ := add_C hd hR hq hl hv
  refine ⟨g', ?_, x2, x3⟩
  unfold f_X5_emit f_X4_addSign
  rw [if_pos iO_5, hq.2.2.2.1, Option.bind_some, Option.bind_some, if_pos (q_O hd), if_pos (q_O hd), x1, Option.bind_some, Option.bind_some]
/-! signs -/
def opB (lv s : Nat) : Bool := match rlO lv s with
  | none => !(decide (f_X5_levelOf (nI s) = nI lv))
  | some k => decide (f_X5_levelOf (nI s) = nI lv) && decide (-(nI s) = ccA k)
theorem opB_k : ∀ lv, lv < 3 → ∀ s, s < 256 → opB lv s = true := by decide +kernel
theorem opq_n {lv s : Nat} (h3 : lv < 3) (hs : s < 256) (h : rlO lv s = none) : ¬ f_X5_levelOf (nI s) = nI lv := by
  have := opB_k lv h3 s hs
  unfold opB at this
  rw [h] at this
  intro e
  rw [decide_eq_true e] at this; cases this
theorem opq_s {lv s k : Nat} (h3 : lv < 3) (hs : s < 256) (h : rlO lv s = some k) : f_X5_levelOf (nI s) = nI lv ∧ -(nI s) = ccA k := by
  have := opB_k lv h3 s hs
  unfold opB at this
  rw [h] at this
  rw [Bool.and_eq_true] at this
  exact ⟨of_decide_eq_true this.1, of_decide_eq_true this.2⟩
theorem opq_m : ∀ lv, lv < 3 → ¬ f_X5_levelOf (-1) = nI lv := by decide +kernel
def thB (s : Nat) : Bool := match thO s with
  | none => decide (f_X4_isThing (nI s) = 0)
  | some i => decide (f_X4_isThing (nI s) = 1) && decide (-(nI s) = ccA (1000 + i))
theorem thB_k : ∀ s, s < 256 → thB s = true := by decide +kernel
theorem th_n {s : Nat} (hs : s < 256) (h : thO s = none) : f_X4_isThing (nI s) = 0 := by
  have := thB_k s hs
  unfold thB at this
  rw [h] at this
  exact of_decide_eq_true this
theorem th_s {s i : Nat} (hs : s < 256) (h : thO s = some i) : f_X4_isThing (nI s) = 1 ∧ -(nI s) = ccA (1000 + i) := by
  have := thB_k s hs
  unfold thB at this
  rw [h] at this
  rw [Bool.and_eq_true] at this
  exact ⟨of_decide_eq_true this.1, of_decide_eq_true this.2⟩
theorem dg_k {s : Nat} (hs : s < 256) : f_X5_isDigit (nI s) = if 48 ≤ s ∧ s ≤ 57 then 1 else 0 := (by decide +kernel : ∀ s, s < 256 → f_X5_isDigit (nI s) = if 48 ≤ s ∧ s ≤ 57 then 1 else 0) s hs
/-! a number -/
theorem numL_C {T : Nat × (Nat → Nat)} {lim d : Nat} {k48 : eH → Nat → Int32 → Option eH} (hQ : QE T lim d) : ∀ (f i fu a v : Nat) (g : eH) (l : List Nat), i + f = 3 → RefsOK g → CT g T → CQ g d lim a l → a ≤ lim → ∃ g', f_X5_readNumber_L4 LF (fu + f + 1) k48 g 5 (nI v) (nI i) = k48 g' 5 (nI (nmD T.2 lim f a v).2) ∧ CQ g' d lim (nmD T.2 lim f a v).1 l ∧ only (rqW d) g g' := by
  intro f
  induction f with
  | zero =>
    intro i fu a v g l hi hR hT hq ha
    refine ⟨g, ?_, hq, only_rfl⟩
    unfold f_X5_readNumber_L4
    rw [if_pos (show (3 : Int32) ≤ nI i by rw [show i = 3 by omega]; decide)]; rfl
  | succ f ih =>
    intro i fu a v g l hi hR hT hq ha
    have he := here_C hQ hR hT hq ha
    have n3 : ¬ (3 : Int32) ≤ nI i := nI_ge (b := 3) (by omega) (by decide)
    have un : f_X5_readNumber_L4 LF (fu + (f + 1) + 1) k48 g 5 (nI v) (nI i) = (if (3 : Int32) ≤ nI i then k48 g 5 (nI v) else if isO LF 5 5 = true then (f_X5_here LF g 5).bind fun r2 => if (f_X5_isDigit r2) = 0 then k48 g 5 (nI v) else (f_X5_here LF g 5).bind fun r4 => f_X5_readNumber_L4 LF (fu + f + 1) k48 (sI g 5 3 ((gI g 5 3) + 1)) 5 (((nI v * 10) + r4) - 48) (nI i + Int32.ofInt 1) else none) := rfl
    by_cases q : a < lim ∧ 48 ≤ T.2 a ∧ T.2 a ≤ 57
    · have em : nmD T.2 lim (f + 1) a v = nmD T.2 lim f (a + 1) (10 * v + (T.2 a - 48)) := if_pos q
      obtain ⟨c1, c2⟩ := CQ_n hQ.1 hq
      obtain ⟨g', x1, x2, x3⟩ := ih (i + 1) fu (a + 1) (10 * v + (T.2 a - 48)) _ l (by omega) (refs_sI hR) (CT_q hQ.1 c2 hT) c1 (by omega)
      rw [em]
      refine ⟨g', ?_, x2, only_trans c2 x3⟩
      rw [un, if_neg n3, if_pos iO_5, he, Option.bind_some, if_pos q.1, dg_k (by omega), if_pos q.2, if_neg i10, Option.bind_some, nI_p1, show nI v * 10 + nI (T.2 a) - 48 = nI (10 * v + (T.2 a - 48)) by rw [show (10 : Int32) = nI 10 from rfl, pk_mul, nI_add, show nI (v * 10 + T.2 a) - 48 = nI (v * 10 + T.2 a - 48) from pk_sub (b := 48) (by omega)]; exact congrArg nI (by omega)]
      exact x1
    · have em : nmD T.2 lim (f + 1) a v = (a, v) := if_neg q
      rw [em]
      refine ⟨g, ?_, hq, only_rfl⟩
      rw [un, if_neg n3, if_pos iO_5, he, Option.bind_some]
      by_cases z : a < lim
      · rw [if_pos z, dg_k (hQ.2.1.2 a (by have := hQ.2.2.1; omega)), if_neg (fun x => q ⟨z, x⟩), if_pos rfl]
      · rw [if_neg z, if_pos (by decide)]
theorem num_C {T : Nat × (Nat → Nat)} {lim d a : Nat} {g : eH} {l : List Nat} (hQ : QE T lim d) (hR : RefsOK g) (hT : CT g T) (hq : CQ g d lim a l) (ha : a ≤ lim) (hl : l.length < 40) (hv : (nmD T.2 lim 3 a 0).2 < 1000) : ∃ g', f_X5_readNumber LF g 5 = some g' ∧ CQ g' d lim (nmD T.2 lim 3 a 0).1 (l ++ [(nmD T.2 lim 3 a 0).2]) ∧ only (rqW d) g g' := by
  obtain ⟨fu, hfu⟩ : ∃ fu, e_fu = fu + 3 + 1 := ⟨e_fu - 4, by unfold e_fu; omega⟩
  obtain ⟨g1, x1, x2, x3⟩ := numL_C (k48 := fun (h6 : eH) (w0_7 : Nat) (w1_8 : Int32) => if isO LF w0_7 5 = true then (gR h6 w0_7 1).bind fun b10 => (gR h6 w0_7 1).bind fun b12 => if isO LF b12 4 = true then (f_X4_addNumber LF h6 b12 w1_8).bind fun r15 => some r15 else none else none) hQ 3 0 fu a 0 g l (by omega) hR hT hq ha
  obtain ⟨g2, y1, y2, y3⟩ := add_C (k := (nmD T.2 lim 3 a 0).2) hQ.1 (only_refs x3 hR) x2 hl (v := nI (nmD T.2 lim 3 a 0).2) (cc_num hv).symm
  refine ⟨g2, ?_, y2, only_trans x3 y3⟩
  unfold f_X5_readNumber
  rw [hfu]
  refine Eq.trans x1 ?_
  show (if isO LF 5 5 = true then (gR g1 5 1).bind fun b10 => (gR g1 5 1).bind fun b12 => if isO LF b12 4 = true then (f_X4_addNumber LF g1 b12 (nI (nmD T.2 lim 3 a 0).2)).bind fun r15 => some r15 else none else none) = _
  unfold f_X4_addNumber
  rw [if_pos iO_5, x2.2.2.2.1, Option.bind_some, Option.bind_some, if_pos (q_O hQ.1), if_pos (q_O hQ.1), y1, Option.bind_some, Option.bind_some]
/-! a thing -/
theorem thing_C {T : Nat × (Nat → Nat)} {lim d dep : Nat} {E : Option (Nat → Rs)} {rec_ : eH → Nat → Int32 → Int32 → Option (eH × Int32)} (hQ : QE T lim d) (hd4 : dep ≤ 4) (hE4 : E = none ↔ dep = 4) (hrec : ∀ e, E = some e → okP lim e ∧ CSp T lim d (fun g => rec_ g 5 0 (nI (dep + 1))) e) : CSp T lim d (fun g => f_X5_readThing_o LF rec_ g 5 (nI dep)) (prm T.2 lim E) := by
  intro g a l hR hT hq ha hl
  have he := here_C hQ hR hT hq ha
  obtain ⟨Q1, Q2, Q3, Q4⟩ := id hQ
  show ∃ g', f_X5_readThing_o LF rec_ g 5 (nI dep) = _ ∧ _
  unfold f_X5_readThing_o
  rw [if_pos iO_5, he, Option.bind_some]
  by_cases q : a < lim
  · have ca : T.2 a < 256 := Q2.2 a (by omega)
    rw [if_pos q, dg_k ca]
    by_cases dg : 48 ≤ T.2 a ∧ T.2 a ≤ 57
    · have n3 := nmD_3 (c := T.2) ⟨q, dg⟩
      obtain ⟨g', x1, x2, x3⟩ := num_C hQ hR hT hq ha (by omega) n3.2.2
      rw [prm_d ⟨q, dg⟩]
      refine ⟨g', ?_, x2.1, fun _ => x2, x3⟩
      rw [if_pos dg, if_neg i10, x1, Option.bind_some]; rfl
    · rw [if_neg dg, if_pos rfl]
      cases th : thO (T.2 a) with
      | some i =>
        obtain ⟨t1, t2⟩ := th_s ca th
        obtain ⟨c1, c2⟩ := CQ_n Q1 hq
        obtain ⟨g', x1, x2, x3⟩ := emit_C Q1 (refs_sI hR) c1 (by omega) t2
        rw [prm_t q dg th]
        refine ⟨g', ?_, x2.1, fun _ => x2, only_trans c2 x3⟩
        rw [t1, if_neg i10, x1, Option.bind_some]; rfl
      | none =>
        rw [prm_o q dg th, th_n ca th, if_pos rfl]
        by_cases p : T.2 a = 40
        · rw [if_pos p, if_pos (by rw [p]; rfl)]
          cases E with
          | none =>
            have := hE4.mp rfl
            refine ⟨g, ?_, hq.1, (fun h => by cases h), only_rfl⟩
            rw [if_neg (by rw [this]; decide)]; rfl
          | some e =>
            have dn : dep ≠ 4 := fun x => by have := hE4.mpr x; cases this
            obtain ⟨okE, sp⟩ := hrec e rfl
            obtain ⟨c1, c2⟩ := CQ_n Q1 hq
            have hT1 := CT_q Q1 c2 hT
            obtain ⟨g', x1, x2, x3, x4⟩ := sp _ (a + 1) l (refs_sI hR) hT1 c1 (by omega) (by omega)
            have x1 : rec_ (sI g 5 3 (gI g 5 3 + 1)) 5 0 (nI (dep + 1)) = some (g', if (e (a + 1)).1 then 1 else 0) := x1
            have okA := okE (a + 1) (by omega)
            rw [if_pos (show nI dep < 4 from nI_lt (b := 4) (by omega) (by decide)), show nI dep + 1 = nI (dep + 1) from nI_add dep 1, x1, Option.bind_some]
            show ∃ g'', (if (if (e (a + 1)).1 = true then (1 : Int32) else 0) = 0 then some (g', (0 : Int32)) else (f_X5_here LF g' 5).bind fun r6 => if r6 = 41 then some (sI g' 5 3 ((gI g' 5 3) + 1), 1) else some (g', 0)) = some (g'', if (if (e (a + 1)).1 then (if (e (a + 1)).2.1 < lim ∧ T.2 (e (a + 1)).2.1 = 41 then (true, (e (a + 1)).2.1 + 1, (e (a + 1)).2.2) else (false, (e (a + 1)).2.1, [])) else (false, (e (a + 1)).2.1, []) : Rs).1 then 1 else 0) ∧ gI g'' 5 3 = nI (if (e (a + 1)).1 then (if (e (a + 1)).2.1 < lim ∧ T.2 (e (a + 1)).2.1 = 41 then (true, (e (a + 1)).2.1 + 1, (e (a + 1)).2.2) else (false, (e (a + 1)).2.1, [])) else (false, (e (a + 1)).2.1, []) : Rs).2.1 ∧ ((if (e (a + 1)).1 then (if (e (a + 1)).2.1 < lim ∧ T.2 (e (a + 1)).2.1 = 41 then (true, (e (a + 1)).2.1 + 1, (e (a + 1)).2.2) else (false, (e (a + 1)).2.1, [])) else (false, (e (a + 1)).2.1, []) : Rs).1 = true → CQ g'' d lim (if (e (a + 1)).1 then (if (e (a + 1)).2.1 < lim ∧ T.2 (e (a + 1)).2.1 = 41 then (true, (e (a + 1)).2.1 + 1, (e (a + 1)).2.2) else (false, (e (a + 1)).2.1, [])) else (false, (e (a + 1)).2.1, []) : Rs).2.1 (l ++ (if (e (a + 1)).1 then (if (e (a + 1)).2.1 < lim ∧ T.2 (e (a + 1)).2.1 = 41 then (true, (e (a + 1)).2.1 + 1, (e (a + 1)).2.2) else (false, (e (a + 1)).2.1, [])) else (false, (e (a + 1)).2.1, []) : Rs).2.2)) ∧ only (rqW d) g g''
            generalize e (a + 1) = r at x2 x3 okA ⊢
            by_cases h1 : r.1 = true
            · have x3 := x3 h1
              have he' := here_C hQ (only_refs x4 (refs_sI hR)) (CT_q Q1 x4 hT1) x3 okA.2.1
              rw [if_pos h1, if_neg i10, he', Option.bind_some]
              by_cases h2 : r.2.1 < lim ∧ T.2 r.2.1 = 41
              · obtain ⟨c3, c4⟩ := CQ_n Q1 x3
                rw [if_pos h1, if_pos h2, if_pos h2.1, if_pos (by rw [h2.2]; rfl)]
                exact ⟨_, rfl, c3.1, fun _ => c3, only_trans c2 (only_trans x4 c4)⟩
              · rw [if_pos h1, if_neg h2]
                refine ⟨g', ?_, x2, (fun h => by cases h), only_trans c2 x4⟩
                by_cases h3 : r.2.1 < lim
                · rw [if_pos h3, if_neg (show ¬ nI (T.2 r.2.1) = 41 from fun x => h2 ⟨h3, nI_inj (by have := Q2.2 r.2.1 (by omega); omega) (by decide) x⟩)]; rfl
                · rw [if_neg h3, if_neg (by decide)]; rfl
            · rw [if_neg h1, if_pos rfl, if_neg h1]
              exact ⟨g', rfl, x2, (fun h => by cases h), only_trans c2 x4⟩
        · rw [if_neg p, if_neg (show ¬ nI (T.2 a) = 40 from fun x => p (nI_inj (by omega) (by decide) x))]
          exact ⟨g, rfl, hq.1, (fun h => by cases h), only_rfl⟩
  · rw [if_neg q, prm_e q, if_pos (by decide), if_pos (by decide), if_neg (by decide)]
    exact ⟨g, rfl, hq.1, (fun h => by cases h), only_rfl⟩
/-! signs before a thing -/
def mnC (c : Nat → Nat) (lim : Nat) : Nat → Nat → Nat
  | 0, _ => 0
  | f + 1, a => if a < lim ∧ c a = 45 then mnC c lim f (a + 1) + 1 else 0
theorem rep_s (n : Nat) : List.replicate n 3000 ++ [3000] = List.replicate (n + 1) 3000 := by
  induction n with
  | zero => rfl
  | succ n ih =>
    show 3000 :: (List.replicate n 3000 ++ [3000]) = 3000 :: List.replicate (n + 1) 3000
    rw [ih]
theorem sgP_mn {c : Nat → Nat} {lim : Nat} {E : Option (Nat → Rs)} : ∀ f a, sgP c lim E f a = ((prm c lim E (a + mnC c lim f a)).1, (prm c lim E (a + mnC c lim f a)).2.1, (prm c lim E (a + mnC c lim f a)).2.2 ++ List.replicate (mnC c lim f a) 3000)
  | 0, a => by
    show prm c lim E a = ((prm c lim E (a + 0)).1, (prm c lim E (a + 0)).2.1, (prm c lim E (a + 0)).2.2 ++ [])
    rw [Nat.add_zero, List.append_nil]
  | f + 1, a => by
    by_cases q : a < lim ∧ c a = 45
    · have em : mnC c lim (f + 1) a = mnC c lim f (a + 1) + 1 := if_pos q
      rw [sgP_m q, sgP_mn f (a + 1), em, show a + (mnC c lim f (a + 1) + 1) = a + 1 + mnC c lim f (a + 1) by omega, ← rep_s, List.append_assoc]
    · have em : mnC c lim (f + 1) a = 0 := if_neg q
      rw [sgP_p q, em]
      show prm c lim E a = ((prm c lim E (a + 0)).1, (prm c lim E (a + 0)).2.1, (prm c lim E (a + 0)).2.2 ++ [])
      rw [Nat.add_zero, List.append_nil]
theorem mnC_le {c : Nat → Nat} {lim : Nat} : ∀ f a, a ≤ lim → a + mnC c lim f a ≤ lim
  | 0, a, h => h
  | f + 1, a, h => by
    unfold mnC
    by_cases q : a < lim ∧ c a = 45
    · rw [if_pos q]; have := mnC_le (c := c) f (a + 1) q.1; omega
    · rw [if_neg q]; exact h
theorem sgL2_C {T : Nat × (Nat → Nat)} {lim d : Nat} {rec_ : eH → Nat → Int32 → Option (eH × Int32)} {v1 : Int32} (hQ : QE T lim d) : ∀ (f m fu a : Nat) (g : eH) (l : List Nat), m + f = 40 → RefsOK g → CT g T → CQ g d lim a l → a ≤ lim → ∃ g', (∀ k33 : eH → Nat → Int32 → Int32 → Option (eH × Int32), f_X5_readSigned_o_L2 LF rec_ (fu + f + 1) k33 g 5 v1 (nI m) = k33 g' 5 v1 (nI (m + mnC T.2 lim f a))) ∧ CQ g' d lim (a + mnC T.2 lim f a) l ∧ only (rqW d) g g' := by
  intro f
  induction f with
  | zero =>
    intro m fu a g l hi hR hT hq ha
    refine ⟨g, fun k33 => ?_, hq, only_rfl⟩
    unfold f_X5_readSigned_o_L2
    rw [if_pos (show (40 : Int32) ≤ nI m by rw [show m = 40 by omega]; decide)]; rfl
  | succ f ih =>
    intro m fu a g l hi hR hT hq ha
    have he := here_C hQ hR hT hq ha
    have n4 : ¬ (40 : Int32) ≤ nI m := nI_ge (b := 40) (by omega) (by decide)
    have un : ∀ k33 : eH → Nat → Int32 → Int32 → Option (eH × Int32), f_X5_readSigned_o_L2 LF rec_ (fu + (f + 1) + 1) k33 g 5 v1 (nI m) = (if (40 : Int32) ≤ nI m then k33 g 5 v1 (nI m) else if isO LF 5 5 = true then (f_X5_here LF g 5).bind fun r2 => if r2 = 45 then f_X5_readSigned_o_L2 LF rec_ (fu + f + 1) k33 (sI g 5 3 ((gI g 5 3) + 1)) 5 v1 (nI m + Int32.ofInt 1) else k33 g 5 v1 (nI m) else none) := fun _ => rfl
    by_cases q : a < lim ∧ T.2 a = 45
    · have em : mnC T.2 lim (f + 1) a = mnC T.2 lim f (a + 1) + 1 := if_pos q
      obtain ⟨c1, c2⟩ := CQ_n hQ.1 hq
      obtain ⟨g', x1, x2, x3⟩ := ih (m + 1) fu (a + 1) _ l (by omega) (refs_sI hR) (CT_q hQ.1 c2 hT) c1 (by omega)
      rw [em, show a + (mnC T.2 lim f (a + 1) + 1) = a + 1 + mnC T.2 lim f (a + 1) by omega, show m + (mnC T.2 lim f (a + 1) + 1) = m + 1 + mnC T.2 lim f (a + 1) by omega]
      refine ⟨g', fun k33 => ?_, x2, only_trans c2 x3⟩
      rw [un, if_neg n4, if_pos iO_5, he, Option.bind_some, if_pos q.1, if_pos (by rw [q.2]; rfl), nI_p1]
      exact x1 k33
    · have em : mnC T.2 lim (f + 1) a = 0 := if_neg q
      rw [em]
      refine ⟨g, fun k33 => ?_, hq, only_rfl⟩
      rw [un, if_neg n4, if_pos iO_5, he, Option.bind_some]
      by_cases z : a < lim
      · rw [if_pos z, if_neg (show ¬ nI (T.2 a) = 45 from fun x => q ⟨z, nI_inj (by have := hQ.2.1.2 a (by have := hQ.2.2.1; omega); omega) (by decide) x⟩)]; rfl
      · rw [if_neg z, if_neg (by decide)]; rfl
theorem sgL45_C {T : Nat × (Nat → Nat)} {lim d a m : Nat} {rec_ : eH → Nat → Int32 → Option (eH × Int32)} {k62 : eH → Option (eH × Int32)} (hQ : QE T lim d) (hm : m ≤ 40) : ∀ (j i fu : Nat) (g : eH) (l : List Nat), i + j = m → RefsOK g → CQ g d lim a l → l.length + j ≤ 40 → ∃ g', f_X5_readSigned_o_L45 LF rec_ (fu + j + 1) k62 g 5 (nI m) (nI i) = k62 g' ∧ CQ g' d lim a (l ++ List.replicate j 3000) ∧ only (rqW d) g g' := by
  intro j
  induction j with
  | zero =>
    intro i fu g l hi hR hq hl
    refine ⟨g, ?_, by show CQ g d lim a (l ++ []); rw [List.append_nil]; exact hq, only_rfl⟩
    unfold f_X5_readSigned_o_L45
    rw [if_pos (nI_le (by omega) (by omega))]
  | succ j ih =>
    intro i fu g l hi hR hq hl
    obtain ⟨g1, x1, x2, x3⟩ := emit_C (k := 3000) (v := 126) hQ.1 hR hq (by omega) (by decide +kernel)
    obtain ⟨g2, y1, y2, y3⟩ := ih (i + 1) fu g1 (l ++ [3000]) (by omega) (only_refs x3 hR) x2 (by rw [List.length_append]; show l.length + 1 + j ≤ 40; omega)
    rw [List.append_assoc] at y2
    refine ⟨g2, ?_, y2, only_trans x3 y3⟩
    show (if nI m ≤ nI i then k62 g else if isO LF 5 5 = true then (f_X5_emit LF g 5 126).bind fun r12 => f_X5_readSigned_o_L45 LF rec_ (fu + j + 1) k62 r12 5 (nI m) (nI i + Int32.ofInt 1) else none) = _
    rw [if_neg (nI_ge (by omega) (by omega)), if_pos iO_5, x1, Option.bind_some, nI_p1]
    exact y1
theorem signed_C {T : Nat × (Nat → Nat)} {lim d dep : Nat} {E : Option (Nat → Rs)} {rec_ : eH → Nat → Int32 → Option (eH × Int32)} (hQ : QE T lim d) (hE : ∀ e, E = some e → okP lim e) (hrec : CSp T lim d (fun g => rec_ g 5 (nI dep)) (prm T.2 lim E)) : CSp T lim d (fun g => f_X5_readSigned_o LF rec_ g 5 (nI dep)) (ex3 T.2 lim E) := by
  intro g a l hR hT hq ha hl
  obtain ⟨Q1, Q2, Q3, Q4⟩ := id hQ
  have okS := sgP_ok (c := T.2) hE 40 a ha
  show ∃ g', f_X5_readSigned_o LF rec_ g 5 (nI dep) = some (g', if (sgP T.2 lim E 40 a).1 then 1 else 0) ∧ gI g' 5 3 = nI (sgP T.2 lim E 40 a).2.1 ∧ ((sgP T.2 lim E 40 a).1 = true → CQ g' d lim (sgP T.2 lim E 40 a).2.1 (l ++ (sgP T.2 lim E 40 a).2.2)) ∧ only (rqW d) g g'
  rw [sgP_mn] at okS ⊢
  have ml := mnC_le (c := T.2) 40 a ha
  obtain ⟨fu, hfu⟩ : ∃ fu, e_fu = fu + 40 + 1 := ⟨e_fu - 41, by unfold e_fu; omega⟩
  obtain ⟨g1, x0, x2, x3⟩ := sgL2_C (rec_ := rec_) (v1 := nI dep) hQ 40 0 fu a g l (by omega) hR hT hq ha
  have x1 : ∀ K : eH → Nat → Int32 → Int32 → Option (eH × Int32), f_X5_readSigned_o_L2 LF rec_ e_fu K g 5 (nI dep) 0 = K g1 5 (nI dep) (nI (mnC T.2 lim 40 a)) := fun K => by
    have := x0 K
    rw [Nat.zero_add] at this
    rw [hfu]; exact this
  generalize mnC T.2 lim 40 a = m at okS ml x1 x2 ⊢
  obtain ⟨g2, y1, y2, y3, y4⟩ := hrec g1 (a + m) l (only_refs x3 hR) (CT_q Q1 x3 hT) x2 ml (by omega)
  have y1 : rec_ g1 5 (nI dep) = some (g2, if (prm T.2 lim E (a + m)).1 then 1 else 0) := y1
  generalize prm T.2 lim E (a + m) = r at okS y1 y2 y3 ⊢
  have start : f_X5_readSigned_o LF rec_ g 5 (nI dep) = if (if r.1 = true then (1 : Int32) else 0) = 0 then some (g2, 0) else f_X5_readSigned_o_L45 LF rec_ e_fu (fun (h14 : eH) => some (h14, 1)) g2 5 (nI m) 0 := by
    unfold f_X5_readSigned_o
    rw [x1]
    show (if isO LF 5 5 = true then (rec_ g1 5 (nI dep)).bind fun r9 => if r9.2 = 0 then some (r9.1, 0) else f_X5_readSigned_o_L45 LF rec_ e_fu (fun (h14 : eH) => some (h14, 1)) r9.1 5 (nI m) 0 else none) = _
    rw [if_pos iO_5, y1, Option.bind_some]
  rw [start]
  by_cases h1 : r.1 = true
  · have o3 := okS.2.2 h1
    have ol : (r.2.2 ++ List.replicate m 3000).length + a ≤ r.2.1 := o3.2.1
    have op : r.2.1 ≤ lim := okS.2.1
    rw [List.length_append, List.length_replicate] at ol
    obtain ⟨fu2, hfu2⟩ : ∃ fu2, e_fu = fu2 + m + 1 := ⟨e_fu - m - 1, by unfold e_fu; omega⟩
    obtain ⟨g3, z1, z2, z3⟩ := sgL45_C (rec_ := rec_) (k62 := fun (h14 : eH) => some (h14, 1)) hQ (show m ≤ 40 by omega) m 0 fu2 g2 (l ++ r.2.2) (by omega) (only_refs y4 (only_refs x3 hR)) (y3 h1) (by rw [List.length_append]; omega)
    rw [List.append_assoc] at z2
    refine ⟨g3, ?_, z2.1, fun _ => z2, only_trans x3 (only_trans y4 z3)⟩
    rw [if_pos h1, if_neg i10, hfu2]
    exact z1
  · refine ⟨g2, ?_, y2, fun h => absurd h h1, only_trans x3 y4⟩
    rw [if_neg h1, if_pos rfl]
/-! a level -/
theorem lvL_C {T : Nat × (Nat → Nat)} {lim d lv most : Nat} {v2 : Int32} {P : Nat → Rs} {recS : eH → Nat → Int32 → Option (eH × Int32)} {rec_ : eH → Nat → Int32 → Int32 → Option (eH × Int32)} {k86 k100 : eH → Option (eH × Int32)} (hQ : QE T lim d) (h3 : lv < 3) (hm : most ≤ 40) (hP : okP lim P) (hrec : CSp T lim d (fun g => rec_ g 5 (nI (lv + 1)) v2) P) : ∀ (n i fu a : Nat) (g : eH) (l : List Nat), i + n = most → RefsOK g → CT g T → CQ g d lim a l → a ≤ lim → l.length ≤ a → ∃ g', f_X5_readLevel_o_L42 LF recS rec_ (fu + n + 1) k86 k100 g 5 (nI lv) v2 (nI most) (nI i) = (if (rpP T.2 lim P lv n a).1 then k100 g' else k86 g') ∧ gI g' 5 3 = nI (rpP T.2 lim P lv n a).2.1 ∧ ((rpP T.2 lim P lv n a).1 = true → CQ g' d lim (rpP T.2 lim P lv n a).2.1 (l ++ (rpP T.2 lim P lv n a).2.2)) ∧ only (rqW d) g g' := by
  obtain ⟨Q1, Q2, Q3, Q4⟩ := id hQ
  intro n
  induction n with
  | zero =>
    intro i fu a g l hi hR hT hq ha hl
    refine ⟨g, ?_, hq.1, fun _ => by show CQ g d lim a (l ++ []); rw [List.append_nil]; exact hq, only_rfl⟩
    unfold f_X5_readLevel_o_L42
    rw [if_pos (nI_le (by omega) (by omega))]; rfl
  | succ n ih =>
    intro i fu a g l hi hR hT hq ha hl
    have he := here_C hQ hR hT hq ha
    have nN : ¬ nI most ≤ nI i := nI_ge (by omega) (by omega)
    have un : f_X5_readLevel_o_L42 LF recS rec_ (fu + (n + 1) + 1) k86 k100 g 5 (nI lv) v2 (nI most) (nI i) = (if nI most ≤ nI i then k100 g else if isO LF 5 5 = true then (f_X5_here LF g 5).bind fun r5 => if (f_X5_levelOf r5) = nI lv then (f_X5_here LF g 5).bind fun r7 => (rec_ (sI g 5 3 ((gI g 5 3) + 1)) 5 (nI lv + 1) v2).bind fun r9 => if r9.2 = 0 then k86 r9.1 else (f_X5_emit LF r9.1 5 r7).bind fun r11 => f_X5_readLevel_o_L42 LF recS rec_ (fu + n + 1) k86 k100 r11 5 (nI lv) v2 (nI most) (nI i + Int32.ofInt 1) else k100 g else none) := rfl
    have no : (a < lim → rlO lv (T.2 a) = none) → ∃ g', f_X5_readLevel_o_L42 LF recS rec_ (fu + (n + 1) + 1) k86 k100 g 5 (nI lv) v2 (nI most) (nI i) = (if (rpP T.2 lim P lv (n + 1) a).1 then k100 g' else k86 g') ∧ gI g' 5 3 = nI (rpP T.2 lim P lv (n + 1) a).2.1 ∧ ((rpP T.2 lim P lv (n + 1) a).1 = true → CQ g' d lim (rpP T.2 lim P lv (n + 1) a).2.1 (l ++ (rpP T.2 lim P lv (n + 1) a).2.2)) ∧ only (rqW d) g g' := fun h => by
      rw [rpP_n h]
      refine ⟨g, ?_, hq.1, fun _ => by show CQ g d lim a (l ++ []); rw [List.append_nil]; exact hq, only_rfl⟩
      rw [un, if_neg nN, if_pos iO_5, he, Option.bind_some]
      by_cases z : a < lim
      · rw [if_pos z, if_neg (opq_n h3 (Q2.2 a (by omega)) (h z))]; rfl
      · rw [if_neg z, if_neg (opq_m lv h3)]; rfl
    by_cases q : a < lim
    · cases hk : rlO lv (T.2 a) with
      | none => exact no (fun _ => hk)
      | some k =>
        obtain ⟨s1, s2⟩ := opq_s h3 (Q2.2 a (by omega)) hk
        obtain ⟨c1, c2⟩ := CQ_n Q1 hq
        have hT1 := CT_q Q1 c2 hT
        obtain ⟨g1, x1, x2, x3, x4⟩ := hrec _ (a + 1) l (refs_sI hR) hT1 c1 (by omega) (by omega)
        have x1 : rec_ (sI g 5 3 (gI g 5 3 + 1)) 5 (nI (lv + 1)) v2 = some (g1, if (P (a + 1)).1 then 1 else 0) := x1
        have okA := hP (a + 1) (by omega)
        have hR1 : RefsOK g1 := only_refs x4 (refs_sI hR)
        rw [rpP_k q hk, un, if_neg nN, if_pos iO_5, he, Option.bind_some, if_pos q, if_pos s1, Option.bind_some, show nI lv + 1 = nI (lv + 1) from nI_add lv 1, x1, Option.bind_some]
        show ∃ g', (if (if (P (a + 1)).1 = true then (1 : Int32) else 0) = 0 then k86 g1 else (f_X5_emit LF g1 5 (nI (T.2 a))).bind fun r11 => f_X5_readLevel_o_L42 LF recS rec_ (fu + n + 1) k86 k100 r11 5 (nI lv) v2 (nI most) (nI i + Int32.ofInt 1)) = _ ∧ _
        unfold rpK
        generalize P (a + 1) = r at x2 x3 okA ⊢
        by_cases h1 : r.1 = true
        · have x3 := x3 h1
          have o3 := okA.2.2 h1
          obtain ⟨g2, y1, y2, y3⟩ := emit_C (k := k) (v := nI (T.2 a)) Q1 hR1 x3 (by rw [List.length_append]; omega) s2
          obtain ⟨g3, z1, z2, z3, z4⟩ := ih (i + 1) fu r.2.1 g2 (l ++ r.2.2 ++ [k]) (by omega) (only_refs y3 hR1) (CT_q Q1 y3 (CT_q Q1 x4 hT1)) y2 okA.2.1 (by rw [List.length_append, List.length_append]; show l.length + r.2.2.length + 1 ≤ r.2.1; omega)
          rw [if_pos h1, if_neg i10, y1, Option.bind_some, nI_p1, if_pos h1]
          refine ⟨g3, z1, z2, fun h => ?_, only_trans c2 (only_trans x4 (only_trans y3 z4))⟩
          have := z3 h
          rw [List.append_assoc, List.append_assoc] at this
          exact this
        · rw [if_neg h1, if_pos rfl, if_neg h1]
          exact ⟨g1, rfl, x2, (fun h => by cases h), only_trans c2 x4⟩
    · exact no (fun x => absurd x q)
theorem level_C {T : Nat × (Nat → Nat)} {lim d lv most : Nat} {v2 : Int32} {P : Nat → Rs} {recS : eH → Nat → Int32 → Option (eH × Int32)} {rec_ : eH → Nat → Int32 → Int32 → Option (eH × Int32)} (hQ : QE T lim d) (h3 : lv < 3) (hm : most = if lv = 0 then 1 else 40) (hP : okP lim P) (hrec : CSp T lim d (fun g => rec_ g 5 (nI (lv + 1)) v2) P) : CSp T lim d (fun g => f_X5_readLevel_o LF recS rec_ g 5 (nI lv) v2) (lvP T.2 lim P lv most) := by
  intro g a l hR hT hq ha hl
  obtain ⟨Q1, Q2, Q3, Q4⟩ := id hQ
  have m40 : most ≤ 40 := by rw [hm]; split <;> omega
  obtain ⟨g1, x1, x2, x3, x4⟩ := hrec g a l hR hT hq ha hl
  have x1 : rec_ g 5 (nI (lv + 1)) v2 = some (g1, if (P a).1 then 1 else 0) := x1
  have okA := hP a ha
  show ∃ g', f_X5_readLevel_o LF recS rec_ g 5 (nI lv) v2 = _ ∧ _
  unfold f_X5_readLevel_o
  rw [if_pos (show nI lv < 3 from nI_lt (b := 3) h3 (by decide)), if_neg (nI_pos (by omega)), if_pos iO_5, show nI lv + 1 = nI (lv + 1) from nI_add lv 1, x1, Option.bind_some]
  unfold lvP
  have e40 : (if nI lv = 0 then f_X5_readLevel_o_L42 LF recS rec_ e_fu (fun (h15 : eH) => some (h15, 0)) (fun (h16 : eH) => some (h16, 1)) g1 5 (nI lv) v2 1 0 else f_X5_readLevel_o_L42 LF recS rec_ e_fu (fun (h13 : eH) => some (h13, 0)) (fun (h14 : eH) => some (h14, 1)) g1 5 (nI lv) v2 40 0) = f_X5_readLevel_o_L42 LF recS rec_ e_fu (fun (h15 : eH) => some (h15, 0)) (fun (h16 : eH) => some (h16, 1)) g1 5 (nI lv) v2 (nI most) (nI 0) := by
    by_cases z : lv = 0
    · rw [if_pos (by rw [z]; rfl), hm, if_pos z]; rfl
    · rw [if_neg (nI_ne0 (by omega) (by omega)), hm, if_neg z]; rfl
  show ∃ g', (if (if (P a).1 = true then (1 : Int32) else 0) = 0 then some (g1, (0 : Int32)) else if nI lv = 0 then f_X5_readLevel_o_L42 LF recS rec_ e_fu (fun (h15 : eH) => some (h15, 0)) (fun (h16 : eH) => some (h16, 1)) g1 5 (nI lv) v2 1 0 else f_X5_readLevel_o_L42 LF recS rec_ e_fu (fun (h13 : eH) => some (h13, 0)) (fun (h14 : eH) => some (h14, 1)) g1 5 (nI lv) v2 40 0) = _ ∧ _
  rw [e40]
  obtain ⟨fu, hfu⟩ : ∃ fu, e_fu = fu + most + 1 := ⟨e_fu - most - 1, by unfold e_fu; omega⟩
  by_cases h1 : (P a).1 = true
  · have o3 := okA.2.2 h1
    obtain ⟨g2, y1, y2, y3, y4⟩ := lvL_C (recS := recS) (k86 := fun (h15 : eH) => some (h15, 0)) (k100 := fun (h16 : eH) => some (h16, 1)) hQ h3 m40 hP hrec most 0 fu (P a).2.1 g1 (l ++ (P a).2.2) (by omega) (only_refs x4 hR) (CT_q Q1 x4 hT) (x3 h1) okA.2.1 (by rw [List.length_append]; omega)
    rw [if_pos h1, if_neg i10, if_pos h1, hfu, y1]
    generalize rpP T.2 lim P lv most (P a).2.1 = t at y2 y3 ⊢
    refine ⟨g2, ?_, y2, fun h => ?_, only_trans x4 y4⟩
    · by_cases h2 : t.1 = true
      · show (if t.1 = true then some (g2, (1 : Int32)) else some (g2, 0)) = some (g2, if t.1 = true then 1 else 0)
        rw [if_pos h2, if_pos h2]
      · show (if t.1 = true then some (g2, (1 : Int32)) else some (g2, 0)) = some (g2, if t.1 = true then 1 else 0)
        rw [if_neg h2, if_neg h2]
    · have := y3 h
      rw [List.append_assoc] at this
      exact this
  · rw [if_neg h1, if_pos rfl, if_neg h1]
    exact ⟨g1, rfl, x2, (fun h => by cases h), x4⟩
theorem isB_01 (b : Bool) : isB (if b = true then (1 : Int32) else 0) = true := by cases b <;> decide
theorem level3_C {T : Nat × (Nat → Nat)} {lim d : Nat} {v2 : Int32} {P : Nat → Rs} {recS : eH → Nat → Int32 → Option (eH × Int32)} {rec_ : eH → Nat → Int32 → Int32 → Option (eH × Int32)} (hrec : CSp T lim d (fun g => recS g 5 v2) P) : CSp T lim d (fun g => f_X5_readLevel_o LF recS rec_ g 5 (nI 3) v2) P := by
  intro g a l hR hT hq ha hl
  obtain ⟨g1, x1, x2, x3, x4⟩ := hrec g a l hR hT hq ha hl
  have x1 : recS g 5 v2 = some (g1, if (P a).1 then 1 else 0) := x1
  refine ⟨g1, ?_, x2, x3, x4⟩
  show f_X5_readLevel_o LF recS rec_ g 5 (nI 3) v2 = _
  unfold f_X5_readLevel_o
  rw [if_neg (by decide), if_pos iO_5, x1, Option.bind_some, if_pos (isB_01 _)]
/-! all levels, all nests -/
theorem CSp_eq {T : Nat × (Nat → Nat)} {lim d : Nat} {f f' : eH → Option (eH × Int32)} {P : Nat → Rs} (e : ∀ g, f' g = f g) (h : CSp T lim d f P) : CSp T lim d f' P := fun g a l h1 h2 h3 h4 h5 => by
  rw [e g]; exact h g a l h1 h2 h3 h4 h5
theorem fg5_0 (n : Nat) (h : eH) (x0 : Nat) (x1 x2 : Int32) : fg_X5_readLevel LF (n + 1) 0 h x0 x1 x2 = f_X5_readLevel_o LF (fun h y0 y1 => fg_X5_readLevel LF n 1 h y0 y1 0) (fun h y0 y1 y2 => fg_X5_readLevel LF n 0 h y0 y1 y2) h x0 x1 x2 := by
  rw [fg_X5_readLevel]; rw [if_pos rfl]
theorem fg5_1 (n : Nat) (h : eH) (x0 : Nat) (x1 x2 : Int32) : fg_X5_readLevel LF (n + 1) 1 h x0 x1 x2 = f_X5_readSigned_o LF (fun h y0 y1 => fg_X5_readLevel LF n 2 h y0 y1 0) h x0 x1 := by
  rw [fg_X5_readLevel]; rw [if_neg (by decide), if_pos rfl]
theorem fg5_2 (n : Nat) (h : eH) (x0 : Nat) (x1 x2 : Int32) : fg_X5_readLevel LF (n + 1) 2 h x0 x1 x2 = f_X5_readThing_o LF (fun h y0 y1 y2 => fg_X5_readLevel LF n 0 h y0 y1 y2) h x0 x1 := by
  rw [fg_X5_readLevel]; rw [if_neg (by decide), if_neg (by decide)]
theorem chain_C {T : Nat × (Nat → Nat)} {lim d dep n : Nat} {E : Option (Nat → Rs)} (hQ : QE T lim d) (hd4 : dep ≤ 4) (hE4 : E = none ↔ dep = 4) (hrec : ∀ e, E = some e → okP lim e ∧ CSp T lim d (fun g => fg_X5_readLevel LF n 0 g 5 0 (nI (dep + 1))) e) : CSp T lim d (fun g => fg_X5_readLevel LF (n + 1 + 1 + 1 + 1 + 1 + 1) 0 g 5 0 (nI dep)) (ex0 T.2 lim E) := by
  have hE : ∀ e, E = some e → okP lim e := fun e h => (hrec e h).1
  have t0 : CSp T lim d (fun g => fg_X5_readLevel LF (n + 1) 2 g 5 (nI dep) 0) (prm T.2 lim E) := CSp_eq (fun g => fg5_2 n g 5 (nI dep) 0) (thing_C (rec_ := fun h y0 y1 y2 => fg_X5_readLevel LF n 0 h y0 y1 y2) hQ hd4 hE4 hrec)
  have t1 : CSp T lim d (fun g => fg_X5_readLevel LF (n + 1 + 1) 1 g 5 (nI dep) 0) (ex3 T.2 lim E) := CSp_eq (fun g => fg5_1 (n + 1) g 5 (nI dep) 0) (signed_C (rec_ := fun h y0 y1 => fg_X5_readLevel LF (n + 1) 2 h y0 y1 0) hQ hE t0)
  have t2 : CSp T lim d (fun g => fg_X5_readLevel LF (n + 1 + 1 + 1) 0 g 5 (nI 3) (nI dep)) (ex3 T.2 lim E) := CSp_eq (fun g => fg5_0 (n + 1 + 1) g 5 (nI 3) (nI dep)) (level3_C (recS := fun h y0 y1 => fg_X5_readLevel LF (n + 1 + 1) 1 h y0 y1 0) (rec_ := fun h y0 y1 y2 => fg_X5_readLevel LF (n + 1 + 1) 0 h y0 y1 y2) t1)
  have t3 : CSp T lim d (fun g => fg_X5_readLevel LF (n + 1 + 1 + 1 + 1) 0 g 5 (nI 2) (nI dep)) (ex2 T.2 lim E) := CSp_eq (fun g => fg5_0 (n + 1 + 1 + 1) g 5 (nI 2) (nI dep)) (level_C (lv := 2) (recS := fun h y0 y1 => fg_X5_readLevel LF (n + 1 + 1 + 1) 1 h y0 y1 0) (rec_ := fun h y0 y1 y2 => fg_X5_readLevel LF (n + 1 + 1 + 1) 0 h y0 y1 y2) hQ (by omega) rfl (ex3_ok hE) t2)
  have t4 : CSp T lim d (fun g => fg_X5_readLevel LF (n + 1 + 1 + 1 + 1 + 1) 0 g 5 (nI 1) (nI dep)) (ex1 T.2 lim E) := CSp_eq (fun g => fg5_0 (n + 1 + 1 + 1 + 1) g 5 (nI 1) (nI dep)) (level_C (lv := 1) (recS := fun h y0 y1 => fg_X5_readLevel LF (n + 1 + 1 + 1 + 1) 1 h y0 y1 0) (rec_ := fun h y0 y1 y2 => fg_X5_readLevel LF (n + 1 + 1 + 1 + 1) 0 h y0 y1 y2) hQ (by omega) rfl (ex2_ok hE) t3)
  exact CSp_eq (fun g => fg5_0 (n + 1 + 1 + 1 + 1 + 1) g 5 (nI 0) (nI dep)) (level_C (lv := 0) (recS := fun h y0 y1 => fg_X5_readLevel LF (n + 1 + 1 + 1 + 1 + 1) 1 h y0 y1 0) (rec_ := fun h y0 y1 y2 => fg_X5_readLevel LF (n + 1 + 1 + 1 + 1 + 1) 0 h y0 y1 y2) hQ (by omega) rfl (ex1_ok hE) t4)
theorem nest_C {T : Nat × (Nat → Nat)} {lim d : Nat} (hQ : QE T lim d) : ∀ r n, r ≤ 4 → CSp T lim d (fun g => fg_X5_readLevel LF (n + 6 * (r + 1)) 0 g 5 0 (nI (4 - r))) (ExP T.2 lim r) := by
  intro r
  induction r with
  | zero =>
    intro n hr
    rw [show n + 6 * (0 + 1) = n + 1 + 1 + 1 + 1 + 1 + 1 by omega]
    exact chain_C (dep := 4) hQ (by omega) ⟨fun _ => rfl, fun _ => rfl⟩ (fun e h => by cases h)
  | succ r ih =>
    intro n hr
    have hi := ih n (by omega)
    rw [show n + 6 * (r + 1 + 1) = n + 6 * (r + 1) + 1 + 1 + 1 + 1 + 1 + 1 by omega]
    refine chain_C (dep := 4 - (r + 1)) (E := some (ExP T.2 lim r)) hQ (by omega) ⟨(fun h => by cases h), (fun h => by omega)⟩ (fun e h => ?_)
    cases h
    rw [show 4 - (r + 1) + 1 = 4 - r by omega]
    exact ⟨ExP_ok r, hi⟩

/-! rule: the reference's reader -/
def MQr (g : eH) (c : Nat → Nat) (lim a : Nat) (l : List Nat) : Prop := RD g c lim a ∧ gI g 73 20 = nI l.length ∧ ∀ k, k < l.length → gI g 81 k = nI (l.getD k 0)
def mqW (j k : Nat) : Prop := (j = 73 ∧ (k = 11 ∨ k = 13 ∨ k = 20)) ∨ j = 81
def MSp (c : Nat → Nat) (lim K dep : Nat) (f : eH → Option (eH × Int32)) (P : Nat → Rs) : Prop := ∀ g a l, RefsOK g → MQr g c lim a l → gI g 73 13 = nI dep → lim - a ≤ K → l.length ≤ a → ∃ g' x, f g = some (g', if (P a).1 then 1 else 0) ∧ RD g' c lim (P a).2.1 ∧ gI g' 73 20 = nI x ∧ x + a ≤ l.length + (P a).2.1 ∧ ((P a).1 = true → MQr g' c lim (P a).2.1 (l ++ (P a).2.2) ∧ gI g' 73 13 = nI dep) ∧ only mqW g g'
theorem MSp_eq {c : Nat → Nat} {lim K dep : Nat} {f f' : eH → Option (eH × Int32)} {P : Nat → Rs} (e : ∀ g, f' g = f g) (h : MSp c lim K dep f P) : MSp c lim K dep f' P := fun g a l h1 h2 h3 h4 h5 => by
  rw [e g]; exact h g a l h1 h2 h3 h4 h5
theorem MQ_11 {g : eH} {c : Nat → Nat} {lim a a' : Nat} {l : List Nat} (h : MQr g c lim a l) (ha : a' ≤ lim) : MQr (sI g 73 11 (nI a')) c lim a' l ∧ only mqW g (sI g 73 11 (nI a')) := ⟨⟨RD_n h.1 ha, by rw [gI_sI, if_neg (by omega)]; exact h.2.1, fun k hk => by rw [gI_sI, if_neg (by omega)]; exact h.2.2 k hk⟩, only_sI (by unfold mqW; omega)⟩
theorem codes_x {g : eH} {x : Nat} {v : Int32} (hR : RefsOK g) (h20 : gI g 73 20 = nI x) (hx : x < 80) : f_X11_codes LF g 73 v = some (sI (sI g 81 x v) 73 20 (nI (x + 1))) := by
  have e : gI (sI g 81 x v) 73 20 = nI x := by rw [gI_sI, if_neg (by omega)]; exact h20
  unfold f_X11_codes
  rw [if_pos iO_73, r_73_18 hR, Option.bind_some, h20, iA_81, if_pos (in_nI hx (by decide)), nI_clamp (by omega), e, Option.bind_some, show nI x + 1 = nI (x + 1) from nI_add x 1]
theorem codes_o {g : eH} {x : Nat} {v : Int32} : only (fun j k => j = 81 ∨ (j = 73 ∧ k = 20)) g (sI (sI g 81 x v) 73 20 (nI (x + 1))) := only_trans (only_sI (Or.inl rfl)) (only_sI (Or.inr ⟨rfl, rfl⟩))
theorem codes_M {g : eH} {c : Nat → Nat} {lim a k : Nat} {l : List Nat} {v : Int32} (hR : RefsOK g) (h : MQr g c lim a l) (hl : l.length < 80) (hv : v = nI k) : ∃ g', f_X11_codes LF g 73 v = some g' ∧ MQr g' c lim a (l ++ [k]) ∧ gI g' 73 13 = gI g 73 13 ∧ only mqW g g' := by
  have o := codes_o (g := g) (x := l.length) (v := v)
  refine ⟨_, codes_x hR h.2.1 hl, ⟨RD_only o (by omega) (by omega) (fun k => by omega) h.1, ?_, fun j hj => ?_⟩, o_I o (by omega), only_mono (fun j k a => by unfold mqW; omega) o⟩
  · rw [gI_sI, if_pos ⟨rfl, rfl⟩, List.length_append]; rfl
  · rw [List.length_append] at hj
    have hj : j < l.length + 1 := hj
    rw [getN_app hj, gI_sI, if_neg (by omega), gI_sI]
    by_cases z : j = l.length
    · rw [if_pos ⟨rfl, z⟩, if_pos z]; exact hv
    · rw [if_neg (fun x => z x.2), if_neg z]; exact h.2.2 j (by omega)
/-! a number -/
theorem numL_M {c : Nat → Nat} {lim : Nat} : ∀ (f i fu a v : Nat) (g : eH) (l : List Nat), i + f = 3 → RefsOK g → MQr g c lim a l → ∃ g', f_X11_number_L13 LF (fu + f + 1) (fun (h10 : eH) (w2_11 : Int32) => some (h10, w2_11)) g 73 3 (nI v) (nI i) = some (g', nI (nmD c lim f a v).2) ∧ MQr g' c lim (nmD c lim f a v).1 l ∧ only (fun j k => j = 73 ∧ k = 11) g g' := by
  intro f
  induction f with
  | zero =>
    intro i fu a v g l hi hR hq
    refine ⟨g, ?_, hq, only_rfl⟩
    unfold f_X11_number_L13
    rw [if_pos (show (3 : Int32) ≤ nI i by rw [show i = 3 by omega]; decide)]; rfl
  | succ f ih =>
    intro i fu a v g l hi hR hq
    have n3 : ¬ (3 : Int32) ≤ nI i := nI_ge (b := 3) (by omega) (by decide)
    have un : f_X11_number_L13 LF (fu + (f + 1) + 1) (fun (h10 : eH) (w2_11 : Int32) => some (h10, w2_11)) g 73 3 (nI v) (nI i) = (if (3 : Int32) ≤ nI i then some (g, nI v) else if isO LF 73 11 = true then (f_X11_isDigit LF g 73).bind fun r5 => if r5 = 0 then some (g, nI v) else (gR g 73 9).bind fun b7 => if inA LF b7 0 (gI g 73 11) = true then f_X11_number_L13 LF (fu + f + 1) (fun (h10 : eH) (w2_11 : Int32) => some (h10, w2_11)) (sI g 73 11 ((gI g 73 11) + 1)) 73 3 (((10 * nI v) + (gI g b7 (gI g 73 11).toNatClampNeg)) - 48) (nI i + Int32.ofInt 1) else none else none) := rfl
    rcases isDigit_M hR hq.1 with ⟨q, e⟩ | ⟨q, e⟩
    · have em : nmD c lim (f + 1) a v = nmD c lim f (a + 1) (10 * v + (c a - 48)) := if_pos q
      obtain ⟨d1, d2, d3⟩ := id q
      obtain ⟨c1, c2⟩ := MQ_11 (a' := a + 1) hq (by omega)
      obtain ⟨g', x1, x2, x3⟩ := ih (i + 1) fu (a + 1) (10 * v + (c a - 48)) _ l (by omega) (refs_sI hR) c1
      rw [em]
      refine ⟨g', ?_, x2, only_trans (only_sI ⟨rfl, rfl⟩) x3⟩
      have l80 := hq.1.2.2.2.1
      rw [un, if_neg n3, if_pos iO_73, e, Option.bind_some, if_neg i10, r_73_9 hR, Option.bind_some, hq.1.2.1, iA_78, if_pos (in_nI (by omega) (by decide)), nI_clamp (by omega), (hq.1.2.2.1 a d1).1, show nI a + 1 = nI (a + 1) from nI_add a 1, nI_p1, show (10 : Int32) * nI v + nI (c a) - 48 = nI (10 * v + (c a - 48)) by rw [show (10 : Int32) = nI 10 from rfl, pk_mul, nI_add, show nI (10 * v + c a) - 48 = nI (10 * v + c a - 48) from pk_sub (b := 48) (by omega)]; exact congrArg nI (by omega)]
      exact x1
    · have em : nmD c lim (f + 1) a v = (a, v) := if_neg q
      rw [em]
      refine ⟨g, ?_, hq, only_rfl⟩
      rw [un, if_neg n3, if_pos iO_73, e, Option.bind_some, if_pos rfl]
theorem num_M {c : Nat → Nat} {lim a : Nat} {g : eH} {l : List Nat} (hR : RefsOK g) (hq : MQr g c lim a l) (d : dgT c lim a) : ∃ g', f_X11_number LF g 73 3 = some (g', nI (nmD c lim 3 a 0).2) ∧ MQr g' c lim (nmD c lim 3 a 0).1 l ∧ only (fun j k => j = 73 ∧ k = 11) g g' := by
  obtain ⟨fu, hfu⟩ : ∃ fu, e_fu = fu + 3 + 1 := ⟨e_fu - 4, by unfold e_fu; omega⟩
  obtain ⟨g', x1, x2, x3⟩ := numL_M (c := c) (lim := lim) 3 0 fu a 0 g l (by omega) hR hq
  refine ⟨g', ?_, x2, x3⟩
  rcases isDigit_M hR hq.1 with ⟨q, e⟩ | ⟨q, e⟩
  · unfold f_X11_number
    rw [if_pos iO_73, e, Option.bind_some, if_neg i10, hfu]
    exact x1
  · exact absurd d q
/-! signs -/
def rfA (lv i s : Nat) : Bool := !(decide (i < sLn (3 + lv)) && decide (sBy (3 + lv) i = nI s)) || decide (rlO lv s = some (2000 + i + (if lv = 0 then 0 else if lv = 1 then 3 else 5)))
theorem rfA_k : ∀ lv, lv < 3 → ∀ i, i < 5 → ∀ s, s < 256 → rfA lv i s = true := by decide +kernel
theorem ref_op {lv i s : Nat} (h3 : lv < 3) (hs : s < 256) (hi : i < sLn (3 + lv)) (h : sBy (3 + lv) i = nI s) : rlO lv s = some (2000 + i + (if lv = 0 then 0 else if lv = 1 then 3 else 5)) ∧ i < 5 := by
  have i5 : i < 5 := Nat.lt_of_lt_of_le hi (sLn_le _ (by omega))
  have := rfA_k lv h3 i i5 s hs
  unfold rfA at this
  rw [decide_eq_true hi, decide_eq_true h] at this
  exact ⟨of_decide_eq_true (by simpa using this), i5⟩
def rfB (lv s : Nat) : Bool := match rlO lv s with
  | none => true
  | some k => (List.range 5).any fun i => decide (i < sLn (3 + lv)) && decide (sBy (3 + lv) i = nI s)
theorem rfB_k : ∀ lv, lv < 3 → ∀ s, s < 256 → rfB lv s = true := by decide +kernel
theorem ref_no {lv s : Nat} (h3 : lv < 3) (hs : s < 256) (h : ∀ i', i' < sLn (3 + lv) → sBy (3 + lv) i' ≠ nI s) : rlO lv s = none := by
  cases hk : rlO lv s with
  | none => rfl
  | some k =>
    have := rfB_k lv h3 s hs
    unfold rfB at this
    rw [hk] at this
    obtain ⟨i, _, hi⟩ := List.any_eq_true.mp this
    rw [Bool.and_eq_true] at hi
    exact absurd (of_decide_eq_true hi.2) (h i (of_decide_eq_true hi.1))
theorem ref_th : ∀ i, i < 5 → ∀ s, s < 256 → sBy 2 i = nI s → thO s = some i := by decide +kernel
def rtB (s : Nat) : Bool := match thO s with
  | none => true
  | some k => decide (k < sLn 2) && decide (sBy 2 k = nI s)
theorem rtB_k : ∀ s, s < 256 → rtB s = true := by decide +kernel
theorem ref_tn {s : Nat} (hs : s < 256) (h : ∀ i', i' < sLn 2 → sBy 2 i' ≠ nI s) : thO s = none := by
  cases hk : thO s with
  | none => rfl
  | some k =>
    have := rtB_k s hs
    unfold rtB at this
    rw [hk, Bool.and_eq_true] at this
    exact absurd (of_decide_eq_true this.2) (h k (of_decide_eq_true this.1))
theorem dg_th : ∀ s, s < 256 → 48 ≤ s → s ≤ 57 → thO s = none ∧ s ≠ 45 := by decide +kernel
/-! a thing that no minus stands before -/
theorem thingP_M {c : Nat → Nat} {lim K dep : Nat} {E : Option (Nat → Rs)} {recT : eH → Nat → Option (eH × Int32)} {recR : eH → Nat → Int32 → Option (eH × Int32)} (h40 : lim ≤ 40) (hd4 : dep ≤ 4) (hE4 : E = none ↔ dep = 4) (hrec : ∀ e, E = some e → okP lim e ∧ MSp c lim K (dep + 1) (fun g => recR g 73 0) e) {g : eH} {a : Nat} {l : List Nat} (hR : RefsOK g) (hq : MQr g c lim a l) (h13 : gI g 73 13 = nI dep) (hK : lim - a ≤ K) (hl : l.length ≤ a) (nm : ¬ (a < lim ∧ c a = 45)) : ∃ g' x, f_X11_readsThing_o LF recT recR g 73 = some (g', if (prm c lim E a).1 then 1 else 0) ∧ RD g' c lim (prm c lim E a).2.1 ∧ gI g' 73 20 = nI x ∧ x + a ≤ l.length + (prm c lim E a).2.1 ∧ ((prm c lim E a).1 = true → MQr g' c lim (prm c lim E a).2.1 (l ++ (prm c lim E a).2.2) ∧ gI g' 73 13 = nI dep) ∧ only mqW g g' := by
  have aL := hq.1.2.2.2.2
  have tk : f_X11_takes LF g 73 45 = some (sI g 73 11 (nI a), 0) := by
    rcases takes_M (w := 45) hR hq.1 (by decide) with ⟨b1, b2⟩ | ⟨b1, b2⟩
    · exact absurd b1 nm
    · exact b2
  obtain ⟨q1, o1⟩ := MQ_11 (a' := a) hq aL
  have hR1 : RefsOK (sI g 73 11 (nI a)) := refs_sI hR
  have d1 : gI (sI g 73 11 (nI a)) 73 13 = nI dep := by rw [gI_sI, if_neg (by omega)]; exact h13
  unfold f_X11_readsThing_o
  rw [if_pos iO_73, tk, Option.bind_some]
  show ∃ g' x, (if (0 : Int32) = 0 then _ else _) = _ ∧ _
  rw [if_pos rfl]
  generalize sI g 73 11 (nI a) = g1 at q1 o1 hR1 d1 ⊢
  rcases isDigit_M hR1 q1.1 with ⟨d, e⟩ | ⟨d, e⟩
  · obtain ⟨g2, x1, x2, x3⟩ := num_M hR1 q1 d
    have n3 := nmD_3 (c := c) d
    have o2 : only mqW g1 g2 := only_mono (fun j k a => by unfold mqW; omega) x3
    obtain ⟨g3, y1, y2, y3, y4⟩ := codes_M (k := (nmD c lim 3 a 0).2) (only_refs o2 hR1) x2 (by omega) (v := nI (nmD c lim 3 a 0).2) rfl
    rw [prm_d d]
    refine ⟨g3, (l ++ [(nmD c lim 3 a 0).2]).length, ?_, y2.1, y2.2.1, ?_, fun _ => ⟨y2, (y3.trans (o_I x3 (by omega))).trans d1⟩, only_trans o1 (only_trans o2 y4)⟩
    · rw [e, Option.bind_some, if_neg i10, x1, Option.bind_some, y1, Option.bind_some]; rfl
    · rw [List.length_append]; show l.length + 1 + a ≤ l.length + (nmD c lim 3 a 0).1; omega
  · rw [e, Option.bind_some, if_pos rfl]
    have nd : a < lim → ¬ (48 ≤ c a ∧ c a ≤ 57) := fun z y => d ⟨z, y⟩
    rcases takesOf_M hR1 q1.1 (show 2 < 7 by decide) with ⟨i, t1, t2, t3, t4, t5⟩ | ⟨t1, t2⟩
    · have i5 : i < 5 := Nat.lt_of_lt_of_le t2 (sLn_le 2 (by decide))
      have th := ref_th i i5 _ (q1.1.2.2.1 a t1).2 t3
      obtain ⟨q2, o2⟩ := MQ_11 (a' := a + 1) q1 (by omega)
      obtain ⟨g3, y1, y2, y3, y4⟩ := codes_M (k := 1000 + i) (refs_sI hR1) q2 (by omega) (v := 1000 + nI i) (nI_add 1000 i)
      rw [prm_t t1 (nd t1) th]
      refine ⟨g3, (l ++ [1000 + i]).length, ?_, y2.1, y2.2.1, ?_, fun _ => ⟨y2, (y3.trans (by rw [gI_sI, if_neg (by omega)])).trans d1⟩, only_trans o1 (only_trans o2 y4)⟩
      · rw [t5, Option.bind_some, if_neg (nI_pos (by omega)), y1, Option.bind_some]; rfl
      · rw [List.length_append]; show l.length + 1 + a ≤ l.length + (a + 1); omega
    · obtain ⟨q2, o2⟩ := MQ_11 (a' := a) q1 aL
      have hR2 : RefsOK (sI g1 73 11 (nI a)) := refs_sI hR1
      have d2 : gI (sI g1 73 11 (nI a)) 73 13 = nI dep := by rw [gI_sI, if_neg (by omega)]; exact d1
      rw [t2, Option.bind_some]
      show ∃ g' x, (if (-1 : Int32) < 0 then _ else _) = _ ∧ _
      rw [if_pos (by decide)]
      show ∃ g' x, (if (gI (sI g1 73 11 (nI a)) 73 13) = 4 then some (sI g1 73 11 (nI a), (0 : Int32)) else (f_X11_takes LF (sI g1 73 11 (nI a)) 73 40).bind fun r8 => if r8.2 = 0 then some (r8.1, 0) else (recR (sI r8.1 73 13 ((gI r8.1 73 13) + 1)) 73 0).bind fun r10 => if r10.2 = 0 then some (r10.1, 0) else (f_X11_takes LF r10.1 73 41).bind fun r12 => if r12.2 = 0 then some (r12.1, 0) else some (sI r12.1 73 13 ((gI r12.1 73 13) - 1), 1)) = _ ∧ _
      generalize sI g1 73 11 (nI a) = g2 at q2 o2 hR2 d2 ⊢
      have oo : only mqW g g2 := only_trans o1 o2
      have fail : ∀ g', (prm c lim E a) = (false, a, []) → RD g' c lim a → gI g' 73 20 = nI l.length → only mqW g g' → ∃ g'' x, some (g', (0 : Int32)) = some (g'', if (prm c lim E a).1 then 1 else 0) ∧ RD g'' c lim (prm c lim E a).2.1 ∧ gI g'' 73 20 = nI x ∧ x + a ≤ l.length + (prm c lim E a).2.1 ∧ ((prm c lim E a).1 = true → MQr g'' c lim (prm c lim E a).2.1 (l ++ (prm c lim E a).2.2) ∧ gI g'' 73 13 = nI dep) ∧ only mqW g g'' := fun g' e1 e2 e3 e4 => by
        rw [e1]
        exact ⟨g', l.length, rfl, e2, e3, Nat.le_refl _, (fun h => by cases h), e4⟩
      by_cases zl : a < lim
      · have thn : thO (c a) = none := ref_tn (q1.1.2.2.1 a zl).2 (t1 zl)
        have pe := prm_o (E := E) zl (nd zl) thn
        by_cases z4 : dep = 4
        · rw [d2, if_pos (by rw [z4]; rfl)]
          have en := hE4.mpr z4
          refine fail g2 ?_ q2.1 q2.2.1 oo
          rw [pe, en]
          by_cases p : c a = 40
          · rw [if_pos p]; rfl
          · rw [if_neg p]
        · rw [d2, if_neg (show ¬ nI dep = 4 from fun x => z4 (nI_inj (by omega) (by decide) x))]
          rcases takes_M (w := 40) hR2 q2.1 (by decide) with ⟨b1, b2⟩ | ⟨b1, b2⟩
          · have b2 : f_X11_takes LF g2 73 40 = some (sI g2 73 11 (nI (a + 1)), 1) := b2
            obtain ⟨q3, o3⟩ := MQ_11 (a' := a + 1) q2 (by omega)
            have o4 : only (fun j k => j = 73 ∧ k = 13) (sI g2 73 11 (nI (a + 1))) (sI (sI g2 73 11 (nI (a + 1))) 73 13 (nI (dep + 1))) := only_sI ⟨rfl, rfl⟩
            have q4 : MQr (sI (sI g2 73 11 (nI (a + 1))) 73 13 (nI (dep + 1))) c lim (a + 1) l := ⟨RD_only o4 (by omega) (by omega) (fun k => by omega) q3.1, (o_I o4 (by omega)).trans q3.2.1, fun k hk => (o_I o4 (by omega)).trans (q3.2.2 k hk)⟩
            have d3 : gI (sI g2 73 11 (nI (a + 1))) 73 13 = nI dep := by rw [gI_sI, if_neg (by omega)]; exact d2
            rw [b2, Option.bind_some]
            show ∃ g' x, (if (1 : Int32) = 0 then _ else (recR (sI (sI g2 73 11 (nI (a + 1))) 73 13 ((gI (sI g2 73 11 (nI (a + 1))) 73 13) + 1)) 73 0).bind fun r10 => if r10.2 = 0 then some (r10.1, (0 : Int32)) else (f_X11_takes LF r10.1 73 41).bind fun r12 => if r12.2 = 0 then some (r12.1, 0) else some (sI r12.1 73 13 ((gI r12.1 73 13) - 1), 1)) = _ ∧ _
            rw [if_neg i10, d3, show nI dep + 1 = nI (dep + 1) from nI_add dep 1]
            obtain ⟨e, hEe⟩ : ∃ e, E = some e := by
              cases hE : E with
              | none => exact absurd (hE4.mp hE) z4
              | some e => exact ⟨e, rfl⟩
            obtain ⟨okE, sp⟩ := hrec e hEe
            obtain ⟨g3, x, y1, y2, y3, y4, y5, y6⟩ := sp _ (a + 1) l (refs_sI (refs_sI hR2)) q4 (by rw [gI_sI, if_pos ⟨rfl, rfl⟩]) (by omega) (by omega)
            have y1 : recR (sI (sI g2 73 11 (nI (a + 1))) 73 13 (nI (dep + 1))) 73 0 = some (g3, if (e (a + 1)).1 then 1 else 0) := y1
            have okA := okE (a + 1) (by omega)
            have hR3 : RefsOK g3 := only_refs y6 (refs_sI (refs_sI hR2))
            have o5 : only mqW g g3 := only_trans oo (only_trans o3 (only_trans (only_mono (fun j k a => by unfold mqW; omega) o4) y6))
            have pE : prm c lim E a = prE c lim (some e) a := by rw [pe, if_pos b1.2, hEe]
            rw [y1, Option.bind_some, pE]
            show ∃ g' x, (if (if (e (a + 1)).1 = true then (1 : Int32) else 0) = 0 then some (g3, (0 : Int32)) else (f_X11_takes LF g3 73 41).bind fun r12 => if r12.2 = 0 then some (r12.1, 0) else some (sI r12.1 73 13 ((gI r12.1 73 13) - 1), 1)) = some (g', if (if (e (a + 1)).1 then (if (e (a + 1)).2.1 < lim ∧ c (e (a + 1)).2.1 = 41 then (true, (e (a + 1)).2.1 + 1, (e (a + 1)).2.2) else (false, (e (a + 1)).2.1, [])) else (false, (e (a + 1)).2.1, []) : Rs).1 then 1 else 0) ∧ RD g' c lim (if (e (a + 1)).1 then (if (e (a + 1)).2.1 < lim ∧ c (e (a + 1)).2.1 = 41 then (true, (e (a + 1)).2.1 + 1, (e (a + 1)).2.2) else (false, (e (a + 1)).2.1, [])) else (false, (e (a + 1)).2.1, []) : Rs).2.1 ∧ gI g' 73 20 = nI x ∧ x + a ≤ l.length + (if (e (a + 1)).1 then (if (e (a + 1)).2.1 < lim ∧ c (e (a + 1)).2.1 = 41 then (true, (e (a + 1)).2.1 + 1, (e (a + 1)).2.2) else (false, (e (a + 1)).2.1, [])) else (false, (e (a + 1)).2.1, []) : Rs).2.1 ∧ ((if (e (a + 1)).1 then (if (e (a + 1)).2.1 < lim ∧ c (e (a + 1)).2.1 = 41 then (true, (e (a + 1)).2.1 + 1, (e (a + 1)).2.2) else (false, (e (a + 1)).2.1, [])) else (false, (e (a + 1)).2.1, []) : Rs).1 = true → MQr g' c lim (if (e (a + 1)).1 then (if (e (a + 1)).2.1 < lim ∧ c (e (a + 1)).2.1 = 41 then (true, (e (a + 1)).2.1 + 1, (e (a + 1)).2.2) else (false, (e (a + 1)).2.1, [])) else (false, (e (a + 1)).2.1, []) : Rs).2.1 (l ++ (if (e (a + 1)).1 then (if (e (a + 1)).2.1 < lim ∧ c (e (a + 1)).2.1 = 41 then (true, (e (a + 1)).2.1 + 1, (e (a + 1)).2.2) else (false, (e (a + 1)).2.1, [])) else (false, (e (a + 1)).2.1, []) : Rs).2.2) ∧ gI g' 73 13 = nI dep) ∧ only mqW g g'
            generalize e (a + 1) = r at y2 y4 y5 okA ⊢
            by_cases h1 : r.1 = true
            · obtain ⟨y5a, y5b⟩ := y5 h1
              have o3' := okA.2.2 h1
              rw [if_pos h1, if_neg i10, if_pos h1]
              rcases takes_M (w := 41) hR3 y2 (by decide) with ⟨u1, u2⟩ | ⟨u1, u2⟩
              · have u2 : f_X11_takes LF g3 73 41 = some (sI g3 73 11 (nI (r.2.1 + 1)), 1) := u2
                obtain ⟨q5, o6⟩ := MQ_11 (a' := r.2.1 + 1) y5a (by omega)
                have d4 : gI (sI g3 73 11 (nI (r.2.1 + 1))) 73 13 = nI (dep + 1) := by rw [gI_sI, if_neg (by omega)]; exact y5b
                have o7 : only (fun j k => j = 73 ∧ k = 13) (sI g3 73 11 (nI (r.2.1 + 1))) (sI (sI g3 73 11 (nI (r.2.1 + 1))) 73 13 (nI dep)) := only_sI ⟨rfl, rfl⟩
                rw [u2, Option.bind_some, if_pos u1]
                show ∃ g' x, (if (1 : Int32) = 0 then _ else some (sI (sI g3 73 11 (nI (r.2.1 + 1))) 73 13 ((gI (sI g3 73 11 (nI (r.2.1 + 1))) 73 13) - 1), (1 : Int32))) = _ ∧ _
                rw [if_neg i10, d4, show nI (dep + 1) - 1 = nI dep from nI_pred dep]
                refine ⟨_, (l ++ r.2.2).length, rfl, RD_only o7 (by omega) (by omega) (fun k => by omega) q5.1, (o_I o7 (by omega)).trans q5.2.1, ?_, fun _ => ⟨⟨RD_only o7 (by omega) (by omega) (fun k => by omega) q5.1, (o_I o7 (by omega)).trans q5.2.1, fun k hk => (o_I o7 (by omega)).trans (q5.2.2 k hk)⟩, by rw [gI_sI, if_pos ⟨rfl, rfl⟩]⟩, only_trans o5 (only_trans o6 (only_mono (fun j k a => by unfold mqW; omega) o7))⟩
                rw [List.length_append]
                show l.length + r.2.2.length + a ≤ l.length + (r.2.1 + 1); omega
              · have u2 : f_X11_takes LF g3 73 41 = some (sI g3 73 11 (nI r.2.1), 0) := u2
                obtain ⟨q5, o6⟩ := MQ_11 (a' := r.2.1) y5a okA.2.1
                rw [u2, Option.bind_some, if_neg u1]
                refine ⟨_, (l ++ r.2.2).length, rfl, q5.1, q5.2.1, ?_, (fun h => by cases h), only_trans o5 o6⟩
                rw [List.length_append]
                show l.length + r.2.2.length + a ≤ l.length + r.2.1; omega
            · rw [if_neg h1, if_pos rfl, if_neg h1]
              refine ⟨g3, x, rfl, y2, y3, ?_, (fun h => by cases h), o5⟩
              show x + a ≤ l.length + r.2.1; omega
          · have b2 : f_X11_takes LF g2 73 40 = some (sI g2 73 11 (nI a), 0) := b2
            obtain ⟨q3, o3⟩ := MQ_11 (a' := a) q2 aL
            rw [b2, Option.bind_some]
            show ∃ g' x, (if (0 : Int32) = 0 then some (sI g2 73 11 (nI a), (0 : Int32)) else _) = _ ∧ _
            rw [if_pos rfl]
            refine fail _ ?_ q3.1 q3.2.1 (only_trans oo o3)
            rw [pe, if_neg (fun p => b1 ⟨zl, p⟩)]
      · have pe : prm c lim E a = (false, a, []) := prm_e zl
        by_cases z4 : dep = 4
        · rw [d2, if_pos (by rw [z4]; rfl)]
          exact fail g2 pe q2.1 q2.2.1 oo
        · rw [d2, if_neg (show ¬ nI dep = 4 from fun x => z4 (nI_inj (by omega) (by decide) x))]
          rcases takes_M (w := 40) hR2 q2.1 (by decide) with ⟨b1, b2⟩ | ⟨b1, b2⟩
          · exact absurd b1.1 zl
          · have b2 : f_X11_takes LF g2 73 40 = some (sI g2 73 11 (nI a), 0) := b2
            obtain ⟨q3, o3⟩ := MQ_11 (a' := a) q2 aL
            rw [b2, Option.bind_some]
            show ∃ g' x, (if (0 : Int32) = 0 then some (sI g2 73 11 (nI a), (0 : Int32)) else _) = _ ∧ _
            rw [if_pos rfl]
            exact fail _ pe q3.1 q3.2.1 (only_trans oo o3)

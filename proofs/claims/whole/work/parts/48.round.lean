/-! round, corner on both sides. -/
def rdA (F : FV) (R : Nat × (Nat → Nat)) (S0 : Nat → Int32) : Nat → (Nat → Int32) → Nat × Int32
  | 0, _ => (1, 0)
  | m + 1, S => if st0 F R (-1) S 72 = S0 72 ∧ st0 F R (-1) S 73 = S0 73 then (1, st0 F R (-1) S 77) else ((rdA F R S0 m (st0 F R (-1) S)).1 + 1, (rdA F R S0 m (st0 F R (-1) S)).2)
theorem round_CL {P : Option (eH × Int32) → Prop} {k67 : eH → Nat → Int32 → Option (eH × Int32)} {k105 : eH → Option (eH × Int32)} {h g0 : eH} {X : AX} {B : Nat} {T : Nat × Int32} (hTT : rdA (xF X) (xR X) (xS X) 999 (xS X) = T) (hc : CI h X) (ho : okX B X) (hB : B + 1001 < 2 ^ 31) (og : only csc h g0) (hS : CS g0 50 (xS X)) (y1 : ∀ g, only csc h g → T.1 ≤ 999 → gI g 50 6 = T.2 → P (k67 g 0 (nI T.1))) (y2 : ∀ g, only csc h g → T.1 = 1000 → P (k105 g)) : P (f_X10_round_L13 LF e_fu k67 k105 g0 0 1) := by
  refine lpF1 (N := 1000) (s := (g0, xS X)) (run := fun fu (q : eH × (Nat → Int32)) i => f_X10_round_L13 LF fu k67 k105 q.1 0 (nI i)) (Inv := fun i q => 1 ≤ i ∧ CS q.1 50 q.2 ∧ okA (xF X) (B + i) q.2 ∧ only csc h q.1 ∧ (rdA (xF X) (xR X) (xS X) (1000 - i) q.2).1 + i = T.1 + 1 ∧ (rdA (xF X) (xR X) (xS X) (1000 - i) q.2).2 = T.2) (Post := P) (by decide) (by decide) ⟨Nat.le_refl _, hS, okA_mono (by omega) ho.2.2.2.1, og, by rw [← hTT], by rw [← hTT]⟩ ?_ ?_
  · rintro fu ⟨g, S⟩ ⟨g0, g1, g2, g3, g4, g5⟩
    have g4 : 1 + 1000 = T.1 + 1 := g4
    show P (f_X10_round_L13 LF (fu + 1) k67 k105 g 0 (nI 1000))
    unfold f_X10_round_L13
    rw [if_pos (by decide)]
    exact y2 g g3 (by omega)
  · rintro i fu ⟨g, S⟩ hi ⟨g0, g1, g2, g3, g4, g5⟩
    have g1 : CS g 50 S := g1
    have g2 : okA (xF X) (B + i) S := g2
    have g3 : only csc h g := g3
    have g4 : (rdA (xF X) (xR X) (xS X) (1000 - i) S).1 + i = T.1 + 1 := g4
    have g5 : (rdA (xF X) (xR X) (xS X) (1000 - i) S).2 = T.2 := g5
    have hRg := only_refs g3 hc.1
    have n999 : ¬ (999 : Int32) < nI i := nI_nlt (a := 999) (by omega) (by decide)
    obtain ⟨g', x1, x2, x3⟩ := step0_C hc ho g3 g1 g2 (by omega) okT_m
    have hRg' := only_refs x3 hc.1
    have okn : okA (xF X) (B + (i + 1)) (st0 (xF X) (xR X) (-1) S) := okA_st0 ho.1 okT_m g2
    rw [show 1000 - i = (1000 - (i + 1)) + 1 by omega] at g4 g5
    unfold rdA at g4 g5
    have e1 : gI g' 50 1 = st0 (xF X) (xR X) (-1) S 72 := x2.2.2.1 1 (by omega) (by omega)
    have e2 : gI g' 50 2 = st0 (xF X) (xR X) (-1) S 73 := x2.2.2.1 2 (by omega) (by omega)
    have e6 : gI g' 50 6 = st0 (xF X) (xR X) (-1) S 77 := x2.2.2.1 6 (by omega) (by omega)
    have hS' := (CI_scr x3 hc).2.2.2.2.1
    have d1 : gI g' 46 1 = xS X 72 := hS'.2.2.1 1 (by omega) (by omega)
    have d2 : gI g' 46 2 = xS X 73 := hS'.2.2.1 2 (by omega) (by omega)
    generalize st0 (xF X) (xR X) (-1) S = S' at x2 okn e1 e2 e6 g4 g5
    by_cases hq : S' 72 = xS X 72 ∧ S' 73 = xS X 73
    · rw [if_pos hq] at g4 g5
      have g4 : 1 + i = T.1 + 1 := g4
      have g5 : S' 77 = T.2 := g5
      refine Or.inl ?_
      show P (f_X10_round_L13 LF (fu + 1) k67 k105 g 0 (nI i))
      unfold f_X10_round_L13
      rw [if_neg n999, if_pos iO_0, r_0_9 hRg, Option.bind_some, x1, Option.bind_some, if_neg i10, r_0_9 hRg', Option.bind_some, if_pos iO_50, r_0_7 hRg', Option.bind_some, if_pos iO_46, e1, d1, if_pos hq.1, Option.bind_some, if_pos iO_50, Option.bind_some, if_pos iO_46, e2, d2, if_pos hq.2]
      have : T.1 = i := by omega
      rw [← this]
      exact y1 g' x3 (by omega) (e6.trans g5)
    · rw [if_neg hq] at g4 g5
      refine Or.inr ⟨(g', S'), ⟨by omega, x2, okn, x3, ?_, g5⟩, fun z hz => ?_⟩
      · have g4 : (rdA (xF X) (xR X) (xS X) (1000 - (i + 1)) S').1 + 1 + i = T.1 + 1 := g4
        show (rdA (xF X) (xR X) (xS X) (1000 - (i + 1)) S').1 + (i + 1) = T.1 + 1
        omega
      · show f_X10_round_L13 LF (fu + 1) k67 k105 g 0 (nI i) = z
        unfold f_X10_round_L13
        rw [if_neg n999, if_pos iO_0, r_0_9 hRg, Option.bind_some, x1, Option.bind_some, if_neg i10, r_0_9 hRg', Option.bind_some, if_pos iO_50, r_0_7 hRg', Option.bind_some, if_pos iO_46, e1, d1]
        by_cases h1 : S' 72 = xS X 72
        · rw [if_pos h1, Option.bind_some, if_pos iO_50, Option.bind_some, if_pos iO_46, e2, d2, if_neg (fun q => hq ⟨h1, q⟩), nI_p1]
          exact hz
        · rw [if_neg h1, nI_p1]
          exact hz
theorem round_ML {P : Option (eH × Int32) → Prop} {k62 : eH → Nat → Int32 → Option (eH × Int32)} {k95 : eH → Option (eH × Int32)} {h g0 : eH} {X : AX} {B : Nat} {T : Nat × Int32} (hTT : rdA (xF X) (xR X) (xS X) 999 (xS X) = T) (hR : RefsOK h) (hm : MI h X) (ho : okX B X) (og : only msc h g0) (hS : MS g0 77 0 (xS X)) (y1 : ∀ g, only msc h g → T.1 ≤ 999 → gI g 77 77 = T.2 → P (k62 g 73 (nI T.1))) (y2 : ∀ g, only msc h g → T.1 = 1000 → P (k95 g)) : P (f_X11_round_L11 LF e_fu k62 k95 g0 73 1) := by
  refine lpF1 (N := 1000) (s := (g0, xS X)) (run := fun fu (q : eH × (Nat → Int32)) i => f_X11_round_L11 LF fu k62 k95 q.1 73 (nI i)) (Inv := fun i q => 1 ≤ i ∧ MS q.1 77 0 q.2 ∧ okA (xF X) (B + i) q.2 ∧ only msc h q.1 ∧ (rdA (xF X) (xR X) (xS X) (1000 - i) q.2).1 + i = T.1 + 1 ∧ (rdA (xF X) (xR X) (xS X) (1000 - i) q.2).2 = T.2) (Post := P) (by decide) (by decide) ⟨Nat.le_refl _, hS, okA_mono (by omega) ho.2.2.2.1, og, by rw [← hTT], by rw [← hTT]⟩ ?_ ?_
  · rintro fu ⟨g, S⟩ ⟨g0, g1, g2, g3, g4, g5⟩
    have g4 : 1 + 1000 = T.1 + 1 := g4
    show P (f_X11_round_L11 LF (fu + 1) k62 k95 g 73 (nI 1000))
    unfold f_X11_round_L11
    rw [if_pos (by decide)]
    exact y2 g g3 (by omega)
  · rintro i fu ⟨g, S⟩ hi ⟨g0, g1, g2, g3, g4, g5⟩
    have g1 : MS g 77 0 S := g1
    have g2 : okA (xF X) (B + i) S := g2
    have g3 : only msc h g := g3
    have g4 : (rdA (xF X) (xR X) (xS X) (1000 - i) S).1 + i = T.1 + 1 := g4
    have g5 : (rdA (xF X) (xR X) (xS X) (1000 - i) S).2 = T.2 := g5
    have hRg := only_refs g3 hR
    have n999 : ¬ (999 : Int32) < nI i := nI_nlt (a := 999) (by omega) (by decide)
    obtain ⟨i1, i2, -⟩ := iM (a := 77) (Or.inr rfl)
    obtain ⟨j1, j2, -⟩ := iM (a := 76) (Or.inl rfl)
    obtain ⟨g', x1, x2, x3, x4⟩ := step0_M (fun _ _ => msc_mW) msc_82 hR hm ho g3 g1 g2 ((o_I g3 msc_23).trans hm.2.2.1) okT_m
    have hRg' := only_refs x3 hR
    have okn : okA (xF X) (B + (i + 1)) (st0 (xF X) (xR X) (-1) S) := okA_st0 ho.1 okT_m g2
    rw [show 1000 - i = (1000 - (i + 1)) + 1 by omega] at g4 g5
    unfold rdA at g4 g5
    have hS' := mW_S (fun _ _ => msc_mW) x3 hm.2.2.2.2.1
    have d1 : gI g' 76 72 = xS X 72 := MS_0 hS' (by omega)
    have d2 : gI g' 76 73 = xS X 73 := MS_0 hS' (by omega)
    generalize st0 (xF X) (xR X) (-1) S = S' at x2 okn g4 g5
    by_cases hq : S' 72 = xS X 72 ∧ S' 73 = xS X 73
    · rw [if_pos hq] at g4 g5
      have g4 : 1 + i = T.1 + 1 := g4
      have g5 : S' 77 = T.2 := g5
      refine Or.inl ?_
      show P (f_X11_round_L11 LF (fu + 1) k62 k95 g 73 (nI i))
      unfold f_X11_round_L11
      rw [if_neg n999, if_pos iO_73, r_73_8 hRg, Option.bind_some, x1, Option.bind_some, r_73_8 hRg', Option.bind_some, if_pos i1, r_73_7 hRg', Option.bind_some, if_pos j1, c72, MS_0 x2 (by omega), d1, if_pos hq.1, Option.bind_some, if_pos i2, Option.bind_some, if_pos j2, c73, MS_0 x2 (by omega), d2, if_pos hq.2]
      have : T.1 = i := by omega
      rw [← this]
      exact y1 g' x3 (by omega) ((MS_0 x2 (by omega)).trans g5)
    · rw [if_neg hq] at g4 g5
      refine Or.inr ⟨(g', S'), ⟨by omega, x2, okn, x3, ?_, g5⟩, fun z hz => ?_⟩
      · have g4 : (rdA (xF X) (xR X) (xS X) (1000 - (i + 1)) S').1 + 1 + i = T.1 + 1 := g4
        show (rdA (xF X) (xR X) (xS X) (1000 - (i + 1)) S').1 + (i + 1) = T.1 + 1
        omega
      · show f_X11_round_L11 LF (fu + 1) k62 k95 g 73 (nI i) = z
        unfold f_X11_round_L11
        rw [if_neg n999, if_pos iO_73, r_73_8 hRg, Option.bind_some, x1, Option.bind_some, r_73_8 hRg', Option.bind_some, if_pos i1, r_73_7 hRg', Option.bind_some, if_pos j1, c72, MS_0 x2 (by omega), d1]
        by_cases h1 : S' 72 = xS X 72
        · rw [if_pos h1, Option.bind_some, if_pos i2, Option.bind_some, if_pos j2, c73, MS_0 x2 (by omega), d2, if_neg (fun q => hq ⟨h1, q⟩), nI_p1]
          exact hz
        · rw [if_neg h1, nI_p1]
          exact hz
theorem rdA_le {F : FV} {R : Nat × (Nat → Nat)} {S0 : Nat → Int32} : ∀ (m : Nat) (S : Nat → Int32), (rdA F R S0 m S).1 ≤ m + 1
  | 0, S => Nat.le_refl _
  | m + 1, S => by
    have := rdA_le (F := F) (R := R) (S0 := S0) m (st0 F R (-1) S)
    unfold rdA
    split
    · show 1 ≤ _; omega
    · show _ + 1 ≤ _; omega
/-- the row is told, or not -/
theorem PR_o {B : Nat} {h : eH} {X : AX} {a : Option (eH × Int32)} {b : eH → Option (eH × Int32)} {r : Int32} {c : Prop} {l : List Int64} (hc : CI h X) (hm : MI h X) (ho : okX B X) (hl : l.length ≤ 37) (hC : (c ∧ ∃ h1, a = some (h1, r) ∧ CW h1 l ∧ only cscW h h1) ∨ (¬ c ∧ ∃ h1, a = some (h1, -2) ∧ only csc h h1)) (hM : ∀ h1, RefsOK h1 → MI h1 X → (c ∧ ∃ h2, b h1 = some (h2, r) ∧ MW h2 l ∧ only mscW h1 h2) ∨ (¬ c ∧ ∃ h2, b h1 = some (h2, -2) ∧ only msc h1 h2)) : PR B a b := by
  rcases hC with ⟨c1, x⟩ | ⟨c1, x⟩
  · exact PR_q hc hm ho hl x (fun h1 hR h9 => (hM h1 hR h9).elim (fun q => q.2) (fun q => absurd c1 q.1))
  · exact PR_s hc hm ho x (fun h1 hR h9 => (hM h1 hR h9).elim (fun q => absurd q.1 c1) (fun q => q.2))
theorem round_P {B : Nat} {h : eH} {X : AX} (hc : CI h X) (hm : MI h X) (ho : okX B X) (hB : B + 1001 < 2 ^ 31) : PR B (f_X10_round LF h 0) (fun h1 => f_X11_round LF h1 73) := by
  obtain ⟨T, hTT⟩ : ∃ T, rdA (xF X) (xR X) (xS X) 999 (xS X) = T := ⟨_, rfl⟩
  refine PR_o hc hm ho (c := T.1 ≤ 999) (r := nI T.1) (l := [(T.2 - xS X 77).toInt64]) (by show 1 ≤ 37; omega) ?_ (fun h1 hR h9 => ?_)
  · obtain ⟨hT, t1, t2, t3⟩ := trip_C hc
    unfold f_X10_round
    rw [if_pos iO_0, r_0_9 hc.1, Option.bind_some, r_0_7 hc.1, Option.bind_some, if_pos iO_50, t1, Option.bind_some]
    refine round_CL (P := fun r => (_ ∧ ∃ h1, r = some (h1, _) ∧ CW h1 _ ∧ only cscW h h1) ∨ (_ ∧ ∃ h1, r = some (h1, -2) ∧ only csc h h1)) hTT hc ho hB t3 t2 (fun g og hle e6 => Or.inl ⟨hle, ?_⟩) (fun g og hle => Or.inr ⟨by omega, g, rfl, og⟩)
    have hRg := only_refs og hc.1
    obtain ⟨b1, b2⟩ := rowbeg_C g
    have hRb : RefsOK (sI g 3 1 0) := refs_sI hRg
    obtain ⟨h3, r1, r2, r3⟩ := rowadd_C hRb b2 (by decide) ((T.2 - xS X 77).toInt64)
    have ob : only (fun j _ => j = 3 ∨ j = 4) g (sI g 3 1 0) := only_sI (Or.inl rfl)
    have f6 : gI (sI g 3 1 0) 50 6 = T.2 := (o_I ob (by omega)).trans e6
    have d6 : gI (sI g 3 1 0) 46 6 = xS X 77 := (o_I ob (by omega)).trans ((CI_scr og hc).2.2.2.2.1.2.2.1 6 (by omega) (by omega))
    refine ⟨h3, ?_, r2, only_trans (csc_w og) (row_w (only_trans ob r3))⟩
    rw [if_pos iO_0, r_0_1 hRg, Option.bind_some, if_pos iO_3, b1, Option.bind_some, r_0_1 hRb, Option.bind_some, r_0_9 hRb, Option.bind_some, if_pos iO_50, r_0_7 hRb, Option.bind_some, if_pos iO_46, if_pos iO_3, f6, d6, r1, Option.bind_some]
  · have h9' := MI_scr thr_M h9
    obtain ⟨h2, x1, x2, x3⟩ := puts_M (refs_sI hR) h9'.2.2.2.2.1
    have o2 : only msc h1 h2 := only_trans thr_M (only_mono (fun j k a => by unfold msc; omega) x3)
    have i77 : inA LF 77 0 77 = true := (iM (a := 77) (Or.inr rfl)).2.2.2.2.2.1
    have j77 : inA LF 76 0 77 = true := (iM (a := 76) (Or.inl rfl)).2.2.2.2.2.1
    show (_ ∧ ∃ h2, f_X11_round LF h1 73 = some (h2, _) ∧ MW h2 _ ∧ only mscW h1 h2) ∨ (_ ∧ ∃ h2, f_X11_round LF h1 73 = some (h2, -2) ∧ only msc h1 h2)
    unfold f_X11_round
    rw [if_pos iO_73, x1, Option.bind_some]
    refine round_ML (P := fun r => (_ ∧ ∃ h2, r = some (h2, _) ∧ MW h2 _ ∧ only mscW h1 h2) ∨ (_ ∧ ∃ h2, r = some (h2, -2) ∧ only msc h1 h2)) hTT hR h9 ho o2 x2 (fun g og hle e6 => Or.inl ⟨hle, ?_⟩) (fun g og hle => Or.inr ⟨by omega, g, rfl, og⟩)
    have hRg := only_refs og hR
    have hRb : RefsOK (sI g 73 1 0) := refs_sI hRg
    obtain ⟨h3, r1, r2, r3⟩ := rowadd_M hRb (rowbeg_M g) (by decide) ((T.2 - xS X 77).toInt64)
    have ob : only (fun j k => (j = 73 ∧ k = 1) ∨ j = 74) g (sI g 73 1 0) := only_sI (Or.inl ⟨rfl, rfl⟩)
    have f6 : gI (sI g 73 1 0) 77 77 = T.2 := (o_I ob (by omega)).trans e6
    have d6 : gI (sI g 73 1 0) 76 77 = xS X 77 := (o_I ob (by omega)).trans (MS_0 (mW_S (fun _ _ => msc_mW) og h9.2.2.2.2.1) (by omega))
    refine ⟨h3, ?_, r2, only_trans (msc_w og) (rowm_w (only_trans ob r3))⟩
    rw [if_pos iO_73, r_73_8 hRb, Option.bind_some, if_pos i77, r_73_7 hRb, Option.bind_some, if_pos j77, c77, f6, d6, r1, Option.bind_some]
/-! corner -/
def cnA (F : FV) (R : Nat × (Nat → Nat)) : Nat → (Nat → Int32) → (Nat → Int32) → (Nat → Int32)
  | 0, V, _ => V
  | m + 1, V, S => cnA F R m (upd V (st0 F R (-1) S 72).toNatClampNeg (V (st0 F R (-1) S 72).toNatClampNeg + 1)) (st0 F R (-1) S)
def bsA (V : Nat → Int32) : Nat → Nat
  | 0 => 0
  | n + 1 => if V (n + 1) ≤ V (bsA V n) then bsA V n else n + 1
theorem bsA_le {V : Nat → Int32} : ∀ n, bsA V n ≤ n
  | 0 => Nat.le_refl _
  | n + 1 => by
    have := bsA_le (V := V) n
    unfold bsA
    split <;> omega
theorem corner_C1 {P : Option (eH × Int32) → Prop} {k97 : eH → Nat → Option (eH × Int32)} {h g0 : eH} {X : AX} {B N : Nat} {V0 : Nat → Int32} (hc : CI h X) (ho : okX B X) (hB : B + 1001 < 2 ^ 31) (hN : N ≤ 999) (og : only csc h g0) (hS : CS g0 50 (xS X)) (hV : ∀ k, k < 36 → gI g0 60 k = V0 k) (y : ∀ g, only csc h g → (∀ k, k < 36 → gI g 60 k = cnA (xF X) (xR X) N V0 (xS X) k) → P (k97 g 0)) : P (f_X10_corner_L35 LF e_fu k97 g0 0 (nI N) 0) := by
  generalize hTT : cnA (xF X) (xR X) N V0 (xS X) = T at y
  refine lpF (N := N) (s := (g0, xS X, V0)) (run := fun fu (q : eH × (Nat → Int32) × (Nat → Int32)) i => f_X10_corner_L35 LF fu k97 q.1 0 (nI N) (nI i)) (Inv := fun i q => CS q.1 50 q.2.1 ∧ okA (xF X) (B + i) q.2.1 ∧ only csc h q.1 ∧ (∀ k, k < 36 → gI q.1 60 k = q.2.2 k) ∧ cnA (xF X) (xR X) (N - i) q.2.2 q.2.1 = T) (Post := P) (by omega) ⟨hS, ho.2.2.2.1, og, hV, hTT⟩ ?_ ?_
  · rintro fu ⟨g, S, V⟩ ⟨g1, g2, g3, g4, g5⟩
    have g5 : cnA (xF X) (xR X) (N - N) V S = T := g5
    rw [Nat.sub_self] at g5
    have g5 : V = T := g5
    show P (f_X10_corner_L35 LF (fu + 1) k97 g 0 (nI N) (nI N))
    unfold f_X10_corner_L35
    rw [if_pos (nI_le (Nat.le_refl _) (by omega))]
    exact y g g3 (fun k hk => by rw [← g5]; exact g4 k hk)
  · rintro i fu ⟨g, S, V⟩ hi ⟨g1, g2, g3, g4, g5⟩
    have g1 : CS g 50 S := g1
    have g2 : okA (xF X) (B + i) S := g2
    have g3 : only csc h g := g3
    have g4 : ∀ k, k < 36 → gI g 60 k = V k := g4
    have g5 : cnA (xF X) (xR X) (N - i) V S = T := g5
    have hRg := only_refs g3 hc.1
    obtain ⟨c1, ⟨pp, c2⟩, ⟨qq, c3⟩, -⟩ := CI_scr g3 hc
    obtain ⟨g', x1, x2, xg⟩ := goOn_0 ho.1 ho.2.1 (show (50 : Nat) ∈ stL by decide) g2 (by omega) c1 c3 c2 g1 okT_m
    have x3 : only csc h g' := only_trans g3 (only_mono (fun j k a => by unfold gW at a; unfold csc; have := c3.1; omega) xg)
    have hRg' := only_refs x3 hc.1
    have okn : okA (xF X) (B + (i + 1)) (st0 (xF X) (xR X) (-1) S) := okA_st0 ho.1 okT_m g2
    have x2 : CS g' 50 (st0 (xF X) (xR X) (-1) S) := x2
    rw [show N - i = (N - (i + 1)) + 1 by omega] at g5
    unfold cnA at g5
    generalize st0 (xF X) (xR X) (-1) S = S' at x2 okn g5
    obtain ⟨⟨sp, a1, a2, a3, a4⟩, -⟩ := id okn
    have e1 : gI g' 50 1 = nI sp := (x2.2.2.1 1 (by omega) (by omega)).trans a4
    have e60 : ∀ k, k < 36 → gI g' 60 k = V k := fun k hk => (o_I xg (by unfold gW; have := c3.1; omega)).trans (g4 k hk)
    rw [a4, nI_clamp (by omega)] at g5
    refine Or.inr ⟨(sI g' 60 sp (V sp + 1), S', upd V sp (V sp + 1)), ⟨CS_only (W := fun j _ => j = 60) (only_sI rfl) (fun k => ⟨by omega, by omega⟩) x2, okn, only_trans x3 (only_sI (by unfold csc; omega)), fun k hk => ?_, g5⟩, fun z hz => ?_⟩
    · show gI (sI g' 60 sp (V sp + 1)) 60 k = upd V sp (V sp + 1) k
      rw [gI_sI]
      by_cases hk2 : k = sp
      · subst hk2; rw [if_pos ⟨rfl, rfl⟩, pk_us]
      · rw [if_neg (by omega), u_n hk2]; exact e60 k hk
    · show f_X10_corner_L35 LF (fu + 1) k97 g 0 (nI N) (nI i) = z
      unfold f_X10_corner_L35
      rw [if_neg (nI_ge hi (by omega)), if_pos iO_0, r_0_9 hRg, Option.bind_some, x1, Option.bind_some, if_neg i10, r_0_9 hRg', Option.bind_some, if_pos iO_50, e1, if_neg (nI_pos (by omega)), Option.bind_some, if_pos iO_50, e1, if_neg (show ¬ (36 : Int32) ≤ nI sp from nI_ge (b := 36) a1 (by decide)), r_0_12 hRg', Option.bind_some, Option.bind_some, if_pos iO_50, e1, iA_60, if_pos (in_nI a1 (by decide)), nI_clamp (by omega), Option.bind_some, e60 sp a1, nI_p1]
      exact hz
theorem corner_C2 {P : Option (eH × Int32) → Prop} {k130 : eH → Nat → Int32 → Option (eH × Int32)} {g : eH} {V : Nat → Int32} (hR : RefsOK g) (hV : ∀ k, k < 36 → gI g 60 k = V k) (y : P (k130 g 0 (nI (bsA V 35)))) : P (f_X10_corner_L101 LF e_fu k130 g 0 0 1) := by
  refine lpF1 (N := 36) (s := nI (bsA V 0)) (run := fun fu (q : Int32) i => f_X10_corner_L101 LF fu k130 g 0 q (nI i)) (Inv := fun i q => 1 ≤ i ∧ q = nI (bsA V (i - 1))) (Post := P) (by decide) (by decide) ⟨Nat.le_refl _, rfl⟩ ?_ ?_
  · rintro fu q ⟨g0, rfl⟩
    show P (f_X10_corner_L101 LF (fu + 1) k130 g 0 (nI (bsA V 35)) (nI 36))
    unfold f_X10_corner_L101
    rw [if_pos (by decide)]
    exact y
  · rintro i fu q hi ⟨g0, rfl⟩
    have hl := bsA_le (V := V) (i - 1)
    refine Or.inr ⟨nI (bsA V i), ⟨by omega, rfl⟩, fun z hz => ?_⟩
    obtain ⟨j, rfl⟩ : ∃ j, i = j + 1 := ⟨i - 1, by omega⟩
    have hz : f_X10_corner_L101 LF fu k130 g 0 (nI (bsA V (j + 1))) (nI (j + 1 + 1)) = z := hz
    rw [Nat.add_sub_cancel] at hl
    show f_X10_corner_L101 LF (fu + 1) k130 g 0 (nI (bsA V (j + 1 - 1))) (nI (j + 1)) = z
    rw [Nat.add_sub_cancel]
    unfold f_X10_corner_L101
    rw [if_neg (show ¬ (36 : Int32) ≤ nI (j + 1) from nI_ge (b := 36) hi (by decide)), if_pos iO_0, r_0_12 hR, Option.bind_some, iA_60, if_pos (in_nI hi (by decide)), Option.bind_some, iA_60, if_pos (in_nI (by omega) (by decide)), nI_clamp (n := j + 1) (by omega), nI_clamp (n := bsA V j) (by omega), hV _ hi, hV _ (by omega), nI_p1]
    unfold bsA at hz
    by_cases hle : V (j + 1) ≤ V (bsA V j)
    · rw [if_pos hle] at hz ⊢; exact hz
    · rw [if_neg hle] at hz ⊢; exact hz
theorem corner_M0 {P : Option (eH × Int32) → Prop} {k44 : eH → Nat → Int32 → Option (eH × Int32)} {h g0 : eH} {v : Int32} (hR : RefsOK h) (og : only msc h g0) (y : ∀ g, only msc h g → only (fun j _ => j = 87) g0 g → (∀ k, k < 36 → gI g 87 k = 0) → P (k44 g 73 v)) : P (f_X11_corner_L25 LF e_fu k44 g0 73 v 0) := by
  refine lpF (N := 36) (s := g0) (run := fun fu (q : eH) i => f_X11_corner_L25 LF fu k44 q 73 v (nI i)) (Inv := fun i q => (∀ k, k < i → gI q 87 k = 0) ∧ only msc h q ∧ only (fun j _ => j = 87) g0 q) (Post := P) (by decide) ⟨fun k hk => absurd hk (Nat.not_lt_zero k), og, only_rfl⟩ ?_ ?_
  · rintro fu g ⟨g1, g2, g3⟩
    show P (f_X11_corner_L25 LF (fu + 1) k44 g 73 v (nI 36))
    unfold f_X11_corner_L25
    rw [if_pos (by decide)]
    exact y g g2 g3 g1
  · rintro i fu g hi ⟨g1, g2, g3⟩
    refine Or.inr ⟨sI g 87 i 0, ⟨fun k hk => ?_, only_trans g2 (only_sI (by unfold msc; omega)), only_trans g3 (only_sI rfl)⟩, fun z hz => ?_⟩
    · rw [gI_sI]
      by_cases hk2 : k = i
      · rw [if_pos ⟨rfl, hk2⟩]
      · rw [if_neg (by omega)]; exact g1 k (by omega)
    · show f_X11_corner_L25 LF (fu + 1) k44 g 73 v (nI i) = z
      unfold f_X11_corner_L25
      rw [if_neg (show ¬ (36 : Int32) ≤ nI i from nI_ge (b := 36) hi (by decide)), if_pos iO_73, r_73_30 (only_refs g2 hR), Option.bind_some, iA_87, if_pos (in_nI hi (by decide)), nI_clamp (by omega), nI_p1]
      exact hz
theorem corner_M1 {P : Option (eH × Int32) → Prop} {k83 : eH → Nat → Option (eH × Int32)} {h g0 : eH} {X : AX} {B N : Nat} {V0 : Nat → Int32} (hR : RefsOK h) (hm : MI h X) (ho : okX B X) (hN : N ≤ 999) (og : only msc h g0) (hS : MS g0 77 0 (xS X)) (hV : ∀ k, k < 36 → gI g0 87 k = V0 k) (y : ∀ g, only msc h g → (∀ k, k < 36 → gI g 87 k = cnA (xF X) (xR X) N V0 (xS X) k) → P (k83 g 73)) : P (f_X11_corner_L46 LF e_fu k83 g0 73 (nI N) 0) := by
  generalize hTT : cnA (xF X) (xR X) N V0 (xS X) = T at y
  refine lpF (N := N) (s := (g0, xS X, V0)) (run := fun fu (q : eH × (Nat → Int32) × (Nat → Int32)) i => f_X11_corner_L46 LF fu k83 q.1 73 (nI N) (nI i)) (Inv := fun i q => MS q.1 77 0 q.2.1 ∧ okA (xF X) (B + i) q.2.1 ∧ only msc h q.1 ∧ (∀ k, k < 36 → gI q.1 87 k = q.2.2 k) ∧ cnA (xF X) (xR X) (N - i) q.2.2 q.2.1 = T) (Post := P) (by omega) ⟨hS, ho.2.2.2.1, og, hV, hTT⟩ ?_ ?_
  · rintro fu ⟨g, S, V⟩ ⟨g1, g2, g3, g4, g5⟩
    have g5 : cnA (xF X) (xR X) (N - N) V S = T := g5
    rw [Nat.sub_self] at g5
    have g5 : V = T := g5
    show P (f_X11_corner_L46 LF (fu + 1) k83 g 73 (nI N) (nI N))
    unfold f_X11_corner_L46
    rw [if_pos (nI_le (Nat.le_refl _) (by omega))]
    exact y g g3 (fun k hk => by rw [← g5]; exact g4 k hk)
  · rintro i fu ⟨g, S, V⟩ hi ⟨g1, g2, g3, g4, g5⟩
    have g1 : MS g 77 0 S := g1
    have g2 : okA (xF X) (B + i) S := g2
    have g3 : only msc h g := g3
    have g4 : ∀ k, k < 36 → gI g 87 k = V k := g4
    have g5 : cnA (xF X) (xR X) (N - i) V S = T := g5
    have hRg := only_refs g3 hR
    have i72 : inA LF 77 0 72 = true := (iM (Or.inr rfl)).1
    obtain ⟨g', x1, x2, x3, x4⟩ := step0_M (fun _ _ => msc_mW) msc_82 hR hm ho g3 g1 g2 ((o_I g3 msc_23).trans hm.2.2.1) okT_m
    have hRg' := only_refs x3 hR
    have okn : okA (xF X) (B + (i + 1)) (st0 (xF X) (xR X) (-1) S) := okA_st0 ho.1 okT_m g2
    rw [show N - i = (N - (i + 1)) + 1 by omega] at g5
    unfold cnA at g5
    generalize st0 (xF X) (xR X) (-1) S = S' at x2 okn g5
    obtain ⟨⟨sp, a1, a2, a3, a4⟩, -⟩ := id okn
    have e1 : gI g' 77 72 = nI sp := (MS_0 x2 (by omega)).trans a4
    have e87 : ∀ k, k < 36 → gI g' 87 k = V k := fun k hk => (o_I x4 (by omega)).trans (g4 k hk)
    rw [a4, nI_clamp (by omega)] at g5
    refine Or.inr ⟨(sI g' 87 sp (V sp + 1), S', upd V sp (V sp + 1)), ⟨MS_only (W := fun j _ => j = 87) (only_sI rfl) (fun k => by omega) x2, okn, only_trans x3 (only_sI (by unfold msc; omega)), fun k hk => ?_, g5⟩, fun z hz => ?_⟩
    · show gI (sI g' 87 sp (V sp + 1)) 87 k = upd V sp (V sp + 1) k
      rw [gI_sI]
      by_cases hk2 : k = sp
      · subst hk2; rw [if_pos ⟨rfl, rfl⟩, pk_us]
      · rw [if_neg (by omega), u_n hk2]; exact e87 k hk
    · show f_X11_corner_L46 LF (fu + 1) k83 g 73 (nI N) (nI i) = z
      unfold f_X11_corner_L46
      rw [if_neg (nI_ge hi (by omega)), if_pos iO_73, r_73_8 hRg, Option.bind_some, x1, Option.bind_some, r_73_30 hRg', Option.bind_some, r_73_8 hRg', Option.bind_some, if_pos i72, c72, e1, iA_87, if_pos (in_nI a1 (by decide)), nI_clamp (by omega), Option.bind_some, e87 sp a1, nI_p1]
      exact hz
theorem corner_M2 {P : Option (eH × Int32) → Prop} {k120 : eH → Nat → Int32 → Option (eH × Int32)} {g : eH} {V : Nat → Int32} (hR : RefsOK g) (hV : ∀ k, k < 36 → gI g 87 k = V k) (y : P (k120 g 73 (nI (bsA V 35)))) : P (f_X11_corner_L87 LF e_fu k120 g 73 0 1) := by
  refine lpF1 (N := 36) (s := nI (bsA V 0)) (run := fun fu (q : Int32) i => f_X11_corner_L87 LF fu k120 g 73 q (nI i)) (Inv := fun i q => 1 ≤ i ∧ q = nI (bsA V (i - 1))) (Post := P) (by decide) (by decide) ⟨Nat.le_refl _, rfl⟩ ?_ ?_
  · rintro fu q ⟨g0, rfl⟩
    show P (f_X11_corner_L87 LF (fu + 1) k120 g 73 (nI (bsA V 35)) (nI 36))
    unfold f_X11_corner_L87
    rw [if_pos (by decide)]
    exact y
  · rintro i fu q hi ⟨g0, rfl⟩
    have hl := bsA_le (V := V) (i - 1)
    refine Or.inr ⟨nI (bsA V i), ⟨by omega, rfl⟩, fun z hz => ?_⟩
    obtain ⟨j, rfl⟩ : ∃ j, i = j + 1 := ⟨i - 1, by omega⟩
    have hz : f_X11_corner_L87 LF fu k120 g 73 (nI (bsA V (j + 1))) (nI (j + 1 + 1)) = z := hz
    rw [Nat.add_sub_cancel] at hl
    show f_X11_corner_L87 LF (fu + 1) k120 g 73 (nI (bsA V (j + 1 - 1))) (nI (j + 1)) = z
    rw [Nat.add_sub_cancel]
    unfold f_X11_corner_L87
    rw [if_neg (show ¬ (36 : Int32) ≤ nI (j + 1) from nI_ge (b := 36) hi (by decide)), if_pos iO_73, r_73_30 hR, Option.bind_some, iA_87, if_pos (in_nI hi (by decide)), Option.bind_some, iA_87, if_pos (in_nI (by omega) (by decide)), nI_clamp (n := j + 1) (by omega), nI_clamp (n := bsA V j) (by omega), hV _ hi, hV _ (by omega), nI_p1]
    unfold bsA at hz
    by_cases hle : V (j + 1) ≤ V (bsA V j)
    · rw [if_pos hle] at hz ⊢; exact hz
    · rw [if_neg hle] at hz ⊢; exact hz
theorem corner_P {B : Nat} {h : eH} {X : AX} (hc : CI h X) (hm : MI h X) (ho : okX B X) (hB : B + 1001 < 2 ^ 31) (v : Int32) : PR B (f_X10_corner LF h 0 v) (fun h1 => f_X11_corner LF h1 73 v) := by
  have hin : f_X11_in v.toInt64 1 999 = if v < 1 then 0 else if (999 : Int32) < v then 0 else 1 := in_lo v 999
  by_cases h1 : v < 1
  · refine PR_no hc hm ho (r := -1) ?_ (fun h1' hR h9 => ?_)
    · unfold f_X10_corner; rw [if_pos h1]
    · show f_X11_corner LF h1' 73 v = _
      unfold f_X11_corner; rw [if_pos iO_73, hin, if_pos h1, if_pos rfl]
  · by_cases h2 : v ≤ 999
    · obtain ⟨N, n1, n2, rfl⟩ := low1 (n := 999) (by decide) h1 h2
      have hin1 : ¬ f_X11_in (nI N).toInt64 1 999 = 0 := by rw [hin, if_neg h1, if_neg (show ¬ (999 : Int32) < nI N by rw [fa_le] at h2; rw [fa_lt]; omega)]; exact i10
      have hb := bsA_le (V := cnA (xF X) (xR X) N (fun _ => 0) (xS X)) 35
      refine PR_q hc hm ho (r := nI (bsA (cnA (xF X) (xR X) N (fun _ => 0) (xS X)) 35)) (l := [(cnA (xF X) (xR X) N (fun _ => 0) (xS X) (bsA (cnA (xF X) (xR X) N (fun _ => 0) (xS X)) 35)).toInt64]) (by show 1 ≤ 37; omega) ?_ (fun h1' hR h9 => ?_)
      · obtain ⟨hZ, z1, z2, z3⟩ := fillI (h := h) 0 (show 60 < 100 by decide) sh_60 (by decide)
        have oz : only csc h hZ := only_mono (fun j k a => by unfold csc; omega) z3
        have hRZ := only_refs oz hc.1
        obtain ⟨hT, t1, t2, t3, t4, t5⟩ := copyFrom_ok hRZ (show (50 : Nat) ∈ stL by decide) (show (46 : Nat) ∈ stL by decide)
        have ot : only (fun j _ => j = 50 ∨ j = 51) hZ hT := ⟨fun j k hW => ⟨t3 j k (by omega) (by omega), t4 j k (by omega)⟩, t5⟩
        have o1 : only csc h hT := only_trans oz (only_mono (fun j k a => by unfold csc; omega) ot)
        unfold f_X10_corner
        rw [if_neg h1, if_pos h2, if_pos iO_0, r_0_12 hc.1, Option.bind_some, z1, Option.bind_some, r_0_9 hRZ, Option.bind_some, r_0_7 hRZ, Option.bind_some, if_pos iO_50, t1, Option.bind_some]
        refine corner_C1 (P := fun r => ∃ h1, r = some (h1, _) ∧ CW h1 _ ∧ only cscW h h1) (V0 := fun _ => 0) hc ho hB n2 o1 (CS_same t2 (CI_scr oz hc).2.2.2.2.1) (fun k hk => (o_I ot (by omega)).trans (z2 k hk)) (fun g og hV => ?_)
        have hRg := only_refs og hc.1
        generalize cnA (xF X) (xR X) N (fun _ => 0) (xS X) = V at hV hb ⊢
        refine corner_C2 (P := fun r => ∃ h1, r = some (h1, _) ∧ CW h1 _ ∧ only cscW h h1) hRg hV ?_
        obtain ⟨b1, b2⟩ := rowbeg_C g
        have hRb : RefsOK (sI g 3 1 0) := refs_sI hRg
        obtain ⟨h3, r1, r2, r3⟩ := rowadd_C hRb b2 (by decide) ((V (bsA V 35)).toInt64)
        have ob : only (fun j _ => j = 3 ∨ j = 4) g (sI g 3 1 0) := only_sI (Or.inl rfl)
        have f1 : gI (sI g 3 1 0) 60 (bsA V 35) = V (bsA V 35) := (o_I ob (by omega)).trans (hV _ (by omega))
        refine ⟨h3, ?_, r2, only_trans (csc_w og) (row_w (only_trans ob r3))⟩
        rw [if_pos iO_0, r_0_1 hRg, Option.bind_some, if_pos iO_3, b1, Option.bind_some, r_0_1 hRb, Option.bind_some, r_0_12 hRb, Option.bind_some, iA_60, if_pos (in_nI (by omega) (by decide)), if_pos iO_3, nI_clamp (by omega), f1, r1, Option.bind_some]
      · have h9' := MI_scr thr_M h9
        obtain ⟨hP, x1, x2, x3⟩ := puts_M (refs_sI hR) h9'.2.2.2.2.1
        have o2 : only msc h1' hP := only_trans thr_M (only_mono (fun j k a => by unfold msc; omega) x3)
        show ∃ h2, f_X11_corner LF h1' 73 (nI N) = _ ∧ _
        unfold f_X11_corner
        rw [if_pos iO_73, if_neg hin1, x1, Option.bind_some]
        refine corner_M0 (P := fun r => ∃ h2, r = some (h2, _) ∧ MW h2 _ ∧ only mscW h1' h2) hR o2 (fun q oq oq2 hq => ?_)
        refine corner_M1 (P := fun r => ∃ h2, r = some (h2, _) ∧ MW h2 _ ∧ only mscW h1' h2) (V0 := fun _ => 0) hR h9 ho n2 oq (MS_only oq2 (fun k => by omega) x2) hq (fun g og hV => ?_)
        have hRg := only_refs og hR
        generalize cnA (xF X) (xR X) N (fun _ => 0) (xS X) = V at hV hb ⊢
        refine corner_M2 (P := fun r => ∃ h2, r = some (h2, _) ∧ MW h2 _ ∧ only mscW h1' h2) hRg hV ?_
        have hRb : RefsOK (sI g 73 1 0) := refs_sI hRg
        obtain ⟨h3, r1, r2, r3⟩ := rowadd_M hRb (rowbeg_M g) (by decide) ((V (bsA V 35)).toInt64)
        have ob : only (fun j k => (j = 73 ∧ k = 1) ∨ j = 74) g (sI g 73 1 0) := only_sI (Or.inl ⟨rfl, rfl⟩)
        have f1 : gI (sI g 73 1 0) 87 (bsA V 35) = V (bsA V 35) := (o_I ob (by omega)).trans (hV _ (by omega))
        refine ⟨h3, ?_, r2, only_trans (msc_w og) (rowm_w (only_trans ob r3))⟩
        rw [if_pos iO_73, r_73_30 hRb, Option.bind_some, iA_87, if_pos (in_nI (by omega) (by decide)), nI_clamp (by omega), f1, r1, Option.bind_some]
    · refine PR_no hc hm ho (r := -1) ?_ (fun h1' hR h9 => ?_)
      · unfold f_X10_corner; rw [if_neg h1, if_neg h2]
      · show f_X11_corner LF h1' 73 v = _
        unfold f_X11_corner; rw [if_pos iO_73, hin, if_neg h1, if_pos (show (999 : Int32) < v by rw [fa_le] at h2; rw [fa_lt]; omega), if_pos rfl]

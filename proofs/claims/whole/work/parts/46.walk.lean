/-! As it goes on, current left aside: steps of the trip on both sides; sweeps; meets, been. -/
def st0 (F : FV) (R : Nat × (Nat → Nat)) (ft : Int32) (S : Nat → Int32) : Nat → Int32 := goA F R.1 R.2 ft (payA S 0)
theorem okA_st0 {F : FV} {B : Nat} {R : Nat × (Nat → Nat)} {ft : Int32} {S : Nat → Int32} (hF : okF F) (hf : okT ft) (ho : okA F B S) : okA F (B + 1) (st0 F R ft S) := by
  obtain ⟨-, -, ⟨cu, c1, c2⟩, -, -, -⟩ := id ho
  exact okA_go hF hf (okA_pay (co := 0) ho (by rw [c2]; exact nI_nlt (by omega) (by omega)) (by omega))
theorem step0_C {h g : eH} {X : AX} {B0 B : Nat} {S : Nat → Int32} {ft : Int32} (hc : CI h X) (ho : okX B0 X) (og : only csc h g) (hS : CS g 50 S) (hA : okA (xF X) B S) (hB : B < 2 ^ 31) (hf : okT ft) : ∃ g', f_X10_goOn LF g 0 50 0 ft = some (g', 1) ∧ CS g' 50 (st0 (xF X) (xR X) ft S) ∧ only csc h g' := by
  obtain ⟨c1, ⟨p, c2⟩, ⟨q, c3⟩, -⟩ := CI_scr og hc
  obtain ⟨g', x1, x2, x3⟩ := goOn_0 ho.1 ho.2.1 (show (50 : Nat) ∈ stL by decide) hA hB c1 c3 c2 hS hf
  exact ⟨g', x1, x2, only_trans og (only_mono (fun j k a => by unfold gW at a; unfold csc; have := c3.1; omega) x3)⟩
theorem step1_C {h g : eH} {X : AX} {B0 B : Nat} {S : Nat → Int32} (hc : CI h X) (ho : okX B0 X) (og : only csc h g) (hS : CS g 50 S) (hA : okA (xF X) B S) (hB : B < 2 ^ 31) : ∃ g', f_X10_goOn LF g 0 50 1 (-1) = some (g', if S 74 < nI (coA (xF X) S) then 0 else 1) ∧ CS g' 50 (if S 74 < nI (coA (xF X) S) then S else stC (xF X) (xR X) S) ∧ only csc h g' := by
  obtain ⟨c1, ⟨p, c2⟩, ⟨q, c3⟩, -⟩ := CI_scr og hc
  obtain ⟨g', x1, x2, x3⟩ := goOn_1 ho.1 ho.2.1 (show (50 : Nat) ∈ stL by decide) hA hB c1 c3 c2 hS okT_m
  exact ⟨g', x1, x2, only_trans og (only_mono (fun j k a => by unfold gW at a; unfold csc; have := c3.1; omega) x3)⟩
theorem trip_C {h : eH} {X : AX} (hc : CI h X) : ∃ h', f_X6_copyFrom LF h 50 46 = some h' ∧ CS h' 50 (xS X) ∧ only csc h h' := by
  obtain ⟨h', c1, c2, c3, c4, c5⟩ := copyFrom_ok hc.1 (show (50 : Nat) ∈ stL by decide) (show (46 : Nat) ∈ stL by decide)
  exact ⟨h', c1, CS_same c2 hc.2.2.2.2.1, ⟨fun j k hW => ⟨c3 j k (fun e => hW (by unfold csc; omega)) (fun e => hW (by unfold csc; omega)), c4 j k (fun e => hW (by unfold csc; omega))⟩, c5⟩⟩
def mW (j k : Nat) : Prop := mscW j k ∨ (j = 73 ∧ k = 23)
theorem mW_MF {W : Nat → Nat → Prop} {h g : eH} {F : FV} (hW : ∀ j k, W j k → mW j k) (og : only W h g) (hm : MF h F) : MF g F := MF_only og (fun k a w => by have := hW _ _ w; unfold mW mscW msc at this; omega) (fun k w => by have := hW _ _ w; unfold mW mscW msc at this; omega) hm
theorem mW_MR {W : Nat → Nat → Prop} {h g : eH} {n : Nat} {c : Nat → Nat} (hW : ∀ j k, W j k → mW j k) (og : only W h g) (hm : MR h n c) : MR g n c := MR_only og (fun w => by have := hW _ _ w; unfold mW mscW msc at this; omega) (fun k w => by have := hW _ _ w; unfold mW mscW msc at this; omega) hm
theorem mW_S {W : Nat → Nat → Prop} {h g : eH} {S : Nat → Int32} (hW : ∀ j k, W j k → mW j k) (og : only W h g) (hm : MS h 76 0 S) : MS g 76 0 S := MS_only og (fun k w => by have := hW _ _ w; unfold mW mscW msc at this; omega) hm
def w82 (W : Nat → Nat → Prop) : Prop := ∀ k, W 77 k ∧ W 82 k ∧ W 83 k
theorem w82_of {W : Nat → Nat → Prop} (h : w82 W) {j k : Nat} (a : j = 77 ∨ j = 82 ∨ j = 83) : W j k := by
  rcases a with rfl | rfl | rfl
  · exact (h k).1
  · exact (h k).2.1
  · exact (h k).2.2
theorem step0_M {W : Nat → Nat → Prop} {h g : eH} {X : AX} {B0 B : Nat} {S : Nat → Int32} {ft : Int32} (hW : ∀ j k, W j k → mW j k) (hW2 : w82 W) (hR : RefsOK h) (hm : MI h X) (ho : okX B0 X) (og : only W h g) (hS : MS g 77 0 S) (hA : okA (xF X) B S) (hft : gI g 73 23 = ft) (hf : okT ft) : ∃ g', f_X11_stepGoes LF g 73 77 0 = some (g', 1) ∧ MS g' 77 0 (st0 (xF X) (xR X) ft S) ∧ only W h g' ∧ only (fun j _ => j = 77 ∨ j = 82 ∨ j = 83) g g' := by
  obtain ⟨-, -, ⟨cu, c1, c2⟩, -, -, -⟩ := id hA
  have hn : ¬ S 74 < nI 0 := by rw [c2]; exact nI_nlt (by omega) (by omega)
  obtain ⟨g', x1, x2, x3⟩ := step_M (co := 0) ho.1 ho.2.1 (Or.inr rfl) hA (only_refs og hR) (mW_MR hW og hm.2.1) (mW_MF hW og hm.1) hS hft hf (by omega)
  rw [if_neg hn] at x1 x2
  exact ⟨g', x1, x2, only_trans og (only_mono (fun j k a => w82_of hW2 a) x3), x3⟩
theorem step1_M {W : Nat → Nat → Prop} {h g : eH} {X : AX} {B0 B : Nat} {S : Nat → Int32} (hW : ∀ j k, W j k → mW j k) (hW2 : w82 W) (hR : RefsOK h) (hm : MI h X) (ho : okX B0 X) (og : only W h g) (hS : MS g 77 0 S) (hA : okA (xF X) B S) (hft : gI g 73 23 = -1) : ∃ g', f_X11_stepGoes LF g 73 77 (nI (coA (xF X) S)) = some (g', if S 74 < nI (coA (xF X) S) then 0 else 1) ∧ MS g' 77 0 (if S 74 < nI (coA (xF X) S) then S else stC (xF X) (xR X) S) ∧ only W h g' ∧ only (fun j _ => j = 77 ∨ j = 82 ∨ j = 83) g g' := by
  obtain ⟨g', x1, x2, x3⟩ := step_M (co := coA (xF X) S) ho.1 ho.2.1 (Or.inr rfl) hA (only_refs og hR) (mW_MR hW og hm.2.1) (mW_MF hW og hm.1) hS hft okT_m coA_le
  exact ⟨g', x1, x2, only_trans og (only_mono (fun j k a => w82_of hW2 a) x3), x3⟩
theorem puts_M {h : eH} {S : Nat → Int32} (hR : RefsOK h) (hS : MS h 76 0 S) : ∃ h', f_X11_puts LF h 73 = some h' ∧ MS h' 77 0 S ∧ only (fun j _ => j = 77) h h' := by
  obtain ⟨fu, hfu⟩ := fu_s 79 (by decide)
  have hlp := puts_loop (k := fun (h10 : eH) => some h10) (g := fun j => gI h 76 j) 79 0 fu h rfl hR (fun _ => rfl)
  have hlp2 : f_X11_puts_L2 LF (fu + 79 + 1) (fun (h10 : eH) => some h10) h 73 0 = _ := hlp
  refine ⟨wrI 77 0 (fun j => gI h 76 (0 + j)) 79 0 h, ?_, fun k hk => ?_, only_wr (fun _ => rfl)⟩
  · unfold f_X11_puts
    rw [hfu]; exact hlp2
  · rw [wrI_gI, if_pos (by omega)]
    show gI h 76 (0 + (0 + k - 0)) = S k
    rw [show 0 + (0 + k - 0) = 0 + k by omega]; exact hS k hk
/-! how many steps till all that is wanted was seen, and what was not -/
def seU (S : Nat → Int32) (w : Int64) : Int64 := w &&& (f_X10_bit (S 72) ^^^ (-1))
def swA (F : FV) (R : Nat × (Nat → Nat)) (ft : Int32) : Nat → (Nat → Int32) → Int64 → Nat × Int64
  | 0, _, u => (if u = 0 then 0 else 1, u)
  | m + 1, S, u => if u = 0 then (0, u) else ((swA F R ft m (st0 F R ft S) (seU (st0 F R ft S) u)).1 + 1, (swA F R ft m (st0 F R ft S) (seU (st0 F R ft S) u)).2)
theorem swA_le {F : FV} {R : Nat × (Nat → Nat)} {ft : Int32} : ∀ (m : Nat) (S : Nat → Int32) (u : Int64), (swA F R ft m S u).1 ≤ m + 1
  | 0, S, u => by unfold swA; show (if u = 0 then 0 else 1) ≤ 1; split <;> omega
  | m + 1, S, u => by
    have := swA_le (F := F) (R := R) (ft := ft) m (st0 F R ft S) (seU (st0 F R ft S) u)
    unfold swA
    split
    · show 0 ≤ m + 1 + 1; omega
    · show _ + 1 ≤ m + 1 + 1; omega
theorem see_C {h : eH} {X : AX} {B : Nat} {ft : Int32} (hc : CI h X) (ho : okX B X) (hB : B + 1000 < 2 ^ 31) (w : Int64) (hf : okT ft) : ∃ h', f_X10_stepsToSee LF h 0 w ft = some (h', nI (swA (xF X) (xR X) ft 999 (xS X) (seU (xS X) w)).1) ∧ only csc h h' := by
  obtain ⟨hT, t1, t2, t3⟩ := trip_C hc
  have hRT := only_refs t3 hc.1
  have e1 : gI hT 50 1 = xS X 72 := t2.2.2.1 1 (by omega) (by omega)
  have hle := swA_le (F := xF X) (R := xR X) (ft := ft) 999 (xS X) (seU (xS X) w)
  unfold f_X10_stepsToSee
  rw [if_pos iO_0, r_0_9 hc.1, Option.bind_some, r_0_7 hc.1, Option.bind_some, if_pos iO_50, t1, Option.bind_some, r_0_9 hRT, Option.bind_some, if_pos iO_50, e1]
  generalize hTT : swA (xF X) (xR X) ft 999 (xS X) (seU (xS X) w) = T at hle ⊢
  refine lpF (N := 999) (s := (hT, xS X, seU (xS X) w)) (run := fun fu (q : eH × (Nat → Int32) × Int64) i => f_X10_stepsToSee_L32 LF fu (fun (h20 : eH) (w4_21 : Int64) (w6_22 : Int32) => if (lg_cmp w4_21 0) = 0 then some (h20, w6_22) else some (h20, 1000)) q.1 0 ft q.2.2 (nI i)) (Inv := fun i q => CS q.1 50 q.2.1 ∧ okA (xF X) (B + i) q.2.1 ∧ only csc h q.1 ∧ (swA (xF X) (xR X) ft (999 - i) q.2.1 q.2.2).1 + i = T.1) (Post := fun r => ∃ h', r = some (h', nI T.1) ∧ only csc h h') (by decide) ⟨t2, ho.2.2.2.1, t3, by rw [hTT]; rfl⟩ ?_ ?_
  · rintro fu ⟨g, S, u⟩ ⟨g1, g2, g3, g4⟩
    refine ⟨g, ?_, g3⟩
    show f_X10_stepsToSee_L32 LF (fu + 1) _ g 0 ft u (nI 999) = _
    unfold f_X10_stepsToSee_L32
    rw [if_pos (by decide)]
    have g4 : (if u = 0 then 0 else 1) + 999 = T.1 := g4
    show (if (lg_cmp u 0) = 0 then some (g, nI 999) else some (g, 1000)) = _
    rw [← g4]
    by_cases hu : u = 0
    · rw [if_pos ((lg_0 u 0).mpr hu), if_pos hu]
    · rw [if_neg (fun q => hu ((lg_0 u 0).mp q)), if_neg hu]; rfl
  · rintro i fu ⟨g, S, u⟩ hi ⟨g1, g2, g3, g4⟩
    have g1 : CS g 50 S := g1
    have g2 : okA (xF X) (B + i) S := g2
    have g3 : only csc h g := g3
    have hRg := only_refs g3 hc.1
    obtain ⟨m, hm⟩ : ∃ m, 999 - i = m + 1 := ⟨998 - i, by omega⟩
    have g4 : (swA (xF X) (xR X) ft (999 - i) S u).1 + i = T.1 := g4
    rw [hm] at g4
    unfold swA at g4
    by_cases hu : u = 0
    · rw [if_pos hu] at g4
      refine Or.inl ⟨g, ?_, g3⟩
      show f_X10_stepsToSee_L32 LF (fu + 1) _ g 0 ft u (nI i) = _
      unfold f_X10_stepsToSee_L32
      rw [if_neg (show ¬ (999 : Int32) ≤ nI i from nI_ge (b := 999) hi (by decide)), if_pos ((lg_0 u 0).mpr hu)]
      show (if (lg_cmp u 0) = 0 then some (g, nI i) else some (g, 1000)) = _
      rw [if_pos ((lg_0 u 0).mpr hu), ← g4]
      exact congrArg (fun z => some (g, nI z)) (by show i = 0 + i; omega)
    · rw [if_neg hu] at g4
      obtain ⟨g', x1, x2, x3⟩ := step0_C hc ho g3 g1 g2 (by omega) hf
      have hRg' := only_refs x3 hc.1
      have e2 : gI g' 50 1 = st0 (xF X) (xR X) ft S 72 := x2.2.2.1 1 (by omega) (by omega)
      have okn : okA (xF X) (B + (i + 1)) (st0 (xF X) (xR X) ft S) := okA_st0 ho.1 hf g2
      generalize st0 (xF X) (xR X) ft S = S' at x2 e2 okn g4
      refine Or.inr ⟨(g', S', seU S' u), ⟨x2, okn, x3, ?_⟩, fun z hz => ?_⟩
      · show (swA (xF X) (xR X) ft (999 - (i + 1)) S' (seU S' u)).1 + (i + 1) = T.1
        rw [show 999 - (i + 1) = m by omega, ← g4]
        show _ = (swA (xF X) (xR X) ft m S' (seU S' u)).1 + 1 + i
        omega
      · show f_X10_stepsToSee_L32 LF (fu + 1) _ g 0 ft u (nI i) = z
        unfold f_X10_stepsToSee_L32
        rw [if_neg (show ¬ (999 : Int32) ≤ nI i from nI_ge (b := 999) hi (by decide)), if_neg (fun q => hu ((lg_0 u 0).mp q)), if_pos iO_0, r_0_9 hRg, Option.bind_some, x1, Option.bind_some, r_0_9 hRg', Option.bind_some, if_pos iO_50, e2, nI_p1]
        exact hz
theorem bit_sh {F : FV} {B : Nat} {S : Nat → Int32} (ho : okA F B S) : (1 : Int64) <<< ((S 72).toInt64 &&& 63) = f_X10_bit (S 72) := by
  obtain ⟨⟨sp, a1, a2, a3, a4⟩, -⟩ := ho
  rw [a4]; exact (bit_k a1).symm
theorem sweeps_M {W : Nat → Nat → Prop} {h g0 : eH} {X : AX} {B : Nat} {ft : Int32} (hW : ∀ j k, W j k → mW j k) (hW2 : w82 W) (hW3 : W 73 29) (hR : RefsOK h) (hm : MI h X) (ho : okX B X) (og0 : only W h g0) (w : Int64) (hft : gI g0 73 23 = ft) (hf : okT ft) : ∃ h', f_X11_sweeps LF g0 73 w = some (h', nI (swA (xF X) (xR X) ft 999 (xS X) (seU (xS X) w)).1) ∧ gL h' 73 29 = (swA (xF X) (xR X) ft 999 (xS X) (seU (xS X) w)).2 ∧ only W h h' ∧ only (fun j k => (j = 73 ∧ k = 29) ∨ j = 77 ∨ j = 82 ∨ j = 83) g0 h' := by
  have hR0 := only_refs og0 hR
  obtain ⟨hP, p1, p2, p3⟩ := puts_M hR0 (mW_S hW og0 hm.2.2.2.2.1)
  have hRP := only_refs p3 hR0
  have i72 : inA LF 77 0 72 = true := (iM (Or.inr rfl)).1
  have e1 : gI hP 77 72 = xS X 72 := MS_0 p2 (by omega)
  have hle := swA_le (F := xF X) (R := xR X) (ft := ft) 999 (xS X) (seU (xS X) w)
  unfold f_X11_sweeps
  rw [if_pos iO_73, p1, Option.bind_some, r_73_8 hRP, Option.bind_some, if_pos i72, Option.bind_some, c72, e1, bit_sh ho.2.2.2.1]
  generalize hTT : swA (xF X) (xR X) ft 999 (xS X) (seU (xS X) w) = T at hle ⊢
  have oP : only (fun j k => (j = 73 ∧ k = 29) ∨ j = 77 ∨ j = 82 ∨ j = 83) g0 (sL hP 73 29 (seU (xS X) w)) := only_trans (only_mono (fun j k a => by omega) p3) (only_sL (Or.inl ⟨rfl, rfl⟩))
  have tr : ∀ g', only (fun j k => (j = 73 ∧ k = 29) ∨ j = 77 ∨ j = 82 ∨ j = 83) g0 g' → only W h g' := fun g' o => only_trans og0 (only_mono (fun j k a => a.elim (fun e => by rw [e.1, e.2]; exact hW3) (fun e => w82_of hW2 e)) o)
  refine lpF (N := 1000) (s := (sL hP 73 29 (seU (xS X) w), xS X)) (run := fun fu (q : eH × (Nat → Int32)) i => f_X11_sweeps_L25 LF fu (fun (h19 : eH) (w3_20 : Int32) => some (h19, w3_20)) (fun (h21 : eH) => some (h21, 1000)) q.1 73 (nI i)) (Inv := fun i q => MS q.1 77 0 q.2 ∧ okA (xF X) (B + i) q.2 ∧ only (fun j k => (j = 73 ∧ k = 29) ∨ j = 77 ∨ j = 82 ∨ j = 83) g0 q.1 ∧ (i ≤ 999 → (swA (xF X) (xR X) ft (999 - i) q.2 (gL q.1 73 29)).1 + i = T.1 ∧ (swA (xF X) (xR X) ft (999 - i) q.2 (gL q.1 73 29)).2 = T.2) ∧ (i = 1000 → T.1 = 1000 ∧ gL q.1 73 29 = T.2)) (Post := fun r => ∃ h', r = some (h', nI T.1) ∧ gL h' 73 29 = T.2 ∧ only W h h' ∧ only (fun j k => (j = 73 ∧ k = 29) ∨ j = 77 ∨ j = 82 ∨ j = 83) g0 h') (by decide) ⟨fun k hk => p2 k hk, ho.2.2.2.1, oP, fun _ => ?_, fun q => absurd q (by omega)⟩ ?_ ?_
  · show (swA (xF X) (xR X) ft 999 (xS X) (gL (sL hP 73 29 (seU (xS X) w)) 73 29)).1 + 0 = T.1 ∧ (swA (xF X) (xR X) ft 999 (xS X) (gL (sL hP 73 29 (seU (xS X) w)) 73 29)).2 = T.2
    rw [gL_sL, if_pos ⟨rfl, rfl⟩, hTT]; exact ⟨rfl, rfl⟩
  · rintro fu ⟨g, S⟩ ⟨g1, g2, g3, g4, g5⟩
    obtain ⟨y1, y2⟩ := g5 rfl
    refine ⟨g, ?_, y2, tr g g3, g3⟩
    show f_X11_sweeps_L25 LF (fu + 1) _ _ g 73 (nI 1000) = _
    unfold f_X11_sweeps_L25
    rw [if_pos (by decide), y1]; rfl
  · rintro i fu ⟨g, S⟩ hi ⟨g1, g2, g3, g4, g5⟩
    have g1 : MS g 77 0 S := g1
    have g2 : okA (xF X) (B + i) S := g2
    have g3 : only (fun j k => (j = 73 ∧ k = 29) ∨ j = 77 ∨ j = 82 ∨ j = 83) g0 g := g3
    have hRg := only_refs g3 hR0
    obtain ⟨y1, y2⟩ := g4 (by omega)
    have y1 : (swA (xF X) (xR X) ft (999 - i) S (gL g 73 29)).1 + i = T.1 := y1
    have y2 : (swA (xF X) (xR X) ft (999 - i) S (gL g 73 29)).2 = T.2 := y2
    have n999 : ¬ (999 : Int32) < nI i := nI_nlt (a := 999) (by omega) (by decide)
    by_cases hu : gL g 73 29 = 0
    · have z : swA (xF X) (xR X) ft (999 - i) S (gL g 73 29) = (0, gL g 73 29) := by
        rw [hu]
        cases 999 - i with
        | zero => unfold swA; rw [if_pos rfl]
        | succ m => unfold swA; rw [if_pos rfl]
      rw [z] at y1 y2
      refine Or.inl ⟨g, ?_, y2, tr g g3, g3⟩
      show f_X11_sweeps_L25 LF (fu + 1) _ _ g 73 (nI i) = _
      unfold f_X11_sweeps_L25
      rw [if_neg n999, if_pos iO_73, if_pos ((lg_0 _ 0).mpr hu), ← y1]
      exact congrArg (fun z => some (g, nI z)) (by show i = 0 + i; omega)
    · by_cases h999 : i = 999
      · subst h999
        have y1 : (if gL g 73 29 = 0 then 0 else 1) + 999 = T.1 := y1
        rw [if_neg hu] at y1
        refine Or.inr ⟨(g, S), ⟨g1, okA_mono (by omega) g2, g3, fun q => absurd q (by omega), fun _ => ⟨y1.symm, y2⟩⟩, fun z hz => ?_⟩
        show f_X11_sweeps_L25 LF (fu + 1) _ _ g 73 (nI 999) = z
        unfold f_X11_sweeps_L25
        rw [if_neg n999, if_pos iO_73, if_neg (fun q => hu ((lg_0 _ 0).mp q)), if_pos (by decide), nI_p1]
        exact hz
      · obtain ⟨m, hm2⟩ : ∃ m, 999 - i = m + 1 := ⟨998 - i, by omega⟩
        rw [hm2] at y1 y2
        unfold swA at y1 y2
        rw [if_neg hu] at y1 y2
        have hftg : gI g 73 23 = ft := (o_I g3 (by omega)).trans hft
        obtain ⟨g', x1, x2, x3, x4⟩ := step0_M hW hW2 hR hm ho (tr g g3) g1 g2 hftg hf
        have hRg' := only_refs x3 hR
        have e2 : gI g' 77 72 = st0 (xF X) (xR X) ft S 72 := MS_0 x2 (by omega)
        have e29 : gL g' 73 29 = gL g 73 29 := o_L x4 (by omega)
        have okn : okA (xF X) (B + (i + 1)) (st0 (xF X) (xR X) ft S) := okA_st0 ho.1 hf g2
        have bs := bit_sh okn
        generalize st0 (xF X) (xR X) ft S = S' at x2 e2 okn y1 y2 bs
        have oN : only (fun j k => (j = 73 ∧ k = 29) ∨ j = 77 ∨ j = 82 ∨ j = 83) g0 (sL g' 73 29 (seU S' (gL g 73 29))) := only_trans g3 (only_trans (only_mono (fun j k a => by omega) x4) (only_sL (Or.inl ⟨rfl, rfl⟩)))
        have e29' : gL (sL g' 73 29 (seU S' (gL g 73 29))) 73 29 = seU S' (gL g 73 29) := by rw [gL_sL, if_pos ⟨rfl, rfl⟩]
        refine Or.inr ⟨(sL g' 73 29 (seU S' (gL g 73 29)), S'), ⟨fun k hk => x2 k hk, okn, oN, fun _ => ?_, fun q => absurd q (by omega)⟩, fun z hz => ?_⟩
        · show (swA (xF X) (xR X) ft (999 - (i + 1)) S' (gL (sL g' 73 29 (seU S' (gL g 73 29))) 73 29)).1 + (i + 1) = T.1 ∧ (swA (xF X) (xR X) ft (999 - (i + 1)) S' (gL (sL g' 73 29 (seU S' (gL g 73 29))) 73 29)).2 = T.2
          rw [e29', show 999 - (i + 1) = m by omega]
          refine ⟨?_, y2⟩
          rw [← y1]
          show _ = (swA (xF X) (xR X) ft m S' (seU S' (gL g 73 29))).1 + 1 + i
          omega
        · show f_X11_sweeps_L25 LF (fu + 1) _ _ g 73 (nI i) = z
          unfold f_X11_sweeps_L25
          rw [if_neg n999, if_pos iO_73, if_neg (fun q => hu ((lg_0 _ 0).mp q)), if_neg (show ¬ (999 : Int32) ≤ nI i from nI_ge (b := 999) (by omega) (by decide)), r_73_8 hRg, Option.bind_some, x1, Option.bind_some, r_73_8 hRg', Option.bind_some, if_pos i72, Option.bind_some, c72, e2, e29, bs, nI_p1]
          exact hz

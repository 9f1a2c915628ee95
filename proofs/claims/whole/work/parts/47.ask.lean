/-! meets, been, round, corner on both sides. -/
theorem bit_ne {p : Nat} (hp : p < 36) : f_X10_bit (nI p) ≠ 0 := fun e => by
  have := bit_tb hp p
  rw [e, tb_0] at this
  simp at this
theorem seU_bit {S : Nat → Int32} {sp p : Nat} (h1 : sp < 36) (h2 : p < 36) (e : S 72 = nI sp) : seU S (f_X10_bit (nI p)) = if sp = p then 0 else f_X10_bit (nI p) := by
  unfold seU
  rw [e]
  apply tb_ext
  intro k hk
  rw [tb_and, tb_not _ hk, bit_tb h1, bit_tb h2]
  by_cases hs : sp = p
  · subst hs; rw [if_pos rfl, tb_0]; cases decide (k = sp) <;> rfl
  · rw [if_neg hs, bit_tb h2]
    by_cases hk2 : k = p
    · subst hk2; simp [show ¬ k = sp from fun q => hs q.symm]
    · simp [hk2]
def mtA (F : FV) (R : Nat × (Nat → Nat)) (pl : Int32) : Nat → (Nat → Int32) → Nat
  | 0, S => if S 72 = pl then 0 else 1
  | m + 1, S => if S 72 = pl then 0 else mtA F R pl m (st0 F R (-1) S) + 1
theorem mt_sw {F : FV} {R : Nat × (Nat → Nat)} {p : Nat} (hF : okF F) (hp : p < 36) : ∀ (m B : Nat) (S : Nat → Int32), okA F B S → (swA F R (-1) m S (seU S (f_X10_bit (nI p)))).1 = mtA F R (nI p) m S
  | 0, B, S, ho => by
    obtain ⟨⟨sp, a1, a2, a3, a4⟩, -⟩ := id ho
    rw [seU_bit a1 hp a4]
    unfold swA mtA
    rw [a4]
    by_cases hs : sp = p
    · subst hs; rw [if_pos rfl, if_pos rfl, if_pos rfl]
    · rw [if_neg hs, if_neg (fun q => hs (nI_inj (by omega) (by omega) q))]
      show (if f_X10_bit (nI p) = 0 then 0 else 1) = 1
      rw [if_neg (bit_ne hp)]
  | m + 1, B, S, ho => by
    obtain ⟨⟨sp, a1, a2, a3, a4⟩, -⟩ := id ho
    have okn : okA F (B + 1) (st0 F R (-1) S) := okA_st0 hF okT_m ho
    have ih := mt_sw (R := R) hF hp m (B + 1) (st0 F R (-1) S) okn
    rw [seU_bit a1 hp a4]
    unfold swA mtA
    rw [a4]
    by_cases hs : sp = p
    · subst hs; rw [if_pos rfl, if_pos rfl, if_pos rfl]
    · rw [if_neg hs, if_neg (fun q => hs (nI_inj (by omega) (by omega) q)), if_neg (bit_ne hp)]
      show _ + 1 = _ + 1
      rw [ih]
theorem meets_ML {W : Nat → Nat → Prop} {P : Option (eH × Int32) → Prop} {k39 : eH → Int32 → Option (eH × Int32)} {k57 : eH → Option (eH × Int32)} {h g0 : eH} {X : AX} {B p : Nat} (hW : ∀ j k, W j k → mW j k) (hW2 : w82 W) (hW3 : ¬ W 73 23) (hR : RefsOK h) (hm : MI h X) (ho : okX B X) (og : only W h g0) (hS : MS g0 77 0 (xS X)) (hp : plI (xF X) = nI p) (hp2 : p < 36) (y1 : ∀ g, only W h g → mtA (xF X) (xR X) (nI p) 999 (xS X) ≤ 999 → P (k39 g (nI (mtA (xF X) (xR X) (nI p) 999 (xS X))))) (y2 : ∀ g, only W h g → mtA (xF X) (xR X) (nI p) 999 (xS X) = 1000 → P (k57 g)) : P (f_X11_meets_L11 LF e_fu k39 k57 g0 73 0) := by
  generalize hTT : mtA (xF X) (xR X) (nI p) 999 (xS X) = T at y1 y2
  refine lpF (N := 1000) (s := (g0, xS X)) (run := fun fu (q : eH × (Nat → Int32)) i => f_X11_meets_L11 LF fu k39 k57 q.1 73 (nI i)) (Inv := fun i q => MS q.1 77 0 q.2 ∧ okA (xF X) (B + i) q.2 ∧ only W h q.1 ∧ (i ≤ 999 → mtA (xF X) (xR X) (nI p) (999 - i) q.2 + i = T) ∧ (i = 1000 → T = 1000)) (Post := P) (by decide) ⟨hS, ho.2.2.2.1, og, fun _ => hTT, fun q => absurd q (by omega)⟩ ?_ ?_
  · rintro fu ⟨g, S⟩ ⟨g1, g2, g3, g4, g5⟩
    show P (f_X11_meets_L11 LF (fu + 1) k39 k57 g 73 (nI 1000))
    unfold f_X11_meets_L11
    rw [if_pos (by decide)]
    exact y2 g g3 (g5 rfl)
  · rintro i fu ⟨g, S⟩ hi ⟨g1, g2, g3, g4, g5⟩
    have g1 : MS g 77 0 S := g1
    have g2 : okA (xF X) (B + i) S := g2
    have g3 : only W h g := g3
    have g4 : mtA (xF X) (xR X) (nI p) (999 - i) S + i = T := g4 (by omega)
    have hRg := only_refs g3 hR
    have i72 : inA LF 77 0 72 = true := (iM (Or.inr rfl)).1
    have n999 : ¬ (999 : Int32) < nI i := nI_nlt (a := 999) (by omega) (by decide)
    have hpl : gI g 73 5 = nI p := (mW_MF hW g3 hm.1).2.2.1.trans hp
    have hft : gI g 73 23 = -1 := (o_I g3 hW3).trans hm.2.2.1
    by_cases hs : S 72 = nI p
    · have z : mtA (xF X) (xR X) (nI p) (999 - i) S = 0 := by
        cases 999 - i with
        | zero => unfold mtA; rw [if_pos hs]
        | succ m => unfold mtA; rw [if_pos hs]
      rw [z] at g4
      refine Or.inl ?_
      show P (f_X11_meets_L11 LF (fu + 1) k39 k57 g 73 (nI i))
      unfold f_X11_meets_L11
      rw [if_neg n999, if_pos iO_73, hpl, if_neg (nI_pos (by omega)), r_73_8 hRg, Option.bind_some, if_pos i72, c72, MS_0 g1 (by omega), if_pos hs]
      have : T = i := by omega
      subst this
      exact y1 g g3 (by omega)
    · obtain ⟨g', x1, x2, x3, x4⟩ := step0_M hW hW2 hR hm ho g3 g1 g2 hft okT_m
      have okn : okA (xF X) (B + (i + 1)) (st0 (xF X) (xR X) (-1) S) := okA_st0 ho.1 okT_m g2
      have g5 : (i + 1 ≤ 999 → mtA (xF X) (xR X) (nI p) (999 - (i + 1)) (st0 (xF X) (xR X) (-1) S) + (i + 1) = T) ∧ (i + 1 = 1000 → T = 1000) := by
        refine ⟨fun hle => ?_, fun hle => ?_⟩
        · rw [show 999 - i = (999 - (i + 1)) + 1 by omega] at g4
          unfold mtA at g4
          rw [if_neg hs] at g4
          omega
        · rw [show 999 - i = 0 by omega] at g4
          unfold mtA at g4
          rw [if_neg hs] at g4
          omega
      generalize st0 (xF X) (xR X) (-1) S = S' at x2 okn g5
      refine Or.inr ⟨(g', S'), ⟨x2, okn, x3, g5.1, g5.2⟩, fun z hz => ?_⟩
      show f_X11_meets_L11 LF (fu + 1) k39 k57 g 73 (nI i) = z
      unfold f_X11_meets_L11
      rw [if_neg n999, if_pos iO_73, hpl, if_neg (nI_pos (by omega)), r_73_8 hRg, Option.bind_some, if_pos i72, c72, MS_0 g1 (by omega), if_neg hs, Option.bind_some, x1, Option.bind_some, nI_p1]
      exact hz
theorem msc_mW {j k : Nat} (h : msc j k) : mW j k := Or.inl (Or.inl h)
theorem msc_82 : w82 msc := fun k => ⟨by unfold msc; omega, by unfold msc; omega, by unfold msc; omega⟩
theorem msc_23 : ¬ msc 73 23 := by unfold msc; omega
theorem mtA_le {F : FV} {R : Nat × (Nat → Nat)} {pl : Int32} : ∀ (m : Nat) (S : Nat → Int32), mtA F R pl m S ≤ m + 1
  | 0, S => by unfold mtA; split <;> omega
  | m + 1, S => by
    have := mtA_le (F := F) (R := R) (pl := pl) m (st0 F R (-1) S)
    unfold mtA
    split <;> omega
theorem meets_P {B : Nat} {h : eH} {X : AX} (hc : CI h X) (hm : MI h X) (ho : okX B X) (hB : B + 1000 < 2 ^ 31) : PR B (f_X10_meets LF h 0) (fun h1 => f_X11_meets LF h1 73) := by
  obtain ⟨pp, hp⟩ := hc.2.1
  have e3 : gI h pp 3 = plI (xF X) := hp.2.2.2.2.2.1
  cases hpl : (xF X).2.2.2 with
  | none =>
    have epl : plI (xF X) = -1 := by unfold plI; rw [hpl]
    refine PR_s hc hm ho (r := -2) ⟨h, ?_, only_rfl⟩ (fun h1 hR h9 => ?_)
    · unfold f_X10_meets
      rw [if_pos iO_0, hp.2.1, Option.bind_some, if_pos (p_O hp), e3, epl, if_pos rfl]
    · have h9' := MI_scr thr_M h9
      obtain ⟨h2, x1, x2, x3⟩ := puts_M (refs_sI hR) h9'.2.2.2.2.1
      refine ⟨h2, ?_, only_trans thr_M (only_mono (fun j k a => by unfold msc; omega) x3)⟩
      show f_X11_meets LF h1 73 = _
      unfold f_X11_meets
      rw [if_pos iO_73, x1, Option.bind_some]
      obtain ⟨fu, hfu⟩ := fu_s 0 (by decide)
      have e5 : gI h2 73 5 = -1 := ((o_I x3 (by omega)).trans h9'.1.2.2.1).trans epl
      rw [hfu]
      unfold f_X11_meets_L11
      rw [if_neg (by decide), if_pos iO_73, e5, if_pos (by decide)]
  | some p =>
    have epl : plI (xF X) = nI p := by unfold plI; rw [hpl]
    have hp36 := (ho.1.2.2.2.2.2 p hpl).1
    have hle := mtA_le (F := xF X) (R := xR X) (pl := nI p) 999 (xS X)
    obtain ⟨hA, a1, a2⟩ := see_C hc ho hB (f_X10_bit (nI p)) okT_m
    rw [mt_sw ho.1 hp36 999 B (xS X) ho.2.2.2.1] at a1
    refine PR_s hc hm ho (r := if mtA (xF X) (xR X) (nI p) 999 (xS X) ≤ 999 then nI (mtA (xF X) (xR X) (nI p) 999 (xS X)) else -2) ⟨hA, ?_, a2⟩ (fun h1 hR h9 => ?_)
    · unfold f_X10_meets
      rw [if_pos iO_0, hp.2.1, Option.bind_some, if_pos (p_O hp), e3, epl, if_neg (fun q => nI_pos (n := p) (by omega) (by rw [q]; decide)), Option.bind_some, if_pos (p_O hp), e3, epl, a1, Option.bind_some]
      by_cases h9 : mtA (xF X) (xR X) (nI p) 999 (xS X) ≤ 999
      · rw [if_pos h9, if_pos (show nI (mtA (xF X) (xR X) (nI p) 999 (xS X)) ≤ 999 from nI_le (b := 999) h9 (by decide))]
      · rw [if_neg h9, if_neg (show ¬ nI (mtA (xF X) (xR X) (nI p) 999 (xS X)) ≤ 999 from nI_ge (a := 999) (by omega) (by omega))]
    · have h9' := MI_scr thr_M h9
      obtain ⟨h2, x1, x2, x3⟩ := puts_M (refs_sI hR) h9'.2.2.2.2.1
      have o2 : only msc h1 h2 := only_trans thr_M (only_mono (fun j k a => by unfold msc; omega) x3)
      show ∃ h2, f_X11_meets LF h1 73 = _ ∧ _
      unfold f_X11_meets
      rw [if_pos iO_73, x1, Option.bind_some]
      refine meets_ML (W := msc) (P := fun r => ∃ h2, r = some (h2, _) ∧ only msc h1 h2) (fun _ _ => msc_mW) msc_82 msc_23 hR h9 ho o2 x2 epl hp36 (fun g og hl => ⟨g, ?_, og⟩) (fun g og hl => ⟨g, ?_, og⟩)
      · rw [if_pos hl]
      · rw [if_neg (by omega)]
/-! been -/
def beA (F : FV) (R : Nat × (Nat → Nat)) : Nat → (Nat → Int32) → Int64 → (Nat → Int32) × Int64
  | 0, S, b => (S, b)
  | m + 1, S, b => if S 74 < nI (coA F S) then (S, b) else beA F R m (stC F R S) (b ||| f_X10_bit (stC F R S 72))
theorem beA_ok {F : FV} {R : Nat × (Nat → Nat)} (hF : okF F) : ∀ (m B : Nat) (S : Nat → Int32) (b : Int64), okA F B S → okA F (B + m) (beA F R m S b).1
  | 0, B, S, b, ho => ho
  | m + 1, B, S, b, ho => by
    unfold beA
    by_cases hc : S 74 < nI (coA F S)
    · rw [if_pos hc]; exact okA_mono (by omega) ho
    · rw [if_neg hc]
      exact okA_mono (by omega) (beA_ok (R := R) hF m (B + 1) (stC F R S) _ (okA_stC hF ho hc))
theorem been_CL {P : Option (eH × Int32) → Prop} {k76 : eH → Nat → Int64 → Option (eH × Int32)} {h g0 : eH} {X : AX} {B N : Nat} {b0 : Int64} (hc : CI h X) (ho : okX B X) (hB : B + 1000 < 2 ^ 31) (hN : N ≤ 200) (og : only csc h g0) (hS : CS g0 50 (xS X)) (y : ∀ g, only csc h g → CS g 50 (beA (xF X) (xR X) N (xS X) b0).1 → P (k76 g 0 (beA (xF X) (xR X) N (xS X) b0).2)) : P (f_X10_been_L38 LF e_fu k76 g0 0 (nI N) b0 0) := by
  generalize hTT : beA (xF X) (xR X) N (xS X) b0 = T at y
  refine lpF (N := N) (s := (g0, xS X, b0)) (run := fun fu (q : eH × (Nat → Int32) × Int64) i => f_X10_been_L38 LF fu k76 q.1 0 (nI N) q.2.2 (nI i)) (Inv := fun i q => CS q.1 50 q.2.1 ∧ okA (xF X) (B + i) q.2.1 ∧ only csc h q.1 ∧ beA (xF X) (xR X) (N - i) q.2.1 q.2.2 = T) (Post := P) (by omega) ⟨hS, ho.2.2.2.1, og, hTT⟩ ?_ ?_
  · rintro fu ⟨g, S, b⟩ ⟨g1, g2, g3, g4⟩
    have g4 : beA (xF X) (xR X) (N - N) S b = T := g4
    rw [Nat.sub_self] at g4
    have g4 : (S, b) = T := g4
    show P (f_X10_been_L38 LF (fu + 1) k76 g 0 (nI N) b (nI N))
    unfold f_X10_been_L38
    rw [if_pos (nI_le (Nat.le_refl _) (by omega))]
    subst g4
    exact y g g3 g1
  · rintro i fu ⟨g, S, b⟩ hi ⟨g1, g2, g3, g4⟩
    have g1 : CS g 50 S := g1
    have g2 : okA (xF X) (B + i) S := g2
    have g3 : only csc h g := g3
    have g4 : beA (xF X) (xR X) (N - i) S b = T := g4
    have hRg := only_refs g3 hc.1
    rw [show N - i = (N - (i + 1)) + 1 by omega] at g4
    unfold beA at g4
    obtain ⟨g', x1, x2, x3⟩ := step1_C hc ho g3 g1 g2 (by omega)
    have hRg' := only_refs x3 hc.1
    by_cases hs : S 74 < nI (coA (xF X) S)
    · rw [if_pos hs] at g4 x1 x2
      refine Or.inl ?_
      show P (f_X10_been_L38 LF (fu + 1) k76 g 0 (nI N) b (nI i))
      unfold f_X10_been_L38
      rw [if_neg (nI_ge hi (by omega)), if_pos iO_0, r_0_9 hRg, Option.bind_some, x1, Option.bind_some, if_pos rfl]
      subst g4
      exact y g' x3 x2
    · rw [if_neg hs] at g4 x1 x2
      have okn : okA (xF X) (B + (i + 1)) (stC (xF X) (xR X) S) := okA_stC ho.1 g2 hs
      have e2 : gI g' 50 1 = stC (xF X) (xR X) S 72 := x2.2.2.1 1 (by omega) (by omega)
      generalize stC (xF X) (xR X) S = S' at x2 okn e2 g4
      refine Or.inr ⟨(g', S', b ||| f_X10_bit (S' 72)), ⟨x2, okn, x3, g4⟩, fun z hz => ?_⟩
      show f_X10_been_L38 LF (fu + 1) k76 g 0 (nI N) b (nI i) = z
      unfold f_X10_been_L38
      rw [if_neg (nI_ge hi (by omega)), if_pos iO_0, r_0_9 hRg, Option.bind_some, x1, Option.bind_some, if_neg i10, r_0_9 hRg', Option.bind_some, if_pos iO_50, e2, nI_p1]
      exact hz
theorem been_ML {P : Option (eH × Int32) → Prop} {k82 : eH → Nat → Int64 → Option (eH × Int32)} {h g0 : eH} {X : AX} {B N : Nat} {b0 : Int64} (hR : RefsOK h) (hm : MI h X) (ho : okX B X) (hN : N ≤ 200) (og : only msc h g0) (hS : MS g0 77 0 (xS X)) (y : ∀ g, only msc h g → MS g 77 0 (beA (xF X) (xR X) N (xS X) b0).1 → P (k82 g 73 (beA (xF X) (xR X) N (xS X) b0).2)) : P (f_X11_been_L36 LF e_fu k82 g0 73 (nI N) b0 0) := by
  generalize hTT : beA (xF X) (xR X) N (xS X) b0 = T at y
  refine lpF (N := N) (s := (g0, xS X, b0)) (run := fun fu (q : eH × (Nat → Int32) × Int64) i => f_X11_been_L36 LF fu k82 q.1 73 (nI N) q.2.2 (nI i)) (Inv := fun i q => MS q.1 77 0 q.2.1 ∧ okA (xF X) (B + i) q.2.1 ∧ only msc h q.1 ∧ beA (xF X) (xR X) (N - i) q.2.1 q.2.2 = T) (Post := P) (by omega) ⟨hS, ho.2.2.2.1, og, hTT⟩ ?_ ?_
  · rintro fu ⟨g, S, b⟩ ⟨g1, g2, g3, g4⟩
    have g4 : beA (xF X) (xR X) (N - N) S b = T := g4
    rw [Nat.sub_self] at g4
    have g4 : (S, b) = T := g4
    show P (f_X11_been_L36 LF (fu + 1) k82 g 73 (nI N) b (nI N))
    unfold f_X11_been_L36
    rw [if_pos (nI_le (Nat.le_refl _) (by omega))]
    subst g4
    exact y g g3 g1
  · rintro i fu ⟨g, S, b⟩ hi ⟨g1, g2, g3, g4⟩
    have g1 : MS g 77 0 S := g1
    have g2 : okA (xF X) (B + i) S := g2
    have g3 : only msc h g := g3
    have g4 : beA (xF X) (xR X) (N - i) S b = T := g4
    have hRg := only_refs g3 hR
    have i72 : inA LF 77 0 72 = true := (iM (Or.inr rfl)).1
    obtain ⟨⟨sp, a1, a2, a3, a4⟩, -⟩ := id g2
    rw [show N - i = (N - (i + 1)) + 1 by omega] at g4
    unfold beA at g4
    obtain ⟨g', x1, x2, x3, x4⟩ := step1_M (fun _ _ => msc_mW) msc_82 hR hm ho g3 g1 g2 ((o_I g3 msc_23).trans hm.2.2.1)
    have hRg' := only_refs x3 hR
    have hco := cost_M ho.1 hRg (mW_MF (fun _ _ => msc_mW) g3 hm.1) a1 a4
    by_cases hs : S 74 < nI (coA (xF X) S)
    · rw [if_pos hs] at g4 x1 x2
      refine Or.inl ?_
      show P (f_X11_been_L36 LF (fu + 1) k82 g 73 (nI N) b (nI i))
      unfold f_X11_been_L36
      rw [if_neg (nI_ge hi (by omega)), if_pos iO_73, r_73_8 hRg, Option.bind_some, Option.bind_some, if_pos i72, c72, MS_0 g1 (by omega), a4, hco, Option.bind_some, x1, Option.bind_some, if_pos rfl]
      subst g4
      exact y g' x3 x2
    · rw [if_neg hs] at g4 x1 x2
      have okn : okA (xF X) (B + (i + 1)) (stC (xF X) (xR X) S) := okA_stC ho.1 g2 hs
      have e2 : gI g' 77 72 = stC (xF X) (xR X) S 72 := MS_0 x2 (by omega)
      have bs := bit_sh okn
      generalize stC (xF X) (xR X) S = S' at x2 okn e2 g4 bs
      refine Or.inr ⟨(g', S', b ||| f_X10_bit (S' 72)), ⟨x2, okn, x3, g4⟩, fun z hz => ?_⟩
      show f_X11_been_L36 LF (fu + 1) k82 g 73 (nI N) b (nI i) = z
      unfold f_X11_been_L36
      rw [if_neg (nI_ge hi (by omega)), if_pos iO_73, r_73_8 hRg, Option.bind_some, Option.bind_some, if_pos i72, c72, MS_0 g1 (by omega), a4, hco, Option.bind_some, x1, Option.bind_some, if_neg i10, r_73_8 hRg', Option.bind_some, if_pos i72, e2, bs, nI_p1]
      exact hz
theorem csc_w {h h' : eH} (o : only csc h h') : only cscW h h' := only_mono (fun _ _ a => Or.inl a) o
theorem msc_w {h h' : eH} (o : only msc h h') : only mscW h h' := only_mono (fun _ _ a => Or.inl a) o
theorem row_w {h h' : eH} (o : only (fun j _ => j = 3 ∨ j = 4) h h') : only cscW h h' := only_mono (fun _ _ a => Or.inr a) o
theorem rowm_w {h h' : eH} (o : only (fun j k => (j = 73 ∧ k = 1) ∨ j = 74) h h') : only mscW h h' := only_mono (fun _ _ a => Or.inr a) o
theorem been_P {B : Nat} {h : eH} {X : AX} (hc : CI h X) (hm : MI h X) (ho : okX B X) (hB : B + 1000 < 2 ^ 31) (v : Int32) : PR B (f_X10_been LF h 0 v) (fun h1 => f_X11_been LF h1 73 v) := by
  have in2 : f_X11_in v.toInt64 0 200 = if v < 0 then 0 else if nI 200 < v then 0 else 1 := in_00 v 200
  rcases pos_le v 200 (by decide) with hv | ⟨hv, hv2, hv3⟩ | ⟨N, hN, rfl⟩
  · refine PR_no hc hm ho (r := -1) ?_ (fun h1 hR h9 => ?_)
    · unfold f_X10_been; rw [if_pos hv]
    · show f_X11_been LF h1 73 v = _
      unfold f_X11_been; rw [if_pos iO_73, in2, if_pos hv, if_pos rfl]
  · refine PR_no hc hm ho (r := -1) ?_ (fun h1 hR h9 => ?_)
    · unfold f_X10_been; rw [if_neg hv, if_neg (show ¬ v ≤ 200 from hv2)]
    · show f_X11_been LF h1 73 v = _
      unfold f_X11_been; rw [if_pos iO_73, in2, if_neg hv, if_pos hv3, if_pos rfl]
  · have hin : ¬ f_X11_in (nI N).toInt64 0 200 = 0 := by rw [in2, if_neg (nI_pos (by omega)), if_neg (nI_nlt hN (by omega))]; exact i10
    have hokT := beA_ok (R := xR X) ho.1 N B (xS X) (f_X10_bit (xS X 72)) ho.2.2.2.1
    refine PR_q hc hm ho (l := [(beA (xF X) (xR X) N (xS X) (f_X10_bit (xS X 72))).2, ((beA (xF X) (xR X) N (xS X) (f_X10_bit (xS X 72))).1 72).toInt64, ((beA (xF X) (xR X) N (xS X) (f_X10_bit (xS X 72))).1 74).toInt64]) (r := f_J13_bitCount_95d88 (beA (xF X) (xR X) N (xS X) (f_X10_bit (xS X 72))).2) (by show 3 ≤ 37; omega) ?_ (fun h1 hR h9 => ?_)
    · obtain ⟨hT, t1, t2, t3⟩ := trip_C hc
      have hRT := only_refs t3 hc.1
      have e1 : gI hT 50 1 = xS X 72 := t2.2.2.1 1 (by omega) (by omega)
      unfold f_X10_been
      rw [if_neg (nI_pos (by omega)), if_pos (show nI N ≤ 200 from nI_le (b := 200) hN (by decide)), if_pos iO_0, r_0_9 hc.1, Option.bind_some, r_0_7 hc.1, Option.bind_some, if_pos iO_50, t1, Option.bind_some, r_0_9 hRT, Option.bind_some, if_pos iO_50, e1]
      refine been_CL (P := fun r => ∃ h1, r = some (h1, _) ∧ CW h1 _ ∧ only cscW h h1) hc ho hB hN t3 t2 (fun g og hS => ?_)
      generalize beA (xF X) (xR X) N (xS X) (f_X10_bit (xS X 72)) = T at hS ⊢
      have hRg := only_refs og hc.1
      obtain ⟨b1, b2⟩ := rowbeg_C g
      have hRb : RefsOK (sI g 3 1 0) := refs_sI hRg
      obtain ⟨h3, r1, r2, r3⟩ := rowadd_C hRb b2 (by decide) T.2
      have hR3 := only_refs r3 hRb
      obtain ⟨h4, s1, s2, s3⟩ := rowadd_C hR3 r2 (show 1 < 37 by decide) ((T.1 72).toInt64)
      have hR4 := only_refs s3 hR3
      obtain ⟨h5, u1, u2, u3⟩ := rowadd_C hR4 s2 (show 2 < 37 by decide) ((T.1 74).toInt64)
      have ob : only (fun j _ => j = 3 ∨ j = 4) g (sI g 3 1 0) := only_sI (Or.inl rfl)
      have f1 : gI h3 50 1 = T.1 72 := ((o_I r3 (by omega)).trans (o_I ob (by omega))).trans (hS.2.2.1 1 (by omega) (by omega))
      have f3 : gI h4 50 3 = T.1 74 := (((o_I s3 (by omega)).trans (o_I r3 (by omega))).trans (o_I ob (by omega))).trans (hS.2.2.1 3 (by omega) (by omega))
      refine ⟨h5, ?_, u2, only_trans (csc_w og) (row_w (only_trans ob (only_trans r3 (only_trans s3 u3))))⟩
      unfold f_X10_been_J76
      rw [if_pos iO_0, r_0_1 hRg, Option.bind_some, if_pos iO_3, b1, Option.bind_some, r_0_1 hRb, Option.bind_some, if_pos iO_3, r1, Option.bind_some, r_0_1 hR3, Option.bind_some, r_0_9 hR3, Option.bind_some, if_pos iO_50, if_pos iO_3, f1, s1, Option.bind_some, r_0_1 hR4, Option.bind_some, r_0_9 hR4, Option.bind_some, if_pos iO_50, if_pos iO_3, f3, u1, Option.bind_some]
    · have h9' := MI_scr thr_M h9
      obtain ⟨h2, x1, x2, x3⟩ := puts_M (refs_sI hR) h9'.2.2.2.2.1
      have hR2 := only_refs x3 (refs_sI hR)
      have o2 : only msc h1 h2 := only_trans thr_M (only_mono (fun j k a => by unfold msc; omega) x3)
      obtain ⟨i72, -, i74, -⟩ := iM (a := 77) (Or.inr rfl)
      show ∃ h2, f_X11_been LF h1 73 (nI N) = _ ∧ _
      unfold f_X11_been
      rw [if_pos iO_73, if_neg hin, x1, Option.bind_some, r_73_8 hR2, Option.bind_some, if_pos i72, c72, MS_0 x2 (by omega), bit_sh ho.2.2.2.1]
      refine been_ML (P := fun r => ∃ h2, r = some (h2, _) ∧ MW h2 _ ∧ only mscW h1 h2) hR h9 ho hN o2 x2 (fun g og hS => ?_)
      generalize beA (xF X) (xR X) N (xS X) (f_X10_bit (xS X 72)) = T at hS ⊢
      have hRg := only_refs og hR
      have hRb : RefsOK (sI g 73 1 0) := refs_sI hRg
      obtain ⟨h3, r1, r2, r3⟩ := rowadd_M hRb (rowbeg_M g) (by decide) T.2
      have hR3 := only_refs r3 hRb
      obtain ⟨h4, s1, s2, s3⟩ := rowadd_M hR3 r2 (show 1 < 48 by decide) ((T.1 72).toInt64)
      have hR4 := only_refs s3 hR3
      obtain ⟨h5, u1, u2, u3⟩ := rowadd_M hR4 s2 (show 2 < 48 by decide) ((T.1 74).toInt64)
      have ob : only (fun j k => (j = 73 ∧ k = 1) ∨ j = 74) g (sI g 73 1 0) := only_sI (Or.inl ⟨rfl, rfl⟩)
      have f1 : gI h3 77 72 = T.1 72 := ((o_I r3 (by omega)).trans (o_I ob (by omega))).trans (MS_0 hS (by omega))
      have f3 : gI h4 77 74 = T.1 74 := (((o_I s3 (by omega)).trans (o_I r3 (by omega))).trans (o_I ob (by omega))).trans (MS_0 hS (by omega))
      refine ⟨h5, ?_, u2, only_trans (msc_w og) (rowm_w (only_trans ob (only_trans r3 (only_trans s3 u3))))⟩
      unfold f_X11_been_J82
      rw [if_pos iO_73, r1, Option.bind_some, r_73_8 hR3, Option.bind_some, if_pos i72, c72, f1, s1, Option.bind_some, r_73_8 hR4, Option.bind_some, if_pos i74, c74, f3, u1, Option.bind_some]

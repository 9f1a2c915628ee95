/-! back, plug, way on both sides. -/
theorem isD_one {F : FV} {fr : Nat → Bool} {goal : Nat} {D E : Nat → Nat} (hF : okF F) (hfr : ∀ s, fr s = true → s < nF F) (hD : isD F fr goal D) (hE : isD F fr goal E) : D = E := by
  have key : ∀ {D E : Nat → Nat}, isD F fr goal D → isD F fr goal E → ∀ n s, D s = n → n < 1000 → E s ≤ n := by
    intro D E hD hE n
    induction n using Nat.strongRecOn with
    | ind n ih =>
      intro s hn hl
      obtain ⟨e1, e2⟩ := hD.1.2.1 s (by omega)
      rcases e2 with ⟨e3, e4⟩ | ⟨d, u, e3, e4, e5⟩
      · subst e3; have := hE.1.1 e1; omega
      · have hk := coK_12 F s
        have h1 := ih (D u) (by omega) u rfl (by omega)
        have h2 := hE.2 s d u e1 e3 e4 (by omega)
        omega
  funext s
  have a1 := hD.1.2.2 s
  have a2 := hE.1.2.2 s
  by_cases h1 : D s < 1000
  · have b1 := key hD hE (D s) s rfl h1
    have b2 := key hE hD (E s) s rfl (by omega)
    omega
  · by_cases h2 : E s < 1000
    · have b2 := key hE hD (E s) s rfl h2
      omega
    · omega
theorem frX {h : eH} {p : Nat} {X : AX} {B : Nat} (hc : CI h X) (ho : okX B X) (hp : CF h p (xF X)) (k : Nat) : tb ((gL h p 4) &&& ((gL h 46 8) ^^^ (-1))) k = frA (xF X) (xS X) k := free_tb ho.1 hp hc.2.2.2.2.1 k
/-! back -/
def bkB (F : FV) (D : Nat → Nat) (k : Nat) (S : Nat → Int32) (b : Int32) : Int32 := if S 74 < dM D (S 72).toNatClampNeg then b else nI k
def bkA (F : FV) (R : Nat × (Nat → Nat)) (D : Nat → Nat) : Nat → Nat → (Nat → Int32) → Int32 → Int32
  | 0, _, _, b => b
  | m + 1, k, S, b => if S 74 < nI (coA F S) then bkB F D k S b else bkA F R D m (k + 1) (stC F R S) (bkB F D k S b)
theorem back_s {n : Nat} {k107 k116 : eH → Int32 → Option (eH × Int32)} {h : eH} {v0 : Nat} {v1 v2 : Int32} : f_X10_back_L52 LF (n + 1) k107 k116 h v0 v1 v2 = (if 200 < v2 then k116 h v1 else if isO LF v0 10 = true then (gR h v0 4).bind fun b25 => (gR h v0 9).bind fun b27 => if isO LF b27 6 = true then if isO LF b25 9 = true then (f_X9_costFrom LF h b25 (gI h b27 1)).bind fun r31 => if r31 = 500 then f_X10_back_J94 LF (f_X10_back_L52 LF n k107 k116) k107 k116 h v0 v1 v2 else (gR h v0 9).bind fun b38 => if isO LF b38 6 = true then if (gI h b38 3) < r31 then f_X10_back_J94 LF (f_X10_back_L52 LF n k107 k116) k107 k116 h v0 v1 v2 else f_X10_back_J94 LF (f_X10_back_L52 LF n k107 k116) k107 k116 h v0 v2 v2 else none else none else none else none) := rfl
theorem back_CL {h g0 : eH} {X : AX} {B goal : Nat} {D : Nat → Nat} (hc : CI h X) (ho : okX B X) (hB : B + 1000 < 2 ^ 31) (hD : isD (xF X) (frA (xF X) (xS X)) goal D) (og : only csc h g0) (hb : byD g0 D) (hS : CS g0 50 (xS X)) : ∃ h', f_X10_back_L52 LF e_fu (fun (h41 : eH) (w1_42 : Int32) => some (h41, w1_42)) (fun (h43 : eH) (w1_44 : Int32) => some (h43, w1_44)) g0 0 (-2) 0 = some (h', bkA (xF X) (xR X) D 201 0 (xS X) (-2)) ∧ only csc h h' := by
  have h36 := nF_le ho.1
  generalize hTT : bkA (xF X) (xR X) D 201 0 (xS X) (-2) = T
  refine lpF (N := 201) (s := (g0, xS X, (-2 : Int32))) (run := fun fu (q : eH × (Nat → Int32) × Int32) i => f_X10_back_L52 LF fu (fun (h41 : eH) (w1_42 : Int32) => some (h41, w1_42)) (fun (h43 : eH) (w1_44 : Int32) => some (h43, w1_44)) q.1 0 q.2.2 (nI i)) (Inv := fun i q => only csc h q.1 ∧ byD q.1 D ∧ CS q.1 50 q.2.1 ∧ okA (xF X) (B + i) q.2.1 ∧ bkA (xF X) (xR X) D (201 - i) i q.2.1 q.2.2 = T) (Post := fun r => ∃ h', r = some (h', T) ∧ only csc h h') (by decide) ⟨og, hb, hS, ho.2.2.2.1, hTT⟩ ?_ ?_
  · rintro fu ⟨g, S, b⟩ ⟨g1, g2, g3, g4, g5⟩
    have g5 : b = T := g5
    refine ⟨g, ?_, g1⟩
    show f_X10_back_L52 LF (fu + 1) _ _ g 0 b (nI 201) = _
    rw [back_s, if_pos (by decide), g5]
  · rintro i fu ⟨g, S, b⟩ hi ⟨g1, g2, g3, g4, g5⟩
    have g1 : only csc h g := g1
    have g2 : byD g D := g2
    have g3 : CS g 50 S := g3
    have g4 : okA (xF X) (B + i) S := g4
    have g5 : bkA (xF X) (xR X) D (201 - i) i S b = T := g5
    rw [show 201 - i = (201 - (i + 1)) + 1 by omega] at g5
    unfold bkA at g5
    have hRg := only_refs g1 hc.1
    obtain ⟨⟨sp, a1, a2, a3, a4⟩, -, ⟨cu, c1, c2⟩, -, -, -⟩ := id g4
    have e1 : gI g 50 1 = nI sp := (g3.2.2.1 1 (by omega) (by omega)).trans a4
    have e3 : gI g 50 3 = S 74 := g3.2.2.1 3 (by omega) (by omega)
    have hcf := costFrom_C ho.1 hRg (fun s => frA_k) hD g2 a1
    obtain ⟨bq, hbq⟩ : ∃ bq, bq = bkB (xF X) D i S b := ⟨_, rfl⟩
    have step : ∀ n K1 K2, f_X10_back_L52 LF (n + 1) K1 K2 g 0 b (nI i) = f_X10_back_J94 LF (f_X10_back_L52 LF n K1 K2) K1 K2 g 0 bq (nI i) := fun n K1 K2 => by
      rw [back_s, if_neg (show ¬ (200 : Int32) < nI i from nI_nlt (a := 200) (by omega) (by decide)), if_pos iO_0, r_0_4 hRg, Option.bind_some, r_0_9 hRg, Option.bind_some, if_pos iO_50, if_pos iO_38, e1, hcf, Option.bind_some, Option.bind_some, if_pos iO_50, e3, hbq]
      unfold bkB dC dM Dd
      rw [a4, nI_clamp (by omega)]
      by_cases hd : D sp < 1000
      · have := ds_le ho.1 (fun s => frA_k) hD.1 hd
        rw [if_pos hd, if_pos hd, if_neg (fun e => by have := nI_inj (by omega) (show (500 : Nat) < 2 ^ 31 by decide) e; omega)]
        by_cases hl : S 74 < nI (D sp)
        · rw [if_pos hl, if_pos hl]
        · rw [if_neg hl, if_neg hl]
      · rw [if_neg hd, if_neg hd, if_pos rfl, if_pos (by rw [c2]; exact nI_lt (by omega) (by omega))]
    rw [← hbq] at g5
    obtain ⟨g', x1, x2, x3⟩ := step1_C hc ho g1 g3 g4 (by omega)
    obtain ⟨c1', ⟨pp, c2'⟩, ⟨qq, c3'⟩, -⟩ := CI_scr g1 hc
    by_cases hs : S 74 < nI (coA (xF X) S)
    · rw [if_pos hs] at g5 x1
      refine Or.inl ⟨g', ?_, x3⟩
      show f_X10_back_L52 LF (fu + 1) _ _ g 0 b (nI i) = _
      rw [step]
      unfold f_X10_back_J94
      rw [if_pos iO_0, r_0_9 hRg, Option.bind_some, x1, Option.bind_some, if_pos rfl, g5]
    · rw [if_neg hs] at g5 x1 x2
      obtain ⟨g'', z1, z2, z3⟩ := goOn_1 ho.1 ho.2.1 (show (50 : Nat) ∈ stL by decide) g4 (by omega) c1' c3' c2' g3 okT_m
      have hgg : g'' = g' := by rw [x1, if_neg hs] at z1; cases z1; rfl
      subst hgg
      have b' : byD g'' D := byD_only z3 (fun j k a => by unfold gW; have := c3'.1; omega) g2
      have okn : okA (xF X) (B + (i + 1)) (stC (xF X) (xR X) S) := okA_stC ho.1 g4 hs
      generalize stC (xF X) (xR X) S = S' at x2 okn g5
      refine Or.inr ⟨(g'', S', bq), ⟨x3, b', x2, okn, g5⟩, fun z hz => ?_⟩
      show f_X10_back_L52 LF (fu + 1) _ _ g 0 b (nI i) = z
      rw [step]
      unfold f_X10_back_J94
      rw [if_pos iO_0, r_0_9 hRg, Option.bind_some, x1, Option.bind_some, if_neg i10, nI_p1]
      exact hz
theorem backM_s {n : Nat} {k103 : eH → Int32 → Option (eH × Int32)} {h : eH} {v0 : Nat} {v1 v2 v3 : Int32} : f_X11_back_L38 LF (n + 1) k103 h v0 v1 v2 v3 = (if 200 < v3 then k103 h v1 else if v2 = 0 then k103 h v1 else if isO LF v0 11 = true then (gR h v0 8).bind fun b9 => if inA LF b9 0 74 = true then (gR h v0 31).bind fun b12 => (gR h v0 8).bind fun b14 => if inA LF b14 0 72 = true then if inA LF b12 0 (gI h b14 (72 : Int32).toNatClampNeg) = true then if (gI h b9 (74 : Int32).toNatClampNeg) < (gI h b12 (gI h b14 (72 : Int32).toNatClampNeg).toNatClampNeg) then f_X11_back_J76 LF (f_X11_back_L38 LF n k103) k103 h v0 v3 v1 else f_X11_back_J76 LF (f_X11_back_L38 LF n k103) k103 h v0 v3 v3 else none else none else none else none) := rfl
theorem back_ML {h g0 : eH} {X : AX} {B : Nat} {D : Nat → Nat} (hR : RefsOK h) (hm : MI h X) (ho : okX B X) (og : only msc h g0) (hb : ∀ s, s < 36 → gI g0 88 s = dM D s) (hS : MS g0 77 0 (xS X)) : ∃ h', f_X11_back_L38 LF e_fu (fun (h28 : eH) (w1_29 : Int32) => some (h28, w1_29)) g0 73 (-2) 1 0 = some (h', bkA (xF X) (xR X) D 201 0 (xS X) (-2)) ∧ only msc h h' := by
  have h36 := nF_le ho.1
  obtain ⟨i72, -, i74, -⟩ := iM (a := 77) (Or.inr rfl)
  generalize hTT : bkA (xF X) (xR X) D 201 0 (xS X) (-2) = T
  refine lpF (N := 201) (s := (g0, xS X, (-2 : Int32), (1 : Int32))) (run := fun fu (q : eH × (Nat → Int32) × Int32 × Int32) i => f_X11_back_L38 LF fu (fun (h28 : eH) (w1_29 : Int32) => some (h28, w1_29)) q.1 73 q.2.2.1 q.2.2.2 (nI i)) (Inv := fun i q => only msc h q.1 ∧ ((q.2.2.2 = 0 ∧ q.2.2.1 = T) ∨ (q.2.2.2 = 1 ∧ (∀ s, s < 36 → gI q.1 88 s = dM D s) ∧ MS q.1 77 0 q.2.1 ∧ okA (xF X) (B + i) q.2.1 ∧ bkA (xF X) (xR X) D (201 - i) i q.2.1 q.2.2.1 = T))) (Post := fun r => ∃ h', r = some (h', T) ∧ only msc h h') (by decide) ⟨og, Or.inr ⟨rfl, hb, hS, ho.2.2.2.1, hTT⟩⟩ ?_ ?_
  · rintro fu ⟨g, S, b, c⟩ ⟨g1, g2⟩
    have hb2 : b = T := g2.elim (fun q => q.2) (fun q => q.2.2.2.2)
    refine ⟨g, ?_, g1⟩
    show f_X11_back_L38 LF (fu + 1) _ g 73 b c (nI 201) = _
    rw [backM_s, if_pos (by decide), hb2]
  · rintro i fu ⟨g, S, b, c⟩ hi ⟨g1, g2⟩
    have g1 : only msc h g := g1
    have n200 : ¬ (200 : Int32) < nI i := nI_nlt (a := 200) (by omega) (by decide)
    rcases g2 with ⟨c0, hb2⟩ | ⟨c1, g2, g3, g4, g5⟩
    · have c0 : c = 0 := c0
      have hb2 : b = T := hb2
      refine Or.inl ⟨g, ?_, g1⟩
      show f_X11_back_L38 LF (fu + 1) _ g 73 b c (nI i) = _
      rw [backM_s, if_neg n200, if_pos c0, hb2]
    · have c1 : c = 1 := c1
      subst c1
      have g2 : ∀ s, s < 36 → gI g 88 s = dM D s := g2
      have g3 : MS g 77 0 S := g3
      have g4 : okA (xF X) (B + i) S := g4
      have g5 : bkA (xF X) (xR X) D (201 - i) i S b = T := g5
      rw [show 201 - i = (201 - (i + 1)) + 1 by omega] at g5
      unfold bkA at g5
      have hRg := only_refs g1 hR
      obtain ⟨⟨sp, a1, a2, a3, a4⟩, -⟩ := id g4
      obtain ⟨bq, hbq⟩ : ∃ bq, bq = bkB (xF X) D i S b := ⟨_, rfl⟩
      have step : ∀ n K, f_X11_back_L38 LF (n + 1) K g 73 b 1 (nI i) = f_X11_back_J76 LF (f_X11_back_L38 LF n K) K g 73 (nI i) bq := fun n K => by
        rw [backM_s, if_neg n200, if_neg i10, if_pos iO_73, r_73_8 hRg, Option.bind_some, if_pos i74, r_73_31 hRg, Option.bind_some, Option.bind_some, if_pos i72, c72, c74, MS_0 g3 (by omega), MS_0 g3 (by omega), a4, iA_88, if_pos (in_nI a1 (by decide)), nI_clamp (by omega), g2 sp a1, hbq]
        unfold bkB
        rw [a4, nI_clamp (by omega)]
        by_cases hl : S 74 < dM D sp
        · rw [if_pos hl, if_pos hl]
        · rw [if_neg hl, if_neg hl]
      rw [← hbq] at g5
      obtain ⟨g', x1, x2, x3, x4⟩ := step1_M (fun _ _ => msc_mW) msc_82 hR hm ho g1 g3 g4 ((o_I g1 msc_23).trans hm.2.2.1)
      have hco := cost_M ho.1 hRg (mW_MF (fun _ _ => msc_mW) g1 hm.1) a1 a4
      have hgo : ∀ n K, f_X11_back_L38 LF (n + 1) K g 73 b 1 (nI i) = f_X11_back_L38 LF n K g' 73 bq (if S 74 < nI (coA (xF X) S) then 0 else 1) (nI (i + 1)) := fun n K => by
        rw [step]
        unfold f_X11_back_J76
        rw [if_pos iO_73, r_73_8 hRg, Option.bind_some, Option.bind_some, if_pos i72, c72, MS_0 g3 (by omega), a4, hco, Option.bind_some, x1, Option.bind_some, nI_p1]
      by_cases hs : S 74 < nI (coA (xF X) S)
      · rw [if_pos hs] at g5
        refine Or.inr ⟨(g', S, bq, 0), ⟨x3, Or.inl ⟨rfl, g5⟩⟩, fun z hz => ?_⟩
        show f_X11_back_L38 LF (fu + 1) _ g 73 b 1 (nI i) = z
        rw [hgo, if_pos hs]; exact hz
      · rw [if_neg hs] at g5 x2
        have okn : okA (xF X) (B + (i + 1)) (stC (xF X) (xR X) S) := okA_stC ho.1 g4 hs
        have b' : ∀ s, s < 36 → gI g' 88 s = dM D s := fun s hs2 => (o_I x4 (by omega)).trans (g2 s hs2)
        generalize stC (xF X) (xR X) S = S' at x2 okn g5
        refine Or.inr ⟨(g', S', bq, 1), ⟨x3, Or.inr ⟨rfl, b', x2, okn, g5⟩⟩, fun z hz => ?_⟩
        show f_X11_back_L38 LF (fu + 1) _ g 73 b 1 (nI i) = z
        rw [hgo, if_neg hs]; exact hz
theorem back_P {B : Nat} {h : eH} {X : AX} (hc : CI h X) (hm : MI h X) (ho : okX B X) (hB : B + 1000 < 2 ^ 31) : PR B (f_X10_back LF h 0) (fun h1 => f_X11_back LF h1 73) := by
  obtain ⟨pp, hp⟩ := hc.2.1
  have e3 : gI h pp 3 = plI (xF X) := hp.2.2.2.2.2.1
  cases hpl : (xF X).2.2.2 with
  | none =>
    have epl : plI (xF X) = -1 := by unfold plI; rw [hpl]
    refine PR_no hc hm ho (r := -2) ?_ (fun h1 hR h9 => ?_)
    · unfold f_X10_back
      rw [if_pos iO_0, hp.2.1, Option.bind_some, if_pos (p_O hp), e3, epl, if_pos rfl]
    · show f_X11_back LF h1 73 = _
      have e5 : gI (sI h1 73 0 0) 73 5 = -1 := (MI_scr thr_M h9).1.2.2.1.trans epl
      unfold f_X11_back
      rw [if_pos iO_73, e5, if_neg (by decide)]
  | some p =>
    have epl : plI (xF X) = nI p := by unfold plI; rw [hpl]
    have hp36 := (ho.1.2.2.2.2.2 p hpl).1
    obtain ⟨hA, D, m1, m2, m3, m4⟩ := measure_C ho.1 hc.1 hp (fun s => frA_k) (frX hc ho hp) hp36
    have oA : only csc h hA := only_mono (fun j k a => by unfold csc; omega) m4
    refine PR_s hc hm ho (r := bkA (xF X) (xR X) D 201 0 (xS X) (-2)) ?_ (fun h1 hR h9 => ?_)
    · have hRA := only_refs oA hc.1
      obtain ⟨hT, t1, t2, t3, t4, t5⟩ := copyFrom_ok hRA (show (50 : Nat) ∈ stL by decide) (show (46 : Nat) ∈ stL by decide)
      have ot : only (fun j _ => j = 50 ∨ j = 51) hA hT := ⟨fun j k hW => ⟨t3 j k (by omega) (by omega), t4 j k (by omega)⟩, t5⟩
      obtain ⟨hZ, z1, z2⟩ := back_CL hc ho hB m2 (only_trans oA (only_mono (fun j k a => by unfold csc; omega) ot)) (byD_only ot (fun j k a => by omega) m3) (CS_same t2 (CI_scr oA hc).2.2.2.2.1)
      refine ⟨hZ, ?_, z2⟩
      unfold f_X10_back
      rw [if_pos iO_0, hp.2.1, Option.bind_some, if_pos (p_O hp), e3, epl, if_neg (fun q => nI_pos (n := p) (by omega) (by rw [q]; decide)), r_0_4 hc.1, Option.bind_some, Option.bind_some, free_C hc hp, Option.bind_some, Option.bind_some, if_pos (p_O hp), if_pos iO_38, e3, epl, m1, Option.bind_some, r_0_9 hRA, Option.bind_some, r_0_7 hRA, Option.bind_some, if_pos iO_50, t1, Option.bind_some]
      exact z1
    · have h9' := MI_scr thr_M h9
      have hR0 : RefsOK (sI h1 73 0 0) := refs_sI hR
      have e5 : gI (sI h1 73 0 0) 73 5 = nI p := h9'.1.2.2.1.trans epl
      obtain ⟨hL, l1, l2, l3⟩ := laysFar_M ho.1 hR0 (Or.inl rfl) h9'.1 h9'.2.2.2.2.1 m2 hp36
      have oL : only msc (sI h1 73 0 0) hL := only_mono (fun j k a => by unfold msc; omega) l3
      have h9L := MI_scr oL h9'
      obtain ⟨hP, x1, x2, x3⟩ := puts_M (only_refs oL hR0) h9L.2.2.2.2.1
      obtain ⟨hZ, z1, z2⟩ := back_ML (D := D) hR h9 ho (only_trans thr_M (only_trans oL (only_mono (fun j k a => by unfold msc; omega) x3))) (fun s hs => (o_I x3 (by omega)).trans (l2 s hs)) x2
      refine ⟨hZ, ?_, z2⟩
      show f_X11_back LF h1 73 = _
      unfold f_X11_back
      rw [if_pos iO_73, e5, if_pos (nI_pos' (by omega)), r_73_7 hR0, Option.bind_some, l1, Option.bind_some, x1, Option.bind_some]
      exact z1

/-! flat: the reference's side, and the call -/
theorem mn80 : ∀ n, n < 81 → mnI (nI n) 80 = nI (min n 80) := by decide +kernel
theorem flat_M {P : Option (eH × Int32) → Prop} {h1 : eH} {X : AX} {B : Nat} (hR : RefsOK h1) (hm : MI h1 X) (ho : okX B X) (yE : ∀ g a q, RefsOK g → MI g (setT X (0, (xT X).2)) → only mdl h1 g → rowE g (xT X).2 (xT X).1 a q → (whF q → q.1 = 5 ∨ ¬ (a < (xT X).1 ∧ (xT X).2 a = 47)) → P (f_X11_flat_J64 LF g 73 (nI (q.1 + 1)) (if whF q then 1 else 0))) : P (f_X11_flat LF h1 73) := by
  have t80 := ho.2.2.1.1
  obtain ⟨g, b1, b2, b3, b4, b5⟩ := begins_M (L := 80) hm ho (by decide) (mn80 _ (by omega))
  have b1 : f_X11_begins LF (sI h1 73 0 0) 73 80 = some (g, nI (xT X).1) := b1
  rw [show min (xT X).1 80 = (xT X).1 by omega] at b2
  have hRg := only_refs b5 hR
  have o1 : only (fun j k => j = 73 ∧ (k = 15 ∨ k = 16)) g (sI (sI g 73 15 0) 73 16 (-1)) := only_trans (only_sI (by omega)) (only_sI (by omega))
  have oM : ∀ g', only rfW (sI (sI g 73 15 0) 73 16 (-1)) g' → RefsOK g' ∧ MI g' (setT X (0, (xT X).2)) ∧ only mdl h1 g' := fun g' o => by
    have o2 : only msc g g' := only_trans (only_mono (fun j k a => by unfold msc; omega) o1) (only_mono (fun j k a => by unfold rfW at a; unfold msc; omega) o)
    exact ⟨only_refs o2 hRg, MI_scr o2 b4, only_trans (only_mono (fun j k a => by unfold bgW at a; unfold mdl; omega) b5) (only_mono (fun _ _ => msc_mdl) o2)⟩
  obtain ⟨g2, a2, q2, c1, c2, c3, c4⟩ := row_M (g0 := sI (sI g 73 15 0) 73 16 (-1)) (c := (xT X).2) (lim := (xT X).1) (a0 := 0) (q0 := (0, 0, 6, none, fun _ => 0)) (refs_sI (refs_sI hRg)) (RD_only o1 (by omega) (by omega) (fun k => by omega) b2) rfl rfl ⟨by rw [gI_sI, if_pos ⟨rfl, rfl⟩]; rfl, fun k hk => absurd hk (by show ¬ k < 0 * 6 + 0; omega)⟩ (by rw [gI_sI, if_neg (by omega), gI_sI, if_pos ⟨rfl, rfl⟩]; rfl)
  have c1 : f_X11_readsRow LF (sI (sI g 73 15 0) 73 16 (-1)) 73 0 = some (g2, if whF q2 then 1 else 0) := c1
  unfold f_X11_flat
  rw [if_pos iO_73, b1, Option.bind_some, c1, Option.bind_some]
  refine rowsL_M (P := P) (h := sI (sI g 73 15 0) 73 16 (-1)) (refs_sI (refs_sI hRg)) c4 c3 c2 (fun g' a q o e w => ?_)
  obtain ⟨u1, u2, u3⟩ := oM g' o
  exact yE g' a q u1 u2 u3 e w
theorem flatB_M {h1 : eH} {X : AX} {B e : Nat} (hR : RefsOK h1) (hm : MI h1 X) (ho : okX B X) (hb : flB (xT X).2 (xT X).1 e) : ∃ h2, f_X11_flat LF h1 73 = some (h2, -1 - nI e) ∧ MI h2 (setT X (0, (xT X).2)) ∧ only mdl h1 h2 := by
  have t80 := ho.2.2.1.1
  refine flat_M (P := fun o => ∃ h2, o = some (h2, -1 - nI e) ∧ MI h2 (setT X (0, (xT X).2)) ∧ only mdl h1 h2) hR hm ho (fun g a q hRg hmg og hE hw => ?_)
  have ng : ¬ (whF q ∧ (xT X).1 ≤ a) := fun x => by
    have ea : a = (xT X).1 := by have := hE.1.2.2.2.2; omega
    have hs := hE.2.1
    rw [ea] at hs
    exact flB_g hb hs x.1
  have ee := flB_u hb (rowE_B hE hw ng)
  refine ⟨g, ?_, hmg, og⟩
  rw [ee]
  unfold f_X11_flat_J64
  by_cases w : whF q
  · rw [if_pos w, if_neg i10, if_pos iO_73, hE.1.1, hE.1.2.1, if_neg (nI_ge (show a < (xT X).1 from Nat.lt_of_not_le (fun x => ng ⟨w, x⟩)) (by omega))]
  · rw [if_neg w, if_pos rfl, if_pos iO_73, hE.1.2.1]
theorem L94_s {n : Nat} {k156 : eH → Nat → Int32 → Int32 → Int32 → Option (eH × Int32)} {h : eH} {v1 v3 v4 v5 : Int32} : f_X11_flat_L94 LF (n + 1) k156 h 73 v1 v3 v4 v5 = (if isO LF 73 11 = true then if (v1 * (gI h 73 15)) ≤ v5 then k156 h 73 v1 v3 v4 else (gR h 73 14).bind fun b18 => if inA LF b18 0 v5 = true then if (gI h b18 v5.toNatClampNeg) = 0 then f_X11_flat_J121 LF (f_X11_flat_L94 LF n k156) k156 h 73 v1 v4 v5 v3 0 else f_X11_flat_J121 LF (f_X11_flat_L94 LF n k156) k156 h 73 v1 v4 v5 v3 1 else none else none) := rfl
theorem L94_M {P : Option (eH × Int32) → Prop} {k156 : eH → Nat → Int32 → Int32 → Int32 → Option (eH × Int32)} {g : eH} {q : FSt} (hR : RefsOK g) (hq : okFS q) (w : whF q) (h15 : gI g 73 15 = nI q.2.1) (hm : MFS g q) (y : P (k156 g 73 (nI (q.1 + 1)) (nI (cnF (fvF q))) (plO (fsO (opF (fvF q)) (nF (fvF q)))))) : P (f_X11_flat_L94 LF e_fu k156 g 73 (nI (q.1 + 1)) 0 (-1) 0) := by
  have hF := fv_ok w hq
  have n36 := nF_le hF
  have hnn : nI (q.1 + 1) * nI q.2.1 = nI (nF (fvF q)) := pk_mul _ _
  refine lpF (N := nF (fvF q)) (s := ((0 : Int32), (-1 : Int32))) (run := fun fu (u : Int32 × Int32) i => f_X11_flat_L94 LF fu k156 g 73 (nI (q.1 + 1)) u.1 u.2 (nI i)) (Inv := fun i u => u.1 = nI (fb_ct (opF (fvF q)) i) ∧ u.2 = plO (fsO (opF (fvF q)) i)) (Post := P) (by omega) ⟨rfl, rfl⟩ ?_ ?_
  · rintro fu ⟨u1, u2⟩ ⟨a1, a2⟩
    have a1 : u1 = nI (fb_ct (opF (fvF q)) (nF (fvF q))) := a1
    have a2 : u2 = plO (fsO (opF (fvF q)) (nF (fvF q))) := a2
    show P (f_X11_flat_L94 LF (fu + 1) k156 g 73 (nI (q.1 + 1)) u1 u2 (nI (nF (fvF q))))
    rw [L94_s, if_pos iO_73, h15, hnn, if_pos (nI_le (Nat.le_refl _) (by omega)), a1, a2]
    exact y
  · rintro i fu ⟨u1, u2⟩ hi ⟨a1, a2⟩
    have a1 : u1 = nI (fb_ct (opF (fvF q)) i) := a1
    have a2 : u2 = plO (fsO (opF (fvF q)) i) := a2
    subst a1
    subst a2
    have e79 : gI g 79 i = nI (q.2.2.2.2 i) := hm.2 i (by rw [← fv_n w]; exact hi)
    have k2 : q.2.2.2.2 i ≤ 2 := hq.2.2.2.2.2.2 i
    have eo : opF (fvF q) i = decide (q.2.2.2.2 i ≠ 0) := by unfold opF; rw [fv_k hi]
    have hlt : ∀ j, fsO (opF (fvF q)) i = some j → j < 36 := fun j hj => by have := (fsO_lt hj).1; omega
    have i36 : i < 36 := by omega
    have fl0 : f_X11_flag 0 = 0 := rfl
    have fl1' : f_X11_flag 1 = 1 := rfl
    by_cases z : q.2.2.2.2 i = 0
    · have eo' : opF (fvF q) i = false := by rw [eo]; exact decide_eq_false (fun x => x z)
      refine Or.inr ⟨(nI (fb_ct (opF (fvF q)) (i + 1)), plO (fsO (opF (fvF q)) (i + 1))), ⟨rfl, rfl⟩, fun v hv => ?_⟩
      have hv : f_X11_flat_L94 LF fu k156 g 73 (nI (q.1 + 1)) (nI (fb_ct (opF (fvF q)) (i + 1))) (plO (fsO (opF (fvF q)) (i + 1))) (nI (i + 1)) = v := hv
      have ef : fsO (opF (fvF q)) (i + 1) = fsO (opF (fvF q)) i := by
        cases hs : fsO (opF (fvF q)) i with
        | some j => exact fsO_s hs
        | none => rw [fsO_n hs, eo', if_neg (by decide)]
      rw [fb_ct_succ, eo', ef] at hv
      show f_X11_flat_L94 LF (fu + 1) k156 g 73 (nI (q.1 + 1)) (nI (fb_ct (opF (fvF q)) i)) (plO (fsO (opF (fvF q)) i)) (nI i) = v
      rw [L94_s, if_pos iO_73, h15, hnn, if_neg (nI_ge hi (by omega)), r_73_14 hR, Option.bind_some, iA_79, if_pos (in_nI i36 (by decide)), nI_clamp (by omega), e79, if_pos (by rw [z]; rfl)]
      unfold f_X11_flat_J121
      rw [fl0, show nI (fb_ct (opF (fvF q)) i) + 0 = nI (fb_ct (opF (fvF q)) i) from nI_add _ 0, nI_p1]
      by_cases s : 0 ≤ plO (fsO (opF (fvF q)) i)
      · rw [if_pos s]; exact hv
      · rw [if_neg s, if_pos iO_73, r_73_14 hR, Option.bind_some, iA_79, if_pos (in_nI i36 (by decide)), nI_clamp (by omega), e79, if_pos (by rw [z]; rfl)]; exact hv
    · have eo' : opF (fvF q) i = true := by rw [eo]; exact decide_eq_true z
      refine Or.inr ⟨(nI (fb_ct (opF (fvF q)) (i + 1)), plO (fsO (opF (fvF q)) (i + 1))), ⟨rfl, rfl⟩, fun v hv => ?_⟩
      have hv : f_X11_flat_L94 LF fu k156 g 73 (nI (q.1 + 1)) (nI (fb_ct (opF (fvF q)) (i + 1))) (plO (fsO (opF (fvF q)) (i + 1))) (nI (i + 1)) = v := hv
      rw [fb_ct_succ, eo', if_pos rfl] at hv
      show f_X11_flat_L94 LF (fu + 1) k156 g 73 (nI (q.1 + 1)) (nI (fb_ct (opF (fvF q)) i)) (plO (fsO (opF (fvF q)) i)) (nI i) = v
      rw [L94_s, if_pos iO_73, h15, hnn, if_neg (nI_ge hi (by omega)), r_73_14 hR, Option.bind_some, iA_79, if_pos (in_nI i36 (by decide)), nI_clamp (by omega), e79, if_neg (nI_ne0 (by omega) (by omega))]
      unfold f_X11_flat_J121
      rw [fl1', show nI (fb_ct (opF (fvF q)) i) + 1 = nI (fb_ct (opF (fvF q)) i + 1) from nI_add _ 1, nI_p1]
      cases hs : fsO (opF (fvF q)) i with
      | some j =>
        have := hlt j hs
        rw [fsO_s hs] at hv
        rw [if_pos (show (0 : Int32) ≤ plO (some j) from nI_le (a := 0) (b := j) (by omega) (by omega))]; exact hv
      | none =>
        rw [fsO_n hs, eo', if_pos rfl] at hv
        rw [if_neg (show ¬ (0 : Int32) ≤ plO none by decide), if_pos iO_73, r_73_14 hR, Option.bind_some, iA_79, if_pos (in_nI i36 (by decide)), nI_clamp (by omega), e79, if_neg (nI_ne0 (by omega) (by omega))]; exact hv
theorem L187_M {P : Option (eH × Int32) → Prop} {k232 : eH → Nat → Int32 → Int32 → Option (eH × Int32)} {g : eH} {q : FSt} {v3 v4 : Int32} (hR : RefsOK g) (hq : okFS q) (w : whF q) (h3 : gI g 73 3 = nI (q.1 + 1)) (h4 : gI g 73 4 = nI q.2.1) (hm : MFS g q) (y : ∀ g', (∀ k, k < 36 → gI g' 75 k = nI (kF (fvF q) k)) → only (fun j _ => j = 75) g g' → P (k232 g' 73 v3 v4)) : P (f_X11_flat_L187 LF e_fu k232 g 73 v3 v4 0) := by
  have hF := fv_ok w hq
  have n36 := nF_le hF
  have hnn : nI (q.1 + 1) * nI q.2.1 = nI (nF (fvF q)) := pk_mul _ _
  refine lpF (N := 36) (s := g) (run := fun fu (g' : eH) i => f_X11_flat_L187 LF fu k232 g' 73 v3 v4 (nI i)) (Inv := fun i g' => (∀ k, k < i → gI g' 75 k = nI (kF (fvF q) k)) ∧ only (fun j _ => j = 75) g g') (Post := P) (by decide) ⟨fun k hk => absurd hk (Nat.not_lt_zero k), only_rfl⟩ ?_ ?_
  · rintro fu g' ⟨a1, a2⟩
    show P (f_X11_flat_L187 LF (fu + 1) k232 g' 73 v3 v4 (nI 36))
    unfold f_X11_flat_L187
    rw [if_pos (show (36 : Int32) ≤ nI 36 by decide)]
    exact y g' a1 a2
  · rintro i fu g' hi ⟨a1, a2⟩
    have hRg := only_refs a2 hR
    have e3 : gI g' 73 3 = nI (q.1 + 1) := (o_I a2 (by omega)).trans h3
    have e4 : gI g' 73 4 = nI q.2.1 := (o_I a2 (by omega)).trans h4
    have n6 : ¬ (36 : Int32) ≤ nI i := nI_ge (b := 36) hi (by decide)
    refine Or.inr ⟨sI g' 75 i (nI (kF (fvF q) i)), ⟨fun k hk => ?_, only_trans a2 (only_sI rfl)⟩, fun z hz => ?_⟩
    · rw [gI_sI]
      by_cases e : k = i
      · rw [if_pos ⟨rfl, e⟩, e]
      · rw [if_neg (fun x => e x.2)]; exact a1 k (by omega)
    · show f_X11_flat_L187 LF (fu + 1) k232 g' 73 v3 v4 (nI i) = z
      unfold f_X11_flat_L187
      rw [if_neg n6, if_pos iO_73, r_73_6 hRg, Option.bind_some, e3, e4, hnn]
      by_cases lt : i < nF (fvF q)
      · have e79 : gI g' 79 i = nI (kF (fvF q) i) := by rw [fv_k lt]; exact (o_I a2 (by omega)).trans (hm.2 i (by rw [← fv_n w]; exact lt))
        rw [if_neg (nI_ge lt (by omega)), r_73_14 hRg, Option.bind_some, iA_79, if_pos (in_nI hi (by decide)), iA_75, if_pos (in_nI hi (by decide)), nI_clamp (by omega), e79, Option.bind_some, nI_p1]
        exact hz
      · have e0 : kF (fvF q) i = 0 := if_neg lt
        rw [e0] at hz
        rw [if_pos (nI_le (by omega) (by omega)), iA_75, if_pos (in_nI hi (by decide)), nI_clamp (by omega), nI_p1]
        exact hz
theorem L235_M {P : Option (eH × Int32) → Prop} {k256 : eH → Nat → Int32 → Int32 → Option (eH × Int32)} {g : eH} {v3 v4 : Int32} (hR : RefsOK g) (y : ∀ g', MS g' 76 0 (fun _ => 0) → only (fun j _ => j = 76) g g' → P (k256 g' 73 v3 v4)) : P (f_X11_flat_L235 LF e_fu k256 g 73 v3 v4 0) := by
  refine lpF (N := 79) (s := g) (run := fun fu (g' : eH) i => f_X11_flat_L235 LF fu k256 g' 73 v3 v4 (nI i)) (Inv := fun i g' => (∀ k, k < i → gI g' 76 k = 0) ∧ only (fun j _ => j = 76) g g') (Post := P) (by decide) ⟨fun k hk => absurd hk (Nat.not_lt_zero k), only_rfl⟩ ?_ ?_
  · rintro fu g' ⟨a1, a2⟩
    show P (f_X11_flat_L235 LF (fu + 1) k256 g' 73 v3 v4 (nI 79))
    unfold f_X11_flat_L235
    rw [if_pos (show (79 : Int32) ≤ nI 79 by decide)]
    exact y g' (fun k hk => by rw [Nat.zero_add]; exact a1 k hk) a2
  · rintro i fu g' hi ⟨a1, a2⟩
    have hRg := only_refs a2 hR
    refine Or.inr ⟨sI g' 76 i 0, ⟨fun k hk => ?_, only_trans a2 (only_sI rfl)⟩, fun z hz => ?_⟩
    · rw [gI_sI]
      by_cases e : k = i
      · rw [if_pos ⟨rfl, e⟩]
      · rw [if_neg (fun x => e x.2)]; exact a1 k (by omega)
    · show f_X11_flat_L235 LF (fu + 1) k256 g' 73 v3 v4 (nI i) = z
      unfold f_X11_flat_L235
      rw [if_neg (show ¬ (79 : Int32) ≤ nI i from nI_ge (b := 79) hi (by decide)), if_pos iO_73, r_73_7 hRg, Option.bind_some, inA36 (Or.inl rfl), if_pos (in_nI hi (by decide)), nI_clamp (by omega), nI_p1]
      exact hz
theorem L301_M {g : eH} {v3 : Int32} (hR : RefsOK g) : ∃ g', f_X11_flat_L301 LF e_fu (fun (h71 : eH) (w3_72 : Int32) => some (h71, w3_72)) g 73 v3 0 = some (g', v3) ∧ (∀ k, k < 3 → gI g' 97 k = 0) ∧ only (fun j _ => j = 97) g g' := by
  refine lpF (N := 3) (s := g) (run := fun fu (g' : eH) i => f_X11_flat_L301 LF fu (fun (h71 : eH) (w3_72 : Int32) => some (h71, w3_72)) g' 73 v3 (nI i)) (Inv := fun i g' => (∀ k, k < i → gI g' 97 k = 0) ∧ only (fun j _ => j = 97) g g') (Post := fun o => ∃ g', o = some (g', v3) ∧ (∀ k, k < 3 → gI g' 97 k = 0) ∧ only (fun j _ => j = 97) g g') (by decide) ⟨fun k hk => absurd hk (Nat.not_lt_zero k), only_rfl⟩ ?_ ?_
  · rintro fu g' ⟨a1, a2⟩
    refine ⟨g', ?_, a1, a2⟩
    show f_X11_flat_L301 LF (fu + 1) _ g' 73 v3 (nI 3) = _
    unfold f_X11_flat_L301
    rw [if_pos (show (3 : Int32) ≤ nI 3 by decide)]
  · rintro i fu g' hi ⟨a1, a2⟩
    have hRg := only_refs a2 hR
    refine Or.inr ⟨sI g' 97 i 0, ⟨fun k hk => ?_, only_trans a2 (only_sI rfl)⟩, fun z hz => ?_⟩
    · rw [gI_sI]
      by_cases e : k = i
      · rw [if_pos ⟨rfl, e⟩]
      · rw [if_neg (fun x => e x.2)]; exact a1 k (by omega)
    · show f_X11_flat_L301 LF (fu + 1) _ g' 73 v3 (nI i) = z
      unfold f_X11_flat_L301
      rw [if_neg (show ¬ (3 : Int32) ≤ nI i from nI_ge (b := 3) hi (by decide)), if_pos iO_73, r_73_44 hRg, Option.bind_some, iA_97, if_pos (in_nI hi (by decide)), nI_clamp (by omega), nar_0, Option.bind_some, nI_p1]
      exact hz
theorem J278_M {g : eH} {v3 v : Int32} (hR : RefsOK g) (hS : MS g 76 0 (fun _ => 0)) : ∃ g', f_X11_flat_J278 LF g 73 v3 76 72 v = some (g', v3) ∧ MS g' 76 0 (fun k => if k = 72 then v else if k = 74 then 100 else 0) ∧ gI g' 73 36 = 0 ∧ gI g' 73 24 = 0 ∧ (∀ k, k < 3 → gI g' 97 k = 0) ∧ only (fun j k => j = 76 ∨ j = 97 ∨ (j = 73 ∧ (k = 36 ∨ k = 24))) g g' := by
  obtain ⟨i72, i73, i74, -⟩ := iM (a := 76) (Or.inl rfl)
  have hR2 : RefsOK (sI g 76 72 v) := refs_sI hR
  obtain ⟨g', x1, x2, x3⟩ := L301_M (g := sI (sI (sI (sI g 76 72 v) 76 74 100) 73 36 0) 73 24 0) (v3 := v3) (refs_sI (refs_sI (refs_sI hR2)))
  have o1 : only (fun j k => j = 76 ∨ j = 97 ∨ (j = 73 ∧ (k = 36 ∨ k = 24))) g (sI (sI (sI (sI g 76 72 v) 76 74 100) 73 36 0) 73 24 0) := only_trans (only_sI (by omega)) (only_trans (only_sI (by omega)) (only_trans (only_sI (by omega)) (only_sI (by omega))))
  refine ⟨g', ?_, fun k hk => ?_, ?_, ?_, x2, only_trans o1 (only_mono (fun j k a => by omega) x3)⟩
  · unfold f_X11_flat_J278
    rw [if_pos i72, if_pos iO_73, c72, r_73_7 hR2, Option.bind_some, if_pos i74, c74, Option.bind_some]
    exact x1
  · show _ = (if k = 72 then v else if k = 74 then 100 else (0 : Int32))
    rw [o_I x3 (by omega), gI_sI, if_neg (by omega), gI_sI, if_neg (by omega), Nat.zero_add, gI_sI]
    by_cases e : k = 74
    · rw [if_pos ⟨rfl, e⟩, if_neg (by omega), if_pos e]
    · rw [if_neg (fun x => e x.2), gI_sI]
      by_cases e2 : k = 72
      · rw [if_pos ⟨rfl, e2⟩, if_pos e2]
      · rw [if_neg (fun x => e2 x.2), if_neg e2, if_neg e]; exact MS_0 hS hk
  · rw [o_I x3 (by omega), gI_sI, if_neg (by omega), gI_sI, if_pos ⟨rfl, rfl⟩]
  · rw [o_I x3 (by omega), gI_sI, if_pos ⟨rfl, rfl⟩]
theorem flatG_M {h1 : eH} {X : AX} {B : Nat} {q : FSt} (hR : RefsOK h1) (hm : MI h1 X) (ho : okX B X) (hs : flS (xT X).2 (xT X).1 = some q) (w : whF q) : ∃ h2, (cnF (fvF q) = 0 → f_X11_flat LF h1 73 = some (h2, -100) ∧ MI h2 (setT X (0, (xT X).2))) ∧ (cnF (fvF q) ≠ 0 → f_X11_flat LF h1 73 = some (h2, nI (cnF (fvF q))) ∧ MI h2 (flX X (fvF q))) ∧ only mdl h1 h2 := by
  have t80 := ho.2.2.1.1
  have hq := okFS_S (fun k hk => ho.2.2.1.2 k hk) hs
  have hF := fv_ok w hq
  have n36 := nF_le hF
  have c36 : cnF (fvF q) ≤ 36 := Nat.le_trans (fb_ct_le _ _) n36
  refine flat_M (P := fun o => ∃ h2, (cnF (fvF q) = 0 → o = some (h2, -100) ∧ MI h2 (setT X (0, (xT X).2))) ∧ (cnF (fvF q) ≠ 0 → o = some (h2, nI (cnF (fvF q))) ∧ MI h2 (flX X (fvF q))) ∧ only mdl h1 h2) hR hm ho (fun g a q' hRg hmg og hE hw => ?_)
  have ok' : whF q' ∧ (xT X).1 ≤ a := Classical.byContradiction fun n => absurd (flB_g (rowE_B hE hw n) hs w) id
  have ea : a = (xT X).1 := by have := hE.1.2.2.2.2; omega
  have hs' := hE.2.1
  rw [ea, hs] at hs'
  have eq' : q = q' := Option.some.inj hs'
  subst eq'
  unfold f_X11_flat_J64
  rw [if_pos w, if_neg i10, if_pos iO_73, hE.1.1, hE.1.2.1, if_pos (nI_le ok'.2 (by omega))]
  refine L94_M (P := fun o => ∃ h2, (cnF (fvF q) = 0 → o = some (h2, -100) ∧ MI h2 (setT X (0, (xT X).2))) ∧ (cnF (fvF q) ≠ 0 → o = some (h2, nI (cnF (fvF q))) ∧ MI h2 (flX X (fvF q))) ∧ only mdl h1 h2) hRg hq w (hE.2.2.2.1 w) hE.2.2.1 ?_
  by_cases cz : cnF (fvF q) = 0
  · refine ⟨g, fun _ => ⟨?_, hmg⟩, fun n => absurd cz n, og⟩
    show (if nI (cnF (fvF q)) = 0 then some (g, (-100 : Int32)) else _) = _
    rw [if_pos (by rw [cz]; rfl)]
  · have e15 : gI (sI g 73 3 (nI (q.1 + 1))) 73 15 = nI q.2.1 := by rw [gI_sI, if_neg (by omega)]; exact hE.2.2.2.1 w
    have e16 : gI (sI (sI g 73 3 (nI (q.1 + 1))) 73 4 (nI q.2.1)) 73 16 = plO q.2.2.2.1 := by rw [gI_sI, if_neg (by omega), gI_sI, if_neg (by omega)]; exact hE.2.2.1.1
    have oA : only (fun j k => j = 73 ∧ (k = 3 ∨ k = 4 ∨ k = 5)) g (sI (sI (sI g 73 3 (nI (q.1 + 1))) 73 4 (nI q.2.1)) 73 5 (plO q.2.2.2.1)) := only_trans (only_sI (by omega)) (only_trans (only_sI (by omega)) (only_sI (by omega)))
    have hmA : MFS (sI (sI (sI g 73 3 (nI (q.1 + 1))) 73 4 (nI q.2.1)) 73 5 (plO q.2.2.2.1)) q := ⟨(o_I oA (by omega)).trans hE.2.2.1.1, fun k hk => (o_I oA (by omega)).trans (hE.2.2.1.2 k hk)⟩
    have a3 : gI (sI (sI (sI g 73 3 (nI (q.1 + 1))) 73 4 (nI q.2.1)) 73 5 (plO q.2.2.2.1)) 73 3 = nI (q.1 + 1) := by rw [gI_sI, if_neg (by omega), gI_sI, if_neg (by omega), gI_sI, if_pos ⟨rfl, rfl⟩]
    have a4 : gI (sI (sI (sI g 73 3 (nI (q.1 + 1))) 73 4 (nI q.2.1)) 73 5 (plO q.2.2.2.1)) 73 4 = nI q.2.1 := by rw [gI_sI, if_neg (by omega), gI_sI, if_pos ⟨rfl, rfl⟩]
    have a5 : gI (sI (sI (sI g 73 3 (nI (q.1 + 1))) 73 4 (nI q.2.1)) 73 5 (plO q.2.2.2.1)) 73 5 = plO q.2.2.2.1 := by rw [gI_sI, if_pos ⟨rfl, rfl⟩]
    show ∃ h2, (_ → (if nI (cnF (fvF q)) = 0 then some (g, (-100 : Int32)) else if isO LF 73 11 = true then (some (sI (sI g 73 3 (nI (q.1 + 1))) 73 4 (gI (sI g 73 3 (nI (q.1 + 1))) 73 15))).bind fun h31 => f_X11_flat_L187 LF e_fu (fun (h43 : eH) (w0_44 : Nat) (w3_45 : Int32) (w4_46 : Int32) => f_X11_flat_L235 LF e_fu (fun (h51 : eH) (w0_52 : Nat) (w3_53 : Int32) (w4_54 : Int32) => if isO LF w0_52 11 = true then (gR h51 w0_52 7).bind fun b56 => if 0 ≤ (gI h51 w0_52 5) then f_X11_flat_J278 LF h51 w0_52 w3_53 b56 72 (gI h51 w0_52 5) else f_X11_flat_J278 LF h51 w0_52 w3_53 b56 72 w4_54 else none) h43 w0_44 w3_45 w4_46 0) (sI h31 73 5 (gI h31 73 16)) 73 (nI (cnF (fvF q))) (plO (fsO (opF (fvF q)) (nF (fvF q)))) 0 else none) = _ ∧ _) ∧ (_ → (if nI (cnF (fvF q)) = 0 then some (g, (-100 : Int32)) else if isO LF 73 11 = true then (some (sI (sI g 73 3 (nI (q.1 + 1))) 73 4 (gI (sI g 73 3 (nI (q.1 + 1))) 73 15))).bind fun h31 => f_X11_flat_L187 LF e_fu (fun (h43 : eH) (w0_44 : Nat) (w3_45 : Int32) (w4_46 : Int32) => f_X11_flat_L235 LF e_fu (fun (h51 : eH) (w0_52 : Nat) (w3_53 : Int32) (w4_54 : Int32) => if isO LF w0_52 11 = true then (gR h51 w0_52 7).bind fun b56 => if 0 ≤ (gI h51 w0_52 5) then f_X11_flat_J278 LF h51 w0_52 w3_53 b56 72 (gI h51 w0_52 5) else f_X11_flat_J278 LF h51 w0_52 w3_53 b56 72 w4_54 else none) h43 w0_44 w3_45 w4_46 0) (sI h31 73 5 (gI h31 73 16)) 73 (nI (cnF (fvF q))) (plO (fsO (opF (fvF q)) (nF (fvF q)))) 0 else none) = _ ∧ _) ∧ _
    rw [if_neg (nI_ne0 (by omega) (by omega)), if_pos iO_73, e15, Option.bind_some, e16]
    generalize sI (sI (sI g 73 3 (nI (q.1 + 1))) 73 4 (nI q.2.1)) 73 5 (plO q.2.2.2.1) = gA at oA hmA a3 a4 a5 ⊢
    have hRA := only_refs oA hRg
    refine L187_M (P := fun o => ∃ h2, (cnF (fvF q) = 0 → o = some (h2, -100) ∧ MI h2 (setT X (0, (xT X).2))) ∧ (cnF (fvF q) ≠ 0 → o = some (h2, nI (cnF (fvF q))) ∧ MI h2 (flX X (fvF q))) ∧ only mdl h1 h2) hRA hq w a3 a4 hmA (fun gB kB oB => ?_)
    refine L235_M (P := fun o => ∃ h2, (cnF (fvF q) = 0 → o = some (h2, -100) ∧ MI h2 (setT X (0, (xT X).2))) ∧ (cnF (fvF q) ≠ 0 → o = some (h2, nI (cnF (fvF q))) ∧ MI h2 (flX X (fvF q))) ∧ only mdl h1 h2) (only_refs oB hRA) (fun gC sC oC => ?_)
    have hRC := only_refs oC (only_refs oB hRA)
    obtain ⟨gD, x1, x2, x3, x4, x5, x6⟩ := J278_M (v3 := nI (cnF (fvF q))) (v := nI (stF (fvF q))) hRC sC
    have e5 : gI gC 73 5 = plO q.2.2.2.1 := ((o_I oC (by omega)).trans (o_I oB (by omega))).trans a5
    have pm := plO_m (p := q.2.2.2.1) (fun x e => (hF.2.2.2.2.2 x e).1)
    have oZ : only (fun j k => j = 75 ∨ j = 76 ∨ j = 97 ∨ (j = 73 ∧ (k = 3 ∨ k = 4 ∨ k = 5 ∨ k = 36 ∨ k = 24))) g gD := only_trans (only_mono (fun j k a => by omega) oA) (only_trans (only_mono (fun j k a => by omega) oB) (only_trans (only_mono (fun j k a => by omega) oC) (only_mono (fun j k a => by omega) x6)))
    have z3 : gI gD 73 3 = nI (q.1 + 1) := ((o_I x6 (by omega)).trans ((o_I oC (by omega)).trans (o_I oB (by omega)))).trans a3
    have z4 : gI gD 73 4 = nI q.2.1 := ((o_I x6 (by omega)).trans ((o_I oC (by omega)).trans (o_I oB (by omega)))).trans a4
    have z5 : gI gD 73 5 = plI (fvF q) := by rw [fv_pl]; exact (o_I x6 (by omega)).trans e5
    refine ⟨gD, fun n => absurd n cz, fun _ => ⟨?_, ?_⟩, only_trans og (only_mono (fun j k a => by unfold mdl; omega) oZ)⟩
    · show (if isO LF 73 11 = true then (gR gC 73 7).bind fun b56 => if 0 ≤ (gI gC 73 5) then f_X11_flat_J278 LF gC 73 (nI (cnF (fvF q))) b56 72 (gI gC 73 5) else f_X11_flat_J278 LF gC 73 (nI (cnF (fvF q))) b56 72 (plO (fsO (opF (fvF q)) (nF (fvF q)))) else none) = _
      rw [if_pos iO_73, r_73_7 hRC, Option.bind_some, e5]
      cases hh : q.2.2.2.1 with
      | none =>
        obtain ⟨j, hj⟩ := fst_ex cz
        have es : stF (fvF q) = j := by
          show (match q.2.2.2.1 with | some p => p | none => (fsO (opF (fvF q)) (nF (fvF q))).getD 0) = j
          rw [hh]
          show (fsO (opF (fvF q)) (nF (fvF q))).getD 0 = j
          rw [hj]; rfl
        rw [if_neg (show ¬ (0 : Int32) ≤ plO none by decide), hj]
        rw [es] at x1
        exact x1
      | some x =>
        have es : stF (fvF q) = x := by
          show (match q.2.2.2.1 with | some p => p | none => (fsO (opF (fvF q)) (nF (fvF q))).getD 0) = x
          rw [hh]
        have x36 := (hF.2.2.2.2.2 x hh).1
        rw [if_pos (show (0 : Int32) ≤ plO (some x) from nI_le (a := 0) (b := x) (by omega) (by omega))]
        rw [es] at x1
        exact x1
    · obtain ⟨c1, c2, c3, c4, c5, c6, c7, c8, c9⟩ := hmg
      refine ⟨⟨z3, z4, z5, fun k hk => ((o_I x6 (by omega)).trans (o_I oC (by omega))).trans (kB k hk)⟩, MR_only oZ (by omega) (fun k => by omega) c2, (o_I oZ (by omega)).trans c3, MT_only oZ (by omega) (fun k => by omega) c4, x2, ⟨x4, fun j hj => absurd hj (Nat.not_lt_zero j)⟩, fun i hi => ?_, ⟨x3, fun k hk => absurd hk (Nat.not_lt_zero k)⟩, MW_only oZ (by omega) (fun k => by omega) c9⟩
      show gI gD 97 i = (if (0 : Nat).testBit i then 1 else 0) ∧ ((0 : Nat).testBit i = true → _)
      rw [Nat.zero_testBit]
      exact ⟨x5 i hi, fun n => by cases n⟩
theorem flat_P {B : Nat} {h : eH} {X : AX} (hc : CI h X) (hm : MI h X) (ho : okX B X) : PR B (f_X10_flat LF h 0) (fun h1 => f_X11_flat LF h1 73) := by
  have t80 := ho.2.2.1.1
  rcases flB_or (xT X).2 (xT X).1 with ⟨e, hb⟩ | ⟨q, hs, w⟩
  · obtain ⟨p, hp⟩ := hc.2.1
    obtain ⟨d1, d2, d3, d4, d5⟩ := d_p hp.1
    obtain ⟨g, x1, x3⟩ := readB_C d1 hc.1 hc.2.2.2.1 ho.2.2.1 hb
    have hRg := only_refs x3 hc.1
    have eT : gI g 1 1 = nI (xT X).1 := (o_I x3 (by unfold dW; omega)).trans hc.2.2.2.1.1
    have ct : f_X8_cut LF g 1 0 = some (sI g 1 1 0, 1) := by
      unfold f_X8_cut
      rw [if_neg (by decide), if_pos iO_1, eT, if_pos (show 0 ≤ nI (xT X).1 from nI_le (a := 0) (by omega) (by omega))]
    have o12 : only (fun j k => dW (128 - p) j k ∨ j = 1 ∨ j = 2) h (sI g 1 1 0) := only_trans (only_mono (fun j k a => Or.inl a) x3) (only_sI (Or.inr (Or.inl rfl)))
    refine PR_mk hm (X' := setT X (0, (xT X).2)) (r := -1 - nI e) ⟨sI g 1 1 0, ?_, CI_dr hp o12 ⟨by rw [gI_sI, if_pos ⟨rfl, rfl⟩]; rfl, fun k hk => absurd hk (Nat.not_lt_zero k)⟩ hc, only_mono (fun j k a => by unfold dW at a; unfold cls; omega) o12⟩ (fun h1 hR h9 => flatB_M hR h9 ho hb) (okX_mono (by omega) (okX_txt ho))
    have ne : ¬ nI e = -1 := by
      have : ∀ e, e < 81 → ¬ nI e = -1 := by decide +kernel
      exact this e (by have := hb.1; omega)
    unfold f_X10_flat
    rw [if_pos iO_0, hp.2.2.1, Option.bind_some, r_0_0 hc.1, Option.bind_some, if_pos (dO d1), x1, Option.bind_some, r_0_0 hRg, Option.bind_some, if_pos iO_1, ct, Option.bind_some, if_neg ne]
  · have hq := okFS_S (fun k hk => ho.2.2.1.2 k hk) hs
    have hF := fv_ok w hq
    obtain ⟨h1, x1, x2, x3⟩ := flatG_C hc ho hs w
    by_cases cz : cnF (fvF q) = 0
    · refine PR_mk2 hm (X' := setT X (0, (xT X).2)) (r := -100) ⟨h1, (x1 cz).1, (x1 cz).2, x3⟩ (fun h1 hR h9 => ?_) (okX_mono (by omega) (okX_txt ho))
      obtain ⟨h2, y1, y2, y3⟩ := flatG_M hR h9 ho hs w
      exact ⟨h2, (y1 cz).1, (y1 cz).2, y3⟩
    · refine PR_mk2 hm (X' := flX X (fvF q)) (r := nI (cnF (fvF q))) ⟨h1, (x2 cz).1, (x2 cz).2, x3⟩ (fun h1 hR h9 => ?_) (okX_mono (by omega) (okX_fl ho hF cz))
      obtain ⟨h2, y1, y2, y3⟩ := flatG_M hR h9 ho hs w
      exact ⟨h2, (y2 cz).1, (y2 cz).2, y3⟩

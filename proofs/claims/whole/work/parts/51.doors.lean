/-! angle, doors, chairs on both sides. -/
theorem mnI_n {a b : Nat} (ha : a < 2 ^ 31) (hb : b < 2 ^ 31) : mnI (nI a) (nI b) = nI (min a b) := by
  unfold mnI
  by_cases h : b < a
  · rw [if_pos (nI_lt h ha), Nat.min_eq_right (by omega)]
  · rw [if_neg (nI_nlt (by omega) hb), Nat.min_eq_left (by omega)]
theorem mxI_n {a b : Nat} (ha : a < 2 ^ 31) (hb : b < 2 ^ 31) : mxI (nI a) (nI b) = nI (max a b) := by
  unfold mxI
  by_cases h : a < b
  · rw [if_pos (nI_lt h hb), Nat.max_eq_right (by omega)]
  · rw [if_neg (nI_nlt (by omega) ha), Nat.max_eq_left (by omega)]
theorem angle_s {n : Nat} {k92 : eH → Nat → Int32 → Int32 → Option (eH × Int32)} {h : eH} {v0 : Nat} {v1 : Int64} {v3 v4 v5 : Int32} : f_X11_angle_L37 LF (n + 1) k92 h v0 v1 v3 v4 v5 = (if 3 < v5 then k92 h v0 v3 v4 else if isO LF v0 11 = true then (f_X11_sweeps LF (sI h v0 23 v5) v0 v1).bind fun r10 => (f_X11_enters LF r10.1 v0 r10.2.toInt64).bind fun r12 => if v4 ≤ r10.2 then f_X11_angle_L37 LF n k92 r12 v0 v1 v3 (mnI v4 r10.2) (v5 + Int32.ofInt 1) else f_X11_angle_L37 LF n k92 r12 v0 v1 v5 (mnI v4 r10.2) (v5 + Int32.ofInt 1) else none) := rfl
theorem mW_id : ∀ j k, mW j k → mW j k := fun _ _ h => h
theorem mW_82 : w82 mW := fun k => ⟨by unfold mW mscW msc; omega, by unfold mW mscW msc; omega, by unfold mW mscW msc; omega⟩
theorem angle_1 {h g : eH} {X : AX} {B t T : Nat} {l : List Int64} {y : Int64} (hR : RefsOK h) (hm : MI h X) (ho : okX B X) (og : only mW h g) (hl : MW g l) (h48 : l.length < 48) (ht : t < 4) (hT : (swA (xF X) (xR X) (nI t) 999 (xS X) (seU (xS X) y)).1 = T) : ∃ g1 g2, f_X11_sweeps LF (sI g 73 23 (nI t)) 73 y = some (g1, nI T) ∧ f_X11_enters LF g1 73 (nI T).toInt64 = some g2 ∧ MW g2 (l ++ [(nI T).toInt64]) ∧ only mW h g2 ∧ ∀ j k, ¬ mscW j k → gL g2 j k = gL g j k := by
  have o1 : only mW h (sI g 73 23 (nI t)) := only_trans og (only_sI (Or.inr ⟨rfl, rfl⟩))
  obtain ⟨g1, s1, s2, s3, s4⟩ := sweeps_M (W := mW) mW_id mW_82 (by unfold mW mscW msc; omega) hR hm ho o1 y (by rw [gI_sI, if_pos ⟨rfl, rfl⟩]) (Or.inr ⟨t, ht, rfl⟩)
  rw [hT] at s1
  have hl1 : MW g1 l := MW_only s4 (by omega) (fun k => by omega) (MW_only (W := fun j k => j = 73 ∧ k = 23) (only_sI ⟨rfl, rfl⟩) (by omega) (fun k => by omega) hl)
  obtain ⟨g2, r1, r2, r3⟩ := rowadd_M (only_refs s3 hR) hl1 h48 (nI T).toInt64
  refine ⟨g1, g2, s1, r1, r2, only_trans s3 (only_mono (fun j k a => by unfold mW mscW; omega) r3), fun j k hW => ?_⟩
  rw [o_L r3 (fun a => hW (by unfold mscW; omega)), o_L s4 (fun a => hW (by unfold mscW msc; omega)), gL_sI]
theorem angle_P {B : Nat} {h : eH} {X : AX} (hc : CI h X) (hm : MI h X) (ho : okX B X) (hB : B + 1000 < 2 ^ 31) : PR B (f_X10_angle LF h 0) (fun h1 => f_X11_angle LF h1 73) := by
  obtain ⟨p, hp⟩ := hc.2.1
  obtain ⟨sp, a0, a1, a2, a3⟩ := spotX ho
  obtain ⟨y, y1, y2⟩ := reachX hc ho hp a2 a1
  obtain ⟨T1, hT1⟩ : ∃ T, (swA (xF X) (xR X) (nI 1) 999 (xS X) (seU (xS X) y)).1 = T := ⟨_, rfl⟩
  obtain ⟨T2, hT2⟩ : ∃ T, (swA (xF X) (xR X) (nI 2) 999 (xS X) (seU (xS X) y)).1 = T := ⟨_, rfl⟩
  obtain ⟨T3, hT3⟩ : ∃ T, (swA (xF X) (xR X) (nI 3) 999 (xS X) (seU (xS X) y)).1 = T := ⟨_, rfl⟩
  have l1 : T1 ≤ 1000 := by rw [← hT1]; exact swA_le _ _ _
  have l2 : T2 ≤ 1000 := by rw [← hT2]; exact swA_le _ _ _
  have l3 : T3 ≤ 1000 := by rw [← hT3]; exact swA_le _ _ _
  obtain ⟨M, hM⟩ : ∃ M, M = min T1 (min T2 T3) := ⟨_, rfl⟩
  refine PR_q hc hm ho (r := if T1 = M then 1 else if T2 = M then 2 else 3) (l := [(nI M).toInt64, (nI T1).toInt64, (nI T2).toInt64, (nI T3).toInt64]) (by show 4 ≤ 37; omega) ?_ (fun h1 hR h9 => ?_)
  · obtain ⟨g1, s1, o1⟩ := see_C hc ho hB y (ft := nI 1) (Or.inr ⟨1, by omega, rfl⟩)
    obtain ⟨g2, s2, o2⟩ := see_C (CI_scr o1 hc) ho hB y (ft := nI 2) (Or.inr ⟨2, by omega, rfl⟩)
    obtain ⟨g3, s3, o3⟩ := see_C (CI_scr (only_trans o1 o2) hc) ho hB y (ft := nI 3) (Or.inr ⟨3, by omega, rfl⟩)
    rw [hT1] at s1
    rw [hT2] at s2
    rw [hT3] at s3
    have s1 : f_X10_stepsToSee LF h 0 y 1 = some (g1, nI T1) := s1
    have s2 : f_X10_stepsToSee LF g1 0 y 2 = some (g2, nI T2) := s2
    have s3 : f_X10_stepsToSee LF g2 0 y 3 = some (g3, nI T3) := s3
    have o : only csc h g3 := only_trans o1 (only_trans o2 o3)
    have hRg := only_refs o hc.1
    have eM : mnI (nI T1) (mnI (nI T2) (nI T3)) = nI M := by rw [mnI_n (by omega) (by omega), mnI_n (by omega) (by omega), hM]
    obtain ⟨b1, b2⟩ := rowbeg_C g3
    have hRb : RefsOK (sI g3 3 1 0) := refs_sI hRg
    obtain ⟨h3, r1, r2, r3⟩ := rowadd_C hRb b2 (by decide) ((nI M).toInt64)
    have hR3 := only_refs r3 hRb
    obtain ⟨h4, t1, t2, t3⟩ := rowadd_C hR3 r2 (show 1 < 37 by decide) ((nI T1).toInt64)
    have hR4 := only_refs t3 hR3
    obtain ⟨h5, u1, u2, u3⟩ := rowadd_C hR4 t2 (show 2 < 37 by decide) ((nI T2).toInt64)
    have hR5 := only_refs u3 hR4
    obtain ⟨h6, v1, v2, v3⟩ := rowadd_C hR5 u2 (show 3 < 37 by decide) ((nI T3).toInt64)
    have obb : only (fun j _ => j = 3 ∨ j = 4) g3 (sI g3 3 1 0) := only_sI (Or.inl rfl)
    refine ⟨h6, ?_, v2, only_trans (csc_w o) (row_w (only_trans obb (only_trans r3 (only_trans t3 (only_trans u3 v3)))))⟩
    unfold f_X10_angle
    rw [if_pos iO_0, hp.2.1, Option.bind_some, free_C hc hp, Option.bind_some, r_0_7 hc.1, Option.bind_some, if_pos iO_46, if_pos (p_O hp), e46 hc, a2, y1, Option.bind_some, s1, Option.bind_some, s2, Option.bind_some, s3, Option.bind_some, eM, r_0_1 hRg, Option.bind_some, if_pos iO_3, b1, Option.bind_some, r_0_1 hRb, Option.bind_some, if_pos iO_3, r1, Option.bind_some, r_0_1 hR3, Option.bind_some, if_pos iO_3, t1, Option.bind_some, r_0_1 hR4, Option.bind_some, if_pos iO_3, u1, Option.bind_some, r_0_1 hR5, Option.bind_some, if_pos iO_3, v1, Option.bind_some]
    by_cases c1 : T1 = M
    · rw [if_pos c1, if_pos (by rw [c1])]
    · rw [if_neg c1, if_neg (fun e => c1 (nI_inj (by omega) (by omega) e))]
      by_cases c2 : T2 = M
      · rw [if_pos c2, if_pos (by rw [c2])]
      · rw [if_neg c2, if_neg (fun e => c2 (nI_inj (by omega) (by omega) e))]
  · have h9' := MI_scr thr_M h9
    have hR0 : RefsOK (sI h1 73 0 0) := refs_sI hR
    obtain ⟨y', z1, z2⟩ := reached_M (w := -1) ho.1 hR0 (Or.inl rfl) h9'.1 h9'.2.2.2.2.1 a1
    rw [frW_f ho.1] at z2
    have hyy := reach_same z2 y2
    subst hyy
    have i72 : inA LF 76 0 72 = true := (iM (Or.inl rfl)).1
    have w0 : only mW h1 (sI (sI h1 73 0 0) 73 1 1) := only_trans (only_sI (by unfold mW mscW msc; omega)) (only_sI (by unfold mW mscW; omega))
    have q0 : MW (sI (sI h1 73 0 0) 73 1 1) [gL h1 74 0] := ⟨by rw [gI_sI, if_pos ⟨rfl, rfl⟩]; rfl, fun k hk => by
      have : k = 0 := by simpa using hk
      subst this; rfl⟩
    obtain ⟨g1, g1', p1, p2, p3, p4, p5⟩ := angle_1 (t := 1) hR h9 ho w0 q0 (by show 1 < 48; omega) (by omega) hT1
    obtain ⟨g2, g2', u1, u2, u3, u4, u5⟩ := angle_1 (t := 2) hR h9 ho p4 p3 (by show 2 < 48; omega) (by omega) hT2
    obtain ⟨g3, g3', v1, v2, v3, v4, v5⟩ := angle_1 (t := 3) hR h9 ho u4 u3 (by show 3 < 48; omega) (by omega) hT3
    have p1 : f_X11_sweeps LF (sI (sI (sI h1 73 0 0) 73 1 1) 73 23 1) 73 y' = some (g1, nI T1) := p1
    have u1 : f_X11_sweeps LF (sI g1' 73 23 (1 + Int32.ofInt 1)) 73 y' = some (g2, nI T2) := u1
    have v1 : f_X11_sweeps LF (sI g2' 73 23 (1 + Int32.ofInt 1 + Int32.ofInt 1)) 73 y' = some (g3, nI T3) := v1
    have hR3 := only_refs v4 hR
    have fin : ∀ bb : Int32, ∃ h2, (if isO LF 73 11 = true then (gR (sI g3' 73 23 (-1)) 73 2).bind fun b19 => if inA LF b19 1 0 = true then (some (sL (sI g3' 73 23 (-1)) b19 (0 : Int32).toNatClampNeg (nI M).toInt64)).bind fun h22 => some (h22, bb) else none else none) = some (h2, bb) ∧ MW h2 [(nI M).toInt64, (nI T1).toInt64, (nI T2).toInt64, (nI T3).toInt64] ∧ only mscW h1 h2 := fun bb => by
      refine ⟨sL (sI g3' 73 23 (-1)) 74 0 (nI M).toInt64, ?_, ⟨v3.1, fun k hk => ?_⟩, ⟨fun j k hW => ⟨?_, ?_⟩, fun j k => (v4.2 j k)⟩⟩
      · rw [if_pos iO_73, gR_sI, r_73_2 hR3, Option.bind_some, if_pos (by decide), Option.bind_some, show (0 : Int32).toNatClampNeg = 0 by decide]
      · have hk : k < 4 := hk
        have e := v3.2 k hk
        rw [gL_sL]
        by_cases hk0 : k = 0
        · subst hk0; rw [if_pos ⟨rfl, rfl⟩]; rfl
        · rw [if_neg (by omega), gL_sI, e]
          have : k = 1 ∨ k = 2 ∨ k = 3 := by omega
          rcases this with rfl | rfl | rfl <;> rfl
      · by_cases h23 : j = 73 ∧ k = 23
        · rw [h23.1, h23.2, gI_sL, gI_sI, if_pos ⟨rfl, rfl⟩]; exact h9.2.2.1.symm
        · rw [gI_sL, gI_sI, if_neg h23]; exact o_I v4 (fun a => a.elim hW h23)
      · rw [gL_sL, if_neg (fun e => hW (by unfold mscW; omega)), gL_sI, v5 j k hW, u5 j k hW, p5 j k hW]; rfl
    obtain ⟨fu, hfu⟩ := fu_s 3 (by decide)
    have c3 : ∀ t : Nat, t ≤ 3 → ¬ (3 : Int32) < nI t := fun t ht => nI_nlt (a := 3) ht (by decide)
    have n1 : ¬ (1000000 : Int32) ≤ nI T1 := nI_ge (b := 1000000) (by omega) (by decide)
    have m1 : mnI 1000000 (nI T1) = nI T1 := by
      show mnI (nI 1000000) (nI T1) = _
      rw [mnI_n (by omega) (by omega), Nat.min_eq_right (by omega)]
    show ∃ h2, f_X11_angle LF h1 73 = _ ∧ _
    unfold f_X11_angle
    rw [if_pos iO_73, r_73_7 hR0, Option.bind_some, Option.bind_some, if_pos i72, c72, MS_0 h9'.2.2.2.2.1 (by omega), a2, z1, Option.bind_some, hfu]
    rw [angle_s, if_neg (show ¬ (3 : Int32) < 1 by decide), if_pos iO_73, p1, Option.bind_some, p2, Option.bind_some, if_neg n1, m1]
    rw [angle_s, if_neg (show ¬ (3 : Int32) < 1 + Int32.ofInt 1 by decide), if_pos iO_73, u1, Option.bind_some, u2, Option.bind_some]
    have last : ∀ (bst : Int32) (m : Nat), m ≤ 1000 → min m T3 = M → ∃ h2, f_X11_angle_L37 LF (fu + 1 + 1) (fun (h14 : eH) (w0_15 : Nat) (w3_16 : Int32) (w4_17 : Int32) => if isO LF w0_15 11 = true then (gR (sI h14 w0_15 23 (-1)) w0_15 2).bind fun b19 => if inA LF b19 1 0 = true then (some (sL (sI h14 w0_15 23 (-1)) b19 (0 : Int32).toNatClampNeg w4_17.toInt64)).bind fun h22 => some (h22, w3_16) else none else none) g2' 73 y' bst (nI m) (1 + Int32.ofInt 1 + Int32.ofInt 1) = some (h2, (if m ≤ T3 then bst else 3)) ∧ MW h2 [(nI M).toInt64, (nI T1).toInt64, (nI T2).toInt64, (nI T3).toInt64] ∧ only mscW h1 h2 := fun bst m hm1 hmM => by
      rw [angle_s, if_neg (show ¬ (3 : Int32) < 1 + Int32.ofInt 1 + Int32.ofInt 1 by decide), if_pos iO_73, v1, Option.bind_some, v2, Option.bind_some, mnI_n (by omega) (by omega), hmM]
      by_cases c : m ≤ T3
      · rw [if_pos c, if_pos (nI_le c (by omega)), angle_s, if_pos (by decide)]; exact fin bst
      · rw [if_neg c, if_neg (nI_ge (by omega) (by omega)), angle_s, if_pos (by decide)]; exact fin _
    by_cases c12 : T1 ≤ T2
    · rw [if_pos (nI_le c12 (by omega)), mnI_n (by omega) (by omega), Nat.min_eq_left c12]
      obtain ⟨h2, x1, x2, x3⟩ := last 1 T1 l1 (by omega)
      refine ⟨h2, Eq.trans x1 ?_, x2, x3⟩
      by_cases c : T1 ≤ T3
      · rw [if_pos c, if_pos (by omega)]
      · rw [if_neg c, if_neg (by omega), if_neg (by omega)]
    · rw [if_neg (nI_ge (by omega) (by omega)), mnI_n (by omega) (by omega), Nat.min_eq_right (by omega)]
      obtain ⟨h2, x1, x2, x3⟩ := last (1 + Int32.ofInt 1) T2 l2 (by omega)
      refine ⟨h2, Eq.trans x1 ?_, x2, x3⟩
      by_cases c : T2 ≤ T3
      · rw [if_pos c, if_neg (by omega), if_pos (by omega)]; rfl
      · rw [if_neg c, if_neg (by omega), if_neg (by omega)]

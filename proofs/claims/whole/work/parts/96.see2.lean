/-! spot, machine, row: the class's answer does not hang on the law's own cell -/
theorem CI_99 {h : eH} {X : AX} {z : Int64} (hc : CI h X) : CI (sL h 99 0 z) X := CI_mdl (only_sL (by unfold mdl; omega)) hc
theorem MI_99 {h : eH} {X : AX} {z : Int64} (hm : MI h X) : MI (sL h 99 0 z) X := MI_scr (only_sL (by unfold msc; omega)) hm
theorem spot_99 {h : eH} {X : AX} {z : Int64} (hc : CI h X) (v w : Int32) : f_X10_spot LF (sL h 99 0 z) 0 v w = f_X10_spot LF h 0 v w := by
  obtain ⟨p, hp⟩ := hc.2.1
  have hc' : CI (sL h 99 0 z) X := CI_99 hc
  have hp' : CF (sL h 99 0 z) p (xF X) := CF_only (W := fun j _ => j = 99) (only_sL rfl) (fun j k a b => by omega) hp
  have g46 : gL (sL h 99 0 z) 46 8 = gL h 46 8 := by rw [gL_sL, if_neg (by omega)]
  have gp4 : gL (sL h 99 0 z) p 4 = gL h p 4 := by rw [gL_sL, if_neg (by have := hp.1; omega)]
  unfold f_X10_spot
  rw [free_C hc' hp', free_C hc hp, r_0_7 hc'.1, r_0_7 hc.1, Option.bind_some, Option.bind_some, g46, gp4]
  rfl
theorem row_99 {h : eH} {X : AX} {z : Int64} (hc : CI h X) (v : Int32) : f_X10_row LF (sL h 99 0 z) 0 v = f_X10_row LF h 0 v := by
  have hc' : CI (sL h 99 0 z) X := CI_99 hc
  have g4 : ∀ k, gL (sL h 99 0 z) 4 k = gL h 4 k := fun k => by rw [gL_sL, if_neg (by omega)]
  unfold f_X10_row f_X3_at
  rw [r_0_1 hc'.1, r_0_1 hc.1, Option.bind_some, Option.bind_some, Option.bind_some, Option.bind_some, r_3_0 hc'.1, r_3_0 hc.1, Option.bind_some, Option.bind_some, g4]
  rfl
theorem machine_G {B : Nat} {h : eH} {X : AX} (hc : CI h X) (ho : okX B X) (hB : B < 2 ^ 31) (v : Int32) : (∃ h1 r, f_X10_machine LF h 0 v = some (h1, r) ∧ only csc h h1 ∧ ∀ g0, RefsOK g0 → MI g0 X → ∃ h2, f_X11_machine LF g0 73 v = some (h2, r) ∧ gI h2 73 0 = 0 ∧ gL h2 99 0 = gL g0 99 0 ∧ only msc g0 h2) ∨ ((v ≠ 0 ∧ v ≠ 1 ∧ v ≠ 2 ∧ v ≠ 3 ∧ v ≠ 4 ∧ v ≠ 5 ∧ v ≠ 6 ∧ v ≠ 7) ∧ ∀ g0, RefsOK g0 → MI g0 X → f_X11_machine LF g0 73 v = some (sI (sI g0 73 0 0) 73 0 1, 0)) := by
  obtain ⟨p, hp⟩ := hc.2.1
  obtain ⟨q, hq⟩ := hc.2.2.1
  have hS := hc.2.2.2.2.1
  have in7 : f_X11_in v.toInt64 0 7 = if v < 0 then 0 else if (7 : Int32) < v then 0 else 1 := in_00 v 7
  obtain ⟨i1, i2, -⟩ := iM (a := 76) (Or.inl rfl)
  have z0 : ∀ g : eH, gI (sI g 73 0 0) 73 0 = 0 := fun g => by rw [gI_sI, if_pos ⟨rfl, rfl⟩]
  rcases pos_le v 7 (by decide) with hv | ⟨hv1, hv2, hv3⟩ | ⟨j, j7, rfl⟩
  · right
    refine ⟨⟨?_, ?_, ?_, ?_, ?_, ?_, ?_, ?_⟩, fun g0 hR0 hm0 => ?_⟩
    any_goals (rintro rfl; exact absurd hv (by decide))
    unfold f_X11_machine f_X11_refuse
    rw [if_pos iO_73, in7, if_pos hv, if_pos rfl, if_pos iO_73, Option.bind_some]
  · right
    refine ⟨⟨?_, ?_, ?_, ?_, ?_, ?_, ?_, ?_⟩, fun g0 hR0 hm0 => ?_⟩
    any_goals (rintro rfl; exact absurd hv3 (by decide))
    unfold f_X11_machine f_X11_refuse
    rw [if_pos iO_73, in7, if_neg hv1, if_pos (show (7 : Int32) < v from hv3), if_pos rfl, if_pos iO_73, Option.bind_some]
  · left
    have hin : ¬ f_X11_in (nI j).toInt64 0 7 = 0 := by rw [in7, if_neg (nI_pos (by omega)), if_neg (show ¬ (7 : Int32) < nI j from nI_nlt (a := 7) (by omega) (by decide))]; exact i10
    by_cases hj : j < 6
    · have hC : f_X10_machine LF h 0 (nI j) = some (h, xS X (72 + j)) := by
        have e := hS.2.2.1 (1 + j) (by omega) (by omega)
        have : j = 0 ∨ j = 1 ∨ j = 2 ∨ j = 3 ∨ j = 4 ∨ j = 5 := by omega
        unfold f_X10_machine
        rcases this with rfl | rfl | rfl | rfl | rfl | rfl
        · rw [if_pos (show nI 0 = 0 from rfl), if_pos iO_0, r_0_7 hc.1, Option.bind_some, if_pos iO_46, e]
        · rw [if_neg (by decide), if_pos (show nI 1 = 1 from rfl), if_pos iO_0, r_0_7 hc.1, Option.bind_some, if_pos iO_46, e]
        · rw [if_neg (by decide), if_neg (by decide), if_pos (show nI 2 = 2 from rfl), if_pos iO_0, r_0_7 hc.1, Option.bind_some, if_pos iO_46, e]
        · rw [if_neg (by decide), if_neg (by decide), if_neg (by decide), if_pos (show nI 3 = 3 from rfl), if_pos iO_0, r_0_7 hc.1, Option.bind_some, if_pos iO_46, e]
        · rw [if_neg (by decide), if_neg (by decide), if_neg (by decide), if_neg (by decide), if_pos (show nI 4 = 4 from rfl), if_pos iO_0, r_0_7 hc.1, Option.bind_some, if_pos iO_46, e]
        · rw [if_neg (by decide), if_neg (by decide), if_neg (by decide), if_neg (by decide), if_neg (by decide), if_pos (show nI 5 = 5 from rfl), if_pos iO_0, r_0_7 hc.1, Option.bind_some, if_pos iO_46, e]
      refine ⟨h, xS X (72 + j), hC, only_rfl, fun g0 hR0 hm0 => ⟨sI g0 73 0 0, ?_, z0 g0, rfl, thr_M⟩⟩
      have m5 := (MI_scr thr_M hm0).2.2.2.2.1
      unfold f_X11_machine
      rw [if_pos iO_73, if_neg hin, if_neg (show ¬ (6 : Int32) ≤ nI j from nI_ge (b := 6) hj (by decide)), r_73_7 (refs_sI hR0), Option.bind_some, show (72 : Int32) + nI j = nI (72 + j) from nI_add 72 j, iA_76, if_pos (in_nI (by omega) (by decide)), nI_clamp (by omega), MS_0 m5 (by omega)]
    · by_cases h6 : j = 6
      · subst h6
        obtain ⟨g, x1, x2⟩ := turn_C ho.1 ho.2.1 (show (46 : Nat) ∈ stL by decide) ho.2.2.2.1 hB hc.1 hq hp hS
        have og : only csc h g := only_mono (fun j k a => by unfold csc; have := hq.1; omega) x2
        refine ⟨g, rvA (xR X).1 (xR X).2 (askA (xF X) (xS X)), ?_, og, fun g0 hR0 hm0 => ?_⟩
        · unfold f_X10_machine
          rw [if_neg (by decide), if_neg (by decide), if_neg (by decide), if_neg (by decide), if_neg (by decide), if_neg (by decide), if_pos (show nI 6 = 6 from rfl), if_pos iO_0, hq.2.1, Option.bind_some, r_0_7 hc.1, Option.bind_some, hp.2.1, Option.bind_some, if_pos (q_O hq.1), x1, Option.bind_some]
        · have h9' := MI_scr thr_M hm0
          obtain ⟨g2, y1, y2⟩ := turn_M (ft := -1) ho.1 ho.2.1 (Or.inl rfl) ho.2.2.2.1 (refs_sI hR0) h9'.2.1 h9'.1 h9'.2.2.2.2.1 h9'.2.2.1
          have etn : tnA (xF X) (xR X).1 (xR X).2 (-1) (xS X) = rvA (xR X).1 (xR X).2 (askA (xF X) (xS X)) := by unfold tnA; rw [if_pos (by decide)]
          rw [etn] at y1
          refine ⟨g2, ?_, (o_I y2 (by omega)).trans (z0 g0), o_L y2 (by omega), only_trans thr_M (only_mono (fun j k a => by unfold msc; omega) y2)⟩
          unfold f_X11_machine
          rw [if_pos iO_73, if_neg hin, if_pos (by decide), if_pos (show nI 6 = 6 from rfl), r_73_7 (refs_sI hR0), Option.bind_some, y1, Option.bind_some]
      · have h7 : j = 7 := by omega
        subst h7
        obtain ⟨⟨sp, a1, a2, a3, a4⟩, ⟨hd, b1, b2⟩, -⟩ := id ho.2.2.2.1
        have hsp := kF_lt a2
        refine ⟨h, nb (xF X) sp hd, ?_, only_rfl, fun g0 hR0 hm0 => ⟨sI g0 73 0 0, ?_, z0 g0, rfl, thr_M⟩⟩
        · unfold f_X10_machine
          rw [if_neg (by decide), if_neg (by decide), if_neg (by decide), if_neg (by decide), if_neg (by decide), if_neg (by decide), if_neg (by decide), if_pos (show nI 7 = 7 from rfl), if_pos iO_0, hp.2.1, Option.bind_some, r_0_7 hc.1, Option.bind_some, if_pos iO_46, Option.bind_some, if_pos iO_46, if_pos (p_O hp), e46 hc, a4, (hS.2.2.1 2 (by omega) (by omega)).trans b2, ahead_nb ho.1 hp hsp b1, Option.bind_some]
        · have h9' := MI_scr thr_M hm0
          unfold f_X11_machine
          rw [if_pos iO_73, if_neg hin, if_pos (by decide), if_neg (by decide), r_73_7 (refs_sI hR0), Option.bind_some, if_pos i1, Option.bind_some, if_pos i2, c72, c73, MS_0 h9'.2.2.2.2.1 (by omega), MS_0 h9'.2.2.2.2.1 (by omega), a4, b2, beside_nb ho.1 h9'.1, Option.bind_some]

/-! count, spot, machine, row on both sides. -/
theorem open_M {h : eH} {F : FV} (hF : okF F) (hR : RefsOK h) (hm : MF h F) : f_X11_openMany LF h 73 = some (nI (fb_ct (fun k => decide (kF F k ≠ 0)) 36)) := by
  have h36 := nF_le hF
  have e : fb_ct (fun k => decide (kF F k ≠ 0)) 36 = fb_ct (fun k => decide (kF F k ≠ 0)) (nF F) := by
    have := fb_ct_split (fun k => decide (kF F k ≠ 0)) (nF F) (36 - nF F)
    rw [show nF F + (36 - nF F) = 36 by omega] at this
    rw [this, (fb_ct_zero (p := fun k => decide (kF F (nF F + k) ≠ 0)) (n := 36 - nF F)).mpr (fun k _ => decide_eq_false (fun q => by have := kF_lt q; omega)), Nat.add_zero]
  unfold f_X11_openMany
  rw [e]
  refine lpF (N := nF F) (s := (0 : Int32)) (run := fun fu (q : Int32) i => f_X11_openMany_L4 LF h fu (fun (w1_7 : Int32) => some w1_7) 73 q (nI i)) (Inv := fun i q => q = nI (fb_ct (fun k => decide (kF F k ≠ 0)) i)) (Post := fun r => r = some (nI (fb_ct (fun k => decide (kF F k ≠ 0)) (nF F)))) (by omega) rfl ?_ ?_
  · rintro fu q rfl
    show f_X11_openMany_L4 LF h (fu + 1) _ 73 _ (nI (nF F)) = _
    unfold f_X11_openMany_L4
    rw [if_pos iO_73, spots_M hm, Option.bind_some, if_pos (nI_le (Nat.le_refl _) (by omega))]
  · rintro i fu q hi rfl
    refine Or.inr ⟨nI (fb_ct (fun k => decide (kF F k ≠ 0)) (i + 1)), rfl, fun z hz => ?_⟩
    have hz : f_X11_openMany_L4 LF h fu (fun (w1_7 : Int32) => some w1_7) 73 (nI (fb_ct (fun k => decide (kF F k ≠ 0)) i + (if decide (kF F i ≠ 0) = true then 1 else 0))) (nI (i + 1)) = z := hz
    have hk := kF_le hF i
    show f_X11_openMany_L4 LF h (fu + 1) _ 73 (nI (fb_ct (fun k => decide (kF F k ≠ 0)) i)) (nI i) = z
    unfold f_X11_openMany_L4
    rw [if_pos iO_73, spots_M hm, Option.bind_some, if_neg (nI_ge hi (by omega)), r_73_6 hR, Option.bind_some, iA_75, if_pos (in_nI (by omega) (by decide)), nI_clamp (by omega), hm.2.2.2 i (by omega), nI_p1]
    by_cases q : kF F i = 0
    · rw [if_pos (by rw [q]; rfl), show f_X11_flag 0 = nI 0 by decide, nI_add]
      rw [if_neg (by simp [q])] at hz; exact hz
    · rw [if_neg (nI_ne0 (by omega) (by omega)), show f_X11_flag 1 = nI 1 by decide, nI_add]
      rw [if_pos (decide_eq_true q)] at hz; exact hz
theorem open_C {h : eH} {p : Nat} {F : FV} (hF : okF F) (hc : CF h p F) : f_J13_bitCount_95d88 (gL h p 4) = nI (fb_ct (fun k => decide (kF F k ≠ 0)) 36) := by
  have h36 := nF_le hF
  rw [bitC36 (fun k hk => by
    rw [hc.2.2.2.2.2.2.1]
    exact decide_eq_false (fun q => by have := kF_lt q; omega))]
  congr 1
  exact fb_ct_cong (fun k _ => hc.2.2.2.2.2.2.1 k)
theorem count_R {B : Nat} {h : eH} {X : AX} (hc : CI h X) (hm : MI h X) (ho : okX B X) (v : Int32) : ∃ r, f_X10_count LF h 0 v = some r ∧ f_X11_count LF h 73 v = some (sI h 73 0 0, r) := by
  obtain ⟨p, hp⟩ := hc.2.1
  have hS := hc.2.2.2.2.1
  have h9 := MI_scr thr_M hm
  have hR0 : RefsOK (sI h 73 0 0) := refs_sI hc.1
  obtain ⟨m1, m2, m3, m4, m5, m6, m7, m8, m9⟩ := h9
  obtain ⟨c1, c2, c3, c4, c5, ⟨nx, n1, n2, n3, n4⟩, c7, c8, c9⟩ := id hc
  have i78 : inA LF 76 0 78 = true := (iM (Or.inl rfl)).2.2.2.2.2.2
  unfold f_X10_count f_X11_count
  rw [if_pos iO_73]
  by_cases h0 : v = 0
  · rw [if_pos h0, if_pos h0, if_pos iO_0, hp.2.1, Option.bind_some, if_pos (p_O hp), hp.2.2.2.1, m1.1]; exact ⟨_, rfl, rfl⟩
  rw [if_neg h0, if_neg h0]
  by_cases h1 : v = 1
  · rw [if_pos h1, if_pos h1, if_pos iO_0, hp.2.1, Option.bind_some, if_pos (p_O hp), hp.2.2.2.2.1, m1.2.1]; exact ⟨_, rfl, rfl⟩
  rw [if_neg h1, if_neg h1]
  by_cases h2 : v = 2
  · rw [if_pos h2, if_pos h2, if_pos iO_0, hp.2.1, Option.bind_some, if_pos (p_O hp), open_C ho.1 hp, open_M ho.1 hR0 m1, Option.bind_some]; exact ⟨_, rfl, rfl⟩
  rw [if_neg h2, if_neg h2]
  by_cases h3 : v = 3
  · rw [if_pos h3, if_pos h3, if_pos iO_0, r_0_7 c1, Option.bind_some, if_pos iO_46, chairs_C hS, r_73_7 hR0, Option.bind_some, chairs_M (Or.inl rfl) m5, Option.bind_some]; exact ⟨_, rfl, rfl⟩
  rw [if_neg h3, if_neg h3]
  by_cases h4 : v = 4
  · rw [if_pos h4, if_pos h4, if_pos iO_0, r_0_7 c1, Option.bind_some, if_pos iO_46, dustAll_C c1 (by decide) hS, Option.bind_some, r_73_7 hR0, Option.bind_some, dustAll_M (Or.inl rfl) m5, Option.bind_some]; exact ⟨_, rfl, rfl⟩
  rw [if_neg h4, if_neg h4]
  by_cases h5 : v = 5
  · rw [if_pos h5, if_pos h5, if_pos iO_0, hp.2.1, Option.bind_some, if_pos (p_O hp), hp.2.2.2.2.2.1, m1.2.2.1]; exact ⟨_, rfl, rfl⟩
  rw [if_neg h5, if_neg h5]
  by_cases h6 : v = 6
  · rw [if_pos h6, if_pos h6, if_pos iO_0, r_0_7 c1, Option.bind_some, if_pos iO_46, r_73_7 hR0, Option.bind_some, if_pos i78, c78, MS_0 m5 (by omega), hS.2.2.1 7 (by omega) (by omega)]; exact ⟨_, rfl, rfl⟩
  rw [if_neg h6, if_neg h6]
  by_cases h7 : v = 7
  · unfold f_X0_size
    rw [if_pos h7, if_pos h7, if_pos iO_0, r_0_5 c1, Option.bind_some, if_pos iO_40, if_pos iO_40, Option.bind_some, c8.1, m8.1]; exact ⟨_, rfl, rfl⟩
  rw [if_neg h7, if_neg h7]
  by_cases h8 : v = 8
  · unfold f_X1_size
    rw [if_pos h8, if_pos h8, if_pos iO_0, r_0_3 c1, Option.bind_some, if_pos iO_6, if_pos iO_6, Option.bind_some, n3, m6.1]; exact ⟨_, rfl, rfl⟩
  rw [if_neg h8, if_neg h8]
  by_cases h9 : v = 9
  · unfold f_X3_size
    rw [if_pos h9, if_pos h9, if_pos iO_0, r_0_1 c1, Option.bind_some, if_pos iO_3, if_pos iO_3, Option.bind_some, c9.1, m9.1]; exact ⟨_, rfl, rfl⟩
  rw [if_neg h9, if_neg h9]
  by_cases h10 : v = 10
  · unfold f_X8_size
    rw [if_pos h10, if_pos h10, if_pos iO_0, r_0_0 c1, Option.bind_some, if_pos iO_1, if_pos iO_1, Option.bind_some, c4.1, m4.1]; exact ⟨_, rfl, rfl⟩
  rw [if_neg h10, if_neg h10]; exact ⟨_, rfl, rfl⟩
/-- spot: told, or thrown on both sides -/
theorem spot_R {B : Nat} {h : eH} {X : AX} (hc : CI h X) (hm : MI h X) (ho : okX B X) (v w : Int32) : (∃ r, f_X10_spot LF h 0 v w = some r ∧ f_X11_spot LF h 73 v w = some (sI h 73 0 0, r)) ∨ ((∃ p, gR h 0 15 = some p ∧ isO LF p 2 = true ∧ (f_X2_has LF h p v = some 0 ∨ (f_X2_has LF h p v = some 1 ∧ w ≠ 0 ∧ w ≠ 1 ∧ w ≠ 2 ∧ w ≠ 3 ∧ w ≠ 4 ∧ w ≠ 5))) ∧ f_X11_spot LF h 73 v w = some (sI (sI h 73 0 0) 73 0 1, 0)) := by
  obtain ⟨p, hp⟩ := hc.2.1
  have hS := hc.2.2.2.2.1
  obtain ⟨m1, m2, m3, m4, m5, m6, m7, m8, m9⟩ := MI_scr thr_M hm
  have hR0 : RefsOK (sI h 73 0 0) := refs_sI hc.1
  have h36 := nF_le ho.1
  have i72 : inA LF 76 0 72 = true := (iM (Or.inl rfl)).1
  have in5 : f_X11_in w.toInt64 0 5 = if w < 0 then 0 else if (5 : Int32) < w then 0 else 1 := in_00 w 5
  rcases spot_cases ho.1 v with ⟨x1, x2⟩ | ⟨k, k1, rfl, x1, x2⟩
  · refine Or.inr ⟨⟨p, hp.2.1, p_O hp, Or.inl (by rw [has_eq hp, x1])⟩, ?_⟩
    unfold f_X11_spot f_X11_refuse
    rw [if_pos iO_73, isSpot_eq m1 x2 (Or.inl rfl), Option.bind_some, if_pos rfl, if_pos iO_73, Option.bind_some]
  · have hk : k < 36 := by omega
    have hkn := nI_clamp (n := k) (by omega)
    by_cases hw : w = 0 ∨ w = 1 ∨ w = 2 ∨ w = 3 ∨ w = 4 ∨ w = 5
    · left
      have hin : ¬ f_X11_in w.toInt64 0 5 = 0 := by
        rw [in5]
        rcases hw with rfl | rfl | rfl | rfl | rfl | rfl <;> decide
      have fl : ∀ b : Bool, f_X11_flag (if b then 1 else 0) = (if b then 1 else 0) := fun b => by cases b <;> rfl
      have on : ∀ b : Bool, f_X10_oneIf (if b then 1 else 0) = (if b then 1 else 0) := fun b => by cases b <;> rfl
      have cs : f_X10_holds (gL h 46 8) (nI k) = xS X (36 + k) := by rw [holds_k _ hk, hS.2.1 k hk]
      have cB : ∀ r, (if w = 0 then (f_X2_kindOf LF h p (nI k)).bind fun r10 => some r10 else if w = 1 then some (f_X10_oneIf (f_X10_holds (gL h 46 8) (nI k))) else if w = 2 then (f_X6_dustAt LF h 46 (nI k)).bind fun r18 => some r18 else if w = 3 then (if nI k = gI h p 3 then some (f_X10_oneIf 1) else some (f_X10_oneIf 0)) else if w = 4 then (if nI k = gI h 46 1 then some (f_X10_oneIf 1) else some (f_X10_oneIf 0)) else some (f_X10_oneIf (f_X10_holds ((gL h p 4) &&& ((gL h 46 8) ^^^ (-1))) (nI k)))) = some r → f_X10_spot LF h 0 (nI k) w = some r := fun r hr => by
        unfold f_X10_spot
        rw [if_pos iO_0, hp.2.1, Option.bind_some, if_pos (p_O hp), has_eq hp, x1, Option.bind_some, if_neg i10]
        rcases hw with rfl | rfl | rfl | rfl | rfl | rfl
        · rw [if_pos rfl] at hr ⊢
          rw [Option.bind_some, if_pos (p_O hp)]; exact hr
        · rw [if_neg (by decide), if_pos rfl] at hr ⊢
          rw [r_0_7 hc.1, Option.bind_some, if_pos iO_46]; exact hr
        · rw [if_neg (by decide), if_neg (by decide), if_pos rfl] at hr ⊢
          rw [r_0_7 hc.1, Option.bind_some, if_pos iO_46]; exact hr
        · rw [if_neg (by decide), if_neg (by decide), if_neg (by decide), if_pos rfl] at hr ⊢
          rw [Option.bind_some, if_pos (p_O hp)]; exact hr
        · rw [if_neg (by decide), if_neg (by decide), if_neg (by decide), if_neg (by decide), if_pos rfl] at hr ⊢
          rw [r_0_7 hc.1, Option.bind_some, if_pos iO_46]; exact hr
        · rw [if_neg (by decide), if_neg (by decide), if_neg (by decide), if_neg (by decide), if_neg (by decide)] at hr ⊢
          rw [if_pos rfl, free_C hc hp, Option.bind_some]; exact hr
      have mB : ∀ z, (if w = 0 then (gR (sI h 73 0 0) 73 6).bind fun b6 => if inA LF b6 0 (nI k) = true then some (sI h 73 0 0, gI (sI h 73 0 0) b6 (nI k).toNatClampNeg) else none else if w = 1 then (gR (sI h 73 0 0) 73 7).bind fun b9 => if inA LF b9 0 (36 + nI k) = true then some (sI h 73 0 0, gI (sI h 73 0 0) b9 (36 + nI k).toNatClampNeg) else none else if w = 2 then (gR (sI h 73 0 0) 73 7).bind fun b12 => if inA LF b12 0 (nI k) = true then some (sI h 73 0 0, gI (sI h 73 0 0) b12 (nI k).toNatClampNeg) else none else if w = 3 then (if (gI (sI h 73 0 0) 73 5) = nI k then some (sI h 73 0 0, f_X11_flag 1) else some (sI h 73 0 0, f_X11_flag 0)) else if w = 4 then (gR (sI h 73 0 0) 73 7).bind fun b15 => if inA LF b15 0 72 = true then (if (gI (sI h 73 0 0) b15 (72 : Int32).toNatClampNeg) = nI k then some (sI h 73 0 0, f_X11_flag 1) else some (sI h 73 0 0, f_X11_flag 0)) else none else (gR (sI h 73 0 0) 73 7).bind fun b18 => (f_X11_isFree LF (sI h 73 0 0) 73 b18 (nI k)).bind fun r20 => some (sI h 73 0 0, f_X11_flag r20)) = z → f_X11_spot LF h 73 (nI k) w = z := fun z hz => by
        unfold f_X11_spot
        rw [if_pos iO_73, isSpot_eq m1 x2 (Or.inr rfl), Option.bind_some, if_neg i10, if_neg hin]; exact hz
      rcases hw with rfl | rfl | rfl | rfl | rfl | rfl
      · have hrp : gR h p 0 = some (p + 1) := by
          rcases hp.1 with e | e
          · subst e; exact r_63_0 hc.1
          · subst e; exact r_65_0 hc.1
        have hip : ∀ i, inA LF (p + 1) 0 i = (!(decide (i < 0)) && decide (i.toNatClampNeg < 36)) := fun i => by
          rcases hp.1 with e | e
          · subst e; exact iA_64 i
          · subst e; exact iA_66 i
        refine ⟨nI (kF (xF X) k), cB _ ?_, mB _ ?_⟩
        · unfold f_X2_kindOf
          rw [if_pos rfl, if_neg (nI_pos (by omega)), if_neg (show ¬ (36 : Int32) ≤ nI k from nI_ge (b := 36) hk (by decide)), if_pos (p_O hp), hrp, Option.bind_some, hip, if_pos (in_nI hk (by decide)), hkn, Option.bind_some, hp.2.2.2.2.2.2.2.2.2.2 k k1]
        · rw [if_pos rfl, r_73_6 hR0, Option.bind_some, iA_75, if_pos (in_nI hk (by decide)), hkn, m1.2.2.2 k hk]
      · refine ⟨xS X (36 + k), cB _ ?_, mB _ ?_⟩
        · rw [if_neg (by decide), if_pos rfl, holds_k _ hk, on, hS.2.1 k hk]
        · rw [if_neg (by decide), if_pos rfl, r_73_7 hR0, Option.bind_some, show (36 : Int32) + nI k = nI (36 + k) from nI_add 36 k, iA_76, if_pos (in_nI (by omega) (by decide)), nI_clamp (by omega), MS_0 m5 (by omega)]
      · refine ⟨xS X k, cB _ ?_, mB _ ?_⟩
        · rw [if_neg (by decide), if_neg (by decide), if_pos rfl, dustAt_k hc.1 (by decide) hk, Option.bind_some, hS.1 k hk]
        · rw [if_neg (by decide), if_neg (by decide), if_pos rfl, r_73_7 hR0, Option.bind_some, iA_76, if_pos (in_nI (by omega) (by decide)), hkn, MS_0 m5 (by omega)]
      · refine ⟨if nI k = plI (xF X) then 1 else 0, cB _ ?_, mB _ ?_⟩
        · rw [if_neg (by decide), if_neg (by decide), if_neg (by decide), if_pos rfl, hp.2.2.2.2.2.1]; split <;> rfl
        · rw [if_neg (by decide), if_neg (by decide), if_neg (by decide), if_pos rfl, m1.2.2.1]
          by_cases q : nI k = plI (xF X)
          · rw [if_pos q, if_pos q.symm]; rfl
          · rw [if_neg q, if_neg (fun e => q e.symm)]; rfl
      · refine ⟨if nI k = xS X 72 then 1 else 0, cB _ ?_, mB _ ?_⟩
        · rw [if_neg (by decide), if_neg (by decide), if_neg (by decide), if_neg (by decide), if_pos rfl, e46 hc]; split <;> rfl
        · rw [if_neg (by decide), if_neg (by decide), if_neg (by decide), if_neg (by decide), if_pos rfl, r_73_7 hR0, Option.bind_some, if_pos i72, c72, MS_0 m5 (by omega)]
          by_cases q : nI k = xS X 72
          · rw [if_pos q, if_pos q.symm]; rfl
          · rw [if_neg q, if_neg (fun e => q e.symm)]; rfl
      · refine ⟨if frA (xF X) (xS X) k then 1 else 0, cB _ ?_, mB _ ?_⟩
        · rw [if_neg (by decide), if_neg (by decide), if_neg (by decide), if_neg (by decide), if_neg (by decide), holds_k _ hk, frX hc ho hp, on]
        · rw [if_neg (by decide), if_neg (by decide), if_neg (by decide), if_neg (by decide), if_neg (by decide), r_73_7 hR0, Option.bind_some, isFree_k ho.1 hR0 (Or.inl rfl) m1 m5 hk, Option.bind_some, fl]
    · refine Or.inr ⟨⟨p, hp.2.1, p_O hp, Or.inr ⟨by rw [has_eq hp, x1], fun e => hw (by simp [e]), fun e => hw (by simp [e]), fun e => hw (by simp [e]), fun e => hw (by simp [e]), fun e => hw (by simp [e]), fun e => hw (by simp [e])⟩⟩, ?_⟩
      have hin : f_X11_in w.toInt64 0 5 = 0 := by
        rw [in5]
        rcases pos_le w 5 (by decide) with q | ⟨q1, q2, q3⟩ | ⟨j, j1, rfl⟩
        · rw [if_pos q]
        · rw [if_neg q1, if_pos (show (5 : Int32) < w from q3)]
        · exfalso
          have : j = 0 ∨ j = 1 ∨ j = 2 ∨ j = 3 ∨ j = 4 ∨ j = 5 := by omega
          rcases this with rfl | rfl | rfl | rfl | rfl | rfl
          · exact hw (Or.inl rfl)
          · exact hw (Or.inr (Or.inl rfl))
          · exact hw (Or.inr (Or.inr (Or.inl rfl)))
          · exact hw (Or.inr (Or.inr (Or.inr (Or.inl rfl))))
          · exact hw (Or.inr (Or.inr (Or.inr (Or.inr (Or.inl rfl)))))
          · exact hw (Or.inr (Or.inr (Or.inr (Or.inr (Or.inr rfl)))))
      unfold f_X11_spot f_X11_refuse
      rw [if_pos iO_73, isSpot_eq m1 x2 (Or.inr rfl), Option.bind_some, if_neg i10, if_pos hin, if_pos iO_73, Option.bind_some]
theorem machine_R {B : Nat} {h : eH} {X : AX} (hc : CI h X) (hm : MI h X) (ho : okX B X) (hB : B < 2 ^ 31) (v : Int32) : (∃ h1 h2 r, f_X10_machine LF h 0 v = some (h1, r) ∧ only csc h h1 ∧ f_X11_machine LF h1 73 v = some (h2, r) ∧ gI h2 73 0 = 0 ∧ only msc h1 h2) ∨ ((v ≠ 0 ∧ v ≠ 1 ∧ v ≠ 2 ∧ v ≠ 3 ∧ v ≠ 4 ∧ v ≠ 5 ∧ v ≠ 6 ∧ v ≠ 7) ∧ f_X11_machine LF h 73 v = some (sI (sI h 73 0 0) 73 0 1, 0)) := by
  obtain ⟨p, hp⟩ := hc.2.1
  obtain ⟨q, hq⟩ := hc.2.2.1
  have hS := hc.2.2.2.2.1
  have in7 : f_X11_in v.toInt64 0 7 = if v < 0 then 0 else if (7 : Int32) < v then 0 else 1 := in_00 v 7
  obtain ⟨i1, i2, -⟩ := iM (a := 76) (Or.inl rfl)
  have z0 : ∀ g : eH, gI (sI g 73 0 0) 73 0 = 0 := fun g => by rw [gI_sI, if_pos ⟨rfl, rfl⟩]
  rcases pos_le v 7 (by decide) with hv | ⟨hv1, hv2, hv3⟩ | ⟨j, j7, rfl⟩
  · right
    refine ⟨⟨?_, ?_, ?_, ?_, ?_, ?_, ?_, ?_⟩, ?_⟩
    any_goals (rintro rfl; exact absurd hv (by decide))
    unfold f_X11_machine f_X11_refuse
    rw [if_pos iO_73, in7, if_pos hv, if_pos rfl, if_pos iO_73, Option.bind_some]
  · right
    refine ⟨⟨?_, ?_, ?_, ?_, ?_, ?_, ?_, ?_⟩, ?_⟩
    any_goals (rintro rfl; exact absurd hv3 (by decide))
    unfold f_X11_machine f_X11_refuse
    rw [if_pos iO_73, in7, if_neg hv1, if_pos (show (7 : Int32) < v from hv3), if_pos rfl, if_pos iO_73, Option.bind_some]
  · left
    have hin : ¬ f_X11_in (nI j).toInt64 0 7 = 0 := by rw [in7, if_neg (nI_pos (by omega)), if_neg (show ¬ (7 : Int32) < nI j from nI_nlt (a := 7) (by omega) (by decide))]; exact i10
    by_cases hj : j < 6
    · have hC : f_X10_machine LF h 0 (nI j) = some (h, xS X (72 + j)) := by
        have e := hS.2.2.1 (1 + j) (by omega) (by omega)
        have : j = 0 ∨ j = 1 ∨ j = 2 ∨ j = 3 ∨ j = 4 ∨ j = 5 := by omega
        unfold f_X10_machine
        rcases this with rfl | rfl | rfl | rfl | rfl | rfl
        · rw [if_pos (show nI 0 = 0 from rfl), if_pos iO_0, r_0_7 hc.1, Option.bind_some, if_pos iO_46, e]
        · rw [if_neg (by decide), if_pos (show nI 1 = 1 from rfl), if_pos iO_0, r_0_7 hc.1, Option.bind_some, if_pos iO_46, e]
        · rw [if_neg (by decide), if_neg (by decide), if_pos (show nI 2 = 2 from rfl), if_pos iO_0, r_0_7 hc.1, Option.bind_some, if_pos iO_46, e]
        · rw [if_neg (by decide), if_neg (by decide), if_neg (by decide), if_pos (show nI 3 = 3 from rfl), if_pos iO_0, r_0_7 hc.1, Option.bind_some, if_pos iO_46, e]
        · rw [if_neg (by decide), if_neg (by decide), if_neg (by decide), if_neg (by decide), if_pos (show nI 4 = 4 from rfl), if_pos iO_0, r_0_7 hc.1, Option.bind_some, if_pos iO_46, e]
        · rw [if_neg (by decide), if_neg (by decide), if_neg (by decide), if_neg (by decide), if_neg (by decide), if_pos (show nI 5 = 5 from rfl), if_pos iO_0, r_0_7 hc.1, Option.bind_some, if_pos iO_46, e]
      refine ⟨h, sI h 73 0 0, xS X (72 + j), hC, only_rfl, ?_, z0 h, thr_M⟩
      have m5 := (MI_scr thr_M hm).2.2.2.2.1
      unfold f_X11_machine
      rw [if_pos iO_73, if_neg hin, if_neg (show ¬ (6 : Int32) ≤ nI j from nI_ge (b := 6) hj (by decide)), r_73_7 (refs_sI hc.1), Option.bind_some, show (72 : Int32) + nI j = nI (72 + j) from nI_add 72 j, iA_76, if_pos (in_nI (by omega) (by decide)), nI_clamp (by omega), MS_0 m5 (by omega)]
    · by_cases h6 : j = 6
      · subst h6
        obtain ⟨g, x1, x2⟩ := turn_C ho.1 ho.2.1 (show (46 : Nat) ∈ stL by decide) ho.2.2.2.1 hB hc.1 hq hp hS
        have og : only csc h g := only_mono (fun j k a => by unfold csc; have := hq.1; omega) x2
        have hmg : MI g X := MI_cls (only_mono (fun _ _ => csc_cls) og) hm
        have hRg := only_refs og hc.1
        have h9' := MI_scr thr_M hmg
        obtain ⟨g2, y1, y2⟩ := turn_M (ft := -1) ho.1 ho.2.1 (Or.inl rfl) ho.2.2.2.1 (refs_sI hRg) h9'.2.1 h9'.1 h9'.2.2.2.2.1 h9'.2.2.1
        have etn : tnA (xF X) (xR X).1 (xR X).2 (-1) (xS X) = rvA (xR X).1 (xR X).2 (askA (xF X) (xS X)) := by unfold tnA; rw [if_pos (by decide)]
        rw [etn] at y1
        refine ⟨g, g2, rvA (xR X).1 (xR X).2 (askA (xF X) (xS X)), ?_, og, ?_, (o_I y2 (by omega)).trans (z0 g), only_trans thr_M (only_mono (fun j k a => by unfold msc; omega) y2)⟩
        · unfold f_X10_machine
          rw [if_neg (by decide), if_neg (by decide), if_neg (by decide), if_neg (by decide), if_neg (by decide), if_neg (by decide), if_pos (show nI 6 = 6 from rfl), if_pos iO_0, hq.2.1, Option.bind_some, r_0_7 hc.1, Option.bind_some, hp.2.1, Option.bind_some, if_pos (q_O hq.1), x1, Option.bind_some]
        · unfold f_X11_machine
          rw [if_pos iO_73, if_neg hin, if_pos (by decide), if_pos (show nI 6 = 6 from rfl), r_73_7 (refs_sI hRg), Option.bind_some, y1, Option.bind_some]
      · have h7 : j = 7 := by omega
        subst h7
        obtain ⟨⟨sp, a1, a2, a3, a4⟩, ⟨hd, b1, b2⟩, -⟩ := id ho.2.2.2.1
        have hsp := kF_lt a2
        have h9' := MI_scr thr_M hm
        refine ⟨h, sI h 73 0 0, nb (xF X) sp hd, ?_, only_rfl, ?_, z0 h, thr_M⟩
        · unfold f_X10_machine
          rw [if_neg (by decide), if_neg (by decide), if_neg (by decide), if_neg (by decide), if_neg (by decide), if_neg (by decide), if_neg (by decide), if_pos (show nI 7 = 7 from rfl), if_pos iO_0, hp.2.1, Option.bind_some, r_0_7 hc.1, Option.bind_some, if_pos iO_46, Option.bind_some, if_pos iO_46, if_pos (p_O hp), e46 hc, a4, (hS.2.2.1 2 (by omega) (by omega)).trans b2, ahead_nb ho.1 hp hsp b1, Option.bind_some]
        · unfold f_X11_machine
          rw [if_pos iO_73, if_neg hin, if_pos (by decide), if_neg (by decide), r_73_7 (refs_sI hc.1), Option.bind_some, if_pos i1, Option.bind_some, if_pos i2, c72, c73, MS_0 h9'.2.2.2.2.1 (by omega), MS_0 h9'.2.2.2.2.1 (by omega), a4, b2, beside_nb ho.1 h9'.1, Option.bind_some]
theorem row_R {B : Nat} {h : eH} {X : AX} (hc : CI h X) (hm : MI h X) (ho : okX B X) (v : Int32) : (∃ r, f_X10_row LF h 0 v = some r ∧ f_X11_row LF h 73 v = some (sI h 73 0 0, r)) ∨ ((v < 0 ∨ (¬ v < 0 ∧ ¬ v < gI h 3 1)) ∧ f_X11_row LF h 73 v = some (sI (sI h 73 0 0) 73 0 1, 0)) := by
  have c9 := hc.2.2.2.2.2.2.2.2
  have m9 := (MI_scr thr_M hm).2.2.2.2.2.2.2.2
  have hR0 : RefsOK (sI h 73 0 0) := refs_sI hc.1
  have hl : (xW X).length ≤ 37 := ho.2.2.2.2.2.2.2
  have e0 : (0 : Int32).toInt = 0 := by decide
  have e1 : (1 : Int32).toInt = 1 := by decide
  have hin : f_X11_in v.toInt64 0 ((nI (xW X).length - 1).toInt64) = if v < 0 then 0 else if (nI (xW X).length - 1) < v then 0 else 1 := in_00 v _
  have et : (nI (xW X).length - 1).toInt = ((xW X).length : Int) - 1 := by
    have := pk_sub_toInt (a := (xW X).length) (b := 1) (by omega) (by omega)
    exact this
  by_cases h1 : v < 0
  · refine Or.inr ⟨Or.inl h1, ?_⟩
    unfold f_X11_row
    rw [if_pos iO_73, m9.1, hin, if_pos h1, if_pos rfl]
  · by_cases h2 : v < nI (xW X).length
    · obtain ⟨j, j1, rfl⟩ : ∃ j, j < (xW X).length ∧ v = nI j := by
        obtain ⟨j, j1, j2⟩ := nI_of h1
        subst j2
        exact ⟨j, (nI_ltI j1 (by omega)).mp h2, rfl⟩
      left
      have hin1 : ¬ f_X11_in (nI j).toInt64 0 ((nI (xW X).length - 1).toInt64) = 0 := by
        rw [hin, if_neg h1, if_neg (by rw [fa_lt, et, nI_toInt (by omega)]; omega)]; exact i10
      refine ⟨(xW X).getD j 0, ?_, ?_⟩
      · unfold f_X10_row f_X3_size f_X3_at
        rw [if_neg h1, if_pos iO_0, r_0_1 hc.1, Option.bind_some, if_pos iO_3, if_pos iO_3, Option.bind_some, c9.1, if_pos h2, Option.bind_some, if_pos iO_3, if_neg h1, if_pos iO_3, c9.1, if_neg (nI_ge j1 (by omega)), if_neg (show ¬ (37 : Int32) ≤ nI j from nI_ge (b := 37) (by omega) (by decide)), r_3_0 hc.1, Option.bind_some, iA_4, if_pos (in_nI (by omega) (by decide)), nI_clamp (by omega), Option.bind_some, c9.2 j j1]
      · unfold f_X11_row
        rw [if_pos iO_73, m9.1, if_neg hin1, r_73_2 hR0, Option.bind_some, iA_74, if_pos (in_nI (by omega) (by decide)), nI_clamp (by omega), m9.2 j j1]
    · refine Or.inr ⟨Or.inr ⟨h1, by rw [c9.1]; exact h2⟩, ?_⟩
      unfold f_X11_row
      rw [if_pos iO_73, m9.1, hin, if_neg h1, if_pos (show nI (xW X).length - 1 < v by rw [fa_lt, et]; rw [fa_lt, nI_toInt (by omega)] at h2; omega), if_pos rfl]

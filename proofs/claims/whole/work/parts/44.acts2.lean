/-! days, chair, load as calls. -/
theorem setS_S (X : AX) : setS X (xS X) = X := rfl
/-- an act that may be undone: the state alone changes -/
theorem PR_act {B : Nat} {h : eH} {X : AX} {fC fM : eH → Option (eH × Int32)} {w : Int32 × (Nat → Int32)} (hc : CI h X) (hm : MI h X) (ho : okX B X) (hC : ∀ g, CI g X → ∃ h', fC g = some (h', w.1) ∧ CS h' 46 w.2 ∧ only acS g h') (hM : ∀ g, RefsOK g → MI g X → ∃ h', fM g = some (h', w.1) ∧ MS h' 76 0 w.2 ∧ only amS g h') (hok : okA (xF X) (B + 300) w.2) : PR B ((f_X6_copyFrom LF h 48 46).bind fun r7 => (fC r7).bind fun r9 => (f_X10_remembered LF r9.1 0 r9.2).bind fun r11 => some (r11.1, r11.2)) (fun h1 => (f_X11_putsBy LF (sI h1 73 0 0) 73).bind fun r2 => (fM r2).bind fun r4 => (f_X11_counts LF r4.1 73 r4.2).bind fun r6 => some (r6.1, r6.2)) := by
  obtain ⟨hA, y1, y2, y3, y4⟩ := before_C hc
  obtain ⟨hD, x1, x2, x3⟩ := hC hA y2
  have oC : only cls h hD := only_trans (only_mono (fun _ _ => csc_cls) y4) (only_mono (fun j k a => by unfold acS at a; unfold cls; omega) x3)
  have hmM : ∀ h1, RefsOK h1 → MI h1 X → ∃ hE hG, f_X11_putsBy LF (sI h1 73 0 0) 73 = some hE ∧ fM hE = some (hG, w.1) ∧ MI hG (setS X w.2) ∧ MS hG 84 (79 * (xU X).1) (xS X) ∧ RefsOK hG ∧ only mdl h1 hG := fun h1 hR h9 => by
    have hR0 : RefsOK (sI h1 73 0 0) := refs_sI hR
    obtain ⟨hE, u1, u2, u3, u4⟩ := putsBy_M hR0 (MI_scr thr_M h9) ho.2.2.2.2.1.1
    obtain ⟨hG, v1, v2, v3⟩ := hM hE (only_refs u4 hR0) u2
    exact ⟨hE, hG, u1, v1, MI_st v3 v2 u2, MS_only v3 (fun k => by unfold amS; omega) u3, only_refs v3 (only_refs u4 hR0), only_trans (only_mono (fun _ _ => msc_mdl) thr_M) (only_trans (only_mono (fun j k a => by unfold mdl; omega) u4) (only_mono (fun j k a => by unfold amS at a; unfold mdl; omega) v3))⟩
  by_cases hw : w.1 < 0
  · refine PR_mk hm (X' := setS X w.2) (r := w.1) ⟨hD, ?_, CI_st x3 x2 y2, oC⟩ (fun h1 hR h9 => ?_) ?_
    · rw [y1, Option.bind_some, x1, Option.bind_some, remem_no hw, Option.bind_some]
    · obtain ⟨hE, hG, g1, g2, g3, g4, g5, g6⟩ := hmM h1 hR h9
      refine ⟨hG, ?_, g3, g6⟩
      show ((f_X11_putsBy LF (sI h1 73 0 0) 73).bind fun r2 => (fM r2).bind fun r4 => (f_X11_counts LF r4.1 73 r4.2).bind fun r6 => some (r6.1, r6.2)) = _
      rw [g1, Option.bind_some, g2, Option.bind_some]
      unfold f_X11_counts
      rw [if_neg (show ¬ (0 : Int32) ≤ w.1 by rw [fa_le]; rw [fa_lt] at hw; omega), Option.bind_some]
    · obtain ⟨o1, o2, o3, o4, o5, o6, o7, o8⟩ := okX_mono (show B ≤ B + 300 by omega) ho
      exact ⟨o1, o2, o3, hok, o5, o6, o7, o8⟩
  · refine PR_mk hm (X' := setU (setS X w.2) (pushU (xU X) (xS X))) (r := w.1) ?_ (fun h1 hR h9 => ?_) ?_
    · obtain ⟨hZ, z1, z2, z3⟩ := remem_C (CI_st x3 x2 y2) ho.2.2.2.2.1.1 (CS_only x3 (fun k => by unfold acS; omega) y3) (v := w.1) hw
      refine ⟨hZ, ?_, z2, only_trans oC z3⟩
      rw [y1, Option.bind_some, x1, Option.bind_some, z1, Option.bind_some]
    · obtain ⟨hE, hG, g1, g2, g3, g4, g5, g6⟩ := hmM h1 hR h9
      obtain ⟨hZ, z1, z2, z3⟩ := adds_M g5 g3 ho.2.2.2.2.1.1 g4 w.1
      refine ⟨hZ, ?_, z2, only_trans g6 z3⟩
      show ((f_X11_putsBy LF (sI h1 73 0 0) 73).bind fun r2 => (fM r2).bind fun r4 => (f_X11_counts LF r4.1 73 r4.2).bind fun r6 => some (r6.1, r6.2)) = _
      rw [g1, Option.bind_some, g2, Option.bind_some]
      unfold f_X11_counts
      rw [if_pos (show (0 : Int32) ≤ w.1 by rw [fa_le]; rw [fa_lt] at hw; omega), if_pos iO_73, z1, Option.bind_some, Option.bind_some]
    · exact okX_push (l := xW X) (okX_mono (by omega) ho) (okA_mono (by omega) ho.2.2.2.1) hok ho.2.2.2.2.2.2.2
/-! days -/
def dayN (F : FV) (S : Nat → Int32) : Nat → (Nat → Int32)
  | 0 => S
  | n + 1 => dayA F (dayN F S n)
theorem okA_dayN {F : FV} {B : Nat} {S : Nat → Int32} (hF : okF F) (ho : okA F B S) : ∀ n, okA F B (dayN F S n)
  | 0 => ho
  | n + 1 => okA_day hF (okA_dayN hF ho n)
def acD (F : FV) (S : Nat → Int32) (v : Int32) : Int32 × (Nat → Int32) := if v < 1 then (-1, S) else if v ≤ 30 then (smI (dayN F S v.toNatClampNeg) 36, dayN F S v.toNatClampNeg) else (-1, S)
theorem okA_acD {F : FV} {B : Nat} {S : Nat → Int32} (hF : okF F) (ho : okA F B S) (v : Int32) : okA F B (acD F S v).2 := by
  unfold acD
  split
  · exact ho
  · split
    · exact okA_dayN hF ho _
    · exact ho
theorem in_lo (v b : Int32) : f_X11_in v.toInt64 1 b.toInt64 = if v < 1 then 0 else if b < v then 0 else 1 := in_spec v 1 b
theorem low1 {v : Int32} {n : Nat} (hn : n < 2 ^ 31) (h1 : ¬ v < 1) (h2 : v ≤ nI n) : ∃ j, 1 ≤ j ∧ j ≤ n ∧ v = nI j := by
  have e1 : (1 : Int32).toInt = 1 := by decide
  have e0 : (0 : Int32).toInt = 0 := by decide
  obtain ⟨j, j1, j2⟩ := nI_of2 (M := nI n) (nI_toInt hn) (x := v) (by rw [fa_lt] at h1 ⊢; omega) h2
  refine ⟨j, ?_, j1, j2⟩
  rw [j2, fa_lt, nI_toInt (by omega)] at h1
  omega
theorem passDays_C {g : eH} {X : AX} {B : Nat} (hc : CI g X) (ho : okX B X) (v : Int32) : ∃ h', f_X10_passDays LF g 0 v = some (h', (acD (xF X) (xS X) v).1) ∧ CS h' 46 (acD (xF X) (xS X) v).2 ∧ only acS g h' := by
  unfold f_X10_passDays acD
  by_cases h1 : v < 1
  · rw [if_pos h1, if_pos h1]; exact ⟨g, rfl, hc.2.2.2.2.1, only_rfl⟩
  · rw [if_neg h1, if_neg h1]
    by_cases h2 : v ≤ 30
    · rw [if_pos h2, if_pos h2]
      obtain ⟨n, n1, n2, rfl⟩ := low1 (n := 30) (by decide) h1 h2
      rw [nI_clamp (by omega)]
      obtain ⟨p, hp⟩ := hc.2.1
      refine lpF (N := n) (s := g) (run := fun fu (q : eH) i => f_X10_passDays_L15 LF fu (fun (h9 : eH) (w0_10 : Nat) => if isO LF w0_10 10 = true then (gR h9 w0_10 7).bind fun b12 => if isO LF b12 6 = true then (f_X6_dustOfAll LF h9 b12).bind fun r15 => some (h9, r15) else none else none) q 0 (nI n) (nI i)) (Inv := fun i q => CS q 46 (dayN (xF X) (xS X) i) ∧ only acS g q) (Post := fun r => ∃ h', r = some (h', smI (dayN (xF X) (xS X) n) 36) ∧ CS h' 46 (dayN (xF X) (xS X) n) ∧ only acS g h') (by omega) ⟨hc.2.2.2.2.1, only_rfl⟩ ?_ ?_
      · rintro fu q ⟨q1, q2⟩
        have hRq := only_refs q2 hc.1
        refine ⟨q, ?_, q1, q2⟩
        show f_X10_passDays_L15 LF (fu + 1) _ q 0 (nI n) (nI n) = _
        unfold f_X10_passDays_L15
        rw [if_pos (nI_le (Nat.le_refl _) (by omega))]
        show (if isO LF 0 10 = true then (gR q 0 7).bind fun b12 => if isO LF b12 6 = true then (f_X6_dustOfAll LF q b12).bind fun r15 => some (q, r15) else none else none) = _
        rw [if_pos iO_0, r_0_7 hRq, Option.bind_some, if_pos iO_46, dustAll_C hRq (by decide) q1, Option.bind_some]
      · rintro i fu q hi ⟨q1, q2⟩
        have hRq := only_refs q2 hc.1
        have hpq := CF_only q2 (fun j k a b => by unfold acS; omega) hp
        obtain ⟨h', x1, x2, x3⟩ := dayFalls_C ho.1 hRq (show (46 : Nat) ∈ stL by decide) hpq q1 (okA_dayN ho.1 ho.2.2.2.1 i)
        refine Or.inr ⟨h', ⟨x2, only_trans q2 (only_mono (fun j k a => by unfold acS; omega) x3)⟩, fun w hw => ?_⟩
        show f_X10_passDays_L15 LF (fu + 1) _ q 0 (nI n) (nI i) = w
        unfold f_X10_passDays_L15
        rw [if_neg (nI_ge hi (by omega)), if_pos iO_0, r_0_7 hRq, Option.bind_some, hpq.2.1, Option.bind_some, if_pos iO_46, x1, Option.bind_some, nI_p1]
        exact hw
    · rw [if_neg h2, if_neg h2]; exact ⟨g, rfl, hc.2.2.2.2.1, only_rfl⟩
theorem daysGo_M {g : eH} {X : AX} {B : Nat} (hR : RefsOK g) (hm : MI g X) (ho : okX B X) (v : Int32) : ∃ h', f_X11_daysGo LF g 73 v = some (h', (acD (xF X) (xS X) v).1) ∧ MS h' 76 0 (acD (xF X) (xS X) v).2 ∧ only amS g h' := by
  have hin : f_X11_in v.toInt64 1 30 = if v < 1 then 0 else if (30 : Int32) < v then 0 else 1 := in_lo v 30
  unfold f_X11_daysGo acD
  rw [hin]
  by_cases h1 : v < 1
  · rw [if_pos h1, if_pos h1, if_pos rfl]; exact ⟨g, rfl, hm.2.2.2.2.1, only_rfl⟩
  · rw [if_neg h1, if_neg h1]
    by_cases h2 : v ≤ 30
    · rw [if_pos h2, if_neg (show ¬ (30 : Int32) < v by rw [fa_le] at h2; rw [fa_lt]; omega), if_neg i10]
      obtain ⟨n, n1, n2, rfl⟩ := low1 (n := 30) (by decide) h1 h2
      rw [nI_clamp (by omega)]
      refine lpF (N := n) (s := g) (run := fun fu (q : eH) i => f_X11_daysGo_L16 LF fu (fun (h6 : eH) (w0_7 : Nat) => if isO LF w0_7 11 = true then (gR h6 w0_7 7).bind fun b9 => (f_X11_dustAll LF h6 w0_7 b9).bind fun r11 => some (h6, r11) else none) q 73 (nI n) (nI i)) (Inv := fun i q => MS q 76 0 (dayN (xF X) (xS X) i) ∧ only amS g q) (Post := fun r => ∃ h', r = some (h', smI (dayN (xF X) (xS X) n) 36) ∧ MS h' 76 0 (dayN (xF X) (xS X) n) ∧ only amS g h') (by omega) ⟨hm.2.2.2.2.1, only_rfl⟩ ?_ ?_
      · rintro fu q ⟨q1, q2⟩
        have hRq := only_refs q2 hR
        refine ⟨q, ?_, q1, q2⟩
        show f_X11_daysGo_L16 LF (fu + 1) _ q 73 (nI n) (nI n) = _
        unfold f_X11_daysGo_L16
        rw [if_pos (nI_le (Nat.le_refl _) (by omega))]
        show (if isO LF 73 11 = true then (gR q 73 7).bind fun b9 => (f_X11_dustAll LF q 73 b9).bind fun r11 => some (q, r11) else none) = _
        rw [if_pos iO_73, r_73_7 hRq, Option.bind_some, dustAll_M (Or.inl rfl) q1, Option.bind_some]
      · rintro i fu q hi ⟨q1, q2⟩
        have hRq := only_refs q2 hR
        have hmq := MF_only q2 (fun k _ => by unfold amS; omega) (fun k => by unfold amS; omega) hm.1
        obtain ⟨h', x1, x2, x3⟩ := dayGoes_M ho.1 hRq (Or.inl rfl) hmq q1 (okA_dayN ho.1 ho.2.2.2.1 i)
        refine Or.inr ⟨h', ⟨x2, only_trans q2 (only_mono (fun j k a => by unfold amS; omega) x3)⟩, fun w hw => ?_⟩
        show f_X11_daysGo_L16 LF (fu + 1) _ q 73 (nI n) (nI i) = w
        unfold f_X11_daysGo_L16
        rw [if_neg (nI_ge hi (by omega)), if_pos iO_73, r_73_7 hRq, Option.bind_some, x1, Option.bind_some, nI_p1]
        exact hw
    · rw [if_neg h2, if_pos (show (30 : Int32) < v by rw [fa_le] at h2; rw [fa_lt]; omega), if_pos rfl]; exact ⟨g, rfl, hm.2.2.2.2.1, only_rfl⟩
theorem days_P {B : Nat} {h : eH} {X : AX} (hc : CI h X) (hm : MI h X) (ho : okX B X) (v : Int32) : PR B (f_X10_days LF h 0 v) (fun h1 => f_X11_days LF h1 73 v) := by
  have e1 : f_X10_days LF h 0 v = ((f_X6_copyFrom LF h 48 46).bind fun r7 => (f_X10_passDays LF r7 0 v).bind fun r9 => (f_X10_remembered LF r9.1 0 r9.2).bind fun r11 => some (r11.1, r11.2)) := by
    unfold f_X10_days
    rw [if_pos iO_0, r_0_8 hc.1, Option.bind_some, r_0_7 hc.1, Option.bind_some, if_pos iO_48]
  have e2 : (fun h1 => f_X11_days LF h1 73 v) = fun h1 => (f_X11_putsBy LF (sI h1 73 0 0) 73).bind fun r2 => (f_X11_daysGo LF r2 73 v).bind fun r4 => (f_X11_counts LF r4.1 73 r4.2).bind fun r6 => some (r6.1, r6.2) := by
    funext h1
    unfold f_X11_days
    rw [if_pos iO_73]
  rw [e1, e2]
  exact PR_act (fC := fun g => f_X10_passDays LF g 0 v) (fM := fun g => f_X11_daysGo LF g 73 v) hc hm ho (fun g hg => passDays_C hg ho v) (fun g hR hg => daysGo_M hR hg ho v) (okA_mono (by omega) (okA_acD ho.1 ho.2.2.2.1 v))
/-! chair -/
def chA (S : Nat → Int32) (k : Nat) : Nat → Int32 := upd S (36 + k) (1 - S (36 + k))
def acH (F : FV) (S : Nat → Int32) (v : Int32) : Int32 × (Nat → Int32) := if hasP (nI F.1) (nI F.2.1) v = 0 then (-1, S) else if kF F v.toNatClampNeg = 0 then (-2, S) else if S 72 = v then (-2, S) else (smI (fun k => chA S v.toNatClampNeg (36 + k)) 36, chA S v.toNatClampNeg)
theorem CS_x {h : eH} {s k : Nat} {S : Nat → Int32} (hS : CS h s S) (hk : k < 36) : CS (sL h s 8 (gL h s 8 ^^^ f_X10_bit (nI k))) s (chA S k) := by
  obtain ⟨r1, r2, r3, r4⟩ := hS
  have e : ∀ q, tb (gL (sL h s 8 (gL h s 8 ^^^ f_X10_bit (nI k))) s 8) q = (tb (gL h s 8) q ^^ decide (q = k)) := fun q => by rw [gL_sL, if_pos ⟨rfl, rfl⟩, tb_xor, bit_tb hk]
  unfold chA
  refine ⟨fun q hq => ?_, fun q hq => ?_, fun q q1 q7 => ?_, fun q hq => ?_⟩
  · rw [u_n (by omega)]; exact r1 q hq
  · rw [e]
    by_cases hqk : q = k
    · subst hqk
      rw [pk_us, r2 q hq]
      cases tb (gL h s 8) q <;> simp
    · rw [u_n (by omega), r2 q hq]; simp [hqk]
  · rw [u_n (by omega)]; exact r3 q q1 q7
  · rw [e] at hq
    by_cases hqk : q = k
    · omega
    · simp [hqk] at hq; exact r4 q hq
theorem okA_ch {F : FV} {B k : Nat} {S : Nat → Int32} (ho : okA F B S) (hk : k < 36) (hz : kF F k ≠ 0) (hn : S 72 ≠ nI k) : okA F B (chA S k) := by
  obtain ⟨⟨sp, a1, a2, a3, a4⟩, ⟨hd, b1, b2⟩, ⟨cu, c1, c2⟩, ⟨bu, d1, d2⟩, e1, g1⟩ := ho
  have hsk : sp ≠ k := fun e => hn (by rw [a4, e])
  unfold chA
  refine ⟨⟨sp, a1, a2, ?_, ?_⟩, ⟨hd, b1, ?_⟩, ⟨cu, c1, ?_⟩, ⟨bu, d1, ?_⟩, fun q hq => ?_, fun q hq => ?_⟩
  · rw [u_n (by omega)]; exact a3
  · rw [u_n (by omega)]; exact a4
  · rw [u_n (by omega)]; exact b2
  · rw [u_n (by omega)]; exact c2
  · rw [u_n (by omega)]; exact d2
  · rw [u_n (by omega)]; exact e1 q hq
  · by_cases hqk : q = k
    · subst hqk
      rw [pk_us]
      rcases g1 q hq with g | g
      · rw [g]; exact Or.inr ⟨by decide, hz⟩
      · rw [g.1]; exact Or.inl (by decide)
    · rw [u_n (by omega)]; exact g1 q hq
theorem okA_acH {F : FV} {B : Nat} {S : Nat → Int32} (hF : okF F) (ho : okA F B S) (v : Int32) : okA F B (acH F S v).2 := by
  unfold acH
  rcases spot_cases hF v with ⟨x1, x2⟩ | ⟨k, k1, rfl, x1, x2⟩
  · rw [if_pos x1]; exact ho
  · have h36 := nF_le hF
    rw [x1, if_neg i10, nI_clamp (by omega)]
    split
    · exact ho
    · split
      · exact ho
      · exact okA_ch ho (by omega) (by assumption) (by assumption)
theorem moveChair_C {g : eH} {X : AX} {B : Nat} (hc : CI g X) (ho : okX B X) (v : Int32) : ∃ h', f_X10_moveChair LF g 0 v = some (h', (acH (xF X) (xS X) v).1) ∧ CS h' 46 (acH (xF X) (xS X) v).2 ∧ only acS g h' := by
  obtain ⟨p, hp⟩ := hc.2.1
  have hS := hc.2.2.2.2.1
  unfold f_X10_moveChair acH
  rw [if_pos iO_0, hp.2.1, Option.bind_some, if_pos (p_O hp), has_eq hp, Option.bind_some]
  rcases spot_cases ho.1 v with ⟨x1, x2⟩ | ⟨k, k1, rfl, x1, x2⟩
  · rw [if_pos x1, if_pos x1]; exact ⟨g, rfl, hS, only_rfl⟩
  · have h36 := nF_le ho.1
    have hk : k < 36 := by omega
    rw [x1, if_neg i10, if_neg i10, Option.bind_some, if_pos (p_O hp), holds_k _ hk, hp.2.2.2.2.2.2.1, nI_clamp (by omega)]
    by_cases hz : kF (xF X) k = 0
    · rw [if_pos hz, if_pos (by simp [hz])]; exact ⟨g, rfl, hS, only_rfl⟩
    · have e1 : gI g 46 1 = xS X 72 := hS.2.2.1 1 (by omega) (by omega)
      rw [if_neg hz, if_neg (by simp [hz]), r_0_7 hc.1, Option.bind_some, if_pos iO_46, e1]
      by_cases hn : xS X 72 = nI k
      · rw [if_pos hn, if_pos hn.symm]; exact ⟨g, rfl, hS, only_rfl⟩
      · have s1 := CS_x hS hk
        rw [if_neg hn, if_neg (fun q => hn q.symm), Option.bind_some, if_pos iO_46, gR_sL, r_0_7 hc.1, Option.bind_some, if_pos iO_46]
        refine ⟨_, ?_, s1, only_sL (Or.inl rfl)⟩
        rw [chairs_C s1]
  
theorem chairsAt_M {g : eH} {X : AX} {B : Nat} (hR : RefsOK g) (hm : MI g X) (ho : okX B X) (v : Int32) : ∃ h', f_X11_chairsAt LF g 73 v = some (h', (acH (xF X) (xS X) v).1) ∧ MS h' 76 0 (acH (xF X) (xS X) v).2 ∧ only amS g h' := by
  have hS := hm.2.2.2.2.1
  unfold f_X11_chairsAt acH
  rw [if_pos iO_73]
  rcases spot_cases ho.1 v with ⟨x1, x2⟩ | ⟨k, k1, rfl, x1, x2⟩
  · rw [isSpot_eq hm.1 x2 (Or.inl rfl), Option.bind_some, if_pos x1, if_pos rfl]; exact ⟨g, rfl, hS, only_rfl⟩
  · have h36 := nF_le ho.1
    have hk : k < 36 := by omega
    have hkf := kF_le ho.1 k
    obtain ⟨i1, i2, -⟩ := iM (a := 76) (Or.inl rfl)
    rw [isSpot_eq hm.1 x2 (Or.inr rfl), Option.bind_some, x1, if_neg i10, if_neg i10, r_73_6 hR, Option.bind_some, iA_75, if_pos (in_nI hk (by decide)), nI_clamp (by omega), hm.1.2.2.2 k hk]
    by_cases hz : kF (xF X) k = 0
    · rw [if_pos hz, if_pos (by rw [hz]; rfl)]; exact ⟨g, rfl, hS, only_rfl⟩
    · rw [if_neg hz, if_neg (nI_ne0 (by omega) (by omega)), r_73_7 hR, Option.bind_some, if_pos i1, c72, MS_0 hS (by omega)]
      by_cases hn : xS X 72 = nI k
      · rw [if_pos hn, if_pos hn]; exact ⟨g, rfl, hS, only_rfl⟩
      · have s1 : MS (sI g 76 (36 + k) (1 - xS X (36 + k))) 76 0 (chA (xS X) k) := MS_u _ hS
        have ek : (36 : Int32) + nI k = nI (36 + k) := nI_add 36 k
        rw [if_neg hn, if_neg hn, Option.bind_some, Option.bind_some, ek, inA36 (Or.inl rfl), if_pos (in_nI (by omega) (by decide)), if_pos (in_nI (by omega) (by decide)), nI_clamp (by omega), MS_0 hS (by omega), Option.bind_some, gR_sI, r_73_7 hR, Option.bind_some, chairs_M (Or.inl rfl) s1, Option.bind_some]
        exact ⟨_, rfl, s1, only_sI (Or.inl rfl)⟩
theorem chair_P {B : Nat} {h : eH} {X : AX} (hc : CI h X) (hm : MI h X) (ho : okX B X) (v : Int32) : PR B (f_X10_chair LF h 0 v) (fun h1 => f_X11_chair LF h1 73 v) := by
  have e1 : f_X10_chair LF h 0 v = ((f_X6_copyFrom LF h 48 46).bind fun r7 => (f_X10_moveChair LF r7 0 v).bind fun r9 => (f_X10_remembered LF r9.1 0 r9.2).bind fun r11 => some (r11.1, r11.2)) := by
    unfold f_X10_chair
    rw [if_pos iO_0, r_0_8 hc.1, Option.bind_some, r_0_7 hc.1, Option.bind_some, if_pos iO_48]
  have e2 : (fun h1 => f_X11_chair LF h1 73 v) = fun h1 => (f_X11_putsBy LF (sI h1 73 0 0) 73).bind fun r2 => (f_X11_chairsAt LF r2 73 v).bind fun r4 => (f_X11_counts LF r4.1 73 r4.2).bind fun r6 => some (r6.1, r6.2) := by
    funext h1
    unfold f_X11_chair
    rw [if_pos iO_73]
  rw [e1, e2]
  exact PR_act (fC := fun g => f_X10_moveChair LF g 0 v) (fM := fun g => f_X11_chairsAt LF g 73 v) hc hm ho (fun g hg => moveChair_C hg ho v) (fun g hR hg => chairsAt_M hR hg ho v) (okA_mono (by omega) (okA_acH ho.1 ho.2.2.2.1 v))
/-! load -/
def acL (F : FV) (S : Nat → Int32) (v : Int32) : Int32 × (Nat → Int32) := if v < 1 then (-1, S) else if v ≤ 999 then (if S 72 = plI F then (S 75, upd (upd S 75 0) 74 v) else (-2, S)) else (-1, S)
theorem okA_acL {F : FV} {B : Nat} {S : Nat → Int32} (ho : okA F B S) (v : Int32) : okA F B (acL F S v).2 := by
  unfold acL
  by_cases h1 : v < 1
  · rw [if_pos h1]; exact ho
  · rw [if_neg h1]
    by_cases h2 : v ≤ 999
    · rw [if_pos h2]
      split
      · obtain ⟨n, n1, n2, rfl⟩ := low1 (n := 999) (by decide) h1 h2
        obtain ⟨⟨sp, a1, a2, a3, a4⟩, ⟨hd, b1, b2⟩, -, ⟨bu, d1, d2⟩, e1, g1⟩ := ho
        show okA F B (upd (upd S 75 0) 74 (nI n))
        refine ⟨⟨sp, a1, a2, ?_, ?_⟩, ⟨hd, b1, ?_⟩, ⟨n, n2, pk_us⟩, ⟨bu, d1, ?_⟩, fun q hq => ?_, fun q hq => ?_⟩
        · rw [u_n (by omega), u_n (by omega)]; exact a3
        · rw [u_n (by omega), u_n (by omega)]; exact a4
        · rw [u_n (by omega), u_n (by omega)]; exact b2
        · rw [u_n (by omega), u_n (by omega)]; exact d2
        · rw [u_n (by omega), u_n (by omega)]; exact e1 q hq
        · rw [u_n (by omega), u_n (by omega)]; exact g1 q hq
      · exact ho
    · rw [if_neg h2]; exact ho
theorem upd_sw (f : Nat → Int32) {i j : Nat} (h : i ≠ j) (x y : Int32) : upd (upd f i x) j y = upd (upd f j y) i x := by
  funext k
  by_cases h1 : k = i
  · subst h1; rw [u_n h, pk_us, pk_us]
  · by_cases h2 : k = j
    · subst h2; rw [pk_us, u_n h1, pk_us]
    · rw [u_n h2, u_n h1, u_n h1, u_n h2]
theorem loadUp_C {g : eH} {X : AX} {B : Nat} (hc : CI g X) (ho : okX B X) (v : Int32) : ∃ h', f_X10_loadUp LF g 0 v = some (h', (acL (xF X) (xS X) v).1) ∧ CS h' 46 (acL (xF X) (xS X) v).2 ∧ only acS g h' := by
  obtain ⟨p, hp⟩ := hc.2.1
  have hS := hc.2.2.2.2.1
  have e1 : gI g 46 1 = xS X 72 := hS.2.2.1 1 (by omega) (by omega)
  have e4 : gI g 46 4 = xS X 75 := hS.2.2.1 4 (by omega) (by omega)
  unfold f_X10_loadUp acL
  by_cases h1 : v < 1
  · rw [if_pos h1, if_pos h1]; exact ⟨g, rfl, hS, only_rfl⟩
  · rw [if_neg h1, if_neg h1]
    by_cases h2 : v ≤ 999
    · rw [if_pos h2, if_pos h2, if_pos iO_0, r_0_7 hc.1, Option.bind_some, if_pos iO_46, hp.2.1, Option.bind_some, if_pos (p_O hp), e1, hp.2.2.2.2.2.1]
      by_cases h3 : xS X 72 = plI (xF X)
      · rw [if_pos h3, if_pos h3, Option.bind_some, if_pos iO_46, Option.bind_some, if_pos iO_46, gR_sI, r_0_7 hc.1, Option.bind_some, if_pos iO_46, e4]
        refine ⟨_, rfl, ?_, only_trans (only_sI (Or.inl rfl)) (only_sI (Or.inl rfl))⟩
        show CS _ 46 (upd (upd (xS X) 75 0) 74 v)
        rw [upd_sw _ (by omega)]
        exact CS_f (k := 4) _ (CS_f (k := 3) _ hS (by omega) (by omega)) (by omega) (by omega)
      · rw [if_neg h3, if_neg h3]; exact ⟨g, rfl, hS, only_rfl⟩
    · rw [if_neg h2, if_neg h2]; exact ⟨g, rfl, hS, only_rfl⟩
theorem plI_neg {F : FV} (hF : okF F) {sp : Nat} (hs : sp < 36) : plI F < 0 → ¬ nI sp = plI F := fun h e => by
  rw [← e] at h; exact nI_pos (by omega) h
theorem loads_M {g : eH} {X : AX} {B : Nat} (hR : RefsOK g) (hm : MI g X) (ho : okX B X) (v : Int32) : ∃ h', f_X11_loads LF g 73 v = some (h', (acL (xF X) (xS X) v).1) ∧ MS h' 76 0 (acL (xF X) (xS X) v).2 ∧ only amS g h' := by
  have hS := hm.2.2.2.2.1
  have hin : f_X11_in v.toInt64 1 999 = if v < 1 then 0 else if (999 : Int32) < v then 0 else 1 := in_lo v 999
  obtain ⟨sp, a1, a2, a3, a4⟩ := ho.2.2.2.1.1
  obtain ⟨i1, i2, i3, i4, -⟩ := iM (a := 76) (Or.inl rfl)
  unfold f_X11_loads acL
  rw [hin]
  by_cases h1 : v < 1
  · rw [if_pos h1, if_pos h1, if_pos rfl]; exact ⟨g, rfl, hS, only_rfl⟩
  · rw [if_neg h1, if_neg h1]
    by_cases h2 : v ≤ 999
    · rw [if_pos h2, if_neg (show ¬ (999 : Int32) < v by rw [fa_le] at h2; rw [fa_lt]; omega), if_neg i10, if_pos iO_73, hm.1.2.2.1]
      by_cases hp : plI (xF X) < 0
      · rw [if_pos hp, if_neg (by rw [a4]; exact plI_neg ho.1 a1 hp)]; exact ⟨g, rfl, hS, only_rfl⟩
      · rw [if_neg hp, r_73_7 hR, Option.bind_some, if_pos i1, c72, MS_0 hS (by omega)]
        by_cases h3 : xS X 72 = plI (xF X)
        · rw [if_pos h3, if_pos h3, Option.bind_some, if_pos i4, Option.bind_some, if_pos i4, gR_sI, r_73_7 hR, Option.bind_some, if_pos i3, Option.bind_some, c74, c75, MS_0 hS (by omega)]
          exact ⟨_, rfl, MS_u _ (MS_u _ hS), only_trans (only_sI (Or.inl rfl)) (only_sI (Or.inl rfl))⟩
        · rw [if_neg h3, if_neg h3]; exact ⟨g, rfl, hS, only_rfl⟩
    · rw [if_neg h2, if_pos (show (999 : Int32) < v by rw [fa_le] at h2; rw [fa_lt]; omega), if_pos rfl]; exact ⟨g, rfl, hS, only_rfl⟩
theorem load_P {B : Nat} {h : eH} {X : AX} (hc : CI h X) (hm : MI h X) (ho : okX B X) (v : Int32) : PR B (f_X10_load LF h 0 v) (fun h1 => f_X11_load LF h1 73 v) := by
  have e1 : f_X10_load LF h 0 v = ((f_X6_copyFrom LF h 48 46).bind fun r7 => (f_X10_loadUp LF r7 0 v).bind fun r9 => (f_X10_remembered LF r9.1 0 r9.2).bind fun r11 => some (r11.1, r11.2)) := by
    unfold f_X10_load
    rw [if_pos iO_0, r_0_8 hc.1, Option.bind_some, r_0_7 hc.1, Option.bind_some, if_pos iO_48]
  have e2 : (fun h1 => f_X11_load LF h1 73 v) = fun h1 => (f_X11_putsBy LF (sI h1 73 0 0) 73).bind fun r2 => (f_X11_loads LF r2 73 v).bind fun r4 => (f_X11_counts LF r4.1 73 r4.2).bind fun r6 => some (r6.1, r6.2) := by
    funext h1
    unfold f_X11_load
    rw [if_pos iO_73]
  rw [e1, e2]
  exact PR_act (fC := fun g => f_X10_loadUp LF g 0 v) (fM := fun g => f_X11_loads LF g 73 v) hc hm ho (fun g hg => loadUp_C hg ho v) (fun g hR hg => loads_M hR hg ho v) (okA_mono (by omega) (okA_acL ho.2.2.2.1 v))

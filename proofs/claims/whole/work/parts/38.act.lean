/-! Acts, and what is remembered of them. -/
def PR (B : Nat) (a : Option (eH × Int32)) (b : eH → Option (eH × Int32)) : Prop := ∃ h1 h2 r X', a = some (h1, r) ∧ b h1 = some (h2, r) ∧ CI h2 X' ∧ MI h2 X' ∧ okX (B + 300) X'
theorem PR_mk {B : Nat} {h : eH} {X X' : AX} {a : Option (eH × Int32)} {b : eH → Option (eH × Int32)} {r : Int32} (hm : MI h X) (hC : ∃ h1, a = some (h1, r) ∧ CI h1 X' ∧ only cls h h1) (hM : ∀ h1, RefsOK h1 → MI h1 X → ∃ h2, b h1 = some (h2, r) ∧ MI h2 X' ∧ only mdl h1 h2) (ho : okX (B + 300) X') : PR B a b := by
  obtain ⟨h1, x1, x2, x3⟩ := hC
  obtain ⟨h2, y1, y2, y3⟩ := hM h1 x2.1 (MI_cls x3 hm)
  exact ⟨h1, h2, r, X', x1, y1, CI_mdl y3 x2, y2, ho⟩
theorem okA_mono {F : FV} {B B' : Nat} {S : Nat → Int32} (hB : B ≤ B') (ho : okA F B S) : okA F B' S := by
  obtain ⟨h1, h2, h3, ⟨bu, d1, d2⟩, h5⟩ := ho
  exact ⟨h1, h2, h3, ⟨bu, Nat.le_trans d1 hB, d2⟩, h5⟩
theorem okX_mono {B B' : Nat} {X : AX} (hB : B ≤ B') (ho : okX B X) : okX B' X := by
  obtain ⟨o1, o2, o3, o4, o5, o6, o7, o8⟩ := ho
  exact ⟨o1, o2, o3, okA_mono hB o4, ⟨o5.1, fun j hj => okA_mono hB (o5.2 j hj)⟩, ⟨o6.1, fun i hi ht => okA_mono hB (o6.2 i hi ht)⟩, o7, o8⟩
/-- refused: nothing but the reference's own sign of a throw -/
theorem PR_no {B : Nat} {h : eH} {X : AX} {a : Option (eH × Int32)} {b : eH → Option (eH × Int32)} {r : Int32} (hc : CI h X) (hm : MI h X) (ho : okX B X) (hC : a = some (h, r)) (hM : ∀ h1, RefsOK h1 → MI h1 X → b h1 = some (sI h1 73 0 0, r)) : PR B a b :=
  PR_mk hm ⟨h, hC, hc, only_rfl⟩ (fun h1 hR h9 => ⟨_, hM h1 hR h9, MI_scr thr_M h9, only_mono (fun _ _ => msc_mdl) thr_M⟩) (okX_mono (by omega) ho)
/-- the cells that an act may write -/
def acC (j _k : Nat) : Prop := j = 46 ∨ j = 47 ∨ j = 69 ∨ j = 72 ∨ j = 3 ∨ j = 4
def acM (j k : Nat) : Prop := j = 76 ∨ j = 82 ∨ j = 83 ∨ (j = 73 ∧ (k = 0 ∨ k = 1)) ∨ j = 74
theorem acC_cls {j k : Nat} (h : acC j k) : cls j k := by unfold acC at h; unfold cls; omega
theorem acM_mdl {j k : Nat} (h : acM j k) : mdl j k := by unfold acM at h; unfold mdl; omega
theorem CI_act {h h' : eH} {X : AX} {S : Nat → Int32} {l : List Int64} (ho : only acC h h') (hS : CS h' 46 S) (hl : CW h' l) (hc : CI h X) : CI h' (setW (setS X S) l) := by
  obtain ⟨c1, ⟨p, c2⟩, ⟨q, c3⟩, c4, c5, c6, c7, c8, c9⟩ := hc
  exact ⟨only_refs ho c1, ⟨p, CF_only ho (fun j k a b => by unfold acC; omega) c2⟩, ⟨q, CR_only ho (fun j k a => by unfold acC; omega) c3⟩, CT_only ho (fun j k a => by unfold acC; omega) c4, hS, CU_only ho (fun j k a => by unfold acC; omega) c6, CK_only ho (by unfold acC; omega) (fun j k a b => by unfold acC; omega) c7, CH_only ho (fun j k a => by unfold acC; omega) c8, hl⟩
theorem MI_act {h h' : eH} {X : AX} {S : Nat → Int32} {l : List Int64} (ho : only acM h h') (hS : MS h' 76 0 S) (hl : MW h' l) (hc : MI h X) : MI h' (setW (setS X S) l) := by
  obtain ⟨c1, c2, c3, c4, c5, c6, c7, c8, c9⟩ := hc
  exact ⟨MF_only ho (fun k a => by unfold acM; omega) (fun k => by unfold acM; omega) c1, MR_only ho (by unfold acM; omega) (fun k => by unfold acM; omega) c2, (o_I ho (by unfold acM; omega)).trans c3, MT_only ho (by unfold acM; omega) (fun k => by unfold acM; omega) c4, hS, MU_only ho (by unfold acM; omega) (fun k => by unfold acM; omega) c6, MK_only ho (fun k => by unfold acM; omega) (fun k => by unfold acM; omega) c7, MH_only ho (by unfold acM; omega) (fun k => by unfold acM; omega) c8, hl⟩
/-- only the state is changed -/
def acS (j _k : Nat) : Prop := j = 46 ∨ j = 47 ∨ j = 69 ∨ j = 72
def amS (j k : Nat) : Prop := j = 76 ∨ j = 82 ∨ j = 83 ∨ (j = 73 ∧ k = 0)
theorem CI_st {h h' : eH} {X : AX} {S : Nat → Int32} (ho : only acS h h') (hS : CS h' 46 S) (hc : CI h X) : CI h' (setS X S) := CI_act (l := xW X) (only_mono (fun j k a => by unfold acS at a; unfold acC; omega) ho) hS (CW_only ho (fun j k a => by unfold acS; omega) hc.2.2.2.2.2.2.2.2) hc
theorem MI_st {h h' : eH} {X : AX} {S : Nat → Int32} (ho : only amS h h') (hS : MS h' 76 0 S) (hc : MI h X) : MI h' (setS X S) := MI_act (l := xW X) (only_mono (fun j k a => by unfold amS at a; unfold acM; omega) ho) hS (MW_only ho (by unfold amS; omega) (fun k => by unfold amS; omega) hc.2.2.2.2.2.2.2.2) hc
/-! remembering -/
def pushU (U : Nat × (Nat → Nat → Int32)) (S : Nat → Int32) : Nat × (Nat → Nat → Int32) := (min (U.1 + 1) 15, fun j => if j = 0 then S else U.2 (j - 1))
theorem before_C {h : eH} {X : AX} (hc : CI h X) : ∃ h', f_X6_copyFrom LF h 48 46 = some h' ∧ CI h' X ∧ CS h' 48 (xS X) ∧ only csc h h' := by
  obtain ⟨h', c1, c2, c3, c4, c5⟩ := copyFrom_ok hc.1 (show (48 : Nat) ∈ stL by decide) (show (46 : Nat) ∈ stL by decide)
  have o : only csc h h' := ⟨fun j k hW => ⟨c3 j k (fun e => hW (by unfold csc; omega)) (fun e => hW (by unfold csc; omega)), c4 j k (fun e => hW (by unfold csc; omega))⟩, c5⟩
  exact ⟨h', c1, CI_scr o hc, CS_same c2 hc.2.2.2.2.1, o⟩
theorem remem_C {h : eH} {X : AX} {S0 : Nat → Int32} (hc : CI h X) (hU : (xU X).1 ≤ 15) (hS : CS h 48 S0) {v : Int32} (hv : ¬ v < 0) : ∃ h', f_X10_remembered LF h 0 v = some (h', v) ∧ CI h' (setU X (pushU (xU X) S0)) ∧ only cls h h' := by
  obtain ⟨c1, ⟨p, c2⟩, ⟨q, c3⟩, c4, c5, ⟨nx, n1, n2, n3, n4⟩, c7, c8, c9⟩ := hc
  obtain ⟨h', p1, p2, p3, p4, p5, p6, p7⟩ := push_ok c1 (show (48 : Nat) ∈ stL by decide) hU n1 n3 n2
  have o : only (fun j _ => j = 6 ∨ (8 ≤ j ∧ j ≤ 37)) h h' := ⟨fun j k hW => ⟨p5 j k (by omega) (by omega) (by omega), p6 j k (by omega)⟩, p7⟩
  unfold f_X10_remembered
  rw [if_neg hv, if_pos iO_0, r_0_3 c1, Option.bind_some, r_0_8 c1, Option.bind_some, if_pos iO_6, p1, Option.bind_some]
  refine ⟨h', rfl, ⟨only_refs o c1, ⟨p, CF_only o (fun j k a b => by omega) c2⟩, ⟨q, CR_only o (fun j k a => by omega) c3⟩, CT_only o (fun j k a => by omega) c4, CS_only o (fun k => by omega) c5, ⟨(nx + 1) % 15, Nat.mod_lt _ (by decide), p3, p2, fun j hj => ?_⟩, CK_only o (by omega) (fun j k a b => by omega) c7, CH_only o (fun j k a => by omega) c8, CW_only o (fun j k a => by omega) c9⟩, only_mono (fun j k a => by unfold cls; omega) o⟩
  have hj : j < min ((xU X).1 + 1) 15 := hj
  show CS h' _ (if j = 0 then S0 else (xU X).2 (j - 1))
  by_cases hj0 : j = 0
  · subst hj0
    have e1 : ((nx + 1) % 15 + 14 - 0) % 15 = nx := by omega
    rw [e1, if_pos rfl]
    exact CS_same p4 hS
  · have e1 : ((nx + 1) % 15 + 14 - j) % 15 = (nx + 14 - (j - 1)) % 15 := by omega
    have hm : (nx + 14 - (j - 1)) % 15 < 15 := Nat.mod_lt _ (by decide)
    have hne : (nx + 14 - (j - 1)) % 15 ≠ nx := by omega
    rw [e1, if_neg hj0]
    exact CS_same (sameS_rf (fun k => p5 _ _ (by omega) (by omega) (by omega)) (fun k => p5 _ _ (by omega) (by omega) (by omega)) (p6 _ _ (by omega))) (n4 (j - 1) (by omega))
theorem putsBy_M {h : eH} {X : AX} (hR : RefsOK h) (hm : MI h X) (hU : (xU X).1 ≤ 15) : ∃ h', f_X11_putsBy LF h 73 = some h' ∧ MI h' X ∧ MS h' 84 (79 * (xU X).1) (xS X) ∧ only (fun j _ => j = 84) h h' := by
  obtain ⟨c1, c2, c3, c4, c5, c6, c7, c8, c9⟩ := hm
  obtain ⟨h', p1, p2, p3, p4, p5⟩ := putsBy_ok hR hU c6.1
  have o : only (fun j _ => j = 84) h h' := ⟨fun j k hW => ⟨p3 j k hW, p4 j k⟩, p5⟩
  refine ⟨h', p1, ⟨MF_only o (fun k a => by omega) (fun k => by omega) c1, MR_only o (by omega) (fun k => by omega) c2, (o_I o (by omega)).trans c3, MT_only o (by omega) (fun k => by omega) c4, MS_only o (fun k => by omega) c5, ⟨(o_I o (by omega)).trans c6.1, fun j hj k hk => ?_⟩, MK_only o (fun k => by omega) (fun k => by omega) c7, MH_only o (by omega) (fun k => by omega) c8, MW_only o (by omega) (fun k => by omega) c9⟩, fun k hk => ?_, o⟩
  · rw [p2, if_neg (by omega)]; exact c6.2 j hj k hk
  · rw [p2, if_pos (by omega), Nat.add_sub_cancel_left]; exact MS_0 c5 hk
theorem adds_M {h : eH} {X : AX} {S0 : Nat → Int32} (hR : RefsOK h) (hm : MI h X) (hU : (xU X).1 ≤ 15) (hS : MS h 84 (79 * (xU X).1) S0) (v : Int32) : ∃ h', f_X11_adds LF h 73 v = some (h', v) ∧ MI h' (setU X (pushU (xU X) S0)) ∧ only mdl h h' := by
  obtain ⟨c1, c2, c3, c4, c5, c6, c7, c8, c9⟩ := hm
  obtain ⟨h', p1, p2, p3, p4, p5, p6⟩ := adds_ok hR hU c6.1 v
  have o : only (fun j k => j = 84 ∨ (j = 73 ∧ k = 24)) h h' := ⟨fun j k hW => ⟨p4 j k (by omega) (by omega), p5 j k⟩, p6⟩
  refine ⟨h', p1, ⟨MF_only o (fun k a => by omega) (fun k => by omega) c1, MR_only o (by omega) (fun k => by omega) c2, (o_I o (by omega)).trans c3, MT_only o (by omega) (fun k => by omega) c4, MS_only o (fun k => by omega) c5, ⟨p2, fun j hj k hk => ?_⟩, MK_only o (fun k => by omega) (fun k => by omega) c7, MH_only o (by omega) (fun k => by omega) c8, MW_only o (by omega) (fun k => by omega) c9⟩, only_mono (fun j k a => by unfold mdl; omega) o⟩
  have hj : j < min ((xU X).1 + 1) 15 := hj
  show gI h' 84 (79 * (min ((xU X).1 + 1) 15 - 1 - j) + k) = (if j = 0 then S0 else (xU X).2 (j - 1)) k
  rw [p3]
  by_cases hj0 : j = 0
  · subst hj0
    rw [if_pos rfl, ← hS k hk]
    by_cases h15 : (xU X).1 = 15
    · rw [if_pos (by omega)]; exact congrArg (gI h 84) (by omega)
    · rw [if_neg (by omega)]; exact congrArg (gI h 84) (by omega)
  · rw [if_neg hj0, ← c6.2 (j - 1) (by omega) k hk]
    by_cases h15 : (xU X).1 = 15
    · rw [if_pos (by omega)]; exact congrArg (gI h 84) (by omega)
    · rw [if_neg (by omega)]; exact congrArg (gI h 84) (by omega)
theorem okX_push {B : Nat} {X : AX} {S0 S : Nat → Int32} {l : List Int64} (ho : okX B X) (h0 : okA (xF X) B S0) (hS : okA (xF X) B S) (hl : l.length ≤ 37) : okX B (setU (setW (setS X S) l) (pushU (xU X) S0)) := by
  obtain ⟨o1, o2, o3, o4, o5, o6, o7, o8⟩ := ho
  refine ⟨o1, o2, o3, hS, ⟨Nat.min_le_right _ _, fun j hj => ?_⟩, o6, o7, hl⟩
  have hj : j < min ((xU X).1 + 1) 15 := hj
  show okA (xF X) B (if j = 0 then S0 else (xU X).2 (j - 1))
  by_cases hj0 : j = 0
  · rw [if_pos hj0]; exact h0
  · rw [if_neg hj0]; exact o5.2 (j - 1) (by omega)
/-! is it a spot -/
theorem spot_cases {F : FV} (hF : okF F) (v : Int32) : (hasP (nI F.1) (nI F.2.1) v = 0 ∧ f_X11_in v.toInt64 0 ((nI F.1 * nI F.2.1 - 1).toInt64) = 0) ∨ ∃ k, k < nF F ∧ v = nI k ∧ hasP (nI F.1) (nI F.2.1) v = 1 ∧ f_X11_in v.toInt64 0 ((nI F.1 * nI F.2.1 - 1).toInt64) = 1 := by
  have h36 := nF_le hF
  have h1 : 1 ≤ nF F := Nat.mul_le_mul hF.1 hF.2.2.1
  have em : nI F.1 * nI F.2.1 = nI (nF F) := pk_mul _ _
  have e1 : nI F.1 * nI F.2.1 - 1 = nI (nF F - 1) := by rw [em]; exact pk_sub (b := 1) h1
  have hin : f_X11_in v.toInt64 0 ((nI F.1 * nI F.2.1 - 1).toInt64) = if v < 0 then 0 else if nI (nF F - 1) < v then 0 else 1 := by rw [e1]; exact in_spec v 0 _
  unfold hasP
  rw [hin, em]
  rcases pk_ix v (n := nF F) (by omega) with h | h | ⟨j, j1, j2⟩
  · left; rw [if_pos h, if_pos h]; exact ⟨rfl, rfl⟩
  · left
    have hp : ¬ v < 0 := by
      rw [fa_le, nI_toInt (by omega)] at h; rw [fa_lt]; have e0 : (0 : Int32).toInt = 0 := by decide
      omega
    have hq : nI (nF F - 1) < v := by rw [fa_le, nI_toInt (by omega)] at h; rw [fa_lt, nI_toInt (by omega)]; omega
    rw [if_neg hp, if_neg hp, if_pos h, if_pos hq]; exact ⟨rfl, rfl⟩
  · right
    subst j2
    refine ⟨j, j1, rfl, ?_, ?_⟩
    · rw [if_neg (nI_pos (by omega)), if_neg (nI_ge j1 (by omega))]
    · rw [if_neg (nI_pos (by omega)), if_neg (nI_nlt (by omega) (by omega))]
theorem isSpot_eq {h : eH} {F : FV} (hm : MF h F) {v b : Int32} (hb : f_X11_in v.toInt64 0 ((nI F.1 * nI F.2.1 - 1).toInt64) = b) (h01 : b = 0 ∨ b = 1) : f_X11_isSpot LF h 73 v = some b := by
  unfold f_X11_isSpot f_X11_spots
  rw [if_pos iO_73, if_pos iO_73, Option.bind_some, hm.1, hm.2.1, hb]
  rcases h01 with rfl | rfl
  · rw [if_pos (by decide)]
  · rw [if_pos (by decide)]
theorem has_eq {h : eH} {p : Nat} {F : FV} (hc : CF h p F) (v : Int32) : f_X2_has LF h p v = some (hasP (nI F.1) (nI F.2.1) v) := by rw [has_P (p_O hc), hc.2.2.2.1, hc.2.2.2.2.1]
theorem free_C {h : eH} {p : Nat} {X : AX} (hc : CI h X) (hp : CF h p (xF X)) : f_X10_free LF h 0 = some ((gL h p 4) &&& ((gL h 46 8) ^^^ (-1))) := by
  unfold f_X10_free
  rw [if_pos iO_0, hp.2.1, Option.bind_some, if_pos (p_O hp), r_0_7 hc.1, Option.bind_some, if_pos iO_46]
/-! carry -/
def caA (S : Nat → Int32) (k d : Nat) : Nat → Int32 := upd (upd S 72 (nI k)) 73 (nI d)
theorem okA_ca {F : FV} {B : Nat} {S : Nat → Int32} {k d : Nat} (hF : okF F) (ho : okA F B S) (hk : frA F S k = true) (hd : d < 4) : okA F B (caA S k d) := by
  have h36 := frA_lt hF hk
  obtain ⟨-, -, ⟨cu, c1, c2⟩, ⟨bu, d1, d2⟩, e1, g1⟩ := ho
  unfold frA at hk
  simp at hk
  unfold caA
  refine ⟨⟨k, h36, hk.1, ?_, ?_⟩, ⟨d, hd, pk_us⟩, ⟨cu, c1, ?_⟩, ⟨bu, d1, ?_⟩, fun q hq => ?_, fun q hq => ?_⟩
  · rw [u_n (by omega), u_n (by omega)]; exact hk.2
  · rw [u_n (by omega), pk_us]
  · rw [u_n (by omega), u_n (by omega)]; exact c2
  · rw [u_n (by omega), u_n (by omega)]; exact d2
  · rw [u_n (by omega), u_n (by omega)]; exact e1 q hq
  · rw [u_n (by omega), u_n (by omega)]; exact g1 q hq
theorem carry_P {B : Nat} {h : eH} {X : AX} (hc : CI h X) (hm : MI h X) (ho : okX B X) (v w : Int32) : PR B (f_X10_carry LF h 0 v w) (fun h1 => f_X11_carry LF h1 73 v w) := by
  have hF := ho.1
  obtain ⟨p, hp⟩ := hc.2.1
  have in3 := in03 w
  have hM0 : ∀ h1, MI h1 X → MF (sI h1 73 0 0) (xF X) := fun h1 h9 => (MI_scr thr_M h9).1
  rcases spot_cases hF v with ⟨x1, x2⟩ | ⟨k, k1, rfl, x1, x2⟩
  · refine PR_no hc hm ho (r := -1) ?_ (fun h1 hR h9 => ?_)
    · unfold f_X10_carry
      rw [if_pos iO_0, hp.2.1, Option.bind_some, if_pos (p_O hp), has_eq hp, x1, Option.bind_some, if_pos rfl]
    · unfold f_X11_carry
      rw [if_pos iO_73, isSpot_eq (hM0 h1 h9) x2 (Or.inl rfl), Option.bind_some, if_pos rfl]
  · have h36 := nF_le hF
    rcases pos4 w with hw | ⟨hw, hw4⟩ | ⟨d, d4, rfl⟩
    · refine PR_no hc hm ho (r := -1) ?_ (fun h1 hR h9 => ?_)
      · unfold f_X10_carry
        rw [if_pos iO_0, hp.2.1, Option.bind_some, if_pos (p_O hp), has_eq hp, x1, Option.bind_some, if_neg i10, if_pos hw]
      · unfold f_X11_carry
        rw [if_pos iO_73, isSpot_eq (hM0 h1 h9) x2 (Or.inr rfl), Option.bind_some, if_neg i10, in3, if_pos hw, if_pos rfl]
    · refine PR_no hc hm ho (r := -1) ?_ (fun h1 hR h9 => ?_)
      · unfold f_X10_carry
        rw [if_pos iO_0, hp.2.1, Option.bind_some, if_pos (p_O hp), has_eq hp, x1, Option.bind_some, if_neg i10, if_neg hw, if_neg hw4]
      · unfold f_X11_carry
        rw [if_pos iO_73, isSpot_eq (hM0 h1 h9) x2 (Or.inr rfl), Option.bind_some, if_neg i10, in3, if_neg hw, if_neg hw4, if_pos rfl]
    · have q0 : ¬ nI d < 0 := nI_pos (by omega)
      have q4 : nI d < 4 := nI_lt (b := 4) d4 (by decide)
      have hh : f_X10_holds ((gL h p 4) &&& ((gL h 46 8) ^^^ (-1))) (nI k) = if frA (xF X) (xS X) k then 1 else 0 := by rw [holds_k _ (by omega), free_tb hF hp hc.2.2.2.2.1]
      by_cases hfr : frA (xF X) (xS X) k = true
      · obtain ⟨⟨sp, a1, a2, a3, a4⟩, -, -, -, -, -⟩ := id ho.2.2.2.1
        refine PR_mk hm (X' := setU (setS X (caA (xS X) k d)) (pushU (xU X) (xS X))) (r := nI sp) ?_ (fun h1 hR h9 => ?_) (okX_mono (by omega) (okX_push ho ho.2.2.2.1 (okA_ca hF ho.2.2.2.1 hfr d4) ho.2.2.2.2.2.2.2))
        · obtain ⟨hA, y1, y2, y3, y4⟩ := before_C hc
          have s1 : CS (sI (sI hA 46 1 (nI k)) 46 2 (nI d)) 46 (caA (xS X) k d) := CS_f (k := 2) _ (CS_f (k := 1) _ y2.2.2.2.2.1 (by omega) (by omega)) (by omega) (by omega)
          have o1 : only acS hA (sI (sI hA 46 1 (nI k)) 46 2 (nI d)) := only_trans (only_sI (Or.inl rfl)) (only_sI (Or.inl rfl))
          obtain ⟨hB, z1, z2, z3⟩ := remem_C (CI_st o1 s1 y2) ho.2.2.2.2.1.1 (CS_only o1 (fun k => by unfold acS; omega) y3) (v := nI sp) (nI_pos (by omega))
          have esp : gI hA 46 1 = nI sp := (y2.2.2.2.2.1.2.2.1 1 (by omega) (by omega)).trans a4
          refine ⟨hB, ?_, z2, only_trans (only_mono (fun _ _ => csc_cls) y4) (only_trans (only_mono (fun j k a => by unfold acS at a; unfold cls; omega) o1) z3)⟩
          unfold f_X10_carry
          rw [if_pos iO_0, hp.2.1, Option.bind_some, if_pos (p_O hp), has_eq hp, x1, Option.bind_some, if_neg i10, if_neg q0, if_pos q4, free_C hc hp, Option.bind_some, hh, if_pos hfr, if_neg i10, r_0_8 hc.1, Option.bind_some, r_0_7 hc.1, Option.bind_some, if_pos iO_48, y1, Option.bind_some, r_0_7 y2.1, Option.bind_some, if_pos iO_46, Option.bind_some, if_pos iO_46, gR_sI, r_0_7 y2.1, Option.bind_some, if_pos iO_46, esp, z1, Option.bind_some]
        · have hR0 : RefsOK (sI h1 73 0 0) := refs_sI hR
          obtain ⟨hA, y1, y2, y3, y4⟩ := putsBy_M hR0 (MI_scr thr_M h9) ho.2.2.2.2.1.1
          have hRA := only_refs y4 hR0
          have s1 : MS (sI (sI hA 76 72 (nI k)) 76 73 (nI d)) 76 0 (caA (xS X) k d) := MS_u _ (MS_u _ y2.2.2.2.2.1)
          have o1 : only amS hA (sI (sI hA 76 72 (nI k)) 76 73 (nI d)) := only_trans (only_sI (Or.inl rfl)) (only_sI (Or.inl rfl))
          obtain ⟨hB, z1, z2, z3⟩ := adds_M (refs_sI (refs_sI hRA)) (MI_st o1 s1 y2) ho.2.2.2.2.1.1 (MS_only o1 (fun k => by unfold amS; omega) y3) (nI sp)
          have esp : gI hA 76 72 = nI sp := (MS_0 y2.2.2.2.2.1 (by omega)).trans a4
          have hfi := isFree_k hF hR0 (Or.inl rfl) (hM0 h1 h9) (MI_scr thr_M h9).2.2.2.2.1 (show k < 36 by omega)
          refine ⟨hB, ?_, z2, only_trans (only_mono (fun _ _ => msc_mdl) thr_M) (only_trans (only_mono (fun j k a => by unfold mdl; omega) y4) (only_trans (only_mono (fun j k a => by unfold amS at a; unfold mdl; omega) o1) z3))⟩
          show f_X11_carry LF h1 73 (nI k) (nI d) = _
          unfold f_X11_carry
          have i72 : inA LF 76 0 72 = true := (iM (Or.inl rfl)).1
          have i73 : inA LF 76 0 73 = true := (iM (Or.inl rfl)).2.1
          rw [if_pos iO_73, isSpot_eq (hM0 h1 h9) x2 (Or.inr rfl), Option.bind_some, if_neg i10, in3, if_neg q0, if_pos q4, if_neg i10, r_73_7 hR0, Option.bind_some, hfi, Option.bind_some, if_pos hfr, if_neg i10, y1, Option.bind_some, r_73_7 hRA, Option.bind_some, if_pos i72, Option.bind_some, if_pos i72, gR_sI, r_73_7 hRA, Option.bind_some, if_pos i73, Option.bind_some, c72, c73, esp, z1, Option.bind_some]
      · refine PR_no hc hm ho (r := -2) ?_ (fun h1 hR h9 => ?_)
        · unfold f_X10_carry
          rw [if_pos iO_0, hp.2.1, Option.bind_some, if_pos (p_O hp), has_eq hp, x1, Option.bind_some, if_neg i10, if_neg q0, if_pos q4, free_C hc hp, Option.bind_some, hh, if_neg hfr, if_pos rfl]
        · have hfi := isFree_k hF (refs_sI hR) (Or.inl rfl) (hM0 h1 h9) (MI_scr thr_M h9).2.2.2.2.1 (show k < 36 by omega)
          show f_X11_carry LF h1 73 (nI k) (nI d) = _
          unfold f_X11_carry
          rw [if_pos iO_73, isSpot_eq (hM0 h1 h9) x2 (Or.inr rfl), Option.bind_some, if_neg i10, in3, if_neg q0, if_pos q4, if_neg i10, r_73_7 (refs_sI hR), Option.bind_some, hfi, Option.bind_some, if_neg hfr, if_pos rfl]

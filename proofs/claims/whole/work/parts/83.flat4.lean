/-! flat: the first open spot, the new start; both sides put together -/
def fsO (p : Nat → Bool) : Nat → Option Nat
  | 0 => none
  | i + 1 => match fsO p i with
    | some j => some j
    | none => if p i then some i else none
theorem fsO_n {p : Nat → Bool} {i : Nat} (h : fsO p i = none) : fsO p (i + 1) = if p i then some i else none := by
  show (match fsO p i with | some j => some j | none => if p i then some i else none) = _
  rw [h]
theorem fsO_s {p : Nat → Bool} {i j : Nat} (h : fsO p i = some j) : fsO p (i + 1) = some j := by
  show (match fsO p i with | some j => some j | none => if p i then some i else none) = _
  rw [h]
theorem fsO_lt {p : Nat → Bool} : ∀ {i j : Nat}, fsO p i = some j → j < i ∧ p j = true
  | 0, j, h => by cases h
  | i + 1, j, h => by
    cases hs : fsO p i with
    | none =>
      rw [fsO_n hs] at h
      by_cases q : p i = true
      · rw [if_pos q] at h; cases h; exact ⟨by omega, q⟩
      · rw [if_neg q] at h; cases h
    | some j' =>
      rw [fsO_s hs] at h; cases h
      have := fsO_lt hs
      exact ⟨by omega, this.2⟩
theorem fsO_none {p : Nat → Bool} : ∀ {i : Nat}, fsO p i = none → ∀ k, k < i → p k = false
  | 0, _, k, hk => absurd hk (Nat.not_lt_zero k)
  | i + 1, h, k, hk => by
    cases hs : fsO p i with
    | some j => rw [fsO_s hs] at h; cases h
    | none =>
      rw [fsO_n hs] at h
      by_cases q : k = i
      · subst q
        cases z : p k with
        | false => rfl
        | true => rw [z, if_pos rfl] at h; cases h
      · exact fsO_none hs k (by omega)
theorem fsO_ext {p : Nat → Bool} {n : Nat} (hp : ∀ k, n ≤ k → p k = false) : ∀ m, fsO p (n + m) = fsO p n
  | 0 => rfl
  | m + 1 => by
    have ih := fsO_ext hp m
    show fsO p (n + m + 1) = fsO p n
    cases hs : fsO p (n + m) with
    | some j => rw [fsO_s hs, ← ih, hs]
    | none => rw [fsO_n hs, hp _ (by omega), ← ih, hs]; rfl
theorem ct_ext {p : Nat → Bool} {n : Nat} (hp : ∀ k, n ≤ k → p k = false) : ∀ m, fb_ct p (n + m) = fb_ct p n
  | 0 => rfl
  | m + 1 => by
    have ih := ct_ext hp m
    show fb_ct p (n + m + 1) = fb_ct p n
    rw [fb_ct_succ, hp _ (by omega), ih]; rfl
def opF (F : FV) (k : Nat) : Bool := decide (kF F k ≠ 0)
theorem opF_0 {F : FV} {k : Nat} (h : nF F ≤ k) : opF F k = false := by
  unfold opF kF; rw [if_neg (by omega)]; rfl
def cnF (F : FV) : Nat := fb_ct (opF F) (nF F)
def stF (F : FV) : Nat := match F.2.2.2 with
  | some p => p
  | none => (fsO (opF F) (nF F)).getD 0
theorem cnF_36 {F : FV} (hF : okF F) : fb_ct (opF F) 36 = cnF F := by
  have := nF_le hF
  have := ct_ext (p := opF F) (n := nF F) (fun k hk => opF_0 hk) (36 - nF F)
  rw [show nF F + (36 - nF F) = 36 by omega] at this; exact this
theorem fsO_36 {F : FV} (hF : okF F) : fsO (opF F) 36 = fsO (opF F) (nF F) := by
  have := nF_le hF
  have := fsO_ext (p := opF F) (n := nF F) (fun k hk => opF_0 hk) (36 - nF F)
  rw [show nF F + (36 - nF F) = 36 by omega] at this; exact this
theorem fst_ex {F : FV} (hc : cnF F ≠ 0) : ∃ j, fsO (opF F) (nF F) = some j := by
  cases h : fsO (opF F) (nF F) with
  | some j => exact ⟨j, rfl⟩
  | none => exact absurd (fb_ct_zero.mpr (fsO_none h)) hc
theorem stF_ok {F : FV} (hF : okF F) (hc : cnF F ≠ 0) : stF F < 36 ∧ kF F (stF F) ≠ 0 := by
  have := nF_le hF
  unfold stF
  cases h : F.2.2.2 with
  | some p => exact hF.2.2.2.2.2 p h
  | none =>
    obtain ⟨j, hj⟩ := fst_ex hc
    have := fsO_lt hj
    show ((fsO (opF F) (nF F)).getD 0) < 36 ∧ kF F ((fsO (opF F) (nF F)).getD 0) ≠ 0
    rw [hj]
    exact ⟨show j < 36 by omega, of_decide_eq_true this.2⟩
def S0F (F : FV) : Nat → Int32 := fun k => if k = 72 then nI (stF F) else if k = 74 then 100 else 0
theorem okA_S0 {F : FV} {B : Nat} (hF : okF F) (hc : cnF F ≠ 0) : okA F B (S0F F) := by
  obtain ⟨s1, s2⟩ := stF_ok hF hc
  refine ⟨⟨stF F, s1, s2, ?_, rfl⟩, ⟨0, by omega, rfl⟩, ⟨100, by omega, rfl⟩, ⟨0, Nat.zero_le _, rfl⟩, fun k hk => ⟨0, by omega, ?_, fun _ => rfl⟩, fun k hk => Or.inl ?_⟩
  · unfold S0F; rw [if_neg (by omega), if_neg (by omega)]
  · unfold S0F; rw [if_neg (by omega), if_neg (by omega)]; rfl
  · unfold S0F; rw [if_neg (by omega), if_neg (by omega)]
def flX (X : AX) (F : FV) : AX := (F, xR X, (0, (xT X).2), S0F F, (0, (xU X).2), (0, (xK X).2), (0, (xH X).2), xW X)
theorem okX_fl {B : Nat} {X : AX} {F : FV} (ho : okX B X) (hF : okF F) (hc : cnF F ≠ 0) : okX B (flX X F) := by
  obtain ⟨o1, o2, o3, o4, o5, o6, o7, o8⟩ := ho
  exact ⟨hF, o2, ⟨Nat.zero_le _, fun k hk => absurd hk (Nat.not_lt_zero k)⟩, okA_S0 hF hc, ⟨Nat.zero_le _, fun j hj => absurd hj (Nat.not_lt_zero j)⟩, ⟨by show 0 < 8; omega, fun i hi ht => by have ht : (0 : Nat).testBit i = true := ht; rw [Nat.zero_testBit] at ht; cases ht⟩, ⟨Nat.zero_le _, fun k hk => absurd hk (Nat.not_lt_zero k)⟩, o8⟩
theorem firstOf_D {F : FV} {x : Int64} (hx : ∀ k, tb x k = decide (kF F k ≠ 0)) : f_X2_firstOf x = some (plO (fsO (opF F) 36)) := by
  unfold f_X2_firstOf
  refine lpF (N := 36) (s := ()) (run := fun fu (_ : Unit) i => f_X2_firstOf_L2 fu (fun (w2_1 : Int32) => some w2_1) (some (-1)) x (nI i)) (Inv := fun i _ => fsO (opF F) i = none) (Post := fun o => o = some (plO (fsO (opF F) 36))) (by decide) rfl ?_ ?_
  · rintro fu _ h
    have h : fsO (opF F) 36 = none := h
    show f_X2_firstOf_L2 (fu + 1) _ _ x (nI 36) = _
    unfold f_X2_firstOf_L2
    rw [if_pos (show (36 : Int32) ≤ nI 36 by decide), h]; rfl
  · rintro i fu _ hi h
    have h : fsO (opF F) i = none := h
    have hh := holds_k x hi
    have e : tb x i = opF F i := hx i
    rw [e] at hh
    by_cases z : opF F i = true
    · refine Or.inl ?_
      have hs : fsO (opF F) (i + 1) = some i := by rw [fsO_n h, if_pos z]
      have up : ∀ m, fsO (opF F) (i + 1 + m) = some i := by
        intro m
        induction m with
        | zero => exact hs
        | succ m ih => exact fsO_s ih
      have := up (35 - i)
      rw [show i + 1 + (35 - i) = 36 by omega] at this
      show f_X2_firstOf_L2 (fu + 1) _ _ x (nI i) = _
      unfold f_X2_firstOf_L2
      rw [if_neg (show ¬ (36 : Int32) ≤ nI i from nI_ge (b := 36) hi (by decide)), hh, if_pos z, if_neg i10, this]; rfl
    · refine Or.inr ⟨(), by rw [fsO_n h, if_neg z], fun w hw => ?_⟩
      show f_X2_firstOf_L2 (fu + 1) _ _ x (nI i) = w
      unfold f_X2_firstOf_L2
      rw [if_neg (show ¬ (36 : Int32) ≤ nI i from nI_ge (b := 36) hi (by decide)), hh, if_neg z, if_pos rfl, nI_p1]
      exact hw
/-! the class's side -/
theorem d_p {p : Nat} (hp : p = 63 ∨ p = 65) : (128 - p = 63 ∨ 128 - p = 65) ∧ 128 - (128 - p) = p ∧ 128 - p ≠ p ∧ 128 - p + 1 ≠ p ∧ 128 - p ≠ p + 1 := by omega
theorem CI_dr {h h' : eH} {X : AX} {p : Nat} {T : Nat × (Nat → Nat)} (hp : CF h p (xF X)) (ho : only (fun j k => dW (128 - p) j k ∨ j = 1 ∨ j = 2) h h') (hT : CT h' T) (hc : CI h X) : CI h' (setT X T) := by
  obtain ⟨c1, -, ⟨q, c3⟩, c4, c5, c6, c7, c8, c9⟩ := hc
  have hpp := hp.1
  have dp := d_p hpp
  have a : ∀ j k, (j < 63 ∨ 66 < j) → j ≠ 1 → j ≠ 2 → ¬ (dW (128 - p) j k ∨ j = 1 ∨ j = 2) := fun j k x1 x2 x3 => by unfold dW; omega
  have w1 : ∀ k, ¬ (dW (128 - p) p k ∨ p = 1 ∨ p = 2) := fun k => by unfold dW; omega
  have w2 : ∀ k, ¬ (dW (128 - p) (p + 1) k ∨ p + 1 = 1 ∨ p + 1 = 2) := fun k => by unfold dW; omega
  obtain ⟨-, r1, r2, e1, e2, e3, e4, e5, e6, e7, e8⟩ := hp
  refine ⟨only_refs ho c1, ⟨p, hpp, (ho.2 _ _).trans r1, (ho.2 _ _).trans r2, (o_I ho (w1 _)).trans e1, (o_I ho (w1 _)).trans e2, (o_I ho (w1 _)).trans e3, fun k => by rw [o_L ho (w1 4)]; exact e4 k, fun k => by rw [o_L ho (w1 5)]; exact e5 k, (o_L ho (w1 _)).trans e6, (o_L ho (w1 _)).trans e7, fun k hk => (o_I ho (w2 _)).trans (e8 k hk)⟩, ⟨q, CR_only ho (fun j k b => a j k (by omega) (by omega) (by omega)) c3⟩, hT, CS_only ho (fun k => ⟨a _ _ (by omega) (by omega) (by omega), a _ _ (by omega) (by omega) (by omega)⟩) c5, CU_only ho (fun j k b => a j k (by omega) (by omega) (by omega)) c6, CK_only ho (a _ _ (by omega) (by omega) (by omega)) (fun j k b b2 => a j k (by omega) (by omega) (by omega)) c7, CH_only ho (fun j k b => a j k (by omega) (by omega) (by omega)) c8, CW_only ho (fun j k b => a j k (by omega) (by omega) (by omega)) c9⟩
theorem begin_C {h : eH} (hR : RefsOK h) (v : Int32) : ∃ g, f_X6_begin LF h 46 v = some g ∧ CS g 46 (fun k => if k = 72 then v else if k = 74 then 100 else 0) ∧ only (fun j _ => j = 46 ∨ j = 47) h g := by
  obtain ⟨h1, x1, x2, x3⟩ := fillI (h := h) (a := 47) (n := 36) 0 (by decide) sh_47 (by decide)
  unfold f_X6_begin f_X6_clearDust
  rw [if_pos iO_46, if_pos iO_46, r_46_0 hR, Option.bind_some, x1, Option.bind_some, Option.bind_some, Option.bind_some, Option.bind_some]
  refine ⟨_, rfl, ⟨fun k hk => ?_, fun k hk => ?_, fun k k1 k7 => ?_, fun k hk => ?_⟩, ?_⟩
  · show _ = (if k = 72 then v else if k = 74 then 100 else (0 : Int32))
    rw [gI_sL, gI_sI, if_neg (by omega), gI_sI, if_neg (by omega), gI_sI, if_neg (by omega), gI_sI, if_neg (by omega), gI_sI, if_neg (by omega), gI_sI, if_neg (by omega), gI_sI, if_neg (by omega), x2 k hk, if_neg (by omega), if_neg (by omega)]
  · show (if 36 + k = 72 then v else if 36 + k = 74 then 100 else (0 : Int32)) = _
    rw [if_neg (by omega), if_neg (by omega), gL_sL, if_pos (show (46 : Nat) = 46 ∧ (8 : Nat) = 8 from ⟨rfl, rfl⟩), tb_0]; rfl
  · rw [gI_sL]
    rcases (show k = 1 ∨ k = 2 ∨ k = 3 ∨ k = 4 ∨ k = 5 ∨ k = 6 ∨ k = 7 by omega) with rfl | rfl | rfl | rfl | rfl | rfl | rfl
    · rw [gI_sI, if_neg (by omega), gI_sI, if_neg (by omega), gI_sI, if_neg (by omega), gI_sI, if_neg (by omega), gI_sI, if_neg (by omega), gI_sI, if_neg (by omega), gI_sI, if_pos ⟨rfl, rfl⟩]; rfl
    · rw [gI_sI, if_neg (by omega), gI_sI, if_neg (by omega), gI_sI, if_neg (by omega), gI_sI, if_neg (by omega), gI_sI, if_neg (by omega), gI_sI, if_pos ⟨rfl, rfl⟩]; rfl
    · rw [gI_sI, if_neg (by omega), gI_sI, if_neg (by omega), gI_sI, if_neg (by omega), gI_sI, if_neg (by omega), gI_sI, if_pos ⟨rfl, rfl⟩]; rfl
    · rw [gI_sI, if_neg (by omega), gI_sI, if_neg (by omega), gI_sI, if_neg (by omega), gI_sI, if_pos ⟨rfl, rfl⟩]; rfl
    · rw [gI_sI, if_neg (by omega), gI_sI, if_neg (by omega), gI_sI, if_pos ⟨rfl, rfl⟩]; rfl
    · rw [gI_sI, if_neg (by omega), gI_sI, if_pos ⟨rfl, rfl⟩]; rfl
    · rw [gI_sI, if_pos ⟨rfl, rfl⟩]; rfl
  · rw [gL_sL, if_pos ⟨rfl, rfl⟩, tb_0] at hk; cases hk
  · exact only_trans (only_mono (fun j k a => by omega) x3) (only_trans (only_sI (Or.inl rfl)) (only_trans (only_sI (Or.inl rfl)) (only_trans (only_sI (Or.inl rfl)) (only_trans (only_sI (Or.inl rfl)) (only_trans (only_sI (Or.inl rfl)) (only_trans (only_sI (Or.inl rfl)) (only_trans (only_sI (Or.inl rfl)) (only_sL (Or.inl rfl)))))))))
def swp (h : eH) (d p : Nat) : eH := sR (sR h 0 15 (some d)) 0 16 (some p)
theorem swp_R {h : eH} {d p j k : Nat} (h1 : ¬ (j = 0 ∧ k = 15)) (h2 : ¬ (j = 0 ∧ k = 16)) : gR (swp h d p) j k = gR h j k := by unfold swp; rw [gR_sR, if_neg h2, gR_sR, if_neg h1]
theorem swp_refs {h : eH} {d p : Nat} (hR : RefsOK h) : RefsOK (swp h d p) := refs_sR (by decide) (refs_sR (by decide) hR)
theorem open_0 {F : FV} {x : Int64} (hF : okF F) (hx : ∀ k, tb x k = decide (kF F k ≠ 0)) : x = 0 ↔ cnF F = 0 := by
  constructor
  · intro e
    refine fb_ct_zero.mpr (fun k hk => ?_)
    show decide (kF F k ≠ 0) = false
    rw [← hx k, e, tb_0]
  · intro e
    refine tb_ext (fun k _ => ?_)
    rw [hx, tb_0]
    by_cases z : k < nF F
    · exact fb_ct_zero.mp e k z
    · exact opF_0 (by omega)
theorem flatG_C {h : eH} {X : AX} {B : Nat} {q : FSt} (hc : CI h X) (ho : okX B X) (hs : flS (xT X).2 (xT X).1 = some q) (w : whF q) : ∃ h1, (cnF (fvF q) = 0 → f_X10_flat LF h 0 = some (h1, -100) ∧ CI h1 (setT X (0, (xT X).2))) ∧ (cnF (fvF q) ≠ 0 → f_X10_flat LF h 0 = some (h1, nI (cnF (fvF q))) ∧ CI h1 (flX X (fvF q))) ∧ ∀ j k, ¬ cls j k → gI h1 j k = gI h j k ∧ gL h1 j k = gL h j k := by
  have hq := okFS_S (fun k hk => ho.2.2.1.2 k hk) hs
  have hF := fv_ok w hq
  obtain ⟨p, hp⟩ := hc.2.1
  obtain ⟨d1, d2, d3, d4, d5⟩ := d_p hp.1
  obtain ⟨g, x1, x2, x3⟩ := readG_C d1 hc.1 hc.2.2.2.1 ho.2.2.1 hs w
  have hRg := only_refs x3 hc.1
  have eT : gI g 1 1 = nI (xT X).1 := (o_I x3 (by unfold dW; omega)).trans hc.2.2.2.1.1
  have t80 := ho.2.2.1.1
  have ct : f_X8_cut LF g 1 0 = some (sI g 1 1 0, 1) := by
    unfold f_X8_cut
    rw [if_neg (by decide), if_pos iO_1, eT, if_pos (show 0 ≤ nI (xT X).1 from nI_le (a := 0) (by omega) (by omega))]
  have o12 : only (fun j k => dW (128 - p) j k ∨ j = 1 ∨ j = 2) h (sI g 1 1 0) := only_trans (only_mono (fun j k a => Or.inl a) x3) (only_sI (Or.inr (Or.inl rfl)))
  have hT12 : CT (sI g 1 1 0) (0, (xT X).2) := ⟨by rw [gI_sI, if_pos ⟨rfl, rfl⟩]; rfl, fun k hk => absurd hk (Nat.not_lt_zero k)⟩
  have hc12 := CI_dr hp o12 hT12 hc
  have cp : CP (sI g 1 1 0) (128 - p) (fvF q) := by
    obtain ⟨e1, e2, e3, e4, e5, e6, e7, e8⟩ := x2
    exact ⟨by rw [gI_sI, if_neg (by omega)]; exact e1, by rw [gI_sI, if_neg (by omega)]; exact e2, by rw [gI_sI, if_neg (by omega)]; exact e3, e4, e5, e6, e7, fun k hk => by rw [gI_sI, if_neg (by omega)]; exact e8 k hk⟩
  have hR12 : RefsOK (sI g 1 1 0) := hc12.1
  have r16 : gR (sI g 1 1 0) 0 16 = some (128 - p) := (o12.2 0 16).trans hp.2.2.1
  have r15 : gR (sI g 1 1 0) 0 15 = some p := (o12.2 0 15).trans hp.2.1
  have cls12 : ∀ j k, ¬ cls j k → gI (sI g 1 1 0) j k = gI h j k ∧ gL (sI g 1 1 0) j k = gL h j k := fun j k a => o12.1 j k (by unfold dW; unfold cls at a; omega)
  generalize sI g 1 1 0 = g12 at ct o12 hT12 hc12 cp hR12 r16 r15 cls12
  have op : ∀ k, tb (gL g12 (128 - p) 4) k = decide (kF (fvF q) k ≠ 0) := cp.2.2.2.1
  have op0 := open_0 hF op
  have start : ∀ z, (if (lg_cmp (gL g12 (128 - p) 4) 0) = 0 then some (g12, (-100)) else (gR g12 0 15).bind fun b17 => (some (128 - p)).bind fun b19 => (some (sR (sR g12 0 15 (some b19)) 0 16 (some b17))).bind fun h21 => (gR h21 0 7).bind fun b23 => (gR h21 0 15).bind fun b25 => if isO LF b25 2 = true then (f_X2_start LF h21 b25).bind fun r28 => if isO LF b23 6 = true then (f_X6_begin LF h21 b23 r28).bind fun r31 => (gR r31 0 5).bind fun b33 => if isO LF b33 0 = true then (f_X0_clear LF r31 b33).bind fun r36 => (gR r36 0 3).bind fun b38 => if isO LF b38 1 = true then (f_X1_clear LF r36 b38).bind fun r41 => (gR (sI r41 0 19 0) 0 15).bind fun b43 => if isO LF b43 2 = true then some (sI r41 0 19 0, f_J13_bitCount_95d88 (gL (sI r41 0 19 0) b43 4)) else none else none else none else none else none) = z → f_X10_flat LF h 0 = z := fun z hz => by
    unfold f_X10_flat
    rw [if_pos iO_0, hp.2.2.1, Option.bind_some, r_0_0 hc.1, Option.bind_some, if_pos (dO d1), x1, Option.bind_some, r_0_0 hRg, Option.bind_some, if_pos iO_1, ct, Option.bind_some, if_pos rfl, r16, Option.bind_some, if_pos (dO d1)]
    exact hz
  by_cases cz : cnF (fvF q) = 0
  · refine ⟨g12, fun _ => ⟨start _ ?_, hc12⟩, fun n => absurd cz n, cls12⟩
    rw [if_pos ((lg_0 _ _).mpr (op0.mpr cz))]
  · have hR21 : RefsOK (swp g12 (128 - p) p) := swp_refs hR12
    obtain ⟨g2, b1, b2, b3⟩ := begin_C hR21 (nI (stF (fvF q)))
    have o2 : only (fun j k => j = 46 ∨ j = 47 ∨ (j = 40 ∧ k = 2) ∨ (j = 6 ∧ k = 2) ∨ (j = 0 ∧ k = 19)) (swp g12 (128 - p) p) (sI (sI (sI g2 40 2 0) 6 2 0) 0 19 0) := only_trans (only_mono (fun j k a => by omega) b3) (only_trans (only_sI (by omega)) (only_trans (only_sI (by omega)) (only_sI (by omega))))
    have sr15 : gR (swp g12 (128 - p) p) 0 15 = some (128 - p) := by unfold swp; rw [gR_sR, if_neg (by omega), gR_sR, if_pos ⟨rfl, rfl⟩]
    have sr16 : gR (swp g12 (128 - p) p) 0 16 = some p := by unfold swp; rw [gR_sR, if_pos ⟨rfl, rfl⟩]
    have hR2 := only_refs b3 hR21
    have est : f_X2_start LF (swp g12 (128 - p) p) (128 - p) = some (nI (stF (fvF q))) := by
      have e3 : gI (swp g12 (128 - p) p) (128 - p) 3 = plO q.2.2.2.1 := by rw [← fv_pl]; exact cp.2.2.1
      have pm := plO_m (p := q.2.2.2.1) (fun x e => (hF.2.2.2.2.2 x e).1)
      unfold f_X2_start
      rw [if_pos (dO d1), e3]
      show (if plO q.2.2.2.1 = -1 then (f_X2_firstOf (gL g12 (128 - p) 4)).bind fun r2 => some r2 else some (plO q.2.2.2.1)) = some (nI (stF (fvF q)))
      unfold stF
      by_cases n : q.2.2.2.1 = none
      · obtain ⟨j, hj⟩ := fst_ex cz
        rw [if_pos (pm.mpr n), firstOf_D op, Option.bind_some, fsO_36 hF, hj]
        have n' : (fvF q).2.2.2 = none := n
        rw [n']; rfl
      · rw [if_neg (fun e => n (pm.mp e))]
        show some (plO q.2.2.2.1) = some (nI (match q.2.2.2.1 with | some p => p | none => (fsO (opF (fvF q)) (nF (fvF q))).getD 0))
        cases hh : q.2.2.2.1 with
        | none => exact absurd hh n
        | some x => rfl
    have ebc : f_J13_bitCount_95d88 (gL (sI (sI (sI g2 40 2 0) 6 2 0) 0 19 0) (128 - p) 4) = nI (cnF (fvF q)) := by
      have e : gL (sI (sI (sI g2 40 2 0) 6 2 0) 0 19 0) (128 - p) 4 = gL g12 (128 - p) 4 := o_L o2 (by omega)
      rw [e, bitC36 (fun k hk => by rw [op]; exact opF_0 (by have := nF_le hF; omega)), ← cnF_36 hF]
      exact congrArg nI (fb_ct_cong (fun k _ => op k))
    refine ⟨sI (sI (sI g2 40 2 0) 6 2 0) 0 19 0, fun e => absurd e cz, fun _ => ⟨start _ ?_, ?_⟩, fun j k a => ?_⟩
    · rw [if_neg (fun e => cz (op0.mp ((lg_0 _ _).mp e))), r15, Option.bind_some, Option.bind_some]
      show ((some (swp g12 (128 - p) p)).bind fun h21 => _) = _
      rw [Option.bind_some, r_0_7 hR21, Option.bind_some, sr15, Option.bind_some, if_pos (dO d1), est, Option.bind_some, if_pos iO_46, b1, Option.bind_some, r_0_5 hR2, Option.bind_some, if_pos iO_40]
      unfold f_X0_clear f_X1_clear
      rw [if_pos iO_40, Option.bind_some, r_0_3 (refs_sI hR2), Option.bind_some, if_pos iO_6, if_pos iO_6, Option.bind_some]
      have r15' : gR (sI (sI (sI g2 40 2 0) 6 2 0) 0 19 0) 0 15 = some (128 - p) := (o2.2 0 15).trans sr15
      rw [r15', Option.bind_some, if_pos (dO d1), ebc]
    · obtain ⟨c1, -, ⟨qq, c3⟩, c4, c5, ⟨nx, n1, n2, n3, n4⟩, c7, c8, c9⟩ := hc12
      obtain ⟨e1, e2, e3, e4, e5, e6, e7, e8⟩ := cp
      have c3' : CR (swp g12 (128 - p) p) qq (xR X).1 (xR X).2 := ⟨c3.1, (swp_R (by omega) (by omega)).trans c3.2.1, (swp_R (by omega) (by omega)).trans c3.2.2.1, c3.2.2.2⟩
      have c4' : CT (swp g12 (128 - p) p) (0, (xT X).2) := c4
      have c9' : CW (swp g12 (128 - p) p) (xW X) := c9
      have z6 : gI (sI (sI (sI g2 40 2 0) 6 2 0) 0 19 0) 6 2 = 0 := by rw [gI_sI, if_neg (by omega), gI_sI, if_pos ⟨rfl, rfl⟩]
      have z40 : gI (sI (sI (sI g2 40 2 0) 6 2 0) 0 19 0) 40 2 = 0 := by rw [gI_sI, if_neg (by omega), gI_sI, if_neg (by omega), gI_sI, if_pos ⟨rfl, rfl⟩]
      have z19 : gI (sI (sI (sI g2 40 2 0) 6 2 0) 0 19 0) 0 19 = 0 := by rw [gI_sI, if_pos ⟨rfl, rfl⟩]
      have oS : only (fun j k => (j = 40 ∧ k = 2) ∨ (j = 6 ∧ k = 2) ∨ (j = 0 ∧ k = 19)) g2 (sI (sI (sI g2 40 2 0) 6 2 0) 0 19 0) := only_trans (only_sI (by omega)) (only_trans (only_sI (by omega)) (only_sI (by omega)))
      have n2' : gI (swp g12 (128 - p) p) 6 1 = nI nx := n2
      refine ⟨only_refs o2 hR21, ⟨128 - p, d1, (o2.2 _ _).trans sr15, ((o2.2 _ _).trans sr16).trans (by rw [d2]), (o_I o2 (by omega)).trans e1, (o_I o2 (by omega)).trans e2, (o_I o2 (by omega)).trans e3, fun k => by rw [o_L o2 (by omega)]; exact e4 k, fun k => by rw [o_L o2 (by omega)]; exact e5 k, (o_L o2 (by omega)).trans e6, (o_L o2 (by omega)).trans e7, fun k hk => (o_I o2 (by omega)).trans (e8 k hk)⟩, ⟨qq, CR_only o2 (fun j k a => by omega) c3'⟩, CT_only o2 (fun j k a => by omega) c4', CS_only oS (fun k => by omega) b2, ⟨nx, n1, (o_I o2 (by omega)).trans n2', z6, fun j hj => absurd hj (Nat.not_lt_zero j)⟩, ⟨z19, fun i hi ht => by have ht : (0 : Nat).testBit i = true := ht; rw [Nat.zero_testBit] at ht; cases ht⟩, ⟨z40, fun k hk => absurd hk (Nat.not_lt_zero k)⟩, CW_only o2 (fun j k a => by omega) c9'⟩
    · have := o2.1 j k (by unfold cls at a; omega)
      exact ⟨this.1.trans (cls12 j k a).1, this.2.trans (cls12 j k a).2⟩

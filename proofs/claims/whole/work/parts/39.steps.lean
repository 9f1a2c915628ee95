/-! Steps that cost: takeSteps, goesOn; steps. -/
def stC (F : FV) (R : Nat × (Nat → Nat)) (S : Nat → Int32) : Nat → Int32 := goA F R.1 R.2 (-1) (payA S (nI (coA F S)))
def walkA (F : FV) (R : Nat × (Nat → Nat)) : Nat → (Nat → Int32) → Nat × (Nat → Int32)
  | 0, S => (0, S)
  | m + 1, S => if S 74 < nI (coA F S) then (0, S) else ((walkA F R m (stC F R S)).1 + 1, (walkA F R m (stC F R S)).2)
theorem okT_m : okT (-1) := Or.inl rfl
theorem okA_stC {F : FV} {B : Nat} {R : Nat × (Nat → Nat)} {S : Nat → Int32} (hF : okF F) (ho : okA F B S) (hc : ¬ S 74 < nI (coA F S)) : okA F (B + 1) (stC F R S) := okA_go hF okT_m (okA_pay ho hc coA_le)
theorem okA_walk {F : FV} {R : Nat × (Nat → Nat)} (hF : okF F) : ∀ (m B : Nat) (S : Nat → Int32), okA F B S → okA F (B + m) (walkA F R m S).2
  | 0, _, _, ho => ho
  | m + 1, B, S, ho => by
    unfold walkA
    by_cases hc : S 74 < nI (coA F S)
    · rw [if_pos hc]; exact okA_mono (by omega) ho
    · rw [if_neg hc]
      have := okA_walk (R := R) hF m (B + 1) (stC F R S) (okA_stC hF ho hc)
      exact okA_mono (by omega) this
theorem walkA_le {F : FV} {R : Nat × (Nat → Nat)} : ∀ (m : Nat) (S : Nat → Int32), (walkA F R m S).1 ≤ m
  | 0, _ => Nat.le_refl 0
  | m + 1, S => by
    have := walkA_le (F := F) (R := R) m (stC F R S)
    unfold walkA
    split
    · exact Nat.zero_le _
    · exact Nat.succ_le_succ this
theorem takeSteps_loop {k63 : eH → Nat → Int32 → Int32 → Int32 → Option (eH × Int32)} {F : FV} {R : Nat × (Nat → Nat)} {p q N : Nat} {a b : Int32} (hF : okF F) (hw : okR R.1 R.2) (hN : N ≤ 200) : ∀ (m i fu B : Nat) (h : eH) (S : Nat → Int32), i + m = N → B + m < 2 ^ 31 → RefsOK h → CF h p F → CR h q R.1 R.2 → CS h 46 S → okA F B S → ∃ h', f_X10_takeSteps_L35 LF (fu + m + 1) k63 h 0 (nI N) a b (nI i) (nI i) = k63 h' 0 a b (nI (i + (walkA F R m S).1)) ∧ CS h' 46 (walkA F R m S).2 ∧ only acS h h' := by
  intro m
  induction m with
  | zero =>
    intro i fu B h S hi hB hR hp hq hS ho
    have : i = N := by omega
    subst this
    refine ⟨h, ?_, hS, only_rfl⟩
    unfold f_X10_takeSteps_L35
    rw [if_pos (nI_le (Nat.le_refl i) (by omega))]
    rfl
  | succ m ih =>
    intro i fu B h S hi hB hR hp hq hS ho
    obtain ⟨h1, x1, x2, x3⟩ := goOn_1 (ft := -1) hF hw (show (46 : Nat) ∈ stL by decide) ho (by omega) hR hq hp hS okT_m
    have o1 : only acS h h1 := only_mono (fun j k a => by unfold gW at a; unfold acS; have := hq.1; omega) x3
    have hR1 := only_refs o1 hR
    unfold f_X10_takeSteps_L35
    rw [if_neg (show ¬ nI N ≤ nI i from nI_ge (by omega) (by omega)), if_pos iO_0, r_0_7 hR, Option.bind_some, x1, Option.bind_some]
    unfold walkA
    by_cases hc : S 74 < nI (coA F S)
    · rw [if_pos hc] at x2
      rw [if_pos hc, if_pos hc, if_pos rfl]
      exact ⟨h1, rfl, x2, o1⟩
    · rw [if_neg hc] at x2
      rw [if_neg hc, if_neg hc, if_neg i10]
      obtain ⟨h2, y1, y2, y3⟩ := ih (i + 1) fu (B + 1) h1 (stC F R S) (by omega) (by omega) hR1 (CF_only o1 (fun j k a b => by unfold acS; omega) hp) (CR_only o1 (fun j k a => by unfold acS; omega) hq) x2 (okA_stC hF ho hc)
      refine ⟨h2, ?_, y2, only_trans o1 y3⟩
      show f_X10_takeSteps_L35 LF (fu + m + 1) k63 h1 0 (nI N) a b (nI i + Int32.ofInt 1) (nI i + Int32.ofInt 1) = _
      rw [nI_p1, y1]
      exact congrArg (fun z => k63 h2 0 a b (nI z)) (by show _ = i + ((walkA F R m (stC F R S)).1 + 1); omega)
theorem goesOn_loop {k23 k31 : eH → Int32 → Option (eH × Int32)} {F : FV} {R : Nat × (Nat → Nat)} {N a : Nat} (hF : okF F) (hw : okR R.1 R.2) (ha : a = 76 ∨ a = 77) (hN : N ≤ 200) (hk : k23 = k31) : ∀ (m i fu B : Nat) (h : eH) (S : Nat → Int32), i + m = N → RefsOK h → MF h F → MR h R.1 R.2 → gI h 73 23 = -1 → MS h a 0 S → okA F B S → ∃ h', f_X11_goesOn_L2 LF (fu + m + 1) k23 k31 h 73 a (nI N) (nI i) = k31 h' (nI (i + (walkA F R m S).1)) ∧ MS h' a 0 (walkA F R m S).2 ∧ only (fun j _ => j = a ∨ j = 82 ∨ j = 83) h h' := by
  subst hk
  intro m
  induction m with
  | zero =>
    intro i fu B h S hi hR hp hq hf hS ho
    have : i = N := by omega
    subst this
    refine ⟨h, ?_, hS, only_rfl⟩
    unfold f_X11_goesOn_L2
    rw [if_pos (nI_le (Nat.le_refl i) (by omega))]
    rfl
  | succ m ih =>
    intro i fu B h S hi hR hp hq hf hS ho
    obtain ⟨⟨sp, a1, a2, a3, a4⟩, -, -, -, -, -⟩ := id ho
    obtain ⟨h1, x1, x2, x3⟩ := step_M (ft := -1) (co := coA F S) hF hw ha ho hR hq hp hS hf okT_m coA_le
    unfold f_X11_goesOn_L2
    rw [if_neg (show ¬ nI N ≤ nI i from nI_ge (by omega) (by omega)), if_pos (iM ha).1, if_pos iO_73, c72, MS_0 hS (by omega), a4, cost_M hF hR hp a1 a4, Option.bind_some, x1, Option.bind_some]
    unfold walkA
    by_cases hc : S 74 < nI (coA F S)
    · rw [if_pos hc] at x2
      rw [if_pos hc, if_pos hc, if_pos rfl]
      exact ⟨h1, rfl, x2, x3⟩
    · rw [if_neg hc] at x2
      rw [if_neg hc, if_neg hc, if_neg i10]
      obtain ⟨h2, y1, y2, y3⟩ := ih (i + 1) fu (B + 1) h1 (stC F R S) (by omega) (only_refs x3 hR) (MF_only x3 (fun k _ => by omega) (fun k => by omega) hp) (MR_only x3 (by omega) (fun k => by omega) hq) ((o_I x3 (by omega)).trans hf) x2 (okA_stC hF ho hc)
      refine ⟨h2, ?_, y2, only_trans x3 y3⟩
      show f_X11_goesOn_L2 LF (fu + m + 1) k23 k23 h1 73 a (nI N) (nI i + Int32.ofInt 1) = _
      rw [nI_p1, y1]
      exact congrArg (fun z => k23 h2 (nI z)) (by show _ = i + ((walkA F R m (stC F R S)).1 + 1); omega)
theorem goesOn_M {F : FV} {R : Nat × (Nat → Nat)} {N a B : Nat} {h : eH} {S : Nat → Int32} (hF : okF F) (hw : okR R.1 R.2) (ha : a = 76 ∨ a = 77) (hN : N ≤ 200) (hR : RefsOK h) (hp : MF h F) (hq : MR h R.1 R.2) (hf : gI h 73 23 = -1) (hS : MS h a 0 S) (ho : okA F B S) : ∃ h', f_X11_goesOn LF h 73 a (nI N) = some (h', nI (walkA F R N S).1) ∧ MS h' a 0 (walkA F R N S).2 ∧ only (fun j _ => j = a ∨ j = 82 ∨ j = 83) h h' := by
  obtain ⟨fu, hfu⟩ := fu_s N (by omega)
  obtain ⟨h', x1, x2, x3⟩ := goesOn_loop (k23 := fun (h7 : eH) (w3_8 : Int32) => some (h7, w3_8)) (k31 := fun (h9 : eH) (w2_10 : Int32) => some (h9, w2_10)) hF hw ha hN rfl N 0 fu B h S (by omega) hR hp hq hf hS ho
  refine ⟨h', ?_, x2, x3⟩
  unfold f_X11_goesOn
  rw [hfu]
  rw [Nat.zero_add] at x1
  exact x1
/-- the two numbers of the row behind steps -/
def stW (S S' : Nat → Int32) : List Int64 := [(S' 75 - S 75).toInt64, (S' 77 - S 77).toInt64]
theorem takeSteps_C {h : eH} {X : AX} {B N : Nat} (hc : CI h X) (ho : okX B X) (hB : B + 200 < 2 ^ 31) (hN : N ≤ 200) : ∃ h', f_X10_takeSteps LF h 0 (nI N) = some (h', nI (walkA (xF X) (xR X) N (xS X)).1) ∧ CI h' (setW (setS X (walkA (xF X) (xR X) N (xS X)).2) (stW (xS X) (walkA (xF X) (xR X) N (xS X)).2)) ∧ only acC h h' := by
  obtain ⟨p, hp⟩ := hc.2.1
  obtain ⟨q, hq⟩ := hc.2.2.1
  obtain ⟨fu, hfu⟩ := fu_s N (by omega)
  obtain ⟨h1, x1, x2, x3⟩ := takeSteps_loop (k63 := fun (h13 : eH) (w0_14 : Nat) (w2_15 : Int32) (w3_16 : Int32) (w4_17 : Int32) => f_X10_takeSteps_J63 LF h13 w0_14 w2_15 w3_16 w4_17) (a := xS X 75) (b := xS X 77) ho.1 ho.2.1 hN N 0 fu B h (xS X) (by omega) (by omega) hc.1 hp hq hc.2.2.2.2.1 ho.2.2.2.1
  have hR1 := only_refs x3 hc.1
  rw [Nat.zero_add] at x1
  generalize walkA (xF X) (xR X) N (xS X) = w at x1 x2 ⊢
  have e4 : gI h 46 4 = xS X 75 := hc.2.2.2.2.1.2.2.1 4 (by omega) (by omega)
  have e6 : gI h 46 6 = xS X 77 := hc.2.2.2.2.1.2.2.1 6 (by omega) (by omega)
  obtain ⟨b1, b2⟩ := rowbeg_C h1
  have hRb : RefsOK (sI h1 3 1 0) := refs_sI hR1
  obtain ⟨h3, r1, r2, r3⟩ := rowadd_C hRb b2 (by decide) ((w.2 75 - xS X 75).toInt64)
  have hR3 := only_refs r3 hRb
  obtain ⟨h4, s1, s2, s3⟩ := rowadd_C hR3 r2 (show 1 < 37 by decide) ((w.2 77 - xS X 77).toInt64)
  have ob : only (fun j _ => j = 3 ∨ j = 4) h1 (sI h1 3 1 0) := only_sI (Or.inl rfl)
  have f4 : gI (sI h1 3 1 0) 46 4 = w.2 75 := (o_I ob (by omega)).trans (x2.2.2.1 4 (by omega) (by omega))
  have f6 : gI h3 46 6 = w.2 77 := ((o_I r3 (by omega)).trans (o_I ob (by omega))).trans (x2.2.2.1 6 (by omega) (by omega))
  have oA : only (fun j _ => j = 3 ∨ j = 4) h1 h4 := only_trans ob (only_trans r3 s3)
  have oZ : only acC h h4 := only_trans (only_mono (fun j k a => by unfold acS at a; unfold acC; omega) x3) (only_mono (fun j k a => by unfold acC; omega) oA)
  refine ⟨h4, ?_, CI_act oZ (CS_only oA (fun k => by omega) x2) s2 hc, oZ⟩
  unfold f_X10_takeSteps
  rw [if_neg (nI_pos (by omega)), if_pos (show nI N ≤ 200 from nI_le (b := 200) hN (by decide)), if_pos iO_0, r_0_7 hc.1, Option.bind_some, if_pos iO_46, Option.bind_some, if_pos iO_46, hfu, e4, e6]
  refine Eq.trans x1 ?_
  show f_X10_takeSteps_J63 LF h1 0 (xS X 75) (xS X 77) (nI w.1) = _
  unfold f_X10_takeSteps_J63
  rw [if_pos iO_0, r_0_1 hR1, Option.bind_some, if_pos iO_3, b1, Option.bind_some, r_0_1 hRb, Option.bind_some, r_0_7 hRb, Option.bind_some, if_pos iO_46, if_pos iO_3, f4, r1, Option.bind_some, r_0_1 hR3, Option.bind_some, r_0_7 hR3, Option.bind_some, if_pos iO_46, if_pos iO_3, f6, s1, Option.bind_some]
theorem in_00 (v : Int32) (b : Int32) : f_X11_in v.toInt64 0 b.toInt64 = if v < 0 then 0 else if b < v then 0 else 1 := in_spec v 0 b
theorem pos_le (v : Int32) (n : Nat) (hn : n < 2 ^ 31 - 1) : v < 0 ∨ (¬ v < 0 ∧ ¬ v ≤ nI n ∧ nI n < v) ∨ ∃ j, j ≤ n ∧ v = nI j := by
  rcases pk_ix v (n := n + 1) (by omega) with h | h | ⟨j, j1, j2⟩
  · exact Or.inl h
  · rw [fa_le, nI_toInt (by omega)] at h
    have e0 : (0 : Int32).toInt = 0 := by decide
    refine Or.inr (Or.inl ⟨?_, ?_, ?_⟩)
    · rw [fa_lt]; omega
    · rw [fa_le, nI_toInt (by omega)]; omega
    · rw [fa_lt, nI_toInt (by omega)]; omega
  · exact Or.inr (Or.inr ⟨j, by omega, j2⟩)
/-- refused behind the copy -/
theorem PR_no2 {B : Nat} {h hA : eH} {X : AX} {a : Option (eH × Int32)} {b : eH → Option (eH × Int32)} {r : Int32} (hc : CI hA X) (hm : MI h X) (ho : okX B X) (hcl : only cls h hA) (hC : a = some (hA, r)) (hM : ∀ h1, RefsOK h1 → MI h1 X → ∃ h2, b h1 = some (h2, r) ∧ MI h2 X ∧ only mdl h1 h2) : PR B a b :=
  PR_mk hm ⟨hA, hC, hc, hcl⟩ hM (okX_mono (by omega) ho)
theorem remem_no {h : eH} {v : Int32} (hv : v < 0) : f_X10_remembered LF h 0 v = some (h, v) := by unfold f_X10_remembered; rw [if_pos hv]
theorem steps_P {B : Nat} {h : eH} {X : AX} (hc : CI h X) (hm : MI h X) (ho : okX B X) (hB : B + 300 < 2 ^ 31) (v : Int32) : PR B (f_X10_steps LF h 0 v) (fun h1 => f_X11_steps LF h1 73 v) := by
  obtain ⟨hA, y1, y2, y3, y4⟩ := before_C hc
  have start : ∀ z, f_X10_takeSteps LF hA 0 v = z → f_X10_steps LF h 0 v = z.bind fun r9 => (f_X10_remembered LF r9.1 0 r9.2).bind fun r11 => some (r11.1, r11.2) := fun z hz => by
    unfold f_X10_steps
    rw [if_pos iO_0, r_0_8 hc.1, Option.bind_some, r_0_7 hc.1, Option.bind_some, if_pos iO_48, y1, Option.bind_some, hz]
  have in2 : f_X11_in v.toInt64 0 200 = if v < 0 then 0 else if nI 200 < v then 0 else 1 := in_00 v 200
  have bad : f_X10_takeSteps LF hA 0 v = some (hA, -1) → f_X11_in v.toInt64 0 200 = 0 → PR B (f_X10_steps LF h 0 v) (fun h1 => f_X11_steps LF h1 73 v) := fun z1 z2 => by
    refine PR_no2 (r := -1) y2 hm ho (only_mono (fun _ _ => csc_cls) y4) ?_ (fun h1 hR h9 => ⟨_, ?_, MI_scr thr_M h9, only_mono (fun _ _ => msc_mdl) thr_M⟩)
    · rw [start _ z1, Option.bind_some, remem_no (show (-1 : Int32) < 0 by decide), Option.bind_some]
    · show f_X11_steps LF h1 73 v = _
      unfold f_X11_steps
      rw [if_pos iO_73, z2, if_pos rfl]
  rcases pos_le v 200 (by decide) with hv | ⟨hv, hv2, hv3⟩ | ⟨N, hN, rfl⟩
  · refine bad ?_ (by rw [in2, if_pos hv])
    unfold f_X10_takeSteps; rw [if_pos hv]
  · refine bad ?_ (by rw [in2, if_neg hv, if_pos hv3])
    unfold f_X10_takeSteps; rw [if_neg hv, if_neg (show ¬ v ≤ 200 from hv2)]
  · obtain ⟨hC, x1, x2, x3⟩ := takeSteps_C y2 ho (by omega) hN
    have hwo : okA (xF X) (B + 300) (walkA (xF X) (xR X) N (xS X)).2 := okA_mono (by omega) (okA_walk ho.1 N B _ ho.2.2.2.1)
    have hin : ¬ f_X11_in (nI N).toInt64 0 200 = 0 := by rw [in2, if_neg (nI_pos (by omega)), if_neg (nI_nlt hN (by omega))]; exact i10
    refine PR_mk hm (X' := setU (setW (setS X (walkA (xF X) (xR X) N (xS X)).2) (stW (xS X) (walkA (xF X) (xR X) N (xS X)).2)) (pushU (xU X) (xS X))) (r := nI (walkA (xF X) (xR X) N (xS X)).1) ?_ (fun h1 hR h9 => ?_) (okX_push (okX_mono (by omega) ho) (okA_mono (by omega) ho.2.2.2.1) hwo (show 2 ≤ 37 by decide))
    · have hle := walkA_le (F := xF X) (R := xR X) N (xS X)
      obtain ⟨hD, z1, z2, z3⟩ := remem_C x2 ho.2.2.2.2.1.1 (CS_only x3 (fun k => by unfold acC; omega) y3) (v := nI (walkA (xF X) (xR X) N (xS X)).1) (nI_pos (by omega))
      refine ⟨hD, ?_, z2, only_trans (only_mono (fun _ _ => csc_cls) y4) (only_trans (only_mono (fun _ _ => acC_cls) x3) z3)⟩
      rw [start _ x1, Option.bind_some, z1, Option.bind_some]
    · have hR0 : RefsOK (sI h1 73 0 0) := refs_sI hR
      obtain ⟨hE, u1, u2, u3, u4⟩ := putsBy_M hR0 (MI_scr thr_M h9) ho.2.2.2.2.1.1
      have hRE := only_refs u4 hR0
      obtain ⟨hG, w1, w2, w3⟩ := goesOn_M ho.1 ho.2.1 (Or.inl rfl) hN hRE u2.1 u2.2.1 u2.2.2.1 u2.2.2.2.2.1 ho.2.2.2.1
      have hRG := only_refs w3 hRE
      generalize walkA (xF X) (xR X) N (xS X) = w at w1 w2 ⊢
      have hRb : RefsOK (sI hG 73 1 0) := refs_sI hRG
      obtain ⟨h3, r1, r2, r3⟩ := rowadd_M hRb (rowbeg_M hG) (by decide) ((w.2 75 - xS X 75).toInt64)
      have hR3 := only_refs r3 hRb
      obtain ⟨h4, s1, s2, s3⟩ := rowadd_M hR3 r2 (show 1 < 48 by decide) ((w.2 77 - xS X 77).toInt64)
      have ob : only (fun j k => (j = 73 ∧ k = 1) ∨ j = 74) hG (sI hG 73 1 0) := only_sI (Or.inl ⟨rfl, rfl⟩)
      have e4 : gI hE 76 75 = xS X 75 := MS_0 u2.2.2.2.2.1 (by omega)
      have e6 : gI hE 76 77 = xS X 77 := MS_0 u2.2.2.2.2.1 (by omega)
      have f4 : gI (sI hG 73 1 0) 76 75 = w.2 75 := (o_I ob (by omega)).trans (MS_0 w2 (by omega))
      have f6 : gI h3 76 77 = w.2 77 := ((o_I r3 (by omega)).trans (o_I ob (by omega))).trans (MS_0 w2 (by omega))
      have oA : only (fun j k => (j = 73 ∧ k = 1) ∨ j = 74) hG h4 := only_trans ob (only_trans r3 s3)
      have oZ : only acM hE h4 := only_trans (only_mono (fun j k a => by unfold acM; omega) w3) (only_mono (fun j k a => by unfold acM; omega) oA)
      obtain ⟨hZ, z1, z2, z3⟩ := adds_M (only_refs s3 hR3) (MI_act oZ (MS_only oA (fun k => by omega) w2) s2 u2) ho.2.2.2.2.1.1 (MS_only oZ (fun k => by unfold acM; omega) u3) (nI w.1)
      refine ⟨hZ, ?_, z2, only_trans (only_mono (fun _ _ => msc_mdl) thr_M) (only_trans (only_mono (fun j k a => by unfold mdl; omega) u4) (only_trans (only_mono (fun _ _ => acM_mdl) oZ) z3))⟩
      show f_X11_steps LF h1 73 (nI N) = _
      obtain ⟨-, -, -, i75, -, i77, -⟩ := iM (a := 76) (Or.inl rfl)
      unfold f_X11_steps
      rw [if_pos iO_73, if_neg hin, u1, Option.bind_some, r_73_7 hRE, Option.bind_some, if_pos i75, Option.bind_some, if_pos i77, Option.bind_some, w1, Option.bind_some, r_73_7 hRb, Option.bind_some, if_pos i75, c75, c77, f4, e4, e6, r1, Option.bind_some, r_73_7 hR3, Option.bind_some, if_pos i77, f6, s1, Option.bind_some, z1, Option.bind_some]

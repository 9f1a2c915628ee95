/-! run: one act done, the class's way; all acts done, both ways -/
theorem okA_act {F : FV} {R : Nat × (Nat → Nat)} {B k v : Nat} {S : Nat → Int32} (hF : okF F) (ho : okA F B S) (h0 : k = 0 → v ≤ 9) (h1 : k = 1 → v < 4) : okA F (B + 9) (actS F R S k v).2 := by
  unfold actS
  by_cases q0 : k = 0
  · rw [if_pos q0]
    have := h0 q0
    exact okA_mono (show B + v ≤ B + 9 by omega) (okA_walk hF v B S ho)
  · rw [if_neg q0]
    by_cases q1 : k = 1
    · rw [if_pos q1]; exact okA_mono (by omega) (okA_tu ho (h1 q1))
    · rw [if_neg q1]
      by_cases q2 : k = 2
      · rw [if_pos q2]; exact okA_mono (by omega) (okA_acD hF ho _)
      · rw [if_neg q2]
        by_cases q3 : k = 3
        · rw [if_pos q3]; exact okA_mono (by omega) (okA_acH hF ho _)
        · rw [if_neg q3]; exact okA_mono (by omega) (okA_acL ho _)
theorem at_any {h : eH} {T : Nat × (Nat → Nat)} {i : Nat} (hR : RefsOK h) (hT : CT h T) (ho : okTx T) : ∃ z, f_X8_at LF h 1 (nI i) = some z := by
  by_cases hi : i < T.1
  · exact ⟨_, at_C hR hT ho hi⟩
  · by_cases q : i < 2 ^ 31
    · unfold f_X8_at
      have := ho.1
      rw [if_neg (nI_pos q), if_pos iO_1, hT.1, if_pos (nI_le (by omega) q)]
      exact ⟨_, rfl⟩
    · unfold f_X8_at
      by_cases n0 : nI i < 0
      · rw [if_pos n0]; exact ⟨_, rfl⟩
      · rw [if_neg n0, if_pos iO_1]
        by_cases n1 : gI h 1 1 ≤ nI i
        · rw [if_pos n1]; exact ⟨_, rfl⟩
        · rw [if_neg n1]
          by_cases n2 : (80 : Int32) ≤ nI i
          · rw [if_pos n2]; exact ⟨_, rfl⟩
          · rcases pk_ix (nI i) (n := 80) (by omega) with x | x | ⟨j, j1, j2⟩
            · exact absurd x n0
            · exact absurd x n2
            · rw [if_neg n2, r_1_0 hR, Option.bind_some, iA_2, j2, if_pos (in_nI j1 (by decide))]; exact ⟨_, rfl⟩
theorem okX_sw {B B' : Nat} {X : AX} {S : Nat → Int32} {l : List Int64} (ho : okX B X) (hB : B ≤ B') (hS : okA (xF X) B' S) (hl : l.length ≤ 37) : okX B' (setW (setS X S) l) := by
  obtain ⟨o1, o2, o3, o4, o5, o6, o7, o8⟩ := okX_mono hB ho
  exact ⟨o1, o2, o3, hS, o5, o6, o7, hl⟩
theorem num2 {x y : Nat} (hx : 48 ≤ x) (hy : 48 ≤ y) : (((nI x - 48) * 10) + nI y) - 48 = nI (10 * (x - 48) + (y - 48)) := by
  rw [show nI x - 48 = nI (x - 48) from pk_sub (b := 48) hx, show (10 : Int32) = nI 10 from rfl, pk_mul, nI_add, show nI ((x - 48) * 10 + y) - 48 = nI ((x - 48) * 10 + y - 48) from pk_sub (b := 48) (by omega)]
  exact congrArg nI (by omega)
theorem act_C {h : eH} {X : AX} {B a : Nat} (hc : CI h X) (ho : okX B X) (hB : B + 200 < 2 ^ 31) (g : actGood (xT X).2 (xT X).1 a) : ∃ h' l, f_X10_actOfRun LF h 0 (nI a) = some (h', if (actS (xF X) (xR X) (xS X) (actC ((xT X).2 a)) (vlA (xT X).2 a)).1 then 1 else 0) ∧ CI h' (setW (setS X (actS (xF X) (xR X) (xS X) (actC ((xT X).2 a)) (vlA (xT X).2 a)).2) l) ∧ l.length ≤ 37 ∧ only acC h h' := by
  obtain ⟨v1, v2, v3, v4, v5, v6, v7, v8⟩ := good_v g
  have hT := hc.2.2.2.1
  have hoT := ho.2.2.1
  have t80 := hoT.1
  have e1 : f_X8_at LF h 1 (nI a + 1) = some (nI ((xT X).2 (a + 1))) := by
    rw [show nI a + 1 = nI (a + 1) from nI_add a 1]; exact at_C hc.1 hT hoT (by omega)
  have e0 := at_C hc.1 hT hoT (show a < (xT X).1 by omega)
  have es : nI ((xT X).2 (a + 1)) - 48 = nI ((xT X).2 (a + 1) - 48) := pk_sub (b := 48) v2
  obtain ⟨z, e2⟩ := at_any (i := a + 2) hc.1 hT hoT
  have e2' : f_X8_at LF h 1 (nI a + 2) = some z := by rw [show nI a + 2 = nI (a + 2) from nI_add a 2]; exact e2
  have ez : dgB ((xT X).2 a) = 2 → z = nI ((xT X).2 (a + 2)) := fun d => by
    have := at_C hc.1 hT hoT (show a + 2 < (xT X).1 by omega)
    rw [e2] at this; exact Option.some.inj this
  have st : ∀ {h' : eH} {S' : Nat → Int32}, CS h' 46 S' → only acS h h' → CI h' (setW (setS X S') (xW X)) ∧ (xW X).length ≤ 37 ∧ only acC h h' := fun {h'} {S'} s o => ⟨show CI h' (setS X S') from CI_st o s hc, ho.2.2.2.2.2.2.2, only_mono (fun j k a => by unfold acS at a; unfold acC; omega) o⟩
  unfold f_X10_actOfRun
  rw [if_pos iO_0, r_0_0 hc.1, Option.bind_some, if_pos iO_1, e1, Option.bind_some, Option.bind_some, if_pos iO_1, e2', Option.bind_some, Option.bind_some, if_pos iO_1, e0, Option.bind_some]
  rcases dgB_ne g.1 with q | q | q | q | q
  · have d1 := (v6 (by rw [q]; decide))
    rw [q, if_neg (by decide), if_neg (by decide), if_neg (by decide), if_pos (show nI 115 = 115 from rfl), es, ← d1.2]
    generalize vlA (xT X).2 a = v at d1 ⊢
    obtain ⟨h', x1, x2, x3⟩ := takeSteps_C (N := v) hc ho hB (by omega)
    refine ⟨h', stW (xS X) (walkA (xF X) (xR X) v (xS X)).2, ?_, x2, (show 2 ≤ 37 by decide), x3⟩
    have wl := walkA_le (F := xF X) (R := xR X) v (xS X)
    rw [x1, Option.bind_some]
    show (if 0 < nI (walkA (xF X) (xR X) v (xS X)).1 then some (h', (1 : Int32)) else if nI v = 0 then some (h', 1) else some (h', 0)) = some (h', if decide (0 < (walkA (xF X) (xR X) v (xS X)).1 ∨ v = 0) = true then 1 else 0)
    by_cases q : 0 < (walkA (xF X) (xR X) v (xS X)).1
    · rw [if_pos (show 0 < nI (walkA (xF X) (xR X) v (xS X)).1 from nI_lt (a := 0) q (by omega)), decide_eq_true (Or.inl q)]; rfl
    · rw [if_neg (show ¬ 0 < nI (walkA (xF X) (xR X) v (xS X)).1 from nI_nlt (a := 0) (by omega) (by omega))]
      by_cases q2 : v = 0
      · rw [if_pos (by rw [q2]; rfl), decide_eq_true (Or.inr q2)]; rfl
      · rw [if_neg (nI_ne0 (by omega) (by omega)), decide_eq_false (by omega)]; rfl
  · have d1 := (v6 (by rw [q]; decide))
    have v44 := v4 q
    rw [q, if_neg (by decide), if_neg (by decide), if_neg (by decide), if_neg (by decide), if_pos (show nI 116 = 116 from rfl), es, ← d1.2]
    have lt4 : vlA (xT X).2 a < 4 := by omega
    generalize vlA (xT X).2 a = v at d1 lt4 ⊢
    obtain ⟨h', x1, x2, x3⟩ := turn_k (show (46 : Nat) ∈ stL by decide) hc.2.2.2.2.1 (nI v)
    have o : only acS h h' := only_mono (fun j k a => by unfold acS; omega) x3
    obtain ⟨d, d4, ed⟩ := (okA_tu (v := v) ho.2.2.2.1 lt4).2.1
    have eg : gI h' 46 2 = nI d := (x2.2.2.1 2 (by omega) (by omega)).trans ed
    refine ⟨h', xW X, ?_, st x2 o⟩
    unfold f_X10_turnRight
    rw [if_neg (nI_pos (by omega)), if_pos (show nI v < 4 from nI_lt (b := 4) lt4 (by decide)), if_pos iO_0, r_0_7 hc.1, Option.bind_some, if_pos iO_46, x1, Option.bind_some, r_0_7 (only_refs o hc.1), Option.bind_some, if_pos iO_46, eg, Option.bind_some]
    show (if nI d < 0 then some (h', (0 : Int32)) else some (h', 1)) = some (h', 1)
    rw [if_neg (nI_pos (by omega))]
  · have d1 := (v6 (by rw [q]; decide))
    rw [q, if_neg (by decide), if_pos (show nI 100 = 100 from rfl), es, ← d1.2]
    generalize vlA (xT X).2 a = v at d1 ⊢
    obtain ⟨h', x1, x2, x3⟩ := passDays_C hc ho (nI v)
    refine ⟨h', xW X, ?_, st x2 x3⟩
    rw [x1, Option.bind_some]
    exact neg_r
  · have dd : dgB ((xT X).2 a) = 2 := by rw [q]; decide
    have ev : vlA (xT X).2 a = 10 * ((xT X).2 (a + 1) - 48) + ((xT X).2 (a + 2) - 48) := by unfold vlA; rw [if_pos dd]
    rw [q, if_pos (show nI 99 = 99 from rfl), ez dd, num2 v2 (v1 dd).2.2.1, ← ev]
    generalize vlA (xT X).2 a = v
    obtain ⟨h', x1, x2, x3⟩ := moveChair_C hc ho (nI v)
    refine ⟨h', xW X, ?_, st x2 x3⟩
    rw [x1, Option.bind_some]
    exact neg_r
  · have dd : dgB ((xT X).2 a) = 2 := by rw [q]; decide
    have ev : vlA (xT X).2 a = 10 * ((xT X).2 (a + 1) - 48) + ((xT X).2 (a + 2) - 48) := by unfold vlA; rw [if_pos dd]
    rw [q, if_neg (by decide), if_neg (by decide), if_pos (show nI 108 = 108 from rfl), ez dd, num2 v2 (v1 dd).2.2.1, ← ev]
    generalize vlA (xT X).2 a = v
    obtain ⟨h', x1, x2, x3⟩ := loadUp_C hc ho (nI (10 * v))
    refine ⟨h', xW X, ?_, st x2 x3⟩
    rw [show nI v * 10 = nI (10 * v) by rw [show (10 : Int32) = nI 10 from rfl, pk_mul]; exact congrArg nI (by omega), x1, Option.bind_some]
    exact neg_r
def rnD (F : FV) (R : Nat × (Nat → Nat)) (c : Nat → Nat) : Nat → Nat → (Nat → Int32) → Nat × (Nat → Int32)
  | 0, m, S => (m, S)
  | k + 1, m, S => if (actS F R S (actC (c (psA c m))) (vlA c (psA c m))).1 then rnD F R c k (m + 1) (actS F R S (actC (c (psA c m))) (vlA c (psA c m))).2 else (m, (actS F R S (actC (c (psA c m))) (vlA c (psA c m))).2)
theorem rnD_t {F : FV} {R : Nat × (Nat → Nat)} {c : Nat → Nat} {k m : Nat} {S : Nat → Int32} (h : (actS F R S (actC (c (psA c m))) (vlA c (psA c m))).1 = true) : rnD F R c (k + 1) m S = rnD F R c k (m + 1) (actS F R S (actC (c (psA c m))) (vlA c (psA c m))).2 := if_pos h
theorem rnD_f {F : FV} {R : Nat × (Nat → Nat)} {c : Nat → Nat} {k m : Nat} {S : Nat → Int32} (h : ¬ (actS F R S (actC (c (psA c m))) (vlA c (psA c m))).1 = true) : rnD F R c (k + 1) m S = (m, (actS F R S (actC (c (psA c m))) (vlA c (psA c m))).2) := if_neg h
theorem rnD_le {F : FV} {R : Nat × (Nat → Nat)} {c : Nat → Nat} : ∀ (k m : Nat) (S : Nat → Int32), (rnD F R c k m S).1 ≤ m + k
  | 0, m, S => Nat.le_refl _
  | k + 1, m, S => by
    by_cases q : (actS F R S (actC (c (psA c m))) (vlA c (psA c m))).1 = true
    · rw [rnD_t q]
      have := rnD_le (F := F) (R := R) (c := c) k (m + 1) (actS F R S (actC (c (psA c m))) (vlA c (psA c m))).2
      omega
    · rw [rnD_f q]; show m ≤ m + (k + 1); omega
/-- a good act, as the two sides need it -/
theorem good_h {c : Nat → Nat} {lim a : Nat} (hc : c a < 256) (g : actGood c lim a) : actC (c a) < 5 ∧ (actC (c a) = 0 → vlA c a ≤ 9) ∧ (actC (c a) = 1 → vlA c a < 4) ∧ vlA c a ≤ 99 := by
  obtain ⟨v1, v2, v3, v4, v5, v6, v7, v8⟩ := good_v g
  refine ⟨(actC_e _ hc g.1).1, fun e => ?_, fun e => ?_, v5⟩
  · rcases dgB_ne g.1 with q | q | q | q | q
    · exact (v6 (by rw [q]; decide)).1
    all_goals (rw [q] at e; exact absurd e (by decide))
  · rcases dgB_ne g.1 with q | q | q | q | q
    · rw [q] at e; exact absurd e (by decide)
    · have := (v6 (by rw [q]; decide)).2
      have := v4 q
      omega
    all_goals (rw [q] at e; exact absurd e (by decide))
theorem rnD_ok {F : FV} {R : Nat × (Nat → Nat)} {c : Nat → Nat} {B M lim : Nat} (hF : okF F) (h256 : ∀ q, q < M → c (psA c q) < 256) (hg : ∀ q, q < M → actGood c lim (psA c q)) : ∀ (k m : Nat) (S : Nat → Int32), m + k = M → okA F (B + 9 * m) S → okA F (B + 9 * M) (rnD F R c k m S).2
  | 0, m, S, h, ho => okA_mono (by omega) ho
  | k + 1, m, S, h, ho => by
    have gh := good_h (h256 m (by omega)) (hg m (by omega))
    have ok := okA_act (R := R) hF ho gh.2.1 gh.2.2.1
    by_cases q : (actS F R S (actC (c (psA c m))) (vlA c (psA c m))).1 = true
    · rw [rnD_t q]
      exact rnD_ok hF h256 hg k (m + 1) _ (by omega) (okA_mono (by omega) ok)
    · rw [rnD_f q]; exact okA_mono (by omega) ok
theorem L44_s {n : Nat} {k117 : eH → Nat → Int32 → Int32 → Option (eH × Int32)} {h : eH} {v2 v3 v4 v5 : Int32} : f_X10_run_L44 LF (n + 1) k117 h 0 v2 v3 v4 v5 = (if 60 ≤ v5 then k117 h 0 v3 v4 else if isO LF 0 10 = true then (gR h 0 0).bind fun b12 => if isO LF b12 8 = true then (f_X8_size LF h b12).bind fun r15 => if r15 ≤ v2 then k117 h 0 v3 v4 else if v4 = 0 then (f_X10_actOfRun LF h 0 v2).bind fun r17 => if r17.2 = 0 then f_X10_run_J93 LF (f_X10_run_L44 LF n k117) k117 r17.1 0 v2 1 v5 v3 0 else f_X10_run_J93 LF (f_X10_run_L44 LF n k117) k117 r17.1 0 v2 0 v5 v3 1 else k117 h 0 v3 v4 else none else none) := rfl
theorem runL_C {k117 : eH → Nat → Int32 → Int32 → Option (eH × Int32)} {X : AX} {B M : Nat} (ho : okX B X) (hB : B + 1000 < 2 ^ 31) (hM : M ≤ 30) (hn : psA (xT X).2 M = (xT X).1) (hg : ∀ q, q < M → actGood (xT X).2 (xT X).1 (psA (xT X).2 q)) : ∀ (k m fu : Nat) (h : eH) (S : Nat → Int32) (l : List Int64), m + k = M → CI h (setW (setS X S) l) → okA (xF X) (B + 9 * m) S → l.length ≤ 37 → ∃ h' l', f_X10_run_L44 LF (fu + k + 2) k117 h 0 (nI (psA (xT X).2 m)) (nI m) 0 (nI m) = k117 h' 0 (nI (rnD (xF X) (xR X) (xT X).2 k m S).1) (if (rnD (xF X) (xR X) (xT X).2 k m S).1 < M then 1 else 0) ∧ CI h' (setW (setS X (rnD (xF X) (xR X) (xT X).2 k m S).2) l') ∧ l'.length ≤ 37 ∧ only acC h h' := by
  have t80 := ho.2.2.1.1
  intro k
  induction k with
  | zero =>
    intro m fu h S l e hc hoS hl
    have hsz : f_X8_size LF h 1 = some (nI (xT X).1) := by unfold f_X8_size; rw [if_pos iO_1, hc.2.2.2.1.1]; rfl
    refine ⟨h, l, ?_, hc, hl, only_rfl⟩
    show f_X10_run_L44 LF (fu + 0 + 1 + 1) k117 h 0 (nI (psA (xT X).2 m)) (nI m) 0 (nI m) = k117 h 0 (nI m) (if m < M then 1 else 0)
    rw [L44_s, if_neg (show ¬ (60 : Int32) ≤ nI m from nI_ge (b := 60) (by omega) (by decide)), if_pos iO_0, r_0_0 hc.1, Option.bind_some, if_pos iO_1, hsz, Option.bind_some, if_pos (nI_le (by rw [← hn, show M = m by omega]; exact Nat.le_refl _) (by rw [show m = M by omega, hn]; omega)), if_neg (show ¬ m < M by omega)]
  | succ k ih =>
    intro m fu h S l e hc hoS hl
    have hmM : m < M := by omega
    have gm := hg m hmM
    have v7 := (good_v gm).2.2.2.2.2.2.1
    have hsz : f_X8_size LF h 1 = some (nI (xT X).1) := by unfold f_X8_size; rw [if_pos iO_1, hc.2.2.2.1.1]; rfl
    have hoX : okX (B + 9 * m) (setW (setS X S) l) := okX_sw ho (by omega) hoS hl
    have ca : (xT X).2 (psA (xT X).2 m) < 256 := ho.2.2.1.2 _ (by omega)
    have gh := good_h ca gm
    have ok := okA_act (R := xR X) ho.1 hoS gh.2.1 gh.2.2.1
    obtain ⟨h', l', x1, x2, x3, x4⟩ := act_C hc hoX (by omega) gm
    have x1 : f_X10_actOfRun LF h 0 (nI (psA (xT X).2 m)) = some (h', if (actS (xF X) (xR X) S (actC ((xT X).2 (psA (xT X).2 m))) (vlA (xT X).2 (psA (xT X).2 m))).1 then 1 else 0) := x1
    have x2 : CI h' (setW (setS X (actS (xF X) (xR X) S (actC ((xT X).2 (psA (xT X).2 m))) (vlA (xT X).2 (psA (xT X).2 m))).2) l') := x2
    have ea : f_X8_at LF h' 1 (nI (psA (xT X).2 m)) = some (nI ((xT X).2 (psA (xT X).2 m))) := at_C x2.1 x2.2.2.2.1 ho.2.2.1 (show psA (xT X).2 m < (xT X).1 by omega)
    have pe : nI (psA (xT X).2 m) + (1 + f_X10_digitsBehind (nI ((xT X).2 (psA (xT X).2 m)))) = nI (psA (xT X).2 (m + 1)) := by
      rw [(dgB_k _ ca).1, show (1 : Int32) = nI 1 from rfl, nI_add, nI_add]
      exact congrArg nI (by show _ = psA (xT X).2 m + 1 + dgB _; omega)
    have J : ∀ (K : eH → Nat → Int32 → Int32 → Int32 → Int32 → Option (eH × Int32)) (v4 s1 : Int32), f_X10_run_J93 LF K k117 h' 0 (nI (psA (xT X).2 m)) v4 (nI m) (nI m) s1 = K h' 0 (nI (psA (xT X).2 (m + 1))) (nI m + s1) v4 (nI (m + 1)) := fun K v4 s1 => by
      unfold f_X10_run_J93
      rw [if_pos iO_0, r_0_0 x2.1, Option.bind_some, if_pos iO_1, ea, Option.bind_some, pe, nI_p1]
    rw [show fu + (k + 1) + 2 = (fu + k + 2) + 1 by omega, L44_s, if_neg (show ¬ (60 : Int32) ≤ nI m from nI_ge (b := 60) (by omega) (by decide)), if_pos iO_0, r_0_0 hc.1, Option.bind_some, if_pos iO_1, hsz, Option.bind_some, if_neg (nI_ge (by omega) (by omega)), if_pos rfl, x1, Option.bind_some]
    by_cases q : (actS (xF X) (xR X) S (actC ((xT X).2 (psA (xT X).2 m))) (vlA (xT X).2 (psA (xT X).2 m))).1 = true
    · rw [rnD_t q, if_pos q]
      show ∃ h'_1 l', (if (1 : Int32) = 0 then _ else f_X10_run_J93 LF (f_X10_run_L44 LF (fu + k + 2) k117) k117 h' 0 (nI (psA (xT X).2 m)) 0 (nI m) (nI m) 1) = _ ∧ _
      rw [if_neg i10, J, show nI m + 1 = nI (m + 1) from nI_add m 1]
      obtain ⟨hZ, lZ, z1, z2, z3, z4⟩ := ih (m + 1) fu h' _ l' (by omega) x2 (okA_mono (by omega) ok) x3
      exact ⟨hZ, lZ, z1, z2, z3, only_trans x4 z4⟩
    · rw [rnD_f q, if_neg q]
      show ∃ h'_1 l', (if (0 : Int32) = 0 then f_X10_run_J93 LF (f_X10_run_L44 LF (fu + k + 2) k117) k117 h' 0 (nI (psA (xT X).2 m)) 1 (nI m) (nI m) 0 else _) = _ ∧ _
      rw [if_pos rfl, J, show nI m + 0 = nI m from nI_add m 0]
      refine ⟨h', l', ?_, x2, x3, x4⟩
      have hsz' : f_X8_size LF h' 1 = some (nI (xT X).1) := by unfold f_X8_size; rw [if_pos iO_1, x2.2.2.2.1.1]; rfl
      show f_X10_run_L44 LF (fu + k + 1 + 1) k117 h' 0 (nI (psA (xT X).2 (m + 1))) (nI m) 1 (nI (m + 1)) = k117 h' 0 (nI m) (if m < M then 1 else 0)
      rw [if_pos hmM, L44_s]
      by_cases w : (60 : Int32) ≤ nI (m + 1)
      · rw [if_pos w]
      · rw [if_neg w, if_pos iO_0, r_0_0 x2.1, Option.bind_some, if_pos iO_1, hsz', Option.bind_some]
        by_cases w2 : nI (xT X).1 ≤ nI (psA (xT X).2 (m + 1))
        · rw [if_pos w2]
        · rw [if_neg w2, if_neg i10]
theorem L64_s {n : Nat} {k88 : eH → Nat → Int32 → Option (eH × Int32)} {h : eH} {v4 : Int32} : f_X11_run_L64 LF (n + 1) k88 h 73 v4 = (if isO LF 73 11 = true then if (gI h 73 28) ≤ v4 then k88 h 73 v4 else (f_X11_does LF h 73 v4).bind fun r17 => if r17.2 = 0 then k88 r17.1 73 v4 else f_X11_run_L64 LF n k88 r17.1 73 (v4 + Int32.ofInt 1) else none) := rfl
theorem runL_M {k88 : eH → Nat → Int32 → Option (eH × Int32)} {Y : AX} {c : Nat → Nat} {B M lim : Nat} (ho : okX B Y) (hM : M ≤ 30) (h256 : ∀ q, q < M → c (psA c q) < 256) (hg : ∀ q, q < M → actGood c lim (psA c q)) : ∀ (k m fu : Nat) (h : eH) (S : Nat → Int32), m + k = M → RefsOK h → MI h (setS Y S) → okA (xF Y) (B + 9 * m) S → gI h 73 28 = nI M → (∀ q, q < M → gI h 85 q = nI (actC (c (psA c q))) ∧ gI h 86 q = nI (vlA c (psA c q))) → ∃ h', f_X11_run_L64 LF (fu + k + 1) k88 h 73 (nI m) = k88 h' 73 (nI (rnD (xF Y) (xR Y) c k m S).1) ∧ MI h' (setS Y (rnD (xF Y) (xR Y) c k m S).2) ∧ only dsW h h' := by
  intro k
  induction k with
  | zero =>
    intro m fu h S e hR hm hoS h28 hq
    refine ⟨h, ?_, hm, only_rfl⟩
    rw [L64_s, if_pos iO_73, h28, if_pos (nI_le (by omega) (by omega))]; rfl
  | succ k ih =>
    intro m fu h S e hR hm hoS h28 hq
    have hmM : m < M := by omega
    have gh := good_h (h256 m hmM) (hg m hmM)
    have ok := okA_act (R := xR Y) ho.1 hoS gh.2.1 gh.2.2.1
    have hoX : okX (B + 9 * m) (setS Y S) := okX_sw (l := xW Y) ho (by omega) hoS ho.2.2.2.2.2.2.2
    obtain ⟨h', x1, x2, x3⟩ := does_M hR hm hoX (show m < 60 by omega) (hq m hmM).1 (hq m hmM).2 gh.1 gh.2.2.2 gh.2.2.1
    have x1 : f_X11_does LF h 73 (nI m) = some (h', if (actS (xF Y) (xR Y) S (actC (c (psA c m))) (vlA c (psA c m))).1 then 1 else 0) := x1
    have x2 : MS h' 76 0 (actS (xF Y) (xR Y) S (actC (c (psA c m))) (vlA c (psA c m))).2 := x2
    have o : only amS h h' := only_mono (fun j k a => by unfold dsW at a; unfold amS at a ⊢; omega) x3
    have mi : MI h' (setS Y (actS (xF Y) (xR Y) S (actC (c (psA c m))) (vlA c (psA c m))).2) := (MI_st (X := setS Y S) o x2 hm : _)
    rw [show fu + (k + 1) + 1 = (fu + k + 1) + 1 by omega, L64_s, if_pos iO_73, h28, if_neg (nI_ge hmM (by omega)), x1, Option.bind_some]
    by_cases q : (actS (xF Y) (xR Y) S (actC (c (psA c m))) (vlA c (psA c m))).1 = true
    · rw [rnD_t q, if_pos q]
      show ∃ h'_1, (if (1 : Int32) = 0 then _ else f_X11_run_L64 LF (fu + k + 1) k88 h' 73 (nI m + Int32.ofInt 1)) = _ ∧ _
      rw [if_neg i10, nI_p1]
      obtain ⟨hZ, z1, z2, z3⟩ := ih (m + 1) fu h' _ (by omega) (only_refs x3 hR) mi (okA_mono (by omega) ok) ((o_I o (by unfold amS; omega)).trans h28) (fun q hqq => ⟨(o_I o (by unfold amS; omega)).trans (hq q hqq).1, (o_I o (by unfold amS; omega)).trans (hq q hqq).2⟩)
      exact ⟨hZ, z1, z2, only_trans x3 z3⟩
    · rw [rnD_f q, if_neg q]
      show ∃ h'_1, (if (0 : Int32) = 0 then k88 h' 73 (nI m) else _) = _ ∧ _
      rw [if_pos rfl]
      exact ⟨h', rfl, mi, x3⟩

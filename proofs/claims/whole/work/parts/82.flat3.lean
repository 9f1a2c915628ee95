/-! flat: where the scan ends; the sets are drawn; the spots are counted -/
theorem flS_le {c : Nat → Nat} {i : Nat} : ∀ {j : Nat}, i ≤ j → flS c j ≠ none → flS c i ≠ none
  | 0, h, hj => by rw [show i = 0 by omega]; exact hj
  | j + 1, h, hj => by
    by_cases q : i = j + 1
    · rw [q]; exact hj
    · exact flS_le (j := j) (by omega) (fun z => hj (flS_n z))
def flB (c : Nat → Nat) (n e : Nat) : Prop := e ≤ n ∧ ∃ q, flS c e = some q ∧ ((e < n ∧ fl1 (c e) q = none) ∨ (e = n ∧ ¬ whF q))
theorem flB_or (c : Nat → Nat) (n : Nat) : (∃ e, flB c n e) ∨ ∃ q, flS c n = some q ∧ whF q := by
  cases hs : flS c n with
  | some q =>
    by_cases w : whF q
    · exact Or.inr ⟨q, rfl, w⟩
    · exact Or.inl ⟨n, Nat.le_refl _, q, hs, Or.inr ⟨rfl, w⟩⟩
  | none =>
    have key : ∀ j, j ≤ n → flS c j = none → ∃ e q, e < j ∧ flS c e = some q ∧ fl1 (c e) q = none := by
      intro j
      induction j with
      | zero => intro _ z; cases z
      | succ j ih =>
        intro hj z
        cases hz : flS c j with
        | none =>
          obtain ⟨e, q, e1, e2⟩ := ih (by omega) hz
          exact ⟨e, q, by omega, e2⟩
        | some q => exact ⟨j, q, by omega, hz, by rw [flS_s hz] at z; exact z⟩
    obtain ⟨e, q, e1, e2, e3⟩ := key n (Nat.le_refl _) hs
    exact Or.inl ⟨e, by omega, q, e2, Or.inl ⟨e1, e3⟩⟩
theorem flB_u {c : Nat → Nat} {n e e' : Nat} (h : flB c n e) (h' : flB c n e') : e = e' := by
  have one : ∀ e e', flB c n e → flB c n e' → ¬ e < e' := fun e e' h h' lt => by
    obtain ⟨a1, q, a2, a3⟩ := h
    obtain ⟨b1, q', b2, b3⟩ := h'
    rcases a3 with ⟨a3, a4⟩ | ⟨a3, a4⟩
    · exact flS_le (show e + 1 ≤ e' by omega) (by rw [b2]; exact fun x => by cases x) ((flS_s a2).trans a4)
    · omega
  have := one e e' h h'
  have := one e' e h' h
  omega
theorem flB_g {c : Nat → Nat} {n e : Nat} {q : FSt} (h : flB c n e) (hs : flS c n = some q) (w : whF q) : False := by
  obtain ⟨a1, q', a2, a3⟩ := h
  rcases a3 with ⟨a3, a4⟩ | ⟨a3, a4⟩
  · exact flS_le (show e + 1 ≤ n by omega) (by rw [hs]; exact fun x => by cases x) ((flS_s a2).trans a4)
  · rw [a3, hs] at a2; cases a2; exact a4 w
/-- the reference stops where the scan does -/
theorem rowE_B {g : eH} {c : Nat → Nat} {n a : Nat} {q : FSt} (hE : rowE g c n a q) (hw : whF q → q.1 = 5 ∨ ¬ (a < n ∧ c a = 47)) (hn : ¬ (whF q ∧ n ≤ a)) : flB c n a := by
  obtain ⟨r1, r2, r3, r4, r5⟩ := hE
  refine ⟨r1.2.2.2.2, q, r2, ?_⟩
  by_cases q1 : a < n
  · refine Or.inl ⟨q1, ?_⟩
    by_cases s : c a = 47
    · rw [s]
      refine fl1_sn (fun w => ?_)
      rcases hw w.1 with x | x
      · exact w.2 x
      · exact x ⟨q1, s⟩
    · rcases r5 with x | x
      · exact fl1_full s (by omega)
      · exact fl1_no s (fun y => x ⟨q1, y⟩)
  · exact Or.inr ⟨by have := r1.2.2.2.2; omega, fun w => hn ⟨w, by omega⟩⟩
/-! the flat that was read -/
def fvF (q : FSt) : FV := (q.1 + 1, q.2.1, q.2.2.2.2, q.2.2.2.1)
theorem fv_n {q : FSt} (w : whF q) : nF (fvF q) = q.1 * q.2.2.1 + q.2.1 := by
  show (q.1 + 1) * q.2.1 = _
  rw [Nat.succ_mul]
  unfold whF at w
  by_cases z : q.1 = 0
  · rw [z, Nat.zero_mul, Nat.zero_mul]
  · rw [if_neg z] at w; rw [← w]
theorem fv_k {q : FSt} {k : Nat} (hk : k < nF (fvF q)) : kF (fvF q) k = q.2.2.2.2 k := if_pos hk
theorem fv_x {q : FSt} (w : whF q) (h : okFS q) : 1 ≤ q.2.1 := by
  unfold whF at w
  by_cases z : q.1 = 0
  · rw [if_pos z] at w; exact w
  · rw [if_neg z] at w; have := h.2.2.1; omega
theorem fv_ok {q : FSt} (w : whF q) (h : okFS q) : okF (fvF q) := by
  have x1 := fv_x w h
  obtain ⟨h1, h2, h3, h4, h5, h6, h7⟩ := h
  refine ⟨?_, ?_, x1, ?_, h7, fun p hp => ?_⟩
  · show 1 ≤ q.1 + 1; omega
  · show q.1 + 1 ≤ 6; omega
  · show q.2.1 ≤ 6; omega
  · have := h6 p hp
    have m := Nat.mul_le_mul h1 h4
    refine ⟨by omega, ?_⟩
    rw [fv_k (by rw [fv_n w]; exact this.1)]; exact this.2
theorem fv_pl (q : FSt) : plI (fvF q) = plO q.2.2.2.1 := by
  show (match q.2.2.2.1 with | none => (-1 : Int32) | some p => nI p) = match q.2.2.2.1 with | none => -1 | some p => nI p
  rfl
/-! drawing the sets -/
theorem leN_s : ∀ r, r < 6 → ∀ C, C < 6 → lN (leN r (C + 1)) ||| f_X10_bit (nI (r * (C + 1))) = lN (leN (r + 1) (C + 1)) := by decide +kernel
theorem reN_s : ∀ R, R < 7 → ∀ C, C < 6 → lN (leN R (C + 1)) <<< ((nI (C + 1) - 1).toInt64 &&& 63) = lN (reN R (C + 1)) := by decide +kernel
def dsD (d : Nat) (j k : Nat) : Prop := j = d ∧ 4 ≤ k ∧ k ≤ 7
theorem draw_C {h : eH} {d : Nat} {q : FSt} (hR : RefsOK h) (hd : d = 63 ∨ d = 65) (w : whF q) (hq : okFS q) (h1 : gI h d 1 = nI (q.1 + 1)) (h2 : gI h d 2 = nI q.2.1) (h3 : gI h d 3 = plO q.2.2.2.1) (hk : ∀ k, k < nF (fvF q) → gI h (d + 1) k = nI (q.2.2.2.2 k)) : ∃ g, f_X2_drawSets LF h d = some g ∧ CP g d (fvF q) ∧ only (dsD d) h g := by
  have hF := fv_ok w hq
  have n36 := nF_le hF
  have x1 := fv_x w hq
  obtain ⟨o1, o2, o3, o4, o5, o6, o7⟩ := id hq
  have hnn : nI (q.1 + 1) * nI q.2.1 = nI (nF (fvF q)) := pk_mul _ _
  have vI : ∀ g, only (dsD d) h g → gI g d 1 = nI (q.1 + 1) ∧ gI g d 2 = nI q.2.1 ∧ gI g d 3 = plO q.2.2.2.1 ∧ ∀ k, k < nF (fvF q) → gI g (d + 1) k = nI (q.2.2.2.2 k) := fun g o => ⟨(o_I o (by unfold dsD; omega)).trans h1, (o_I o (by unfold dsD; omega)).trans h2, (o_I o (by unfold dsD; omega)).trans h3, fun k hkk => (o_I o (by unfold dsD; omega)).trans (hk k hkk)⟩
  unfold f_X2_drawSets
  rw [if_pos (dO hd)]
  have og0 : only (dsD d) h (sL (sL h d 4 0) d 5 0) := only_trans (only_sL (by unfold dsD; omega)) (only_sL (by unfold dsD; omega))
  refine lpF (N := nF (fvF q)) (s := sL (sL h d 4 0) d 5 0) (run := fun fu (g : eH) i => f_X2_drawSets_L12 LF fu (fun (h11 : eH) (w0_12 : Nat) => if isO LF w0_12 2 = true then f_X2_drawSets_L87 LF e_fu (fun (h17 : eH) (w0_18 : Nat) => if isO LF w0_18 2 = true then (some (sL h17 w0_18 7 ((gL h17 w0_18 6) <<< (((gI h17 w0_18 2) - 1).toInt64 &&& 63)))).bind fun h20 => some h20 else none) (sL h11 w0_12 6 0) w0_12 0 else none) g d (nI i)) (Inv := fun i g => only (dsD d) h g ∧ (∀ k, tb (gL g d 4) k = (decide (k < i) && decide (q.2.2.2.2 k ≠ 0))) ∧ (∀ k, tb (gL g d 5) k = (decide (k < i) && decide (q.2.2.2.2 k = 2)))) (Post := fun o => ∃ g, o = some g ∧ CP g d (fvF q) ∧ only (dsD d) h g) (by omega) ⟨og0, fun k => ?_, fun k => ?_⟩ ?_ ?_
  · rw [gL_sL, if_neg (by omega), gL_sL, if_pos ⟨rfl, rfl⟩, tb_0, decide_eq_false (by omega)]; rfl
  · rw [gL_sL, if_pos ⟨rfl, rfl⟩, tb_0, decide_eq_false (by omega)]; rfl
  · rintro fu g ⟨a1, a2, a3⟩
    obtain ⟨e1, e2, e3, e4⟩ := vI g a1
    show ∃ g', f_X2_drawSets_L12 LF (fu + 1) _ g d (nI (nF (fvF q))) = some g' ∧ _
    unfold f_X2_drawSets_L12
    rw [if_pos (dO hd), e1, e2, hnn, if_pos (nI_le (Nat.le_refl _) (by omega))]
    dsimp only
    rw [if_pos (dO hd)]
    have og6 : only (dsD d) g (sL g d 6 0) := only_sL (by unfold dsD; omega)
    refine lpF (N := q.1 + 1) (s := sL g d 6 0) (run := fun fu (g : eH) i => f_X2_drawSets_L87 LF fu (fun (h17 : eH) (w0_18 : Nat) => if isO LF w0_18 2 = true then (some (sL h17 w0_18 7 ((gL h17 w0_18 6) <<< (((gI h17 w0_18 2) - 1).toInt64 &&& 63)))).bind fun h20 => some h20 else none) g d (nI i)) (Inv := fun i g' => only (dsD d) h g' ∧ gL g' d 4 = gL g d 4 ∧ gL g' d 5 = gL g d 5 ∧ gL g' d 6 = lN (leN i q.2.1)) (Post := fun o => ∃ g, o = some g ∧ CP g d (fvF q) ∧ only (dsD d) h g) (by omega) ⟨only_trans a1 og6, by rw [gL_sL, if_neg (by omega)], by rw [gL_sL, if_neg (by omega)], by rw [gL_sL, if_pos ⟨rfl, rfl⟩]; rfl⟩ ?_ ?_
    · rintro fu g2 ⟨b1, b2, b3, b4⟩
      obtain ⟨f1, f2, f3, f4⟩ := vI g2 b1
      show ∃ g', f_X2_drawSets_L87 LF (fu + 1) _ g2 d (nI (q.1 + 1)) = some g' ∧ _
      unfold f_X2_drawSets_L87
      rw [if_pos (dO hd), f1, if_pos (nI_le (Nat.le_refl _) (by omega))]
      dsimp only
      rw [if_pos (dO hd), f2, b4]
      obtain ⟨C, hC⟩ : ∃ C, q.2.1 = C + 1 := ⟨q.2.1 - 1, by omega⟩
      have re : lN (leN (q.1 + 1) q.2.1) <<< ((nI q.2.1 - 1).toInt64 &&& 63) = lN (reN (q.1 + 1) q.2.1) := by rw [hC]; exact reN_s (q.1 + 1) (by omega) C (by omega)
      rw [re, Option.bind_some]
      have on : only (dsD d) g2 (sL g2 d 7 (lN (reN (q.1 + 1) q.2.1))) := only_sL (by unfold dsD; omega)
      have eb : ∀ (k : Nat) (p : Nat → Prop) [DecidablePred p], (p 0 → False) → (decide (k < nF (fvF q)) && decide (p (q.2.2.2.2 k))) = decide (p (kF (fvF q) k)) := fun k p _ hp => by
        by_cases z : k < nF (fvF q)
        · rw [fv_k z, decide_eq_true z, Bool.true_and]
        · rw [decide_eq_false z, Bool.false_and, show kF (fvF q) k = 0 from if_neg z, decide_eq_false hp]
      refine ⟨_, rfl, ⟨f1, f2, by rw [fv_pl]; exact f3, fun k => ?_, fun k => ?_, ?_, ?_, fun k hkk => ?_⟩, only_trans b1 on⟩
      · rw [gL_sL, if_neg (by omega), b2, a2]; exact eb k (fun x => x ≠ 0) (fun x => x rfl)
      · rw [gL_sL, if_neg (by omega), b3, a3]; exact eb k (fun x => x = 2) (fun x => by omega)
      · rw [gL_sL, if_neg (by omega)]; exact b4
      · rw [gL_sL, if_pos ⟨rfl, rfl⟩]; rfl
      · rw [fv_k hkk]; exact f4 k hkk
    · rintro i fu g2 hi ⟨b1, b2, b3, b4⟩
      obtain ⟨f1, f2, f3, f4⟩ := vI g2 b1
      obtain ⟨C, hC⟩ : ∃ C, q.2.1 = C + 1 := ⟨q.2.1 - 1, by omega⟩
      have le : lN (leN i q.2.1) ||| f_X10_bit (nI i * nI q.2.1) = lN (leN (i + 1) q.2.1) := by rw [pk_mul, hC]; exact leN_s i (by omega) C (by omega)
      refine Or.inr ⟨sL g2 d 6 (lN (leN (i + 1) q.2.1)), ⟨only_trans b1 (only_sL (by unfold dsD; omega)), by rw [gL_sL, if_neg (by omega)]; exact b2, by rw [gL_sL, if_neg (by omega)]; exact b3, by rw [gL_sL, if_pos ⟨rfl, rfl⟩]⟩, fun z hz => ?_⟩
      show f_X2_drawSets_L87 LF (fu + 1) _ g2 d (nI i) = z
      unfold f_X2_drawSets_L87
      rw [if_pos (dO hd), f1, if_neg (nI_ge hi (by omega)), f2, b4, le, Option.bind_some, nI_p1]
      exact hz
  · rintro i fu g hi ⟨a1, a2, a3⟩
    obtain ⟨e1, e2, e3, e4⟩ := vI g a1
    have hRg := only_refs a1 hR
    have i36 : i < 36 := by omega
    have k2 := o7 i
    have ek : f_X2_kindOf LF g d (nI i) = some (nI (q.2.2.2.2 i)) := by
      unfold f_X2_kindOf
      rw [if_neg (nI_pos (by omega)), if_neg (show ¬ (36 : Int32) ≤ nI i from nI_ge (b := 36) i36 (by decide)), if_pos (dO hd), dRf hRg hd, Option.bind_some, dA hd, if_pos (in_nI i36 (by decide)), nI_clamp (by omega), e4 i hi]
    have step : ∀ (x y : Int64), (∀ k, tb x k = decide (k = i ∧ q.2.2.2.2 i ≠ 0)) → (∀ k, tb y k = decide (k = i ∧ q.2.2.2.2 i = 2)) → only (dsD d) h (sL (sL g d 4 (gL g d 4 ||| x)) d 5 (gL g d 5 ||| y)) ∧ (∀ k, tb (gL (sL (sL g d 4 (gL g d 4 ||| x)) d 5 (gL g d 5 ||| y)) d 4) k = (decide (k < i + 1) && decide (q.2.2.2.2 k ≠ 0))) ∧ (∀ k, tb (gL (sL (sL g d 4 (gL g d 4 ||| x)) d 5 (gL g d 5 ||| y)) d 5) k = (decide (k < i + 1) && decide (q.2.2.2.2 k = 2))) := fun x y hx hy => by
      have eb : ∀ (k : Nat) (p : Nat → Prop) [DecidablePred p], ((decide (k < i) && decide (p (q.2.2.2.2 k))) || decide (k = i ∧ p (q.2.2.2.2 i))) = (decide (k < i + 1) && decide (p (q.2.2.2.2 k))) := fun k p _ => by
        by_cases z : k = i
        · subst z
          rw [decide_eq_false (show ¬ k < k by omega), decide_eq_true (show k < k + 1 by omega), Bool.false_and, Bool.false_or, Bool.true_and]
          by_cases u : p (q.2.2.2.2 k)
          · rw [decide_eq_true u, decide_eq_true ⟨rfl, u⟩]
          · rw [decide_eq_false u, decide_eq_false (fun v => u v.2)]
        · rw [decide_eq_false (show ¬ (k = i ∧ p (q.2.2.2.2 i)) from fun v => z v.1), Bool.or_false]
          by_cases u : k < i
          · rw [decide_eq_true u, decide_eq_true (show k < i + 1 by omega)]
          · rw [decide_eq_false u, decide_eq_false (show ¬ k < i + 1 by omega)]
      refine ⟨only_trans a1 (only_trans (only_sL (by unfold dsD; omega)) (only_sL (by unfold dsD; omega))), fun k => ?_, fun k => ?_⟩
      · rw [gL_sL, if_neg (by omega), gL_sL, if_pos ⟨rfl, rfl⟩, tb_or, a2, hx]; exact eb k (fun x => x ≠ 0)
      · rw [gL_sL, if_pos ⟨rfl, rfl⟩, tb_or, a3, hy]; exact eb k (fun x => x = 2)
    have bi : ∀ k, tb (f_X10_bit (nI i)) k = decide (k = i) := fun k => bit_tb i36 k
    have g5 : ∀ x, gL (sL g d 4 x) d 5 = gL g d 5 := fun x => by rw [gL_sL, if_neg (by omega)]
    have fin : ∀ (s2 y : Int64), (∀ k, tb s2 k = decide (k = i ∧ q.2.2.2.2 i ≠ 0)) → (if nI (q.2.2.2.2 i) = 2 then f_X10_bit (nI i) else 0) = y → (∀ k, tb y k = decide (k = i ∧ q.2.2.2.2 i = 2)) → ∀ K K', f_X2_drawSets_J48 LF K K' g d (nI i) (nI (q.2.2.2.2 i)) d (gL g d 4) s2 = K (sL (sL g d 4 (gL g d 4 ||| s2)) d 5 (gL g d 5 ||| y)) d (nI (i + 1)) := fun s2 y _ hy _ K K' => by
      unfold f_X2_drawSets_J48
      rw [if_pos (dO hd), if_pos (dO hd), g5, nI_p1]
      by_cases z : nI (q.2.2.2.2 i) = 2
      · rw [if_pos z] at hy ⊢; rw [hy, Option.bind_some]
      · rw [if_neg z] at hy ⊢; rw [hy, Option.bind_some]
    by_cases z0 : q.2.2.2.2 i = 0
    · have t0 : ∀ k, tb (0 : Int64) k = decide (k = i ∧ q.2.2.2.2 i ≠ 0) := fun k => by rw [tb_0, decide_eq_false (fun v => v.2 z0)]
      have t2 : ∀ k, tb (0 : Int64) k = decide (k = i ∧ q.2.2.2.2 i = 2) := fun k => by rw [tb_0, decide_eq_false (fun v => by omega)]
      refine Or.inr ⟨_, step 0 0 t0 t2, fun z hz => ?_⟩
      show f_X2_drawSets_L12 LF (fu + 1) _ g d (nI i) = z
      unfold f_X2_drawSets_L12
      rw [if_pos (dO hd), e1, e2, hnn, if_neg (nI_ge hi (by omega)), ek, Option.bind_some, if_pos (by rw [z0]; rfl), fin 0 0 t0 (if_neg (by rw [z0]; decide)) t2]
      exact hz
    · have t0 : ∀ k, tb (f_X10_bit (nI i)) k = decide (k = i ∧ q.2.2.2.2 i ≠ 0) := fun k => by
        rw [bi]
        by_cases v : k = i
        · rw [decide_eq_true v, decide_eq_true ⟨v, z0⟩]
        · rw [decide_eq_false v, decide_eq_false (fun u => v u.1)]
      by_cases z2 : q.2.2.2.2 i = 2
      · have t2 : ∀ k, tb (f_X10_bit (nI i)) k = decide (k = i ∧ q.2.2.2.2 i = 2) := fun k => by
          rw [bi]
          by_cases v : k = i
          · rw [decide_eq_true v, decide_eq_true ⟨v, z2⟩]
          · rw [decide_eq_false v, decide_eq_false (fun u => v u.1)]
        refine Or.inr ⟨_, step _ _ t0 t2, fun z hz => ?_⟩
        show f_X2_drawSets_L12 LF (fu + 1) _ g d (nI i) = z
        unfold f_X2_drawSets_L12
        rw [if_pos (dO hd), e1, e2, hnn, if_neg (nI_ge hi (by omega)), ek, Option.bind_some, if_neg (nI_ne0 (by omega) (by omega)), fin _ _ t0 (if_pos (by rw [z2]; rfl)) t2]
        exact hz
      · have t2 : ∀ k, tb (0 : Int64) k = decide (k = i ∧ q.2.2.2.2 i = 2) := fun k => by rw [tb_0, decide_eq_false (fun v => z2 v.2)]
        refine Or.inr ⟨_, step _ _ t0 t2, fun z hz => ?_⟩
        show f_X2_drawSets_L12 LF (fu + 1) _ g d (nI i) = z
        unfold f_X2_drawSets_L12
        rw [if_pos (dO hd), e1, e2, hnn, if_neg (nI_ge hi (by omega)), ek, Option.bind_some, if_neg (nI_ne0 (by omega) (by omega)), fin _ _ t0 (if_neg (fun e => z2 (nI_inj (by omega) (by decide) e))) t2]
        exact hz
/-- the class reads the whole of it -/
theorem readB_C {h : eH} {T : Nat × (Nat → Nat)} {d e : Nat} (hd : d = 63 ∨ d = 65) (hR : RefsOK h) (hT : CT h T) (hoT : okTx T) (hb : flB T.2 T.1 e) : ∃ g, f_X2_read LF h d 1 = some (g, nI e) ∧ only (dW d) h g := by
  have og : only (dW d) h (sI (sI h d 3 (-1)) d 2 6) := only_trans (only_sI (Or.inl rfl)) (only_sI (Or.inl rfl))
  unfold f_X2_read
  rw [if_pos (dO hd)]
  refine read_C (P := fun o => ∃ g, o = some (g, nI e) ∧ only (dW d) h g) hd hR hT hoT og ⟨by rw [gI_sI, if_pos ⟨rfl, rfl⟩]; rfl, by rw [gI_sI, if_neg (by omega), gI_sI, if_pos ⟨rfl, rfl⟩]; rfl, fun k hk => absurd hk (by show ¬ k < 0 * 6 + 0; omega)⟩ (fun g e' q a1 a2 a3 a4 => ?_) (fun g q a1 a2 a3 => ?_)
  · have ee := flB_u hb ⟨by omega, q, a2, Or.inl ⟨a1, a3⟩⟩
    rw [← ee]
    exact ⟨⟨g, rfl, a4⟩, ⟨g, rfl, a4⟩⟩
  · have hq := okFS_S (fun k hk => hoT.2 k hk) a1
    have nw : ¬ whF q := fun w => flB_g hb a1 w
    have ee := flB_u hb ⟨Nat.le_refl _, q, a1, Or.inr ⟨rfl, nw⟩⟩
    have hTg : CT g T := CT_only a3 (fun j k a => by unfold dW; omega) hT
    have hsz : f_X8_size LF g 1 = some (nI T.1) := by unfold f_X8_size; rw [if_pos iO_1, hTg.1]
    refine ⟨g, ?_, a3⟩
    show (if isO LF d 2 = true then (f_X2_isWhole LF g d (nI q.1) (nI q.2.1)).bind fun r23 => if r23 = 0 then if isO LF 1 8 = true then (f_X8_size LF g 1).bind fun r30 => some (g, r30) else none else _ else none) = _
    rw [if_pos (dO hd), whole_C hd hq a2, if_neg nw, Option.bind_some, if_pos rfl, if_pos iO_1, hsz, Option.bind_some, ee]
theorem readG_C {h : eH} {T : Nat × (Nat → Nat)} {d : Nat} {q : FSt} (hd : d = 63 ∨ d = 65) (hR : RefsOK h) (hT : CT h T) (hoT : okTx T) (hs : flS T.2 T.1 = some q) (w : whF q) : ∃ g, f_X2_read LF h d 1 = some (g, -1) ∧ CP g d (fvF q) ∧ only (dW d) h g := by
  have og : only (dW d) h (sI (sI h d 3 (-1)) d 2 6) := only_trans (only_sI (Or.inl rfl)) (only_sI (Or.inl rfl))
  have hq := okFS_S (fun k hk => hoT.2 k hk) hs
  unfold f_X2_read
  rw [if_pos (dO hd)]
  refine read_C (P := fun o => ∃ g, o = some (g, -1) ∧ CP g d (fvF q) ∧ only (dW d) h g) hd hR hT hoT og ⟨by rw [gI_sI, if_pos ⟨rfl, rfl⟩]; rfl, by rw [gI_sI, if_neg (by omega), gI_sI, if_pos ⟨rfl, rfl⟩]; rfl, fun k hk => absurd hk (by show ¬ k < 0 * 6 + 0; omega)⟩ (fun g e q' a1 a2 a3 a4 => ?_) (fun g q' a1 a2 a3 => ?_)
  · exact absurd (flB_g ⟨by omega, q', a2, Or.inl ⟨a1, a3⟩⟩ hs w) id
  · rw [hs] at a1; cases a1
    have on : only (dW d) g (sI (sI g d 2 (nI q.2.1)) d 1 (nI q.1 + 1)) := only_trans (only_sI (Or.inl rfl)) (only_sI (Or.inl rfl))
    obtain ⟨g', x1, x2, x3⟩ := draw_C (h := sI (sI g d 2 (nI q.2.1)) d 1 (nI q.1 + 1)) (only_refs (only_trans a3 on) hR) hd w hq (by rw [gI_sI, if_pos ⟨rfl, rfl⟩]; exact nI_add _ 1) (by rw [gI_sI, if_neg (by omega), gI_sI, if_pos ⟨rfl, rfl⟩]) (by rw [gI_sI, if_neg (by omega), gI_sI, if_neg (by omega)]; exact a2.2.1) (fun k hk => by rw [gI_sI, if_neg (by omega), gI_sI, if_neg (by omega)]; exact a2.2.2 k (by rw [← fv_n w]; exact hk))
    refine ⟨g', ?_, x2, only_trans a3 (only_trans on (only_mono (fun j k a => by unfold dsD at a; unfold dW; omega) x3))⟩
    show (if isO LF d 2 = true then (f_X2_isWhole LF g d (nI q.1) (nI q.2.1)).bind fun r23 => if r23 = 0 then _ else (some (sI (sI g d 2 (nI q.2.1)) d 1 (nI q.1 + 1))).bind fun h25 => (f_X2_drawSets LF h25 d).bind fun r27 => some (r27, (-1)) else none) = _
    rw [if_pos (dO hd), whole_C hd hq a2, if_pos w, Option.bind_some, if_neg i10, Option.bind_some, x1, Option.bind_some]

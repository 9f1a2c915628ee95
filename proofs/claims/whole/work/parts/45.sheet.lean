/-! sheet, on both sides; filling an array. -/
theorem fillI {h : eH} {a n : Nat} (v : Int32) (ha : a < 100) (hs : LF.2 a = .inr (0, n)) (hn : n < 3000) : ∃ h', f_J7_fill_53178 LF h a v = some h' ∧ (∀ k, k < n → gI h' a k = v) ∧ only (fun j _ => j = a) h h' := by
  have e1 : isArr LF a = true := by unfold isArr; rw [hs]; simp [LF_n, ha]
  have e2 : alen LF a = nI n := by unfold alen; rw [hs]; rfl
  unfold f_J7_fill_53178
  rw [if_pos e1, e2]
  refine lpF (N := n) (s := h) (run := fun fu (g : eH) i => f_J7_fill_53178_L5 LF fu (fun (h3 : eH) => some h3) g a v (nI i) (nI n)) (Inv := fun i g => (∀ k, k < i → gI g a k = v) ∧ only (fun j _ => j = a) h g) (Post := fun r => ∃ h', r = some h' ∧ (∀ k, k < n → gI h' a k = v) ∧ only (fun j _ => j = a) h h') (by omega) ⟨fun k hk => absurd hk (Nat.not_lt_zero k), only_rfl⟩ ?_ ?_
  · rintro fu g ⟨g1, g2⟩
    refine ⟨g, ?_, g1, g2⟩
    show f_J7_fill_53178_L5 LF (fu + 1) _ g a v (nI n) (nI n) = _
    unfold f_J7_fill_53178_L5
    rw [if_pos (nI_le (Nat.le_refl _) (by omega))]
  · rintro i fu g hi ⟨g1, g2⟩
    refine Or.inr ⟨sI g a i v, ⟨fun k hk => ?_, only_trans g2 (only_sI rfl)⟩, fun w hw => ?_⟩
    · rw [gI_sI]
      by_cases hki : k = i
      · rw [if_pos ⟨rfl, hki⟩]
      · rw [if_neg (by omega)]; exact g1 k (by omega)
    · show f_J7_fill_53178_L5 LF (fu + 1) _ g a v (nI i) (nI n) = w
      unfold f_J7_fill_53178_L5
      rw [if_neg (nI_ge hi (by omega)), inA_of ha hs, if_pos (in_nI hi (by omega)), nI_clamp (by omega), nI_p1]
      exact hw
theorem fillL {h : eH} {a n : Nat} (v : Int64) (ha : a < 100) (hs : LF.2 a = .inr (1, n)) (hn : n < 3000) : ∃ h', f_J7_fill_d0a16 LF h a v = some h' ∧ (∀ k, k < n → gL h' a k = v) ∧ only (fun j _ => j = a) h h' := by
  have e1 : isArr LF a = true := by unfold isArr; rw [hs]; simp [LF_n, ha]
  have e2 : alen LF a = nI n := by unfold alen; rw [hs]; rfl
  unfold f_J7_fill_d0a16
  rw [if_pos e1, e2]
  refine lpF (N := n) (s := h) (run := fun fu (g : eH) i => f_J7_fill_d0a16_L6 LF fu (fun (h3 : eH) => some h3) g a v (nI i) (nI n)) (Inv := fun i g => (∀ k, k < i → gL g a k = v) ∧ only (fun j _ => j = a) h g) (Post := fun r => ∃ h', r = some h' ∧ (∀ k, k < n → gL h' a k = v) ∧ only (fun j _ => j = a) h h') (by omega) ⟨fun k hk => absurd hk (Nat.not_lt_zero k), only_rfl⟩ ?_ ?_
  · rintro fu g ⟨g1, g2⟩
    refine ⟨g, ?_, g1, g2⟩
    show f_J7_fill_d0a16_L6 LF (fu + 1) _ g a v (nI n) (nI n) = _
    unfold f_J7_fill_d0a16_L6
    rw [if_pos (nI_le (Nat.le_refl _) (by omega))]
  · rintro i fu g hi ⟨g1, g2⟩
    refine Or.inr ⟨sL g a i v, ⟨fun k hk => ?_, only_trans g2 (only_sL rfl)⟩, fun w hw => ?_⟩
    · rw [gL_sL]
      by_cases hki : k = i
      · rw [if_pos ⟨rfl, hki⟩]
      · rw [if_neg (by omega)]; exact g1 k (by omega)
    · show f_J7_fill_d0a16_L6 LF (fu + 1) _ g a v (nI i) (nI n) = w
      unfold f_J7_fill_d0a16_L6
      rw [if_neg (nI_ge hi (by omega)), inA_of ha hs, if_pos (in_nI hi (by omega)), nI_clamp (by omega), nI_p1]
      exact hw
/-- a state whose dust is told anew -/
def duA (S : Nat → Int32) (d : Nat → Int32) (i k : Nat) : Int32 := if k < 36 ∧ k < i then d k else S k
theorem duA_s {S d : Nat → Int32} {i : Nat} (hi : i < 36) : upd (duA S d i) i (d i) = duA S d (i + 1) := by
  funext k
  unfold duA
  by_cases hk : k = i
  · subst hk; rw [pk_us, if_pos ⟨hi, by omega⟩]
  · rw [u_n hk]
    by_cases h2 : k < 36 ∧ k < i
    · rw [if_pos h2, if_pos ⟨h2.1, by omega⟩]
    · rw [if_neg h2, if_neg (fun q => h2 ⟨q.1, by omega⟩)]
theorem duA_0 {S d : Nat → Int32} : duA S d 0 = S := by funext k; unfold duA; rw [if_neg (by omega)]
theorem duA_b {S d : Nat → Int32} {i k : Nat} (h : 36 ≤ k) : duA S d i k = S k := by unfold duA; rw [if_neg (by omega)]
theorem okA_du {F : FV} {B i : Nat} {S d : Nat → Int32} (ho : okA F B S) (hd : ∀ k, k < 36 → ∃ du, du ≤ 99 ∧ d k = nI du ∧ (kF F k = 0 → du = 0)) : okA F B (duA S d i) := by
  obtain ⟨⟨sp, a1, a2, a3, a4⟩, ⟨hd', b1, b2⟩, ⟨cu, c1, c2⟩, ⟨bu, d1, d2⟩, e1, g1⟩ := ho
  refine ⟨⟨sp, a1, a2, (duA_b (by omega)).trans a3, (duA_b (by omega)).trans a4⟩, ⟨hd', b1, (duA_b (by omega)).trans b2⟩, ⟨cu, c1, (duA_b (by omega)).trans c2⟩, ⟨bu, d1, (duA_b (by omega)).trans d2⟩, fun k hk => ?_, fun k hk => ?_⟩
  · unfold duA
    by_cases h2 : k < 36 ∧ k < i
    · rw [if_pos h2]; exact hd k hk
    · rw [if_neg h2]; exact e1 k hk
  · rw [duA_b (by omega)]; exact g1 k hk
theorem mx99 (v : Int32) : ∃ m, m ≤ 99 ∧ mxI 0 (mnI v 99) = nI m ∧ mxI 0 (mnI 99 v) = nI m := by
  have e0 : (0 : Int32).toInt = 0 := by decide
  have e99 : (99 : Int32).toInt = 99 := by decide
  have hsame : mnI 99 v = mnI v 99 := by
    unfold mnI
    by_cases h1 : v < 99
    · rw [if_pos h1, if_neg (by rw [fa_lt] at h1 ⊢; omega)]
    · by_cases h2 : (99 : Int32) < v
      · rw [if_neg h1, if_pos h2]
      · rw [if_neg h1, if_neg h2, fa_eq]; rw [fa_lt] at h1 h2; omega
  rw [hsame]
  by_cases h2 : (99 : Int32) < v
  · refine ⟨99, by omega, ?_, ?_⟩ <;> (unfold mnI; rw [if_pos h2]; decide)
  · have e : mnI v 99 = v := by unfold mnI; rw [if_neg h2]
    rw [e]
    by_cases h3 : 0 < v
    · have h4 : mxI 0 v = v := by unfold mxI; rw [if_pos h3]
      obtain ⟨j, j1, j2⟩ := nI_of2 (M := nI 99) (nI_toInt (by decide)) (x := v) (by rw [fa_lt] at h3 ⊢; omega) (by rw [fa_lt] at h2; rw [fa_le]; show v.toInt ≤ (99 : Int32).toInt; omega)
      exact ⟨j, j1, by rw [h4]; exact j2, by rw [h4]; exact j2⟩
    · have h4 : mxI 0 v = 0 := by unfold mxI; rw [if_neg h3]
      exact ⟨0, by omega, by rw [h4]; rfl, by rw [h4]; rfl⟩
/-- what the sheet tells of a spot -/
def shD (F : FV) (kind n f st : Int32) (k : Nat) : Int32 := if kind = 3 then 0 else if n ≤ nI k then 0 else if kF F k = 0 then 0 else mxI 0 (mnI (f_X10_entryOf kind (f + nI k * st)) 99)
theorem shD_ok {F : FV} {kind n f st : Int32} (k : Nat) : ∃ du, du ≤ 99 ∧ shD F kind n f st k = nI du ∧ (kF F k = 0 → du = 0) := by
  unfold shD
  split
  · exact ⟨0, by omega, rfl, fun _ => rfl⟩
  · split
    · exact ⟨0, by omega, rfl, fun _ => rfl⟩
    · split
      · exact ⟨0, by omega, rfl, fun _ => rfl⟩
      · rename_i hk
        obtain ⟨m, m1, m2, -⟩ := mx99 (f_X10_entryOf kind (f + nI k * st))
        exact ⟨m, m1, m2, fun q => absurd q hk⟩
theorem sheet_C3 {h : eH} {X : AX} {v2 v3 v4 : Int32} (hc : CI h X) (h2 : v2 ≤ 36) : ∃ h', f_X10_sheet LF h 0 3 v2 v3 v4 = some (h', -3) ∧ CS h' 46 (duA (xS X) (shD (xF X) 3 v2 v3 v4) 36) ∧ only acS h h' := by
  obtain ⟨h', x1, x2, x3⟩ := fillI (h := h) 0 (show 47 < 100 by decide) sh_47 (by decide)
  have hS := hc.2.2.2.2.1
  refine ⟨h', ?_, ?_, only_mono (fun j k a => by unfold acS; omega) x3⟩
  · unfold f_X10_sheet f_X6_clearDust
    rw [if_neg (by decide), if_neg (by decide), if_pos h2, if_pos rfl, if_pos iO_0, r_0_7 hc.1, Option.bind_some, if_pos iO_46, if_pos iO_46, r_46_0 hc.1, Option.bind_some, x1, Option.bind_some, Option.bind_some]
  · obtain ⟨r1, r2, r3, r4⟩ := hS
    have e8 : gL h' 46 8 = gL h 46 8 := o_L x3 (by omega)
    refine ⟨fun k hk => ?_, fun k hk => ?_, fun k k1 k7 => ?_, fun k hk => ?_⟩
    · rw [x2 k hk]; unfold duA shD; rw [if_pos ⟨hk, hk⟩, if_pos rfl]
    · rw [duA_b (by omega), e8]; exact r2 k hk
    · rw [duA_b (by omega), o_I x3 (by omega)]; exact r3 k k1 k7
    · rw [e8] at hk; exact r4 k hk
theorem sheet_C {h : eH} {X : AX} {B : Nat} {v1 v2 v3 v4 : Int32} (hc : CI h X) (ho : okX B X) (h1 : ¬ v1 < 0) (h1b : ¬ 3 < v1) (h2 : v2 ≤ 36) (h3 : v1 ≠ 3) (h4 : 0 ≤ v2) : ∃ h', f_X10_sheet LF h 0 v1 v2 v3 v4 = some (h', smI (duA (xS X) (shD (xF X) v1 v2 v3 v4) 36) 36) ∧ CS h' 46 (duA (xS X) (shD (xF X) v1 v2 v3 v4) 36) ∧ only acS h h' := by
  obtain ⟨p, hp⟩ := hc.2.1
  have hF := ho.1
  unfold f_X10_sheet
  rw [if_neg h1, if_neg h1b, if_pos h2, if_neg h3, if_pos h4]
  refine lpF (N := 36) (s := h) (run := fun fu (q : eH) i => f_X10_sheet_L42 LF fu (fun (h14 : eH) (w0_15 : Nat) => if isO LF w0_15 10 = true then (gR h14 w0_15 7).bind fun b17 => if isO LF b17 6 = true then (f_X6_dustOfAll LF h14 b17).bind fun r20 => some (h14, r20) else none else none) q 0 v1 v2 v3 v4 (nI i)) (Inv := fun i q => CS q 46 (duA (xS X) (shD (xF X) v1 v2 v3 v4) i) ∧ only acS h q) (Post := fun r => ∃ h', r = some (h', smI (duA (xS X) (shD (xF X) v1 v2 v3 v4) 36) 36) ∧ CS h' 46 (duA (xS X) (shD (xF X) v1 v2 v3 v4) 36) ∧ only acS h h') (by omega) ⟨by rw [duA_0]; exact hc.2.2.2.2.1, only_rfl⟩ ?_ ?_
  · rintro fu q ⟨q1, q2⟩
    have hRq := only_refs q2 hc.1
    refine ⟨q, ?_, q1, q2⟩
    show f_X10_sheet_L42 LF (fu + 1) _ q 0 v1 v2 v3 v4 (nI 36) = _
    unfold f_X10_sheet_L42
    rw [if_pos (by decide)]
    show (if isO LF 0 10 = true then (gR q 0 7).bind fun b17 => if isO LF b17 6 = true then (f_X6_dustOfAll LF q b17).bind fun r20 => some (q, r20) else none else none) = _
    rw [if_pos iO_0, r_0_7 hRq, Option.bind_some, if_pos iO_46, dustAll_C hRq (by decide) q1, Option.bind_some]
  · rintro i fu q hi ⟨q1, q2⟩
    have hRq := only_refs q2 hc.1
    have hpq := CF_only q2 (fun j k a b => by unfold acS; omega) hp
    refine Or.inr ⟨sI q 47 i (shD (xF X) v1 v2 v3 v4 i), ⟨?_, only_trans q2 (only_sI (by unfold acS; omega))⟩, fun w hw => ?_⟩
    · rw [← duA_s hi]; exact CS_d (s := 46) _ q1 hi
    · have z0 : shD (xF X) v1 v2 v3 v4 i = 0 → f_X10_sheet_J75 LF (f_X10_sheet_L42 LF fu (fun (h14 : eH) (w0_15 : Nat) => if isO LF w0_15 10 = true then (gR h14 w0_15 7).bind fun b17 => if isO LF b17 6 = true then (f_X6_dustOfAll LF h14 b17).bind fun r20 => some (h14, r20) else none else none)) (fun (h14 : eH) (w0_15 : Nat) => if isO LF w0_15 10 = true then (gR h14 w0_15 7).bind fun b17 => if isO LF b17 6 = true then (f_X6_dustOfAll LF h14 b17).bind fun r20 => some (h14, r20) else none else none) q 0 v1 v2 v3 v4 (nI i) 0 = w := fun e => by
        unfold f_X10_sheet_J75
        rw [if_pos iO_0, r_0_7 hRq, Option.bind_some, if_pos rfl, if_pos iO_46, putDust_k hRq (show (46 : Nat) ∈ stL by decide) hi, Option.bind_some, show mxI 0 (mnI 0 99) = 0 by decide +kernel, nI_p1, ← e]
        exact hw
      show f_X10_sheet_L42 LF (fu + 1) _ q 0 v1 v2 v3 v4 (nI i) = w
      unfold f_X10_sheet_L42
      rw [if_neg (show ¬ (36 : Int32) ≤ nI i from nI_ge (b := 36) hi (by decide))]
      by_cases c1 : v2 ≤ nI i
      · rw [if_pos c1]; exact z0 (by unfold shD; rw [if_neg h3, if_pos c1])
      · rw [if_neg c1, if_pos iO_0, hpq.2.1, Option.bind_some, if_pos (p_O hp)]
        by_cases c2 : kF (xF X) i = 0
        · rw [show f_X10_holds (gL q p 4) (nI i) = 0 by rw [holds_k _ hi, hpq.2.2.2.2.2.2.1]; simp [c2], if_pos rfl]
          exact z0 (by unfold shD; rw [if_neg h3, if_neg c1, if_pos c2])
        · rw [show f_X10_holds (gL q p 4) (nI i) = 1 by rw [holds_k _ hi, hpq.2.2.2.2.2.2.1]; simp [c2], if_neg i10]
          have e : shD (xF X) v1 v2 v3 v4 i = mxI 0 (mnI (f_X10_entryOf v1 (v3 + nI i * v4)) 99) := by unfold shD; rw [if_neg h3, if_neg c1, if_neg c2]
          unfold f_X10_sheet_J75
          rw [if_pos iO_0, r_0_7 hRq, Option.bind_some, if_neg i10, if_pos iO_46, putDust_k hRq (show (46 : Nat) ∈ stL by decide) hi, Option.bind_some, nI_p1, ← e]
          exact hw
theorem sheet_M {h : eH} {X : AX} {B : Nat} {v1 v2 v3 v4 : Int32} (hR : RefsOK h) (hm : MI h X) (ho : okX B X) : ∃ h', f_X11_sheet_L46 LF e_fu (fun (h16 : eH) (w1_17 : Int32) (w5_18 : Int32) => if w1_17 = 3 then some (h16, (-3)) else some (h16, w5_18)) h 73 v1 v2 v4 0 v3 0 = some (h', if v1 = 3 then -3 else smI (duA (xS X) (shD (xF X) v1 v2 v3 v4) 36) 36) ∧ MS h' 76 0 (duA (xS X) (shD (xF X) v1 v2 v3 v4) 36) ∧ only amS h h' := by
  have hF := ho.1
  have h36 := nF_le hF
  have hout : ∀ k, nF (xF X) ≤ k → k < 36 → duA (xS X) (shD (xF X) v1 v2 v3 v4) 36 k = 0 ∧ xS X k = 0 := fun k a b => by
    have hz : kF (xF X) k = 0 := by
      by_cases q : kF (xF X) k = 0
      · exact q
      · have := kF_lt q; omega
    obtain ⟨du, x, y, z⟩ := ho.2.2.2.1.2.2.2.2.1 k b
    obtain ⟨d2, x2, y2, z2⟩ := shD_ok (F := xF X) (kind := v1) (n := v2) (f := v3) (st := v4) k
    refine ⟨?_, by rw [y, z hz]; rfl⟩
    unfold duA
    rw [if_pos ⟨b, b⟩, y2, z2 hz]; rfl
  refine lpF (N := nF (xF X)) (s := (h, (0 : Int32), v3)) (run := fun fu (q : eH × Int32 × Int32) i => f_X11_sheet_L46 LF fu (fun (h16 : eH) (w1_17 : Int32) (w5_18 : Int32) => if w1_17 = 3 then some (h16, (-3)) else some (h16, w5_18)) q.1 73 v1 v2 v4 q.2.1 q.2.2 (nI i)) (Inv := fun i q => MS q.1 76 0 (duA (xS X) (shD (xF X) v1 v2 v3 v4) i) ∧ only amS h q.1 ∧ q.2.1 = smI (duA (xS X) (shD (xF X) v1 v2 v3 v4) 36) i ∧ q.2.2 = v3 + nI i * v4) (Post := fun r => ∃ h', r = some (h', if v1 = 3 then -3 else smI (duA (xS X) (shD (xF X) v1 v2 v3 v4) 36) 36) ∧ MS h' 76 0 (duA (xS X) (shD (xF X) v1 v2 v3 v4) 36) ∧ only amS h h') (by omega) ⟨by rw [duA_0]; exact hm.2.2.2.2.1, only_rfl, rfl, ?_⟩ ?_ ?_
  · show v3 = v3 + 0 * v4
    simp
  · rintro fu ⟨q, s, v⟩ ⟨q1, q2, q3, q4⟩
    have q3 : s = _ := q3
    have q2 : only amS h q := q2
    have hmq := MF_only q2 (fun k _ => by unfold amS; omega) (fun k => by unfold amS; omega) hm.1
    refine ⟨q, ?_, fun k hk => ?_, q2⟩
    · show f_X11_sheet_L46 LF (fu + 1) _ q 73 v1 v2 v4 s v (nI (nF (xF X))) = _
      unfold f_X11_sheet_L46
      rw [if_pos iO_73, spots_M hmq, Option.bind_some, if_pos (nI_le (Nat.le_refl _) (by omega))]
      have es : s = smI (duA (xS X) (shD (xF X) v1 v2 v3 v4) 36) 36 := by
        rw [q3]
        have hz : ∀ m, nF (xF X) + m ≤ 36 → smI (duA (xS X) (shD (xF X) v1 v2 v3 v4) 36) (nF (xF X) + m) = smI (duA (xS X) (shD (xF X) v1 v2 v3 v4) 36) (nF (xF X)) := fun m => by
          induction m with
          | zero => intro _; rfl
          | succ m ih =>
            intro hm2
            show smI _ (nF (xF X) + m) + duA (xS X) (shD (xF X) v1 v2 v3 v4) 36 (nF (xF X) + m) = _
            rw [ih (by omega), (hout _ (by omega) (by omega)).1]
            simp
        have := hz (36 - nF (xF X)) (by omega)
        rw [show nF (xF X) + (36 - nF (xF X)) = 36 by omega] at this
        exact this.symm
      rw [es]
      show (if v1 = 3 then some (q, -3) else some (q, _)) = _
      split <;> rfl
    · rw [q1 k hk]
      show duA _ _ (nF (xF X)) k = duA _ _ 36 k
      by_cases hkn : k < nF (xF X)
      · unfold duA; rw [if_pos ⟨by omega, hkn⟩, if_pos ⟨by omega, by omega⟩]
      · by_cases hk36 : k < 36
        · rw [(hout k (by omega) hk36).1]; unfold duA; rw [if_neg (by omega)]; exact (hout k (by omega) hk36).2
        · rw [duA_b (by omega), duA_b (by omega)]
  · rintro i fu ⟨q, s, v⟩ hi ⟨q1, q2, q3, q4⟩
    have q4 : v = v3 + nI i * v4 := q4
    have q3 : s = _ := q3
    have q2 : only amS h q := q2
    have q1 : MS q 76 0 (duA (xS X) (shD (xF X) v1 v2 v3 v4) i) := q1
    have hmq := MF_only q2 (fun k _ => by unfold amS; omega) (fun k => by unfold amS; omega) hm.1
    have hRq := only_refs q2 hR
    have hkf := kF_le hF i
    have ed : duA (xS X) (shD (xF X) v1 v2 v3 v4) 36 i = shD (xF X) v1 v2 v3 v4 i := by unfold duA; rw [if_pos ⟨by omega, by omega⟩]
    have ev : v + v4 = v3 + nI (i + 1) * v4 := by
      rw [q4, nI_succ, Int32.add_mul, Int32.one_mul, Int32.add_assoc]
    refine Or.inr ⟨(sI q 76 i (shD (xF X) v1 v2 v3 v4 i), s + shD (xF X) v1 v2 v3 v4 i, v + v4), ⟨?_, only_trans q2 (only_sI (Or.inl rfl)), ?_, ev⟩, fun w hw => ?_⟩
    · show MS (sI q 76 i _) 76 0 _
      rw [← duA_s (by omega)]; exact MS_u _ q1
    · show s + _ = smI _ i + _
      rw [q3, ed]
    · have hw : f_X11_sheet_L46 LF fu (fun (h16 : eH) (w1_17 : Int32) (w5_18 : Int32) => if w1_17 = 3 then some (h16, (-3)) else some (h16, w5_18)) (sI q 76 i (shD (xF X) v1 v2 v3 v4 i)) 73 v1 v2 v4 (s + shD (xF X) v1 v2 v3 v4 i) (v + v4) (nI (i + 1)) = w := hw
      have j122 : ∀ k148, f_X11_sheet_J122 LF (f_X11_sheet_L46 LF fu (fun (h16 : eH) (w1_17 : Int32) (w5_18 : Int32) => if w1_17 = 3 then some (h16, (-3)) else some (h16, w5_18))) k148 q 73 v1 v2 v4 s v (nI i) 76 (nI i) (shD (xF X) v1 v2 v3 v4 i) = w := fun k148 => by
        unfold f_X11_sheet_J122
        rw [iA_76, if_pos (in_nI (by omega) (by decide)), if_pos iO_73, gR_sI, r_73_7 hRq, Option.bind_some, iA_76, if_pos (in_nI (by omega) (by decide)), nI_clamp (by omega), gI_sI, if_pos ⟨rfl, rfl⟩, nI_p1]
        exact hw
      have j78 : ∀ k148 s0, mxI 0 (mnI 99 s0) = mxI 0 (mnI (f_X10_entryOf v1 v) 99) → f_X11_sheet_J78 LF (f_X11_sheet_L46 LF fu (fun (h16 : eH) (w1_17 : Int32) (w5_18 : Int32) => if w1_17 = 3 then some (h16, (-3)) else some (h16, w5_18))) k148 q 73 v1 v2 v4 s v (nI i) s0 = w := fun k148 s0 hs0 => by
        unfold f_X11_sheet_J78
        rw [if_pos iO_73, r_73_7 hRq, Option.bind_some]
        by_cases c0 : v1 = 3
        · have e : (0 : Int32) = shD (xF X) v1 v2 v3 v4 i := by unfold shD; rw [if_pos c0]
          rw [if_pos c0, e]; exact j122 k148
        · rw [if_neg c0]
          by_cases c1 : v2 ≤ nI i
          · have e : (0 : Int32) = shD (xF X) v1 v2 v3 v4 i := by unfold shD; rw [if_neg c0, if_pos c1]
            rw [if_pos c1, e]; exact j122 k148
          · rw [if_neg c1, r_73_6 hRq, Option.bind_some, iA_75, if_pos (in_nI (by omega) (by decide)), nI_clamp (by omega), hmq.2.2.2 i (by omega)]
            by_cases c2 : kF (xF X) i = 0
            · have e : (0 : Int32) = shD (xF X) v1 v2 v3 v4 i := by unfold shD; rw [if_neg c0, if_neg c1, if_pos c2]
              rw [if_pos (by rw [c2]; rfl), e]; exact j122 k148
            · have e : mxI 0 (mnI 99 s0) = shD (xF X) v1 v2 v3 v4 i := by unfold shD; rw [if_neg c0, if_neg c1, if_neg c2, hs0, q4]
              rw [if_neg (nI_ne0 (by omega) (by omega)), e]; exact j122 k148
      have sym : ∀ x : Int32, mxI 0 (mnI 99 x) = mxI 0 (mnI x 99) := fun x => by
        obtain ⟨m, -, m2, m3⟩ := mx99 x
        rw [m2, m3]
      show f_X11_sheet_L46 LF (fu + 1) _ q 73 v1 v2 v4 s v (nI i) = w
      unfold f_X11_sheet_L46
      rw [if_pos iO_73, spots_M hmq, Option.bind_some, if_neg (nI_ge hi (by omega))]
      by_cases k0 : v1 = 0
      · rw [if_pos k0]; exact j78 _ _ (by rw [sym]; unfold f_X10_entryOf; rw [if_pos k0])
      · rw [if_neg k0]
        by_cases k1 : v1 = 1
        · rw [if_pos k1]; exact j78 _ _ (by rw [sym]; unfold f_X10_entryOf; rw [if_neg k0, if_pos k1])
        · rw [if_neg k1]; exact j78 _ _ (by rw [sym]; unfold f_X10_entryOf; rw [if_neg k0, if_neg k1])
theorem sheet_P {B : Nat} {h : eH} {X : AX} (hc : CI h X) (hm : MI h X) (ho : okX B X) (v1 v2 v3 v4 : Int32) : PR B (f_X10_sheet LF h 0 v1 v2 v3 v4) (fun h1 => f_X11_sheet LF h1 73 v1 v2 v3 v4) := by
  have e3 : (3 : Int32).toInt = 3 := by decide
  have e4 : (4 : Int32).toInt = 4 := by decide
  have e0 : (0 : Int32).toInt = 0 := by decide
  have hin := in03 v1
  have okS2 : okX (B + 300) (setS X (duA (xS X) (shD (xF X) v1 v2 v3 v4) 36)) := by
    obtain ⟨o1, o2, o3, o4, o5, o6, o7, o8⟩ := okX_mono (show B ≤ B + 300 by omega) ho
    exact ⟨o1, o2, o3, okA_du o4 (fun k hk => shD_ok k), o5, o6, o7, o8⟩
  have no : ∀ r, f_X10_sheet LF h 0 v1 v2 v3 v4 = some (h, r) → (∀ h1, f_X11_sheet LF h1 73 v1 v2 v3 v4 = some (sI h1 73 0 0, r)) → PR B (f_X10_sheet LF h 0 v1 v2 v3 v4) (fun h1 => f_X11_sheet LF h1 73 v1 v2 v3 v4) := fun r a b => PR_no hc hm ho a (fun h1 _ _ => b h1)
  have yes : (∃ h', f_X10_sheet LF h 0 v1 v2 v3 v4 = some (h', if v1 = 3 then -3 else smI (duA (xS X) (shD (xF X) v1 v2 v3 v4) 36) 36) ∧ CS h' 46 (duA (xS X) (shD (xF X) v1 v2 v3 v4) 36) ∧ only acS h h') → (∀ h1, f_X11_sheet LF h1 73 v1 v2 v3 v4 = f_X11_sheet_L46 LF e_fu (fun (h16 : eH) (w1_17 : Int32) (w5_18 : Int32) => if w1_17 = 3 then some (h16, (-3)) else some (h16, w5_18)) (sI h1 73 0 0) 73 v1 v2 v4 0 v3 0) → PR B (f_X10_sheet LF h 0 v1 v2 v3 v4) (fun h1 => f_X11_sheet LF h1 73 v1 v2 v3 v4) := fun hC hM => by
    obtain ⟨h', x1, x2, x3⟩ := hC
    refine PR_mk hm (X' := setS X (duA (xS X) (shD (xF X) v1 v2 v3 v4) 36)) ⟨h', x1, CI_st x3 x2 hc, only_mono (fun j k a => by unfold acS at a; unfold cls; omega) x3⟩ (fun h1 hR h9 => ?_) okS2
    obtain ⟨h2, y1, y2, y3⟩ := sheet_M (v1 := v1) (v2 := v2) (v3 := v3) (v4 := v4) (refs_sI hR) (MI_scr thr_M h9) ho
    refine ⟨h2, ?_, MI_st (only_trans (only_sI (by unfold amS; omega)) y3) y2 h9, only_trans (only_mono (fun _ _ => msc_mdl) thr_M) (only_mono (fun j k a => by unfold amS at a; unfold mdl; omega) y3)⟩
    show f_X11_sheet LF h1 73 v1 v2 v3 v4 = _
    rw [hM h1]; exact y1
  by_cases a1 : v1 < 0
  · refine no (-1) ?_ (fun h1 => ?_)
    · unfold f_X10_sheet; rw [if_pos a1]
    · unfold f_X11_sheet; rw [if_pos iO_73, hin, if_pos a1, if_pos rfl]
  · by_cases a2 : 3 < v1
    · refine no (-1) ?_ (fun h1 => ?_)
      · unfold f_X10_sheet; rw [if_neg a1, if_pos a2]
      · unfold f_X11_sheet; rw [if_pos iO_73, hin, if_neg a1, if_neg (show ¬ v1 < 4 by rw [fa_lt] at a2 ⊢; omega), if_pos rfl]
    · have hin1 : ¬ f_X11_in v1.toInt64 0 3 = 0 := by rw [hin, if_neg a1, if_pos (by rw [fa_lt] at a2 ⊢; omega)]; exact i10
      by_cases a3 : v2 ≤ 36
      · by_cases a4 : v1 = 3
        · subst a4
          refine yes ?_ (fun h1 => ?_)
          · rw [if_pos rfl]; exact sheet_C3 hc a3
          · unfold f_X11_sheet; rw [if_pos iO_73, if_neg hin1, if_pos a3, if_pos rfl]
        · by_cases a5 : 0 ≤ v2
          · refine yes ?_ (fun h1 => ?_)
            · rw [if_neg a4]; exact sheet_C hc ho a1 a2 a3 a4 a5
            · unfold f_X11_sheet; rw [if_pos iO_73, if_neg hin1, if_pos a3, if_neg a4, if_pos a5]
          · refine no (-2) ?_ (fun h1 => ?_)
            · unfold f_X10_sheet; rw [if_neg a1, if_neg a2, if_pos a3, if_neg a4, if_neg a5]
            · unfold f_X11_sheet; rw [if_pos iO_73, if_neg hin1, if_pos a3, if_neg a4, if_neg a5]
      · refine no (-1) ?_ (fun h1 => ?_)
        · unfold f_X10_sheet; rw [if_neg a1, if_neg a2, if_neg a3]
        · unfold f_X11_sheet; rw [if_pos iO_73, if_neg hin1, if_neg a3]

/-! box -/
def mu (d : Nat) (T : Nat → Int32) (n : Nat) : Int32 := if d ≤ n then T n + T (n - d) else T n
theorem mu_comm (a b : Nat) (T : Nat → Int32) : mu a (mu b T) = mu b (mu a T) := by
  funext n
  unfold mu
  by_cases ha : a ≤ n
  · by_cases hb : b ≤ n
    · rw [if_pos ha, if_pos hb, if_pos hb, if_pos ha]
      by_cases hab : b ≤ n - a
      · rw [if_pos hab, if_pos (show a ≤ n - b by omega), show n - b - a = n - a - b by omega]; ac_rfl
      · rw [if_neg hab, if_neg (show ¬ a ≤ n - b by omega)]; ac_rfl
    · rw [if_pos ha, if_neg hb, if_neg (show ¬ b ≤ n - a by omega), if_neg hb, if_pos ha]
  · by_cases hb : b ≤ n
    · rw [if_neg ha, if_pos hb, if_pos hb, if_neg ha, if_neg (show ¬ a ≤ n - b by omega)]
    · rw [if_neg ha, if_neg hb, if_neg hb, if_neg ha]
def duA2 (S : Nat → Int32) (i : Nat) : Nat := (S i).toNatClampNeg
/-- ways to each sum with the spots below i, one left out -/
def bxO (S : Nat → Int32) (w : Int32) : Nat → (Nat → Int32)
  | 0 => fun n => if n = 0 then 1 else 0
  | i + 1 => if duA2 S i = 0 ∨ nI i = w then bxO S w i else mu (duA2 S i) (bxO S w i)
theorem bxO_w {S : Nat → Int32} {j : Nat} (hj : j < 36) : ∀ i, i ≤ j → bxO S (nI j) i = bxO S (-1) i
  | 0, _ => rfl
  | i + 1, h => by
    have ih := bxO_w (S := S) hj i (by omega)
    unfold bxO
    rw [ih]
    by_cases q : duA2 S i = 0
    · rw [if_pos (Or.inl q), if_pos (Or.inl q)]
    · rw [if_neg (fun a => a.elim q (fun e => by have := nI_inj (by omega) (by omega) e; omega)), if_neg (fun a => a.elim q (fun e => nI_pos (n := i) (by omega) (by rw [e]; decide)))]
theorem bxO_mu {S : Nat → Int32} {j : Nat} (hj : j < 36) (hd : duA2 S j ≠ 0) : ∀ i, j < i → i ≤ 36 → bxO S (-1) i = mu (duA2 S j) (bxO S (nI j) i)
  | 0, h, _ => absurd h (Nat.not_lt_zero _)
  | i + 1, h, h36 => by
    by_cases e : i = j
    · subst e
      have e1 : bxO S (-1) (i + 1) = if duA2 S i = 0 ∨ nI i = -1 then bxO S (-1) i else mu (duA2 S i) (bxO S (-1) i) := rfl
      have e2 : bxO S (nI i) (i + 1) = if duA2 S i = 0 ∨ nI i = nI i then bxO S (nI i) i else mu (duA2 S i) (bxO S (nI i) i) := rfl
      rw [e1, e2, if_neg (fun a => a.elim hd (fun e => nI_pos (n := i) (by omega) (by rw [e]; decide))), if_pos (Or.inr rfl), bxO_w hj i (Nat.le_refl _)]
    · have ih := bxO_mu hj hd i (by omega) (by omega)
      have e1 : bxO S (-1) (i + 1) = if duA2 S i = 0 ∨ nI i = -1 then bxO S (-1) i else mu (duA2 S i) (bxO S (-1) i) := rfl
      have e2 : bxO S (nI j) (i + 1) = if duA2 S i = 0 ∨ nI i = nI j then bxO S (nI j) i else mu (duA2 S i) (bxO S (nI j) i) := rfl
      rw [e1, e2, ih]
      by_cases q : duA2 S i = 0
      · rw [if_pos (Or.inl q), if_pos (Or.inl q)]
      · rw [if_neg (fun a => a.elim q (fun e => nI_pos (n := i) (by omega) (by rw [e]; decide))), if_neg (fun a => a.elim q (fun w => e (nI_inj (by omega) (by omega) w))), mu_comm]
theorem bxO_e {S : Nat → Int32} {w : Int32} {n : Nat} (h : ∀ k, n ≤ k → k < 36 → duA2 S k = 0) : ∀ m, n + m ≤ 36 → bxO S w (n + m) = bxO S w n
  | 0, _ => rfl
  | m + 1, hm => by
    rw [← bxO_e h m (by omega)]
    have e1 : bxO S w (n + (m + 1)) = if duA2 S (n + m) = 0 ∨ nI (n + m) = w then bxO S w (n + m) else mu (duA2 S (n + m)) (bxO S w (n + m)) := rfl
    rw [e1, if_pos (Or.inl (h _ (by omega) (by omega)))]
theorem alt_r (acc s a b : Int32) : (acc + s * (a + b)) + (-s) * b = acc + s * a := by grind
theorem nI_dn {n : Nat} (h : 1 ≤ n) : nI n + Int32.ofInt (-1) = nI (n - 1) := by
  have e : Int32.ofInt (-1) = -nI 1 := by decide
  rw [e, ← Int32.sub_eq_add_neg]; exact pk_sub h
theorem nI_sn {a b : Nat} (ha : a < 2 ^ 30) (hb : b < 2 ^ 30) (h : a < b) : nI a - nI b < 0 := by
  rw [fa_lt, pk_sub_toInt ha hb]
  have : (0 : Int32).toInt = 0 := by decide
  omega
def IV (h : eH) (a v : Nat) (T : Nat → Int32) : Prop := ∀ k, k ≤ v → gI h a k = T k
theorem without_C {h : eH} {d v : Nat} {T U : Nat → Int32} (hR : RefsOK h) (hd : 0 < d) (hd2 : d ≤ 99) (hv : v ≤ 999) (hT : IV h 59 v T) (hU : ∀ n, n ≤ v → T n = mu d U n) : f_X10_sumsWithout LF h 0 (nI d) (nI v) = some (U v) := by
  unfold f_X10_sumsWithout
  refine lpW (run := fun fu (q : Int32 × Int32 × Int32) => f_X10_sumsWithout_L8 LF h fu (fun (w3_5 : Int32) => some w3_5) 0 (nI d) q.1 q.2.1 q.2.2) (Inv := fun m q => (m = 0 ∧ q.2.2 < 0 ∧ q.1 = U v) ∨ ∃ n, m = n + 1 ∧ n ≤ v ∧ q.2.2 = nI n ∧ q.1 + q.2.1 * U n = U v) (Post := fun r => r = some (U v)) ?_ (v + 1) e_fu (0, 1, nI v) (by unfold e_fu; omega) (Or.inr ⟨v, rfl, Nat.le_refl _, rfl, by show (0 : Int32) + 1 * U v = U v; grind⟩)
  rintro m fu ⟨acc, s, x⟩ (⟨m0, q1, q2⟩ | ⟨n, m0, q1, q2, q3⟩)
  · refine Or.inl ?_
    have q1 : x < 0 := q1
    have q2 : acc = U v := q2
    show f_X10_sumsWithout_L8 LF h (fu + 1) _ 0 (nI d) acc s x = _
    unfold f_X10_sumsWithout_L8
    rw [if_pos q1, q2]
  · have q2 : x = nI n := q2
    have q3 : acc + s * U n = U v := q3
    refine Or.inr ⟨(acc + s * T n, -s, nI n - nI d), if d ≤ n then n - d + 1 else 0, ?_, ?_, fun z hz => ?_⟩
    · split <;> omega
    · by_cases hn : d ≤ n
      · rw [if_pos hn]
        refine Or.inr ⟨n - d, rfl, by omega, pk_sub hn, ?_⟩
        show (acc + s * T n) + (-s) * U (n - d) = U v
        rw [hU n q1]
        unfold mu
        rw [if_pos hn, alt_r]; exact q3
      · rw [if_neg hn]
        refine Or.inl ⟨rfl, nI_sn (by omega) (by omega) (by omega), ?_⟩
        show acc + s * T n = U v
        rw [hU n q1]
        unfold mu
        rw [if_neg hn]; exact q3
    · have hz : f_X10_sumsWithout_L8 LF h fu (fun (w3_5 : Int32) => some w3_5) 0 (nI d) (acc + s * T n) (-s) (nI n - nI d) = z := hz
      show f_X10_sumsWithout_L8 LF h (fu + 1) _ 0 (nI d) acc s x = z
      unfold f_X10_sumsWithout_L8
      rw [q2, if_neg (nI_pos (by omega)), if_neg (show ¬ (999 : Int32) < nI n from nI_nlt (a := 999) (by omega) (by decide)), if_neg (show ¬ nI d ≤ 0 from nI_ge (a := 0) (by omega) (by omega)), if_pos iO_0, r_0_11 hR, Option.bind_some, iA_59, if_pos (in_nI (by omega) (by decide)), nI_clamp (by omega), hT n q1]
      exact hz
theorem sums_C1 {P : Option eH → Prop} {k95 : eH → Nat → Int64 → Int32 → Int32 → Option eH} {h g0 : eH} {d v i : Nat} {T : Nat → Int32} {dm : Int64} (hR : RefsOK h) (hd : 0 < d) (hd2 : d ≤ 99) (hv : v ≤ 999) (og : only csc h g0) (hT : IV g0 59 v T) (y : ∀ g, only csc h g → IV g 59 v (mu d T) → P (k95 g 0 dm (nI v) (nI i))) : P (f_X10_countSums_L57 LF e_fu k95 g0 0 dm (nI v) (nI i) (nI d) (nI v)) := by
  refine lpX (N := v + 1 - d) (run := fun fu (g : eH) j => f_X10_countSums_L57 LF fu k95 g 0 dm (nI v) (nI i) (nI d) (nI (v - j))) (Inv := fun j g => only csc h g ∧ ∀ k, k ≤ v → gI g 59 k = if v - j < k then mu d T k else T k) (Post := P) ?_ ?_ (v + 1 - d) 0 e_fu g0 (by omega) (by unfold e_fu; omega) ⟨og, fun k hk => by rw [if_neg (by omega)]; exact hT k hk⟩
  · rintro fu g ⟨g1, g2⟩
    show P (f_X10_countSums_L57 LF (fu + 1) k95 g 0 dm (nI v) (nI i) (nI d) (nI (v - (v + 1 - d))))
    unfold f_X10_countSums_L57
    rw [if_pos (nI_lt (by omega) (by omega))]
    refine y g g1 (fun k hk => ?_)
    rw [g2 k hk]
    by_cases q : v - (v + 1 - d) < k
    · rw [if_pos q]
    · rw [if_neg q]
      unfold mu
      rw [if_neg (by omega)]
  · rintro j fu g hj ⟨g1, g2⟩
    have g1 : only csc h g := g1
    have hRg := only_refs g1 hR
    have e1 : gI g 59 (v - j) = T (v - j) := by rw [g2 _ (by omega), if_neg (by omega)]
    have e2 : gI g 59 (v - j - d) = T (v - j - d) := by rw [g2 _ (by omega), if_neg (by omega)]
    refine Or.inr ⟨sI g 59 (v - j) (T (v - j) + T (v - j - d)), ⟨only_trans g1 (only_sI (by unfold csc; omega)), fun k hk => ?_⟩, fun z hz => ?_⟩
    · rw [gI_sI]
      by_cases e : k = v - j
      · rw [if_pos ⟨rfl, e⟩, if_pos (by omega), e]
        unfold mu
        rw [if_pos (by omega)]
      · rw [if_neg (fun q => e q.2), g2 k hk]
        by_cases q : v - j < k
        · rw [if_pos q, if_pos (by omega)]
        · rw [if_neg q, if_neg (by omega)]
    · have hz : f_X10_countSums_L57 LF fu k95 (sI g 59 (v - j) (T (v - j) + T (v - j - d))) 0 dm (nI v) (nI i) (nI d) (nI (v - (j + 1))) = z := hz
      show f_X10_countSums_L57 LF (fu + 1) k95 g 0 dm (nI v) (nI i) (nI d) (nI (v - j)) = z
      unfold f_X10_countSums_L57
      rw [if_neg (nI_nlt (by omega) (by omega)), if_neg (show ¬ nI d ≤ 0 from nI_ge (a := 0) (by omega) (by omega)), if_pos iO_0, r_0_11 hRg, Option.bind_some, iA_59, if_pos (in_nI (by omega) (by decide)), Option.bind_some, pk_sub (show d ≤ v - j by omega), iA_59, if_pos (in_nI (by omega) (by decide)), nI_clamp (by omega), nI_clamp (by omega), e1, e2, Option.bind_some, nI_dn (by omega), show v - j - 1 = v - (j + 1) by omega]
      exact hz
theorem sums_s {n : Nat} {k101 : eH → Option eH} {h : eH} {v0 : Nat} {v1 : Int64} {v3 v4 : Int32} : f_X10_countSums_L18 LF (n + 1) k101 h v0 v1 v3 v4 = (if 36 ≤ v4 then k101 h else if (f_X10_holds v1 v4) = 0 then f_X10_countSums_L18 LF n k101 h v0 v1 v3 (v4 + Int32.ofInt 1) else if isO LF v0 10 = true then (gR h v0 7).bind fun b10 => if isO LF b10 6 = true then (f_X6_dustAt LF h b10 v4).bind fun r13 => f_X10_countSums_L57 LF e_fu (fun (h24 : eH) (w0_25 : Nat) (w1_26 : Int64) (w3_27 : Int32) (w4_28 : Int32) => f_X10_countSums_L18 LF n k101 h24 w0_25 w1_26 w3_27 (w4_28 + Int32.ofInt 1)) h v0 v1 v3 v4 r13 (mnI v3 999) else none else none) := rfl
theorem mn999 : ∀ v, v < 1000 → mnI (nI v) 999 = nI v := by decide +kernel
theorem sums_C {h : eH} {X : AX} {B v : Nat} {dm : Int64} (hc : CI h X) (ho : okX B X) (hv : v ≤ 999) (hdm : ∀ k, tb dm k = (decide (k < 36) && decide (xS X k ≠ 0))) : ∃ g, f_X10_countSums LF h 0 dm (nI v) = some g ∧ only csc h g ∧ IV g 59 v (bxO (xS X) (-1) 36) := by
  obtain ⟨g1, f1, f2, f3⟩ := fillI (h := h) 0 (by decide) sh_59 (by decide)
  have og1 : only csc h g1 := only_mono (fun j k a => by unfold csc; omega) f3
  have og2 : only csc h (sI g1 59 0 1) := only_trans og1 (only_sI (by unfold csc; omega))
  have hR1 := only_refs og1 hc.1
  have c0 : (0 : Int32).toNatClampNeg = 0 := by decide
  unfold f_X10_countSums
  rw [if_pos iO_0, r_0_11 hc.1, Option.bind_some, f1, Option.bind_some, r_0_11 hR1, Option.bind_some, if_pos (show inA LF 59 0 0 = true by rw [iA_59]; decide), c0]
  refine lpF (N := 36) (s := sI g1 59 0 1) (run := fun fu (g : eH) i => f_X10_countSums_L18 LF fu (fun (h29 : eH) => some h29) g 0 dm (nI v) (nI i)) (Inv := fun i g => only csc h g ∧ IV g 59 v (bxO (xS X) (-1) i)) (Post := fun r => ∃ g, r = some g ∧ only csc h g ∧ IV g 59 v (bxO (xS X) (-1) 36)) (by decide) ⟨og2, fun k hk => ?_⟩ ?_ ?_
  · rw [gI_sI]
    by_cases e : k = 0
    · rw [if_pos ⟨rfl, e⟩]
      show _ = if k = 0 then _ else _
      rw [if_pos e]
    · rw [if_neg (fun q => e q.2), f2 k (by omega)]
      show _ = if k = 0 then _ else _
      rw [if_neg e]
  · rintro fu g ⟨a1, a2⟩
    refine ⟨g, ?_, a1, a2⟩
    show f_X10_countSums_L18 LF (fu + 1) _ g 0 dm (nI v) (nI 36) = _
    rw [sums_s, if_pos (by decide)]
  · rintro i fu g hi ⟨a1, a2⟩
    have a1 : only csc h g := a1
    have hRg := only_refs a1 hc.1
    have n36 : ¬ (36 : Int32) ≤ nI i := nI_ge (b := 36) hi (by decide)
    obtain ⟨du, d1, d2, d3⟩ := ho.2.2.2.1.2.2.2.2.1 i hi
    have ed : duA2 (xS X) i = du := by unfold duA2; rw [d2]; exact nI_clamp (by omega)
    have nx : bxO (xS X) (-1) (i + 1) = if duA2 (xS X) i = 0 ∨ nI i = -1 then bxO (xS X) (-1) i else mu (duA2 (xS X) i) (bxO (xS X) (-1) i) := rfl
    rw [ed] at nx
    have hh : f_X10_holds dm (nI i) = if decide (xS X i ≠ 0) = true then 1 else 0 := by rw [holds_k _ hi, hdm i, decide_eq_true hi, Bool.true_and]
    by_cases q : du = 0
    · refine Or.inr ⟨g, ⟨a1, by rw [nx, if_pos (Or.inl q)]; exact a2⟩, fun z hz => ?_⟩
      show f_X10_countSums_L18 LF (fu + 1) _ g 0 dm (nI v) (nI i) = z
      rw [sums_s, if_neg n36, hh, d2, if_pos (by rw [q]; decide), nI_p1]; exact hz
    · have nn : ¬ (du = 0 ∨ nI i = -1) := fun a => a.elim q (fun e => nI_pos (n := i) (by omega) (by rw [e]; decide))
      have hst := (CI_scr a1 hc).2.2.2.2.1
      have e47 : gI g (46 + 1) i = nI du := (hst.1 i hi).trans d2
      obtain ⟨g', hg'⟩ : ∃ g', (only csc h g' ∧ IV g' 59 v (bxO (xS X) (-1) (i + 1))) ∧ f_X10_countSums_L57 LF e_fu (fun (h24 : eH) (w0_25 : Nat) (w1_26 : Int64) (w3_27 : Int32) (w4_28 : Int32) => f_X10_countSums_L18 LF fu (fun (h29 : eH) => some h29) h24 w0_25 w1_26 w3_27 (w4_28 + Int32.ofInt 1)) g 0 dm (nI v) (nI i) (nI du) (nI v) = f_X10_countSums_L18 LF fu (fun (h29 : eH) => some h29) g' 0 dm (nI v) (nI (i + 1)) :=
        sums_C1 (P := fun r => ∃ g', (only csc h g' ∧ IV g' 59 v (bxO (xS X) (-1) (i + 1))) ∧ r = f_X10_countSums_L18 LF fu (fun (h29 : eH) => some h29) g' 0 dm (nI v) (nI (i + 1))) hc.1 (Nat.pos_of_ne_zero q) d1 hv a1 a2 (fun g' b1 b2 => ⟨g', ⟨b1, by rw [nx, if_neg nn]; exact b2⟩, by rw [nI_p1]⟩)
      refine Or.inr ⟨g', hg'.1, fun z hz => ?_⟩
      show f_X10_countSums_L18 LF (fu + 1) _ g 0 dm (nI v) (nI i) = z
      rw [sums_s, if_neg n36, hh, d2, if_neg (by rw [if_pos (decide_eq_true (nI_ne0 (by omega) (by omega)))]; exact i10), if_pos iO_0, r_0_7 hRg, Option.bind_some, if_pos iO_46, dustAt_k hRg (by decide) hi, Option.bind_some, e47, mn999 v (by omega), hg'.2]
      exact hz
/-! the reference -/
theorem ways_M0 {P : Option (eH × Int32) → Prop} {k31 : eH → Nat → Int32 → Int32 → Option (eH × Int32)} {h g0 : eH} {v : Nat} {w : Int32} (hR : RefsOK h) (hv : v ≤ 999) (og : only msc h g0) (y : ∀ g, only msc h g → IV g 96 v (fun n => if n = 0 then 1 else 0) → P (k31 g 73 (nI v) w)) : P (f_X11_waysTo_L2 LF e_fu k31 g0 73 (nI v) w 0) := by
  refine lpF (N := v + 1) (s := g0) (run := fun fu (g : eH) i => f_X11_waysTo_L2 LF fu k31 g 73 (nI v) w (nI i)) (Inv := fun i g => only msc h g ∧ ∀ k, k < i → gI g 96 k = if k = 0 then 1 else 0) (Post := P) (by omega) ⟨og, fun k hk => absurd hk (Nat.not_lt_zero k)⟩ ?_ ?_
  · rintro fu g ⟨g1, g2⟩
    show P (f_X11_waysTo_L2 LF (fu + 1) k31 g 73 (nI v) w (nI (v + 1)))
    unfold f_X11_waysTo_L2
    rw [if_pos (nI_lt (by omega) (by omega))]
    exact y g g1 (fun k hk => g2 k (by omega))
  · rintro i fu g hi ⟨g1, g2⟩
    have g1 : only msc h g := g1
    have hRg := only_refs g1 hR
    have st : ∀ k, k < i + 1 → gI (sI g 96 i (if i = 0 then 1 else 0)) 96 k = if k = 0 then 1 else 0 := fun k hk => by
      rw [gI_sI]
      by_cases e : k = i
      · rw [if_pos ⟨rfl, e⟩, e]
      · rw [if_neg (fun q => e q.2)]; exact g2 k (by omega)
    refine Or.inr ⟨sI g 96 i (if i = 0 then 1 else 0), ⟨only_trans g1 (only_sI (by unfold msc; omega)), st⟩, fun z hz => ?_⟩
    have hz : f_X11_waysTo_L2 LF fu k31 (sI g 96 i (if i = 0 then 1 else 0)) 73 (nI v) w (nI (i + 1)) = z := hz
    show f_X11_waysTo_L2 LF (fu + 1) k31 g 73 (nI v) w (nI i) = z
    unfold f_X11_waysTo_L2
    rw [if_neg (nI_nlt (by omega) (by omega)), if_pos iO_73, r_73_42 hRg, Option.bind_some, iA_96]
    by_cases e : i = 0
    · rw [if_pos e] at hz
      rw [if_pos (show nI i = 0 by rw [e]; rfl), if_pos (in_nI (by omega) (by decide)), nI_clamp (by omega), nI_p1]; exact hz
    · rw [if_neg e] at hz
      rw [if_neg (nI_ne0 (by omega) (by omega)), if_pos (in_nI (by omega) (by decide)), nI_clamp (by omega), nI_p1]; exact hz
theorem ways_M1 {P : Option (eH × Int32) → Prop} {k99 : eH → Nat → Int32 → Int32 → Int32 → Option (eH × Int32)} {h g0 : eH} {X : AX} {B v s : Nat} {w : Int32} {T : Nat → Int32} (hR : RefsOK h) (hm : MI h X) (ho : okX B X) (hs : s < 36) (hv : v ≤ 999) (og : only msc h g0) (hT : IV g0 96 v T) (y : ∀ g, only msc h g → IV g 96 v (if duA2 (xS X) s = 0 ∨ nI s = w then T else mu (duA2 (xS X) s) T) → P (k99 g 73 (nI v) w (nI s))) : P (f_X11_waysTo_L44 LF e_fu k99 g0 73 (nI v) w (nI s) (nI v)) := by
  obtain ⟨d, d1, d2, d3⟩ := ho.2.2.2.1.2.2.2.2.1 s hs
  have ed : duA2 (xS X) s = d := by unfold duA2; rw [d2]; exact nI_clamp (by omega)
  rw [ed] at y
  have e76 : ∀ g, only msc h g → gI g 76 s = nI d := fun g g1 => (MS_0 (MI_scr g1 hm).2.2.2.2.1 (by omega)).trans d2
  by_cases qq : d = 0 ∨ nI s = w
  · rw [if_pos qq] at y
    have hRg := only_refs og hR
    obtain ⟨fu, hfu⟩ := fu_s 0 (by decide)
    rw [hfu]
    show P (f_X11_waysTo_L44 LF (fu + 1) k99 g0 73 (nI v) w (nI s) (nI v))
    unfold f_X11_waysTo_L44
    rw [if_pos iO_73, r_73_7 hRg, Option.bind_some, iA_76, if_pos (in_nI (by omega) (by decide)), nI_clamp (by omega), e76 g0 og]
    by_cases q1 : v < d
    · rw [if_pos (nI_lt q1 (by omega))]; exact y g0 og hT
    · rw [if_neg (nI_nlt (by omega) (by omega)), Option.bind_some, iA_76, if_pos (in_nI (by omega) (by decide)), e76 g0 og]
      by_cases q2 : d = 0
      · rw [if_pos (by rw [q2]; decide)]; exact y g0 og hT
      · rw [if_neg (show ¬ nI d ≤ 0 from nI_ge (a := 0) (by omega) (by omega)), if_pos (qq.resolve_left q2)]; exact y g0 og hT
  · rw [if_neg qq] at y
    have hd : 0 < d := Nat.pos_of_ne_zero (fun e => qq (Or.inl e))
    have hw : ¬ nI s = w := fun e => qq (Or.inr e)
    refine lpX (N := v + 1 - d) (run := fun fu (g : eH) j => f_X11_waysTo_L44 LF fu k99 g 73 (nI v) w (nI s) (nI (v - j))) (Inv := fun j g => only msc h g ∧ ∀ k, k ≤ v → gI g 96 k = if v - j < k then mu d T k else T k) (Post := P) ?_ ?_ (v + 1 - d) 0 e_fu g0 (by omega) (by unfold e_fu; omega) ⟨og, fun k hk => by rw [if_neg (by omega)]; exact hT k hk⟩
    · rintro fu g ⟨g1, g2⟩
      have g1 : only msc h g := g1
      have hRg := only_refs g1 hR
      show P (f_X11_waysTo_L44 LF (fu + 1) k99 g 73 (nI v) w (nI s) (nI (v - (v + 1 - d))))
      unfold f_X11_waysTo_L44
      rw [if_pos iO_73, r_73_7 hRg, Option.bind_some, iA_76, if_pos (in_nI (by omega) (by decide)), nI_clamp (by omega), e76 g g1, if_pos (nI_lt (by omega) (by omega))]
      refine y g g1 (fun k hk => ?_)
      rw [g2 k hk]
      by_cases q : v - (v + 1 - d) < k
      · rw [if_pos q]
      · rw [if_neg q]
        unfold mu
        rw [if_neg (by omega)]
    · rintro j fu g hj ⟨g1, g2⟩
      have g1 : only msc h g := g1
      have hRg := only_refs g1 hR
      have e1 : gI g 96 (v - j) = T (v - j) := by rw [g2 _ (by omega), if_neg (by omega)]
      have e2 : gI g 96 (v - j - d) = T (v - j - d) := by rw [g2 _ (by omega), if_neg (by omega)]
      refine Or.inr ⟨sI g 96 (v - j) (T (v - j) + T (v - j - d)), ⟨only_trans g1 (only_sI (by unfold msc; omega)), fun k hk => ?_⟩, fun z hz => ?_⟩
      · rw [gI_sI]
        by_cases e : k = v - j
        · rw [if_pos ⟨rfl, e⟩, if_pos (by omega), e]
          unfold mu
          rw [if_pos (by omega)]
        · rw [if_neg (fun q => e q.2), g2 k hk]
          by_cases q : v - j < k
          · rw [if_pos q, if_pos (by omega)]
          · rw [if_neg q, if_neg (by omega)]
      · have hz : f_X11_waysTo_L44 LF fu k99 (sI g 96 (v - j) (T (v - j) + T (v - j - d))) 73 (nI v) w (nI s) (nI (v - (j + 1))) = z := hz
        show f_X11_waysTo_L44 LF (fu + 1) k99 g 73 (nI v) w (nI s) (nI (v - j)) = z
        unfold f_X11_waysTo_L44
        rw [if_pos iO_73, r_73_7 hRg, Option.bind_some, iA_76, if_pos (in_nI (N := 79) (by omega) (by decide)), nI_clamp (show s < 2 ^ 31 by omega), e76 g g1, if_neg (nI_nlt (by omega) (by omega)), Option.bind_some, iA_76, if_pos (in_nI (N := 79) (by omega) (by decide)), e76 g g1, if_neg (show ¬ nI d ≤ 0 from nI_ge (a := 0) (by omega) (by omega)), if_neg hw, r_73_42 hRg, Option.bind_some, iA_96, if_pos (in_nI (N := 1000) (by omega) (by decide)), Option.bind_some, Option.bind_some, iA_76, if_pos (in_nI (N := 79) (by omega) (by decide)), e76 g g1, pk_sub (show d ≤ v - j by omega), iA_96, if_pos (in_nI (N := 1000) (by omega) (by decide)), nI_clamp (show v - j < 2 ^ 31 by omega), nI_clamp (show v - j - d < 2 ^ 31 by omega), e1, e2, Option.bind_some, nI_dn (by omega), show v - j - 1 = v - (j + 1) by omega]
        exact hz
theorem ways_s {n : Nat} {k105 : eH → Nat → Int32 → Option (eH × Int32)} {h : eH} {v0 : Nat} {v1 v2 v3 : Int32} : f_X11_waysTo_L33 LF (n + 1) k105 h v0 v1 v2 v3 = (if isO LF v0 11 = true then (f_X11_spots LF h v0).bind fun r11 => if r11 ≤ v3 then k105 h v0 v1 else f_X11_waysTo_L44 LF e_fu (fun (h31 : eH) (w0_32 : Nat) (w1_33 : Int32) (w2_34 : Int32) (w3_35 : Int32) => f_X11_waysTo_L33 LF n k105 h31 w0_32 w1_33 w2_34 (w3_35 + Int32.ofInt 1)) h v0 v1 v2 v3 v1 else none) := rfl
theorem du_far {F : FV} {B : Nat} {S : Nat → Int32} (ho : okA F B S) {k : Nat} (h1 : nF F ≤ k) (h2 : k < 36) : duA2 S k = 0 := by
  obtain ⟨du, d1, d2, d3⟩ := ho.2.2.2.2.1 k h2
  have z : du = 0 := d3 (by
    by_cases q : kF F k = 0
    · exact q
    · have := kF_lt q; omega)
  unfold duA2
  rw [d2, z]; decide
theorem ways_M {h g0 : eH} {X : AX} {B v : Nat} {w : Int32} (hR : RefsOK h) (hm : MI h X) (ho : okX B X) (hv : v ≤ 999) (og : only msc h g0) : ∃ g, f_X11_waysTo LF g0 73 (nI v) w = some (g, bxO (xS X) w 36 v) ∧ only msc h g := by
  have h36 := nF_le ho.1
  unfold f_X11_waysTo
  refine ways_M0 (P := fun r => ∃ g, r = some (g, bxO (xS X) w 36 v) ∧ only msc h g) hR hv og (fun ga a1 a2 => ?_)
  refine lpF (N := nF (xF X)) (s := ga) (run := fun fu (g : eH) i => f_X11_waysTo_L33 LF fu (fun (h36 : eH) (w0_37 : Nat) (w1_38 : Int32) => if isO LF w0_37 11 = true then (gR h36 w0_37 42).bind fun b40 => if inA LF b40 0 w1_38 = true then some (h36, gI h36 b40 w1_38.toNatClampNeg) else none else none) g 73 (nI v) w (nI i)) (Inv := fun i g => only msc h g ∧ IV g 96 v (bxO (xS X) w i)) (Post := fun r => ∃ g, r = some (g, bxO (xS X) w 36 v) ∧ only msc h g) (by omega) ⟨a1, a2⟩ ?_ ?_
  · rintro fu g ⟨g1, g2⟩
    have hRg := only_refs g1 hR
    have e : bxO (xS X) w 36 = bxO (xS X) w (nF (xF X)) := by
      have := bxO_e (S := xS X) (w := w) (n := nF (xF X)) (fun k k1 k2 => du_far ho.2.2.2.1 k1 k2) (36 - nF (xF X)) (by omega)
      rwa [show nF (xF X) + (36 - nF (xF X)) = 36 by omega] at this
    refine ⟨g, ?_, g1⟩
    show f_X11_waysTo_L33 LF (fu + 1) _ g 73 (nI v) w (nI (nF (xF X))) = _
    rw [ways_s, if_pos iO_73, spots_M (MI_scr g1 hm).1, Option.bind_some, if_pos (nI_le (Nat.le_refl _) (by omega)), if_pos iO_73, r_73_42 hRg, Option.bind_some, iA_96, if_pos (in_nI (by omega) (by decide)), nI_clamp (by omega), g2 v (Nat.le_refl _), e]
  · rintro i fu g hi ⟨g1, g2⟩
    have g1 : only msc h g := g1
    obtain ⟨g', hg'⟩ : ∃ g', (only msc h g' ∧ IV g' 96 v (bxO (xS X) w (i + 1))) ∧ f_X11_waysTo_L44 LF e_fu (fun (h31 : eH) (w0_32 : Nat) (w1_33 : Int32) (w2_34 : Int32) (w3_35 : Int32) => f_X11_waysTo_L33 LF fu (fun (h36 : eH) (w0_37 : Nat) (w1_38 : Int32) => if isO LF w0_37 11 = true then (gR h36 w0_37 42).bind fun b40 => if inA LF b40 0 w1_38 = true then some (h36, gI h36 b40 w1_38.toNatClampNeg) else none else none) h31 w0_32 w1_33 w2_34 (w3_35 + Int32.ofInt 1)) g 73 (nI v) w (nI i) (nI v) = f_X11_waysTo_L33 LF fu (fun (h36 : eH) (w0_37 : Nat) (w1_38 : Int32) => if isO LF w0_37 11 = true then (gR h36 w0_37 42).bind fun b40 => if inA LF b40 0 w1_38 = true then some (h36, gI h36 b40 w1_38.toNatClampNeg) else none else none) g' 73 (nI v) w (nI (i + 1)) :=
      ways_M1 (P := fun r => ∃ g', (only msc h g' ∧ IV g' 96 v (bxO (xS X) w (i + 1))) ∧ r = f_X11_waysTo_L33 LF fu (fun (h36 : eH) (w0_37 : Nat) (w1_38 : Int32) => if isO LF w0_37 11 = true then (gR h36 w0_37 42).bind fun b40 => if inA LF b40 0 w1_38 = true then some (h36, gI h36 b40 w1_38.toNatClampNeg) else none else none) g' 73 (nI v) w (nI (i + 1))) hR hm ho (by omega) hv g1 g2 (fun g' b1 b2 => ⟨g', ⟨b1, b2⟩, by rw [nI_p1]⟩)
    refine Or.inr ⟨g', hg'.1, fun z hz => ?_⟩
    show f_X11_waysTo_L33 LF (fu + 1) _ g 73 (nI v) w (nI i) = z
    rw [ways_s, if_pos iO_73, spots_M (MI_scr g1 hm).1, Option.bind_some, if_neg (nI_ge hi (by omega)), hg'.2]
    exact hz
def bxM (S : Nat → Int32) (v : Nat) : Nat → Int64
  | 0 => 0
  | i + 1 => if duA2 S i ≠ 0 ∧ bxO S (nI i) 36 v = 0 then bxM S v i ||| f_X10_bit (nI i) else bxM S v i
theorem bxM_e {S : Nat → Int32} {v n : Nat} (h : ∀ k, n ≤ k → k < 36 → duA2 S k = 0) : ∀ m, n + m ≤ 36 → bxM S v (n + m) = bxM S v n
  | 0, _ => rfl
  | m + 1, hm => by
    rw [← bxM_e h m (by omega)]
    have e1 : bxM S v (n + (m + 1)) = if duA2 S (n + m) ≠ 0 ∧ bxO S (nI (n + m)) 36 v = 0 then bxM S v (n + m) ||| f_X10_bit (nI (n + m)) else bxM S v (n + m) := rfl
    rw [e1, if_neg (fun q => q.1 (h _ (by omega) (by omega)))]
theorem box_CL {P : Option (eH × Int32) → Prop} {k103 : eH → Nat → Int32 → Int64 → Option (eH × Int32)} {h g : eH} {X : AX} {B v : Nat} {dm : Int64} (hc : CI h X) (ho : okX B X) (hv : v ≤ 999) (hdm : ∀ k, tb dm k = (decide (k < 36) && decide (xS X k ≠ 0))) (og : only csc h g) (hT : IV g 59 v (bxO (xS X) (-1) 36)) (y : P (k103 g 0 (nI v) (if bxO (xS X) (-1) 36 v ≤ 0 then 0 else bxM (xS X) v 36))) : P (f_X10_box_L45 LF e_fu k103 g 0 (nI v) dm 0 0) := by
  have hRg := only_refs og hc.1
  by_cases h0 : bxO (xS X) (-1) 36 v ≤ 0
  · rw [if_pos h0] at y
    obtain ⟨fu, hfu⟩ := fu_s 0 (by decide)
    rw [hfu]
    show P (f_X10_box_L45 LF (fu + 1) k103 g 0 (nI v) dm 0 0)
    unfold f_X10_box_L45
    rw [if_neg (by decide), if_pos iO_0, r_0_11 hRg, Option.bind_some, iA_59, if_pos (in_nI (by omega) (by decide)), nI_clamp (by omega), hT v (Nat.le_refl _), if_pos h0]
    exact y
  · rw [if_neg h0] at y
    refine lpF (N := 36) (s := (0 : Int64)) (run := fun fu (q : Int64) i => f_X10_box_L45 LF fu k103 g 0 (nI v) dm q (nI i)) (Inv := fun i q => q = bxM (xS X) v i) (Post := P) (by decide) rfl ?_ ?_
    · rintro fu q rfl
      show P (f_X10_box_L45 LF (fu + 1) k103 g 0 (nI v) dm (bxM (xS X) v 36) (nI 36))
      unfold f_X10_box_L45
      rw [if_pos (by decide)]; exact y
    · rintro i fu q hi rfl
      have n36 : ¬ (36 : Int32) ≤ nI i := nI_ge (b := 36) hi (by decide)
      obtain ⟨du, d1, d2, d3⟩ := ho.2.2.2.1.2.2.2.2.1 i hi
      have ed : duA2 (xS X) i = du := by unfold duA2; rw [d2]; exact nI_clamp (by omega)
      have nx : bxM (xS X) v (i + 1) = if duA2 (xS X) i ≠ 0 ∧ bxO (xS X) (nI i) 36 v = 0 then bxM (xS X) v i ||| f_X10_bit (nI i) else bxM (xS X) v i := rfl
      rw [ed] at nx
      have hh : f_X10_holds dm (nI i) = if decide (xS X i ≠ 0) = true then 1 else 0 := by rw [holds_k _ hi, hdm i, decide_eq_true hi, Bool.true_and]
      have hst := (CI_scr og hc).2.2.2.2.1
      have e47 : gI g (46 + 1) i = nI du := (hst.1 i hi).trans d2
      refine Or.inr ⟨bxM (xS X) v (i + 1), rfl, fun z hz => ?_⟩
      have hz : f_X10_box_L45 LF fu k103 g 0 (nI v) dm (bxM (xS X) v (i + 1)) (nI (i + 1)) = z := hz
      rw [nx] at hz
      show f_X10_box_L45 LF (fu + 1) k103 g 0 (nI v) dm (bxM (xS X) v i) (nI i) = z
      unfold f_X10_box_L45
      rw [if_neg n36, if_pos iO_0, r_0_11 hRg, Option.bind_some, iA_59, if_pos (in_nI (by omega) (by decide)), nI_clamp (by omega), hT v (Nat.le_refl _), if_neg h0, hh, d2]
      by_cases q : du = 0
      · rw [if_neg (fun a => a.1 q)] at hz
        rw [if_pos (by rw [q]; decide), nI_p1]; exact hz
      · have wo : f_X10_sumsWithout LF g 0 (nI du) (nI v) = some (bxO (xS X) (nI i) 36 v) := without_C hRg (Nat.pos_of_ne_zero q) d1 hv hT (fun n _ => by rw [bxO_mu hi (by rw [ed]; exact q) 36 hi (by omega), ed])
        rw [if_neg (by rw [if_pos (decide_eq_true (nI_ne0 (by omega) (by omega)))]; exact i10), r_0_7 hRg, Option.bind_some, if_pos iO_46, dustAt_k hRg (by decide) hi, Option.bind_some, e47, wo, Option.bind_some, nI_p1]
        by_cases q2 : bxO (xS X) (nI i) 36 v = 0
        · rw [if_pos ⟨q, q2⟩] at hz; rw [if_pos q2]; exact hz
        · rw [if_neg (fun a => q2 a.2)] at hz; rw [if_neg q2]; exact hz
theorem box_ML {P : Option (eH × Int32) → Prop} {k93 : eH → Nat → Int32 → Int64 → Option (eH × Int32)} {h g0 : eH} {X : AX} {B v : Nat} (hR : RefsOK h) (hm : MI h X) (ho : okX B X) (hv : v ≤ 999) (og : only msc h g0) (y : ∀ g, only msc h g → P (k93 g 73 (bxO (xS X) (-1) 36 v) (if bxO (xS X) (-1) 36 v ≤ 0 then 0 else bxM (xS X) v 36))) : P (f_X11_box_L43 LF e_fu k93 g0 73 (nI v) (bxO (xS X) (-1) 36 v) 0 0) := by
  have h36 := nF_le ho.1
  have e36 : bxM (xS X) v 36 = bxM (xS X) v (nF (xF X)) := by
    have := bxM_e (S := xS X) (v := v) (n := nF (xF X)) (fun k k1 k2 => du_far ho.2.2.2.1 k1 k2) (36 - nF (xF X)) (by omega)
    rwa [show nF (xF X) + (36 - nF (xF X)) = 36 by omega] at this
  generalize bxO (xS X) (-1) 36 v = W at y ⊢
  have hF1 : 1 ≤ nF (xF X) := Nat.mul_le_mul ho.1.1 ho.1.2.2.1
  by_cases h0 : W ≤ 0
  · have y := y g0 og
    rw [if_pos h0] at y
    obtain ⟨fu, hfu⟩ := fu_s 0 (by decide)
    rw [hfu]
    show P (f_X11_box_L43 LF (fu + 1) k93 g0 73 (nI v) W 0 0)
    unfold f_X11_box_L43
    rw [if_pos iO_73, spots_M (MI_scr og hm).1, Option.bind_some, if_neg (show ¬ nI (nF (xF X)) ≤ 0 from nI_ge (a := 0) (by omega) (by omega)), if_pos h0]
    exact y
  · refine lpF (N := nF (xF X)) (s := (g0, (0 : Int64))) (run := fun fu (q : eH × Int64) i => f_X11_box_L43 LF fu k93 q.1 73 (nI v) W q.2 (nI i)) (Inv := fun i q => only msc h q.1 ∧ q.2 = bxM (xS X) v i) (Post := P) (by omega) ⟨og, rfl⟩ ?_ ?_
    · rintro fu ⟨g, q⟩ ⟨g1, g2⟩
      have g2 : q = bxM (xS X) v (nF (xF X)) := g2
      have y := y g g1
      rw [if_neg h0, e36] at y
      show P (f_X11_box_L43 LF (fu + 1) k93 g 73 (nI v) W q (nI (nF (xF X))))
      unfold f_X11_box_L43
      rw [if_pos iO_73, spots_M (MI_scr g1 hm).1, Option.bind_some, if_pos (nI_le (Nat.le_refl _) (by omega)), g2]; exact y
    · rintro i fu ⟨g, q⟩ hi ⟨g1, g2⟩
      have g1 : only msc h g := g1
      have g2 : q = bxM (xS X) v i := g2
      have hRg := only_refs g1 hR
      obtain ⟨du, d1, d2, d3⟩ := ho.2.2.2.1.2.2.2.2.1 i (by omega)
      have ed : duA2 (xS X) i = du := by unfold duA2; rw [d2]; exact nI_clamp (by omega)
      have nx : bxM (xS X) v (i + 1) = if duA2 (xS X) i ≠ 0 ∧ bxO (xS X) (nI i) 36 v = 0 then bxM (xS X) v i ||| f_X10_bit (nI i) else bxM (xS X) v i := rfl
      rw [ed, ← g2] at nx
      have e76 : gI g 76 i = nI du := (MS_0 (MI_scr g1 hm).2.2.2.2.1 (by omega)).trans d2
      have nN : ¬ nI (nF (xF X)) ≤ nI i := nI_ge hi (by omega)
      by_cases q0 : du = 0
      · rw [if_neg (fun a => a.1 q0)] at nx
        refine Or.inr ⟨(g, q), ⟨g1, nx.symm⟩, fun z hz => ?_⟩
        show f_X11_box_L43 LF (fu + 1) k93 g 73 (nI v) W q (nI i) = z
        unfold f_X11_box_L43
        rw [if_pos iO_73, spots_M (MI_scr g1 hm).1, Option.bind_some, if_neg nN, if_neg h0, r_73_7 hRg, Option.bind_some, iA_76, if_pos (in_nI (N := 79) (by omega) (by decide)), nI_clamp (by omega), e76, if_pos (by rw [q0]; decide), or0, nI_p1]; exact hz
      · obtain ⟨g', x1, x2⟩ := ways_M (w := nI i) hR hm ho hv g1
        by_cases q2 : bxO (xS X) (nI i) 36 v = 0
        · rw [if_pos ⟨q0, q2⟩] at nx
          refine Or.inr ⟨(g', q ||| f_X10_bit (nI i)), ⟨x2, nx.symm⟩, fun z hz => ?_⟩
          show f_X11_box_L43 LF (fu + 1) k93 g 73 (nI v) W q (nI i) = z
          unfold f_X11_box_L43
          rw [if_pos iO_73, spots_M (MI_scr g1 hm).1, Option.bind_some, if_neg nN, if_neg h0, r_73_7 hRg, Option.bind_some, iA_76, if_pos (in_nI (N := 79) (by omega) (by decide)), nI_clamp (by omega), e76, if_neg (show ¬ nI du ≤ 0 from nI_ge (a := 0) (by omega) (by omega)), x1, Option.bind_some, if_pos q2, sh1 (by omega), nI_p1]; exact hz
        · rw [if_neg (fun a => q2 a.2)] at nx
          refine Or.inr ⟨(g', q), ⟨x2, nx.symm⟩, fun z hz => ?_⟩
          show f_X11_box_L43 LF (fu + 1) k93 g 73 (nI v) W q (nI i) = z
          unfold f_X11_box_L43
          rw [if_pos iO_73, spots_M (MI_scr g1 hm).1, Option.bind_some, if_neg nN, if_neg h0, r_73_7 hRg, Option.bind_some, iA_76, if_pos (in_nI (N := 79) (by omega) (by decide)), nI_clamp (by omega), e76, if_neg (show ¬ nI du ≤ 0 from nI_ge (a := 0) (by omega) (by omega)), x1, Option.bind_some, if_neg q2, or0, nI_p1]; exact hz
theorem box_P {B : Nat} {h : eH} {X : AX} (hc : CI h X) (hm : MI h X) (ho : okX B X) (v : Int32) : PR B (f_X10_box LF h 0 v) (fun h1 => f_X11_box LF h1 73 v) := by
  have in9 : f_X11_in v.toInt64 0 999 = if v < 0 then 0 else if nI 999 < v then 0 else 1 := in_00 v 999
  have hS := hc.2.2.2.2.1
  obtain ⟨w, w1, w2⟩ := dusty_C hc.1 (show (46 : Nat) ∈ stL by decide) hS ho.2.2.2.1
  have ew : f_J13_bitCount_95d88 w = nI (fb_ct (fun k => decide (xS X k ≠ 0)) 36) := by
    rw [bitC36 (fun k hk => by rw [w2 k, decide_eq_false (by omega)]; rfl)]
    congr 1
    exact fb_ct_cong (fun k hk => by rw [w2 k, decide_eq_true hk]; rfl)
  have le2 := fb_ct_le (fun k => decide (xS X k ≠ 0)) 36
  have eM : ∀ h1, RefsOK h1 → MI h1 X → f_X11_dustyMany LF (sI h1 73 0 0) 73 = some (nI (fb_ct (fun k => decide (xS X k ≠ 0)) 36)) := fun h1 hR h9 => by
    have h9' := MI_scr thr_M h9
    exact dusty_M ho.1 (refs_sI hR) h9'.1 h9'.2.2.2.2.1 ho.2.2.2.1
  generalize fb_ct (fun k => decide (xS X k ≠ 0)) 36 = d at ew eM le2
  rcases pos_le v 999 (by decide) with hv | ⟨hv, hv2, hv3⟩ | ⟨N, hN, rfl⟩
  · refine PR_no hc hm ho (r := -1) ?_ (fun h1 hR h9 => ?_)
    · unfold f_X10_box; rw [if_pos hv]
    · show f_X11_box LF h1 73 v = _
      unfold f_X11_box; rw [if_pos iO_73, in9, if_pos hv, if_pos rfl]
  · refine PR_no hc hm ho (r := -1) ?_ (fun h1 hR h9 => ?_)
    · unfold f_X10_box; rw [if_neg hv, if_neg (show ¬ v ≤ 999 from hv2)]
    · show f_X11_box LF h1 73 v = _
      unfold f_X11_box; rw [if_pos iO_73, in9, if_neg hv, if_pos hv3, if_pos rfl]
  · have hin : ¬ f_X11_in (nI N).toInt64 0 999 = 0 := by rw [in9, if_neg (nI_pos (by omega)), if_neg (nI_nlt hN (by omega))]; exact i10
    have l9 : nI N ≤ 999 := nI_le (b := 999) hN (by decide)
    by_cases d20 : d ≤ 20
    · have q20 : nI d ≤ 20 := nI_le (b := 20) d20 (by decide)
      refine PR_q hc hm ho (l := [if bxO (xS X) (-1) 36 N ≤ 0 then 0 else bxM (xS X) N 36]) (r := bxO (xS X) (-1) 36 N) (by show 1 ≤ 37; omega) ?_ (fun h1 hR h9 => ?_)
      · obtain ⟨g, x1, x2, x3⟩ := sums_C hc ho hN w2
        unfold f_X10_box
        rw [if_neg (nI_pos (by omega)), if_pos l9, if_pos iO_0, r_0_7 hc.1, Option.bind_some, if_pos iO_46, w1, Option.bind_some, ew, if_pos q20, x1, Option.bind_some]
        refine box_CL (P := fun r => ∃ h1, r = some (h1, _) ∧ CW h1 _ ∧ only cscW h h1) hc ho hN w2 x2 x3 ?_
        generalize (if bxO (xS X) (-1) 36 N ≤ 0 then (0 : Int64) else bxM (xS X) N 36) = M
        have hRg := only_refs x2 hc.1
        obtain ⟨b1, b2⟩ := rowbeg_C g
        have hRb : RefsOK (sI g 3 1 0) := refs_sI hRg
        have ob : only (fun j _ => j = 3 ∨ j = 4) g (sI g 3 1 0) := only_sI (Or.inl rfl)
        obtain ⟨h3, r1, r2, r3⟩ := rowadd_C hRb b2 (by decide) M
        have hR3 := only_refs r3 hRb
        have e59 : gI h3 59 N = bxO (xS X) (-1) 36 N := ((o_I r3 (by omega)).trans (o_I ob (by omega))).trans (x3 N (Nat.le_refl _))
        refine ⟨h3, ?_, r2, only_trans (csc_w x2) (row_w (only_trans ob r3))⟩
        unfold f_X10_box_J103
        rw [if_pos iO_0, r_0_1 hRg, Option.bind_some, if_pos iO_3, b1, Option.bind_some, r_0_1 hRb, Option.bind_some, if_pos iO_3, r1, Option.bind_some, r_0_11 hR3, Option.bind_some, iA_59, if_pos (in_nI (by omega) (by decide)), nI_clamp (by omega), e59]
      · show ∃ h2, f_X11_box LF h1 73 (nI N) = _ ∧ _
        obtain ⟨g, x1, x2⟩ := ways_M (w := -1) hR h9 ho hN thr_M
        unfold f_X11_box
        rw [if_pos iO_73, if_neg hin, eM h1 hR h9, Option.bind_some, if_pos q20, x1, Option.bind_some]
        refine box_ML (P := fun r => ∃ h2, r = some (h2, _) ∧ MW h2 _ ∧ only mscW h1 h2) hR h9 ho hN x2 (fun g og => ?_)
        generalize (if bxO (xS X) (-1) 36 N ≤ 0 then (0 : Int64) else bxM (xS X) N 36) = M
        have hRg := only_refs og hR
        have hRb : RefsOK (sI g 73 1 0) := refs_sI hRg
        have ob : only (fun j k => (j = 73 ∧ k = 1) ∨ j = 74) g (sI g 73 1 0) := only_sI (Or.inl ⟨rfl, rfl⟩)
        obtain ⟨h3, r1, r2, r3⟩ := rowadd_M hRb (rowbeg_M g) (by decide) M
        refine ⟨h3, ?_, r2, only_trans (msc_w og) (rowm_w (only_trans ob r3))⟩
        rw [if_pos iO_73, r1, Option.bind_some]
    · have q20 : ¬ nI d ≤ 20 := nI_ge (a := 20) (by omega) (by omega)
      refine PR_no hc hm ho (r := -2) ?_ (fun h1 hR h9 => ?_)
      · unfold f_X10_box
        rw [if_neg (nI_pos (by omega)), if_pos l9, if_pos iO_0, r_0_7 hc.1, Option.bind_some, if_pos iO_46, w1, Option.bind_some, ew, if_neg q20]
      · show f_X11_box LF h1 73 (nI N) = _
        unfold f_X11_box
        rw [if_pos iO_73, if_neg hin, eM h1 hR h9, Option.bind_some, if_neg q20]

/-! Where ways lead, in the reference. -/
def frW (F : FV) (S : Nat → Int32) (w : Int32) (o : Nat) : Bool := !decide (nI o = w) && frA F S o
theorem frA_k {F : FV} {S : Nat → Int32} {t : Nat} (h : frA F S t = true) : t < nF F := by
  refine kF_lt (fun q => ?_)
  unfold frA at h; rw [q] at h; simp at h
theorem frW_lt {F : FV} {S : Nat → Int32} {w : Int32} {o : Nat} (h : frW F S w o = true) : o < nF F := by
  unfold frW at h
  simp only [Bool.and_eq_true] at h
  exact frA_k h.2
theorem or0 (x : Int64) : x ||| 0 = x := by
  apply tb_ext
  intro k hk
  rw [tb_or, tb_0, Bool.or_false]
theorem sh1 {k : Nat} (hk : k < 36) : (1 : Int64) <<< ((nI k).toInt64 &&& 63) = f_X10_bit (nI k) := (bit_k hk).symm
/-- the set of one pass: what it holds at least, at most -/
def pas (F : FV) (fr q : Nat → Bool) (b0 b : Int64) : Prop := (∀ k, tb b0 k = true → tb b k = true) ∧ ∀ k, tb b k = true → q k = true
theorem reached_1 {h : eH} {a s : Nat} {F : FV} {S : Nat → Int32} {w : Int32} {P : Option Int64 → Prop} {k95 : Nat → Nat → Int32 → Int64 → Int64 → Int32 → Option Int64} {b0 were : Int64} {q : Nat → Bool} (hF : okF F) (hR : RefsOK h) (ha : a = 76 ∨ a = 77) (hm : MF h F) (hS : MS h a 0 S) (hs : s < nF F) (hq : ∀ s d u, d < 4 → q s = true → nbF F s d = some u → frW F S w u = true → q u = true) (hb : ∀ k, tb b0 k = true → q k = true)
    (y : ∀ b, pas F (frW F S w) q b0 b → (∀ d u, d < 4 → tb b0 s = true → nbF F s d = some u → frW F S w u = true → tb b u = true) → P (k95 73 a w b were (nI s))) : P (f_X11_reachedFrom_L32 LF h e_fu k95 73 a w b0 were (nI s) 0) := by
  have h36 := nF_le hF
  refine lpF (N := 4) (s := b0) (run := fun fu (b : Int64) d => f_X11_reachedFrom_L32 LF h fu k95 73 a w b were (nI s) (nI d)) (Inv := fun d b => pas F (frW F S w) q b0 b ∧ ∀ d' u, d' < d → tb b0 s = true → nbF F s d' = some u → frW F S w u = true → tb b u = true) (Post := P) (by decide) ⟨⟨fun _ x => x, hb⟩, fun d' u hd => absurd hd (Nat.not_lt_zero _)⟩ ?_ ?_
  · rintro fu b ⟨g1, g2⟩
    show P (f_X11_reachedFrom_L32 LF h (fu + 1) k95 73 a w b were (nI s) (nI 4))
    unfold f_X11_reachedFrom_L32
    rw [if_pos (by decide)]
    exact y b g1 g2
  · rintro d fu b hd ⟨g1, g2⟩
    have n4 : ¬ (4 : Int32) ≤ nI d := nI_ge (b := 4) hd (by decide)
    by_cases hbs : tb b s = true
    · have hbit := (sar_bit b (s := s) (by omega)).mpr hbs
      have hnb := beside_nb hF hm s d
      rw [nb_eq hF hs hd] at hnb
      cases hn : nbF F s d with
      | none =>
        rw [hn] at hnb
        have go : ∀ fu' z, f_X11_reachedFrom_L32 LF h fu' k95 73 a w b were (nI s) (nI (d + 1)) = z → f_X11_reachedFrom_L32 LF h (fu' + 1) k95 73 a w b were (nI s) (nI d) = z := fun fu' z hz => by
          unfold f_X11_reachedFrom_L32
          rw [if_neg n4, if_pos hbit, if_pos iO_73, hnb, Option.bind_some, or0, nI_p1]
          show (if (-1 : Int32) = w then _ else (f_X11_isFree LF h 73 a (-1)).bind fun r7 => _) = z
          by_cases hw : (-1 : Int32) = w
          · rw [if_pos hw]; exact hz
          · rw [if_neg hw, isFree_m, Option.bind_some, if_pos rfl]; exact hz
        refine Or.inr ⟨b, ⟨g1, fun d' u hd' hs0 hn' hf => ?_⟩, fun z hz => go fu z hz⟩
        rcases Nat.lt_or_ge d' d with x | x
        · exact g2 d' u x hs0 hn' hf
        · have : d' = d := by omega
          subst this; rw [hn] at hn'; cases hn'
      | some o =>
        rw [hn] at hnb
        have ho := (nbF_lt hF hs hd hn).1
        have hfi := isFree_k hF hR ha hm hS (show o < 36 by omega)
        by_cases hfw : frW F S w o = true
        · have hw : ¬ nI o = w := by intro e; unfold frW at hfw; simp [e] at hfw
          have hfa : frA F S o = true := by unfold frW at hfw; simp only [Bool.and_eq_true] at hfw; exact hfw.2
          refine Or.inr ⟨b ||| f_X10_bit (nI o), ⟨⟨fun k hk => ?_, fun k hk => ?_⟩, fun d' u hd' hs0 hn' hf => ?_⟩, fun z hz => ?_⟩
          · rw [tb_or, g1.1 k hk]; rfl
          · rw [tb_or, bit_tb (by omega)] at hk
            by_cases hko : k = o
            · subst hko; exact hq s d k hd (g1.2 s hbs) hn hfw
            · simp [hko] at hk; exact g1.2 k hk
          · rw [tb_or, bit_tb (by omega)]
            rcases Nat.lt_or_ge d' d with x | x
            · rw [g2 d' u x hs0 hn' hf]; rfl
            · have : d' = d := by omega
              subst this; rw [hn] at hn'; cases hn'; simp
          · show f_X11_reachedFrom_L32 LF h (fu + 1) k95 73 a w b were (nI s) (nI d) = z
            unfold f_X11_reachedFrom_L32
            rw [if_neg n4, if_pos hbit, if_pos iO_73, hnb, Option.bind_some, show oI (some o) = nI o from rfl, if_neg hw, hfi, Option.bind_some, if_pos hfa, if_neg i10, sh1 (by omega), nI_p1]
            exact hz
        · refine Or.inr ⟨b, ⟨g1, fun d' u hd' hs0 hn' hf => ?_⟩, fun z hz => ?_⟩
          · rcases Nat.lt_or_ge d' d with x | x
            · exact g2 d' u x hs0 hn' hf
            · have : d' = d := by omega
              subst this; rw [hn] at hn'; cases hn'; exact absurd hf hfw
          · show f_X11_reachedFrom_L32 LF h (fu + 1) k95 73 a w b were (nI s) (nI d) = z
            unfold f_X11_reachedFrom_L32
            rw [if_neg n4, if_pos hbit, if_pos iO_73, hnb, Option.bind_some, show oI (some o) = nI o from rfl, or0, nI_p1]
            by_cases hw : nI o = w
            · rw [if_pos hw]; exact hz
            · have hfa : ¬ frA F S o = true := fun e => hfw (by unfold frW; simp [hw, e])
              rw [if_neg hw, hfi, Option.bind_some, if_neg hfa, if_pos rfl]; exact hz
    · refine Or.inl ?_
      show P (f_X11_reachedFrom_L32 LF h (fu + 1) k95 73 a w b were (nI s) (nI d))
      unfold f_X11_reachedFrom_L32
      rw [if_neg n4, if_neg (fun e => hbs ((sar_bit b (s := s) (by omega)).mp e))]
      exact y b g1 (fun d' u _ hs0 _ _ => absurd (g1.1 s hs0) hbs)
theorem reached_2 {h : eH} {a : Nat} {F : FV} {S : Nat → Int32} {w : Int32} {P : Option Int64 → Prop} {k101 : Nat → Nat → Int32 → Int64 → Int64 → Option Int64} {b0 were : Int64} {q : Nat → Bool} (hF : okF F) (hR : RefsOK h) (ha : a = 76 ∨ a = 77) (hm : MF h F) (hS : MS h a 0 S) (hq : ∀ s d u, d < 4 → q s = true → nbF F s d = some u → frW F S w u = true → q u = true) (hb : ∀ k, tb b0 k = true → q k = true)
    (y : ∀ b, pas F (frW F S w) q b0 b → (∀ s d u, s < nF F → d < 4 → tb b0 s = true → nbF F s d = some u → frW F S w u = true → tb b u = true) → P (k101 73 a w b were)) : P (f_X11_reachedFrom_L20 LF h e_fu k101 73 a w b0 were 0) := by
  have h36 := nF_le hF
  have main : ∀ (m i fu : Nat) (b : Int64), i + m = nF F → m < fu → pas F (frW F S w) q b0 b → (∀ s d u, s < i → d < 4 → tb b0 s = true → nbF F s d = some u → frW F S w u = true → tb b u = true) → P (f_X11_reachedFrom_L20 LF h fu k101 73 a w b were (nI i)) := by
    intro m
    induction m with
    | zero =>
      intro i fu b hi hf g1 g2
      obtain ⟨f, rfl⟩ : ∃ f, fu = f + 1 := ⟨fu - 1, by omega⟩
      unfold f_X11_reachedFrom_L20
      rw [if_pos iO_73, spots_M hm, Option.bind_some, if_pos (nI_le (by omega) (by omega))]
      exact y b g1 (fun s d u hs => g2 s d u (by omega))
    | succ m ih =>
      intro i fu b hi hf g1 g2
      obtain ⟨f, rfl⟩ : ∃ f, fu = f + 1 := ⟨fu - 1, by omega⟩
      unfold f_X11_reachedFrom_L20
      rw [if_pos iO_73, spots_M hm, Option.bind_some, if_neg (nI_ge (by omega) (by omega))]
      refine reached_1 hF hR ha hm hS (show i < nF F by omega) hq g1.2 (fun b' p1 p2 => ?_)
      show P (f_X11_reachedFrom_L20 LF h f k101 73 a w b' were (nI i + Int32.ofInt 1))
      rw [nI_p1]
      refine ih (i + 1) f b' (by omega) (by omega) ⟨fun k hk => p1.1 k (g1.1 k hk), p1.2⟩ (fun s d u hs hd hs0 hn hf => ?_)
      rcases Nat.lt_or_ge s i with x | x
      · exact p1.1 u (g2 s d u x hd hs0 hn hf)
      · have : s = i := by omega
        subst this
        exact p2 d u hd (g1.1 s hs0) hn hf
  exact main (nF F) 0 e_fu b0 (by omega) (by unfold e_fu; omega) ⟨fun _ x => x, hb⟩ (fun s d u hs => absurd hs (Nat.not_lt_zero s))
theorem L8_s {h : eH} {fu : Nat} {k119 : Int64 → Option Int64} {v0 v1 : Nat} {v3 : Int32} {v4 : Int64} {v6 : Int32} : f_X11_reachedFrom_L8 LF h (fu + 1) k119 v0 v1 v3 v4 v6 = (if v6 = 0 then k119 v4 else f_X11_reachedFrom_L20 LF h e_fu (fun (w0_15 : Nat) (w1_16 : Nat) (w3_17 : Int32) (w4_18 : Int64) (w7_19 : Int64) => if (lg_cmp w4_18 w7_19) = 0 then f_X11_reachedFrom_L8 LF h fu k119 w0_15 w1_16 w3_17 w4_18 0 else f_X11_reachedFrom_L8 LF h fu k119 w0_15 w1_16 w3_17 w4_18 1) v0 v1 v3 v4 v4 0) := rfl
theorem reached_M {h : eH} {a f : Nat} {F : FV} {S : Nat → Int32} {w : Int32} (hF : okF F) (hR : RefsOK h) (ha : a = 76 ∨ a = 77) (hm : MF h F) (hS : MS h a 0 S) (hf : f < nF F) : ∃ y, f_X11_reachedFrom LF h 73 a (nI f) w = some y ∧ ∀ k, tb y k = rc F (frW F S w) f 36 k := by
  have h36 := nF_le hF
  have hq : ∀ s d u, d < 4 → rc F (frW F S w) f 36 s = true → nbF F s d = some u → frW F S w u = true → rc F (frW F S w) f 36 u = true := fun s d u hd hs hn hu => rc_closed hF (fun s => frW_lt) hf hs hd hn hu
  unfold f_X11_reachedFrom
  rw [sh1 (by omega)]
  refine lpW (run := fun fu (q : Int64 × Int32) => f_X11_reachedFrom_L8 LF h fu (fun (w4_20 : Int64) => some w4_20) 73 a w q.1 q.2) (Inv := fun m q => (∀ k, tb q.1 k = true → rc F (frW F S w) f 36 k = true) ∧ tb q.1 f = true ∧ ((q.2 = 0 ∧ ∀ s d u, s < nF F → d < 4 → tb q.1 s = true → nbF F s d = some u → frW F S w u = true → tb q.1 u = true) ∨ (q.2 = 1 ∧ 38 ≤ m + fb_ct (tb q.1) 36))) (Post := fun r => ∃ y, r = some y ∧ ∀ k, tb y k = rc F (frW F S w) f 36 k) ?_ 38 e_fu (f_X10_bit (nI f), 1) (by unfold e_fu; omega) ⟨fun k hk => ?_, ?_, Or.inr ⟨rfl, by omega⟩⟩
  · rintro m fu ⟨b, c⟩ ⟨g1, g2, g3⟩
    have g1 : ∀ k, tb b k = true → rc F (frW F S w) f 36 k = true := g1
    have g2 : tb b f = true := g2
    rcases g3 with ⟨c0, cl⟩ | ⟨c1, cm⟩
    · have c0 : c = 0 := c0
      subst c0
      refine Or.inl ⟨b, ?_, fun k => ?_⟩
      · show f_X11_reachedFrom_L8 LF h (fu + 1) _ 73 a w b 0 = _
        unfold f_X11_reachedFrom_L8
        rw [if_pos rfl]
      · cases hr : rc F (frW F S w) f 36 k with
        | true => exact rc_least hF (fun s => frW_lt) hf g2 cl 36 k hr
        | false =>
          cases ht : tb b k with
          | false => rfl
          | true => rw [g1 k ht] at hr; cases hr
    · have c1 : c = 1 := c1
      subst c1
      have cm : 38 ≤ m + fb_ct (tb b) 36 := cm
      have hct := fb_ct_le (tb b) 36
      have key : ∃ (b' : Int64) (c' : Int32) (m' : Nat), m' < m ∧ (∀ k, tb b' k = true → rc F (frW F S w) f 36 k = true) ∧ tb b' f = true ∧ ((c' = 0 ∧ ∀ s d u, s < nF F → d < 4 → tb b' s = true → nbF F s d = some u → frW F S w u = true → tb b' u = true) ∨ (c' = 1 ∧ 38 ≤ m' + fb_ct (tb b') 36)) ∧ ∀ z, f_X11_reachedFrom_L8 LF h fu (fun (w4_20 : Int64) => some w4_20) 73 a w b' c' = z → f_X11_reachedFrom_L8 LF h (fu + 1) (fun (w4_20 : Int64) => some w4_20) 73 a w b 1 = z := by
        rw [L8_s, if_neg i10]
        refine reached_2 (P := fun r => ∃ (b' : Int64) (c' : Int32) (m' : Nat), m' < m ∧ (∀ k, tb b' k = true → rc F (frW F S w) f 36 k = true) ∧ tb b' f = true ∧ ((c' = 0 ∧ ∀ s d u, s < nF F → d < 4 → tb b' s = true → nbF F s d = some u → frW F S w u = true → tb b' u = true) ∨ (c' = 1 ∧ 38 ≤ m' + fb_ct (tb b') 36)) ∧ ∀ z, f_X11_reachedFrom_L8 LF h fu (fun (w4_20 : Int64) => some w4_20) 73 a w b' c' = z → r = z) hF hR ha hm hS hq g1 (fun b' p1 p2 => ?_)
        by_cases he : b' = b
        · subst he
          refine ⟨b', 0, m - 1, by omega, g1, g2, Or.inl ⟨rfl, p2⟩, fun z hz => ?_⟩
          rw [if_pos ((lg_0 b' b').mpr rfl)]; exact hz
        · have hlt : fb_ct (tb b) 36 < fb_ct (tb b') 36 := by
            refine ct_lt (fun k _ hk => p1.1 k hk) ?_
            refine Classical.byContradiction fun hno => he ?_
            apply tb_ext
            intro k hk
            cases h1 : tb b k with
            | true => exact p1.1 k h1
            | false =>
              cases h2 : tb b' k with
              | false => rfl
              | true =>
                have := rc_lt (fun s => frW_lt) hf (p1.2 k h2)
                exact absurd ⟨k, by omega, h2, h1⟩ hno
          refine ⟨b', 1, m - 1, by omega, p1.2, p1.1 f g2, Or.inr ⟨rfl, by omega⟩, fun z hz => ?_⟩
          rw [if_neg (fun e => he ((lg_0 b' b).mp e))]; exact hz
      obtain ⟨b', c', m', k1, k2, k3, k4, k5⟩ := key
      exact Or.inr ⟨(b', c'), m', k1, ⟨k2, k3, k4⟩, k5⟩
  · have hk : tb (f_X10_bit (nI f)) k = true := hk
    rw [bit_tb (by omega)] at hk
    have : k = f := of_decide_eq_true hk
    subst this
    exact rc_up (n := 0) (by omega) (decide_eq_true rfl)
  · show tb (f_X10_bit (nI f)) f = true
    rw [bit_tb (by omega)]; exact decide_eq_true rfl
theorem reach_same {y z : Int64} {p : Nat → Bool} (hy : ∀ k, tb y k = p k) (hz : ∀ k, tb z k = p k) : y = z := tb_ext (fun k _ => (hy k).trans (hz k).symm)
/-! what both sides reach from where it is -/
theorem frW_m {F : FV} (hF : okF F) {S : Nat → Int32} (k : Nat) : frW F S (-1) k = frA F S k := by
  unfold frW
  cases hf : frA F S k with
  | false => simp
  | true =>
    have := frA_lt hF hf
    rw [decide_eq_false (fun e => nI_pos (n := k) (by omega) (by rw [e]; decide))]; rfl
theorem frW_f {F : FV} (hF : okF F) {S : Nat → Int32} : frW F S (-1) = frA F S := funext (frW_m hF)
theorem reachX {h : eH} {X : AX} {B : Nat} (hc : CI h X) (ho : okX B X) {sp p : Nat} (hp : CF h p (xF X)) (hsp : xS X 72 = nI sp) (h1 : sp < nF (xF X)) : ∃ y, f_X2_reach LF h p ((gL h p 4) &&& ((gL h 46 8) ^^^ (-1))) (nI sp) = some y ∧ ∀ k, tb y k = rc (xF X) (frA (xF X) (xS X)) sp 36 k := reach_C ho.1 hp (fun s => frA_k) h1 (fun k => free_tb ho.1 hp hc.2.2.2.2.1 k)
theorem spotX {X : AX} {B : Nat} (ho : okX B X) : ∃ sp, sp < 36 ∧ sp < nF (xF X) ∧ xS X 72 = nI sp ∧ frA (xF X) (xS X) sp = true := by
  obtain ⟨sp, a1, a2, a3, a4⟩ := ho.2.2.2.1.1
  exact ⟨sp, a1, kF_lt a2, a4, by unfold frA; simp [a2, a3]⟩
theorem e46 {h : eH} {X : AX} (hc : CI h X) : gI h 46 1 = xS X 72 := hc.2.2.2.2.1.2.2.1 1 (by omega) (by omega)
theorem all_P {B : Nat} {h : eH} {X : AX} (hc : CI h X) (hm : MI h X) (ho : okX B X) (hB : B + 1000 < 2 ^ 31) : PR B (f_X10_all LF h 0) (fun h1 => f_X11_all LF h1 73) := by
  obtain ⟨p, hp⟩ := hc.2.1
  obtain ⟨sp, a0, a1, a2, a3⟩ := spotX ho
  obtain ⟨y, y1, y2⟩ := reachX hc ho hp a2 a1
  obtain ⟨T, hT⟩ : ∃ T, swA (xF X) (xR X) (-1) 999 (xS X) (seU (xS X) y) = T := ⟨_, rfl⟩
  have hle : T.1 ≤ 1000 := by rw [← hT]; exact swA_le _ _ _
  refine PR_o hc hm ho (c := T.1 ≤ 999) (r := nI T.1) (l := [(f_J13_bitCount_95d88 y).toInt64]) (by show 1 ≤ 37; omega) ?_ (fun h1 hR h9 => ?_)
  · obtain ⟨g, s1, s2⟩ := see_C hc ho hB y okT_m
    rw [hT] at s1
    have hRg := only_refs s2 hc.1
    have e : ∀ z, f_X10_all LF h 0 = z ↔ (if nI T.1 ≤ 999 then (gR g 0 1).bind fun b14 => if isO LF b14 3 = true then (f_X3_begin LF g b14).bind fun r17 => (gR r17 0 1).bind fun b19 => if isO LF b19 3 = true then (f_X3_add LF r17 b19 ((f_J13_bitCount_95d88 y).toInt64)).bind fun r22 => some (r22, nI T.1) else none else none else some (g, -2)) = z := fun z => by
      unfold f_X10_all
      rw [if_pos iO_0, hp.2.1, Option.bind_some, free_C hc hp, Option.bind_some, r_0_7 hc.1, Option.bind_some, if_pos iO_46, if_pos (p_O hp), e46 hc, a2, y1, Option.bind_some, s1, Option.bind_some]
    by_cases h9 : T.1 ≤ 999
    · refine Or.inl ⟨h9, ?_⟩
      obtain ⟨b1, b2⟩ := rowbeg_C g
      have hRb : RefsOK (sI g 3 1 0) := refs_sI hRg
      obtain ⟨h3, r1, r2, r3⟩ := rowadd_C hRb b2 (by decide) ((f_J13_bitCount_95d88 y).toInt64)
      have obb : only (fun j _ => j = 3 ∨ j = 4) g (sI g 3 1 0) := only_sI (Or.inl rfl)
      refine ⟨h3, (e _).mpr ?_, r2, only_trans (csc_w s2) (row_w (only_trans obb r3))⟩
      rw [if_pos (show nI T.1 ≤ 999 from nI_le (b := 999) h9 (by decide)), r_0_1 hRg, Option.bind_some, if_pos iO_3, b1, Option.bind_some, r_0_1 hRb, Option.bind_some, if_pos iO_3, r1, Option.bind_some]
    · refine Or.inr ⟨h9, g, (e _).mpr ?_, s2⟩
      rw [if_neg (show ¬ nI T.1 ≤ 999 from nI_ge (a := 999) (by omega) (by omega))]
  · have h9' := MI_scr thr_M h9
    have hR0 : RefsOK (sI h1 73 0 0) := refs_sI hR
    obtain ⟨y', z1, z2⟩ := reached_M (w := -1) ho.1 hR0 (Or.inl rfl) h9'.1 h9'.2.2.2.2.1 a1
    rw [frW_f ho.1] at z2
    have hyy := reach_same z2 y2
    subst hyy
    obtain ⟨g, s1, s2, s3, s4⟩ := sweeps_M (W := msc) (fun _ _ => msc_mW) msc_82 (by unfold msc; omega) hR h9 ho thr_M y' h9'.2.2.1 okT_m
    rw [hT] at s1
    have i72 : inA LF 76 0 72 = true := (iM (Or.inl rfl)).1
    have hRg := only_refs s3 hR
    have e : ∀ z, f_X11_all LF h1 73 = z ↔ (if nI T.1 ≤ 999 then (f_X11_enters LF (sI g 73 1 0) 73 ((f_J13_bitCount_95d88 y').toInt64)).bind fun r11 => some (r11, nI T.1) else some (g, -2)) = z := fun z => by
      unfold f_X11_all
      rw [if_pos iO_73, r_73_7 hR0, Option.bind_some, Option.bind_some, if_pos i72, c72, MS_0 h9'.2.2.2.2.1 (by omega), a2, z1, Option.bind_some, s1, Option.bind_some]
    by_cases h99 : T.1 ≤ 999
    · refine Or.inl ⟨h99, ?_⟩
      have hRb : RefsOK (sI g 73 1 0) := refs_sI hRg
      obtain ⟨h3, r1, r2, r3⟩ := rowadd_M hRb (rowbeg_M g) (by decide) ((f_J13_bitCount_95d88 y').toInt64)
      have obb : only (fun j k => (j = 73 ∧ k = 1) ∨ j = 74) g (sI g 73 1 0) := only_sI (Or.inl ⟨rfl, rfl⟩)
      refine ⟨h3, (e _).mpr ?_, r2, only_trans (msc_w s3) (rowm_w (only_trans obb r3))⟩
      rw [if_pos (show nI T.1 ≤ 999 from nI_le (b := 999) h99 (by decide)), r1, Option.bind_some]
    · refine Or.inr ⟨h99, g, (e _).mpr ?_, s3⟩
      rw [if_neg (show ¬ nI T.1 ≤ 999 from nI_ge (a := 999) (by omega) (by omega))]
/-! never -/
theorem never_CL {P : Option (eH × Int32) → Prop} {k96 : eH → Nat → Int64 → Option (eH × Int32)} {h g0 : eH} {X : AX} {B : Nat} {u0 : Int64} {T : Nat × Int64} (hTT : swA (xF X) (xR X) (-1) 999 (xS X) u0 = T) (hc : CI h X) (ho : okX B X) (hB : B + 1000 < 2 ^ 31) (og : only csc h g0) (hS : CS g0 50 (xS X)) (y : ∀ g, only csc h g → P (k96 g 0 T.2)) : P (f_X10_never_L47 LF e_fu k96 g0 0 u0 0) := by
  refine lpF (N := 999) (s := (g0, xS X, u0)) (run := fun fu (q : eH × (Nat → Int32) × Int64) i => f_X10_never_L47 LF fu k96 q.1 0 q.2.2 (nI i)) (Inv := fun i q => CS q.1 50 q.2.1 ∧ okA (xF X) (B + i) q.2.1 ∧ only csc h q.1 ∧ (swA (xF X) (xR X) (-1) (999 - i) q.2.1 q.2.2).2 = T.2) (Post := P) (by decide) ⟨hS, ho.2.2.2.1, og, by rw [← hTT]⟩ ?_ ?_
  · rintro fu ⟨g, S, u⟩ ⟨g1, g2, g3, g4⟩
    have g4 : u = T.2 := g4
    show P (f_X10_never_L47 LF (fu + 1) k96 g 0 u (nI 999))
    unfold f_X10_never_L47
    rw [if_pos (by decide), g4]
    exact y g g3
  · rintro i fu ⟨g, S, u⟩ hi ⟨g1, g2, g3, g4⟩
    have g1 : CS g 50 S := g1
    have g2 : okA (xF X) (B + i) S := g2
    have g3 : only csc h g := g3
    have hRg := only_refs g3 hc.1
    have n999 : ¬ (999 : Int32) ≤ nI i := nI_ge (b := 999) hi (by decide)
    have g4 : (swA (xF X) (xR X) (-1) (999 - i) S u).2 = T.2 := g4
    rw [show 999 - i = (999 - (i + 1)) + 1 by omega] at g4
    unfold swA at g4
    by_cases hu : u = 0
    · rw [if_pos hu] at g4
      have g4 : u = T.2 := g4
      refine Or.inl ?_
      show P (f_X10_never_L47 LF (fu + 1) k96 g 0 u (nI i))
      unfold f_X10_never_L47
      rw [if_neg n999, if_pos ((lg_0 u 0).mpr hu), g4]
      exact y g g3
    · rw [if_neg hu] at g4
      obtain ⟨g', x1, x2, x3⟩ := step0_C hc ho g3 g1 g2 (by omega) okT_m
      have hRg' := only_refs x3 hc.1
      have e2 : gI g' 50 1 = st0 (xF X) (xR X) (-1) S 72 := x2.2.2.1 1 (by omega) (by omega)
      have okn : okA (xF X) (B + (i + 1)) (st0 (xF X) (xR X) (-1) S) := okA_st0 ho.1 okT_m g2
      generalize st0 (xF X) (xR X) (-1) S = S' at x2 e2 okn g4
      refine Or.inr ⟨(g', S', seU S' u), ⟨x2, okn, x3, g4⟩, fun z hz => ?_⟩
      show f_X10_never_L47 LF (fu + 1) k96 g 0 u (nI i) = z
      unfold f_X10_never_L47
      rw [if_neg n999, if_neg (fun q => hu ((lg_0 u 0).mp q)), if_pos iO_0, r_0_9 hRg, Option.bind_some, x1, Option.bind_some, if_neg i10, r_0_9 hRg', Option.bind_some, if_pos iO_50, e2, nI_p1]
      exact hz
theorem never_P {B : Nat} {h : eH} {X : AX} (hc : CI h X) (hm : MI h X) (ho : okX B X) (hB : B + 1000 < 2 ^ 31) : PR B (f_X10_never LF h 0) (fun h1 => f_X11_never LF h1 73) := by
  obtain ⟨p, hp⟩ := hc.2.1
  obtain ⟨sp, a0, a1, a2, a3⟩ := spotX ho
  obtain ⟨y, y1, y2⟩ := reachX hc ho hp a2 a1
  obtain ⟨T, hT⟩ : ∃ T, swA (xF X) (xR X) (-1) 999 (xS X) (seU (xS X) y) = T := ⟨_, rfl⟩
  refine PR_q hc hm ho (r := f_J13_bitCount_95d88 T.2) (l := [T.2]) (by show 1 ≤ 37; omega) ?_ (fun h1 hR h9 => ?_)
  · obtain ⟨hTr, t1, t2, t3⟩ := trip_C hc
    unfold f_X10_never
    rw [if_pos iO_0, hp.2.1, Option.bind_some, free_C hc hp, Option.bind_some, r_0_7 hc.1, Option.bind_some, if_pos iO_46, if_pos (p_O hp), e46 hc, a2, y1, Option.bind_some, Option.bind_some, if_pos iO_46, r_0_9 hc.1, Option.bind_some, Option.bind_some, if_pos iO_50, t1, Option.bind_some, e46 hc]
    refine never_CL (P := fun r => ∃ h1, r = some (h1, _) ∧ CW h1 _ ∧ only cscW h h1) hT hc ho hB t3 t2 (fun g og => ?_)
    have hRg := only_refs og hc.1
    obtain ⟨b1, b2⟩ := rowbeg_C g
    have hRb : RefsOK (sI g 3 1 0) := refs_sI hRg
    obtain ⟨h3, r1, r2, r3⟩ := rowadd_C hRb b2 (by decide) T.2
    have obb : only (fun j _ => j = 3 ∨ j = 4) g (sI g 3 1 0) := only_sI (Or.inl rfl)
    refine ⟨h3, ?_, r2, only_trans (csc_w og) (row_w (only_trans obb r3))⟩
    unfold f_X10_never_J96
    rw [if_pos iO_0, r_0_1 hRg, Option.bind_some, if_pos iO_3, b1, Option.bind_some, r_0_1 hRb, Option.bind_some, if_pos iO_3, r1, Option.bind_some]
  · have h9' := MI_scr thr_M h9
    have hR0 : RefsOK (sI h1 73 0 0) := refs_sI hR
    obtain ⟨y', z1, z2⟩ := reached_M (w := -1) ho.1 hR0 (Or.inl rfl) h9'.1 h9'.2.2.2.2.1 a1
    rw [frW_f ho.1] at z2
    have hyy := reach_same z2 y2
    subst hyy
    obtain ⟨g, s1, s2, s3, s4⟩ := sweeps_M (W := msc) (fun _ _ => msc_mW) msc_82 (by unfold msc; omega) hR h9 ho thr_M y' h9'.2.2.1 okT_m
    rw [hT] at s2
    have i72 : inA LF 76 0 72 = true := (iM (Or.inl rfl)).1
    have hRg := only_refs s3 hR
    have hRb : RefsOK (sI g 73 1 0) := refs_sI hRg
    obtain ⟨h3, r1, r2, r3⟩ := rowadd_M hRb (rowbeg_M g) (by decide) T.2
    have obb : only (fun j k => (j = 73 ∧ k = 1) ∨ j = 74) g (sI g 73 1 0) := only_sI (Or.inl ⟨rfl, rfl⟩)
    have e29 : gL h3 73 29 = T.2 := ((o_L r3 (by omega)).trans (o_L obb (by omega))).trans s2
    refine ⟨h3, ?_, r2, only_trans (msc_w s3) (rowm_w (only_trans obb r3))⟩
    show f_X11_never LF h1 73 = _
    unfold f_X11_never
    rw [if_pos iO_73, r_73_7 hR0, Option.bind_some, Option.bind_some, if_pos i72, c72, MS_0 h9'.2.2.2.2.1 (by omega), a2, z1, Option.bind_some, s1, Option.bind_some, gL_sI, s2, r1, Option.bind_some, e29]

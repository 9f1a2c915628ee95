/-! plug, way on both sides. -/
def mxD (fr : Nat → Bool) (D : Nat → Nat) : Nat → Nat
  | 0 => 0
  | n + 1 => if fr n then max (mxD fr D n) (min 500 (D n)) else mxD fr D n
theorem mxD_a {fr : Nat → Bool} {D : Nat → Nat} : ∀ {n s : Nat}, s < n → fr s = true → min 500 (D s) ≤ mxD fr D n
  | 0, _, h, _ => absurd h (Nat.not_lt_zero _)
  | n + 1, s, h, hf => by
    unfold mxD
    by_cases q : s = n
    · subst q; rw [if_pos hf]; omega
    · have := mxD_a (D := D) (show s < n by omega) hf
      split <;> omega
theorem mxD_b {fr : Nat → Bool} {D : Nat → Nat} : ∀ (n : Nat), mxD fr D n = 0 ∨ ∃ s, s < n ∧ fr s = true ∧ mxD fr D n = min 500 (D s)
  | 0 => Or.inl rfl
  | n + 1 => by
    have ih := mxD_b (fr := fr) (D := D) n
    unfold mxD
    by_cases q : fr n = true
    · rw [if_pos q]
      by_cases h : mxD fr D n ≤ min 500 (D n)
      · exact Or.inr ⟨n, by omega, q, by omega⟩
      · rcases ih with e | ⟨s, h1, h2, h3⟩
        · omega
        · exact Or.inr ⟨s, by omega, h2, by omega⟩
    · rw [if_neg q]
      rcases ih with e | ⟨s, h1, h2, h3⟩
      · exact Or.inl e
      · exact Or.inr ⟨s, by omega, h2, h3⟩
theorem mxD_le {fr : Nat → Bool} {D : Nat → Nat} (n : Nat) : mxD fr D n ≤ 500 := by
  rcases mxD_b (fr := fr) (D := D) n with e | ⟨s, -, -, h3⟩ <;> omega
def grG (g : eH) : Nat → Nat
  | 0 => 0
  | n + 1 => if gL g 39 n = 0 then grG g n else n
theorem grG_a {g : eH} : ∀ {n c : Nat}, c < n → gL g 39 c ≠ 0 → c ≤ grG g n
  | 0, _, h, _ => absurd h (Nat.not_lt_zero _)
  | n + 1, c, h, hc => by
    unfold grG
    by_cases q : c = n
    · subst q; rw [if_neg hc]; omega
    · split
      · exact grG_a (by omega) hc
      · omega
theorem grG_b {g : eH} : ∀ (n : Nat), grG g n = 0 ∨ (grG g n < n ∧ gL g 39 (grG g n) ≠ 0)
  | 0 => Or.inl rfl
  | n + 1 => by
    have ih := grG_b (g := g) n
    unfold grG
    by_cases q : gL g 39 n = 0
    · rw [if_pos q]
      rcases ih with e | e
      · exact Or.inl e
      · exact Or.inr ⟨by omega, e.2⟩
    · rw [if_neg q]; exact Or.inr ⟨by omega, q⟩
theorem greatest_C {g : eH} {F : FV} {fr : Nat → Bool} {goal : Nat} {D : Nat → Nat} {x : Int64} (hF : okF F) (hR : RefsOK g) (hfr : ∀ s, fr s = true → s < nF F) (hD : isD F fr goal D) (hb : byD g D) (hx : ∀ k, tb x k = fr k) : f_X9_greatest LF g 38 x = some (nI (mxD fr D (nF F))) := by
  have h36 := nF_le hF
  have hne : ∀ c, c < 74 → (gL g 39 c ≠ 0 ↔ ∃ k, D k = c) := fun c hc => by
    constructor
    · intro h
      refine Classical.byContradiction fun hno => h ?_
      apply tb_ext
      intro k _
      rw [hb.2 c hc, tb_0]
      exact decide_eq_false (fun e => hno ⟨k, e⟩)
    · rintro ⟨k, hk⟩ e
      have := hb.2 c hc k
      rw [e, tb_0, decide_eq_true hk] at this
      cases this
  unfold f_X9_greatest
  rw [if_pos iO_38]
  by_cases he : gL g 38 1 = x
  · have hall : ∀ s, fr s = true → D s < 1000 := fun s hs => by
      have := hb.1 s
      rw [he, hx, hs] at this
      exact of_decide_eq_true this.symm
    have hG : grG g 74 = mxD fr D (nF F) := by
      have h1 : grG g 74 ≤ mxD fr D (nF F) := by
        rcases grG_b (g := g) 74 with e | ⟨e1, e2⟩
        · omega
        · obtain ⟨k, hk⟩ := (hne _ e1).mp e2
          have hf := (hD.1.2.1 k (by omega)).1
          have := mxD_a (D := D) (hfr k hf) hf
          omega
      have h2 : mxD fr D (nF F) ≤ grG g 74 := by
        rcases mxD_b (fr := fr) (D := D) (nF F) with e | ⟨s, s1, s2, s3⟩
        · omega
        · have := ds_le hF hfr hD.1 (hall s s2)
          have := grG_a (n := 74) (show D s < 74 by omega) ((hne (D s) (by omega)).mpr ⟨s, rfl⟩)
          omega
      omega
    rw [if_pos ((lg_0 _ x).mpr he), ← hG]
    refine lpF (N := 74) (s := (0 : Int32)) (run := fun fu (q : Int32) i => f_X9_greatest_L18 LF g fu (fun (w3_6 : Int32) => some w3_6) 38 q (nI i)) (Inv := fun i q => q = nI (grG g i)) (Post := fun r => r = some (nI (grG g 74))) (by decide) rfl ?_ ?_
    · rintro fu q rfl
      show f_X9_greatest_L18 LF g (fu + 1) _ 38 _ (nI 74) = _
      unfold f_X9_greatest_L18
      rw [if_pos (by decide)]
    · rintro i fu q hi rfl
      refine Or.inr ⟨nI (grG g (i + 1)), rfl, fun z hz => ?_⟩
      have hz : f_X9_greatest_L18 LF g fu (fun (w3_6 : Int32) => some w3_6) 38 (nI (if gL g 39 i = 0 then grG g i else i)) (nI (i + 1)) = z := hz
      show f_X9_greatest_L18 LF g (fu + 1) _ 38 (nI (grG g i)) (nI i) = z
      unfold f_X9_greatest_L18
      rw [if_neg (show ¬ (74 : Int32) ≤ nI i from nI_ge (b := 74) hi (by decide)), if_pos iO_38, r_38_0 hR, Option.bind_some, iA_39, if_pos (in_nI hi (by decide)), nI_clamp (by omega), nI_p1]
      by_cases q : gL g 39 i = 0
      · rw [if_pos ((lg_0 _ 0).mpr q)]
        rw [if_pos q] at hz; exact hz
      · rw [if_neg (fun e => q ((lg_0 _ 0).mp e))]
        rw [if_neg q] at hz; exact hz
  · rw [if_neg (fun e => he ((lg_0 _ x).mp e))]
    have : ∃ s, fr s = true ∧ ¬ D s < 1000 := by
      refine Classical.byContradiction fun hno => he ?_
      apply tb_ext
      intro k _
      rw [hb.1, hx]
      cases hf : fr k with
      | false =>
        refine decide_eq_false (fun e => ?_)
        have := (hD.1.2.1 k e).1
        rw [hf] at this; cases this
      | true =>
        refine decide_eq_true (Classical.byContradiction fun e => hno ⟨k, hf, e⟩)
    obtain ⟨s, s1, s2⟩ := this
    have h1 := mxD_a (D := D) (hfr s s1) s1
    have h2 := mxD_le (fr := fr) (D := D) (nF F)
    have h3 := hD.1.2.2 s
    rw [show mxD fr D (nF F) = 500 by omega]; rfl
noncomputable def dOf (F : FV) (fr : Nat → Bool) (goal : Nat) : Nat → Nat := Classical.epsilon (isD F fr goal)
theorem dOf_eq {F : FV} {fr : Nat → Bool} {goal : Nat} {D : Nat → Nat} (hF : okF F) (hfr : ∀ s, fr s = true → s < nF F) (hD : isD F fr goal D) : dOf F fr goal = D := isD_one hF hfr (Classical.epsilon_spec (p := isD F fr goal) ⟨D, hD⟩) hD
noncomputable def pgA (F : FV) (fr : Nat → Bool) (L0 : Nat) : Nat → Int32 × Nat
  | 0 => (-1, L0)
  | n + 1 => if fr n then (if (pgA F fr L0 n).2 ≤ mxD fr (dOf F fr n) (nF F) then pgA F fr L0 n else (nI n, mxD fr (dOf F fr n) (nF F))) else pgA F fr L0 n
theorem pgA_same {F : FV} {fr : Nat → Bool} : ∀ n, ((∀ k, k < n → fr k = false) ∧ pgA F fr 501 n = (-1, 501) ∧ pgA F fr 1000000 n = (-1, 1000000)) ∨ (pgA F fr 501 n = pgA F fr 1000000 n ∧ (pgA F fr 501 n).2 ≤ 500)
  | 0 => Or.inl ⟨fun k hk => absurd hk (Nat.not_lt_zero k), rfl, rfl⟩
  | n + 1 => by
    have ih := pgA_same (F := F) (fr := fr) n
    have hle := mxD_le (fr := fr) (D := dOf F fr n) (nF F)
    unfold pgA
    by_cases q : fr n = true
    · right
      rw [if_pos q, if_pos q]
      rcases ih with ⟨h1, h2, h3⟩ | ⟨h1, h2⟩
      · rw [h2, h3, if_neg (by show ¬ 501 ≤ _; omega), if_neg (by show ¬ 1000000 ≤ _; omega)]
        exact ⟨rfl, hle⟩
      · rw [← h1]
        refine ⟨rfl, ?_⟩
        split
        · exact h2
        · exact hle
    · rw [if_neg q, if_neg q]
      rcases ih with ⟨h1, h2, h3⟩ | ⟨h1, h2⟩
      · refine Or.inl ⟨fun k hk => ?_, h2, h3⟩
        rcases Nat.lt_or_ge k n with x | x
        · exact h1 k x
        · have : k = n := by omega
          subst this; exact ts_nt q
      · exact Or.inr ⟨h1, h2⟩
theorem pgA_36 {F : FV} {fr : Nat → Bool} {L0 : Nat} (hF : okF F) (hfr : ∀ s, fr s = true → s < nF F) : pgA F fr L0 36 = pgA F fr L0 (nF F) := by
  have h36 := nF_le hF
  have : ∀ m, pgA F fr L0 (nF F + m) = pgA F fr L0 (nF F) := fun m => by
    induction m with
    | zero => rfl
    | succ m ih =>
      show (if fr (nF F + m) then _ else pgA F fr L0 (nF F + m)) = _
      rw [if_neg (fun e => by have := hfr _ e; omega), ih]
  have h := this (36 - nF F)
  rw [show nF F + (36 - nF F) = 36 by omega] at h
  exact h
theorem plug_CL {P : Option (eH × Int32) → Prop} {k78 : eH → Nat → Int32 → Int32 → Option (eH × Int32)} {h : eH} {X : AX} {B pp : Nat} {x : Int64} (hc : CI h X) (ho : okX B X) (hp : CF h pp (xF X)) (hx : ∀ k, tb x k = frA (xF X) (xS X) k) (y : ∀ g, only csc h g → P (k78 g 0 (pgA (xF X) (frA (xF X) (xS X)) 501 36).1 (nI (pgA (xF X) (frA (xF X) (xS X)) 501 36).2))) : P (f_X10_plug_L15 LF e_fu k78 h 0 x (-1) 501 0) := by
  have hfrl : ∀ s, frA (xF X) (xS X) s = true → s < nF (xF X) := fun s => frA_k
  refine lpF (N := 36) (s := (h, (-1 : Int32), (501 : Int32))) (run := fun fu (q : eH × Int32 × Int32) i => f_X10_plug_L15 LF fu k78 q.1 0 x q.2.1 q.2.2 (nI i)) (Inv := fun i q => only csc h q.1 ∧ q.2.1 = (pgA (xF X) (frA (xF X) (xS X)) 501 i).1 ∧ q.2.2 = nI (pgA (xF X) (frA (xF X) (xS X)) 501 i).2 ∧ (pgA (xF X) (frA (xF X) (xS X)) 501 i).2 ≤ 501) (Post := P) (by decide) ⟨only_rfl, rfl, rfl, Nat.le_refl _⟩ ?_ ?_
  · rintro fu ⟨g, b, l⟩ ⟨g1, g2, g3, -⟩
    have g2 : b = _ := g2
    have g3 : l = _ := g3
    show P (f_X10_plug_L15 LF (fu + 1) k78 g 0 x b l (nI 36))
    unfold f_X10_plug_L15
    rw [if_pos (by decide), g2, g3]
    exact y g g1
  · rintro i fu ⟨g, b, l⟩ hi ⟨g1, g2, g3, g4⟩
    have g1 : only csc h g := g1
    have g2 : b = (pgA (xF X) (frA (xF X) (xS X)) 501 i).1 := g2
    have g3 : l = nI (pgA (xF X) (frA (xF X) (xS X)) 501 i).2 := g3
    have g4 : (pgA (xF X) (frA (xF X) (xS X)) 501 i).2 ≤ 501 := g4
    obtain ⟨T, hT⟩ : ∃ T, pgA (xF X) (frA (xF X) (xS X)) 501 i = T := ⟨_, rfl⟩
    have hnx : pgA (xF X) (frA (xF X) (xS X)) 501 (i + 1) = if frA (xF X) (xS X) i then (if T.2 ≤ mxD (frA (xF X) (xS X)) (dOf (xF X) (frA (xF X) (xS X)) i) (nF (xF X)) then T else (nI i, mxD (frA (xF X) (xS X)) (dOf (xF X) (frA (xF X) (xS X)) i) (nF (xF X)))) else T := by rw [← hT]; rfl
    rw [hT] at g2 g3 g4
    have n36 : ¬ (36 : Int32) ≤ nI i := nI_ge (b := 36) hi (by decide)
    by_cases hf : frA (xF X) (xS X) i = true
    · rw [if_pos hf] at hnx
      have hcg := CI_scr g1 hc
      have hpg := CF_only g1 (fun j k a b => by unfold csc; omega) hp
      obtain ⟨g', D, m1, m2, m3, m4⟩ := measure_C ho.1 hcg.1 hpg hfrl hx hi
      rw [dOf_eq ho.1 hfrl m2] at hnx
      have hR' := only_refs m4 hcg.1
      have hgr := greatest_C ho.1 hR' hfrl m2 m3 hx
      have hle := mxD_le (fr := frA (xF X) (xS X)) (D := D) (nF (xF X))
      generalize mxD (frA (xF X) (xS X)) D (nF (xF X)) = M at hnx hgr hle
      have o' : only csc h g' := only_trans g1 (only_mono (fun j k a => by unfold csc; omega) m4)
      obtain ⟨T', hT'⟩ : ∃ T', (if T.2 ≤ M then T else (nI i, M)) = T' := ⟨_, rfl⟩
      rw [hT'] at hnx
      refine Or.inr ⟨(g', T'.1, nI T'.2), ⟨o', by rw [hnx], by rw [hnx], by rw [hnx, ← hT']; split; exact g4; show M ≤ 501; omega⟩, fun z hz => ?_⟩
      show f_X10_plug_L15 LF (fu + 1) k78 g 0 x b l (nI i) = z
      unfold f_X10_plug_L15
      rw [if_neg n36, show f_X10_holds x (nI i) = 1 by rw [holds_k _ hi, hx, if_pos hf], if_neg i10, if_pos iO_0, r_0_4 hcg.1, Option.bind_some, hpg.2.1, Option.bind_some, if_pos iO_38, m1, Option.bind_some, r_0_4 hR', Option.bind_some, if_pos iO_38, hgr, Option.bind_some, g3, g2, nI_p1]
      by_cases q : T.2 ≤ M
      · rw [if_pos q] at hT'
        rw [if_pos (nI_le q (by omega)), hT']; exact hz
      · rw [if_neg q] at hT'
        rw [if_neg (nI_ge (by omega) (by omega))]
        subst hT'
        exact hz
    · rw [if_neg hf] at hnx
      refine Or.inr ⟨(g, b, l), ⟨g1, by rw [hnx]; exact g2, by rw [hnx]; exact g3, by rw [hnx]; exact g4⟩, fun z hz => ?_⟩
      show f_X10_plug_L15 LF (fu + 1) k78 g 0 x b l (nI i) = z
      unfold f_X10_plug_L15
      rw [if_neg n36, show f_X10_holds x (nI i) = 0 by rw [holds_k _ hi, hx, if_neg hf], if_pos rfl, nI_p1]
      exact hz
theorem plug_M1 {P : Option (eH × Int32) → Prop} {k101 : eH → Nat → Int32 → Int32 → Int32 → Int32 → Option (eH × Int32)} {g : eH} {F : FV} {S : Nat → Int32} {D : Nat → Nat} {b l v : Int32} (hF : okF F) (hR : RefsOK g) (hm : MF g F) (hS : MS g 76 0 S) (hD : ∀ s, D s ≤ 1000) (hd : ∀ s, s < 36 → gI g 88 s = dM D s) (y : P (k101 g 73 b l v (nI (mxD (frA F S) D (nF F))))) : P (f_X11_plug_L48 LF e_fu k101 g 73 b l v 0 0) := by
  have h36 := nF_le hF
  refine lpF (N := nF F) (s := (0 : Int32)) (run := fun fu (q : Int32) i => f_X11_plug_L48 LF fu k101 g 73 b l v q (nI i)) (Inv := fun i q => q = nI (mxD (frA F S) D i)) (Post := P) (by omega) rfl ?_ ?_
  · rintro fu q rfl
    show P (f_X11_plug_L48 LF (fu + 1) k101 g 73 b l v _ (nI (nF F)))
    unfold f_X11_plug_L48
    rw [if_pos iO_73, spots_M hm, Option.bind_some, if_pos (nI_le (Nat.le_refl _) (by omega))]
    exact y
  · rintro i fu q hi rfl
    refine Or.inr ⟨nI (mxD (frA F S) D (i + 1)), rfl, fun z hz => ?_⟩
    have hz : f_X11_plug_L48 LF fu k101 g 73 b l v (nI (if frA F S i then max (mxD (frA F S) D i) (min 500 (D i)) else mxD (frA F S) D i)) (nI (i + 1)) = z := hz
    show f_X11_plug_L48 LF (fu + 1) k101 g 73 b l v (nI (mxD (frA F S) D i)) (nI i) = z
    unfold f_X11_plug_L48
    rw [if_pos iO_73, spots_M hm, Option.bind_some, if_neg (nI_ge hi (by omega)), r_73_7 hR, Option.bind_some, isFree_k hF hR (Or.inl rfl) hm hS (show i < 36 by omega), Option.bind_some]
    by_cases hf : frA F S i = true
    · rw [if_pos hf] at hz
      have hle := mxD_le (fr := frA F S) (D := D) i
      have e : mnI 500 (dM D i) = nI (min 500 (D i)) := by
        show mnI (nI 500) (nI (Dd D i)) = _
        have := hD i
        unfold Dd
        by_cases q : D i < 1000
        · rw [if_pos q, mnI_n (by omega) (by omega)]
        · rw [if_neg q, mnI_n (by omega) (by omega)]
          congr 1; omega
      rw [if_pos hf, if_neg i10, r_73_31 hR, Option.bind_some, iA_88, if_pos (in_nI (by omega) (by decide)), nI_clamp (by omega), hd i (by omega), e, mxI_n (by omega) (by omega), nI_p1]
      exact hz
    · rw [if_neg hf] at hz
      rw [if_neg hf, if_pos rfl, nI_p1]; exact hz
theorem plugM_s {n : Nat} {k126 : eH → Nat → Int32 → Int32 → Option (eH × Int32)} {h : eH} {v0 : Nat} {v1 v2 v3 : Int32} : f_X11_plug_L13 LF (n + 1) k126 h v0 v1 v2 v3 = (if isO LF v0 11 = true then (f_X11_spots LF h v0).bind fun r3 => if r3 ≤ v3 then k126 h v0 v1 v2 else (gR h v0 7).bind fun b5 => (f_X11_isFree LF h v0 b5 v3).bind fun r7 => if r7 = 0 then f_X11_plug_L13 LF n k126 h v0 v1 v2 (v3 + Int32.ofInt 1) else (gR h v0 7).bind fun b9 => (f_X11_laysFar LF h v0 b9 v3).bind fun r11 => f_X11_plug_L48 LF e_fu (fun (h23 : eH) (w0_24 : Nat) (w1_25 : Int32) (w2_26 : Int32) (w3_27 : Int32) (w4_28 : Int32) => if w2_26 ≤ w4_28 then f_X11_plug_L13 LF n k126 h23 w0_24 w1_25 (mnI w2_26 w4_28) (w3_27 + Int32.ofInt 1) else f_X11_plug_L13 LF n k126 h23 w0_24 w3_27 (mnI w2_26 w4_28) (w3_27 + Int32.ofInt 1)) r11 v0 v1 v2 v3 0 0 else none) := rfl
theorem plug_ML {P : Option (eH × Int32) → Prop} {k126 : eH → Nat → Int32 → Int32 → Option (eH × Int32)} {h g0 : eH} {X : AX} {B : Nat} (hR : RefsOK h) (hm : MI h X) (ho : okX B X) (og : only msc h g0) (hex : ∀ n, n < 36 → ∃ D, isD (xF X) (frA (xF X) (xS X)) n D) (y : ∀ g, only msc h g → P (k126 g 73 (pgA (xF X) (frA (xF X) (xS X)) 1000000 36).1 (nI (pgA (xF X) (frA (xF X) (xS X)) 1000000 36).2))) : P (f_X11_plug_L13 LF e_fu k126 g0 73 (-1) 1000000 0) := by
  have hfrl : ∀ s, frA (xF X) (xS X) s = true → s < nF (xF X) := fun s => frA_k
  have h36 := nF_le ho.1
  refine lpF (N := nF (xF X)) (s := (g0, (-1 : Int32), (1000000 : Int32))) (run := fun fu (q : eH × Int32 × Int32) i => f_X11_plug_L13 LF fu k126 q.1 73 q.2.1 q.2.2 (nI i)) (Inv := fun i q => only msc h q.1 ∧ q.2.1 = (pgA (xF X) (frA (xF X) (xS X)) 1000000 i).1 ∧ q.2.2 = nI (pgA (xF X) (frA (xF X) (xS X)) 1000000 i).2 ∧ (pgA (xF X) (frA (xF X) (xS X)) 1000000 i).2 ≤ 1000000) (Post := P) (by omega) ⟨og, rfl, rfl, Nat.le_refl _⟩ ?_ ?_
  · rintro fu ⟨g, b, l⟩ ⟨g1, g2, g3, -⟩
    have g1 : only msc h g := g1
    have g2 : b = _ := g2
    have g3 : l = _ := g3
    have hmg := mW_MF (fun _ _ => msc_mW) g1 hm.1
    show P (f_X11_plug_L13 LF (fu + 1) k126 g 73 b l (nI (nF (xF X))))
    rw [plugM_s, if_pos iO_73, spots_M hmg, Option.bind_some, if_pos (nI_le (Nat.le_refl _) (by omega)), g2, g3]
    have := y g g1
    rw [pgA_36 ho.1 hfrl] at this
    exact this
  · rintro i fu ⟨g, b, l⟩ hi ⟨g1, g2, g3, g4⟩
    have g1 : only msc h g := g1
    have g2 : b = (pgA (xF X) (frA (xF X) (xS X)) 1000000 i).1 := g2
    have g3 : l = nI (pgA (xF X) (frA (xF X) (xS X)) 1000000 i).2 := g3
    have g4 : (pgA (xF X) (frA (xF X) (xS X)) 1000000 i).2 ≤ 1000000 := g4
    obtain ⟨T, hT⟩ : ∃ T, pgA (xF X) (frA (xF X) (xS X)) 1000000 i = T := ⟨_, rfl⟩
    have hnx : pgA (xF X) (frA (xF X) (xS X)) 1000000 (i + 1) = if frA (xF X) (xS X) i then (if T.2 ≤ mxD (frA (xF X) (xS X)) (dOf (xF X) (frA (xF X) (xS X)) i) (nF (xF X)) then T else (nI i, mxD (frA (xF X) (xS X)) (dOf (xF X) (frA (xF X) (xS X)) i) (nF (xF X)))) else T := by rw [← hT]; rfl
    rw [hT] at g2 g3 g4
    have hRg := only_refs g1 hR
    have hmg := mW_MF (fun _ _ => msc_mW) g1 hm.1
    have hSg := mW_S (fun _ _ => msc_mW) g1 hm.2.2.2.2.1
    by_cases hf : frA (xF X) (xS X) i = true
    · rw [if_pos hf] at hnx
      obtain ⟨D, hD⟩ := hex i (by omega)
      rw [dOf_eq ho.1 hfrl hD] at hnx
      obtain ⟨g', l1, l2, l3⟩ := laysFar_M ho.1 hRg (Or.inl rfl) hmg hSg hD (show i < 36 by omega)
      have o' : only msc h g' := only_trans g1 (only_mono (fun j k a => by unfold msc; omega) l3)
      have hle := mxD_le (fr := frA (xF X) (xS X)) (D := D) (nF (xF X))
      obtain ⟨M, hM⟩ : ∃ M, mxD (frA (xF X) (xS X)) D (nF (xF X)) = M := ⟨_, rfl⟩
      rw [hM] at hnx hle
      obtain ⟨T', hT'⟩ : ∃ T', (if T.2 ≤ M then T else (nI i, M)) = T' := ⟨_, rfl⟩
      rw [hT'] at hnx
      refine Or.inr ⟨(g', T'.1, nI T'.2), ⟨o', by rw [hnx], by rw [hnx], by rw [hnx, ← hT']; split; exact g4; show M ≤ 1000000; omega⟩, fun z hz => ?_⟩
      show f_X11_plug_L13 LF (fu + 1) k126 g 73 b l (nI i) = z
      rw [plugM_s, if_pos iO_73, spots_M hmg, Option.bind_some, if_neg (nI_ge hi (by omega)), r_73_7 hRg, Option.bind_some, isFree_k ho.1 hRg (Or.inl rfl) hmg hSg (show i < 36 by omega), Option.bind_some, if_pos hf, if_neg i10, Option.bind_some, l1, Option.bind_some]
      refine plug_M1 (P := fun r => r = z) ho.1 (only_refs o' hR) (mW_MF (fun _ _ => msc_mW) o' hm.1) (mW_S (fun _ _ => msc_mW) o' hm.2.2.2.2.1) hD.1.2.2 l2 ?_
      rw [hM, g3, g2, mnI_n (by omega) (by omega), nI_p1]
      by_cases q : T.2 ≤ M
      · rw [if_pos q] at hT'
        rw [if_pos (nI_le q (by omega)), Nat.min_eq_left q, hT']; exact hz
      · rw [if_neg q] at hT'
        rw [if_neg (nI_ge (by omega) (by omega)), Nat.min_eq_right (by omega)]
        subst hT'
        exact hz
    · rw [if_neg hf] at hnx
      refine Or.inr ⟨(g, b, l), ⟨g1, by rw [hnx]; exact g2, by rw [hnx]; exact g3, by rw [hnx]; exact g4⟩, fun z hz => ?_⟩
      show f_X11_plug_L13 LF (fu + 1) k126 g 73 b l (nI i) = z
      rw [plugM_s, if_pos iO_73, spots_M hmg, Option.bind_some, if_neg (nI_ge hi (by omega)), r_73_7 hRg, Option.bind_some, isFree_k ho.1 hRg (Or.inl rfl) hmg hSg (show i < 36 by omega), Option.bind_some, if_neg hf, if_pos rfl, nI_p1]
      exact hz
theorem plug_P {B : Nat} {h : eH} {X : AX} (hc : CI h X) (hm : MI h X) (ho : okX B X) : PR B (f_X10_plug LF h 0) (fun h1 => f_X11_plug LF h1 73) := by
  have hfrl : ∀ s, frA (xF X) (xS X) s = true → s < nF (xF X) := fun s => frA_k
  obtain ⟨pp, hp⟩ := hc.2.1
  obtain ⟨sp, a0, a1, a2, a3⟩ := spotX ho
  have hex : ∀ n, n < 36 → ∃ D, isD (xF X) (frA (xF X) (xS X)) n D := fun n hn => by
    obtain ⟨hA, D, -, m2, -, -⟩ := measure_C ho.1 hc.1 hp hfrl (frX hc ho hp) hn
    exact ⟨D, m2⟩
  have hsame : pgA (xF X) (frA (xF X) (xS X)) 501 36 = pgA (xF X) (frA (xF X) (xS X)) 1000000 36 := by
    rcases pgA_same (F := xF X) (fr := frA (xF X) (xS X)) 36 with ⟨q, -⟩ | q
    · rw [q sp a0] at a3; cases a3
    · exact q.1
  obtain ⟨T, hT⟩ : ∃ T, pgA (xF X) (frA (xF X) (xS X)) 1000000 36 = T := ⟨_, rfl⟩
  rw [hT] at hsame
  refine PR_q hc hm ho (r := T.1) (l := [(nI T.2).toInt64]) (by show 1 ≤ 37; omega) ?_ (fun h1 hR h9 => ?_)
  · unfold f_X10_plug
    rw [if_pos iO_0, free_C hc hp, Option.bind_some]
    refine plug_CL (P := fun r => ∃ h1, r = some (h1, _) ∧ CW h1 _ ∧ only cscW h h1) hc ho hp (frX hc ho hp) (fun g og => ?_)
    rw [hsame]
    have hRg := only_refs og hc.1
    obtain ⟨b1, b2⟩ := rowbeg_C g
    have hRb : RefsOK (sI g 3 1 0) := refs_sI hRg
    obtain ⟨h3, r1, r2, r3⟩ := rowadd_C hRb b2 (by decide) ((nI T.2).toInt64)
    have obb : only (fun j _ => j = 3 ∨ j = 4) g (sI g 3 1 0) := only_sI (Or.inl rfl)
    refine ⟨h3, ?_, r2, only_trans (csc_w og) (row_w (only_trans obb r3))⟩
    rw [if_pos iO_0, r_0_1 hRg, Option.bind_some, if_pos iO_3, b1, Option.bind_some, r_0_1 hRb, Option.bind_some, if_pos iO_3, r1, Option.bind_some]
  · show ∃ h2, f_X11_plug LF h1 73 = _ ∧ _
    unfold f_X11_plug
    rw [if_pos iO_73]
    refine plug_ML (P := fun r => ∃ h2, r = some (h2, _) ∧ MW h2 _ ∧ only mscW h1 h2) hR h9 ho thr_M hex (fun g og => ?_)
    rw [hT]
    have hRg := only_refs og hR
    have hRb : RefsOK (sI g 73 1 0) := refs_sI hRg
    obtain ⟨h3, r1, r2, r3⟩ := rowadd_M hRb (rowbeg_M g) (by decide) ((nI T.2).toInt64)
    have obb : only (fun j k => (j = 73 ∧ k = 1) ∨ j = 74) g (sI g 73 1 0) := only_sI (Or.inl ⟨rfl, rfl⟩)
    refine ⟨h3, ?_, r2, only_trans (msc_w og) (rowm_w (only_trans obb r3))⟩
    rw [if_pos iO_73, r1, Option.bind_some]

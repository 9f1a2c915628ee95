/-! way on both sides. -/
def fF (p : Nat → Bool) : Nat → Nat
  | 0 => 0
  | n + 1 => if fF p n < n then fF p n else if p n then n else n + 1
theorem fF_le {p : Nat → Bool} : ∀ n, fF p n ≤ n
  | 0 => Nat.le_refl _
  | n + 1 => by
    have := fF_le (p := p) n
    unfold fF
    split
    · omega
    · split <;> omega
theorem fF_no {p : Nat → Bool} : ∀ n k, k < fF p n → p k = false
  | 0, k, h => absurd h (Nat.not_lt_zero k)
  | n + 1, k, h => by
    have ih := fF_no (p := p) n k
    have hl := fF_le (p := p) n
    unfold fF at h
    by_cases q : fF p n < n
    · rw [if_pos q] at h; exact ih h
    · rw [if_neg q] at h
      by_cases r : p n = true
      · rw [if_pos r] at h; exact ih (by omega)
      · rw [if_neg r] at h
        by_cases e : k = n
        · subst e; exact ts_nt r
        · exact ih (by omega)
theorem fF_yes {p : Nat → Bool} : ∀ n, fF p n < n → p (fF p n) = true
  | 0, h => absurd h (Nat.not_lt_zero _)
  | n + 1, h => by
    unfold fF at h ⊢
    by_cases q : fF p n < n
    · rw [if_pos q]; exact fF_yes n q
    · rw [if_neg q] at h ⊢
      by_cases r : p n = true
      · rw [if_pos r]; exact r
      · rw [if_neg r] at h; omega
theorem fF_cong {p q : Nat → Bool} : ∀ n, (∀ k, k < n → p k = q k) → fF p n = fF q n
  | 0, _ => rfl
  | n + 1, h => by
    unfold fF
    rw [fF_cong n (fun k hk => h k (by omega)), h n (by omega)]
theorem firstOf_C (x : Int64) : f_X2_firstOf x = some (if fF (tb x) 36 < 36 then nI (fF (tb x) 36) else -1) := by
  unfold f_X2_firstOf
  refine lpF (N := 36) (s := ()) (run := fun fu (_ : Unit) i => f_X2_firstOf_L2 fu (fun (w2_1 : Int32) => some w2_1) (some (-1)) x (nI i)) (Inv := fun i _ => i ≤ fF (tb x) 36) (Post := fun r => r = some (if fF (tb x) 36 < 36 then nI (fF (tb x) 36) else -1)) (by decide) (Nat.zero_le _) ?_ ?_
  · rintro fu _ h
    have h : 36 ≤ fF (tb x) 36 := h
    show f_X2_firstOf_L2 (fu + 1) _ _ x (nI 36) = _
    unfold f_X2_firstOf_L2
    rw [if_pos (by decide), if_neg (by omega)]
  · rintro i fu _ hi h
    have h : i ≤ fF (tb x) 36 := h
    have n36 : ¬ (36 : Int32) ≤ nI i := nI_ge (b := 36) hi (by decide)
    by_cases ht : tb x i = true
    · have e : fF (tb x) 36 = i := by
        rcases Nat.lt_or_ge i (fF (tb x) 36) with q | q
        · have := fF_no 36 i q; rw [ht] at this; cases this
        · omega
      refine Or.inl ?_
      show f_X2_firstOf_L2 (fu + 1) _ _ x (nI i) = _
      unfold f_X2_firstOf_L2
      rw [if_neg n36, show f_X10_holds x (nI i) = 1 by rw [holds_k _ hi, if_pos ht], if_neg i10, e, if_pos hi]
    · refine Or.inr ⟨(), ?_, fun z hz => ?_⟩
      · show i + 1 ≤ fF (tb x) 36
        rcases Nat.lt_or_ge i (fF (tb x) 36) with q | q
        · omega
        · have e : fF (tb x) 36 = i := by omega
          have := fF_yes (p := tb x) 36 (by omega)
          rw [e] at this; exact absurd this ht
      · show f_X2_firstOf_L2 (fu + 1) _ _ x (nI i) = z
        unfold f_X2_firstOf_L2
        rw [if_neg n36, show f_X10_holds x (nI i) = 0 by rw [holds_k _ hi, if_neg ht], if_pos rfl, nI_p1]
        exact hz
/-- a neighbour on a cheapest way -/
def nxP (F : FV) (D : Nat → Nat) (s k : Nat) : Bool := nbA F (fun u => decide (u = s)) k && decide (D k + coK F s = D s)
def nxW (F : FV) (D : Nat → Nat) (s : Nat) : Nat := fF (nxP F D s) 36
theorem nxP_iff {F : FV} {D : Nat → Nat} (hF : okF F) {s k : Nat} (hs : s < nF F) : nxP F D s k = true → k < nF F → ∃ d, d < 4 ∧ nbF F s d = some k ∧ D k + coK F s = D s := by
  intro h hk
  unfold nxP at h
  simp only [Bool.and_eq_true] at h
  obtain ⟨d, u, d1, d2, d3⟩ := nbA_iff.mp h.1
  have e : u = s := of_decide_eq_true d3
  subst e
  exact ⟨(d + 2) % 4, Nat.mod_lt _ (by decide), (nbF_lt hF hk d1 d2).2.1, of_decide_eq_true h.2⟩
theorem nxP_of {F : FV} {D : Nat → Nat} (hF : okF F) {s k d : Nat} (hs : s < nF F) (hd : d < 4) (hn : nbF F s d = some k) (he : D k + coK F s = D s) : nxP F D s k = true := by
  unfold nxP
  have := nbF_lt hF hs hd hn
  rw [nbA_iff.mpr ⟨(d + 2) % 4, s, Nat.mod_lt _ (by decide), this.2.1, decide_eq_true rfl⟩, decide_eq_true he]; rfl
theorem nxW_ok {F : FV} {fr : Nat → Bool} {goal : Nat} {D : Nat → Nat} (hF : okF F) (hfr : ∀ s, fr s = true → s < nF F) (hD : isD F fr goal D) {s : Nat} (hs : D s < 1000) (hn : s ≠ goal) : nxW F D s < 36 ∧ nxP F D s (nxW F D s) = true ∧ nxW F D s < nF F ∧ D (nxW F D s) + coK F s = D s := by
  have h36 := nF_le hF
  obtain ⟨e1, e2⟩ := hD.1.2.1 s hs
  have hsl := hfr s e1
  rcases e2 with ⟨e3, -⟩ | ⟨d, u, e3, e4, e5⟩
  · exact absurd e3 hn
  · have hu := nbF_lt hF hsl e3 e4
    have hp := nxP_of hF hsl e3 e4 e5
    have hlt : nxW F D s < 36 := by
      unfold nxW
      rcases Nat.lt_or_ge (fF (nxP F D s) 36) 36 with q | q
      · exact q
      · have := fF_no (p := nxP F D s) 36 u (by omega)
        rw [hp] at this; cases this
    have hy : nxP F D s (nxW F D s) = true := fF_yes 36 hlt
    have he : D (nxW F D s) + coK F s = D s := by
      unfold nxP at hy
      simp only [Bool.and_eq_true] at hy
      exact of_decide_eq_true hy.2
    exact ⟨hlt, hy, hfr _ (hD.1.2.1 _ (by omega)).1, he⟩
def ptA (F : FV) (D : Nat → Nat) (goal : Nat) : Nat → Nat → List Int64
  | 0, _ => []
  | m + 1, s => if s = goal then [] else (nI (nxW F D s)).toInt64 :: ptA F D goal m (nxW F D s)
theorem ptA_len {F : FV} {D : Nat → Nat} {goal : Nat} : ∀ m s, (ptA F D goal m s).length ≤ m
  | 0, _ => Nat.le_refl _
  | m + 1, s => by
    have := ptA_len (F := F) (D := D) (goal := goal) m (nxW F D s)
    unfold ptA
    split
    · exact Nat.zero_le _
    · exact Nat.succ_le_succ this
theorem way_CL {P : Option (eH × Int32) → Prop} {k174 : eH → Int32 → Option (eH × Int32)} {h g0 : eH} {X : AX} {B pp goal fm : Nat} {D : Nat → Nat} {c : Int32} (hc : CI h X) (ho : okX B X) (hp : CF h pp (xF X)) (hD : isD (xF X) (frA (xF X) (xS X)) goal D) (hg : goal < 36) (hf : D fm < 1000) (og : only cscW h g0) (hb : byD g0 D) (hl : CW g0 [(nI fm).toInt64]) (y : ∀ g, only cscW h g → CW g ([(nI fm).toInt64] ++ ptA (xF X) D goal 36 fm) → P (k174 g c)) : P (f_X10_way_L108 LF e_fu k174 g0 0 (nI goal) c (nI fm) (nI (D fm)) 0) := by
  have hfrl : ∀ s, frA (xF X) (xS X) s = true → s < nF (xF X) := fun s => frA_k
  have h36 := nF_le ho.1
  obtain ⟨T, hT⟩ : ∃ T, [(nI fm).toInt64] ++ ptA (xF X) D goal 36 fm = T := ⟨_, rfl⟩
  rw [hT] at y
  refine lpF (N := 36) (s := (g0, fm, [(nI fm).toInt64])) (run := fun fu (q : eH × Nat × List Int64) i => f_X10_way_L108 LF fu k174 q.1 0 (nI goal) c (nI q.2.1) (nI (D q.2.1)) (nI i)) (Inv := fun i q => only cscW h q.1 ∧ byD q.1 D ∧ D q.2.1 < 1000 ∧ CW q.1 q.2.2 ∧ q.2.2.length = i + 1 ∧ q.2.2 ++ ptA (xF X) D goal (36 - i) q.2.1 = T) (Post := P) (by decide) ⟨og, hb, hf, hl, rfl, hT⟩ ?_ ?_
  · rintro fu ⟨g, s, l⟩ ⟨g1, g2, g3, g4, g5, g6⟩
    have g6 : l ++ [] = T := g6
    rw [List.append_nil] at g6
    have g4 : CW g l := g4
    show P (f_X10_way_L108 LF (fu + 1) k174 g 0 (nI goal) c (nI s) (nI (D s)) (nI 36))
    unfold f_X10_way_L108
    rw [if_pos (by decide)]
    exact y g g1 (by rw [← g6]; exact g4)
  · rintro i fu ⟨g, s, l⟩ hi ⟨g1, g2, g3, g4, g5, g6⟩
    have g1 : only cscW h g := g1
    have g2 : byD g D := g2
    have g3 : D s < 1000 := g3
    have g4 : CW g l := g4
    have g5 : l.length = i + 1 := g5
    have g6 : l ++ ptA (xF X) D goal (36 - i) s = T := g6
    rw [show 36 - i = (36 - (i + 1)) + 1 by omega] at g6
    unfold ptA at g6
    have n36 : ¬ (36 : Int32) ≤ nI i := nI_ge (b := 36) hi (by decide)
    have hsl := hfrl s (hD.1.2.1 s g3).1
    have hle := ds_le ho.1 hfrl hD.1 g3
    by_cases hs : s = goal
    · rw [if_pos hs, List.append_nil] at g6
      refine Or.inl ?_
      show P (f_X10_way_L108 LF (fu + 1) k174 g 0 (nI goal) c (nI s) (nI (D s)) (nI i))
      unfold f_X10_way_L108
      rw [if_neg n36, if_pos (by rw [hs])]
      exact y g g1 (by rw [← g6]; exact g4)
    · rw [if_neg hs] at g6
      obtain ⟨x1, x2, x3, x4⟩ := nxW_ok ho.1 hfrl hD g3 hs
      have hk := coK_12 (xF X) s
      have hRg := only_refs g1 hc.1
      have hpg := CF_only g1 (fun j k a b => by unfold cscW csc; omega) hp
      have hbl : ∀ k, nF (xF X) ≤ k → tb (f_X10_bit (nI s)) k = false := fun k hk2 => by rw [bit_tb (by omega)]; exact decide_eq_false (by omega)
      obtain ⟨w, w1, w2⟩ := around_C ho.1 hpg hbl
      have esub : nI (D s) - nI (coK (xF X) s) = nI (D s - coK (xF X) s) := pk_sub (by omega)
      have hfi : fF (tb (gL g 39 (D s - coK (xF X) s) &&& w)) 36 = nxW (xF X) D s := by
        refine fF_cong 36 (fun k hk2 => ?_)
        rw [tb_and, g2.2 _ (by omega)]
        unfold nxP
        by_cases hkn : k < nF (xF X)
        · rw [w2 k hkn, nbA_cong ho.1 hkn (fun u _ => bit_tb (show s < 36 by omega) u)]
          by_cases q : D k + coK (xF X) s = D s
          · rw [decide_eq_true (show D k = D s - coK (xF X) s by omega), decide_eq_true q]; simp
          · rw [decide_eq_false (show ¬ D k = D s - coK (xF X) s by omega), decide_eq_false q]; simp
        · have hDk : ¬ D k < 1000 := fun e => hkn (hfrl k (hD.1.2.1 k e).1)
          rw [decide_eq_false (show ¬ D k = D s - coK (xF X) s by omega), decide_eq_false (show ¬ D k + coK (xF X) s = D s by omega)]; simp
      have hfa : f_X9_firstAt LF g 38 (nI (D s - coK (xF X) s)) w = some (nI (nxW (xF X) D s)) := by
        unfold f_X9_firstAt
        rw [if_neg (nI_pos (by omega)), if_neg (show ¬ (74 : Int32) ≤ nI (D s - coK (xF X) s) from nI_ge (b := 74) (by omega) (by decide)), if_pos iO_38, r_38_0 hRg, Option.bind_some, iA_39, if_pos (in_nI (by omega) (by decide)), nI_clamp (by omega), firstOf_C, Option.bind_some, hfi, if_pos x1]
      obtain ⟨g', r1, r2, r3⟩ := rowadd_C hRg g4 (by omega) ((nI (nxW (xF X) D s)).toInt64)
      have eD : nI (D s - coK (xF X) s) = nI (D (nxW (xF X) D s)) := congrArg nI (show D s - coK (xF X) s = D (nxW (xF X) D s) by omega)
      generalize nxW (xF X) D s = t at x4 hfa r1 r2 eD g6
      refine Or.inr ⟨(g', t, l ++ [(nI t).toInt64]), ⟨only_trans g1 (row_w r3), byD_only r3 (fun j k a => by omega) g2, by show D t < 1000; omega, r2, by show (l ++ _).length = _; rw [List.length_append, g5]; rfl, by show (l ++ [(nI t).toInt64]) ++ ptA (xF X) D goal (36 - (i + 1)) t = T; rw [← g6, List.append_assoc]; rfl⟩, fun z hz => ?_⟩
      show f_X10_way_L108 LF (fu + 1) k174 g 0 (nI goal) c (nI s) (nI (D s)) (nI i) = z
      unfold f_X10_way_L108
      rw [if_neg n36, if_neg (fun e => hs (nI_inj (by omega) (by omega) e)), if_pos iO_0, hpg.2.1, Option.bind_some, if_pos (p_O hp), costK_C hpg (by omega), Option.bind_some, r_0_4 hRg, Option.bind_some, Option.bind_some, if_pos (p_O hp), w1, Option.bind_some, if_pos iO_38, esub, hfa, Option.bind_some, r_0_1 hRg, Option.bind_some, if_pos iO_3, r1, Option.bind_some, nI_p1, eD]
      exact hz
theorem way_M1 {P : Option (eH × Int32) → Prop} {k146 : eH → Nat → Int32 → Int32 → Int32 → Option (eH × Int32)} {g : eH} {F : FV} {fr : Nat → Bool} {goal s : Nat} {D : Nat → Nat} {v1 v2 : Int32} (hF : okF F) (hfr : ∀ s, fr s = true → s < nF F) (hR : RefsOK g) (hm : MF g F) (hD : isD F fr goal D) (hd : ∀ s, s < 36 → gI g 88 s = dM D s) (hs : D s < 1000) (hn : s ≠ goal) (y : P (k146 g 73 v1 v2 (nI (nxW F D s)))) : P (f_X11_way_L84 LF e_fu k146 g 73 v1 v2 (nI s) 36 0) := by
  have h36 := nF_le hF
  obtain ⟨x1, x2, x3, x4⟩ := nxW_ok hF hfr hD hs hn
  have hsl := hfr s (hD.1.2.1 s hs).1
  have hle := ds_le hF hfr hD.1 hs
  refine lpF (N := 4) (s := 36) (run := fun fu (q : Nat) d => f_X11_way_L84 LF fu k146 g 73 v1 v2 (nI s) (nI q) (nI d)) (Inv := fun d q => q ≤ 36 ∧ (q = 36 ∨ (q < nF F ∧ nxP F D s q = true)) ∧ ∀ d' u, d' < d → nbF F s d' = some u → D u + coK F s = D s → q ≤ u) (Post := P) (by decide) ⟨Nat.le_refl _, Or.inl rfl, fun d' u hd => absurd hd (Nat.not_lt_zero _)⟩ ?_ ?_
  · rintro fu q ⟨g1, g2, g3⟩
    have e : q = nxW F D s := by
      obtain ⟨d, d1, d2, d3⟩ := nxP_iff hF hsl x2 x3
      have h1 := g3 d _ d1 d2 d3
      rcases g2 with h2 | ⟨h2, h3⟩
      · omega
      · rcases Nat.lt_or_ge q (nxW F D s) with h4 | h4
        · have := fF_no (p := nxP F D s) 36 q h4
          rw [h3] at this; cases this
        · omega
    show P (f_X11_way_L84 LF (fu + 1) k146 g 73 v1 v2 (nI s) (nI q) (nI 4))
    unfold f_X11_way_L84
    rw [if_pos (by decide), e]
    exact y
  · rintro d fu q hd4 ⟨g1, g2, g3⟩
    have n4 : ¬ (4 : Int32) ≤ nI d := nI_ge (b := 4) hd4 (by decide)
    have hnb := beside_nb hF hm s d
    rw [nb_eq hF hsl hd4] at hnb
    cases hn2 : nbF F s d with
    | none =>
      rw [hn2] at hnb
      refine Or.inr ⟨q, ⟨g1, g2, fun d' u hd' hn' he => ?_⟩, fun z hz => ?_⟩
      · rcases Nat.lt_or_ge d' d with r | r
        · exact g3 d' u r hn' he
        · have : d' = d := by omega
          subst this; rw [hn2] at hn'; cases hn'
      · show f_X11_way_L84 LF (fu + 1) k146 g 73 v1 v2 (nI s) (nI q) (nI d) = z
        unfold f_X11_way_L84
        rw [if_neg n4, if_pos iO_73, hnb, Option.bind_some, if_pos (show oI none < 0 by decide), nI_p1]
        exact hz
    | some u =>
      rw [hn2] at hnb
      have hu := nbF_lt hF hsl hd4 hn2
      have hk := coK_12 F s
      have hDu := hD.1.2.2 u
      have ecmp : (nI (Dd D u) + nI (coK F s) = nI (Dd D s)) ↔ D u + coK F s = D s := by
        unfold Dd
        rw [if_pos hs, nI_add]
        by_cases r : D u < 1000
        · rw [if_pos r]
          exact ⟨fun e => nI_inj (by omega) (by omega) e, fun e => by rw [e]⟩
        · rw [if_neg r]
          exact ⟨fun e => by have := nI_inj (by omega) (by omega) e; omega, fun e => by omega⟩
      by_cases he : D u + coK F s = D s
      · refine Or.inr ⟨min q u, ⟨by omega, ?_, fun d' u' hd' hn' he' => ?_⟩, fun z hz => ?_⟩
        · rcases Nat.lt_or_ge u q with r | r
          · rw [Nat.min_eq_right (by omega)]; exact Or.inr ⟨hu.1, nxP_of hF hsl hd4 hn2 he⟩
          · rw [Nat.min_eq_left r]; exact g2
        · rcases Nat.lt_or_ge d' d with r | r
          · have := g3 d' u' r hn' he'; omega
          · have : d' = d := by omega
            subst this; rw [hn2] at hn'; cases hn'; omega
        · show f_X11_way_L84 LF (fu + 1) k146 g 73 v1 v2 (nI s) (nI q) (nI d) = z
          unfold f_X11_way_L84
          rw [if_neg n4, if_pos iO_73, hnb, Option.bind_some, show oI (some u) = nI u from rfl, if_neg (nI_pos (by omega)), r_73_31 hR, Option.bind_some, iA_88, if_pos (in_nI (by omega) (by decide)), costK_M hF hR hm (by omega), Option.bind_some, Option.bind_some, iA_88, if_pos (in_nI (by omega) (by decide)), nI_clamp (n := u) (by omega), nI_clamp (n := s) (by omega), hd u (by omega), hd s (by omega), if_pos (show dM D u + nI (coK F s) = dM D s from ecmp.mpr he), mnI_n (by omega) (by omega), nI_p1]
          exact hz
      · refine Or.inr ⟨q, ⟨g1, g2, fun d' u' hd' hn' he' => ?_⟩, fun z hz => ?_⟩
        · rcases Nat.lt_or_ge d' d with r | r
          · exact g3 d' u' r hn' he'
          · have : d' = d := by omega
            subst this; rw [hn2] at hn'; cases hn'; exact absurd he' he
        · show f_X11_way_L84 LF (fu + 1) k146 g 73 v1 v2 (nI s) (nI q) (nI d) = z
          unfold f_X11_way_L84
          rw [if_neg n4, if_pos iO_73, hnb, Option.bind_some, show oI (some u) = nI u from rfl, if_neg (nI_pos (by omega)), r_73_31 hR, Option.bind_some, iA_88, if_pos (in_nI (by omega) (by decide)), costK_M hF hR hm (by omega), Option.bind_some, Option.bind_some, iA_88, if_pos (in_nI (by omega) (by decide)), nI_clamp (n := u) (by omega), nI_clamp (n := s) (by omega), hd u (by omega), hd s (by omega), if_neg (show ¬ dM D u + nI (coK F s) = dM D s from fun e => he (ecmp.mp e)), nI_p1]
          exact hz
theorem L72_s {n : Nat} {k158 : eH → Nat → Int32 → Option (eH × Int32)} {h : eH} {v0 : Nat} {v1 v2 v3 : Int32} : f_X11_way_L72 LF (n + 1) k158 h v0 v1 v2 v3 = (if v3 = v2 then k158 h v0 v1 else f_X11_way_L84 LF e_fu (fun (h30 : eH) (w0_31 : Nat) (w1_32 : Int32) (w2_33 : Int32) (w4_34 : Int32) => if isO LF w0_31 11 = true then (f_X11_enters LF h30 w0_31 w4_34.toInt64).bind fun r36 => f_X11_way_L72 LF n k158 r36 w0_31 w1_32 w2_33 w4_34 else none) h v0 v1 v2 v3 36 0) := rfl
theorem way_ML {P : Option (eH × Int32) → Prop} {k158 : eH → Nat → Int32 → Option (eH × Int32)} {h : eH} {X : AX} {B goal : Nat} {D : Nat → Nat} {v1 : Int32} {T : List Int64} (hR : RefsOK h) (hm : MI h X) (ho : okX B X) (hD : isD (xF X) (frA (xF X) (xS X)) goal D) (hg : goal < 36) (y : ∀ g, only mscW h g → (∀ s, s < 36 → gI g 88 s = dM D s) → MW g T → P (k158 g 73 v1)) : ∀ (m fu : Nat) (g : eH) (s : Nat) (l : List Int64), m < fu → only mscW h g → (∀ s, s < 36 → gI g 88 s = dM D s) → MW g l → D s < 1000 → fb_ct (fun k => decide (D k < D s)) 36 ≤ m → l.length + m ≤ 40 → l ++ ptA (xF X) D goal m s = T → P (f_X11_way_L72 LF fu k158 g 73 v1 (nI goal) (nI s)) := by
  have hfrl : ∀ s, frA (xF X) (xS X) s = true → s < nF (xF X) := fun s => frA_k
  have h36 := nF_le ho.1
  intro m
  induction m with
  | zero =>
    intro fu g s l hf o1 o2 o3 o4 o5 o6 o7
    obtain ⟨f, rfl⟩ : ∃ f, fu = f + 1 := ⟨fu - 1, by omega⟩
    have o7 : l ++ [] = T := o7
    rw [List.append_nil] at o7
    have hsg : s = goal := by
      refine Classical.byContradiction fun hn => ?_
      obtain ⟨x1, x2, x3, x4⟩ := nxW_ok ho.1 hfrl hD o4 hn
      have hk := coK_12 (xF X) s
      generalize nxW (xF X) D s = t at x1 x4
      have hp0 : 0 < fb_ct (fun k => decide (D k < D s)) 36 := fb_ct_pos.mpr ⟨t, x1, decide_eq_true (by omega)⟩
      omega
    rw [L72_s, if_pos (by rw [hsg])]
    exact y g o1 o2 (by rw [← o7]; exact o3)
  | succ m ih =>
    intro fu g s l hf o1 o2 o3 o4 o5 o6 o7
    obtain ⟨f, rfl⟩ : ∃ f, fu = f + 1 := ⟨fu - 1, by omega⟩
    have hsl := hfrl s (hD.1.2.1 s o4).1
    unfold ptA at o7
    by_cases hsg : s = goal
    · rw [if_pos hsg, List.append_nil] at o7
      rw [L72_s, if_pos (by rw [hsg])]
      exact y g o1 o2 (by rw [← o7]; exact o3)
    · rw [if_neg hsg] at o7
      obtain ⟨x1, x2, x3, x4⟩ := nxW_ok ho.1 hfrl hD o4 hsg
      have hk := coK_12 (xF X) s
      have hRg := only_refs o1 hR
      have hmg := mW_MF (fun j k a => Or.inl a) o1 hm.1
      rw [L72_s, if_neg (fun e => hsg (nI_inj (by omega) (by omega) e))]
      refine way_M1 ho.1 hfrl hRg hmg hD o2 o4 hsg ?_
      have hct : fb_ct (fun k => decide (D k < D (nxW (xF X) D s))) 36 < fb_ct (fun k => decide (D k < D s)) 36 := ct_lt (fun k _ hk2 => by
        have := of_decide_eq_true hk2
        exact decide_eq_true (by omega)) ⟨nxW (xF X) D s, x1, decide_eq_true (by omega), decide_eq_false (by omega)⟩
      generalize nxW (xF X) D s = t at x1 x4 hct o7
      obtain ⟨g', r1, r2, r3⟩ := rowadd_M hRg o3 (by omega) ((nI t).toInt64)
      show P (if isO LF 73 11 = true then (f_X11_enters LF g 73 (nI t).toInt64).bind fun r36 => f_X11_way_L72 LF f k158 r36 73 v1 (nI goal) (nI t) else none)
      rw [if_pos iO_73, r1, Option.bind_some]
      exact ih f g' t (l ++ [(nI t).toInt64]) (by omega) (only_trans o1 (rowm_w r3)) (fun s hs => (o_I r3 (by omega)).trans (o2 s hs)) r2 (by omega) (by omega) (by rw [List.length_append]; show l.length + 1 + m ≤ 40; omega) (by rw [← o7, List.append_assoc]; rfl)
theorem way_P {B : Nat} {h : eH} {X : AX} (hc : CI h X) (hm : MI h X) (ho : okX B X) (v w : Int32) : PR B (f_X10_way LF h 0 v w) (fun h1 => f_X11_way LF h1 73 v w) := by
  have hfrl : ∀ s, frA (xF X) (xS X) s = true → s < nF (xF X) := fun s => frA_k
  have h36 := nF_le ho.1
  obtain ⟨p, hp⟩ := hc.2.1
  have hM0 : ∀ h1, MI h1 X → MF (sI h1 73 0 0) (xF X) := fun h1 h9 => (MI_scr thr_M h9).1
  rcases spot_cases ho.1 v with ⟨x1, x2⟩ | ⟨a, a1, rfl, x1, x2⟩
  · refine PR_no hc hm ho (r := -1) ?_ (fun h1 hR h9 => ?_)
    · unfold f_X10_way
      rw [if_pos iO_0, hp.2.1, Option.bind_some, if_pos (p_O hp), has_eq hp, x1, Option.bind_some, if_pos rfl]
    · show f_X11_way LF h1 73 v w = _
      unfold f_X11_way
      rw [if_pos iO_73, isSpot_eq (hM0 h1 h9) x2 (Or.inl rfl), Option.bind_some, if_pos rfl]
  · rcases spot_cases ho.1 w with ⟨y1, y2⟩ | ⟨b, b1, rfl, y1, y2⟩
    · refine PR_no hc hm ho (r := -1) ?_ (fun h1 hR h9 => ?_)
      · unfold f_X10_way
        rw [if_pos iO_0, hp.2.1, Option.bind_some, if_pos (p_O hp), has_eq hp, x1, Option.bind_some, if_neg i10, Option.bind_some, if_pos (p_O hp), has_eq hp, y1, Option.bind_some, if_pos rfl]
      · show f_X11_way LF h1 73 (nI a) w = _
        unfold f_X11_way
        rw [if_pos iO_73, isSpot_eq (hM0 h1 h9) x2 (Or.inr rfl), Option.bind_some, if_neg i10, isSpot_eq (hM0 h1 h9) y2 (Or.inl rfl), Option.bind_some, if_pos rfl]
    · obtain ⟨hA, D, m1, m2, m3, m4⟩ := measure_C ho.1 hc.1 hp hfrl (frX hc ho hp) (show b < 36 by omega)
      have oA : only csc h hA := only_mono (fun j k a => by unfold csc; omega) m4
      have hRA := only_refs oA hc.1
      have holdsF : ∀ k, k < 36 → f_X10_holds ((gL h p 4) &&& ((gL h 46 8) ^^^ (-1))) (nI k) = if frA (xF X) (xS X) k then 1 else 0 := fun k hk => by rw [holds_k _ hk, frX hc ho hp]
      have hDa : D a ≤ 1000 := m2.1.2.2 a
      -- the reference's beginning
      have mB : ∀ h1, RefsOK h1 → MI h1 X → ∃ hL, only msc h1 hL ∧ (∀ s, s < 36 → gI hL 88 s = dM D s) ∧ f_X11_way LF h1 73 (nI a) (nI b) = (if frA (xF X) (xS X) a then (if dM D a < 1000000 then (f_X11_enters LF (sI hL 73 1 0) 73 (nI a).toInt64).bind fun r17 => f_X11_way_L72 LF e_fu (fun (h38 : eH) (w0_39 : Nat) (w1_40 : Int32) => if isO LF w0_39 11 = true then (gR h38 w0_39 31).bind fun b42 => if inA LF b42 0 w1_40 = true then some (h38, gI h38 b42 w1_40.toNatClampNeg) else none else none) r17 73 (nI a) (nI b) (nI a) else some (hL, -2)) else some (hL, -2)) := fun h1 hR h9 => by
        have h9' := MI_scr thr_M h9
        have hR0 : RefsOK (sI h1 73 0 0) := refs_sI hR
        obtain ⟨hL, l1, l2, l3⟩ := laysFar_M ho.1 hR0 (Or.inl rfl) h9'.1 h9'.2.2.2.2.1 m2 (show b < 36 by omega)
        have oL : only msc h1 hL := only_trans thr_M (only_mono (fun j k a => by unfold msc; omega) l3)
        have h9L := MI_scr oL h9
        have hRL := only_refs oL hR
        refine ⟨hL, oL, l2, ?_⟩
        unfold f_X11_way
        rw [if_pos iO_73, isSpot_eq h9'.1 x2 (Or.inr rfl), Option.bind_some, if_neg i10, isSpot_eq h9'.1 y2 (Or.inr rfl), Option.bind_some, if_neg i10, r_73_7 hR0, Option.bind_some, l1, Option.bind_some, r_73_7 hRL, Option.bind_some, isFree_k ho.1 hRL (Or.inl rfl) h9L.1 h9L.2.2.2.2.1 (show a < 36 by omega), Option.bind_some]
        by_cases q : frA (xF X) (xS X) a = true
        · rw [if_pos q, if_pos q, if_neg i10, r_73_31 hRL, Option.bind_some, iA_88, if_pos (in_nI (by omega) (by decide)), nI_clamp (by omega), l2 a (by omega)]
        · rw [if_neg q, if_neg q, if_pos rfl]
      have cB : ∀ z, (if frA (xF X) (xS X) a then (if frA (xF X) (xS X) b then (if dC D a = 500 then some (hA, -2) else (gR hA 0 1).bind fun b26 => if isO LF b26 3 = true then (f_X3_begin LF hA b26).bind fun r29 => (gR r29 0 1).bind fun b31 => if isO LF b31 3 = true then (f_X3_add LF r29 b31 (nI a).toInt64).bind fun r34 => f_X10_way_L108 LF e_fu (fun (h57 : eH) (w5_58 : Int32) => some (h57, w5_58)) r34 0 (nI b) (dC D a) (nI a) (dC D a) 0 else none else none) else some (h, -2)) else some (h, -2)) = z → f_X10_way LF h 0 (nI a) (nI b) = z := fun z hz => by
        unfold f_X10_way
        rw [if_pos iO_0, hp.2.1, Option.bind_some, if_pos (p_O hp), has_eq hp, x1, Option.bind_some, if_neg i10, Option.bind_some, if_pos (p_O hp), has_eq hp, y1, Option.bind_some, if_neg i10, free_C hc hp, Option.bind_some, holdsF a (by omega), holdsF b (by omega)]
        by_cases q : frA (xF X) (xS X) a = true
        · rw [if_pos q] at hz
          rw [if_pos q, if_neg i10]
          by_cases r : frA (xF X) (xS X) b = true
          · rw [if_pos r] at hz
            rw [if_pos r, if_neg i10, r_0_4 hc.1, Option.bind_some, Option.bind_some, if_pos iO_38, m1, Option.bind_some, r_0_4 hRA, Option.bind_some, if_pos iO_38, costFrom_C ho.1 hRA hfrl m2 m3 (by omega), Option.bind_some]
            exact hz
          · rw [if_neg r] at hz
            rw [if_neg r, if_pos rfl]; exact hz
        · rw [if_neg q] at hz
          rw [if_neg q, if_pos rfl]; exact hz
      by_cases hok : frA (xF X) (xS X) a = true ∧ D a < 1000
      · have hfb : frA (xF X) (xS X) b = true := by
          refine Classical.byContradiction fun hnb => ?_
          have all : ∀ n s, D s = n → n < 1000 → False := by
            intro n
            induction n using Nat.strongRecOn with
            | ind n ih =>
              intro s hs hn
              obtain ⟨e1, e2⟩ := m2.1.2.1 s (by omega)
              rcases e2 with ⟨e3, -⟩ | ⟨d, u, e3, e4, e5⟩
              · rw [e3] at e1; exact hnb e1
              · have := coK_12 (xF X) s
                exact ih (D u) (by omega) u rfl (by omega)
          exact all (D a) a rfl hok.2
        have hle := ds_le ho.1 hfrl m2.1 hok.2
        have edC : dC D a = nI (D a) := by unfold dC; rw [if_pos hok.2]
        have edM : dM D a = nI (D a) := by unfold dM Dd; rw [if_pos hok.2]
        have hlen := ptA_len (F := xF X) (D := D) (goal := b) 36 a
        refine PR_q hc hm ho (r := nI (D a)) (l := [(nI a).toInt64] ++ ptA (xF X) D b 36 a) (by rw [List.length_append]; show 1 + _ ≤ 37; omega) ?_ (fun h1 hR h9 => ?_)
        · obtain ⟨c1, c2⟩ := rowbeg_C hA
          have hRb : RefsOK (sI hA 3 1 0) := refs_sI hRA
          obtain ⟨h3, r1, r2, r3⟩ := rowadd_C hRb c2 (by decide) ((nI a).toInt64)
          have obb : only (fun j _ => j = 3 ∨ j = 4) hA (sI hA 3 1 0) := only_sI (Or.inl rfl)
          have o3 := only_trans obb r3
          have key : ∃ h1, f_X10_way_L108 LF e_fu (fun (h57 : eH) (w5_58 : Int32) => some (h57, w5_58)) h3 0 (nI b) (nI (D a)) (nI a) (nI (D a)) 0 = some (h1, nI (D a)) ∧ CW h1 ([(nI a).toInt64] ++ ptA (xF X) D b 36 a) ∧ only cscW h h1 := way_CL (P := fun r => ∃ h1, r = some (h1, nI (D a)) ∧ CW h1 ([(nI a).toInt64] ++ ptA (xF X) D b 36 a) ∧ only cscW h h1) hc ho hp m2 (by omega) hok.2 (only_trans (csc_w oA) (row_w o3)) (byD_only o3 (fun j k a => by omega) m3) r2 (fun g og hg => ⟨g, rfl, hg, og⟩)
          obtain ⟨hZ, z1, z2, z3⟩ := key
          refine ⟨hZ, cB _ ?_, z2, z3⟩
          rw [if_pos hok.1, if_pos hfb, edC, if_neg (fun e => by have := nI_inj (by omega) (show (500 : Nat) < 2 ^ 31 by decide) e; omega), r_0_1 hRA, Option.bind_some, if_pos iO_3, c1, Option.bind_some, r_0_1 hRb, Option.bind_some, if_pos iO_3, r1, Option.bind_some]
          exact z1
        · obtain ⟨hL, oL, l2, e⟩ := mB h1 hR h9
          have hRL := only_refs oL hR
          have hRb : RefsOK (sI hL 73 1 0) := refs_sI hRL
          obtain ⟨h3, r1, r2, r3⟩ := rowadd_M hRb (rowbeg_M hL) (by decide) ((nI a).toInt64)
          have obb : only (fun j k => (j = 73 ∧ k = 1) ∨ j = 74) hL (sI hL 73 1 0) := only_sI (Or.inl ⟨rfl, rfl⟩)
          have o3 := only_trans obb r3
          show ∃ h2, f_X11_way LF h1 73 (nI a) (nI b) = _ ∧ _
          rw [e, if_pos hok.1, edM, if_pos (show nI (D a) < 1000000 from nI_lt (b := 1000000) (by omega) (by decide)), r1, Option.bind_some]
          refine way_ML (P := fun r => ∃ h2, r = some (h2, nI (D a)) ∧ MW h2 ([(nI a).toInt64] ++ ptA (xF X) D b 36 a) ∧ only mscW h1 h2) hR h9 ho m2 (by omega) (fun g og hd hg => ⟨g, ?_, hg, og⟩) 36 e_fu h3 a [(nI a).toInt64] (by unfold e_fu; omega) (only_trans (msc_w oL) (rowm_w o3)) (fun s hs => (o_I o3 (by omega)).trans (l2 s hs)) r2 hok.2 (fb_ct_le _ 36) (by show 1 + 36 ≤ 40; omega) rfl
          rw [if_pos iO_73, r_73_31 (only_refs og hR), Option.bind_some, iA_88, if_pos (in_nI (by omega) (by decide)), nI_clamp (by omega), hd a (by omega), edM]
      · refine PR_s hc hm ho (r := -2) ?_ (fun h1 hR h9 => ?_)
        · by_cases q : frA (xF X) (xS X) a = true
          · have hDa2 : ¬ D a < 1000 := fun e => hok ⟨q, e⟩
            by_cases r : frA (xF X) (xS X) b = true
            · refine ⟨hA, cB _ ?_, oA⟩
              rw [if_pos q, if_pos r, if_pos (by unfold dC; rw [if_neg hDa2])]
            · refine ⟨h, cB _ ?_, only_rfl⟩
              rw [if_pos q, if_neg r]
          · refine ⟨h, cB _ ?_, only_rfl⟩
            rw [if_neg q]
        · obtain ⟨hL, oL, l2, e⟩ := mB h1 hR h9
          refine ⟨hL, ?_, oL⟩
          show f_X11_way LF h1 73 (nI a) (nI b) = _
          rw [e]
          by_cases q : frA (xF X) (xS X) a = true
          · have hDa2 : ¬ D a < 1000 := fun e => hok ⟨q, e⟩
            rw [if_pos q, if_neg (by unfold dM Dd; rw [if_neg hDa2]; decide)]
          · rw [if_neg q]

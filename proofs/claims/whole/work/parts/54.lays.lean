/-! How far it is, in the reference. -/
def Dd (D : Nat → Nat) (s : Nat) : Nat := if D s < 1000 then D s else 1000000
def vOK (fr : Nat → Bool) (goal : Nat) (D V : Nat → Nat) : Prop := (∀ s, s < 36 → Dd D s ≤ V s ∧ V s ≤ 1000000) ∧ (fr goal = true → V goal = 0)
def vAr (g : eH) (V : Nat → Nat) : Prop := ∀ s, s < 36 → gI g 88 s = nI (V s)
theorem lays_1 {P : Option eH → Prop} {k148 : eH → Nat → Nat → Int32 → Int32 → Option eH} {h g0 : eH} {a s : Nat} {F : FV} {S : Nat → Int32} {goal : Nat} {D V : Nat → Nat} {v : Int32} (hF : okF F) (hR : RefsOK h) (ha : a = 76 ∨ a = 77) (hm : MF h F) (hS : MS h a 0 S) (hD : isD F (frA F S) goal D) (hs : s < nF F) (og : only (fun j _ => j = 88) h g0) (hA : vAr g0 V) (hV : vOK (frA F S) goal D V)
    (y : ∀ g x c, only (fun j _ => j = 88) h g → vAr g (fun k => if k = s then x else V k) → x ≤ V s → Dd D s ≤ x → (frA F S s = true → ∀ d u, d < 4 → nbF F s d = some u → x ≤ V u + coK F s) → ((c = v ∧ x = V s) ∨ (c = 1 ∧ x < V s)) → P (k148 g 73 a c (nI s))) : P (f_X11_laysFar_L64 LF e_fu k148 g0 73 a v (nI s) 0) := by
  have h36 := nF_le hF
  have hfrl : ∀ s, frA F S s = true → s < nF F := fun s => frA_k
  have ini : vAr g0 (fun k => if k = s then V s else V k) := fun k hk => by
    rw [hA k hk]
    by_cases q : k = s
    · subst q; simp
    · simp [q]
  have fre : ∀ g, only (fun j _ => j = 88) h g → f_X11_isFree LF g 73 a (nI s) = some (if frA F S s then 1 else 0) := fun g o => isFree_k hF (only_refs o hR) ha (MF_only o (fun k _ => by omega) (fun k => by omega) hm) (MS_only o (fun k => by omega) hS) (by omega)
  by_cases hfs : frA F S s = true
  · refine lpF (N := 4) (s := (g0, V s, v)) (run := fun fu (q : eH × Nat × Int32) d => f_X11_laysFar_L64 LF fu k148 q.1 73 a q.2.2 (nI s) (nI d)) (Inv := fun d q => only (fun j _ => j = 88) h q.1 ∧ vAr q.1 (fun k => if k = s then q.2.1 else V k) ∧ q.2.1 ≤ V s ∧ Dd D s ≤ q.2.1 ∧ (∀ d' u, d' < d → nbF F s d' = some u → q.2.1 ≤ V u + coK F s) ∧ ((q.2.2 = v ∧ q.2.1 = V s) ∨ (q.2.2 = 1 ∧ q.2.1 < V s))) (Post := P) (by decide) ⟨og, ini, Nat.le_refl _, (hV.1 s (by omega)).1, fun d' u hd => absurd hd (Nat.not_lt_zero _), Or.inl ⟨rfl, rfl⟩⟩ ?_ ?_
    · rintro fu ⟨g, x, c⟩ ⟨g1, g2, g3, g4, g5, g6⟩
      show P (f_X11_laysFar_L64 LF (fu + 1) k148 g 73 a c (nI s) (nI 4))
      unfold f_X11_laysFar_L64
      rw [if_pos (by decide)]
      exact y g x c g1 g2 g3 g4 (fun _ d u hd hn => g5 d u hd hn) g6
    · rintro d fu ⟨g, x, c⟩ hd ⟨g1, g2, g3, g4, g5, g6⟩
      have g1 : only (fun j _ => j = 88) h g := g1
      have g2 : vAr g (fun k => if k = s then x else V k) := g2
      have g3 : x ≤ V s := g3
      have g4 : Dd D s ≤ x := g4
      have g5 : ∀ d' u, d' < d → nbF F s d' = some u → x ≤ V u + coK F s := g5
      have g6 : (c = v ∧ x = V s) ∨ (c = 1 ∧ x < V s) := g6
      have n4 : ¬ (4 : Int32) ≤ nI d := nI_ge (b := 4) hd (by decide)
      have hRg := only_refs g1 hR
      have hmg := MF_only g1 (fun k _ => by omega) (fun k => by omega) hm
      have hfi := fre g g1
      rw [if_pos hfs] at hfi
      have hnb := beside_nb hF hmg s d
      rw [nb_eq hF hs hd] at hnb
      have hco := costK_M hF hRg hmg (show s < 36 by omega)
      have hk := coK_12 F s
      have gs : gI g 88 s = nI x := by rw [g2 s (by omega)]; simp
      have hvs := (hV.1 s (by omega)).2
      cases hn : nbF F s d with
      | none =>
        rw [hn] at hnb
        refine Or.inr ⟨(g, x, c), ⟨g1, g2, g3, g4, fun d' u hd' hn' => ?_, g6⟩, fun z hz => ?_⟩
        · rcases Nat.lt_or_ge d' d with q | q
          · exact g5 d' u q hn'
          · have : d' = d := by omega
            subst this; rw [hn] at hn'; cases hn'
        · show f_X11_laysFar_L64 LF (fu + 1) k148 g 73 a c (nI s) (nI d) = z
          unfold f_X11_laysFar_L64
          rw [if_neg n4, if_pos iO_73, hfi, Option.bind_some, if_neg i10, hnb, Option.bind_some, if_pos (show oI none < 0 by decide), nI_p1]
          exact hz
      | some u =>
        rw [hn] at hnb
        obtain ⟨hu1, -, hus⟩ := nbF_lt hF hs hd hn
        have gu : gI g 88 u = nI (V u) := by rw [g2 u (by omega)]; simp [hus]
        have hvu := hV.1 u (by omega)
        by_cases hle : x ≤ V u + coK F s
        · refine Or.inr ⟨(g, x, c), ⟨g1, g2, g3, g4, fun d' u' hd' hn' => ?_, g6⟩, fun z hz => ?_⟩
          · rcases Nat.lt_or_ge d' d with q | q
            · exact g5 d' u' q hn'
            · have : d' = d := by omega
              subst this; rw [hn] at hn'; cases hn'; exact hle
          · show f_X11_laysFar_L64 LF (fu + 1) k148 g 73 a c (nI s) (nI d) = z
            unfold f_X11_laysFar_L64
            rw [if_neg n4, if_pos iO_73, hfi, Option.bind_some, if_neg i10, hnb, Option.bind_some, show oI (some u) = nI u from rfl, if_neg (nI_pos (by omega)), r_73_31 hRg, Option.bind_some, iA_88, if_pos (in_nI (by omega) (by decide)), hco, Option.bind_some, Option.bind_some, iA_88, if_pos (in_nI (by omega) (by decide)), nI_clamp (n := s) (by omega), nI_clamp (n := u) (by omega), gs, gu, nI_add, if_pos (nI_le hle (by omega)), nI_p1]
            exact hz
        · have hge : Dd D s ≤ V u + coK F s := by
            unfold Dd at hvu ⊢
            by_cases hDu : D u < 1000
            · rw [if_pos hDu] at hvu
              have := hD.2 s d u hfs hd hn hDu
              rw [if_pos (by have := ds_le hF hfrl hD.1 hDu; omega)]; omega
            · rw [if_neg hDu] at hvu; omega
          have g2' : vAr (sI g 88 s (nI (V u + coK F s))) (fun k => if k = s then V u + coK F s else V k) := fun k hk2 => by
            rw [gI_sI]
            by_cases q : k = s
            · rw [if_pos ⟨rfl, q⟩]; simp [q]
            · rw [if_neg (by omega), g2 k hk2]; simp [q]
          refine Or.inr ⟨(sI g 88 s (nI (V u + coK F s)), V u + coK F s, 1), ⟨only_trans g1 (only_sI rfl), g2', by show V u + coK F s ≤ V s; omega, hge, fun d' u' hd' hn' => ?_, Or.inr ⟨rfl, by show V u + coK F s < V s; omega⟩⟩, fun z hz => ?_⟩
          · show V u + coK F s ≤ V u' + coK F s
            rcases Nat.lt_or_ge d' d with q | q
            · have := g5 d' u' q hn'; omega
            · have : d' = d := by omega
              subst this; rw [hn] at hn'; cases hn'; exact Nat.le_refl _
          · show f_X11_laysFar_L64 LF (fu + 1) k148 g 73 a c (nI s) (nI d) = z
            unfold f_X11_laysFar_L64
            rw [if_neg n4, if_pos iO_73, hfi, Option.bind_some, if_neg i10, hnb, Option.bind_some, show oI (some u) = nI u from rfl, if_neg (nI_pos (by omega)), r_73_31 hRg, Option.bind_some, iA_88, if_pos (in_nI (by omega) (by decide)), hco, Option.bind_some, Option.bind_some, iA_88, if_pos (in_nI (by omega) (by decide)), nI_clamp (n := s) (by omega), nI_clamp (n := u) (by omega), gs, gu, nI_add, if_neg (nI_ge (by omega) (by omega)), Option.bind_some, Option.bind_some, iA_88, if_pos (in_nI (show u < 36 by omega) (by decide)), Option.bind_some, iA_88, if_pos (in_nI (show s < 36 by omega) (by decide)), gu, nI_add, Option.bind_some, nI_p1]
            exact hz
  · obtain ⟨fu, hfu⟩ := fu_s 0 (by decide)
    have hfi := fre g0 og
    rw [if_neg hfs] at hfi
    rw [hfu]
    unfold f_X11_laysFar_L64
    rw [if_neg (by decide), if_pos iO_73, hfi, Option.bind_some, if_pos rfl]
    exact y g0 (V s) v og ini (Nat.le_refl _) (hV.1 s (by omega)).1 (fun q => absurd q hfs) (Or.inl ⟨rfl, rfl⟩)
def vFix (F : FV) (fr : Nat → Bool) (n : Nat) (V : Nat → Nat) : Prop := ∀ s d u, s < n → fr s = true → d < 4 → nbF F s d = some u → V s ≤ V u + coK F s
theorem lays_2 {P : Option eH → Prop} {k154 : eH → Nat → Nat → Int32 → Option eH} {h g0 : eH} {a : Nat} {F : FV} {S : Nat → Int32} {goal : Nat} {D V : Nat → Nat} (hF : okF F) (hR : RefsOK h) (ha : a = 76 ∨ a = 77) (hm : MF h F) (hS : MS h a 0 S) (hD : isD F (frA F S) goal D) (og : only (fun j _ => j = 88) h g0) (hA : vAr g0 V) (hV : vOK (frA F S) goal D V)
    (y : ∀ g V' c, only (fun j _ => j = 88) h g → vAr g V' → vOK (frA F S) goal D V' → ((c = 0 ∧ vFix F (frA F S) (nF F) V') ∨ (c = 1 ∧ ∃ s, s < 36 ∧ V' s < V s)) → (∀ k, k < 500 → (∀ s, s < 36 → D s ≤ k → V s = D s) → ∀ s, s < 36 → D s ≤ k + 1 → V' s = D s) → P (k154 g 73 a c)) : P (f_X11_laysFar_L52 LF e_fu k154 g0 73 a 0 0) := by
  have h36 := nF_le hF
  have hfrl : ∀ s, frA F S s = true → s < nF F := fun s => frA_k
  have main : ∀ (m i fu : Nat) (g : eH) (W : Nat → Nat) (c : Int32), i + m = nF F → m < fu → only (fun j _ => j = 88) h g → vAr g W → vOK (frA F S) goal D W → (∀ s, s < 36 → W s ≤ V s) → ((c = 0 ∧ (∀ s, s < 36 → W s = V s) ∧ vFix F (frA F S) i W) ∨ (c = 1 ∧ ∃ s, s < 36 ∧ W s < V s)) → (∀ k, k < 500 → (∀ s, s < 36 → D s ≤ k → V s = D s) → ∀ s, s < i → D s ≤ k + 1 → W s = D s) → P (f_X11_laysFar_L52 LF fu k154 g 73 a c (nI i)) := by
    intro m
    induction m with
    | zero =>
      intro i fu g W c hi hf o1 o2 o3 o4 o5 o6
      obtain ⟨f, rfl⟩ : ∃ f, fu = f + 1 := ⟨fu - 1, by omega⟩
      have hmg := MF_only o1 (fun k _ => by omega) (fun k => by omega) hm
      have : i = nF F := by omega
      subst this
      unfold f_X11_laysFar_L52
      rw [if_pos iO_73, spots_M hmg, Option.bind_some, if_pos (nI_le (Nat.le_refl _) (by omega))]
      refine y g W c o1 o2 o3 (o5.elim (fun q => Or.inl ⟨q.1, q.2.2⟩) Or.inr) (fun k hk hV2 s hs hsd => ?_)
      rcases Nat.lt_or_ge s (nF F) with q | q
      · exact o6 k hk hV2 s q hsd
      · have := hfrl s (hD.1.2.1 s (by omega)).1
        omega
    | succ m ih =>
      intro i fu g W c hi hf o1 o2 o3 o4 o5 o6
      obtain ⟨f, rfl⟩ : ∃ f, fu = f + 1 := ⟨fu - 1, by omega⟩
      have hmg := MF_only o1 (fun k _ => by omega) (fun k => by omega) hm
      unfold f_X11_laysFar_L52
      rw [if_pos iO_73, spots_M hmg, Option.bind_some, if_neg (nI_ge (by omega) (by omega))]
      refine lays_1 hF hR ha hm hS hD (show i < nF F by omega) o1 o2 o3 (fun g' x c' p1 p2 p3 p4 p5 p6 => ?_)
      show P (f_X11_laysFar_L52 LF f k154 g' 73 a c' (nI i + Int32.ofInt 1))
      rw [nI_p1]
      obtain ⟨W', hW'⟩ : ∃ W' : Nat → Nat, W' = fun k => if k = i then x else W k := ⟨_, rfl⟩
      have wi : W' i = x := by rw [hW']; simp
      have wn : ∀ k, k ≠ i → W' k = W k := fun k hk => by rw [hW']; simp [hk]
      rw [← hW'] at p2
      refine ih (i + 1) f g' W' c' (by omega) (by omega) p1 p2 ⟨fun s hs => ?_, fun hg => ?_⟩ (fun s hs => ?_) ?_ (fun k hk hV2 s hs hsd => ?_)
      · by_cases q : s = i
        · subst q; rw [wi]; have := (o3.1 s hs).2; omega
        · rw [wn s q]; exact o3.1 s hs
      · by_cases q : goal = i
        · have := o3.2 hg
          rw [q] at this ⊢
          rw [wi]; omega
        · rw [wn goal q]; exact o3.2 hg
      · by_cases q : s = i
        · subst q; rw [wi]; have := o4 s hs; omega
        · rw [wn s q]; exact o4 s hs
      · rcases p6 with ⟨c1, c2⟩ | ⟨c1, c2⟩
        · have same : ∀ k, W' k = W k := fun k => by
            by_cases q : k = i
            · subst q; rw [wi, c2]
            · exact wn k q
          rcases o5 with ⟨d1, d2, d3⟩ | ⟨d1, s, d2, d3⟩
          · refine Or.inl ⟨c1.trans d1, fun s hs => by rw [same]; exact d2 s hs, fun s d u hs hfs hd hn => ?_⟩
            rw [same, same]
            rcases Nat.lt_or_ge s i with q | q
            · exact d3 s d u q hfs hd hn
            · have : s = i := by omega
              subst this
              rw [← c2]; exact p5 hfs d u hd hn
          · exact Or.inr ⟨c1.trans d1, s, d2, by rw [same]; exact d3⟩
        · exact Or.inr ⟨c1, i, by omega, by rw [wi]; have := o4 i (by omega); omega⟩
      · have hWD : ∀ s, s < 36 → D s < 1000 → D s ≤ W s := fun s hs h1 => by
          have := (o3.1 s hs).1
          unfold Dd at this
          rw [if_pos h1] at this; exact this
        by_cases q : s = i
        · subst q
          rw [wi]
          have hx1 : D s ≤ x := by unfold Dd at p4; rw [if_pos (by omega)] at p4; exact p4
          obtain ⟨e1, e2⟩ := hD.1.2.1 s (by omega)
          have hx2 : x ≤ D s := by
            rcases e2 with ⟨-, e3⟩ | ⟨d, u, e3, e4, e5⟩
            · have h1 := hV2 s (by omega) (by omega)
              have h2 := o4 s (by omega)
              omega
            · have hk12 := coK_12 F s
              have hu := nbF_lt hF (show s < nF F by omega) e3 e4
              have h1 := hV2 u (by omega) (by omega)
              have h2 := o4 u (by omega)
              have h3 := p5 e1 d u e3 e4
              omega
          omega
        · rw [wn s q]; exact o6 k hk hV2 s (by omega) hsd
  exact main (nF F) 0 e_fu g0 V 0 (by omega) (by unfold e_fu; omega) og hA hV (fun _ _ => Nat.le_refl _) (Or.inl ⟨rfl, fun _ _ => rfl, fun s d u hs => absurd hs (Nat.not_lt_zero s)⟩) (fun k _ _ s hs => absurd hs (Nat.not_lt_zero s))
theorem L43_s {h : eH} {fu : Nat} {k157 : eH → Option eH} {v0 v1 : Nat} {v3 : Int32} : f_X11_laysFar_L43 LF (fu + 1) k157 h v0 v1 v3 = (if v3 = 0 then k157 h else f_X11_laysFar_L52 LF e_fu (fun (h43 : eH) (w0_44 : Nat) (w1_45 : Nat) (w3_46 : Int32) => f_X11_laysFar_L43 LF fu k157 h43 w0_44 w1_45 w3_46) h v0 v1 0 0) := rfl
/-- as the reference tells it -/
def dM (D : Nat → Nat) (s : Nat) : Int32 := nI (Dd D s)
theorem vFix_D {F : FV} {fr : Nat → Bool} {goal : Nat} {D V : Nat → Nat} (hF : okF F) (hfr : ∀ s, fr s = true → s < nF F) (hD : isD F fr goal D) (hV : vOK fr goal D V) (hx : vFix F fr (nF F) V) : ∀ s, s < 36 → V s = Dd D s := by
  have h36 := nF_le hF
  have key : ∀ n s, s < 36 → D s = n → n < 1000 → V s ≤ n := by
    intro n
    induction n using Nat.strongRecOn with
    | ind n ih =>
      intro s hs hn hl
      obtain ⟨e1, e2⟩ := hD.1.2.1 s (by omega)
      rcases e2 with ⟨e3, e4⟩ | ⟨d, u, e3, e4, e5⟩
      · subst e3; have := hV.2 e1; omega
      · have hk := coK_12 F s
        have hs2 := hfr s e1
        have hu := nbF_lt hF hs2 e3 e4
        have h1 := ih (D u) (by omega) u (by omega) rfl (by omega)
        have h2 := hx s d u hs2 e1 e3 e4
        omega
  intro s hs
  have h1 := hV.1 s hs
  unfold Dd at h1 ⊢
  by_cases q : D s < 1000
  · rw [if_pos q] at h1 ⊢; have := key (D s) s hs rfl q; omega
  · rw [if_neg q] at h1 ⊢; omega
theorem laysFar_M {h : eH} {a : Nat} {F : FV} {S : Nat → Int32} {goal : Nat} {D : Nat → Nat} (hF : okF F) (hR : RefsOK h) (ha : a = 76 ∨ a = 77) (hm : MF h F) (hS : MS h a 0 S) (hD : isD F (frA F S) goal D) (hg : goal < 36) : ∃ h', f_X11_laysFar LF h 73 a (nI goal) = some h' ∧ (∀ s, s < 36 → gI h' 88 s = dM D s) ∧ only (fun j _ => j = 88) h h' := by
  have h36 := nF_le hF
  have hfrl : ∀ s, frA F S s = true → s < nF F := fun s => frA_k
  obtain ⟨V0, hV0⟩ : ∃ V0 : Nat → Nat, V0 = fun k => if k = goal ∧ frA F S goal = true then 0 else 1000000 := ⟨_, rfl⟩
  have D0 : ∀ s, D s = 0 → s = goal ∧ frA F S goal = true := fun s hs => by
    obtain ⟨e1, e2⟩ := hD.1.2.1 s (by omega)
    rcases e2 with ⟨e3, e4⟩ | ⟨d, u, e3, e4, e5⟩
    · exact ⟨e3, by rw [← e3]; exact e1⟩
    · have := coK_12 F s; omega
  have ok0 : vOK (frA F S) goal D V0 := by
    refine ⟨fun s hs => ?_, fun hf => by rw [hV0]; simp [hf]⟩
    unfold Dd
    rw [hV0]
    by_cases q : s = goal ∧ frA F S goal = true
    · have : D s = 0 := by rw [q.1]; exact hD.1.1 q.2
      simp [q]; rw [← q.1, this]; simp
    · simp only [q, if_false]; split <;> omega
  unfold f_X11_laysFar
  refine lpF (N := 36) (s := h) (run := fun fu (g : eH) i => f_X11_laysFar_L2 LF fu (fun (h9 : eH) (w0_10 : Nat) (w1_11 : Nat) => f_X11_laysFar_L43 LF e_fu (fun (h47 : eH) => some h47) h9 w0_10 w1_11 1) g 73 a (nI goal) (nI i)) (Inv := fun i g => only (fun j _ => j = 88) h g ∧ ∀ s, s < i → gI g 88 s = nI (V0 s)) (Post := fun r => ∃ h', r = some h' ∧ (∀ s, s < 36 → gI h' 88 s = dM D s) ∧ only (fun j _ => j = 88) h h') (by decide) ⟨only_rfl, fun s hs => absurd hs (Nat.not_lt_zero s)⟩ ?_ ?_
  · rintro fu g ⟨g1, g2⟩
    show ∃ h', f_X11_laysFar_L2 LF (fu + 1) _ g 73 a (nI goal) (nI 36) = some h' ∧ _
    unfold f_X11_laysFar_L2
    rw [if_pos (by decide)]
    show ∃ h', f_X11_laysFar_L43 LF e_fu (fun (h47 : eH) => some h47) g 73 a 1 = some h' ∧ _
    refine lpW (run := fun fu (q : eH × (Nat → Nat) × Int32) => f_X11_laysFar_L43 LF fu (fun (h47 : eH) => some h47) q.1 73 a q.2.2) (Inv := fun m q => only (fun j _ => j = 88) h q.1 ∧ vAr q.1 q.2.1 ∧ vOK (frA F S) goal D q.2.1 ∧ ((q.2.2 = 0 ∧ vFix F (frA F S) (nF F) q.2.1) ∨ (q.2.2 = 1 ∧ ∃ k, k ≤ 72 ∧ 100 ≤ m + k ∧ ∀ s, s < 36 → D s ≤ k → q.2.1 s = D s))) (Post := fun r => ∃ h', r = some h' ∧ (∀ s, s < 36 → gI h' 88 s = dM D s) ∧ only (fun j _ => j = 88) h h') ?_ 100 e_fu (g, V0, 1) (by unfold e_fu; omega) ⟨g1, g2, ok0, Or.inr ⟨rfl, 0, by omega, by omega, fun s hs hd => ?_⟩⟩
    · rintro m fu ⟨q, V, c⟩ ⟨q1, q2, q3, q4⟩
      have q1 : only (fun j _ => j = 88) h q := q1
      have q2 : vAr q V := q2
      have q3 : vOK (frA F S) goal D V := q3
      rcases q4 with ⟨c0, fx⟩ | ⟨c1, k, k1, k2, k3⟩
      · have c0 : c = 0 := c0
        subst c0
        refine Or.inl ⟨q, ?_, fun s hs => ?_, q1⟩
        · show f_X11_laysFar_L43 LF (fu + 1) _ q 73 a 0 = _
          rw [L43_s, if_pos rfl]
        · rw [q2 s hs, vFix_D hF hfrl hD q3 fx s hs]; rfl
      · have c1 : c = 1 := c1
        subst c1
        have k3 : ∀ s, s < 36 → D s ≤ k → V s = D s := k3
        have key : ∃ (q' : eH) (V' : Nat → Nat) (c' : Int32) (m' : Nat), m' < m ∧ (only (fun j _ => j = 88) h q' ∧ vAr q' V' ∧ vOK (frA F S) goal D V' ∧ ((c' = 0 ∧ vFix F (frA F S) (nF F) V') ∨ (c' = 1 ∧ ∃ k, k ≤ 72 ∧ 100 ≤ m' + k ∧ ∀ s, s < 36 → D s ≤ k → V' s = D s))) ∧ ∀ z, f_X11_laysFar_L43 LF fu (fun (h47 : eH) => some h47) q' 73 a c' = z → f_X11_laysFar_L43 LF (fu + 1) (fun (h47 : eH) => some h47) q 73 a 1 = z := by
          rw [L43_s, if_neg i10]
          refine lays_2 (P := fun r => ∃ (q' : eH) (V' : Nat → Nat) (c' : Int32) (m' : Nat), m' < m ∧ (only (fun j _ => j = 88) h q' ∧ vAr q' V' ∧ vOK (frA F S) goal D V' ∧ ((c' = 0 ∧ vFix F (frA F S) (nF F) V') ∨ (c' = 1 ∧ ∃ k, k ≤ 72 ∧ 100 ≤ m' + k ∧ ∀ s, s < 36 → D s ≤ k → V' s = D s))) ∧ ∀ z, f_X11_laysFar_L43 LF fu (fun (h47 : eH) => some h47) q' 73 a c' = z → r = z) hF hR ha hm hS hD q1 q2 q3 (fun q' V' c' p1 p2 p3 p4 p5 => ?_)
          refine ⟨q', V', c', m - 1, by omega, ⟨p1, p2, p3, ?_⟩, fun z hz => hz⟩
          rcases p4 with p4 | ⟨p4, s, p6, p7⟩
          · exact Or.inl p4
          · refine Or.inr ⟨p4, k + 1, ?_, by omega, p5 k (by omega) k3⟩
            have p7 : V' s < V s := p7
            have hb := (p3.1 s p6).1
            have hb2 := (q3.1 s p6).2
            unfold Dd at hb
            by_cases hDs : D s < 1000
            · rw [if_pos hDs] at hb
              have := ds_le hF hfrl hD.1 hDs
              have hn : ¬ D s ≤ k := fun q => by have := k3 s p6 q; omega
              omega
            · rw [if_neg hDs] at hb; omega
        obtain ⟨q', V', c', m', n1, n2, n3⟩ := key
        exact Or.inr ⟨(q', V', c'), m', n1, n2, n3⟩
    · have hd : D s ≤ 0 := hd
      show V0 s = D s
      rw [hV0]
      have := D0 s (by omega)
      simp [this]
      have h1 : D s = 0 := by omega
      rw [← this.1, h1]
  · rintro i fu g hi ⟨g1, g2⟩
    have hRg := only_refs g1 hR
    have hmg := MF_only g1 (fun k _ => by omega) (fun k => by omega) hm
    have hSg : MS g a 0 S := MS_only g1 (fun k => by omega) hS
    refine Or.inr ⟨sI g 88 i (nI (V0 i)), ⟨only_trans g1 (only_sI rfl), fun s hs => ?_⟩, fun z hz => ?_⟩
    · rw [gI_sI]
      by_cases q : s = i
      · rw [if_pos ⟨rfl, q⟩, q]
      · rw [if_neg (by omega)]; exact g2 s (by omega)
    · show f_X11_laysFar_L2 LF (fu + 1) _ g 73 a (nI goal) (nI i) = z
      unfold f_X11_laysFar_L2
      rw [if_neg (show ¬ (36 : Int32) ≤ nI i from nI_ge (b := 36) hi (by decide)), if_pos iO_73, r_73_31 hRg, Option.bind_some]
      by_cases q : i = goal
      · subst q
        rw [if_pos rfl, isFree_k hF hRg ha hmg hSg hi, Option.bind_some]
        by_cases hf : frA F S i = true
        · have e : V0 i = 0 := by rw [hV0]; simp [hf]
          rw [e] at hz
          rw [if_pos hf, if_neg i10, iA_88, if_pos (in_nI hi (by decide)), nI_clamp (by omega), nI_p1]
          exact hz
        · have e : V0 i = 1000000 := by rw [hV0]; simp [hf]
          rw [e] at hz
          rw [if_neg hf, if_pos rfl, iA_88, if_pos (in_nI hi (by decide)), nI_clamp (by omega), nI_p1]
          exact hz
      · have e : V0 i = 1000000 := by rw [hV0]; simp [q]
        rw [e] at hz
        rw [if_neg (fun e2 => q (nI_inj (by omega) (by omega) e2)), iA_88, if_pos (in_nI hi (by decide)), nI_clamp (by omega), nI_p1]
        exact hz

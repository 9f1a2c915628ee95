/-! How far it is: the class's rows by cost, the reference's numbers; both are one function D. -/
def coK (F : FV) (s : Nat) : Nat := if kF F s = 2 then 2 else 1
theorem coK_12 (F : FV) (s : Nat) : coK F s = 1 ∨ coK F s = 2 := by unfold coK; split <;> omega
theorem costK_C {h : eH} {p s : Nat} {F : FV} (hc : CF h p F) (hs : s < 36) : f_X2_costFrom LF h p (nI s) = some (nI (coK F s)) := by
  have := cost_C (S := fun _ => nI s) hc hs rfl
  unfold coA at this
  rw [nI_clamp (by omega)] at this
  exact this
theorem costK_M {h : eH} {s : Nat} {F : FV} (hF : okF F) (hR : RefsOK h) (hm : MF h F) (hs : s < 36) : f_X11_costOf LF h 73 (nI s) = some (nI (coK F s)) := by
  have := cost_M (S := fun _ => nI s) hF hR hm hs rfl
  unfold coA at this
  rw [nI_clamp (by omega)] at this
  exact this
def dsB (F : FV) (fr : Nat → Bool) (goal : Nat) (D : Nat → Nat) : Prop := (fr goal = true → D goal = 0) ∧ (∀ s, D s < 1000 → fr s = true ∧ ((s = goal ∧ D s = 0) ∨ ∃ d u, d < 4 ∧ nbF F s d = some u ∧ D u + coK F s = D s)) ∧ ∀ s, D s ≤ 1000
def isD (F : FV) (fr : Nat → Bool) (goal : Nat) (D : Nat → Nat) : Prop := dsB F fr goal D ∧ ∀ s d u, fr s = true → d < 4 → nbF F s d = some u → D u < 1000 → D s ≤ D u + coK F s
theorem ds_ct {F : FV} {fr : Nat → Bool} {goal : Nat} {D : Nat → Nat} (hF : okF F) (hfr : ∀ s, fr s = true → s < nF F) (hD : dsB F fr goal D) : ∀ (c s : Nat), D s = c → c < 1000 → c / 2 + 1 ≤ fb_ct (fun k => decide (D k ≤ c)) 36 := by
  have h36 := nF_le hF
  intro c
  induction c using Nat.strongRecOn with
  | ind c ih =>
    intro s hs hc
    obtain ⟨d1, d2⟩ := hD.2.1 s (by omega)
    have hsl := hfr s d1
    rcases d2 with ⟨e1, e2⟩ | ⟨d, u, e1, e2, e3⟩
    · have : c = 0 := by omega
      subst this
      exact fb_ct_pos.mpr ⟨s, by omega, decide_eq_true (by omega)⟩
    · have hk := coK_12 F s
      have := ih (D u) (by omega) u rfl (by omega)
      have hl : fb_ct (fun k => decide (D k ≤ D u)) 36 < fb_ct (fun k => decide (D k ≤ c)) 36 := ct_lt (fun k _ hk => by
        have := of_decide_eq_true hk
        exact decide_eq_true (by omega)) ⟨s, by omega, decide_eq_true (by omega), decide_eq_false (by omega)⟩
      omega
theorem ds_le {F : FV} {fr : Nat → Bool} {goal : Nat} {D : Nat → Nat} (hF : okF F) (hfr : ∀ s, fr s = true → s < nF F) (hD : dsB F fr goal D) {s : Nat} (hs : D s < 1000) : D s ≤ 71 := by
  have h1 := ds_ct hF hfr hD (D s) s rfl hs
  have h2 := fb_ct_le (fun k => decide (D k ≤ D s)) 36
  omega
/-- the next bucket's spots -/
def dsN (F : FV) (fr : Nat → Bool) (D : Nat → Nat) (c k : Nat) : Bool := !decide (D k < 1000) && fr k && nbA F (fun u => decide (D u = c)) k
def dsS (F : FV) (fr : Nat → Bool) (D : Nat → Nat) (c k : Nat) : Nat := if D k < 1000 then D k else if dsN F fr D c k then c + coK F k else 1000
theorem dsS_eq {F : FV} {fr : Nat → Bool} {D : Nat → Nat} {c k j : Nat} (hc : c < 72) (hj : j < 74) : decide (dsS F fr D c k = j) = (decide (D k = j) || (dsN F fr D c k && ((decide (j = c + 1) && !decide (kF F k = 2)) || (decide (j = c + 2) && decide (kF F k = 2))))) := by
  unfold dsS
  by_cases h1 : D k < 1000
  · have : dsN F fr D c k = false := by unfold dsN; simp [h1]
    rw [if_pos h1, this]; simp
  · rw [if_neg h1, decide_eq_false (show ¬ D k = j by omega), Bool.false_or]
    cases hf : dsN F fr D c k with
    | false => rw [if_neg (by decide), decide_eq_false (show ¬ 1000 = j by omega)]; rfl
    | true =>
      rw [if_pos rfl, Bool.true_and]
      unfold coK
      by_cases h2 : kF F k = 2
      · rw [if_pos h2, decide_eq_true h2]
        by_cases h3 : j = c + 2
        · subst h3; simp
        · rw [decide_eq_false (show ¬ c + 2 = j by omega), decide_eq_false h3]; simp
      · rw [if_neg h2, decide_eq_false h2]
        by_cases h3 : j = c + 1
        · subst h3; simp
        · rw [decide_eq_false (show ¬ c + 1 = j by omega), decide_eq_false h3]; simp
theorem dsS_met {F : FV} {fr : Nat → Bool} {D : Nat → Nat} {c k : Nat} (hc : c < 72) : decide (dsS F fr D c k < 1000) = (decide (D k < 1000) || dsN F fr D c k) := by
  unfold dsS
  by_cases h1 : D k < 1000
  · rw [if_pos h1]; simp [h1]
  · rw [if_neg h1, decide_eq_false h1, Bool.false_or]
    cases hf : dsN F fr D c k with
    | false => rw [if_neg (by decide)]; decide
    | true =>
      rw [if_pos rfl]
      have := coK_12 F k
      exact decide_eq_true (by omega)
theorem dsN_iff {F : FV} {fr : Nat → Bool} {D : Nat → Nat} {c k : Nat} (h : dsN F fr D c k = true) : ¬ D k < 1000 ∧ fr k = true ∧ ∃ d u, d < 4 ∧ nbF F k d = some u ∧ D u = c := by
  unfold dsN at h
  simp only [Bool.and_eq_true] at h
  obtain ⟨⟨h1, h2⟩, h3⟩ := h
  obtain ⟨d, u, d1, d2, d3⟩ := nbA_iff.mp h3
  exact ⟨by simpa using h1, h2, d, u, d1, d2, of_decide_eq_true d3⟩
theorem ds_step {F : FV} {fr : Nat → Bool} {goal : Nat} {D : Nat → Nat} {c : Nat} (hc : c < 72) (hD : dsB F fr goal D) (h3 : ∀ s d u, fr s = true → d < 4 → nbF F s d = some u → D u < c → D s ≤ D u + coK F s) (h5 : ∀ s, D s < 1000 → D s ≤ c + 1) : dsB F fr goal (dsS F fr D c) ∧ (∀ s d u, fr s = true → d < 4 → nbF F s d = some u → dsS F fr D c u < c + 1 → dsS F fr D c s ≤ dsS F fr D c u + coK F s) ∧ ∀ s, dsS F fr D c s < 1000 → dsS F fr D c s ≤ c + 1 + 1 := by
  have old : ∀ s, D s < 1000 → dsS F fr D c s = D s := fun s h => by unfold dsS; rw [if_pos h]
  have new : ∀ s, ¬ D s < 1000 → dsN F fr D c s = true → dsS F fr D c s = c + coK F s := fun s h h2 => by unfold dsS; rw [if_neg h, if_pos h2]
  have non : ∀ s, ¬ D s < 1000 → ¬ dsN F fr D c s = true → dsS F fr D c s = 1000 := fun s h h2 => by unfold dsS; rw [if_neg h, if_neg h2]
  refine ⟨⟨fun hg => ?_, fun s hs => ?_, fun s => ?_⟩, fun s d u hf hd hn hu => ?_, fun s hs => ?_⟩
  · rw [old goal (by have := hD.1 hg; omega)]; exact hD.1 hg
  · by_cases h1 : D s < 1000
    · obtain ⟨g1, g2⟩ := hD.2.1 s h1
      refine ⟨g1, ?_⟩
      rw [old s h1]
      rcases g2 with g | ⟨d, u, e1, e2, e3⟩
      · exact Or.inl g
      · exact Or.inr ⟨d, u, e1, e2, by rw [old u (by omega)]; exact e3⟩
    · by_cases h2 : dsN F fr D c s = true
      · obtain ⟨n1, n2, d, u, n3, n4, n5⟩ := dsN_iff h2
        refine ⟨n2, Or.inr ⟨d, u, n3, n4, ?_⟩⟩
        rw [new s h1 h2, old u (by omega), n5]
      · rw [non s h1 h2] at hs; omega
  · by_cases h1 : D s < 1000
    · rw [old s h1]; omega
    · by_cases h2 : dsN F fr D c s = true
      · rw [new s h1 h2]; have := coK_12 F s; omega
      · rw [non s h1 h2]; omega
  · have hk := coK_12 F s
    have hu1 : D u < 1000 := by
      by_cases h1 : D u < 1000
      · exact h1
      · by_cases h2 : dsN F fr D c u = true
        · rw [new u h1 h2] at hu; have := coK_12 F u; omega
        · rw [non u h1 h2] at hu; omega
    rw [old u hu1] at hu ⊢
    by_cases hs1 : D s < 1000
    · rw [old s hs1]
      rcases Nat.lt_or_ge (D u) c with x | x
      · exact h3 s d u hf hd hn x
      · have := h5 s hs1; omega
    · rcases Nat.lt_or_ge (D u) c with x | x
      · have := h3 s d u hf hd hn x; omega
      · have huc : D u = c := by omega
        have h2 : dsN F fr D c s = true := by
          unfold dsN
          rw [decide_eq_false hs1, hf, nbA_iff.mpr ⟨d, u, hd, hn, decide_eq_true huc⟩]; rfl
        rw [new s hs1 h2, huc]; omega
  · by_cases h1 : D s < 1000
    · rw [old s h1]; have := h5 s h1; omega
    · by_cases h2 : dsN F fr D c s = true
      · rw [new s h1 h2]; have := coK_12 F s; omega
      · rw [non s h1 h2] at hs; omega
/-- the class's rows tell D -/
def byD (g : eH) (D : Nat → Nat) : Prop := (∀ k, tb (gL g 38 1) k = decide (D k < 1000)) ∧ ∀ j, j < 74 → ∀ k, tb (gL g 39 j) k = decide (D k = j)
theorem byD_only {W : Nat → Nat → Prop} {h g : eH} {D : Nat → Nat} (o : only W h g) (hW : ∀ j k, j = 38 ∨ j = 39 → ¬ W j k) (hD : byD h D) : byD g D := ⟨fun k => by rw [o_L o (hW 38 1 (by omega))]; exact hD.1 k, fun j hj k => by rw [o_L o (hW 39 j (by omega))]; exact hD.2 j hj k⟩
theorem measure_C {h : eH} {p goal : Nat} {F : FV} {fr : Nat → Bool} {x : Int64} (hF : okF F) (hR : RefsOK h) (hp : CF h p F) (hfr : ∀ s, fr s = true → s < nF F) (hx : ∀ k, tb x k = fr k) (hg : goal < 36) : ∃ h' D, f_X9_measure LF h 38 p x (nI goal) = some h' ∧ isD F fr goal D ∧ byD h' D ∧ only (fun j _ => j = 38 ∨ j = 39) h h' := by
  have h36 := nF_le hF
  obtain ⟨hZ, z1, z2, z3⟩ := fillL (h := h) 0 (show 39 < 100 by decide) sh_39 (by decide)
  have hRZ := only_refs z3 hR
  have i39 : inA LF 39 1 0 = true := by decide
  unfold f_X9_measure
  rw [if_pos iO_38, r_38_0 hR, Option.bind_some, z1, Option.bind_some, gR_sL, r_38_0 hRZ, Option.bind_some, if_pos i39, Option.bind_some, gL_sL, if_pos ⟨rfl, rfl⟩, show (0 : Int32).toNatClampNeg = 0 by decide]
  obtain ⟨D0, hD0⟩ : ∃ D0 : Nat → Nat, D0 = fun k => if k = goal ∧ fr goal = true then 0 else 1000 := ⟨_, rfl⟩
  have e0 : ∀ k, tb (f_X10_bit (nI goal) &&& x) k = decide (D0 k = 0) := fun k => by
    rw [tb_and, bit_tb hg, hx, hD0]
    by_cases hk : k = goal
    · subst hk
      cases hfk : fr k <;> simp
    · simp [hk]
  have o0 : only (fun j _ => j = 38 ∨ j = 39) h (sL (sL hZ 38 1 (f_X10_bit (nI goal) &&& x)) 39 0 (f_X10_bit (nI goal) &&& x)) := only_trans (only_mono (fun j k a => Or.inr a) z3) (only_trans (only_sL (Or.inl rfl)) (only_sL (Or.inr rfl)))
  have by0 : byD (sL (sL hZ 38 1 (f_X10_bit (nI goal) &&& x)) 39 0 (f_X10_bit (nI goal) &&& x)) D0 := by
    refine ⟨fun k => ?_, fun j hj k => ?_⟩
    · rw [gL_sL, if_neg (by omega), gL_sL, if_pos ⟨rfl, rfl⟩, e0]
      rw [hD0]
      by_cases q : k = goal ∧ fr goal = true <;> simp [q]
    · rw [gL_sL]
      by_cases hj0 : j = 0
      · subst hj0; rw [if_pos ⟨rfl, rfl⟩, e0]
      · rw [if_neg (by omega), gL_sL, if_neg (by omega), z2 j hj, tb_0, hD0]
        by_cases q : k = goal ∧ fr goal = true
        · simp [q]; omega
        · simp [q]; omega
  have ds0 : dsB F fr goal D0 := by
    subst hD0
    refine ⟨fun hf => by simp [hf], fun s hs => ?_, fun s => ?_⟩
    · by_cases q : s = goal ∧ fr goal = true
      · refine ⟨by rw [q.1]; exact q.2, Or.inl ⟨q.1, ?_⟩⟩
        show (if s = goal ∧ fr goal = true then 0 else 1000) = 0
        rw [if_pos q]
      · simp only [q, if_false] at hs; omega
    · by_cases q : s = goal ∧ fr goal = true
      · simp [q]
      · simp [q]
  refine lpF (N := 72) (s := (sL (sL hZ 38 1 (f_X10_bit (nI goal) &&& x)) 39 0 (f_X10_bit (nI goal) &&& x), D0)) (run := fun fu (q : eH × (Nat → Nat)) i => f_X9_measure_L32 LF fu (fun (h33 : eH) => some h33) q.1 38 p x (nI i)) (Inv := fun i q => byD q.1 q.2 ∧ only (fun j _ => j = 38 ∨ j = 39) h q.1 ∧ dsB F fr goal q.2 ∧ (∀ s d u, fr s = true → d < 4 → nbF F s d = some u → q.2 u < i → q.2 s ≤ q.2 u + coK F s) ∧ ∀ s, q.2 s < 1000 → q.2 s ≤ i + 1) (Post := fun r => ∃ h' D, r = some h' ∧ isD F fr goal D ∧ byD h' D ∧ only (fun j _ => j = 38 ∨ j = 39) h h') (by decide) ⟨by0, o0, ds0, fun s d u _ _ _ hu => absurd hu (Nat.not_lt_zero _), fun s hs => ?_⟩ ?_ ?_
  · have hs : D0 s < 1000 := hs
    show D0 s ≤ 0 + 1
    rw [hD0] at hs ⊢
    by_cases q : s = goal ∧ fr goal = true
    · simp [q]
    · simp [q] at hs
  · rintro fu ⟨g, D⟩ ⟨g1, g2, g3, g4, g5⟩
    have g3 : dsB F fr goal D := g3
    refine ⟨g, D, ?_, ⟨g3, fun s d u hf hd hn hu => g4 s d u hf hd hn ?_⟩, g1, g2⟩
    · show f_X9_measure_L32 LF (fu + 1) _ g 38 p x (nI 72) = _
      unfold f_X9_measure_L32
      rw [if_pos (by decide)]
    · have := ds_le hF hfr g3 hu
      show D u < 72
      omega
  · rintro c fu ⟨g, D⟩ hc ⟨g1, g2, g3, g4, g5⟩
    have g1 : byD g D := g1
    have g2 : only (fun j _ => j = 38 ∨ j = 39) h g := g2
    have g3 : dsB F fr goal D := g3
    have g4 : ∀ s d u, fr s = true → d < 4 → nbF F s d = some u → D u < c → D s ≤ D u + coK F s := g4
    have g5 : ∀ s, D s < 1000 → D s ≤ c + 1 := g5
    have hRg := only_refs g2 hR
    have hpg := CF_only g2 (fun j k a b => by omega) hp
    have n74 : ¬ (74 : Int32) ≤ nI c + 2 := by rw [show nI c + 2 = nI (c + 2) from nI_add c 2]; exact nI_ge (b := 74) (by omega) (by decide)
    by_cases he : gL g 39 c = 0
    · have hno : ∀ u, D u ≠ c := fun u hu => by
        have := g1.2 c (by omega) u
        rw [he, tb_0, decide_eq_true hu] at this
        cases this
      refine Or.inr ⟨(g, D), ⟨g1, g2, g3, fun s d u hf hd hn hu => g4 s d u hf hd hn ?_, fun s hs => by have := g5 s hs; show D s ≤ c + 1 + 1; omega⟩, fun z hz => ?_⟩
      · have hu : D u < c + 1 := hu
        have := hno u
        omega
      · show f_X9_measure_L32 LF (fu + 1) _ g 38 p x (nI c) = z
        unfold f_X9_measure_L32
        rw [if_neg n74, if_pos iO_38, r_38_0 hRg, Option.bind_some, iA_39, if_pos (in_nI (by omega) (by decide)), nI_clamp (by omega), if_pos ((lg_0 _ 0).mpr he), nI_p1]
        exact hz
    · have hel : ∀ k, nF F ≤ k → tb (gL g 39 c) k = false := fun k hk => by
        rw [g1.2 c (by omega)]
        refine decide_eq_false (fun e => ?_)
        have := hfr k (g3.2.1 k (by omega)).1
        omega
      obtain ⟨y, y1, y2⟩ := around_C hF hpg hel
      have hfd : ∀ k, tb ((y &&& x) &&& ((gL g 38 1) ^^^ (-1))) k = dsN F fr D c k := fun k => by
        rw [tb_and, tb_and, hx]
        unfold dsN
        by_cases hk : k < nF F
        · rw [y2 k hk, tb_not _ (by omega), g1.1, nbA_cong hF hk (fun s _ => g1.2 c (by omega) s)]
          cases decide (D k < 1000) <;> cases fr k <;> cases nbA F (fun u => decide (D u = c)) k <;> rfl
        · have : fr k = false := by
            cases hf : fr k with
            | false => rfl
            | true => exact absurd (hfr k hf) hk
          rw [this]; simp
      obtain ⟨fd, hfd2⟩ : ∃ fd, fd = (y &&& x) &&& ((gL g 38 1) ^^^ (-1)) := ⟨_, rfl⟩
      rw [← hfd2] at hfd
      have e38 : gL g 38 1 ||| fd = gL g 38 1 ||| fd := rfl
      have e5 : ∀ k, tb (gL g p 5) k = decide (kF F k = 2) := hpg.2.2.2.2.2.2.2.1
      have hp1 := hp.1
      obtain ⟨s1, s2, s3⟩ := ds_step hc g3 g4 g5
      refine Or.inr ⟨(sL (sL (sL g 38 1 (gL g 38 1 ||| fd)) 39 (c + 1) (gL g 39 (c + 1) ||| (fd &&& (gL g p 5 ^^^ (-1))))) 39 (c + 2) (gL g 39 (c + 2) ||| (fd &&& gL g p 5)), dsS F fr D c), ⟨⟨fun k => ?_, fun j hj k => ?_⟩, only_trans g2 (only_trans (only_sL (Or.inl rfl)) (only_trans (only_sL (Or.inr rfl)) (only_sL (Or.inr rfl)))), s1, s2, s3⟩, fun z hz => ?_⟩
      · show tb (gL (sL (sL (sL g 38 1 _) 39 (c + 1) _) 39 (c + 2) _) 38 1) k = decide (dsS F fr D c k < 1000)
        rw [gL_sL, if_neg (by omega), gL_sL, if_neg (by omega), gL_sL, if_pos ⟨rfl, rfl⟩, tb_or, g1.1, hfd, dsS_met hc]
      · show tb (gL (sL (sL (sL g 38 1 _) 39 (c + 1) _) 39 (c + 2) _) 39 j) k = decide (dsS F fr D c k = j)
        rw [dsS_eq hc hj, gL_sL]
        by_cases j2 : j = c + 2
        · subst j2
          rw [if_pos ⟨rfl, rfl⟩, tb_or, g1.2 (c + 2) hj, tb_and, hfd, e5]
          simp
        · rw [if_neg (by omega), gL_sL]
          by_cases j1 : j = c + 1
          · subst j1
            rw [if_pos ⟨rfl, rfl⟩, tb_or, g1.2 (c + 1) hj, tb_and, hfd]
            cases hn : dsN F fr D c k with
            | false => simp
            | true =>
              have hk := hfr k (dsN_iff hn).2.1
              rw [tb_not _ (by omega), e5]; simp
          · rw [if_neg (by omega), gL_sL, if_neg (by omega), g1.2 j hj]
            simp [j1, j2]
      · show f_X9_measure_L32 LF (fu + 1) _ g 38 p x (nI c) = z
        have r1 : gL (sL g 38 1 (gL g 38 1 ||| fd)) 39 (c + 1) = gL g 39 (c + 1) := by rw [gL_sL, if_neg (by omega)]
        have r2 : gL (sL g 38 1 (gL g 38 1 ||| fd)) p 5 = gL g p 5 := by rw [gL_sL, if_neg (by omega)]
        have r3 : ∀ v, gL (sL (sL g 38 1 (gL g 38 1 ||| fd)) 39 (c + 1) v) 39 (c + 2) = gL g 39 (c + 2) := fun v => by rw [gL_sL, if_neg (by omega), gL_sL, if_neg (by omega)]
        have r4 : ∀ v, gL (sL (sL g 38 1 (gL g 38 1 ||| fd)) 39 (c + 1) v) p 5 = gL g p 5 := fun v => by rw [gL_sL, if_neg (by omega), gL_sL, if_neg (by omega)]
        unfold f_X9_measure_L32
        rw [if_neg n74, if_pos iO_38, r_38_0 hRg, Option.bind_some, iA_39, if_pos (in_nI (by omega) (by decide)), nI_clamp (by omega), if_neg (fun e => he ((lg_0 _ 0).mp e)), Option.bind_some, iA_39, if_pos (in_nI (by omega) (by decide)), if_pos (p_O hp), y1, Option.bind_some, ← hfd2, Option.bind_some, gR_sL, r_38_0 hRg, Option.bind_some, show nI c + 1 = nI (c + 1) from nI_add c 1, iA_39, if_pos (in_nI (by omega) (by decide)), nI_clamp (by omega), r1, r2, Option.bind_some, gR_sL, gR_sL, r_38_0 hRg, Option.bind_some, show nI c + 2 = nI (c + 2) from nI_add c 2, iA_39, if_pos (in_nI (by omega) (by decide)), nI_clamp (by omega), r3, r4, Option.bind_some, nI_p1]
        exact hz
/-- the cost of the cheapest way, as the class tells it -/
def dC (D : Nat → Nat) (s : Nat) : Int32 := if D s < 1000 then nI (D s) else 500
theorem costFrom_C {g : eH} {F : FV} {fr : Nat → Bool} {goal s : Nat} {D : Nat → Nat} (hF : okF F) (hR : RefsOK g) (hfr : ∀ s, fr s = true → s < nF F) (hD : isD F fr goal D) (hb : byD g D) (hs : s < 36) : f_X9_costFrom LF g 38 (nI s) = some (dC D s) := by
  have hm : f_X10_holds (gL g 38 1) (nI s) = if D s < 1000 then 1 else 0 := by rw [holds_k _ hs, hb.1]; by_cases q : D s < 1000 <;> simp [q]
  unfold f_X9_costFrom dC
  by_cases h1 : D s < 1000
  · have hle := ds_le hF hfr hD.1 h1
    rw [if_pos h1]
    rw [if_pos h1] at hm
    refine lpF (N := 74) (s := ()) (run := fun fu (_ : Unit) i => f_X9_costFrom_L2 LF g fu (fun (w2_5 : Int32) => some w2_5) (some 500) 38 (nI s) (nI i)) (Inv := fun i _ => i ≤ D s) (Post := fun r => r = some (nI (D s))) (by decide) (Nat.zero_le _) ?_ ?_
    · rintro fu _ h
      have h : 74 ≤ D s := h
      omega
    · rintro i fu _ hi hle2
      have hle2 : i ≤ D s := hle2
      have hb2 : f_X10_holds (gL g 39 i) (nI s) = if D s = i then 1 else 0 := by rw [holds_k _ hs, hb.2 i hi]; by_cases q : D s = i <;> simp [q]
      have n74 : ¬ (74 : Int32) ≤ nI i := nI_ge (b := 74) hi (by decide)
      by_cases he : D s = i
      · refine Or.inl ?_
        show f_X9_costFrom_L2 LF g (fu + 1) _ _ 38 (nI s) (nI i) = _
        rw [if_pos he] at hb2
        unfold f_X9_costFrom_L2
        rw [if_neg n74, if_pos iO_38, hm, if_neg i10, r_38_0 hR, Option.bind_some, iA_39, if_pos (in_nI hi (by decide)), nI_clamp (by omega), hb2, if_neg i10, he]
      · refine Or.inr ⟨(), show i + 1 ≤ D s by omega, fun z hz => ?_⟩
        show f_X9_costFrom_L2 LF g (fu + 1) _ _ 38 (nI s) (nI i) = z
        rw [if_neg he] at hb2
        unfold f_X9_costFrom_L2
        rw [if_neg n74, if_pos iO_38, hm, if_neg i10, r_38_0 hR, Option.bind_some, iA_39, if_pos (in_nI hi (by decide)), nI_clamp (by omega), hb2, if_pos rfl, nI_p1]
        exact hz
  · rw [if_neg h1]
    rw [if_neg h1] at hm
    obtain ⟨fu, hfu⟩ := fu_s 0 (by decide)
    rw [hfu]
    unfold f_X9_costFrom_L2
    rw [if_neg (by decide), if_pos iO_38, hm, if_pos rfl]

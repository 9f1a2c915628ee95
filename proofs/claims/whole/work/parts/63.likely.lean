/-! likely -/
def LV (h : eH) (a : Nat) (c : Nat → Nat) : Prop := ∀ k, k < 36 → gL h a k = lN (c k)
theorem LV_u {g : eH} {a : Nat} {t : Nat → Nat} (h : LV g a t) (i x : Nat) : LV (sL g a i (lN x)) a (fun k => if k = i then x else t k) := fun k hk => by
  rw [gL_sL]
  by_cases e : k = i
  · rw [if_pos ⟨rfl, e⟩]
    show lN x = lN (if k = i then x else t k)
    rw [if_pos e]
  · rw [if_neg (fun q => e q.2)]
    show gL g a k = lN (if k = i then x else t k)
    rw [if_neg e]; exact h k hk
theorem LV_only {W : Nat → Nat → Prop} {h h' : eH} {a : Nat} {c : Nat → Nat} (o : only W h h') (hW : ∀ k, ¬ W a k) (hl : LV h a c) : LV h' a c := fun k hk => (o_L o (hW k)).trans (hl k hk)
def toA (F : FV) (S : Nat → Int32) (s d : Nat) : Nat := if frI F S (nb F s d) then (nb F s d).toNatClampNeg else s
theorem frI_m {F : FV} {S : Nat → Int32} : frI F S (-1) = false := by unfold frI; rw [if_pos (by decide)]
theorem frI_k {F : FV} {S : Nat → Int32} {t : Nat} (ht : t < 36) : frI F S (nI t) = frA F S t := by unfold frI; rw [if_neg (nI_pos (by omega)), nI_clamp (by omega)]
theorem toA_lt {F : FV} {S : Nat → Int32} (hF : okF F) {s d : Nat} (hs : s < nF F) (hd : d < 4) : toA F S s d < nF F := by
  have := nF_le hF
  unfold toA
  rcases nb_or hF hs hd with e | ⟨t, t1, e⟩
  · rw [e, frI_m, if_neg (by decide)]; exact hs
  · rw [e, nI_clamp (by omega)]; split
    · exact t1
    · exact hs
def stH (to : Nat → Nat) (x : Nat) (t : Nat → Nat) : Nat → (Nat → Nat)
  | 0 => t
  | d + 1 => fun k => if k = to d then stH to x t d (to d) + x else stH to x t d k
def stO (F : FV) (S : Nat → Int32) (c : Nat → Nat) : Nat → (Nat → Nat)
  | 0 => fun _ => 0
  | i + 1 => stH (toA F S i) (c i) (stO F S c i) 4
theorem stH_0 {to : Nat → Nat} {t : Nat → Nat} : ∀ n, stH to 0 t n = t
  | 0 => rfl
  | n + 1 => by
    funext k
    show (if k = to n then stH to 0 t n (to n) + 0 else stH to 0 t n k) = t k
    rw [stH_0 n]
    by_cases e : k = to n
    · rw [if_pos e, e]; exact Nat.add_zero _
    · rw [if_neg e]
theorem stO_z {F : FV} {S : Nat → Int32} {c : Nat → Nat} {i : Nat} (h : c i = 0) : stO F S c (i + 1) = stO F S c i := by
  show stH (toA F S i) (c i) (stO F S c i) 4 = _
  rw [h, stH_0]
theorem stO_e {F : FV} {S : Nat → Int32} {c : Nat → Nat} {n : Nat} (h : ∀ k, n ≤ k → c k = 0) : ∀ m, stO F S c (n + m) = stO F S c n
  | 0 => rfl
  | m + 1 => by rw [← stO_e h m]; exact stO_z (h (n + m) (by omega))
theorem stH_sm {to : Nat → Nat} {x : Nat} {t : Nat → Nat} : ∀ n, (∀ d, d < n → to d < 36) → fb_sm (stH to x t n) 36 = fb_sm t 36 + n * x
  | 0, _ => by show fb_sm t 36 = _; omega
  | n + 1, h => by
    have ih := stH_sm (x := x) (t := t) n (fun d hd => h d (by omega))
    have e := fb_sm_upd (stH to x t n) (stH to x t n (to n) + x) (i := to n) (n := 36) (h n (by omega))
    have e2 : fb_sm (stH to x t (n + 1)) 36 = fb_sm (fun k => if k = to n then stH to x t n (to n) + x else stH to x t n k) 36 := rfl
    rw [e2, Nat.succ_mul]
    omega
theorem stH_far {to : Nat → Nat} {x k : Nat} {t : Nat → Nat} : ∀ n, (∀ d, d < n → to d ≠ k) → stH to x t n k = t k
  | 0, _ => rfl
  | n + 1, h => by
    show (if k = to n then _ else stH to x t n k) = t k
    rw [if_neg (fun e => h n (by omega) e.symm)]
    exact stH_far n (fun d hd => h d (by omega))
theorem stO_ok {F : FV} {S : Nat → Int32} {c : Nat → Nat} (hF : okF F) : ∀ n, n ≤ nF F → fb_sm (stO F S c n) 36 = 4 * fb_sm c n ∧ ∀ k, nF F ≤ k → stO F S c n k = 0
  | 0, _ => ⟨by show fb_sm (fun _ => 0) 36 = 4 * 0; rw [fb_sm_const], fun _ _ => rfl⟩
  | n + 1, h => by
    have h36 := nF_le hF
    obtain ⟨i1, i2⟩ := stO_ok (S := S) (c := c) hF n (by omega)
    have e : stO F S c (n + 1) = stH (toA F S n) (c n) (stO F S c n) 4 := rfl
    have hto : ∀ d, d < 4 → toA F S n d < nF F := fun d hd => toA_lt hF (by omega) hd
    refine ⟨?_, fun k hk => ?_⟩
    · rw [e, stH_sm 4 (fun d hd => by have := hto d hd; omega), i1, fb_sm_succ]; omega
    · rw [e, stH_far 4 (fun d hd => by have := hto d hd; omega)]; exact i2 k hk
def chV (F : FV) (S : Nat → Int32) (sp : Nat) : Nat → (Nat → Nat)
  | 0 => fun k => if k = sp then 1 else 0
  | n + 1 => stO F S (chV F S sp n) (nF F)
theorem chV_ok {F : FV} {S : Nat → Int32} {sp : Nat} (hF : okF F) (hs : sp < nF F) : ∀ n, fb_sm (chV F S sp n) 36 = 4 ^ n ∧ ∀ k, nF F ≤ k → chV F S sp n k = 0
  | 0 => by
    have h36 := nF_le hF
    refine ⟨?_, fun k hk => ?_⟩
    · have e := fb_sm_upd (fun _ => 0) 1 (i := sp) (n := 36) (by omega)
      rw [fb_sm_const] at e
      show fb_sm (fun k => if k = sp then 1 else 0) 36 = 1
      omega
    · show (if k = sp then 1 else 0) = 0
      rw [if_neg (by omega)]
  | n + 1 => by
    have h36 := nF_le hF
    obtain ⟨i1, i2⟩ := chV_ok (S := S) hF hs n
    obtain ⟨j1, j2⟩ := stO_ok (S := S) (c := chV F S sp n) hF (nF F) (Nat.le_refl _)
    refine ⟨?_, j2⟩
    show fb_sm (stO F S (chV F S sp n) (nF F)) 36 = 4 ^ (n + 1)
    have sp2 := fb_sm_split (chV F S sp n) (nF F) (36 - nF F)
    rw [show nF F + (36 - nF F) = 36 by omega, i1] at sp2
    have z : fb_sm (fun k => chV F S sp n (nF F + k)) (36 - nF F) = 0 := by
      rw [fb_sm_cong (g := fun _ => 0) (fun k _ => i2 _ (by omega)), fb_sm_const, Nat.mul_zero]
    rw [j1, Nat.pow_succ]; omega
theorem chV_le {F : FV} {S : Nat → Int32} {sp n k : Nat} (hF : okF F) (hs : sp < nF F) (hk : k < 36) : chV F S sp n k ≤ 4 ^ n := by
  have := fb_sm_part (chV F S sp n) hk
  have e := (chV_ok (S := S) hF hs n).1
  have m := fb_sm_mono (chV F S sp n) k (36 - k)
  omega
/-! one stray step, the class -/
theorem stray_C1 {P : Option eH → Prop} {k102 : eH → Nat → Int64 → Int32 → Option eH} {h g0 : eH} {X : AX} {B s : Nat} {fr : Int64} {c t : Nat → Nat} (hc : CI h X) (ho : okX B X) (hs : s < nF (xF X)) (hfr : ∀ k, k < 36 → tb fr k = frA (xF X) (xS X) k) (og : only csc h g0) (h61 : LV g0 61 c) (h62 : LV g0 62 t) (y : ∀ g, only csc h g → LV g 61 c → LV g 62 (stH (toA (xF X) (xS X) s) (c s) t 4) → P (k102 g 0 fr (nI s))) : P (f_X10_stray_L38 LF e_fu k102 g0 0 fr (nI s) 0) := by
  have h36 := nF_le ho.1
  refine lpF (N := 4) (s := g0) (run := fun fu (g : eH) i => f_X10_stray_L38 LF fu k102 g 0 fr (nI s) (nI i)) (Inv := fun i g => only csc h g ∧ LV g 61 c ∧ LV g 62 (stH (toA (xF X) (xS X) s) (c s) t i)) (Post := P) (by decide) ⟨og, h61, h62⟩ ?_ ?_
  · rintro fu g ⟨g1, g2, g3⟩
    show P (f_X10_stray_L38 LF (fu + 1) k102 g 0 fr (nI s) (nI 4))
    unfold f_X10_stray_L38
    rw [if_pos (by decide)]
    exact y g g1 g2 g3
  · rintro i fu g hi ⟨g1, g2, g3⟩
    have hRg := only_refs g1 hc.1
    obtain ⟨p, hp⟩ := (CI_scr g1 hc).2.1
    have tl := toA_lt (S := xS X) ho.1 hs hi
    have nx : stH (toA (xF X) (xS X) s) (c s) t (i + 1) = fun k => if k = toA (xF X) (xS X) s i then stH (toA (xF X) (xS X) s) (c s) t i (toA (xF X) (xS X) s i) + c s else stH (toA (xF X) (xS X) s) (c s) t i k := rfl
    generalize hT : stH (toA (xF X) (xS X) s) (c s) t i = T at g3 nx
    have sel : ∀ k38 : eH → Nat → Int64 → Int32 → Int32 → Option eH, (if (f_X10_holds fr (nb (xF X) s i)) = 0 then f_X10_stray_J78 LF k38 k102 g 0 fr (nI s) (nI i) (nI s) else if 36 ≤ (nb (xF X) s i) then f_X10_stray_J78 LF k38 k102 g 0 fr (nI s) (nI i) (nI s) else f_X10_stray_J78 LF k38 k102 g 0 fr (nI s) (nI i) (nb (xF X) s i)) = f_X10_stray_J78 LF k38 k102 g 0 fr (nI s) (nI i) (nI (toA (xF X) (xS X) s i)) := fun k38 => by
      unfold toA
      rcases nb_or ho.1 hs hi with e | ⟨w, w1, e⟩
      · rw [e, holds_m, if_pos rfl, frI_m, if_neg (by decide)]
      · rw [e, holds_k _ (by omega), hfr w (by omega), frI_k (by omega), nI_clamp (by omega)]
        cases frA (xF X) (xS X) w with
        | true => rw [if_neg (show ¬ (if true = true then (1 : Int32) else 0) = 0 from i10), if_neg (show ¬ (36 : Int32) ≤ nI w from nI_ge (b := 36) (by omega) (by decide)), if_pos rfl]
        | false => rw [if_pos (show (if false = true then (1 : Int32) else 0) = 0 from rfl), if_neg (by decide)]
    refine Or.inr ⟨sL g 62 (toA (xF X) (xS X) s i) (lN (T (toA (xF X) (xS X) s i) + c s)), ⟨only_trans g1 (only_sL (by unfold csc; omega)), LV_only (W := fun j _ => j = 62) (only_sL rfl) (fun k => by omega) g2, by rw [nx]; exact LV_u g3 _ _⟩, fun z hz => ?_⟩
    show f_X10_stray_L38 LF (fu + 1) k102 g 0 fr (nI s) (nI i) = z
    unfold f_X10_stray_L38
    rw [if_neg (show ¬ (4 : Int32) ≤ nI i from nI_ge (b := 4) hi (by decide)), if_pos iO_0, hp.2.1, Option.bind_some, if_pos (p_O hp), ahead_nb ho.1 hp hs hi, Option.bind_some, sel]
    unfold f_X10_stray_J78
    rw [if_pos iO_0, r_0_14 hRg, Option.bind_some, iA_62, if_pos (in_nI (by omega) (by decide)), r_0_13 hRg, Option.bind_some, iA_61, if_pos (in_nI (by omega) (by decide)), nI_clamp (by omega), nI_clamp (by omega), g3 _ (by omega), g2 s (by omega), lM_add, Option.bind_some, nI_p1]
    exact hz
theorem cp_L {h : eH} {k : Nat} (hk : k < 36) : gL (cpL h 62 61 0 0 36) 61 k = gL h 62 k := by
  have e1 : (0 : Int32).toNatClampNeg = 0 := by decide
  have e2 : (36 : Int32).toNatClampNeg = 36 := by decide
  show (if (61 : Nat) = 61 then va_cpy (h.2.1 62) (h.2.1 61) (0 : Int32).toNatClampNeg (0 : Int32).toNatClampNeg (36 : Int32).toNatClampNeg k else h.2.1 61 k) = _
  rw [if_pos rfl, e1, e2]
  unfold va_cpy
  rw [if_pos (by omega)]
  simp [gL]
theorem cp_o {h : eH} : only (fun j _ => j = 61) h (cpL h 62 61 0 0 36) := ⟨fun j k hj => ⟨rfl, by
  show (if j = 61 then _ else h.2.1 j k) = _
  rw [if_neg hj]; rfl⟩, fun _ _ => rfl⟩
theorem cp_OK : cpOK LF 62 61 1 0 0 36 = true := by
  unfold cpOK
  rw [sh_61, sh_62]
  have e1 : (0 : Int32).toNatClampNeg = 0 := by decide
  have e2 : (36 : Int32).toNatClampNeg = 36 := by decide
  have e3 : ¬ (0 : Int32) < 0 := by decide
  have e4 : ¬ (36 : Int32) < 0 := by decide
  simp [LF_n, e1, e2, e3, e4]
theorem stray_s {n : Nat} {k108 : eH → Nat → Option eH} {h : eH} {v0 : Nat} {v1 : Int64} {v3 : Int32} : f_X10_stray_L15 LF (n + 1) k108 h v0 v1 v3 = (if 36 ≤ v3 then k108 h v0 else if isO LF v0 10 = true then (gR h v0 13).bind fun b9 => if inA LF b9 1 v3 = true then if (lg_cmp (gL h b9 v3.toNatClampNeg) 0) = 0 then f_X10_stray_L15 LF n k108 h v0 v1 (v3 + Int32.ofInt 1) else f_X10_stray_L38 LF e_fu (fun (h27 : eH) (w0_28 : Nat) (w1_29 : Int64) (w3_30 : Int32) => f_X10_stray_L15 LF n k108 h27 w0_28 w1_29 (w3_30 + Int32.ofInt 1)) h v0 v1 v3 0 else none else none) := rfl
theorem stray_C {h g0 : eH} {X : AX} {B : Nat} {c : Nat → Nat} (hc : CI h X) (ho : okX B X) (og : only csc h g0) (h61 : LV g0 61 c) (hz : ∀ k, nF (xF X) ≤ k → c k = 0) (hl : ∀ k, c k < 2 ^ 63) : ∃ g, f_X10_stray LF g0 0 = some g ∧ only csc h g ∧ LV g 61 (stO (xF X) (xS X) c (nF (xF X))) := by
  have h36 := nF_le ho.1
  have hRg := only_refs og hc.1
  have hc0 := CI_scr og hc
  obtain ⟨p, hp⟩ := hc0.2.1
  obtain ⟨g1, f1, f2, f3⟩ := fillL (h := g0) 0 (by decide) sh_62 (by decide)
  have og1 : only csc h g1 := only_trans og (only_mono (fun j k a => by unfold csc; omega) f3)
  have hR1 := only_refs og1 hc.1
  unfold f_X10_stray
  rw [if_pos iO_0, free_C hc0 hp, Option.bind_some, r_0_14 hRg, Option.bind_some, f1, Option.bind_some]
  have hfr : ∀ k, k < 36 → tb ((gL g0 p 4) &&& ((gL g0 46 8) ^^^ (-1))) k = frA (xF X) (xS X) k := fun k _ => free_tb ho.1 hp hc0.2.2.2.2.1 k
  generalize (gL g0 p 4) &&& ((gL g0 46 8) ^^^ (-1)) = fr at hfr
  refine lpF (N := 36) (s := g1) (run := fun fu (g : eH) i => f_X10_stray_L15 LF fu (fun (h31 : eH) (w0_32 : Nat) => if isO LF w0_32 10 = true then (gR h31 w0_32 14).bind fun b34 => (gR h31 w0_32 13).bind fun b36 => if cpOK LF b34 b36 1 0 0 36 = true then some (cpL h31 b34 b36 0 0 36) else none else none) g 0 fr (nI i)) (Inv := fun i g => only csc h g ∧ LV g 61 c ∧ LV g 62 (stO (xF X) (xS X) c i)) (Post := fun r => ∃ g, r = some g ∧ only csc h g ∧ LV g 61 (stO (xF X) (xS X) c (nF (xF X)))) (by decide) ⟨og1, LV_only f3 (fun k => by omega) h61, f2⟩ ?_ ?_
  · rintro fu g ⟨a1, a2, a3⟩
    have hRa := only_refs a1 hc.1
    have e : stO (xF X) (xS X) c 36 = stO (xF X) (xS X) c (nF (xF X)) := by
      have := stO_e (F := xF X) (S := xS X) (c := c) (n := nF (xF X)) hz (36 - nF (xF X))
      rwa [show nF (xF X) + (36 - nF (xF X)) = 36 by omega] at this
    refine ⟨cpL g 62 61 0 0 36, ?_, only_trans a1 (only_mono (fun j k a => by unfold csc; omega) cp_o), fun k hk => ?_⟩
    · show f_X10_stray_L15 LF (fu + 1) _ g 0 fr (nI 36) = _
      rw [stray_s, if_pos (by decide), if_pos iO_0, r_0_14 hRa, Option.bind_some, r_0_13 hRa, Option.bind_some, if_pos cp_OK]
    · rw [cp_L hk, ← e]; exact a3 k hk
  · rintro i fu g hi ⟨a1, a2, a3⟩
    have hRa := only_refs a1 hc.1
    have n36 : ¬ (36 : Int32) ≤ nI i := nI_ge (b := 36) hi (by decide)
    by_cases q : c i = 0
    · refine Or.inr ⟨g, ⟨a1, a2, by rw [stO_z q]; exact a3⟩, fun z hz => ?_⟩
      show f_X10_stray_L15 LF (fu + 1) _ g 0 fr (nI i) = z
      rw [stray_s, if_neg n36, if_pos iO_0, r_0_13 hRa, Option.bind_some, iA_61, if_pos (in_nI (by omega) (by decide)), nI_clamp (by omega), a2 i hi, if_pos (show lg_cmp (lN (c i)) 0 = 0 by rw [q]; exact (lg_0 _ _).mpr rfl), nI_p1]; exact hz
    · have hin : i < nF (xF X) := by
        rcases Nat.lt_or_ge i (nF (xF X)) with w | w
        · exact w
        · exact absurd (hz i w) q
      obtain ⟨g', hg'⟩ : ∃ g', (only csc h g' ∧ LV g' 61 c ∧ LV g' 62 (stO (xF X) (xS X) c (i + 1))) ∧ f_X10_stray_L38 LF e_fu (fun (h27 : eH) (w0_28 : Nat) (w1_29 : Int64) (w3_30 : Int32) => f_X10_stray_L15 LF fu (fun (h31 : eH) (w0_32 : Nat) => if isO LF w0_32 10 = true then (gR h31 w0_32 14).bind fun b34 => (gR h31 w0_32 13).bind fun b36 => if cpOK LF b34 b36 1 0 0 36 = true then some (cpL h31 b34 b36 0 0 36) else none else none) h27 w0_28 w1_29 (w3_30 + Int32.ofInt 1)) g 0 fr (nI i) 0 = f_X10_stray_L15 LF fu (fun (h31 : eH) (w0_32 : Nat) => if isO LF w0_32 10 = true then (gR h31 w0_32 14).bind fun b34 => (gR h31 w0_32 13).bind fun b36 => if cpOK LF b34 b36 1 0 0 36 = true then some (cpL h31 b34 b36 0 0 36) else none else none) g' 0 fr (nI (i + 1)) :=
        stray_C1 (P := fun r => ∃ g', (only csc h g' ∧ LV g' 61 c ∧ LV g' 62 (stO (xF X) (xS X) c (i + 1))) ∧ r = f_X10_stray_L15 LF fu (fun (h31 : eH) (w0_32 : Nat) => if isO LF w0_32 10 = true then (gR h31 w0_32 14).bind fun b34 => (gR h31 w0_32 13).bind fun b36 => if cpOK LF b34 b36 1 0 0 36 = true then some (cpL h31 b34 b36 0 0 36) else none else none) g' 0 fr (nI (i + 1))) hc ho hin hfr a1 a2 a3 (fun g' b1 b2 b3 => ⟨g', ⟨b1, b2, b3⟩, by rw [nI_p1]⟩)
      refine Or.inr ⟨g', hg'.1, fun z hz => ?_⟩
      show f_X10_stray_L15 LF (fu + 1) _ g 0 fr (nI i) = z
      rw [stray_s, if_neg n36, if_pos iO_0, r_0_13 hRa, Option.bind_some, iA_61, if_pos (in_nI (by omega) (by decide)), nI_clamp (by omega), a2 i hi, if_neg (fun w => lM_ne0 (Nat.pos_of_ne_zero q) (hl i) ((lg_0 _ _).mp w)), hg'.2]
      exact hz
theorem likely_CL {P : Option (eH × Int32) → Prop} {k93 : eH → Nat → Int32 → Int64 → Option (eH × Int32)} {h g0 : eH} {X : AX} {B sp N : Nat} {v : Int32} (hc : CI h X) (ho : okX B X) (hs : sp < nF (xF X)) (hN : N ≤ 10) (og : only csc h g0) (h61 : LV g0 61 (chV (xF X) (xS X) sp 0)) (y : ∀ g, only csc h g → LV g 61 (chV (xF X) (xS X) sp N) → P (k93 g 0 v (lN (4 ^ N)))) : P (f_X10_likely_L71 LF e_fu k93 g0 0 (nI N) v 1 0) := by
  refine lpF (N := N) (s := (g0, (1 : Int64))) (run := fun fu (q : eH × Int64) i => f_X10_likely_L71 LF fu k93 q.1 0 (nI N) v q.2 (nI i)) (Inv := fun i q => only csc h q.1 ∧ LV q.1 61 (chV (xF X) (xS X) sp i) ∧ q.2 = lN (4 ^ i)) (Post := P) (by omega) ⟨og, h61, rfl⟩ ?_ ?_
  · rintro fu ⟨g, w⟩ ⟨g1, g2, g3⟩
    have g3 : w = lN (4 ^ N) := g3
    show P (f_X10_likely_L71 LF (fu + 1) k93 g 0 (nI N) v w (nI N))
    unfold f_X10_likely_L71
    rw [if_pos (nI_le (Nat.le_refl _) (by omega)), g3]
    exact y g g1 g2
  · rintro i fu ⟨g, w⟩ hi ⟨g1, g2, g3⟩
    have g1 : only csc h g := g1
    have g2 : LV g 61 (chV (xF X) (xS X) sp i) := g2
    have g3 : w = lN (4 ^ i) := g3
    obtain ⟨o1, o2⟩ := chV_ok (S := xS X) ho.1 hs i
    have h36 := nF_le ho.1
    obtain ⟨g', x1, x2, x3⟩ := stray_C hc ho g1 g2 o2 (fun k => by
      rcases Nat.lt_or_ge k 36 with hk | hk
      · have l := chV_le (S := xS X) (n := i) ho.1 hs hk
        have : 4 ^ i ≤ 4 ^ 10 := Nat.pow_le_pow_right (by decide) (by omega)
        have e : 4 ^ 10 < 2 ^ 63 := by decide
        omega
      · rw [o2 k (by omega)]; decide)
    refine Or.inr ⟨(g', lN (4 ^ (i + 1))), ⟨x2, x3, rfl⟩, fun z hz => ?_⟩
    have hz : f_X10_likely_L71 LF fu k93 g' 0 (nI N) v (lN (4 ^ (i + 1))) (nI (i + 1)) = z := hz
    show f_X10_likely_L71 LF (fu + 1) k93 g 0 (nI N) v w (nI i) = z
    unfold f_X10_likely_L71
    rw [if_neg (nI_ge hi (by omega)), if_pos iO_0, x1, Option.bind_some, nI_p1, g3, show (4 : Int64) = lN 4 from rfl, lM_mul, ← Nat.pow_succ]
    exact hz
/-! the reference -/
theorem lik_M0 {P : Option (eH × Int32) → Prop} {k67 : eH → Nat → Int32 → Int32 → Option (eH × Int32)} {h g0 : eH} {X : AX} {sp : Nat} {v1 v2 : Int32} (hR : RefsOK h) (hm : MI h X) (hs : sp < 36) (h72 : xS X 72 = nI sp) (og : only msc h g0) (y : ∀ g, only msc h g → LV g 94 (chV (xF X) (xS X) sp 0) → P (k67 g 73 v1 v2)) : P (f_X11_likely_L29 LF e_fu k67 g0 73 v1 v2 0) := by
  refine lpF (N := 36) (s := g0) (run := fun fu (g : eH) i => f_X11_likely_L29 LF fu k67 g 73 v1 v2 (nI i)) (Inv := fun i g => only msc h g ∧ ∀ k, k < i → gL g 94 k = lN (if k = sp then 1 else 0)) (Post := P) (by decide) ⟨og, fun k hk => absurd hk (Nat.not_lt_zero k)⟩ ?_ ?_
  · rintro fu g ⟨g1, g2⟩
    show P (f_X11_likely_L29 LF (fu + 1) k67 g 73 v1 v2 (nI 36))
    unfold f_X11_likely_L29
    rw [if_pos (by decide)]
    exact y g g1 g2
  · rintro i fu g hi ⟨g1, g2⟩
    have g1 : only msc h g := g1
    have hRg := only_refs g1 hR
    have i72 : inA LF 76 0 72 = true := (iM (Or.inl rfl)).1
    have e72 : gI g 76 72 = nI sp := (MS_0 (MI_scr g1 hm).2.2.2.2.1 (by omega)).trans h72
    have o1 : only msc h (sL g 94 i (lN (if i = sp then 1 else 0))) := only_trans g1 (only_sL (by unfold msc; omega))
    have st : ∀ k, k < i + 1 → gL (sL g 94 i (lN (if i = sp then 1 else 0))) 94 k = lN (if k = sp then 1 else 0) := fun k hk => by
      rw [gL_sL]
      by_cases e : k = i
      · rw [if_pos ⟨rfl, e⟩, e]
      · rw [if_neg (fun q => e q.2)]; exact g2 k (by omega)
    refine Or.inr ⟨sL g 94 i (lN (if i = sp then 1 else 0)), ⟨o1, st⟩, fun z hz => ?_⟩
    have hz : f_X11_likely_L29 LF fu k67 (sL g 94 i (lN (if i = sp then 1 else 0))) 73 v1 v2 (nI (i + 1)) = z := hz
    show f_X11_likely_L29 LF (fu + 1) k67 g 73 v1 v2 (nI i) = z
    unfold f_X11_likely_L29
    rw [if_neg (show ¬ (36 : Int32) ≤ nI i from nI_ge (b := 36) hi (by decide)), if_pos iO_73, r_73_40 hRg, Option.bind_some, r_73_7 hRg, Option.bind_some, if_pos i72, c72, e72, iA_94]
    by_cases e : i = sp
    · rw [if_pos e] at hz
      rw [if_pos (by rw [e]), if_pos (in_nI hi (by decide)), nI_clamp (by omega), Option.bind_some, nI_p1]; exact hz
    · rw [if_neg e] at hz
      rw [if_neg (fun q => e (nI_inj (by omega) (by omega) q)), if_pos (in_nI hi (by decide)), nI_clamp (by omega), Option.bind_some, nI_p1]; exact hz
theorem lik_M1 {P : Option (eH × Int32) → Prop} {k102 : eH → Nat → Int32 → Int32 → Int64 → Int32 → Option (eH × Int32)} {h g0 : eH} {c : Nat → Nat} {v1 v2 v5 : Int32} {v3 : Int64} (hR : RefsOK h) (og : only msc h g0) (h94 : LV g0 94 c) (y : ∀ g, only msc h g → LV g 94 c → LV g 95 (fun _ => 0) → P (k102 g 73 v1 v2 v3 v5)) : P (f_X11_likely_L81 LF e_fu k102 g0 73 v1 v2 v3 v5 0) := by
  refine lpF (N := 36) (s := g0) (run := fun fu (g : eH) i => f_X11_likely_L81 LF fu k102 g 73 v1 v2 v3 v5 (nI i)) (Inv := fun i g => only msc h g ∧ LV g 94 c ∧ ∀ k, k < i → gL g 95 k = lN 0) (Post := P) (by decide) ⟨og, h94, fun k hk => absurd hk (Nat.not_lt_zero k)⟩ ?_ ?_
  · rintro fu g ⟨g1, g2, g3⟩
    show P (f_X11_likely_L81 LF (fu + 1) k102 g 73 v1 v2 v3 v5 (nI 36))
    unfold f_X11_likely_L81
    rw [if_pos (by decide)]
    exact y g g1 g2 g3
  · rintro i fu g hi ⟨g1, g2, g3⟩
    have g1 : only msc h g := g1
    have hRg := only_refs g1 hR
    refine Or.inr ⟨sL g 95 i 0, ⟨only_trans g1 (only_sL (by unfold msc; omega)), LV_only (W := fun j _ => j = 95) (only_sL rfl) (fun k => by omega) g2, fun k hk => ?_⟩, fun z hz => ?_⟩
    · rw [gL_sL]
      by_cases e : k = i
      · rw [if_pos ⟨rfl, e⟩]; rfl
      · rw [if_neg (fun q => e q.2)]; exact g3 k (by omega)
    · show f_X11_likely_L81 LF (fu + 1) k102 g 73 v1 v2 v3 v5 (nI i) = z
      unfold f_X11_likely_L81
      rw [if_neg (show ¬ (36 : Int32) ≤ nI i from nI_ge (b := 36) hi (by decide)), if_pos iO_73, r_73_41 hRg, Option.bind_some, iA_95, if_pos (in_nI hi (by decide)), nI_clamp (by omega), nI_p1]; exact hz
theorem lik_M2 {P : Option (eH × Int32) → Prop} {k174 : eH → Nat → Int32 → Int32 → Int64 → Int32 → Int32 → Option (eH × Int32)} {h g0 : eH} {X : AX} {B s : Nat} {c t : Nat → Nat} {v1 v2 v5 : Int32} {v3 : Int64} (hR : RefsOK h) (hm : MI h X) (ho : okX B X) (hs : s < nF (xF X)) (og : only msc h g0) (h94 : LV g0 94 c) (h95 : LV g0 95 t) (y : ∀ g, only msc h g → LV g 94 c → LV g 95 (stH (toA (xF X) (xS X) s) (c s) t 4) → P (k174 g 73 v1 v2 v3 v5 (nI s))) : P (f_X11_likely_L117 LF e_fu k174 g0 73 v1 v2 v3 v5 (nI s) 0) := by
  have h36 := nF_le ho.1
  refine lpF (N := 4) (s := g0) (run := fun fu (g : eH) i => f_X11_likely_L117 LF fu k174 g 73 v1 v2 v3 v5 (nI s) (nI i)) (Inv := fun i g => only msc h g ∧ LV g 94 c ∧ LV g 95 (stH (toA (xF X) (xS X) s) (c s) t i)) (Post := P) (by decide) ⟨og, h94, h95⟩ ?_ ?_
  · rintro fu g ⟨g1, g2, g3⟩
    show P (f_X11_likely_L117 LF (fu + 1) k174 g 73 v1 v2 v3 v5 (nI s) (nI 4))
    unfold f_X11_likely_L117
    rw [if_pos (by decide)]
    exact y g g1 g2 g3
  · rintro i fu g hi ⟨g1, g2, g3⟩
    have g1 : only msc h g := g1
    have hRg := only_refs g1 hR
    have hmg := MI_scr g1 hm
    have tl := toA_lt (S := xS X) ho.1 hs hi
    have nx : stH (toA (xF X) (xS X) s) (c s) t (i + 1) = fun k => if k = toA (xF X) (xS X) s i then stH (toA (xF X) (xS X) s) (c s) t i (toA (xF X) (xS X) s i) + c s else stH (toA (xF X) (xS X) s) (c s) t i k := rfl
    generalize hT : stH (toA (xF X) (xS X) s) (c s) t i = T at g3 nx
    have sel : ∀ k117 : eH → Nat → Int32 → Int32 → Int64 → Int32 → Int32 → Int32 → Option (eH × Int32), ((f_X11_isFree LF g 73 76 (nb (xF X) s i)).bind fun r40 => if r40 = 0 then f_X11_likely_J157 LF k117 k174 g 73 v1 v2 v3 v5 (nI s) (nI i) 95 (nI s) else f_X11_likely_J157 LF k117 k174 g 73 v1 v2 v3 v5 (nI s) (nI i) 95 (nb (xF X) s i)) = f_X11_likely_J157 LF k117 k174 g 73 v1 v2 v3 v5 (nI s) (nI i) 95 (nI (toA (xF X) (xS X) s i)) := fun k117 => by
      unfold toA
      rcases nb_or ho.1 hs hi with e | ⟨w, w1, e⟩
      · rw [e, isFree_m, Option.bind_some, if_pos rfl, frI_m, if_neg (by decide)]
      · rw [e, isFree_k ho.1 hRg (Or.inl rfl) hmg.1 hmg.2.2.2.2.1 (by omega), Option.bind_some, frI_k (by omega), nI_clamp (by omega)]
        cases frA (xF X) (xS X) w with
        | true => rw [if_neg (show ¬ (if true = true then (1 : Int32) else 0) = 0 from i10), if_pos rfl]
        | false => rw [if_pos (show (if false = true then (1 : Int32) else 0) = 0 from rfl), if_neg (by decide)]
    refine Or.inr ⟨sL g 95 (toA (xF X) (xS X) s i) (lN (T (toA (xF X) (xS X) s i) + c s)), ⟨only_trans g1 (only_sL (by unfold msc; omega)), LV_only (W := fun j _ => j = 95) (only_sL rfl) (fun k => by omega) g2, by rw [nx]; exact LV_u g3 _ _⟩, fun z hz => ?_⟩
    show f_X11_likely_L117 LF (fu + 1) k174 g 73 v1 v2 v3 v5 (nI s) (nI i) = z
    unfold f_X11_likely_L117
    rw [if_neg (show ¬ (4 : Int32) ≤ nI i from nI_ge (b := 4) hi (by decide)), if_pos iO_73, beside_nb ho.1 hmg.1, Option.bind_some, r_73_41 hRg, Option.bind_some, r_73_7 hRg, Option.bind_some, sel]
    unfold f_X11_likely_J157
    rw [iA_95, if_pos (in_nI (by omega) (by decide)), if_pos iO_73, r_73_40 hRg, Option.bind_some, iA_94, if_pos (in_nI (by omega) (by decide)), nI_clamp (by omega), nI_clamp (by omega), g3 _ (by omega), g2 s (by omega), lM_add, Option.bind_some, nI_p1]
    exact hz
theorem lik_s {n : Nat} {k180 : eH → Nat → Int32 → Int32 → Int64 → Int32 → Option (eH × Int32)} {h : eH} {v0 : Nat} {v1 v2 v5 v6 : Int32} {v3 : Int64} : f_X11_likely_L105 LF (n + 1) k180 h v0 v1 v2 v3 v5 v6 = (if isO LF v0 11 = true then (f_X11_spots LF h v0).bind fun r31 => if r31 ≤ v6 then k180 h v0 v1 v2 v3 v5 else f_X11_likely_L117 LF e_fu (fun (h49 : eH) (w0_50 : Nat) (w1_51 : Int32) (w2_52 : Int32) (w3_53 : Int64) (w5_54 : Int32) (w6_55 : Int32) => f_X11_likely_L105 LF n k180 h49 w0_50 w1_51 w2_52 w3_53 w5_54 (w6_55 + Int32.ofInt 1)) h v0 v1 v2 v3 v5 v6 0 else none) := rfl
theorem lik_M3 {P : Option (eH × Int32) → Prop} {k180 : eH → Nat → Int32 → Int32 → Int64 → Int32 → Option (eH × Int32)} {h g0 : eH} {X : AX} {B : Nat} {c : Nat → Nat} {v1 v2 v5 : Int32} {v3 : Int64} (hR : RefsOK h) (hm : MI h X) (ho : okX B X) (og : only msc h g0) (h94 : LV g0 94 c) (h95 : LV g0 95 (fun _ => 0)) (y : ∀ g, only msc h g → LV g 95 (stO (xF X) (xS X) c (nF (xF X))) → P (k180 g 73 v1 v2 v3 v5)) : P (f_X11_likely_L105 LF e_fu k180 g0 73 v1 v2 v3 v5 0) := by
  have h36 := nF_le ho.1
  refine lpF (N := nF (xF X)) (s := g0) (run := fun fu (g : eH) i => f_X11_likely_L105 LF fu k180 g 73 v1 v2 v3 v5 (nI i)) (Inv := fun i g => only msc h g ∧ LV g 94 c ∧ LV g 95 (stO (xF X) (xS X) c i)) (Post := P) (by omega) ⟨og, h94, h95⟩ ?_ ?_
  · rintro fu g ⟨g1, g2, g3⟩
    show P (f_X11_likely_L105 LF (fu + 1) k180 g 73 v1 v2 v3 v5 (nI (nF (xF X))))
    rw [lik_s, if_pos iO_73, spots_M (MI_scr g1 hm).1, Option.bind_some, if_pos (nI_le (Nat.le_refl _) (by omega))]
    exact y g g1 g3
  · rintro i fu g hi ⟨g1, g2, g3⟩
    obtain ⟨g', hg'⟩ : ∃ g', (only msc h g' ∧ LV g' 94 c ∧ LV g' 95 (stO (xF X) (xS X) c (i + 1))) ∧ f_X11_likely_L117 LF e_fu (fun (h49 : eH) (w0_50 : Nat) (w1_51 : Int32) (w2_52 : Int32) (w3_53 : Int64) (w5_54 : Int32) (w6_55 : Int32) => f_X11_likely_L105 LF fu k180 h49 w0_50 w1_51 w2_52 w3_53 w5_54 (w6_55 + Int32.ofInt 1)) g 73 v1 v2 v3 v5 (nI i) 0 = f_X11_likely_L105 LF fu k180 g' 73 v1 v2 v3 v5 (nI (i + 1)) :=
      lik_M2 (P := fun r => ∃ g', (only msc h g' ∧ LV g' 94 c ∧ LV g' 95 (stO (xF X) (xS X) c (i + 1))) ∧ r = f_X11_likely_L105 LF fu k180 g' 73 v1 v2 v3 v5 (nI (i + 1))) hR hm ho hi g1 g2 g3 (fun g' b1 b2 b3 => ⟨g', ⟨b1, b2, b3⟩, by rw [nI_p1]⟩)
    refine Or.inr ⟨g', hg'.1, fun z hz => ?_⟩
    show f_X11_likely_L105 LF (fu + 1) k180 g 73 v1 v2 v3 v5 (nI i) = z
    rw [lik_s, if_pos iO_73, spots_M (MI_scr g1 hm).1, Option.bind_some, if_neg (nI_ge hi (by omega)), hg'.2]
    exact hz
theorem lik_M4 {P : Option (eH × Int32) → Prop} {k210 : eH → Nat → Int32 → Int32 → Int64 → Int32 → Option (eH × Int32)} {h g0 : eH} {c : Nat → Nat} {v1 v2 v5 : Int32} {v3 : Int64} (hR : RefsOK h) (og : only msc h g0) (h95 : LV g0 95 c) (y : ∀ g, only msc h g → LV g 94 c → P (k210 g 73 v1 v2 v3 v5)) : P (f_X11_likely_L183 LF e_fu k210 g0 73 v1 v2 v3 v5 0) := by
  refine lpF (N := 36) (s := g0) (run := fun fu (g : eH) i => f_X11_likely_L183 LF fu k210 g 73 v1 v2 v3 v5 (nI i)) (Inv := fun i g => only msc h g ∧ LV g 95 c ∧ ∀ k, k < i → gL g 94 k = lN (c k)) (Post := P) (by decide) ⟨og, h95, fun k hk => absurd hk (Nat.not_lt_zero k)⟩ ?_ ?_
  · rintro fu g ⟨g1, g2, g3⟩
    show P (f_X11_likely_L183 LF (fu + 1) k210 g 73 v1 v2 v3 v5 (nI 36))
    unfold f_X11_likely_L183
    rw [if_pos (by decide)]
    exact y g g1 g3
  · rintro i fu g hi ⟨g1, g2, g3⟩
    have g1 : only msc h g := g1
    have hRg := only_refs g1 hR
    refine Or.inr ⟨sL g 94 i (lN (c i)), ⟨only_trans g1 (only_sL (by unfold msc; omega)), LV_only (W := fun j _ => j = 94) (only_sL rfl) (fun k => by omega) g2, fun k hk => ?_⟩, fun z hz => ?_⟩
    · rw [gL_sL]
      by_cases e : k = i
      · rw [if_pos ⟨rfl, e⟩, e]
      · rw [if_neg (fun q => e q.2)]; exact g3 k (by omega)
    · show f_X11_likely_L183 LF (fu + 1) k210 g 73 v1 v2 v3 v5 (nI i) = z
      unfold f_X11_likely_L183
      rw [if_neg (show ¬ (36 : Int32) ≤ nI i from nI_ge (b := 36) hi (by decide)), if_pos iO_73, r_73_40 hRg, Option.bind_some, r_73_41 hRg, Option.bind_some, iA_95, if_pos (in_nI hi (by decide)), iA_94, if_pos (in_nI hi (by decide)), nI_clamp (by omega), g2 i hi, Option.bind_some, nI_p1]; exact hz
theorem lik_t {n : Nat} {k222 : eH → Nat → Int32 → Int64 → Option (eH × Int32)} {h : eH} {v0 : Nat} {v1 v2 v5 : Int32} {v3 : Int64} : f_X11_likely_L72 LF (n + 1) k222 h v0 v1 v2 v3 v5 = (if v1 ≤ v5 then k222 h v0 v2 v3 else f_X11_likely_L81 LF e_fu (fun (h24 : eH) (w0_25 : Nat) (w1_26 : Int32) (w2_27 : Int32) (w3_28 : Int64) (w5_29 : Int32) => f_X11_likely_L105 LF e_fu (fun (h56 : eH) (w0_57 : Nat) (w1_58 : Int32) (w2_59 : Int32) (w3_60 : Int64) (w5_61 : Int32) => f_X11_likely_L183 LF e_fu (fun (h71 : eH) (w0_72 : Nat) (w1_73 : Int32) (w2_74 : Int32) (w3_75 : Int64) (w5_76 : Int32) => f_X11_likely_L72 LF n k222 h71 w0_72 w1_73 w2_74 (w3_75 * 4) (w5_76 + Int32.ofInt 1)) h56 w0_57 w1_58 w2_59 w3_60 w5_61 0) h24 w0_25 w1_26 w2_27 w3_28 w5_29 0) h v0 v1 v2 v3 v5 0) := rfl
theorem likely_ML {P : Option (eH × Int32) → Prop} {k222 : eH → Nat → Int32 → Int64 → Option (eH × Int32)} {h g0 : eH} {X : AX} {B sp N : Nat} {v : Int32} (hR : RefsOK h) (hm : MI h X) (ho : okX B X) (hN : N ≤ 10) (og : only msc h g0) (h94 : LV g0 94 (chV (xF X) (xS X) sp 0)) (y : ∀ g, only msc h g → LV g 94 (chV (xF X) (xS X) sp N) → P (k222 g 73 v (lN (4 ^ N)))) : P (f_X11_likely_L72 LF e_fu k222 g0 73 (nI N) v 1 0) := by
  refine lpF (N := N) (s := (g0, (1 : Int64))) (run := fun fu (q : eH × Int64) i => f_X11_likely_L72 LF fu k222 q.1 73 (nI N) v q.2 (nI i)) (Inv := fun i q => only msc h q.1 ∧ LV q.1 94 (chV (xF X) (xS X) sp i) ∧ q.2 = lN (4 ^ i)) (Post := P) (by omega) ⟨og, h94, rfl⟩ ?_ ?_
  · rintro fu ⟨g, w⟩ ⟨g1, g2, g3⟩
    have g3 : w = lN (4 ^ N) := g3
    show P (f_X11_likely_L72 LF (fu + 1) k222 g 73 (nI N) v w (nI N))
    rw [lik_t, if_pos (nI_le (Nat.le_refl _) (by omega)), g3]
    exact y g g1 g2
  · rintro i fu ⟨g, w⟩ hi ⟨g1, g2, g3⟩
    have g1 : only msc h g := g1
    have g2 : LV g 94 (chV (xF X) (xS X) sp i) := g2
    have g3 : w = lN (4 ^ i) := g3
    have e4 : lN (4 ^ i) * 4 = lN (4 ^ (i + 1)) := by rw [show (4 : Int64) = lN 4 from rfl, lM_mul, ← Nat.pow_succ]
    obtain ⟨g', hg'⟩ : ∃ g', (only msc h g' ∧ LV g' 94 (chV (xF X) (xS X) sp (i + 1))) ∧ f_X11_likely_L72 LF (fu + 1) k222 g 73 (nI N) v w (nI i) = f_X11_likely_L72 LF fu k222 g' 73 (nI N) v (lN (4 ^ (i + 1))) (nI (i + 1)) := by
      rw [lik_t, if_neg (nI_ge hi (by omega)), g3]
      refine lik_M1 (P := fun r => ∃ g', (only msc h g' ∧ LV g' 94 (chV (xF X) (xS X) sp (i + 1))) ∧ r = f_X11_likely_L72 LF fu k222 g' 73 (nI N) v (lN (4 ^ (i + 1))) (nI (i + 1))) hR g1 g2 (fun ga a1 a2 a3 => ?_)
      refine lik_M3 (P := fun r => ∃ g', (only msc h g' ∧ LV g' 94 (chV (xF X) (xS X) sp (i + 1))) ∧ r = f_X11_likely_L72 LF fu k222 g' 73 (nI N) v (lN (4 ^ (i + 1))) (nI (i + 1))) hR hm ho a1 a2 a3 (fun gb b1 b2 => ?_)
      refine lik_M4 (P := fun r => ∃ g', (only msc h g' ∧ LV g' 94 (chV (xF X) (xS X) sp (i + 1))) ∧ r = f_X11_likely_L72 LF fu k222 g' 73 (nI N) v (lN (4 ^ (i + 1))) (nI (i + 1))) hR b1 b2 (fun gc c1 c2 => ?_)
      exact ⟨gc, ⟨c1, c2⟩, by rw [nI_p1, e4]⟩
    exact Or.inr ⟨(g', lN (4 ^ (i + 1))), ⟨hg'.1.1, hg'.1.2, rfl⟩, fun z hz => hg'.2.trans hz⟩
theorem likely_P {B : Nat} {h : eH} {X : AX} (hc : CI h X) (hm : MI h X) (ho : okX B X) (v w : Int32) : PR B (f_X10_likely LF h 0 v w) (fun h1 => f_X11_likely LF h1 73 v w) := by
  have in10 : f_X11_in v.toInt64 0 10 = if v < 0 then 0 else if nI 10 < v then 0 else 1 := in_00 v 10
  have h36 := nF_le ho.1
  obtain ⟨p, hp⟩ := hc.2.1
  have hM0 : ∀ h1, MI h1 X → MF (sI h1 73 0 0) (xF X) := fun h1 h9 => (MI_scr thr_M h9).1
  rcases pos_le v 10 (by decide) with hv | ⟨hv, hv2, hv3⟩ | ⟨N, hN, rfl⟩
  · refine PR_no hc hm ho (r := -1) ?_ (fun h1 hR h9 => ?_)
    · unfold f_X10_likely; rw [if_pos hv]
    · show f_X11_likely LF h1 73 v w = _
      unfold f_X11_likely; rw [if_pos iO_73, in10, if_pos hv, if_pos rfl]
  · refine PR_no hc hm ho (r := -1) ?_ (fun h1 hR h9 => ?_)
    · unfold f_X10_likely; rw [if_neg hv, if_pos (show (10 : Int32) < v from hv3)]
    · show f_X11_likely LF h1 73 v w = _
      unfold f_X11_likely; rw [if_pos iO_73, in10, if_neg hv, if_pos hv3, if_pos rfl]
  · have hin : ¬ f_X11_in (nI N).toInt64 0 10 = 0 := by rw [in10, if_neg (nI_pos (by omega)), if_neg (nI_nlt hN (by omega))]; exact i10
    have n10 : ¬ (10 : Int32) < nI N := nI_nlt (a := 10) hN (by decide)
    rcases spot_cases ho.1 w with ⟨x1, x2⟩ | ⟨k, k1, rfl, x1, x2⟩
    · refine PR_no hc hm ho (r := -1) ?_ (fun h1 hR h9 => ?_)
      · unfold f_X10_likely
        rw [if_neg (nI_pos (by omega)), if_neg n10, if_pos iO_0, hp.2.1, Option.bind_some, if_pos (p_O hp), has_eq hp, x1, Option.bind_some, if_pos rfl]
      · show f_X11_likely LF h1 73 (nI N) w = _
        unfold f_X11_likely
        rw [if_pos iO_73, if_neg hin, isSpot_eq (hM0 h1 h9) x2 (Or.inl rfl), Option.bind_some, if_pos rfl]
    · obtain ⟨sp, a1, a2, a3, a4⟩ := ho.2.2.2.1.1
      have hsp := kF_lt a2
      have lk := chV_le (S := xS X) (n := N) (k := k) ho.1 hsp (by omega)
      have l4 : 4 ^ N ≤ 4 ^ 10 := Nat.pow_le_pow_right (by decide) hN
      have l5 : 4 ^ 10 < 2 ^ 45 := by decide
      have l0 : 0 < 4 ^ N := Nat.pow_pos (by decide)
      refine PR_q hc hm ho (l := [lN (chV (xF X) (xS X) sp N k / Nat.gcd (chV (xF X) (xS X) sp N k) (4 ^ N)), lN (4 ^ N / Nat.gcd (chV (xF X) (xS X) sp N k) (4 ^ N))]) (r := 0) (by show 2 ≤ 37; omega) ?_ (fun h1 hR h9 => ?_)
      · obtain ⟨g1, f1, f2, f3⟩ := fillL (h := h) 0 (by decide) sh_61 (by decide)
        have og1 : only csc h g1 := only_mono (fun j k a => by unfold csc; omega) f3
        have hR1 := only_refs og1 hc.1
        have e1 : gI g1 46 1 = nI sp := (((CI_scr og1 hc).2.2.2.2.1).2.2.1 1 (by omega) (by omega)).trans a4
        have og2 : only csc h (sL g1 61 sp 1) := only_trans og1 (only_sL (by unfold csc; omega))
        have v61 : LV (sL g1 61 sp 1) 61 (chV (xF X) (xS X) sp 0) := LV_u (t := fun _ => 0) f2 sp 1
        unfold f_X10_likely
        rw [if_neg (nI_pos (by omega)), if_neg n10, if_pos iO_0, hp.2.1, Option.bind_some, if_pos (p_O hp), has_eq hp, x1, Option.bind_some, if_neg i10, r_0_13 hc.1, Option.bind_some, f1, Option.bind_some, r_0_7 hR1, Option.bind_some, if_pos iO_46, e1, if_neg (nI_pos (by omega)), Option.bind_some, if_pos iO_46, e1, if_neg (show ¬ (36 : Int32) ≤ nI sp from nI_ge (b := 36) a1 (by decide)), r_0_13 hR1, Option.bind_some, Option.bind_some, if_pos iO_46, e1, iA_61, if_pos (in_nI a1 (by decide)), nI_clamp (by omega)]
        refine likely_CL (P := fun r => ∃ h1, r = some (h1, _) ∧ CW h1 _ ∧ only cscW h h1) hc ho hsp hN og2 v61 (fun g og hv => ?_)
        have hRg := only_refs og hc.1
        obtain ⟨h', y1, y2, y3⟩ := tellF_C hRg (p := chV (xF X) (xS X) sp N k) (q := 4 ^ N) (by omega) (by omega) l0
        refine ⟨h', ?_, y2, only_trans (csc_w og) (row_w y3)⟩
        rw [if_pos iO_0, r_0_13 hRg, Option.bind_some, iA_61, if_pos (in_nI (by omega) (by decide)), nI_clamp (by omega), hv k (by omega), y1, Option.bind_some]
      · show ∃ h2, f_X11_likely LF h1 73 (nI N) (nI k) = _ ∧ _
        unfold f_X11_likely
        rw [if_pos iO_73, if_neg hin, isSpot_eq (hM0 h1 h9) x2 (Or.inr rfl), Option.bind_some, if_neg i10]
        refine lik_M0 (P := fun r => ∃ h2, r = some (h2, _) ∧ MW h2 _ ∧ only mscW h1 h2) hR h9 a1 a4 thr_M (fun ga b1 b2 => ?_)
        refine likely_ML (P := fun r => ∃ h2, r = some (h2, _) ∧ MW h2 _ ∧ only mscW h1 h2) hR h9 ho hN b1 b2 (fun g og hv => ?_)
        have hRg := only_refs og hR
        obtain ⟨h', y1, y2, y3⟩ := tellF_M hRg (p := chV (xF X) (xS X) sp N k) (q := 4 ^ N) (by omega) (by omega) l0
        refine ⟨h', ?_, y2, only_trans (msc_w og) (rowm_w y3)⟩
        rw [if_pos iO_73, r_73_40 hRg, Option.bind_some, iA_94, if_pos (in_nI (by omega) (by decide)), nI_clamp (by omega), hv k (by omega), y1, Option.bind_some]

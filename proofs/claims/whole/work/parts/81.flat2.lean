/-! flat: the reference reads its rows -/
def ixF (s : Nat) : Nat := if s = 35 then 0 else if s = 46 then 1 else if s = 114 then 2 else if s = 112 then 3 else 4
theorem ixF_a : ∀ s, s < 256 → ∀ i, i < 5 → sBy 0 i = nI s → kdO s ≠ none ∧ ixF s = i := by decide +kernel
theorem ixF_b : ∀ s, s < 256 → ∀ i, i < 3 → sBy 1 i = nI s → kdO s ≠ none ∧ plB s = false ∧ ixF s = i := by decide +kernel
def ixC (s : Nat) : Bool := if kdO s ≠ none then (decide (ixF s < 5) && decide (sBy 0 (ixF s) = nI s) && (if plB s then decide (3 ≤ ixF s) else (decide (ixF s < 3) && decide (sBy 1 (ixF s) = nI s))) && decide (kdO s = some (if ixF s = 0 then 0 else if ixF s = 1 then 1 else if ixF s = 3 then 1 else 2))) else true
theorem ixF_c : ∀ s, s < 256 → ixC s = true := by decide +kernel
theorem ixF_d {s : Nat} (hs : s < 256) (h : kdO s ≠ none) : ixF s < 5 ∧ sBy 0 (ixF s) = nI s ∧ (plB s = true → 3 ≤ ixF s) ∧ (¬ plB s = true → ixF s < 3 ∧ sBy 1 (ixF s) = nI s) ∧ kdO s = some (if ixF s = 0 then 0 else if ixF s = 1 then 1 else if ixF s = 3 then 1 else 2) := by
  have := ixF_c s hs
  unfold ixC at this
  rw [if_pos h] at this
  rw [Bool.and_eq_true, Bool.and_eq_true, Bool.and_eq_true] at this
  obtain ⟨⟨⟨a1, a2⟩, a3⟩, a4⟩ := this
  refine ⟨of_decide_eq_true a1, of_decide_eq_true a2, fun b => ?_, fun b => ?_, of_decide_eq_true a4⟩
  · rw [if_pos b] at a3; exact of_decide_eq_true a3
  · rw [if_neg b, Bool.and_eq_true] at a3; exact ⟨of_decide_eq_true a3.1, of_decide_eq_true a3.2⟩
abbrev aF (c : Nat → Nat) (lim a : Nat) (pl : Option Nat) : Prop := a < lim ∧ acF (c a) pl
def itI (c : Nat → Nat) (lim a : Nat) (pl : Option Nat) : Int32 := if aF c lim a pl then nI (ixF (c a)) else -1
theorem its_0 {g : eH} {c : Nat → Nat} {lim a : Nat} (hR : RefsOK g) (h : RD g c lim a) : f_X11_among LF g 73 (e_str + 0) = some (itI c lim a none) := by
  unfold itI
  rcases among_M hR h (show 0 < 7 by decide) with ⟨i, x1, x2, x3, x4, x5⟩ | ⟨x1, x2⟩
  · have := ixF_a _ (h.2.2.1 a x1).2 i x2 x3
    rw [if_pos ⟨x1, this.1, fun y => y.2 rfl⟩, this.2]; exact x5
  · rw [if_neg]
    · exact x2
    · rintro ⟨y1, y2, y3⟩
      have := ixF_d (h.2.2.1 a y1).2 y2
      exact x1 y1 _ this.1 this.2.1
theorem its_1 {g : eH} {c : Nat → Nat} {lim a p : Nat} (hR : RefsOK g) (h : RD g c lim a) : f_X11_among LF g 73 (e_str + 1) = some (itI c lim a (some p)) := by
  unfold itI
  rcases among_M hR h (show 1 < 7 by decide) with ⟨i, x1, x2, x3, x4, x5⟩ | ⟨x1, x2⟩
  · have := ixF_b _ (h.2.2.1 a x1).2 i x2 x3
    rw [if_pos ⟨x1, this.1, fun y => by rw [this.2.1] at y; cases y.1⟩, this.2.2]; exact x5
  · rw [if_neg]
    · exact x2
    · rintro ⟨y1, y2, y3⟩
      have := ixF_d (h.2.2.1 a y1).2 y2
      have b : ¬ plB (c a) = true := fun b => y3 ⟨b, fun z => by cases z⟩
      exact x1 y1 _ (this.2.2.2.1 b).1 (this.2.2.2.1 b).2
theorem its_k {α : Type} {g : eH} {c : Nat → Nat} {lim a : Nat} {pl : Option Nat} (hR : RefsOK g) (h : RD g c lim a) (h16 : gI g 73 16 = plO pl) (hp : ∀ x, pl = some x → x < 36) (K : Int32 → Option α) : (if 0 ≤ (gI g 73 16) then (f_X11_among LF g 73 (e_str + 1)).bind K else (f_X11_among LF g 73 (e_str + 0)).bind K) = K (itI c lim a pl) := by
  rw [h16]
  cases pl with
  | none => rw [if_neg (show ¬ (0 : Int32) ≤ plO none by decide), its_0 hR h]; rfl
  | some p =>
    have := hp p rfl
    rw [if_pos (show (0 : Int32) ≤ plO (some p) from nI_le (a := 0) (b := p) (by omega) (by omega)), its_1 (p := p) hR h]; rfl
def MFS (g : eH) (q : FSt) : Prop := gI g 73 16 = plO q.2.2.2.1 ∧ ∀ k, k < q.1 * q.2.2.1 + q.2.1 → gI g 79 k = nI (q.2.2.2.2 k)
def rfW (j k : Nat) : Prop := (j = 73 ∧ (k = 11 ∨ k = 15 ∨ k = 16)) ∨ j = 79
theorem L36_s {n : Nat} {k160 : eH → Nat → Int32 → Int32 → Option (eH × Int32)} {h : eH} {v1 v2 v3 v4 : Int32} : f_X11_readsRow_L36 LF (n + 1) k160 h 73 v1 v2 v3 v4 = (if v2 ≤ v3 then k160 h 73 v1 v3 else if v4 < 0 then k160 h 73 v1 v3 else if isO LF 73 11 = true then if v2 = (gI (sI h 73 11 ((gI h 73 11) + 1)) 73 15) then f_X11_readsRow_J80 LF (f_X11_readsRow_L36 LF n k160) k160 (sI h 73 11 ((gI h 73 11) + 1)) 73 v1 v2 v3 v4 (((gI (sI h 73 11 ((gI h 73 11) + 1)) 73 15) * v1) + v3) else if v1 ≤ 0 then f_X11_readsRow_J80 LF (f_X11_readsRow_L36 LF n k160) k160 (sI h 73 11 ((gI h 73 11) + 1)) 73 v1 v2 v3 v4 v3 else f_X11_readsRow_J80 LF (f_X11_readsRow_L36 LF n k160) k160 (sI h 73 11 ((gI h 73 11) + 1)) 73 v1 v2 v3 v4 (((gI (sI h 73 11 ((gI h 73 11) + 1)) 73 15) * v1) + v3) else none) := rfl
/-- one sign of a row is laid down -/
theorem J80_k {g : eH} {c : Nat → Nat} {lim a t k s : Nat} {pl : Option Nat} {K : eH → Nat → Int32 → Int32 → Int32 → Int32 → Option (eH × Int32)} {k160 : eH → Nat → Int32 → Int32 → Option (eH × Int32)} {v1 v2 : Int32} {x : Nat} (hR : RefsOK g) (hd : RD g c lim a) (ht : t < 36) (hs : s < 256) (hk : kdO s = some k) (h16 : gI g 73 16 = plO pl) (hp : ∀ z, pl = some z → z < 36) : f_X11_readsRow_J80 LF K k160 g 73 v1 v2 (nI x) (nI (ixF s)) (nI t) = K (sI (sI g 79 t (nI k)) 73 16 (plO (if plB s then some t else pl))) 73 v1 v2 (nI (x + 1)) (itI c lim a (if plB s then some t else pl)) := by
  have nk : kdO s ≠ none := by rw [hk]; exact fun z => by cases z
  obtain ⟨d1, d2, d3, d4, d5⟩ := ixF_d hs nk
  rw [hk] at d5
  have d5 := Option.some.inj d5
  have J114 : ∀ v, v = nI k → f_X11_readsRow_J114 LF K k160 g 73 v1 v2 (nI x) (nI (ixF s)) (nI t) 79 (nI t) v = K (sI (sI g 79 t (nI k)) 73 16 (plO (if plB s then some t else pl))) 73 v1 v2 (nI (x + 1)) (itI c lim a (if plB s then some t else pl)) := fun v hv => by
    subst hv
    have e16 : gI (sI g 79 t (nI k)) 73 16 = plO pl := by rw [gI_sI, if_neg (by omega)]; exact h16
    have J131 : ∀ s1, s1 = plO (if plB s then some t else pl) → f_X11_readsRow_J131 LF K k160 (sI g 79 t (nI k)) 73 v1 v2 (nI x) 73 s1 = K (sI (sI g 79 t (nI k)) 73 16 (plO (if plB s then some t else pl))) 73 v1 v2 (nI (x + 1)) (itI c lim a (if plB s then some t else pl)) := fun s1 hs1 => by
      subst hs1
      have hd2 : RD (sI (sI g 79 t (nI k)) 73 16 (plO (if plB s then some t else pl))) c lim a := RD_only (W := fun j k => j = 79 ∨ (j = 73 ∧ k = 16)) (only_trans (only_sI (Or.inl rfl)) (only_sI (Or.inr ⟨rfl, rfl⟩))) (by omega) (by omega) (fun k => by omega) hd
      unfold f_X11_readsRow_J131
      rw [if_pos iO_73, if_pos iO_73, nI_p1]
      exact its_k (refs_sI (refs_sI hR)) hd2 (by rw [gI_sI, if_pos ⟨rfl, rfl⟩]) (fun z hz => by
        by_cases b : plB s = true
        · rw [if_pos b] at hz; cases hz; exact ht
        · rw [if_neg b] at hz; exact hp z hz) (fun r => K (sI (sI g 79 t (nI k)) 73 16 (plO (if plB s then some t else pl))) 73 v1 v2 (nI (x + 1)) r)
    unfold f_X11_readsRow_J114
    rw [iA_79, if_pos (in_nI ht (by decide)), nI_clamp (by omega)]
    by_cases b : plB s = true
    · have := d3 b
      rw [if_neg (show ¬ nI (ixF s) ≤ 2 from nI_ge (a := 2) (by omega) (by omega)), J131 _ (by rw [if_pos b]; rfl)]
    · have := (d4 b).1
      rw [if_pos (show nI (ixF s) ≤ 2 from nI_le (b := 2) (by omega) (by decide)), if_pos iO_73, e16, J131 _ (by rw [if_neg b])]
  unfold f_X11_readsRow_J80
  rw [if_pos iO_73, r_73_14 hR, Option.bind_some]
  generalize ixF s = i at d1 d5 J114 ⊢
  rcases (show i = 0 ∨ i = 1 ∨ i = 2 ∨ i = 3 ∨ i = 4 by omega) with rfl | rfl | rfl | rfl | rfl
  · rw [if_pos (show nI 0 = 0 from rfl)]; exact J114 0 (by rw [d5]; rfl)
  · rw [if_neg (show ¬ nI 1 = 0 by decide), if_pos (show nI 1 = 1 from rfl)]; exact J114 1 (by rw [d5]; rfl)
  · rw [if_neg (show ¬ nI 2 = 0 by decide), if_neg (show ¬ nI 2 = 1 by decide), if_neg (show ¬ nI 2 = 3 by decide)]; exact J114 2 (by rw [d5]; rfl)
  · rw [if_neg (show ¬ nI 3 = 0 by decide), if_neg (show ¬ nI 3 = 1 by decide), if_pos (show nI 3 = 3 from rfl)]; exact J114 1 (by rw [d5]; rfl)
  · rw [if_neg (show ¬ nI 4 = 0 by decide), if_neg (show ¬ nI 4 = 1 by decide), if_neg (show ¬ nI 4 = 3 by decide)]; exact J114 2 (by rw [d5]; rfl)
theorem rowL_M {P : Option (eH × Int32) → Prop} {k160 : eH → Nat → Int32 → Int32 → Option (eH × Int32)} {h g0 : eH} {c : Nat → Nat} {lim a0 y w : Nat} {q0 : FSt} (hR : RefsOK h) (og : only rfW h g0) (hd : RD g0 c lim a0) (hf : flS c a0 = some q0) (hy : q0.1 = y) (hx : q0.2.1 = 0) (hw : q0.2.2.1 = w) (hm : MFS g0 q0) (h15 : gI g0 73 15 = if y = 0 then 0 else nI w) (yE : ∀ g x q, only rfW h g → RD g c lim (a0 + x) → flS c (a0 + x) = some q → q.1 = y → q.2.1 = x → q.2.2.1 = w → MFS g q → gI g 73 15 = (if y = 0 then 0 else nI w) → (x = w ∨ ¬ aF c lim (a0 + x) q.2.2.2.1) → P (k160 g 73 (nI y) (nI x))) : P (f_X11_readsRow_L36 LF e_fu k160 g0 73 (nI y) (nI w) 0 (itI c lim a0 q0.2.2.2.1)) := by
  have h256 : ∀ k, k < lim → c k < 256 := fun k hk => (hd.2.2.1 k hk).2
  have l80 := hd.2.2.2.1
  have oq0 := okFS_S (fun k hk => h256 k (by have := hd.2.2.2.2; omega)) hf
  have w6 : w ≤ 6 := by rw [← hw]; exact oq0.2.2.2.1
  have y5 : y ≤ 5 := by rw [← hy]; exact oq0.1
  refine lpF (N := w) (s := (g0, q0)) (run := fun fu (u : eH × FSt) x => f_X11_readsRow_L36 LF fu k160 u.1 73 (nI y) (nI w) (nI x) (itI c lim (a0 + x) u.2.2.2.2.1)) (Inv := fun x u => only rfW h u.1 ∧ RD u.1 c lim (a0 + x) ∧ flS c (a0 + x) = some u.2 ∧ u.2.1 = y ∧ u.2.2.1 = x ∧ u.2.2.2.1 = w ∧ MFS u.1 u.2 ∧ gI u.1 73 15 = (if y = 0 then 0 else nI w)) (Post := P) (by omega) ⟨og, hd, hf, hy, hx, hw, hm, h15⟩ ?_ ?_
  · rintro fu ⟨g, q⟩ ⟨a1, a2, a3, a4, a5, a6, a7, a8⟩
    show P (f_X11_readsRow_L36 LF (fu + 1) k160 g 73 (nI y) (nI w) (nI w) (itI c lim (a0 + w) q.2.2.2.1))
    rw [L36_s, if_pos (nI_le (Nat.le_refl _) (by omega))]
    exact yE g w q a1 a2 a3 a4 a5 a6 a7 a8 (Or.inl rfl)
  · rintro x fu ⟨g, q⟩ hi ⟨a1, a2, a3, a4, a5, a6, a7, a8⟩
    have a1 : only rfW h g := a1
    have a2 : RD g c lim (a0 + x) := a2
    have a3 : flS c (a0 + x) = some q := a3
    have a4 : q.1 = y := a4
    have a5 : q.2.1 = x := a5
    have a6 : q.2.2.1 = w := a6
    have a7 : MFS g q := a7
    have a8 : gI g 73 15 = (if y = 0 then 0 else nI w) := a8
    have hRg := only_refs a1 hR
    have nN : ¬ nI w ≤ nI x := nI_ge hi (by omega)
    by_cases ac : aF c lim (a0 + x) q.2.2.2.1
    · obtain ⟨b1, b2, b3⟩ := id ac
      have ca := h256 _ b1
      obtain ⟨k, hk⟩ : ∃ k, kdO (c (a0 + x)) = some k := by
        cases z : kdO (c (a0 + x)) with
        | none => exact absurd z b2
        | some k => exact ⟨k, rfl⟩
      have n47 : c (a0 + x) ≠ 47 := fun z => by rw [z] at hk; cases hk
      have oq := okFS_S (fun k hk => h256 k (by omega)) a3
      have t36 := okFS_t oq (show q.2.1 < q.2.2.1 by omega)
      have nx : flS c (a0 + (x + 1)) = some (ptF (c (a0 + x)) k q) := by
        show flS c (a0 + x + 1) = _
        rw [flS_s a3, fl1_put n47 (by omega) hk b3]
      have et : q.1 * q.2.2.1 + q.2.1 = y * w + x := by rw [a4, a5, a6]
      rw [et] at t36
      have hd1 : RD (sI g 73 11 (nI (a0 + x + 1))) c lim (a0 + x + 1) := RD_n a2 (by omega)
      have hR1 : RefsOK (sI g 73 11 (nI (a0 + x + 1))) := refs_sI hRg
      have e16 : gI (sI g 73 11 (nI (a0 + x + 1))) 73 16 = plO q.2.2.2.1 := by rw [gI_sI, if_neg (by omega)]; exact a7.1
      have e15 : gI (sI g 73 11 (nI (a0 + x + 1))) 73 15 = (if y = 0 then 0 else nI w) := by rw [gI_sI, if_neg (by omega)]; exact a8
      have hpl : ∀ z, q.2.2.2.1 = some z → z < 36 := fun z hz => by have := (oq.2.2.2.2.2.1 z hz).1; omega
      have oG : only rfW g (sI (sI (sI g 73 11 (nI (a0 + x + 1))) 79 (y * w + x) (nI k)) 73 16 (plO (if plB (c (a0 + x)) then some (y * w + x) else q.2.2.2.1))) := only_trans (only_sI (by unfold rfW; omega)) (only_trans (only_sI (by unfold rfW; omega)) (only_sI (by unfold rfW; omega)))
      refine Or.inr ⟨(sI (sI (sI g 73 11 (nI (a0 + x + 1))) 79 (y * w + x) (nI k)) 73 16 (plO (if plB (c (a0 + x)) then some (y * w + x) else q.2.2.2.1)), ptF (c (a0 + x)) k q), ⟨only_trans a1 oG, RD_only (W := fun j k => j = 79 ∨ (j = 73 ∧ k = 16)) (only_trans (only_sI (Or.inl rfl)) (only_sI (Or.inr ⟨rfl, rfl⟩))) (by omega) (by omega) (fun k => by omega) hd1, nx, a4, congrArg (· + 1) a5, a6, ⟨?_, fun j hj => ?_⟩, ?_⟩, fun z hz => ?_⟩
      · show gI (sI (sI (sI g 73 11 (nI (a0 + x + 1))) 79 (y * w + x) (nI k)) 73 16 _) 73 16 = plO (if plB (c (a0 + x)) then some (q.1 * q.2.2.1 + q.2.1) else q.2.2.2.1)
        rw [gI_sI, if_pos ⟨rfl, rfl⟩, et]
      · have hj : j < q.1 * q.2.2.1 + (q.2.1 + 1) := hj
        show gI (sI (sI (sI g 73 11 (nI (a0 + x + 1))) 79 (y * w + x) (nI k)) 73 16 _) 79 j = nI (if j = q.1 * q.2.2.1 + q.2.1 then k else q.2.2.2.2 j)
        rw [gI_sI, if_neg (by omega), gI_sI, et]
        by_cases z : j = y * w + x
        · rw [if_pos ⟨rfl, z⟩, if_pos z]
        · rw [if_neg (fun u => z u.2), if_neg z, gI_sI, if_neg (by omega)]; exact a7.2 j (by omega)
      · show gI (sI (sI (sI g 73 11 (nI (a0 + x + 1))) 79 (y * w + x) (nI k)) 73 16 _) 73 15 = _
        rw [gI_sI, if_neg (by omega), gI_sI, if_neg (by omega)]; exact e15
      · show f_X11_readsRow_L36 LF (fu + 1) k160 g 73 (nI y) (nI w) (nI x) (itI c lim (a0 + x) q.2.2.2.1) = z
        have hz : f_X11_readsRow_L36 LF fu k160 (sI (sI (sI g 73 11 (nI (a0 + x + 1))) 79 (y * w + x) (nI k)) 73 16 (plO (if plB (c (a0 + x)) then some (y * w + x) else q.2.2.2.1))) 73 (nI y) (nI w) (nI (x + 1)) (itI c lim (a0 + (x + 1)) (if plB (c (a0 + x)) then some (q.1 * q.2.2.1 + q.2.1) else q.2.2.2.1)) = z := hz
        rw [et] at hz
        have ei : itI c lim (a0 + x) q.2.2.2.1 = nI (ixF (c (a0 + x))) := if_pos ac
        have ix5 := (ixF_d ca b2).1
        have fin := J80_k (K := f_X11_readsRow_L36 LF fu k160) (k160 := k160) (v1 := nI y) (v2 := nI w) (x := x) hR1 hd1 t36 ca hk e16 hpl
        rw [L36_s, if_neg nN, ei, if_neg (nI_pos (by omega)), if_pos iO_73, a2.2.1, show nI (a0 + x) + 1 = nI (a0 + x + 1) from nI_add _ 1, e15]
        by_cases y0 : y = 0
        · have w6' : w = 6 := by rw [← a6]; exact oq.2.2.2.2.1 (by rw [a4]; exact y0)
          rw [if_pos y0, if_neg (show ¬ nI w = 0 by rw [w6']; decide), if_pos (show nI y ≤ 0 by rw [y0]; decide)]
          have ex : y * w + x = x := by rw [y0, Nat.zero_mul, Nat.zero_add]
          rw [ex] at fin hz
          rw [fin]; exact hz
        · rw [if_neg y0, if_pos rfl, show nI w * nI y + nI x = nI (y * w + x) by rw [pk_mul, nI_add, Nat.mul_comm], fin]; exact hz
    · refine Or.inl ?_
      show P (f_X11_readsRow_L36 LF (fu + 1) k160 g 73 (nI y) (nI w) (nI x) (itI c lim (a0 + x) q.2.2.2.1))
      rw [L36_s, if_neg nN, if_pos (show itI c lim (a0 + x) q.2.2.2.1 < 0 by unfold itI; rw [if_neg ac]; decide)]
      exact yE g x q a1 a2 a3 a4 a5 a6 a7 a8 (Or.inr ac)
/-- how the reference stands behind a row -/
def rowE (g : eH) (c : Nat → Nat) (lim a : Nat) (q : FSt) : Prop := RD g c lim a ∧ flS c a = some q ∧ MFS g q ∧ (whF q → gI g 73 15 = nI q.2.1) ∧ (q.2.1 = q.2.2.1 ∨ ¬ aF c lim a q.2.2.2.1)
theorem row_M {g0 : eH} {c : Nat → Nat} {lim a0 : Nat} {q0 : FSt} (hR : RefsOK g0) (hd : RD g0 c lim a0) (hf : flS c a0 = some q0) (hx : q0.2.1 = 0) (hm : MFS g0 q0) (h15 : gI g0 73 15 = if q0.1 = 0 then 0 else nI q0.2.2.1) : ∃ g a q, f_X11_readsRow LF g0 73 (nI q0.1) = some (g, if whF q then 1 else 0) ∧ q.1 = q0.1 ∧ rowE g c lim a q ∧ only rfW g0 g := by
  have h256 : ∀ k, k < lim → c k < 256 := fun k hk => (hd.2.2.1 k hk).2
  have oq0 := okFS_S (fun k hk => h256 k (by have := hd.2.2.2.2; omega)) hf
  have pre : f_X11_readsRow LF g0 73 (nI q0.1) = f_X11_readsRow_J13 LF g0 73 (nI q0.1) (nI q0.2.2.1) := by
    unfold f_X11_readsRow
    by_cases z : q0.1 = 0
    · rw [if_pos (by rw [z]; rfl), oq0.2.2.2.2.1 z]; rfl
    · rw [if_neg (nI_ne0 (by have := oq0.1; omega) (by have := oq0.1; omega)), if_pos iO_73, h15, if_neg z]
  have J169 : ∀ g q, flS c a0 = some q0 → okFS q → (whF q → gI g 73 15 = nI q.2.1) → (q.1 ≠ 0 → gI g 73 15 = nI q.2.2.1) → f_X11_readsRow_J169 LF g 73 (nI q.2.1) = some (g, if whF q then 1 else 0) := fun g q _ ho e1 e2 => by
    obtain ⟨o1, o2, o3, o4, -⟩ := ho
    unfold f_X11_readsRow_J169
    by_cases w : whF q
    · have p : 0 < q.2.1 := by
        unfold whF at w
        by_cases z : q.1 = 0
        · rw [if_pos z] at w; exact w
        · rw [if_neg z] at w; omega
      rw [if_neg (show ¬ nI q.2.1 ≤ 0 from nI_ge (a := 0) p (by omega)), if_pos iO_73, e1 w, if_pos rfl, if_pos w]
    · rw [if_neg w]
      by_cases p : 0 < q.2.1
      · have z : q.1 ≠ 0 := fun z => w (by unfold whF; rw [if_pos z]; exact p)
        rw [if_neg (show ¬ nI q.2.1 ≤ 0 from nI_ge (a := 0) p (by omega)), if_pos iO_73, e2 z, if_neg (fun e => w (by unfold whF; rw [if_neg z]; exact nI_inj (by omega) (by omega) e))]
      · rw [if_pos (show nI q.2.1 ≤ 0 from nI_le (b := 0) (by omega) (by decide))]
  rw [pre]
  unfold f_X11_readsRow_J13
  rw [if_pos iO_73]
  have hpl : ∀ z, q0.2.2.2.1 = some z → z < 36 := fun z hz => by
    have := (oq0.2.2.2.2.2.1 z hz).1
    have := Nat.mul_le_mul oq0.1 oq0.2.2.2.1
    omega
  rw [its_k hR hd hm.1 hpl]
  refine rowL_M (P := fun o => ∃ g a q, o = some (g, if whF q then 1 else 0) ∧ q.1 = q0.1 ∧ rowE g c lim a q ∧ only rfW g0 g) hR only_rfl hd hf rfl hx rfl hm h15 (fun g x q o1 o2 o3 o4 o5 o6 o7 o8 o9 => ?_)
  have oq := okFS_S (fun k hk => h256 k (by have := o2.2.2.2.2; omega)) o3
  by_cases z : q0.1 = 0
  · have on : only rfW g (sI g 73 15 (nI q.2.1)) := only_sI (by unfold rfW; omega)
    have e15 : gI (sI g 73 15 (nI q.2.1)) 73 15 = nI q.2.1 := by rw [gI_sI, if_pos ⟨rfl, rfl⟩]
    refine ⟨sI g 73 15 (nI q.2.1), a0 + x, q, ?_, o4, ⟨RD_only (W := fun j k => j = 73 ∧ k = 15) (only_sI ⟨rfl, rfl⟩) (by omega) (by omega) (fun k => by omega) o2, o3, ⟨by rw [gI_sI, if_neg (by omega)]; exact o7.1, fun k hk => by rw [gI_sI, if_neg (by omega)]; exact o7.2 k hk⟩, fun _ => e15, by rw [o5, o6]; exact o9⟩, only_trans o1 on⟩
    show (if nI q0.1 = 0 then if isO LF 73 11 = true then f_X11_readsRow_J169 LF (sI g 73 15 (nI x)) 73 (nI x) else none else f_X11_readsRow_J169 LF g 73 (nI x)) = _
    rw [if_pos (by rw [z]; rfl), if_pos iO_73, ← o5]
    exact J169 _ q hf oq (fun _ => e15) (fun n => absurd (o4.trans z) n)
  · rw [if_neg z] at o8
    have wx : whF q → gI g 73 15 = nI q.2.1 := fun w => by
      unfold whF at w
      rw [if_neg (by rw [o4]; exact z)] at w
      rw [w, o6]; exact o8
    refine ⟨g, a0 + x, q, ?_, o4, ⟨o2, o3, o7, wx, by rw [o5, o6]; exact o9⟩, o1⟩
    show (if nI q0.1 = 0 then if isO LF 73 11 = true then f_X11_readsRow_J169 LF (sI g 73 15 (nI x)) 73 (nI x) else none else f_X11_readsRow_J169 LF g 73 (nI x)) = _
    rw [if_neg (nI_ne0 (by have := oq0.1; omega) (by have := oq0.1; omega)), ← o5]
    exact J169 _ q hf oq wx (fun _ => by rw [o6]; exact o8)
theorem L33_s {n : Nat} {k64 : eH → Nat → Int32 → Int32 → Option (eH × Int32)} {h : eH} {v1 v2 : Int32} : f_X11_flat_L33 LF (n + 1) k64 h 73 v1 v2 = (if v2 = 0 then k64 h 73 v1 v2 else if 6 ≤ v1 then k64 h 73 v1 v2 else if isO LF 73 11 = true then (f_X11_takes LF h 73 47).bind fun r7 => if r7.2 = 0 then k64 r7.1 73 v1 v2 else (f_X11_readsRow LF r7.1 73 v1).bind fun r9 => f_X11_flat_L33 LF n k64 r9.1 73 (v1 + Int32.ofInt 1) r9.2 else none) := rfl
theorem rowE_11 {g : eH} {c : Nat → Nat} {lim a : Nat} {q : FSt} (h : rowE g c lim a q) : rowE (sI g 73 11 (nI a)) c lim a q := ⟨RD_n h.1 h.1.2.2.2.2, h.2.1, ⟨by rw [gI_sI, if_neg (by omega)]; exact h.2.2.1.1, fun k hk => by rw [gI_sI, if_neg (by omega)]; exact h.2.2.1.2 k hk⟩, fun w => by rw [gI_sI, if_neg (by omega)]; exact h.2.2.2.1 w, h.2.2.2.2⟩
theorem rowsL_M {P : Option (eH × Int32) → Prop} {k64 : eH → Nat → Int32 → Int32 → Option (eH × Int32)} {h g0 : eH} {c : Nat → Nat} {lim a0 : Nat} {q0 : FSt} (hR : RefsOK h) (og : only rfW h g0) (hE : rowE g0 c lim a0 q0) (h0 : q0.1 = 0) (yE : ∀ g a q, only rfW h g → rowE g c lim a q → (whF q → q.1 = 5 ∨ ¬ (a < lim ∧ c a = 47)) → P (k64 g 73 (nI (q.1 + 1)) (if whF q then 1 else 0))) : P (f_X11_flat_L33 LF e_fu k64 g0 73 1 (if whF q0 then 1 else 0)) := by
  have key : P (f_X11_flat_L33 LF e_fu k64 g0 73 (nI 1) (if whF q0 then 1 else 0)) := by
    refine lpF1 (N := 6) (s := (g0, a0, q0)) (run := fun fu (u : eH × Nat × FSt) y => f_X11_flat_L33 LF fu k64 u.1 73 (nI y) (if whF u.2.2 then 1 else 0)) (Inv := fun y u => only rfW h u.1 ∧ rowE u.1 c lim u.2.1 u.2.2 ∧ u.2.2.1 + 1 = y) (Post := P) (by decide) (by decide) ⟨og, hE, by show q0.1 + 1 = 1; omega⟩ ?_ ?_
    · rintro fu ⟨g, a, q⟩ ⟨a1, a2, a3⟩
      have a2 : rowE g c lim a q := a2
      have a3 : q.1 + 1 = 6 := a3
      have yy := yE g a q a1 a2 (fun _ => Or.inl (by omega))
      rw [a3] at yy
      show P (f_X11_flat_L33 LF (fu + 1) k64 g 73 (nI 6) (if whF q then 1 else 0))
      rw [L33_s]
      by_cases w : whF q
      · rw [if_pos w] at yy ⊢
        rw [if_neg i10, if_pos (show (6 : Int32) ≤ nI 6 by decide)]; exact yy
      · rw [if_neg w] at yy ⊢
        rw [if_pos rfl]; exact yy
    · rintro y fu ⟨g, a, q⟩ hy ⟨a1, a2, a3⟩
      have a1 : only rfW h g := a1
      have a2 : rowE g c lim a q := a2
      have a3 : q.1 + 1 = y := a3
      have hRg := only_refs a1 hR
      by_cases w : whF q
      · rcases takes_M (w := 47) hRg a2.1 (by decide) with ⟨b1, b2⟩ | ⟨b1, b2⟩
        · have b2 : f_X11_takes LF g 73 47 = some (sI g 73 11 (nI (a + 1)), 1) := b2
          have n5 : q.1 ≠ 5 := by omega
          have nx : flS c (a + 1) = some (q.1 + 1, 0, q.2.1, q.2.2.2.1, q.2.2.2.2) := by rw [flS_s a2.2.1, b1.2, fl1_slash w n5]
          have hm : MFS (sI g 73 11 (nI (a + 1))) (q.1 + 1, 0, q.2.1, q.2.2.2.1, q.2.2.2.2) := ⟨by rw [gI_sI, if_neg (by omega)]; exact a2.2.2.1.1, fun k hk => by
            have hk : k < (q.1 + 1) * q.2.1 + 0 := hk
            rw [gI_sI, if_neg (by omega)]
            refine a2.2.2.1.2 k ?_
            have w1 := w
            unfold whF at w1
            rw [Nat.succ_mul] at hk
            by_cases z : q.1 = 0
            · rw [z, Nat.zero_mul] at hk ⊢; omega
            · rw [if_neg z] at w1; rw [← w1]; omega⟩
          obtain ⟨g', a', q', c1, c2, c3, c4⟩ := row_M (g0 := sI g 73 11 (nI (a + 1))) (refs_sI hRg) (RD_n a2.1 (by omega)) nx rfl hm (by rw [gI_sI, if_neg (by omega), if_neg (show ¬ q.1 + 1 = 0 by omega)]; exact a2.2.2.2.1 w)
          have c1 : f_X11_readsRow LF (sI g 73 11 (nI (a + 1))) 73 (nI (q.1 + 1)) = some (g', if whF q' then 1 else 0) := c1
          have c2 : q'.1 = q.1 + 1 := c2
          refine Or.inr ⟨(g', a', q'), ⟨only_trans a1 (only_trans (only_sI (by unfold rfW; omega)) c4), c3, by show q'.1 + 1 = y + 1; omega⟩, fun z hz => ?_⟩
          show f_X11_flat_L33 LF (fu + 1) k64 g 73 (nI y) (if whF q then 1 else 0) = z
          rw [L33_s, if_pos w, if_neg i10, if_neg (show ¬ (6 : Int32) ≤ nI y from nI_ge (b := 6) hy (by decide)), if_pos iO_73, b2, Option.bind_some]
          show (if (1 : Int32) = 0 then _ else (f_X11_readsRow LF (sI g 73 11 (nI (a + 1))) 73 (nI y)).bind fun r9 => f_X11_flat_L33 LF fu k64 r9.1 73 (nI y + Int32.ofInt 1) r9.2) = z
          rw [if_neg i10, ← a3, c1, Option.bind_some, nI_p1, a3]
          exact hz
        · have b2 : f_X11_takes LF g 73 47 = some (sI g 73 11 (nI a), 0) := b2
          refine Or.inl ?_
          have yy := yE (sI g 73 11 (nI a)) a q (only_trans a1 (only_sI (by unfold rfW; omega))) (rowE_11 a2) (fun _ => Or.inr b1)
          rw [a3] at yy
          show P (f_X11_flat_L33 LF (fu + 1) k64 g 73 (nI y) (if whF q then 1 else 0))
          rw [if_pos w] at yy ⊢
          rw [L33_s, if_neg i10, if_neg (show ¬ (6 : Int32) ≤ nI y from nI_ge (b := 6) hy (by decide)), if_pos iO_73, b2, Option.bind_some]
          show P (if (0 : Int32) = 0 then k64 (sI g 73 11 (nI a)) 73 (nI y) 1 else _)
          rw [if_pos rfl]; exact yy
      · refine Or.inl ?_
        have yy := yE g a q a1 a2 (fun x => absurd x w)
        rw [a3] at yy
        show P (f_X11_flat_L33 LF (fu + 1) k64 g 73 (nI y) (if whF q then 1 else 0))
        rw [if_neg w] at yy ⊢
        rw [L33_s, if_pos rfl]; exact yy
  exact key

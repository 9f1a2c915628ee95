/-! looks -/
theorem or0i (x : Int32) : x ||| 0 = x := by
  apply Int32.toBitVec_inj.mp
  rw [Int32.toBitVec_or]
  show x.toBitVec ||| 0#32 = _
  exact BitVec.or_zero
theorem kind_k {h : eH} {p k : Nat} {F : FV} (hF : okF F) (hR : RefsOK h) (hp : CF h p F) (hk : k < nF F) : f_X2_kindOf LF h p (nI k) = some (nI (kF F k)) := by
  have h36 := nF_le hF
  have hrp : gR h p 0 = some (p + 1) := by
    rcases hp.1 with e | e
    · subst e; exact r_63_0 hR
    · subst e; exact r_65_0 hR
  have hip : ∀ i, inA LF (p + 1) 0 i = (!(decide (i < 0)) && decide (i.toNatClampNeg < 36)) := fun i => by
    rcases hp.1 with e | e
    · subst e; exact iA_64 i
    · subst e; exact iA_66 i
  unfold f_X2_kindOf
  rw [if_neg (nI_pos (by omega)), if_neg (show ¬ (36 : Int32) ≤ nI k from nI_ge (b := 36) (by omega) (by decide)), if_pos (p_O hp), hrp, Option.bind_some, hip, if_pos (in_nI (N := 36) (by omega) (by decide)), nI_clamp (by omega), hp.2.2.2.2.2.2.2.2.2.2 k hk]
def lkT (r c q s : Nat) : Nat := if q = 1 then s % c * c + (c - 1 - s / c) else if q = 2 then (r - 1 - s / c) * c + (c - 1 - s % c) else if q = 3 then (c - 1 - s % c) * c + s / c else s / c * c + (c - 1 - s % c)
def lkI (r c q s : Int32) : Int32 := if q = 1 then ((((s - s / c * c) * c) + c) - 1) - (s / c) else if q = 2 then (((((r - 1) - (s / c)) * c) + c) - 1) - (s - s / c * c) else if q = 3 then (((c - 1) - (s - s / c * c)) * c) + (s / c) else ((((s / c) * c) + c) - 1) - (s - s / c * c)
def lkIb (r c s q : Nat) : Bool := decide (¬ (q = 2 ∨ q = 4 ∨ r = c) ∨ (lkI (nI r) (nI c) (nI q) (nI s) = nI (lkT r c q s) ∧ lkT r c q s < r * c))
theorem lkI_k0 : ∀ r, r < 7 → ∀ c, c < 7 → ∀ s, s < r * c → ∀ q, q < 5 → lkIb r c s q = true := by decide +kernel
theorem lkI_k (r : Nat) (hr : r < 7) (c : Nat) (hc : c < 7) (s : Nat) (hs : s < r * c) (q : Nat) (hq : q < 5) (h : q = 2 ∨ q = 4 ∨ r = c) : lkI (nI r) (nI c) (nI q) (nI s) = nI (lkT r c q s) ∧ lkT r c q s < r * c := (of_decide_eq_true (lkI_k0 r hr c hc s hs q hq)).resolve_left (fun a => a h)
theorem lkT_inv : ∀ c, c < 7 → ∀ s, s < c * c → lkT c c 3 (lkT c c 1 s) = s ∧ lkT c c 1 (lkT c c 3 s) = s := by decide +kernel
/-- the spot that the class looks at -/
def lkJ (r c q y x : Int32) : Int32 := (if q = 2 then (r - 1) - y else if q = 1 then (r - 1) - x else x) * c + (if q = 2 then (c - 1) - x else if q = 1 then y else (c - 1) - y)
def lkJb (r c y x q : Nat) : Bool := decide (¬ (1 ≤ q ∧ (q = 2 ∨ r = c)) ∨ (lkJ (nI r) (nI c) (nI q) (nI y) (nI x) = nI (lkT r c (4 - q) (y * c + x)) ∧ nI y * nI c + nI x = nI (y * c + x) ∧ y * c + x < r * c))
theorem lkJ_k0 : ∀ r, r < 7 → ∀ c, c < 7 → ∀ y, y < r → ∀ x, x < c → ∀ q, q < 4 → lkJb r c y x q = true := by decide +kernel
theorem lkJ_k (r : Nat) (hr : r < 7) (c : Nat) (hc : c < 7) (y : Nat) (hy : y < r) (x : Nat) (hx : x < c) (q : Nat) (hq : q < 4) (h1 : 1 ≤ q) (h : q = 2 ∨ r = c) : lkJ (nI r) (nI c) (nI q) (nI y) (nI x) = nI (lkT r c (4 - q) (y * c + x)) ∧ nI y * nI c + nI x = nI (y * c + x) ∧ y * c + x < r * c := (of_decide_eq_true (lkJ_k0 r hr c hc y hy x hx q hq)).resolve_left (fun a => a ⟨h1, h⟩)
theorem lkK_k : ∀ r, r < 7 → ∀ c, c < 7 → ∀ y, y < r → ∀ x, x < c → (((nI y * nI c) + nI c) - 1) - nI x = nI (lkT r c 4 (y * c + x)) ∧ nI y * nI c + nI x = nI (y * c + x) ∧ y * c + x < r * c := by decide +kernel
def lkP (F : FV) (q n : Nat) : Prop := ∀ s, s < n → kF F (lkT F.1 F.2.1 q s) = kF F s
theorem lkP_s {F : FV} {q n : Nat} (h : lkP F q n) (e : kF F (lkT F.1 F.2.1 q n) = kF F n) : lkP F q (n + 1) := fun s hs => by
  by_cases q : s = n
  · subst q; exact e
  · exact h s (by omega)
def lkb (F : FV) (q : Nat) : Int32 := if (q = 2 ∨ q = 4 ∨ F.1 = F.2.1) ∧ ∀ s, s < nF F → kF F (lkT F.1 F.2.1 q s) = kF F s then 1 else 0
theorem lkb_1 {F : FV} {q : Nat} (h : q = 2 ∨ q = 4 ∨ F.1 = F.2.1) (h2 : lkP F q (nF F)) : lkb F q = 1 := by unfold lkb; rw [if_pos ⟨h, h2⟩]
theorem lkb_0 {F : FV} {q : Nat} (h2 : ¬ lkP F q (nF F)) : lkb F q = 0 := by unfold lkb; rw [if_neg (fun a => h2 a.2)]
theorem lkb_n {F : FV} {q : Nat} (h : ¬ (q = 2 ∨ q = 4 ∨ F.1 = F.2.1)) : lkb F q = 0 := by unfold lkb; rw [if_neg (fun a => h a.1)]
theorem lkb_01 (F : FV) (q : Nat) : lkb F q = 0 ∨ lkb F q = 1 := by
  unfold lkb
  split
  · exact Or.inr rfl
  · exact Or.inl rfl
/-- turned the other way it looks the same too -/
theorem lkb_4 {F : FV} {q : Nat} (hF : okF F) (h1 : 1 ≤ q) (h3 : q ≤ 3) : lkb F (4 - q) = lkb F q := by
  have inv : ∀ c, c < 7 → F.1 = c → F.2.1 = c → ∀ a b, (a = 1 ∧ b = 3) ∨ (a = 3 ∧ b = 1) → lkP F a (nF F) → lkP F b (nF F) := fun c hc e1 e2 a b hab hp s hs => by
    have hn : nF F = c * c := by unfold nF; rw [e1, e2]
    rw [hn] at hs hp
    have hb : b < 5 := by omega
    have l := (lkI_k c hc c hc s hs b hb (Or.inr (Or.inr rfl))).2
    have hq := hp (lkT c c b s) l
    rw [e1, e2] at hq ⊢
    have hi := lkT_inv c hc s hs
    rcases hab with ⟨rfl, rfl⟩ | ⟨rfl, rfl⟩
    · rw [hi.2] at hq; exact hq.symm
    · rw [hi.1] at hq; exact hq.symm
  rcases (show q = 1 ∨ q = 2 ∨ q = 3 by omega) with rfl | rfl | rfl
  · show lkb F 3 = lkb F 1
    by_cases e : F.1 = F.2.1
    · have c7 : F.2.1 < 7 := by have := hF.2.2.2.1; omega
      by_cases p : lkP F 1 (nF F)
      · rw [lkb_1 (Or.inr (Or.inr e)) p, lkb_1 (Or.inr (Or.inr e)) (inv _ c7 e rfl 1 3 (Or.inl ⟨rfl, rfl⟩) p)]
      · rw [lkb_0 p, lkb_0 (fun a => p (inv _ c7 e rfl 3 1 (Or.inr ⟨rfl, rfl⟩) a))]
    · rw [lkb_n (by omega), lkb_n (by omega)]
  · rfl
  · show lkb F 1 = lkb F 3
    by_cases e : F.1 = F.2.1
    · have c7 : F.2.1 < 7 := by have := hF.2.2.2.1; omega
      by_cases p : lkP F 1 (nF F)
      · rw [lkb_1 (Or.inr (Or.inr e)) p, lkb_1 (Or.inr (Or.inr e)) (inv _ c7 e rfl 1 3 (Or.inl ⟨rfl, rfl⟩) p)]
      · rw [lkb_0 p, lkb_0 (fun a => p (inv _ c7 e rfl 3 1 (Or.inr ⟨rfl, rfl⟩) a))]
    · rw [lkb_n (by omega), lkb_n (by omega)]
theorem nI_k2 {F : FV} (hF : okF F) {a b : Nat} : nI (kF F a) = nI (kF F b) ↔ kF F a = kF F b := nI_eq (by have := kF_le hF a; omega) (by have := kF_le hF b; omega)
theorem lk_C1 {P : Option Int32 → Prop} {k137 : Option Int32} {k145 : Nat → Int32 → Int32 → Option Int32} {h : eH} {p q y : Nat} {F : FV} (hF : okF F) (hR : RefsOK h) (hp : CF h p F) (q1 : 1 ≤ q) (q3 : q ≤ 3) (qc : q = 2 ∨ F.1 = F.2.1) (hy : y < F.1) (hP : lkP F (4 - q) (y * F.2.1)) (y1 : lkP F (4 - q) ((y + 1) * F.2.1) → P (k145 p (nI q) (nI y))) (y0 : ¬ lkP F (4 - q) ((y + 1) * F.2.1) → P k137) : P (f_X2_looksTurned_L30 LF h e_fu k137 k145 p (nI q) (nI y) 0) := by
  obtain ⟨f1, f2, f3, f4, f5⟩ := id hF
  have g1 : gI h p 1 = nI F.1 := hp.2.2.2.1
  have g2 : gI h p 2 = nI F.2.1 := hp.2.2.2.2.1
  refine lpF (N := F.2.1) (s := ()) (run := fun fu (_ : Unit) i => f_X2_looksTurned_L30 LF h fu k137 k145 p (nI q) (nI y) (nI i)) (Inv := fun i _ => lkP F (4 - q) (y * F.2.1 + i)) (Post := P) (by omega) hP ?_ ?_
  · rintro fu _ hv
    show P (f_X2_looksTurned_L30 LF h (fu + 1) k137 k145 p (nI q) (nI y) (nI F.2.1))
    unfold f_X2_looksTurned_L30
    rw [if_pos (p_O hp), g2, if_pos (nI_le (Nat.le_refl _) (by omega))]
    exact y1 (by rw [Nat.succ_mul]; exact hv)
  · rintro i fu _ hi hv
    have nN : ¬ nI F.2.1 ≤ nI i := nI_ge hi (by omega)
    obtain ⟨e1, e2, e3⟩ := lkJ_k F.1 (by omega) F.2.1 (by omega) y hy i hi q (by omega) q1 qc
    have l4 := (lkI_k F.1 (by omega) F.2.1 (by omega) _ e3 (4 - q) (by omega) (by omega)).2
    have hs : ∀ k30, (if (nI q) = 2 then f_X2_looksTurned_J71 LF h k30 k137 k145 p (nI q) (nI y) (nI i) (((gI h p 1) - 1) - (nI y)) else if (nI q) = 1 then f_X2_looksTurned_J71 LF h k30 k137 k145 p (nI q) (nI y) (nI i) (((gI h p 1) - 1) - (nI i)) else f_X2_looksTurned_J71 LF h k30 k137 k145 p (nI q) (nI y) (nI i) (nI i)) = if kF F (lkT F.1 F.2.1 (4 - q) (y * F.2.1 + i)) = kF F (y * F.2.1 + i) then k30 p (nI q) (nI y) (nI i + Int32.ofInt 1) else k137 := fun k30 => by
      have fin : ∀ a b, a * nI F.2.1 + b = lkJ (nI F.1) (nI F.2.1) (nI q) (nI y) (nI i) → f_X2_looksTurned_J106 LF h k30 k137 k145 p (nI q) (nI y) (nI i) a b = if kF F (lkT F.1 F.2.1 (4 - q) (y * F.2.1 + i)) = kF F (y * F.2.1 + i) then k30 p (nI q) (nI y) (nI i + Int32.ofInt 1) else k137 := fun a b e => by
        unfold f_X2_looksTurned_J106
        rw [if_pos (p_O hp), g2, e, e1, kind_k hF hR hp l4, Option.bind_some, e2, kind_k hF hR hp e3, Option.bind_some]
        by_cases qq : kF F (lkT F.1 F.2.1 (4 - q) (y * F.2.1 + i)) = kF F (y * F.2.1 + i)
        · rw [if_pos qq, if_pos ((nI_k2 hF).mpr qq)]
        · rw [if_neg qq, if_neg (fun w => qq ((nI_k2 hF).mp w))]
      unfold f_X2_looksTurned_J71
      rcases (show q = 1 ∨ q = 2 ∨ q = 3 by omega) with rfl | rfl | rfl
      · rw [if_neg (show ¬ nI 1 = 2 by decide), if_pos (show nI 1 = 1 from rfl), if_neg (show ¬ nI 1 = 2 by decide), if_pos (show nI 1 = 1 from rfl), g1]
        exact fin _ _ (by unfold lkJ; rw [if_neg (show ¬ nI 1 = 2 by decide), if_pos (show nI 1 = 1 from rfl), if_neg (show ¬ nI 1 = 2 by decide), if_pos (show nI 1 = 1 from rfl)])
      · rw [if_pos (show nI 2 = 2 from rfl), if_pos (show nI 2 = 2 from rfl), if_pos (p_O hp), g1, g2]
        exact fin _ _ (by unfold lkJ; rw [if_pos (show nI 2 = 2 from rfl), if_pos (show nI 2 = 2 from rfl)])
      · rw [if_neg (show ¬ nI 3 = 2 by decide), if_neg (show ¬ nI 3 = 1 by decide), if_neg (show ¬ nI 3 = 2 by decide), if_neg (show ¬ nI 3 = 1 by decide), if_pos (p_O hp), g2]
        exact fin _ _ (by unfold lkJ; rw [if_neg (show ¬ nI 3 = 2 by decide), if_neg (show ¬ nI 3 = 1 by decide), if_neg (show ¬ nI 3 = 2 by decide), if_neg (show ¬ nI 3 = 1 by decide)])
    by_cases qq : kF F (lkT F.1 F.2.1 (4 - q) (y * F.2.1 + i)) = kF F (y * F.2.1 + i)
    · refine Or.inr ⟨(), lkP_s hv qq, fun z hz => ?_⟩
      show f_X2_looksTurned_L30 LF h (fu + 1) k137 k145 p (nI q) (nI y) (nI i) = z
      unfold f_X2_looksTurned_L30
      rw [if_pos (p_O hp), if_neg (show ¬ gI h p 2 ≤ nI i by rw [g2]; exact nN), hs, if_pos qq, nI_p1]; exact hz
    · refine Or.inl ?_
      show P (f_X2_looksTurned_L30 LF h (fu + 1) k137 k145 p (nI q) (nI y) (nI i))
      unfold f_X2_looksTurned_L30
      rw [if_pos (p_O hp), if_neg (show ¬ gI h p 2 ≤ nI i by rw [g2]; exact nN), hs, if_neg qq]
      exact y0 (fun a => qq (a _ (by rw [Nat.succ_mul]; omega)))
theorem lk_C2 {P : Option Int32 → Prop} {k137 k151 : Option Int32} {h : eH} {p q : Nat} {F : FV} (hF : okF F) (hR : RefsOK h) (hp : CF h p F) (q1 : 1 ≤ q) (q3 : q ≤ 3) (qc : q = 2 ∨ F.1 = F.2.1) (y1 : lkP F (4 - q) (nF F) → P k151) (y0 : ¬ lkP F (4 - q) (nF F) → P k137) : P (f_X2_looksTurned_L20 LF h e_fu k137 k151 p (nI q) 0) := by
  obtain ⟨f1, f2, f3, f4, f5⟩ := id hF
  have g1 : gI h p 1 = nI F.1 := hp.2.2.2.1
  refine lpX (N := F.1) (run := fun fu (_ : Unit) i => f_X2_looksTurned_L20 LF h fu k137 k151 p (nI q) (nI i)) (Inv := fun i _ => lkP F (4 - q) (i * F.2.1)) (Post := P) ?_ ?_ F.1 0 e_fu () (by omega) (by unfold e_fu; omega) (fun s hs => absurd hs (by omega))
  · rintro fu _ hv
    show P (f_X2_looksTurned_L20 LF h (fu + 1) k137 k151 p (nI q) (nI F.1))
    unfold f_X2_looksTurned_L20
    rw [if_pos (p_O hp), g1, if_pos (nI_le (Nat.le_refl _) (by omega))]
    exact y1 hv
  · rintro i fu _ hi hv
    have nN : ¬ nI F.1 ≤ nI i := nI_ge hi (by omega)
    by_cases qq : lkP F (4 - q) ((i + 1) * F.2.1)
    · refine Or.inr ⟨(), qq, fun z hz => ?_⟩
      have hz : f_X2_looksTurned_L20 LF h fu k137 k151 p (nI q) (nI (i + 1)) = z := hz
      show f_X2_looksTurned_L20 LF h (fu + 1) k137 k151 p (nI q) (nI i) = z
      unfold f_X2_looksTurned_L20
      rw [if_pos (p_O hp), g1, if_neg nN]
      exact lk_C1 (P := fun r => r = z) hF hR hp q1 q3 qc hi hv (fun _ => by rw [nI_p1]; exact hz) (fun a => absurd qq a)
    · refine Or.inl ?_
      show P (f_X2_looksTurned_L20 LF h (fu + 1) k137 k151 p (nI q) (nI i))
      unfold f_X2_looksTurned_L20
      rw [if_pos (p_O hp), g1, if_neg nN]
      exact lk_C1 (P := P) hF hR hp q1 q3 qc hi hv (fun a => absurd a qq) (fun a => y0 (fun b => a (fun s hs => b s (Nat.lt_of_lt_of_le hs (Nat.mul_le_mul_right _ hi)))))
theorem lk_C {h : eH} {p q : Nat} {F : FV} (hF : okF F) (hR : RefsOK h) (hp : CF h p F) (q1 : 1 ≤ q) (q3 : q ≤ 3) : f_X2_looksTurned LF h p (nI q) = some (lkb F q) := by
  have g1 : gI h p 1 = nI F.1 := hp.2.2.2.1
  have g2 : gI h p 2 = nI F.2.1 := hp.2.2.2.2.1
  rw [← lkb_4 hF q1 q3]
  have fin : q = 2 ∨ F.1 = F.2.1 → f_X2_looksTurned_L20 LF h e_fu (some 0) (some 1) p (nI q) 0 = some (lkb F (4 - q)) := fun qc => lk_C2 (P := fun r => r = some (lkb F (4 - q))) hF hR hp q1 q3 qc (fun a => by rw [lkb_1 (by omega) a]) (fun a => by rw [lkb_0 a])
  unfold f_X2_looksTurned
  by_cases e2 : q = 2
  · rw [if_pos (by rw [e2]; rfl)]; exact fin (Or.inl e2)
  · rw [if_neg (show ¬ nI q = 2 from fun a => e2 (nI_inj (b := 2) (by omega) (by omega) a)), if_pos (p_O hp), g1, g2]
    obtain ⟨f1, f2, f3, f4, f5⟩ := id hF
    by_cases e : F.1 = F.2.1
    · rw [if_pos (by rw [e])]; exact fin (Or.inr e)
    · rw [if_neg (fun a => e (nI_inj (by omega) (by omega) a)), lkb_n (by omega)]
theorem mi_C1 {P : Option Int32 → Prop} {k54 : Option Int32} {k62 : Nat → Int32 → Option Int32} {h : eH} {p y : Nat} {F : FV} (hF : okF F) (hR : RefsOK h) (hp : CF h p F) (hy : y < F.1) (hP : lkP F 4 (y * F.2.1)) (y1 : lkP F 4 ((y + 1) * F.2.1) → P (k62 p (nI y))) (y0 : ¬ lkP F 4 ((y + 1) * F.2.1) → P k54) : P (f_X2_looksMirrored_L12 LF h e_fu k54 k62 p (nI y) 0) := by
  obtain ⟨f1, f2, f3, f4, f5⟩ := id hF
  have g2 : gI h p 2 = nI F.2.1 := hp.2.2.2.2.1
  refine lpF (N := F.2.1) (s := ()) (run := fun fu (_ : Unit) i => f_X2_looksMirrored_L12 LF h fu k54 k62 p (nI y) (nI i)) (Inv := fun i _ => lkP F 4 (y * F.2.1 + i)) (Post := P) (by omega) hP ?_ ?_
  · rintro fu _ hv
    show P (f_X2_looksMirrored_L12 LF h (fu + 1) k54 k62 p (nI y) (nI F.2.1))
    unfold f_X2_looksMirrored_L12
    rw [if_pos (p_O hp), g2, if_pos (nI_le (Nat.le_refl _) (by omega))]
    exact y1 (by rw [Nat.succ_mul]; exact hv)
  · rintro i fu _ hi hv
    have nN : ¬ nI F.2.1 ≤ nI i := nI_ge hi (by omega)
    obtain ⟨e1, e2, e3⟩ := lkK_k F.1 (by omega) F.2.1 (by omega) y hy i hi
    have l4 := (lkI_k F.1 (by omega) F.2.1 (by omega) _ e3 4 (by omega) (by omega)).2
    by_cases qq : kF F (lkT F.1 F.2.1 4 (y * F.2.1 + i)) = kF F (y * F.2.1 + i)
    · refine Or.inr ⟨(), lkP_s hv qq, fun z hz => ?_⟩
      show f_X2_looksMirrored_L12 LF h (fu + 1) k54 k62 p (nI y) (nI i) = z
      unfold f_X2_looksMirrored_L12
      rw [if_pos (p_O hp), g2, if_neg nN, e1, kind_k hF hR hp l4, Option.bind_some, e2, kind_k hF hR hp e3, Option.bind_some, if_pos ((nI_k2 hF).mpr qq), nI_p1]; exact hz
    · refine Or.inl ?_
      show P (f_X2_looksMirrored_L12 LF h (fu + 1) k54 k62 p (nI y) (nI i))
      unfold f_X2_looksMirrored_L12
      rw [if_pos (p_O hp), g2, if_neg nN, e1, kind_k hF hR hp l4, Option.bind_some, e2, kind_k hF hR hp e3, Option.bind_some, if_neg (fun w => qq ((nI_k2 hF).mp w))]
      exact y0 (fun a => qq (a _ (by rw [Nat.succ_mul]; omega)))
theorem mi_C {h : eH} {p : Nat} {F : FV} (hF : okF F) (hR : RefsOK h) (hp : CF h p F) : f_X2_looksMirrored LF h p = some (lkb F 4) := by
  obtain ⟨f1, f2, f3, f4, f5⟩ := id hF
  have g1 : gI h p 1 = nI F.1 := hp.2.2.2.1
  unfold f_X2_looksMirrored
  refine lpX (N := F.1) (run := fun fu (_ : Unit) i => f_X2_looksMirrored_L2 LF h fu (some 0) (some 1) p (nI i)) (Inv := fun i _ => lkP F 4 (i * F.2.1)) (Post := fun r => r = some (lkb F 4)) ?_ ?_ F.1 0 e_fu () (by omega) (by unfold e_fu; omega) (fun s hs => absurd hs (by omega))
  · rintro fu _ hv
    show f_X2_looksMirrored_L2 LF h (fu + 1) (some 0) (some 1) p (nI F.1) = _
    unfold f_X2_looksMirrored_L2
    rw [if_pos (p_O hp), g1, if_pos (nI_le (Nat.le_refl _) (by omega)), lkb_1 (by omega) hv]
  · rintro i fu _ hi hv
    have nN : ¬ nI F.1 ≤ nI i := nI_ge hi (by omega)
    by_cases qq : lkP F 4 ((i + 1) * F.2.1)
    · refine Or.inr ⟨(), qq, fun z hz => ?_⟩
      have hz : f_X2_looksMirrored_L2 LF h fu (some 0) (some 1) p (nI (i + 1)) = z := hz
      show f_X2_looksMirrored_L2 LF h (fu + 1) (some 0) (some 1) p (nI i) = z
      unfold f_X2_looksMirrored_L2
      rw [if_pos (p_O hp), g1, if_neg nN]
      exact mi_C1 (P := fun r => r = z) hF hR hp hi hv (fun _ => by rw [nI_p1]; exact hz) (fun a => absurd qq a)
    · refine Or.inl ?_
      show f_X2_looksMirrored_L2 LF h (fu + 1) (some 0) (some 1) p (nI i) = _
      unfold f_X2_looksMirrored_L2
      rw [if_pos (p_O hp), g1, if_neg nN]
      exact mi_C1 (P := fun r => r = some (lkb F 4)) hF hR hp hi hv (fun a => absurd a qq) (fun a => by rw [lkb_0 (fun b => a (fun s hs => b s (Nat.lt_of_lt_of_le hs (Nat.mul_le_mul_right _ hi))))])
theorem tt_M {h : eH} {q s : Nat} {F : FV} (hF : okF F) (hm : MF h F) (q1 : 1 ≤ q) (q4 : q ≤ 4) (qc : q = 2 ∨ q = 4 ∨ F.1 = F.2.1) (hs : s < nF F) : f_X11_turnedTo LF h 73 (nI s) (nI q) = some (nI (lkT F.1 F.2.1 q s)) := by
  obtain ⟨f1, f2, f3, f4, f5⟩ := id hF
  have e := (lkI_k F.1 (by omega) F.2.1 (by omega) s hs q (by omega) qc).1
  have n0 : ¬ nI F.2.1 = 0 := nI_ne0 (by omega) (by omega)
  unfold f_X11_turnedTo
  rw [if_pos iO_73, hm.2.1, hm.1, if_neg n0, if_neg n0, ← e]
  unfold lkI
  split
  · rfl
  · split
    · rfl
    · split <;> rfl
theorem lk_M1 {h : eH} {q : Nat} {F : FV} {v : Int32} (hF : okF F) (hR : RefsOK h) (hm : MF h F) (q1 : 1 ≤ q) (q4 : q ≤ 4) (hv : (v = 1 ∧ (q = 2 ∨ q = 4 ∨ F.1 = F.2.1)) ∨ (v = 0 ∧ lkb F q = 0)) : f_X11_looksSame_L25 LF h e_fu (fun (w : Int32) => if isB w = true then some w else none) 73 (nI q) v 0 = some (lkb F q) := by
  have h36 := nF_le hF
  have bb : ∀ w : Int32, w = 0 ∨ w = 1 → isB w = true := fun w hw => by
    rcases hw with rfl | rfl <;> decide
  refine lpF (N := nF F) (s := v) (run := fun fu (v : Int32) i => f_X11_looksSame_L25 LF h fu (fun (w : Int32) => if isB w = true then some w else none) 73 (nI q) v (nI i)) (Inv := fun i v => (v = 1 ∧ (q = 2 ∨ q = 4 ∨ F.1 = F.2.1) ∧ lkP F q i) ∨ (v = 0 ∧ lkb F q = 0)) (Post := fun r => r = some (lkb F q)) (by omega) (by rcases hv with ⟨a, b⟩ | a; exact Or.inl ⟨a, b, fun s hs => absurd hs (by omega)⟩; exact Or.inr a) ?_ ?_
  · rintro fu v hv
    show f_X11_looksSame_L25 LF h (fu + 1) _ 73 (nI q) v (nI (nF F)) = _
    unfold f_X11_looksSame_L25
    rw [if_pos iO_73, spots_M hm, Option.bind_some, if_pos (nI_le (Nat.le_refl _) (by omega))]
    rcases hv with ⟨a, b, c⟩ | ⟨a, b⟩
    · show (if isB v = true then some v else none) = _
      rw [lkb_1 b c, if_pos (bb v (Or.inr a)), a]
    · show (if isB v = true then some v else none) = _
      rw [b, if_pos (bb v (Or.inl a)), a]
  · rintro i fu v hi hv
    have nN : ¬ nI (nF F) ≤ nI i := nI_ge hi (by omega)
    rcases hv with ⟨a, b, c⟩ | ⟨a, b⟩
    · have l4 := (lkI_k F.1 (by have := hF.2.1; omega) F.2.1 (by have := hF.2.2.2.1; omega) i hi q (by omega) b).2
      have l4 : lkT F.1 F.2.1 q i < nF F := l4
      have un : ∀ k69, f_X11_looksSame_L25 LF h (fu + 1) k69 73 (nI q) v (nI i) = if kF F i = kF F (lkT F.1 F.2.1 q i) then f_X11_looksSame_L25 LF h fu k69 73 (nI q) 1 (nI (i + 1)) else f_X11_looksSame_L25 LF h fu k69 73 (nI q) 0 (nI (i + 1)) := fun k69 => by
        show (if isO LF 73 11 = true then (f_X11_spots LF h 73).bind fun r2 => if r2 ≤ nI i then k69 v else if v = 0 then k69 v else (gR h 73 6).bind fun b4 => if inA LF b4 0 (nI i) = true then (gR h 73 6).bind fun b7 => (f_X11_turnedTo LF h 73 (nI i) (nI q)).bind fun r9 => if inA LF b7 0 r9 = true then if (gI h b4 (nI i).toNatClampNeg) = (gI h b7 r9.toNatClampNeg) then f_X11_looksSame_L25 LF h fu k69 73 (nI q) 1 (nI i + Int32.ofInt 1) else f_X11_looksSame_L25 LF h fu k69 73 (nI q) 0 (nI i + Int32.ofInt 1) else none else none else none) = _
        rw [if_pos iO_73, spots_M hm, Option.bind_some, if_neg nN, a, if_neg i10, r_73_6 hR, Option.bind_some, iA_75, if_pos (in_nI (N := 36) (by omega) (by decide)), Option.bind_some, tt_M hF hm q1 q4 b hi, Option.bind_some, iA_75, if_pos (in_nI (N := 36) (by omega) (by decide)), nI_clamp (by omega), nI_clamp (by omega), hm.2.2.2 i (by omega), hm.2.2.2 _ (by omega), nI_p1]
        by_cases qq : kF F i = kF F (lkT F.1 F.2.1 q i)
        · rw [if_pos qq, if_pos ((nI_k2 hF).mpr qq)]
        · rw [if_neg qq, if_neg (fun w => qq ((nI_k2 hF).mp w))]
      by_cases qq : kF F i = kF F (lkT F.1 F.2.1 q i)
      · refine Or.inr ⟨1, Or.inl ⟨rfl, b, lkP_s c qq.symm⟩, fun z hz => ?_⟩
        rw [un, if_pos qq]; exact hz
      · refine Or.inr ⟨0, Or.inr ⟨rfl, lkb_0 (fun w => qq (w i hi).symm)⟩, fun z hz => ?_⟩
        rw [un, if_neg qq]; exact hz
    · refine Or.inl ?_
      show f_X11_looksSame_L25 LF h (fu + 1) _ 73 (nI q) v (nI i) = _
      unfold f_X11_looksSame_L25
      rw [if_pos iO_73, spots_M hm, Option.bind_some, if_neg nN, if_pos a, b]
      show (if isB v = true then some v else none) = _
      rw [if_pos (bb v (Or.inl a)), a]
theorem lk_M {h : eH} {q : Nat} {F : FV} (hF : okF F) (hR : RefsOK h) (hm : MF h F) (q1 : 1 ≤ q) (q4 : q ≤ 4) : f_X11_looksSame LF h 73 (nI q) = some (lkb F q) := by
  obtain ⟨f1, f2, f3, f4, f5⟩ := id hF
  unfold f_X11_looksSame
  by_cases e2 : q = 2 ∨ q = 4
  · rw [if_pos (by rcases e2 with rfl | rfl <;> decide)]
    exact lk_M1 hF hR hm q1 q4 (Or.inl ⟨rfl, by omega⟩)
  · rw [if_neg (by rcases (show q = 1 ∨ q = 3 by omega) with rfl | rfl <;> decide), if_pos iO_73, hm.1, hm.2.1]
    by_cases e : F.1 = F.2.1
    · rw [if_pos (by rw [e])]; exact lk_M1 hF hR hm q1 q4 (Or.inl ⟨rfl, by omega⟩)
    · rw [if_neg (fun a => e (nI_inj (by omega) (by omega) a))]; exact lk_M1 hF hR hm q1 q4 (Or.inr ⟨rfl, lkb_n (by omega)⟩)
def lkM (F : FV) : Nat → Int32
  | 0 => 0
  | 1 => 0
  | i + 2 => if lkb F (i + 1) = 0 then lkM F (i + 1) else lkM F (i + 1) ||| (1 <<< (nI (i + 1) &&& 31))
theorem looks_CL {P : Option (eH × Int32) → Prop} {k32 : eH → Nat → Int32 → Option (eH × Int32)} {h : eH} {X : AX} {B : Nat} (hc : CI h X) (ho : okX B X) (y : P (k32 h 0 (lkM (xF X) 4))) : P (f_X10_looks_L4 LF e_fu k32 h 0 0 1) := by
  obtain ⟨p, hp⟩ := hc.2.1
  refine lpF1 (N := 4) (s := (0 : Int32)) (run := fun fu (v : Int32) i => f_X10_looks_L4 LF fu k32 h 0 v (nI i)) (Inv := fun i v => 1 ≤ i ∧ v = lkM (xF X) i) (Post := P) (by decide) (by decide) ⟨by omega, rfl⟩ ?_ ?_
  · rintro fu v ⟨-, rfl⟩
    show P (f_X10_looks_L4 LF (fu + 1) k32 h 0 (lkM (xF X) 4) (nI 4))
    unfold f_X10_looks_L4
    rw [if_pos (by decide)]; exact y
  · rintro i fu v hi ⟨hi1, rfl⟩
    refine Or.inr ⟨lkM (xF X) (i + 1), ⟨by omega, rfl⟩, fun z hz => ?_⟩
    have hz : f_X10_looks_L4 LF fu k32 h 0 (lkM (xF X) (i + 1)) (nI (i + 1)) = z := hz
    show f_X10_looks_L4 LF (fu + 1) k32 h 0 (lkM (xF X) i) (nI i) = z
    unfold f_X10_looks_L4
    rw [if_neg (show ¬ (4 : Int32) ≤ nI i from nI_ge (b := 4) hi (by decide)), if_pos iO_0, hp.2.1, Option.bind_some, if_pos (p_O hp), lk_C ho.1 hc.1 hp hi1 (by omega), Option.bind_some, nI_p1]
    obtain ⟨j, rfl⟩ : ∃ j, i = j + 1 := ⟨i - 1, by omega⟩
    unfold lkM at hz
    by_cases q : lkb (xF X) (j + 1) = 0
    · rw [if_pos q] at hz ⊢; exact hz
    · rw [if_neg q] at hz ⊢; exact hz
theorem looks_ML {P : Option (eH × Int32) → Prop} {k38 : eH → Nat → Int32 → Option (eH × Int32)} {h : eH} {X : AX} {B : Nat} (hR : RefsOK h) (hm : MI h X) (ho : okX B X) (y : P (k38 h 73 (lkM (xF X) 4))) : P (f_X11_looks_L9 LF e_fu k38 h 73 0 1) := by
  refine lpF1 (N := 4) (s := (0 : Int32)) (run := fun fu (v : Int32) i => f_X11_looks_L9 LF fu k38 h 73 v (nI i)) (Inv := fun i v => 1 ≤ i ∧ v = lkM (xF X) i) (Post := P) (by decide) (by decide) ⟨by omega, rfl⟩ ?_ ?_
  · rintro fu v ⟨-, rfl⟩
    show P (f_X11_looks_L9 LF (fu + 1) k38 h 73 (lkM (xF X) 4) (nI 4))
    unfold f_X11_looks_L9
    rw [if_pos (by decide)]; exact y
  · rintro i fu v hi ⟨hi1, rfl⟩
    refine Or.inr ⟨lkM (xF X) (i + 1), ⟨by omega, rfl⟩, fun z hz => ?_⟩
    have hz : f_X11_looks_L9 LF fu k38 h 73 (lkM (xF X) (i + 1)) (nI (i + 1)) = z := hz
    show f_X11_looks_L9 LF (fu + 1) k38 h 73 (lkM (xF X) i) (nI i) = z
    unfold f_X11_looks_L9
    rw [if_neg (show ¬ (3 : Int32) < nI i from nI_nlt (a := 3) (by omega) (by decide)), if_pos iO_73, lk_M ho.1 hR hm.1 hi1 (by omega), Option.bind_some, nI_p1, or0i]
    obtain ⟨j, rfl⟩ : ∃ j, i = j + 1 := ⟨i - 1, by omega⟩
    unfold lkM at hz
    by_cases q : lkb (xF X) (j + 1) = 0
    · rw [if_pos q] at hz ⊢; exact hz
    · rw [if_neg q] at hz ⊢; exact hz
theorem looks_P {B : Nat} {h : eH} {X : AX} (hc : CI h X) (hm : MI h X) (ho : okX B X) : PR B (f_X10_looks LF h 0) (fun h1 => f_X11_looks LF h1 73) := by
  refine PR_q hc hm ho (l := [(f_J6_bitCount_0f7a4 (lkM (xF X) 4)).toInt64, (lkb (xF X) 4).toInt64]) (r := lkM (xF X) 4) (by show 2 ≤ 37; omega) ?_ (fun h1 hR h9 => ?_)
  · unfold f_X10_looks
    refine looks_CL (P := fun r => ∃ h1, r = some (h1, _) ∧ CW h1 _ ∧ only cscW h h1) hc ho ?_
    obtain ⟨b1, b2⟩ := rowbeg_C h
    have hRb : RefsOK (sI h 3 1 0) := refs_sI hc.1
    have ob : only (fun j _ => j = 3 ∨ j = 4) h (sI h 3 1 0) := only_sI (Or.inl rfl)
    obtain ⟨h3, r1, r2, r3⟩ := rowadd_C hRb b2 (by decide) ((f_J6_bitCount_0f7a4 (lkM (xF X) 4)).toInt64)
    have hR3 := only_refs r3 hRb
    obtain ⟨h4, s1, s2, s3⟩ := rowadd_C hR3 r2 (show 1 < 37 by decide) ((lkb (xF X) 4).toInt64)
    obtain ⟨p, hp⟩ := hc.2.1
    have hp3 : CF h3 p (xF X) := CF_only (only_trans ob r3) (fun j k a b => by omega) hp
    have one : f_X10_oneIf (lkb (xF X) 4) = lkb (xF X) 4 := by rcases lkb_01 (xF X) 4 with e | e <;> rw [e] <;> rfl
    refine ⟨h4, ?_, s2, row_w (only_trans ob (only_trans r3 s3))⟩
    rw [if_pos iO_0, r_0_1 hc.1, Option.bind_some, if_pos iO_3, b1, Option.bind_some, r_0_1 hRb, Option.bind_some, if_pos iO_3, r1, Option.bind_some, r_0_1 hR3, Option.bind_some, hp3.2.1, Option.bind_some, if_pos (p_O hp3), mi_C ho.1 hR3 hp3, Option.bind_some, if_pos iO_3, one, s1, Option.bind_some]
  · show ∃ h2, f_X11_looks LF h1 73 = _ ∧ _
    unfold f_X11_looks
    rw [if_pos iO_73]
    have h9' := MI_scr thr_M h9
    have hR0 : RefsOK (sI h1 73 0 0) := refs_sI hR
    refine looks_ML (P := fun r => ∃ h2, r = some (h2, _) ∧ MW h2 _ ∧ only mscW h1 h2) hR0 h9' ho ?_
    have hRb : RefsOK (sI (sI h1 73 0 0) 73 1 0) := refs_sI hR0
    have ob : only (fun j k => (j = 73 ∧ k = 1) ∨ j = 74) (sI h1 73 0 0) (sI (sI h1 73 0 0) 73 1 0) := only_sI (Or.inl ⟨rfl, rfl⟩)
    obtain ⟨h3, r1, r2, r3⟩ := rowadd_M hRb (rowbeg_M _) (by decide) ((f_J6_bitCount_0f7a4 (lkM (xF X) 4)).toInt64)
    have hR3 := only_refs r3 hRb
    obtain ⟨h4, s1, s2, s3⟩ := rowadd_M hR3 r2 (show 1 < 48 by decide) ((lkb (xF X) 4).toInt64)
    have hm3 : MF h3 (xF X) := MF_only (only_trans ob r3) (fun k a => by omega) (fun k => by omega) h9'.1
    have one : f_X11_flag (lkb (xF X) 4) = lkb (xF X) 4 := by rcases lkb_01 (xF X) 4 with e | e <;> rw [e] <;> rfl
    refine ⟨h4, ?_, s2, only_trans (msc_w thr_M) (rowm_w (only_trans ob (only_trans r3 s3)))⟩
    rw [if_pos iO_73, r1, Option.bind_some, show (4 : Int32) = nI 4 from rfl, lk_M ho.1 hR3 hm3 (by omega) (by omega), Option.bind_some, one, s1, Option.bind_some]

/-! run: all acts read -/
def psA (c : Nat → Nat) : Nat → Nat
  | 0 => 0
  | m + 1 => psA c m + 1 + dgB (c (psA c m))
theorem psA_le (c : Nat → Nat) : ∀ m, m ≤ psA c m
  | 0 => Nat.le_refl _
  | m + 1 => by
    have := psA_le c m
    show m + 1 ≤ psA c m + 1 + dgB (c (psA c m)); omega
theorem readAll_M {P : Option (eH × Int32) → Prop} {k42 : eH → Nat → Int32 → Int32 → Option (eH × Int32)} {h g0 : eH} {c : Nat → Nat} {lim : Nat} {v1 : Int32} (hR : RefsOK h) (h60 : lim ≤ 60) (og : only rdW h g0) (hd : RD g0 c lim 0) (h28 : gI g0 73 28 = nI 0) (y0 : ∀ g e, only rdW h g → RD g c lim e → scS c e ≠ none → ((e < lim ∧ scS c (e + 1) = none) ∨ (e = lim ∧ ∃ l r, scS c e = some (l, r + 1))) → P (k42 g 73 v1 0)) (y1 : ∀ g m l, only rdW h g → RD g c lim lim → psA c m = lim → scS c lim = some (l, 0) → gI g 73 28 = nI m → (∀ q, q < m → gI g 85 q = nI (actC (c (psA c q))) ∧ gI g 86 q = nI (vlA c (psA c q))) → P (k42 g 73 v1 1)) : P (f_X11_run_L19 LF e_fu k42 g0 73 v1 1) := by
  refine lpW (run := fun fu (q : eH × Int32) => f_X11_run_L19 LF fu k42 q.1 73 v1 q.2) (Inv := fun μ q => (q.2 = 0 ∧ ∃ e, only rdW h q.1 ∧ RD q.1 c lim e ∧ scS c e ≠ none ∧ ((e < lim ∧ scS c (e + 1) = none) ∨ (e = lim ∧ ∃ l r, scS c e = some (l, r + 1)))) ∨ (q.2 = 1 ∧ ∃ m l, μ = lim - psA c m + 1 ∧ only rdW h q.1 ∧ RD q.1 c lim (psA c m) ∧ scS c (psA c m) = some (l, 0) ∧ gI q.1 73 28 = nI m ∧ (∀ q', q' < m → gI q.1 85 q' = nI (actC (c (psA c q'))) ∧ gI q.1 86 q' = nI (vlA c (psA c q'))))) (Post := P) ?_ (lim + 1) e_fu (g0, 1) (by unfold e_fu; omega) (Or.inr ⟨rfl, 0, 0, rfl, og, hd, rfl, h28, fun q hq => absurd hq (Nat.not_lt_zero q)⟩)
  rintro μ fu ⟨g, v⟩ (⟨z, e, a1, a2, a3, a4⟩ | ⟨z, m, l, a1, a2, a3, a4, a5, a6⟩)
  · have z : v = 0 := z
    subst z
    refine Or.inl ?_
    show P (f_X11_run_L19 LF (fu + 1) k42 g 73 v1 0)
    unfold f_X11_run_L19
    rw [if_pos rfl]
    exact y0 g e a1 a2 a3 a4
  · have z : v = 1 := z
    subst z
    have a2 : only rdW h g := a2
    have a3 : RD g c lim (psA c m) := a3
    have a5 : gI g 73 28 = nI m := a5
    have hRg := only_refs a2 hR
    have pm := psA_le c m
    have l80 := a3.2.2.2.1
    by_cases q : psA c m < lim
    · have un : ∀ r : eH × Int32, f_X11_readsAct LF g 73 = some r → f_X11_run_L19 LF (fu + 1) k42 g 73 v1 1 = f_X11_run_L19 LF fu k42 r.1 73 v1 r.2 := fun r hr => by
        show (if (1 : Int32) = 0 then _ else if isO LF 73 11 = true then if (gI g 73 12) ≤ (gI g 73 11) then _ else (f_X11_readsAct LF g 73).bind fun r5 => f_X11_run_L19 LF fu k42 r5.1 73 v1 r5.2 else none) = _
        rw [if_neg i10, if_pos iO_73, a3.1, a3.2.1, if_neg (nI_ge q (by omega)), hr, Option.bind_some]
      rcases reads_M hRg a3 a5 (by omega) q with ⟨e, g', b1, b2, b3, b4⟩ | ⟨b1, g', b2, b3, b4, b5, b6, b7⟩
      · obtain ⟨s1, s2, s3⟩ := bad_sc q a4 b1
        exact Or.inr ⟨(g', 0), 0, by omega, Or.inl ⟨rfl, e, only_trans a2 b4, b3, s2, s3⟩, fun z hz => (un _ b2).trans hz⟩
      · obtain ⟨s1, s2⟩ := good_sc a4 b1
        have pe : psA c (m + 1) = psA c m + 1 + dgB (c (psA c m)) := rfl
        refine Or.inr ⟨(g', 1), lim - psA c (m + 1) + 1, by omega, Or.inr ⟨rfl, m + 1, c (psA c m), rfl, only_trans a2 b7, by rw [pe]; exact b3, by rw [pe]; exact s1, b4, fun q' hq' => ?_⟩, fun z hz => (un _ b2).trans hz⟩
        show gI g' 85 q' = _ ∧ gI g' 86 q' = _
        rw [b5 q', b6 q']
        by_cases x : q' = m
        · rw [if_pos x, if_pos x, x]; exact ⟨rfl, rfl⟩
        · rw [if_neg x, if_neg x]; exact a6 q' (by omega)
    · have e : psA c m = lim := by have := a3.2.2.2.2; omega
      refine Or.inl ?_
      show P (f_X11_run_L19 LF (fu + 1) k42 g 73 v1 1)
      unfold f_X11_run_L19
      rw [if_neg i10, if_pos iO_73, a3.1, a3.2.1, if_pos (nI_le (by omega) (by omega))]
      rw [e] at a3 a4
      exact y1 g m l a2 a3 e a4 a5 a6

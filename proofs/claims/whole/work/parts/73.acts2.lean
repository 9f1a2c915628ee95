/-! run: one act read -/
def h7A (g : eH) (a m : Nat) (k : Int32) : eH := sI (sI (sI g 73 11 (nI (a + 1))) 85 m k) 73 28 (nI (m + 1))
def actR (g : eH) (c : Nat → Nat) (lim a m : Nat) (f : Option (eH × Int32)) : Prop := (∃ e g', actBad c lim a e ∧ f = some (g', 0) ∧ RD g' c lim e ∧ only rdW g g') ∨ (actGood c lim a ∧ ∃ g', f = some (g', 1) ∧ RD g' c lim (a + 1 + dgB (c a)) ∧ gI g' 73 28 = nI (m + 1) ∧ (∀ q, gI g' 85 q = if q = m then nI (actC (c a)) else gI g 85 q) ∧ (∀ q, gI g' 86 q = if q = m then nI (vlA c a) else gI g 86 q) ∧ only rdW g g')
theorem h7_RD {g : eH} {c : Nat → Nat} {lim a m : Nat} {k : Int32} (h : RD g c lim a) (ha : a < lim) : RD (h7A g a m k) c lim (a + 1) := RD_only (W := fun j k => j = 85 ∨ (j = 73 ∧ k = 28)) (only_trans (only_sI (Or.inl rfl)) (only_sI (Or.inr ⟨rfl, rfl⟩))) (by omega) (by omega) (fun k => by omega) (RD_n h (by omega))
theorem h7_o {g : eH} {a m : Nat} {k : Int32} : only rdW g (h7A g a m k) := only_trans (only_sI (by unfold rdW; omega)) (only_trans (only_sI (by unfold rdW; omega)) (only_sI (by unfold rdW; omega)))
theorem h7_85 {g : eH} {a m : Nat} {k : Int32} (q : Nat) : gI (h7A g a m k) 85 q = if q = m then k else gI g 85 q := by
  unfold h7A
  rw [gI_sI, if_neg (by omega), gI_sI]
  by_cases e : q = m
  · rw [if_pos ⟨rfl, e⟩, if_pos e]
  · rw [if_neg (fun x => e x.2), if_neg e, gI_sI, if_neg (by omega)]
theorem h7_28 {g : eH} {a m : Nat} {k : Int32} : gI (h7A g a m k) 73 28 = nI (m + 1) := by unfold h7A; rw [gI_sI, if_pos ⟨rfl, rfl⟩]
theorem h7_86 {g : eH} {a m : Nat} {k : Int32} (q : Nat) : gI (h7A g a m k) 86 q = gI g 86 q := by unfold h7A; rw [gI_sI, if_neg (by omega), gI_sI, if_neg (by omega), gI_sI, if_neg (by omega)]
theorem act_one {g : eH} {c : Nat → Nat} {lim a m lo hi : Nat} {f : Option (eH × Int32)} (hR : RefsOK g) (h : RD g c lim a) (hm6 : m < 60) (ha : a < lim) (hlo : lo ≤ hi) (hhi : hi ≤ 9) (d1 : dgB (c a) = 1) (hcs : ∀ x, csB (c a) x = true ↔ (48 + lo ≤ x ∧ x ≤ 48 + hi)) (hf : f = (f_X11_signIn LF (h7A g a m (nI (actC (c a)))) 73 48 (nI lo) (nI hi)).bind fun r40 => f_X11_readsAct_J98 LF r40.1 73 (nI m) 86 (nI m) r40.2) : actR g c lim a m f := by
  have hR7 : RefsOK (h7A g a m (nI (actC (c a)))) := refs_sI (refs_sI (refs_sI hR))
  have h7 := h7_RD (m := m) (k := nI (actC (c a))) h ha
  rcases act_1 (w := 0) hR7 h7 hm6 hlo hhi with ⟨d, e⟩ | ⟨d, e⟩
  · refine Or.inr ⟨⟨by omega, ⟨d.1, (hcs _).mpr d.2⟩, fun x => absurd x (by omega)⟩, _, hf.trans e, ?_, ?_, fun q => ?_, fun q => ?_, ?_⟩
    · rw [d1]
      exact RD_only (W := fun j _ => j = 86) (only_sI rfl) (by omega) (by omega) (fun k => by omega) (RD_n h7 (by have := d.1; omega))
    · rw [gI_sI, if_neg (by omega), gI_sI, if_neg (by omega)]; exact h7_28
    · rw [gI_sI, if_neg (by omega), gI_sI, if_neg (by omega)]; exact h7_85 q
    · rw [gI_sI]
      unfold vlA
      rw [if_neg (show ¬ dgB (c a) = 2 by omega)]
      by_cases x : q = m
      · rw [if_pos ⟨rfl, x⟩, if_pos x]
      · rw [if_neg (fun y => x y.2), if_neg x, gI_sI, if_neg (by omega)]; exact h7_86 q
    · exact only_trans h7_o (only_trans (only_sI (by unfold rdW; omega)) (only_sI (by unfold rdW; omega)))
  · refine Or.inl ⟨a + 1, _, Or.inr (Or.inl ⟨by omega, rfl, fun x => d ⟨x.1, (hcs _).mp x.2⟩⟩), hf.trans e, RD_only (W := fun j _ => j = 86) (only_sI rfl) (by omega) (by omega) (fun k => by omega) h7, only_trans h7_o (only_sI (by unfold rdW; omega))⟩

/-! run: one act read -/
def h7A (g : eH) (a m : Nat) (k : Int32) : eH := sI (sI (sI g 73 11 (nI (a + 1))) 85 m k) 73 28 (nI (m + 1))
def actR (g : eH) (c : Nat → Nat) (lim a m : Nat) (f : Option (eH × Int32)) : Prop := (∃ e g', actBad c lim a e ∧ f = some (g', 0) ∧ RD g' c lim e ∧ only rdW g g') ∨ (actGood c lim a ∧ ∃ g', f = some (g', 1) ∧ RD g' c lim (a + 1 + dgB (c a)) ∧ gI g' 73 28 = nI (m + 1) ∧ (∀ q, gI g' 85 q = if q = m then nI (actC (c a)) else gI g 85 q) ∧ (∀ q, gI g' 86 q = if q = m then nI (vlA c a) else gI g 86 q) ∧ only rdW g g')
theorem h7_RD {g : eH} {c : Nat → Nat} {lim a m : Nat} {k : Int32} (h : RD g c lim a) (ha : a < lim) : RD (h7A g a m k) c lim (a + 1) := RD_only (W := fun j k => j = 85 ∨ (j = 73 ∧ k = 28)) (only_trans (only_sI (Or.inl rfl)) (only_sI (Or.inr ⟨rfl, rfl⟩))) (by omega) (by omega) (fun k => by omega) (RD_n h (by omega))
theorem h7_o {g : eH} {a m : Nat} {k : Int32} : only rdW g (h7A g a m k) := only_trans (only_sI (by unfold rdW; omega)) (only_trans (only_sI (by unfold rdW; omega)) (only_sI (by unfold rdW; omega)))
theorem h7_85 {g : eH} {a m : Nat} {k : Int32} (q : Nat) : gI (h7A g a m k) 85 q = if q = m then k else gI g 85 q := by
  unfold h7A
  rw [gI_sI, if_neg (by omega), gI_sI]
  by_cases e : q = m
  · rw [if_pos ⟨rfl, e⟩, if_pos e]
  · rw [if_neg (fun x => e x.2), if_neg e, gI_sI, if_neg (by omega)]
theorem h7_28 {g : eH} {a m : Nat} {k : Int32} : gI (h7A g a m k) 73 28 = nI (m + 1) := by unfold h7A; rw [gI_sI, if_pos ⟨rfl, rfl⟩]
theorem h7_86 {g : eH} {a m : Nat} {k : Int32} (q : Nat) : gI (h7A g a m k) 86 q = gI g 86 q := by unfold h7A; rw [gI_sI, if_neg (by omega), gI_sI, if_neg (by omega), gI_sI, if_neg (by omega)]
theorem act_one {g : eH} {c : Nat → Nat} {lim a m lo hi : Nat} {f : Option (eH × Int32)} (hR : RefsOK g) (h : RD g c lim a) (hm6 : m < 60) (ha : a < lim) (hlo : lo ≤ hi) (hhi : hi ≤ 9) (d1 : dgB (c a) = 1) (hcs : ∀ x, csB (c a) x = true ↔ (48 + lo ≤ x ∧ x ≤ 48 + hi)) (hf : f = (f_X11_signIn LF (h7A g a m (nI (actC (c a)))) 73 48 (nI lo) (nI hi)).bind fun r40 => f_X11_readsAct_J98 LF r40.1 73 (nI m) 86 (nI m) r40.2) : actR g c lim a m f := by
  have hR7 : RefsOK (h7A g a m (nI (actC (c a)))) := refs_sI (refs_sI (refs_sI hR))
  have h7 := h7_RD (m := m) (k := nI (actC (c a))) h ha
  rcases act_1 (w := 0) hR7 h7 hm6 hlo hhi with ⟨d, e⟩ | ⟨d, e⟩
  · refine Or.inr ⟨⟨by omega, ⟨d.1, (hcs _).mpr d.2⟩, fun x => absurd x (by omega)⟩, _, hf.trans e, ?_, ?_, fun q => ?_, fun q => ?_, ?_⟩
    · rw [d1]
      exact RD_only (W := fun j _ => j = 86) (only_sI rfl) (by omega) (by omega) (fun k => by omega) (RD_n h7 (by have := d.1; omega))
    · rw [gI_sI, if_neg (by omega), gI_sI, if_neg (by omega)]; exact h7_28
    · rw [gI_sI, if_neg (by omega), gI_sI, if_neg (by omega)]; exact h7_85 q
    · rw [gI_sI]
      unfold vlA
      rw [if_neg (show ¬ dgB (c a) = 2 by omega)]
      by_cases x : q = m
      · rw [if_pos ⟨rfl, x⟩, if_pos x]
      · rw [if_neg (fun y => x y.2), if_neg x, gI_sI, if_neg (by omega)]; exact h7_86 q
    · exact only_trans h7_o (only_trans (only_sI (by unfold rdW; omega)) (only_sI (by unfold rdW; omega)))
  · refine Or.inl ⟨a + 1, _, Or.inr (Or.inl ⟨by omega, rfl, fun x => d ⟨x.1, (hcs _).mp x.2⟩⟩), hf.trans e, RD_only (W := fun j _ => j = 86) (only_sI rfl) (by omega) (by omega) (fun k => by omega) h7, only_trans h7_o (only_sI (by unfold rdW; omega))⟩
theorem act_two {g : eH} {c : Nat → Nat} {lim a m : Nat} {f : Option (eH × Int32)} (hR : RefsOK g) (h : RD g c lim a) (hm6 : m < 60) (ha : a < lim) (d2 : dgB (c a) = 2) (hcs : ∀ x, csB (c a) x = true ↔ (48 ≤ x ∧ x ≤ 57)) (hf : f = (f_X11_number LF (h7A g a m (nI (actC (c a)))) 73 1).bind fun r15 => if 0 ≤ r15.2 then (f_X11_number LF r15.1 73 1).bind fun r17 => f_X11_readsAct_J133 LF r17.1 73 (nI m) r15.2 r17.2 else f_X11_readsAct_J133 LF r15.1 73 (nI m) r15.2 (-1)) : actR g c lim a m f := by
  have hR7 : RefsOK (h7A g a m (nI (actC (c a)))) := refs_sI (refs_sI (refs_sI hR))
  have h7 := h7_RD (m := m) (k := nI (actC (c a))) h ha
  rcases act_2 hR7 h7 hm6 with ⟨t1, t2, e⟩ | ⟨e, g', w, y1, y2, y3⟩
  · refine Or.inr ⟨⟨by omega, ⟨t1.1, (hcs _).mpr t1.2⟩, fun _ => ⟨t2.1, (hcs _).mpr t2.2⟩⟩, _, hf.trans e, ?_, ?_, fun q => ?_, fun q => ?_, ?_⟩
    · rw [d2]
      exact RD_only (W := fun j _ => j = 86) (only_sI rfl) (by omega) (by omega) (fun k => by omega) (RD_n (RD_n h7 (show a + 2 ≤ lim by have := t1.1; omega)) (by have := t2.1; omega))
    · rw [gI_sI, if_neg (by omega), gI_sI, if_neg (by omega), gI_sI, if_neg (by omega)]; exact h7_28
    · rw [gI_sI, if_neg (by omega), gI_sI, if_neg (by omega), gI_sI, if_neg (by omega)]; exact h7_85 q
    · rw [gI_sI]
      unfold vlA
      rw [if_pos d2]
      by_cases x : q = m
      · rw [if_pos ⟨rfl, x⟩, if_pos x]
      · rw [if_neg (fun y => x y.2), if_neg x, gI_sI, if_neg (by omega), gI_sI, if_neg (by omega)]; exact h7_86 q
    · exact only_trans h7_o (only_trans (only_sI (by unfold rdW; omega)) (only_trans (only_sI (by unfold rdW; omega)) (only_sI (by unfold rdW; omega))))
  · refine Or.inl ⟨e, g', ?_, hf.trans y1, y2, only_trans h7_o y3⟩
    rcases w with ⟨e1, w⟩ | ⟨e1, w1, w2⟩
    · exact Or.inr (Or.inl ⟨by omega, e1, fun x => w ⟨x.1, (hcs _).mp x.2⟩⟩)
    · exact Or.inr (Or.inr ⟨d2, e1, ⟨w1.1, (hcs _).mpr w1.2⟩, fun x => w2 ⟨x.1, (hcs _).mp x.2⟩⟩)
theorem dgB_ne {c : Nat} (h : dgB c ≠ 0) : c = 115 ∨ c = 116 ∨ c = 100 ∨ c = 99 ∨ c = 108 := by
  unfold dgB at h
  by_cases h1 : c = 99
  · omega
  · by_cases h2 : c = 100
    · omega
    · by_cases h3 : c = 108
      · omega
      · by_cases h4 : c = 115
        · omega
        · by_cases h5 : c = 116
          · omega
          · rw [if_neg h1, if_neg h2, if_neg h3, if_neg h4, if_neg h5] at h; exact absurd rfl h
theorem reads_M {g : eH} {c : Nat → Nat} {lim a m : Nat} (hR : RefsOK g) (h : RD g c lim a) (hm : gI g 73 28 = nI m) (hm6 : m < 60) (ha : a < lim) : actR g c lim a m (f_X11_readsAct LF g 73) := by
  rcases letter_M hR h hm hm6 ha with ⟨z, g', y1, y2, y3⟩ | ⟨nz, y⟩
  · exact Or.inl ⟨a, g', Or.inl ⟨z, rfl⟩, y1, y2, y3⟩
  · have hR7 : RefsOK (h7A g a m (nI (actC (c a)))) := refs_sI (refs_sI (refs_sI hR))
    have e1 : gI (sI (sI g 73 11 (nI (a + 1))) 85 m (nI (actC (c a)))) 73 28 = nI m := by rw [gI_sI, if_neg (by omega), gI_sI, if_neg (by omega)]; exact hm
    have e85 : gI (h7A g a m (nI (actC (c a)))) 85 m = nI (actC (c a)) := by rw [h7_85, if_pos rfl]
    have a5 := (actC_e _ (h.2.2.1 a ha).2 nz).1
    have pre : f_X11_readsAct LF g 73 = if 3 ≤ nI (actC (c a)) then ((f_X11_number LF (h7A g a m (nI (actC (c a)))) 73 1).bind fun r15 => if 0 ≤ r15.2 then (f_X11_number LF r15.1 73 1).bind fun r17 => f_X11_readsAct_J133 LF r17.1 73 (nI m) r15.2 r17.2 else f_X11_readsAct_J133 LF r15.1 73 (nI m) r15.2 (-1)) else if nI (actC (c a)) = 1 then ((f_X11_signIn LF (h7A g a m (nI (actC (c a)))) 73 48 0 3).bind fun r40 => f_X11_readsAct_J98 LF r40.1 73 (nI m) 86 (nI m) r40.2) else if nI (actC (c a)) = 2 then ((f_X11_signIn LF (h7A g a m (nI (actC (c a)))) 73 48 1 9).bind fun r38 => f_X11_readsAct_J98 LF r38.1 73 (nI m) 86 (nI m) r38.2) else ((f_X11_signIn LF (h7A g a m (nI (actC (c a)))) 73 48 0 9).bind fun r31 => f_X11_readsAct_J98 LF r31.1 73 (nI m) 86 (nI m) r31.2) := by
      unfold f_X11_readsAct
      rw [if_pos iO_73, r_73_26 hR, Option.bind_some, y, Option.bind_some, hm, iA_85, if_pos (in_nI hm6 (by decide)), nI_clamp (by omega)]
      show ((some (sI (sI (sI g 73 11 (nI (a + 1))) 85 m (nI (actC (c a)))) 73 28 ((gI (sI (sI g 73 11 (nI (a + 1))) 85 m (nI (actC (c a)))) 73 28) + 1))).bind fun h7 => _) = _
      rw [e1, show nI m + 1 = nI (m + 1) from nI_add m 1, Option.bind_some, show sI (sI (sI g 73 11 (nI (a + 1))) 85 m (nI (actC (c a)))) 73 28 (nI (m + 1)) = h7A g a m (nI (actC (c a))) from rfl, r_73_26 hR7, Option.bind_some, iA_85, if_pos (in_nI hm6 (by decide)), e85, if_pos (show 0 ≤ nI (actC (c a)) from nI_le (a := 0) (by omega) (by omega)), Option.bind_some, iA_85, if_pos (in_nI hm6 (by decide)), e85, r_73_27 hR7, Option.bind_some, Option.bind_some, iA_85, if_pos (in_nI hm6 (by decide)), e85, Option.bind_some, iA_85, if_pos (in_nI hm6 (by decide)), e85]
    rcases dgB_ne nz with q | q | q | q | q
    · refine act_one (lo := 0) (hi := 9) hR h hm6 ha (by omega) (by omega) (by rw [q]; rfl) (fun x => by rw [q]; exact decide_eq_true_iff) ?_
      rw [pre, if_neg (by rw [q]; decide), if_neg (by rw [q]; decide), if_neg (by rw [q]; decide)]; rfl
    · refine act_one (lo := 0) (hi := 3) hR h hm6 ha (by omega) (by omega) (by rw [q]; rfl) (fun x => by rw [q]; exact decide_eq_true_iff) ?_
      rw [pre, if_neg (by rw [q]; decide), if_pos (by rw [q]; decide)]; rfl
    · refine act_one (lo := 1) (hi := 9) hR h hm6 ha (by omega) (by omega) (by rw [q]; rfl) (fun x => by rw [q]; exact decide_eq_true_iff) ?_
      rw [pre, if_neg (by rw [q]; decide), if_neg (by rw [q]; decide), if_pos (by rw [q]; decide)]; rfl
    · refine act_two hR h hm6 ha (by rw [q]; rfl) (fun x => by rw [q]; exact decide_eq_true_iff) ?_
      rw [pre, if_pos (by rw [q]; decide)]
    · refine act_two hR h hm6 ha (by rw [q]; rfl) (fun x => by rw [q]; exact decide_eq_true_iff) ?_
      rw [pre, if_pos (by rw [q]; decide)]

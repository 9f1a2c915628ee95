theorem w_X8_addFour_L22 {P : Nat → Prop} {L : eL} {h0 : eH} {r : eH × Int32} {k57 : eH → Nat → Option (eH × Int32)} (hk57 : ∀ (h : eH) (v0 : Nat), P v0 → fr P h0 h → k57 h v0 = some r → fr P h0 r.1) : ∀ (n : Nat) (h : eH) (v0 : Nat) (v1 : Int32) (v2 : Int32), P v0 → fr P h0 h → f_X8_addFour_L22 L n k57 h v0 v1 v2 = some r → fr P h0 r.1 := by
  intro n
  induction n with
  | zero => intro h v0 v1 v2 p_v0 f0 hf; exact absurd hf (by simp [f_X8_addFour_L22])
  | succ n ih =>
    intro h v0 v1 v2 p_v0 f0 hf
    unfold f_X8_addFour_L22 at hf
    rcases e_or hf with hf | hf
    · exact hk57 _ _ p_v0 f0 hf
    · replace hf := (e_if hf).2
      obtain ⟨b1, hb2, hf⟩ := e_bd hf
      have p3 := f0.1 _ _ _ p_v0 hb2
      replace hf := (e_if hf).2
      obtain ⟨h4, hh5, hf⟩ := e_bd hf
      have f6 := fr_oV hh5 (fr_sI f0 p3)
      exact ih _ _ _ _ p_v0 f6 hf
theorem w_X8_addFour {P : Nat → Prop} {L : eL} {h0 h : eH} {v0 : Nat} {v1 : Int32} {r : eH × Int32} (p_v0 : P v0) (f0 : fr P h0 h) (hf : f_X8_addFour L h v0 v1 = some r) : fr P h0 r.1 := by
  unfold f_X8_addFour at hf
  replace hf := (e_if hf).2
  rcases e_or hf with hf | hf
  · exact fr_oW hf f0
  · rcases e_or hf with hf | hf
    · refine w_X8_addFour_L22 ?_ e_fu _ _ _ _ p_v0 f0 hf
      · intro h7 w0_8 p_w0_8 f9 hf
        replace hf := (e_if hf).2
        exact fr_oW hf (fr_sI f9 p_w0_8)
    · exact fr_oW hf f0
theorem w_X10_sign {P : Nat → Prop} {L : eL} {h0 h : eH} {v0 : Nat} {v1 : Int32} {r : eH × Int32} (p_v0 : P v0) (f0 : fr P h0 h) (hf : f_X10_sign L h v0 v1 = some r) : fr P h0 r.1 := by
  unfold f_X10_sign at hf
  replace hf := (e_if hf).2
  obtain ⟨b1, hb2, hf⟩ := e_bd hf
  have p3 := f0.1 _ _ _ p_v0 hb2
  replace hf := (e_if hf).2
  obtain ⟨r4, hr5, hf⟩ := e_bd hf
  have f6 := w_X8_addFour p3 f0 hr5
  rcases e_or hf with hf | hf
  · exact fr_oW hf f6
  · obtain ⟨b7, hb8, hf⟩ := e_bd hf
    have p9 := f6.1 _ _ _ p_v0 hb8
    replace hf := (e_if hf).2
    obtain ⟨r10, hr11, hf⟩ := e_bd hf
    exact fr_oW hf f6
theorem w_X8_cut {P : Nat → Prop} {L : eL} {h0 h : eH} {v0 : Nat} {v1 : Int32} {r : eH × Int32} (p_v0 : P v0) (f0 : fr P h0 h) (hf : f_X8_cut L h v0 v1 = some r) : fr P h0 r.1 := by
  unfold f_X8_cut at hf
  rcases e_or hf with hf | hf
  · exact fr_oW hf f0
  · replace hf := (e_if hf).2
    rcases e_or hf with hf | hf
    · exact fr_oW hf (fr_sI f0 p_v0)
    · exact fr_oW hf f0
theorem w_X10_end {P : Nat → Prop} {L : eL} {h0 h : eH} {v0 : Nat} {v1 : Int32} {r : eH × Int32} (p_v0 : P v0) (f0 : fr P h0 h) (hf : f_X10_end L h v0 v1 = some r) : fr P h0 r.1 := by
  unfold f_X10_end at hf
  replace hf := (e_if hf).2
  obtain ⟨b1, hb2, hf⟩ := e_bd hf
  have p3 := f0.1 _ _ _ p_v0 hb2
  replace hf := (e_if hf).2
  obtain ⟨r4, hr5, hf⟩ := e_bd hf
  have f6 := w_X8_cut p3 f0 hr5
  replace hf := (e_if hf).2
  exact fr_oW hf f6
theorem w_X2_put_J54 {P : Nat → Prop} {L : eL} {h0 : eH} {r : eH × Int32}  : ∀ (h : eH) (v0 : Nat) (v2 : Int32) (v3 : Int32) (v4 : Int32), P v0 → fr P h0 h → f_X2_put_J54 L h v0 v2 v3 v4 = some r → fr P h0 r.1 := by
  intro h v0 v2 v3 v4 p_v0 f0 hf
  unfold f_X2_put_J54 at hf
  replace hf := (e_if hf).2
  obtain ⟨b1, hb2, hf⟩ := e_bd hf
  have p3 := f0.1 _ _ _ p_v0 hb2
  replace hf := (e_if hf).2
  rcases e_or hf with hf | hf
  · obtain ⟨h4, hh5, hf⟩ := e_bd hf
    have f6 := fr_oV hh5 (fr_sI (fr_sI f0 p3) p_v0)
    exact fr_oW hf f6
  · exact fr_oW hf (fr_sI (fr_sI f0 p3) p_v0)
theorem w_X2_put_J22 {P : Nat → Prop} {L : eL} {h0 : eH} {r : eH × Int32}  : ∀ (h : eH) (v0 : Nat) (v2 : Int32) (v3 : Int32) (s0 : Int32), P v0 → fr P h0 h → f_X2_put_J22 L h v0 v2 v3 s0 = some r → fr P h0 r.1 := by
  intro h v0 v2 v3 s0 p_v0 f0 hf
  unfold f_X2_put_J22 at hf
  rcases e_or hf with hf | hf
  · exact fr_oW hf f0
  · rcases e_or hf with hf | hf
    · exact fr_oW hf f0
    · rcases e_or hf with hf | hf
      · exact fr_oW hf f0
      · rcases e_or hf with hf | hf
        · exact w_X2_put_J54 _ _ _ _ _ p_v0 f0 hf
        · replace hf := (e_if hf).2
          rcases e_or hf with hf | hf
          · exact w_X2_put_J54 _ _ _ _ _ p_v0 f0 hf
          · exact fr_oW hf f0
theorem w_X2_put {P : Nat → Prop} {L : eL} {h0 h : eH} {v0 : Nat} {v1 : Int32} {v2 : Int32} {r : eH × Int32} (p_v0 : P v0) (f0 : fr P h0 h) (hf : f_X2_put L h v0 v1 v2 = some r) : fr P h0 r.1 := by
  unfold f_X2_put at hf
  rcases e_or hf with hf | hf
  · exact w_X2_put_J22 _ _ _ _ _ p_v0 f0 hf
  · rcases e_or hf with hf | hf
    · exact w_X2_put_J22 _ _ _ _ _ p_v0 f0 hf
    · exact w_X2_put_J22 _ _ _ _ _ p_v0 f0 hf
theorem w_X2_drawSets_J48 {P : Nat → Prop} {L : eL} {h0 : eH} {r : eH} {k12 : eH → Nat → Int32 → Option eH} {k80 : eH → Nat → Option eH} (hk12 : ∀ (h : eH) (v0 : Nat) (v1 : Int32), P v0 → fr P h0 h → k12 h v0 v1 = some r → fr P h0 r) (hk80 : ∀ (h : eH) (v0 : Nat), P v0 → fr P h0 h → k80 h v0 = some r → fr P h0 r) : ∀ (h : eH) (v0 : Nat) (v1 : Int32) (v2 : Int32) (s0 : Nat) (s1 : Int64) (s2 : Int64), P v0 → P s0 → fr P h0 h → f_X2_drawSets_J48 L k12 k80 h v0 v1 v2 s0 s1 s2 = some r → fr P h0 r := by
  intro h v0 v1 v2 s0 s1 s2 p_v0 p_s0 f0 hf
  unfold f_X2_drawSets_J48 at hf
  replace hf := (e_if hf).2
  replace hf := (e_if hf).2
  rcases e_or hf with hf | hf
  · obtain ⟨h6, hh7, hf⟩ := e_bd hf
    have f8 := fr_oV hh7 (fr_sL (fr_sL f0 p_s0) p_v0)
    exact hk12 _ _ _ p_v0 f8 hf
  · obtain ⟨h3, hh4, hf⟩ := e_bd hf
    have f5 := fr_oV hh4 (fr_sL (fr_sL f0 p_s0) p_v0)
    exact hk12 _ _ _ p_v0 f5 hf
theorem w_X2_drawSets_L12 {P : Nat → Prop} {L : eL} {h0 : eH} {r : eH} {k80 : eH → Nat → Option eH} (hk80 : ∀ (h : eH) (v0 : Nat), P v0 → fr P h0 h → k80 h v0 = some r → fr P h0 r) : ∀ (n : Nat) (h : eH) (v0 : Nat) (v1 : Int32), P v0 → fr P h0 h → f_X2_drawSets_L12 L n k80 h v0 v1 = some r → fr P h0 r := by
  intro n
  induction n with
  | zero => intro h v0 v1 p_v0 f0 hf; exact absurd hf (by simp [f_X2_drawSets_L12])
  | succ n ih =>
    intro h v0 v1 p_v0 f0 hf
    unfold f_X2_drawSets_L12 at hf
    replace hf := (e_if hf).2
    rcases e_or hf with hf | hf
    · exact hk80 _ _ p_v0 f0 hf
    · obtain ⟨r1, hr2, hf⟩ := e_bd hf
      rcases e_or hf with hf | hf
      · exact w_X2_drawSets_J48 ih hk80 _ _ _ _ _ _ _ p_v0 p_v0 f0 hf
      · exact w_X2_drawSets_J48 ih hk80 _ _ _ _ _ _ _ p_v0 p_v0 f0 hf
theorem w_X2_drawSets_L87 {P : Nat → Prop} {L : eL} {h0 : eH} {r : eH} {k119 : eH → Nat → Option eH} (hk119 : ∀ (h : eH) (v0 : Nat), P v0 → fr P h0 h → k119 h v0 = some r → fr P h0 r) : ∀ (n : Nat) (h : eH) (v0 : Nat) (v1 : Int32), P v0 → fr P h0 h → f_X2_drawSets_L87 L n k119 h v0 v1 = some r → fr P h0 r := by
  intro n
  induction n with
  | zero => intro h v0 v1 p_v0 f0 hf; exact absurd hf (by simp [f_X2_drawSets_L87])
  | succ n ih =>
    intro h v0 v1 p_v0 f0 hf
    unfold f_X2_drawSets_L87 at hf
    replace hf := (e_if hf).2
    rcases e_or hf with hf | hf
    · exact hk119 _ _ p_v0 f0 hf
    · obtain ⟨h12, hh13, hf⟩ := e_bd hf
      have f14 := fr_oV hh13 (fr_sL f0 p_v0)
      exact ih _ _ _ p_v0 f14 hf
theorem w_X2_drawSets {P : Nat → Prop} {L : eL} {h0 h : eH} {v0 : Nat} {r : eH} (p_v0 : P v0) (f0 : fr P h0 h) (hf : f_X2_drawSets L h v0 = some r) : fr P h0 r := by
  unfold f_X2_drawSets at hf
  replace hf := (e_if hf).2
  refine w_X2_drawSets_L12 ?_ e_fu _ _ _ p_v0 (fr_sL (fr_sL f0 p_v0) p_v0) hf
  · intro h9 w0_10 p_w0_10 f11 hf
    replace hf := (e_if hf).2
    refine w_X2_drawSets_L87 ?_ e_fu _ _ _ p_w0_10 (fr_sL f11 p_w0_10) hf
    · intro h15 w0_16 p_w0_16 f17 hf
      replace hf := (e_if hf).2
      obtain ⟨h18, hh19, hf⟩ := e_bd hf
      have f20 := fr_oV hh19 (fr_sL f17 p_w0_16)
      exact fr_oV hf f20
theorem w_X2_read_L18 {P : Nat → Prop} {L : eL} {h0 : eH} {r : eH × Int32} {k56 : eH → Int32 → Option (eH × Int32)} {k101 : eH → Int32 → Option (eH × Int32)} {k113 : eH → Nat → Nat → Int32 → Int32 → Option (eH × Int32)} (hk56 : ∀ (h : eH) (v4 : Int32), fr P h0 h → k56 h v4 = some r → fr P h0 r.1) (hk101 : ∀ (h : eH) (v4 : Int32), fr P h0 h → k101 h v4 = some r → fr P h0 r.1) (hk113 : ∀ (h : eH) (v0 : Nat) (v1 : Nat) (v2 : Int32) (v3 : Int32), P v0 → P v1 → fr P h0 h → k113 h v0 v1 v2 v3 = some r → fr P h0 r.1) : ∀ (n : Nat) (h : eH) (v0 : Nat) (v1 : Nat) (v2 : Int32) (v3 : Int32) (v4 : Int32), P v0 → P v1 → fr P h0 h → f_X2_read_L18 L n k56 k101 k113 h v0 v1 v2 v3 v4 = some r → fr P h0 r.1 := by
  intro n
  induction n with
  | zero => intro h v0 v1 v2 v3 v4 p_v0 p_v1 f0 hf; exact absurd hf (by simp [f_X2_read_L18])
  | succ n ih =>
    intro h v0 v1 v2 v3 v4 p_v0 p_v1 f0 hf
    unfold f_X2_read_L18 at hf
    replace hf := (e_if hf).2
    obtain ⟨r1, hr2, hf⟩ := e_bd hf
    rcases e_or hf with hf | hf
    · exact hk113 _ _ _ _ _ p_v0 p_v1 f0 hf
    · obtain ⟨r3, hr4, hf⟩ := e_bd hf
      rcases e_or hf with hf | hf
      · replace hf := (e_if hf).2
        obtain ⟨r8, hr9, hf⟩ := e_bd hf
        rcases e_or hf with hf | hf
        · exact hk56 _ _ f0 hf
        · rcases e_or hf with hf | hf
          · exact hk56 _ _ f0 hf
          · exact ih _ _ _ _ _ _ p_v0 p_v1 (fr_sI f0 p_v0) hf
      · replace hf := (e_if hf).2
        rcases e_or hf with hf | hf
        · exact hk101 _ _ f0 hf
        · obtain ⟨r5, hr6, hf⟩ := e_bd hf
          have f7 := w_X2_put p_v0 f0 hr6
          rcases e_or hf with hf | hf
          · exact hk101 _ _ f7 hf
          · exact ih _ _ _ _ _ _ p_v0 p_v1 f7 hf
theorem w_X2_read {P : Nat → Prop} {L : eL} {h0 h : eH} {v0 : Nat} {v1 : Nat} {r : eH × Int32} (p_v0 : P v0) (p_v1 : P v1) (f0 : fr P h0 h) (hf : f_X2_read L h v0 v1 = some r) : fr P h0 r.1 := by
  unfold f_X2_read at hf
  replace hf := (e_if hf).2
  refine w_X2_read_L18 ?_ ?_ ?_ e_fu _ _ _ _ _ _ p_v0 p_v1 (fr_sI (fr_sI f0 p_v0) p_v0) hf
  · intro h10 w4_11 f12 hf
    exact fr_oW hf f12
  · intro h13 w4_14 f15 hf
    exact fr_oW hf f15
  · intro h16 w0_17 w1_18 w2_19 w3_20 p_w0_17 p_w1_18 f21 hf
    replace hf := (e_if hf).2
    obtain ⟨r22, hr23, hf⟩ := e_bd hf
    rcases e_or hf with hf | hf
    · replace hf := (e_if hf).2
      obtain ⟨r30, hr31, hf⟩ := e_bd hf
      exact fr_oW hf f21
    · obtain ⟨h24, hh25, hf⟩ := e_bd hf
      have f26 := fr_oV hh25 (fr_sI (fr_sI f21 p_w0_17) p_w0_17)
      obtain ⟨r27, hr28, hf⟩ := e_bd hf
      have f29 := w_X2_drawSets p_w0_17 f26 hr28
      exact fr_oW hf f29
theorem w_J7_fill_53178_L5 {P : Nat → Prop} {L : eL} {h0 : eH} {r : eH} {k20 : eH → Option eH} (hk20 : ∀ (h : eH), fr P h0 h → k20 h = some r → fr P h0 r) : ∀ (n : Nat) (h : eH) (v0 : Nat) (v1 : Int32) (v2 : Int32) (v3 : Int32), P v0 → fr P h0 h → f_J7_fill_53178_L5 L n k20 h v0 v1 v2 v3 = some r → fr P h0 r := by
  intro n
  induction n with
  | zero => intro h v0 v1 v2 v3 p_v0 f0 hf; exact absurd hf (by simp [f_J7_fill_53178_L5])
  | succ n ih =>
    intro h v0 v1 v2 v3 p_v0 f0 hf
    unfold f_J7_fill_53178_L5 at hf
    rcases e_or hf with hf | hf
    · exact hk20 _ f0 hf
    · replace hf := (e_if hf).2
      exact ih _ _ _ _ _ p_v0 (fr_sI f0 p_v0) hf
theorem w_J7_fill_53178 {P : Nat → Prop} {L : eL} {h0 h : eH} {v0 : Nat} {v1 : Int32} {r : eH} (p_v0 : P v0) (f0 : fr P h0 h) (hf : f_J7_fill_53178 L h v0 v1 = some r) : fr P h0 r := by
  unfold f_J7_fill_53178 at hf
  replace hf := (e_if hf).2
  refine w_J7_fill_53178_L5 ?_ e_fu _ _ _ _ _ p_v0 f0 hf
  · intro h1 f2 hf
    exact fr_oV hf f2
theorem w_X6_clearDust {P : Nat → Prop} {L : eL} {h0 h : eH} {v0 : Nat} {r : eH} (p_v0 : P v0) (f0 : fr P h0 h) (hf : f_X6_clearDust L h v0 = some r) : fr P h0 r := by
  unfold f_X6_clearDust at hf
  replace hf := (e_if hf).2
  obtain ⟨b1, hb2, hf⟩ := e_bd hf
  have p3 := f0.1 _ _ _ p_v0 hb2
  obtain ⟨r4, hr5, hf⟩ := e_bd hf
  have f6 := w_J7_fill_53178 p3 f0 hr5
  exact fr_oV hf f6
theorem w_X6_begin {P : Nat → Prop} {L : eL} {h0 h : eH} {v0 : Nat} {v1 : Int32} {r : eH} (p_v0 : P v0) (f0 : fr P h0 h) (hf : f_X6_begin L h v0 v1 = some r) : fr P h0 r := by
  unfold f_X6_begin at hf
  replace hf := (e_if hf).2
  obtain ⟨r1, hr2, hf⟩ := e_bd hf
  have f3 := w_X6_clearDust p_v0 f0 hr2
  obtain ⟨h4, hh5, hf⟩ := e_bd hf
  have f6 := fr_oV hh5 (fr_sI (fr_sI (fr_sI (fr_sI f3 p_v0) p_v0) p_v0) p_v0)
  obtain ⟨h7, hh8, hf⟩ := e_bd hf
  have f9 := fr_oV hh8 (fr_sL (fr_sI (fr_sI (fr_sI f6 p_v0) p_v0) p_v0) p_v0)
  exact fr_oV hf f9
theorem w_X0_clear {P : Nat → Prop} {L : eL} {h0 h : eH} {v0 : Nat} {r : eH} (p_v0 : P v0) (f0 : fr P h0 h) (hf : f_X0_clear L h v0 = some r) : fr P h0 r := by
  unfold f_X0_clear at hf
  replace hf := (e_if hf).2
  exact fr_oV hf (fr_sI f0 p_v0)
theorem w_X1_clear {P : Nat → Prop} {L : eL} {h0 h : eH} {v0 : Nat} {r : eH} (p_v0 : P v0) (f0 : fr P h0 h) (hf : f_X1_clear L h v0 = some r) : fr P h0 r := by
  unfold f_X1_clear at hf
  replace hf := (e_if hf).2
  exact fr_oV hf (fr_sI f0 p_v0)
theorem w_X10_flat {P : Nat → Prop} {L : eL} {h0 h : eH} {v0 : Nat} {r : eH × Int32} (p_v0 : P v0) (f0 : fr P h0 h) (hf : f_X10_flat L h v0 = some r) : fr P h0 r.1 := by
  unfold f_X10_flat at hf
  replace hf := (e_if hf).2
  obtain ⟨b1, hb2, hf⟩ := e_bd hf
  have p3 := f0.1 _ _ _ p_v0 hb2
  obtain ⟨b4, hb5, hf⟩ := e_bd hf
  have p6 := f0.1 _ _ _ p_v0 hb5
  replace hf := (e_if hf).2
  obtain ⟨r7, hr8, hf⟩ := e_bd hf
  have f9 := w_X2_read p3 p6 f0 hr8
  obtain ⟨b10, hb11, hf⟩ := e_bd hf
  have p12 := f9.1 _ _ _ p_v0 hb11
  replace hf := (e_if hf).2
  obtain ⟨r13, hr14, hf⟩ := e_bd hf
  have f15 := w_X8_cut p12 f9 hr14
  rcases e_or hf with hf | hf
  · obtain ⟨b16, hb17, hf⟩ := e_bd hf
    have p18 := f15.1 _ _ _ p_v0 hb17
    replace hf := (e_if hf).2
    rcases e_or hf with hf | hf
    · exact fr_oW hf f15
    · obtain ⟨b19, hb20, hf⟩ := e_bd hf
      have p21 := f15.1 _ _ _ p_v0 hb20
      obtain ⟨b22, hb23, hf⟩ := e_bd hf
      have p24 := f15.1 _ _ _ p_v0 hb23
      obtain ⟨h25, hh26, hf⟩ := e_bd hf
      have f27 := fr_oV hh26 (fr_sR (fr_sR f15 p_v0 p24) p_v0 p21)
      obtain ⟨b28, hb29, hf⟩ := e_bd hf
      have p30 := f27.1 _ _ _ p_v0 hb29
      obtain ⟨b31, hb32, hf⟩ := e_bd hf
      have p33 := f27.1 _ _ _ p_v0 hb32
      replace hf := (e_if hf).2
      obtain ⟨r34, hr35, hf⟩ := e_bd hf
      replace hf := (e_if hf).2
      obtain ⟨r36, hr37, hf⟩ := e_bd hf
      have f38 := w_X6_begin p30 f27 hr37
      obtain ⟨b39, hb40, hf⟩ := e_bd hf
      have p41 := f38.1 _ _ _ p_v0 hb40
      replace hf := (e_if hf).2
      obtain ⟨r42, hr43, hf⟩ := e_bd hf
      have f44 := w_X0_clear p41 f38 hr43
      obtain ⟨b45, hb46, hf⟩ := e_bd hf
      have p47 := f44.1 _ _ _ p_v0 hb46
      replace hf := (e_if hf).2
      obtain ⟨r48, hr49, hf⟩ := e_bd hf
      have f50 := w_X1_clear p47 f44 hr49
      obtain ⟨b51, hb52, hf⟩ := e_bd hf
      have p53 := (fr_sI f50 p_v0).1 _ _ _ p_v0 hb52
      replace hf := (e_if hf).2
      exact fr_oW hf (fr_sI f50 p_v0)
  · exact fr_oW hf f15
theorem w_X4_begin {P : Nat → Prop} {L : eL} {h0 h : eH} {v0 : Nat} {r : eH} (p_v0 : P v0) (f0 : fr P h0 h) (hf : f_X4_begin L h v0 = some r) : fr P h0 r := by
  unfold f_X4_begin at hf
  replace hf := (e_if hf).2
  exact fr_oV hf (fr_sI f0 p_v0)
theorem w_X4_add {P : Nat → Prop} {L : eL} {h0 h : eH} {v0 : Nat} {v1 : Int32} {r : eH} (p_v0 : P v0) (f0 : fr P h0 h) (hf : f_X4_add L h v0 v1 = some r) : fr P h0 r := by
  unfold f_X4_add at hf
  replace hf := (e_if hf).2
  rcases e_or hf with hf | hf
  · exact fr_oV hf f0
  · rcases e_or hf with hf | hf
    · exact fr_oV hf f0
    · obtain ⟨b1, hb2, hf⟩ := e_bd hf
      have p3 := f0.1 _ _ _ p_v0 hb2
      replace hf := (e_if hf).2
      obtain ⟨h4, hh5, hf⟩ := e_bd hf
      have f6 := fr_oV hh5 (fr_sI (fr_sI f0 p3) p_v0)
      exact fr_oV hf f6
theorem w_X4_addNumber {P : Nat → Prop} {L : eL} {h0 h : eH} {v0 : Nat} {v1 : Int32} {r : eH} (p_v0 : P v0) (f0 : fr P h0 h) (hf : f_X4_addNumber L h v0 v1 = some r) : fr P h0 r := by
  unfold f_X4_addNumber at hf
  replace hf := (e_if hf).2
  obtain ⟨r1, hr2, hf⟩ := e_bd hf
  have f3 := w_X4_add p_v0 f0 hr2
  exact fr_oV hf f3
theorem w_X5_readNumber_L4 {P : Nat → Prop} {L : eL} {h0 : eH} {r : eH} {k48 : eH → Nat → Int32 → Option eH} (hk48 : ∀ (h : eH) (v0 : Nat) (v1 : Int32), P v0 → fr P h0 h → k48 h v0 v1 = some r → fr P h0 r) : ∀ (n : Nat) (h : eH) (v0 : Nat) (v1 : Int32) (v2 : Int32), P v0 → fr P h0 h → f_X5_readNumber_L4 L n k48 h v0 v1 v2 = some r → fr P h0 r := by
  intro n
  induction n with
  | zero => intro h v0 v1 v2 p_v0 f0 hf; exact absurd hf (by simp [f_X5_readNumber_L4])
  | succ n ih =>
    intro h v0 v1 v2 p_v0 f0 hf
    unfold f_X5_readNumber_L4 at hf
    rcases e_or hf with hf | hf
    · exact hk48 _ _ _ p_v0 f0 hf
    · replace hf := (e_if hf).2
      obtain ⟨r1, hr2, hf⟩ := e_bd hf
      rcases e_or hf with hf | hf
      · exact hk48 _ _ _ p_v0 f0 hf
      · obtain ⟨r3, hr4, hf⟩ := e_bd hf
        exact ih _ _ _ _ p_v0 (fr_sI f0 p_v0) hf
theorem w_X5_readNumber {P : Nat → Prop} {L : eL} {h0 h : eH} {v0 : Nat} {r : eH} (p_v0 : P v0) (f0 : fr P h0 h) (hf : f_X5_readNumber L h v0 = some r) : fr P h0 r := by
  unfold f_X5_readNumber at hf
  refine w_X5_readNumber_L4 ?_ e_fu _ _ _ _ p_v0 f0 hf
  · intro h5 w0_6 w1_7 p_w0_6 f8 hf
    replace hf := (e_if hf).2
    obtain ⟨b9, hb10, hf⟩ := e_bd hf
    have p11 := f8.1 _ _ _ p_w0_6 hb10
    obtain ⟨b12, hb13, hf⟩ := e_bd hf
    have p14 := f8.1 _ _ _ p_w0_6 hb13
    replace hf := (e_if hf).2
    obtain ⟨r15, hr16, hf⟩ := e_bd hf
    have f17 := w_X4_addNumber p14 f8 hr16
    exact fr_oV hf f17
theorem w_X4_addSign {P : Nat → Prop} {L : eL} {h0 h : eH} {v0 : Nat} {v1 : Int32} {r : eH} (p_v0 : P v0) (f0 : fr P h0 h) (hf : f_X4_addSign L h v0 v1 = some r) : fr P h0 r := by
  unfold f_X4_addSign at hf
  replace hf := (e_if hf).2
  obtain ⟨r1, hr2, hf⟩ := e_bd hf
  have f3 := w_X4_add p_v0 f0 hr2
  exact fr_oV hf f3
theorem w_X5_emit {P : Nat → Prop} {L : eL} {h0 h : eH} {v0 : Nat} {v1 : Int32} {r : eH} (p_v0 : P v0) (f0 : fr P h0 h) (hf : f_X5_emit L h v0 v1 = some r) : fr P h0 r := by
  unfold f_X5_emit at hf
  replace hf := (e_if hf).2
  obtain ⟨b1, hb2, hf⟩ := e_bd hf
  have p3 := f0.1 _ _ _ p_v0 hb2
  obtain ⟨b4, hb5, hf⟩ := e_bd hf
  have p6 := f0.1 _ _ _ p_v0 hb5
  replace hf := (e_if hf).2
  obtain ⟨r7, hr8, hf⟩ := e_bd hf
  have f9 := w_X4_addSign p6 f0 hr8
  exact fr_oV hf f9
theorem w_X5_readThing_o {P : Nat → Prop} {L : eL} {h0 h : eH} {rec_X5_readLevel : eH → Nat → Int32 → Int32 → Option (eH × Int32)} {v0 : Nat} {v1 : Int32} {r : eH × Int32} (grec_X5_readLevel : ∀ (h : eH) (a0 : Nat) (a1 : Int32) (a2 : Int32) {z : eH × Int32}, P a0 → fr P h0 h → rec_X5_readLevel h a0 a1 a2 = some z → fr P h0 z.1) (p_v0 : P v0) (f0 : fr P h0 h) (hf : f_X5_readThing_o L rec_X5_readLevel h v0 v1 = some r) : fr P h0 r.1 := by
  unfold f_X5_readThing_o at hf
  replace hf := (e_if hf).2
  obtain ⟨r1, hr2, hf⟩ := e_bd hf
  rcases e_or hf with hf | hf
  · rcases e_or hf with hf | hf
    · rcases e_or hf with hf | hf
      · rcases e_or hf with hf | hf
        · obtain ⟨r3, hr4, hf⟩ := e_bd hf
          have f5 := grec_X5_readLevel _ _ _ _ p_v0 (fr_sI f0 p_v0) hr4
          rcases e_or hf with hf | hf
          · exact fr_oW hf f5
          · obtain ⟨r6, hr7, hf⟩ := e_bd hf
            rcases e_or hf with hf | hf
            · exact fr_oW hf (fr_sI f5 p_v0)
            · exact fr_oW hf f5
        · exact fr_oW hf f0
      · exact fr_oW hf f0
    · obtain ⟨r8, hr9, hf⟩ := e_bd hf
      have f10 := w_X5_emit p_v0 (fr_sI f0 p_v0) hr9
      exact fr_oW hf f10
  · obtain ⟨r11, hr12, hf⟩ := e_bd hf
    have f13 := w_X5_readNumber p_v0 f0 hr12
    exact fr_oW hf f13
theorem w_X5_readSigned_o_L2 {P : Nat → Prop} {L : eL} {h0 : eH} {rec_X5_readThing : eH → Nat → Int32 → Option (eH × Int32)} {r : eH × Int32} {k33 : eH → Nat → Int32 → Int32 → Option (eH × Int32)} (grec_X5_readThing : ∀ (h : eH) (a0 : Nat) (a1 : Int32) {z : eH × Int32}, P a0 → fr P h0 h → rec_X5_readThing h a0 a1 = some z → fr P h0 z.1) (hk33 : ∀ (h : eH) (v0 : Nat) (v1 : Int32) (v2 : Int32), P v0 → fr P h0 h → k33 h v0 v1 v2 = some r → fr P h0 r.1) : ∀ (n : Nat) (h : eH) (v0 : Nat) (v1 : Int32) (v2 : Int32), P v0 → fr P h0 h → f_X5_readSigned_o_L2 L rec_X5_readThing n k33 h v0 v1 v2 = some r → fr P h0 r.1 := by
  intro n
  induction n with
  | zero => intro h v0 v1 v2 p_v0 f0 hf; exact absurd hf (by simp [f_X5_readSigned_o_L2])
  | succ n ih =>
    intro h v0 v1 v2 p_v0 f0 hf
    unfold f_X5_readSigned_o_L2 at hf
    rcases e_or hf with hf | hf
    · exact hk33 _ _ _ _ p_v0 f0 hf
    · replace hf := (e_if hf).2
      obtain ⟨r1, hr2, hf⟩ := e_bd hf
      rcases e_or hf with hf | hf
      · exact ih _ _ _ _ p_v0 (fr_sI f0 p_v0) hf
      · exact hk33 _ _ _ _ p_v0 f0 hf
theorem w_X5_readSigned_o_L45 {P : Nat → Prop} {L : eL} {h0 : eH} {rec_X5_readThing : eH → Nat → Int32 → Option (eH × Int32)} {r : eH × Int32} {k62 : eH → Option (eH × Int32)} (grec_X5_readThing : ∀ (h : eH) (a0 : Nat) (a1 : Int32) {z : eH × Int32}, P a0 → fr P h0 h → rec_X5_readThing h a0 a1 = some z → fr P h0 z.1) (hk62 : ∀ (h : eH), fr P h0 h → k62 h = some r → fr P h0 r.1) : ∀ (n : Nat) (h : eH) (v0 : Nat) (v2 : Int32) (v3 : Int32), P v0 → fr P h0 h → f_X5_readSigned_o_L45 L rec_X5_readThing n k62 h v0 v2 v3 = some r → fr P h0 r.1 := by
  intro n
  induction n with
  | zero => intro h v0 v2 v3 p_v0 f0 hf; exact absurd hf (by simp [f_X5_readSigned_o_L45])
  | succ n ih =>
    intro h v0 v2 v3 p_v0 f0 hf
    unfold f_X5_readSigned_o_L45 at hf
    rcases e_or hf with hf | hf
    · exact hk62 _ f0 hf
    · replace hf := (e_if hf).2
      obtain ⟨r11, hr12, hf⟩ := e_bd hf
      have f13 := w_X5_emit p_v0 f0 hr12
      exact ih _ _ _ _ p_v0 f13 hf
theorem w_X5_readSigned_o {P : Nat → Prop} {L : eL} {h0 h : eH} {rec_X5_readThing : eH → Nat → Int32 → Option (eH × Int32)} {v0 : Nat} {v1 : Int32} {r : eH × Int32} (grec_X5_readThing : ∀ (h : eH) (a0 : Nat) (a1 : Int32) {z : eH × Int32}, P a0 → fr P h0 h → rec_X5_readThing h a0 a1 = some z → fr P h0 z.1) (p_v0 : P v0) (f0 : fr P h0 h) (hf : f_X5_readSigned_o L rec_X5_readThing h v0 v1 = some r) : fr P h0 r.1 := by
  unfold f_X5_readSigned_o at hf
  refine w_X5_readSigned_o_L2 grec_X5_readThing ?_ e_fu _ _ _ _ p_v0 f0 hf
  · intro h3 w0_4 w1_5 w2_6 p_w0_4 f7 hf
    replace hf := (e_if hf).2
    obtain ⟨r8, hr9, hf⟩ := e_bd hf
    have f10 := grec_X5_readThing _ _ _ p_w0_4 f7 hr9
    rcases e_or hf with hf | hf
    · exact fr_oW hf f10
    · refine w_X5_readSigned_o_L45 grec_X5_readThing ?_ e_fu _ _ _ _ p_w0_4 f10 hf
      · intro h14 f15 hf
        exact fr_oW hf f15
theorem w_X5_readLevel_o_L42 {P : Nat → Prop} {L : eL} {h0 : eH} {rec_X5_readSigned : eH → Nat → Int32 → Option (eH × Int32)} {rec_X5_readLevel : eH → Nat → Int32 → Int32 → Option (eH × Int32)} {r : eH × Int32} {k86 : eH → Option (eH × Int32)} {k100 : eH → Option (eH × Int32)} (grec_X5_readSigned : ∀ (h : eH) (a0 : Nat) (a1 : Int32) {z : eH × Int32}, P a0 → fr P h0 h → rec_X5_readSigned h a0 a1 = some z → fr P h0 z.1) (grec_X5_readLevel : ∀ (h : eH) (a0 : Nat) (a1 : Int32) (a2 : Int32) {z : eH × Int32}, P a0 → fr P h0 h → rec_X5_readLevel h a0 a1 a2 = some z → fr P h0 z.1) (hk86 : ∀ (h : eH), fr P h0 h → k86 h = some r → fr P h0 r.1) (hk100 : ∀ (h : eH), fr P h0 h → k100 h = some r → fr P h0 r.1) : ∀ (n : Nat) (h : eH) (v0 : Nat) (v1 : Int32) (v2 : Int32) (v3 : Int32) (v4 : Int32), P v0 → fr P h0 h → f_X5_readLevel_o_L42 L rec_X5_readSigned rec_X5_readLevel n k86 k100 h v0 v1 v2 v3 v4 = some r → fr P h0 r.1 := by
  intro n
  induction n with
  | zero => intro h v0 v1 v2 v3 v4 p_v0 f0 hf; exact absurd hf (by simp [f_X5_readLevel_o_L42])
  | succ n ih =>
    intro h v0 v1 v2 v3 v4 p_v0 f0 hf
    unfold f_X5_readLevel_o_L42 at hf
    rcases e_or hf with hf | hf
    · exact hk100 _ f0 hf
    · replace hf := (e_if hf).2
      obtain ⟨r4, hr5, hf⟩ := e_bd hf
      rcases e_or hf with hf | hf
      · obtain ⟨r6, hr7, hf⟩ := e_bd hf
        obtain ⟨r8, hr9, hf⟩ := e_bd hf
        have f10 := grec_X5_readLevel _ _ _ _ p_v0 (fr_sI f0 p_v0) hr9
        rcases e_or hf with hf | hf
        · exact hk86 _ f10 hf
        · obtain ⟨r11, hr12, hf⟩ := e_bd hf
          have f13 := w_X5_emit p_v0 f10 hr12
          exact ih _ _ _ _ _ _ p_v0 f13 hf
      · exact hk100 _ f0 hf
theorem w_X5_readLevel_o {P : Nat → Prop} {L : eL} {h0 h : eH} {rec_X5_readSigned : eH → Nat → Int32 → Option (eH × Int32)} {rec_X5_readLevel : eH → Nat → Int32 → Int32 → Option (eH × Int32)} {v0 : Nat} {v1 : Int32} {v2 : Int32} {r : eH × Int32} (grec_X5_readSigned : ∀ (h : eH) (a0 : Nat) (a1 : Int32) {z : eH × Int32}, P a0 → fr P h0 h → rec_X5_readSigned h a0 a1 = some z → fr P h0 z.1) (grec_X5_readLevel : ∀ (h : eH) (a0 : Nat) (a1 : Int32) (a2 : Int32) {z : eH × Int32}, P a0 → fr P h0 h → rec_X5_readLevel h a0 a1 a2 = some z → fr P h0 z.1) (p_v0 : P v0) (f0 : fr P h0 h) (hf : f_X5_readLevel_o L rec_X5_readSigned rec_X5_readLevel h v0 v1 v2 = some r) : fr P h0 r.1 := by
  unfold f_X5_readLevel_o at hf
  rcases e_or hf with hf | hf
  · rcases e_or hf with hf | hf
    · exact fr_oW hf f0
    · replace hf := (e_if hf).2
      obtain ⟨r1, hr2, hf⟩ := e_bd hf
      have f3 := grec_X5_readLevel _ _ _ _ p_v0 f0 hr2
      rcases e_or hf with hf | hf
      · exact fr_oW hf f3
      · rcases e_or hf with hf | hf
        · refine w_X5_readLevel_o_L42 grec_X5_readSigned grec_X5_readLevel ?_ ?_ e_fu _ _ _ _ _ _ p_v0 f3 hf
          · intro h18 f19 hf
            exact fr_oW hf f19
          · intro h20 f21 hf
            exact fr_oW hf f21
        · refine w_X5_readLevel_o_L42 grec_X5_readSigned grec_X5_readLevel ?_ ?_ e_fu _ _ _ _ _ _ p_v0 f3 hf
          · intro h14 f15 hf
            exact fr_oW hf f15
          · intro h16 f17 hf
            exact fr_oW hf f17
  · replace hf := (e_if hf).2
    obtain ⟨r22, hr23, hf⟩ := e_bd hf
    have f24 := grec_X5_readSigned _ _ _ p_v0 f0 hr23
    replace hf := (e_if hf).2
    exact fr_oW hf f24
theorem wg_X5_readLevel {P : Nat → Prop} {L : eL} {h0 : eH} : ∀ (n t : Nat) (h : eH) (x0 : Nat) (x1 : Int32) (x2 : Int32) (r : eH × Int32), P x0 → fr P h0 h → fg_X5_readLevel L n t h x0 x1 x2 = some r → fr P h0 r.1 := by
  intro n
  induction n with
  | zero => intro t h x0 x1 x2 r p0 f0 hf; exact absurd hf (by simp [fg_X5_readLevel])
  | succ n ih =>
    intro t h x0 x1 x2 r p0 f0 hf
    unfold fg_X5_readLevel at hf
    rcases e_or hf with hf | hf
    · exact w_X5_readLevel_o (fun hh a0 a1 {z} pa0 ff hz => ih _ _ _ _ _ z pa0 ff hz) (fun hh a0 a1 a2 {z} pa0 ff hz => ih _ _ _ _ _ z pa0 ff hz) p0 f0 hf
    rcases e_or hf with hf | hf
    · exact w_X5_readSigned_o (fun hh a0 a1 {z} pa0 ff hz => ih _ _ _ _ _ z pa0 ff hz) p0 f0 hf
    · exact w_X5_readThing_o (fun hh a0 a1 a2 {z} pa0 ff hz => ih _ _ _ _ _ z pa0 ff hz) p0 f0 hf
theorem w_X5_readLevel {P : Nat → Prop} {L : eL} {h0 h : eH} {x0 : Nat} {x1 : Int32} {x2 : Int32} {r : eH × Int32} (p0 : P x0) (f0 : fr P h0 h) (hf : f_X5_readLevel L h x0 x1 x2 = some r) : fr P h0 r.1 := wg_X5_readLevel 100 0 h x0 x1 x2 r p0 f0 hf
theorem w_X5_readSigned {P : Nat → Prop} {L : eL} {h0 h : eH} {x0 : Nat} {x1 : Int32} {r : eH × Int32} (p0 : P x0) (f0 : fr P h0 h) (hf : f_X5_readSigned L h x0 x1 = some r) : fr P h0 r.1 := wg_X5_readLevel 100 1 h x0 x1 0 r p0 f0 hf
theorem w_X5_readThing {P : Nat → Prop} {L : eL} {h0 h : eH} {x0 : Nat} {x1 : Int32} {r : eH × Int32} (p0 : P x0) (f0 : fr P h0 h) (hf : f_X5_readThing L h x0 x1 = some r) : fr P h0 r.1 := wg_X5_readLevel 100 2 h x0 x1 0 r p0 f0 hf
theorem w_X5_read_J76 {P : Nat → Prop} {L : eL} {h0 : eH} {r : eH × Int32}  : ∀ (h : eH) (v0 : Nat), P v0 → fr P h0 h → f_X5_read_J76 L h v0 = some r → fr P h0 r.1 := by
  intro h v0 p_v0 f0 hf
  unfold f_X5_read_J76 at hf
  replace hf := (e_if hf).2
  exact fr_oW hf f0
theorem w_X5_read {P : Nat → Prop} {L : eL} {h0 h : eH} {v0 : Nat} {v1 : Nat} {v2 : Nat} {r : eH × Int32} (p_v0 : P v0) (p_v1 : P v1) (p_v2 : P v2) (f0 : fr P h0 h) (hf : f_X5_read L h v0 v1 v2 = some r) : fr P h0 r.1 := by
  unfold f_X5_read at hf
  replace hf := (e_if hf).2
  replace hf := (e_if hf).2
  obtain ⟨r1, hr2, hf⟩ := e_bd hf
  obtain ⟨h3, hh4, hf⟩ := e_bd hf
  have f5 := fr_oV hh4 (fr_sI (fr_sR (fr_sR f0 p_v0 p_v1) p_v0 p_v2) p_v0)
  replace hf := (e_if hf).2
  obtain ⟨r6, hr7, hf⟩ := e_bd hf
  have f8 := w_X4_begin p_v2 (fr_sI f5 p_v0) hr7
  obtain ⟨r9, hr10, hf⟩ := e_bd hf
  rcases e_or hf with hf | hf
  · exact fr_oW hf f8
  · obtain ⟨r11, hr12, hf⟩ := e_bd hf
    have f13 := w_X5_readLevel p_v0 f8 hr12
    rcases e_or hf with hf | hf
    · exact w_X5_read_J76 _ _ p_v0 f13 hf
    · rcases e_or hf with hf | hf
      · obtain ⟨r14, hr15, hf⟩ := e_bd hf
        rcases e_or hf with hf | hf
        · exact fr_oW hf f13
        · exact w_X5_read_J76 _ _ p_v0 f13 hf
      · exact w_X5_read_J76 _ _ p_v0 f13 hf
theorem w_X10_rule {P : Nat → Prop} {L : eL} {h0 h : eH} {v0 : Nat} {r : eH × Int32} (p_v0 : P v0) (f0 : fr P h0 h) (hf : f_X10_rule L h v0 = some r) : fr P h0 r.1 := by
  unfold f_X10_rule at hf
  replace hf := (e_if hf).2
  obtain ⟨b1, hb2, hf⟩ := e_bd hf
  have p3 := f0.1 _ _ _ p_v0 hb2
  obtain ⟨b4, hb5, hf⟩ := e_bd hf
  have p6 := f0.1 _ _ _ p_v0 hb5
  obtain ⟨b7, hb8, hf⟩ := e_bd hf
  have p9 := f0.1 _ _ _ p_v0 hb8
  replace hf := (e_if hf).2
  obtain ⟨r10, hr11, hf⟩ := e_bd hf
  have f12 := w_X5_read p3 p6 p9 f0 hr11
  obtain ⟨b13, hb14, hf⟩ := e_bd hf
  have p15 := f12.1 _ _ _ p_v0 hb14
  replace hf := (e_if hf).2
  obtain ⟨r16, hr17, hf⟩ := e_bd hf
  have f18 := w_X8_cut p15 f12 hr17
  rcases e_or hf with hf | hf
  · obtain ⟨b19, hb20, hf⟩ := e_bd hf
    have p21 := f18.1 _ _ _ p_v0 hb20
    obtain ⟨b22, hb23, hf⟩ := e_bd hf
    have p24 := f18.1 _ _ _ p_v0 hb23
    obtain ⟨h25, hh26, hf⟩ := e_bd hf
    have f27 := fr_oV hh26 (fr_sR (fr_sR f18 p_v0 p24) p_v0 p21)
    exact fr_oW hf f27
  · exact fr_oW hf f18
theorem w_X6_putDust {P : Nat → Prop} {L : eL} {h0 h : eH} {v0 : Nat} {v1 : Int32} {v2 : Int32} {r : eH} (p_v0 : P v0) (f0 : fr P h0 h) (hf : f_X6_putDust L h v0 v1 v2 = some r) : fr P h0 r := by
  unfold f_X6_putDust at hf
  rcases e_or hf with hf | hf
  · exact fr_oV hf f0
  · rcases e_or hf with hf | hf
    · exact fr_oV hf f0
    · replace hf := (e_if hf).2
      obtain ⟨b1, hb2, hf⟩ := e_bd hf
      have p3 := f0.1 _ _ _ p_v0 hb2
      replace hf := (e_if hf).2
      exact fr_oV hf (fr_sI f0 p3)
theorem w_X10_sheet_J75 {P : Nat → Prop} {L : eL} {h0 : eH} {r : eH × Int32} {k42 : eH → Nat → Int32 → Int32 → Int32 → Int32 → Int32 → Option (eH × Int32)} {k112 : eH → Nat → Option (eH × Int32)} (hk42 : ∀ (h : eH) (v0 : Nat) (v1 : Int32) (v2 : Int32) (v3 : Int32) (v4 : Int32) (v5 : Int32), P v0 → fr P h0 h → k42 h v0 v1 v2 v3 v4 v5 = some r → fr P h0 r.1) (hk112 : ∀ (h : eH) (v0 : Nat), P v0 → fr P h0 h → k112 h v0 = some r → fr P h0 r.1) : ∀ (h : eH) (v0 : Nat) (v1 : Int32) (v2 : Int32) (v3 : Int32) (v4 : Int32) (v5 : Int32) (s0 : Int32), P v0 → fr P h0 h → f_X10_sheet_J75 L k42 k112 h v0 v1 v2 v3 v4 v5 s0 = some r → fr P h0 r.1 := by
  intro h v0 v1 v2 v3 v4 v5 s0 p_v0 f0 hf
  unfold f_X10_sheet_J75 at hf
  replace hf := (e_if hf).2
  obtain ⟨b1, hb2, hf⟩ := e_bd hf
  have p3 := f0.1 _ _ _ p_v0 hb2
  rcases e_or hf with hf | hf
  · replace hf := (e_if hf).2
    obtain ⟨r4, hr5, hf⟩ := e_bd hf
    have f6 := w_X6_putDust p3 f0 hr5
    exact hk42 _ _ _ _ _ _ _ p_v0 f6 hf
  · replace hf := (e_if hf).2
    obtain ⟨r7, hr8, hf⟩ := e_bd hf
    have f9 := w_X6_putDust p3 f0 hr8
    exact hk42 _ _ _ _ _ _ _ p_v0 f9 hf
theorem w_X10_sheet_L42 {P : Nat → Prop} {L : eL} {h0 : eH} {r : eH × Int32} {k112 : eH → Nat → Option (eH × Int32)} (hk112 : ∀ (h : eH) (v0 : Nat), P v0 → fr P h0 h → k112 h v0 = some r → fr P h0 r.1) : ∀ (n : Nat) (h : eH) (v0 : Nat) (v1 : Int32) (v2 : Int32) (v3 : Int32) (v4 : Int32) (v5 : Int32), P v0 → fr P h0 h → f_X10_sheet_L42 L n k112 h v0 v1 v2 v3 v4 v5 = some r → fr P h0 r.1 := by
  intro n
  induction n with
  | zero => intro h v0 v1 v2 v3 v4 v5 p_v0 f0 hf; exact absurd hf (by simp [f_X10_sheet_L42])
  | succ n ih =>
    intro h v0 v1 v2 v3 v4 v5 p_v0 f0 hf
    unfold f_X10_sheet_L42 at hf
    rcases e_or hf with hf | hf
    · exact hk112 _ _ p_v0 f0 hf
    · rcases e_or hf with hf | hf
      · exact w_X10_sheet_J75 ih hk112 _ _ _ _ _ _ _ _ p_v0 f0 hf
      · replace hf := (e_if hf).2
        obtain ⟨b10, hb11, hf⟩ := e_bd hf
        have p12 := f0.1 _ _ _ p_v0 hb11
        replace hf := (e_if hf).2
        rcases e_or hf with hf | hf
        · exact w_X10_sheet_J75 ih hk112 _ _ _ _ _ _ _ _ p_v0 f0 hf
        · exact w_X10_sheet_J75 ih hk112 _ _ _ _ _ _ _ _ p_v0 f0 hf
theorem w_X10_sheet {P : Nat → Prop} {L : eL} {h0 h : eH} {v0 : Nat} {v1 : Int32} {v2 : Int32} {v3 : Int32} {v4 : Int32} {r : eH × Int32} (p_v0 : P v0) (f0 : fr P h0 h) (hf : f_X10_sheet L h v0 v1 v2 v3 v4 = some r) : fr P h0 r.1 := by
  unfold f_X10_sheet at hf
  rcases e_or hf with hf | hf
  · exact fr_oW hf f0
  · rcases e_or hf with hf | hf
    · exact fr_oW hf f0
    · rcases e_or hf with hf | hf
      · rcases e_or hf with hf | hf
        · replace hf := (e_if hf).2
          obtain ⟨b21, hb22, hf⟩ := e_bd hf
          have p23 := f0.1 _ _ _ p_v0 hb22
          replace hf := (e_if hf).2
          obtain ⟨r24, hr25, hf⟩ := e_bd hf
          have f26 := w_X6_clearDust p23 f0 hr25
          exact fr_oW hf f26
        · rcases e_or hf with hf | hf
          · refine w_X10_sheet_L42 ?_ e_fu _ _ _ _ _ _ _ p_v0 f0 hf
            · intro h13 w0_14 p_w0_14 f15 hf
              replace hf := (e_if hf).2
              obtain ⟨b16, hb17, hf⟩ := e_bd hf
              have p18 := f15.1 _ _ _ p_w0_14 hb17
              replace hf := (e_if hf).2
              obtain ⟨r19, hr20, hf⟩ := e_bd hf
              exact fr_oW hf f15
          · exact fr_oW hf f0
      · exact fr_oW hf f0
theorem w_X6_copyFrom {P : Nat → Prop} {L : eL} {h0 h : eH} {v0 : Nat} {v1 : Nat} {r : eH} (p_v0 : P v0) (p_v1 : P v1) (f0 : fr P h0 h) (hf : f_X6_copyFrom L h v0 v1 = some r) : fr P h0 r := by
  unfold f_X6_copyFrom at hf
  replace hf := (e_if hf).2
  obtain ⟨b1, hb2, hf⟩ := e_bd hf
  have p3 := f0.1 _ _ _ p_v1 hb2
  replace hf := (e_if hf).2
  obtain ⟨b4, hb5, hf⟩ := e_bd hf
  have p6 := f0.1 _ _ _ p_v0 hb5
  replace hf := (e_if hf).2
  obtain ⟨h7, hh8, hf⟩ := e_bd hf
  have f9 := fr_oV hh8 (fr_sI (fr_cpI f0 p6) p_v0)
  obtain ⟨h10, hh11, hf⟩ := e_bd hf
  have f12 := fr_oV hh11 (fr_sI (fr_sI f9 p_v0) p_v0)
  obtain ⟨h13, hh14, hf⟩ := e_bd hf
  have f15 := fr_oV hh14 (fr_sI (fr_sI f12 p_v0) p_v0)
  obtain ⟨h16, hh17, hf⟩ := e_bd hf
  have f18 := fr_oV hh17 (fr_sI (fr_sI f15 p_v0) p_v0)
  exact fr_oV hf (fr_sL f18 p_v0)
theorem w_X6_enter {P : Nat → Prop} {L : eL} {h0 h : eH} {v0 : Nat} {v1 : Int32} {r : eH} (p_v0 : P v0) (f0 : fr P h0 h) (hf : f_X6_enter L h v0 v1 = some r) : fr P h0 r := by
  unfold f_X6_enter at hf
  replace hf := (e_if hf).2
  obtain ⟨r1, hr2, hf⟩ := e_bd hf
  obtain ⟨h3, hh4, hf⟩ := e_bd hf
  have f5 := fr_oV hh4 (fr_sI (fr_sI f0 p_v0) p_v0)
  obtain ⟨r6, hr7, hf⟩ := e_bd hf
  have f8 := w_X6_putDust p_v0 f5 hr7
  exact fr_oV hf f8
theorem w_X4_turnOf_J44 {P : Nat → Prop} {L : eL} {h0 : eH} {r : eH × Int32} {k5 : eH → Nat → Nat → Nat → Int32 → Int32 → Option (eH × Int32)} {k155 : eH → Nat → Option (eH × Int32)} (hk5 : ∀ (h : eH) (v0 : Nat) (v1 : Nat) (v2 : Nat) (v3 : Int32) (v4 : Int32), P v0 → P v1 → P v2 → fr P h0 h → k5 h v0 v1 v2 v3 v4 = some r → fr P h0 r.1) (hk155 : ∀ (h : eH) (v0 : Nat), P v0 → fr P h0 h → k155 h v0 = some r → fr P h0 r.1) : ∀ (h : eH) (v0 : Nat) (v1 : Nat) (v2 : Nat) (v3 : Int32) (v4 : Int32) (v5 : Int32), P v0 → P v1 → P v2 → fr P h0 h → f_X4_turnOf_J44 L k5 k155 h v0 v1 v2 v3 v4 v5 = some r → fr P h0 r.1 := by
  intro h v0 v1 v2 v3 v4 v5 p_v0 p_v1 p_v2 f0 hf
  unfold f_X4_turnOf_J44 at hf
  rcases e_or hf with hf | hf
  · exact hk5 _ _ _ _ _ _ p_v0 p_v1 p_v2 f0 hf
  · replace hf := (e_if hf).2
    obtain ⟨b4, hb5, hf⟩ := e_bd hf
    have p6 := f0.1 _ _ _ p_v0 hb5
    rcases e_or hf with hf | hf
    · obtain ⟨r7, hr8, hf⟩ := e_bd hf
      replace hf := (e_if hf).2
      exact hk5 _ _ _ _ _ _ p_v0 p_v1 p_v2 (fr_sI f0 p6) hf
    · replace hf := (e_if hf).2
      exact hk5 _ _ _ _ _ _ p_v0 p_v1 p_v2 (fr_sI f0 p6) hf
theorem w_X4_turnOf_L5 {P : Nat → Prop} {L : eL} {h0 : eH} {r : eH × Int32} {k155 : eH → Nat → Option (eH × Int32)} (hk155 : ∀ (h : eH) (v0 : Nat), P v0 → fr P h0 h → k155 h v0 = some r → fr P h0 r.1) : ∀ (n : Nat) (h : eH) (v0 : Nat) (v1 : Nat) (v2 : Nat) (v3 : Int32) (v4 : Int32), P v0 → P v1 → P v2 → fr P h0 h → f_X4_turnOf_L5 L n k155 h v0 v1 v2 v3 v4 = some r → fr P h0 r.1 := by
  intro n
  induction n with
  | zero => intro h v0 v1 v2 v3 v4 p_v0 p_v1 p_v2 f0 hf; exact absurd hf (by simp [f_X4_turnOf_L5])
  | succ n ih =>
    intro h v0 v1 v2 v3 v4 p_v0 p_v1 p_v2 f0 hf
    unfold f_X4_turnOf_L5 at hf
    replace hf := (e_if hf).2
    rcases e_or hf with hf | hf
    · exact hk155 _ _ p_v0 f0 hf
    · rcases e_or hf with hf | hf
      · exact hk155 _ _ p_v0 f0 hf
      · obtain ⟨b1, hb2, hf⟩ := e_bd hf
        have p3 := f0.1 _ _ _ p_v0 hb2
        replace hf := (e_if hf).2
        rcases e_or hf with hf | hf
        · exact w_X4_turnOf_J44 ih hk155 _ _ _ _ _ _ _ p_v0 p_v1 p_v2 f0 hf
        · rcases e_or hf with hf | hf
          · rcases e_or hf with hf | hf
            · rcases e_or hf with hf | hf
              · exact ih _ _ _ _ _ _ p_v0 p_v1 p_v2 f0 hf
              · obtain ⟨b23, hb24, hf⟩ := e_bd hf
                have p25 := f0.1 _ _ _ p_v0 hb24
                obtain ⟨b26, hb27, hf⟩ := e_bd hf
                have p28 := f0.1 _ _ _ p_v0 hb27
                replace hf := (e_if hf).2
                replace hf := (e_if hf).2
                obtain ⟨h29, hh30, hf⟩ := e_bd hf
                have f31 := fr_oV hh30 (fr_sI f0 p25)
                exact ih _ _ _ _ _ _ p_v0 p_v1 p_v2 f31 hf
            · rcases e_or hf with hf | hf
              · exact ih _ _ _ _ _ _ p_v0 p_v1 p_v2 f0 hf
              · obtain ⟨b9, hb10, hf⟩ := e_bd hf
                have p11 := f0.1 _ _ _ p_v0 hb10
                obtain ⟨b12, hb13, hf⟩ := e_bd hf
                have p14 := f0.1 _ _ _ p_v0 hb13
                replace hf := (e_if hf).2
                obtain ⟨b15, hb16, hf⟩ := e_bd hf
                have p17 := f0.1 _ _ _ p_v0 hb16
                replace hf := (e_if hf).2
                obtain ⟨r18, hr19, hf⟩ := e_bd hf
                replace hf := (e_if hf).2
                obtain ⟨h20, hh21, hf⟩ := e_bd hf
                have f22 := fr_oV hh21 (fr_sI f0 p11)
                exact ih _ _ _ _ _ _ p_v0 p_v1 p_v2 f22 hf
          · exact w_X4_turnOf_J44 ih hk155 _ _ _ _ _ _ _ p_v0 p_v1 p_v2 f0 hf
theorem w_X4_turnOf_J174 {P : Nat → Prop} {L : eL} {h0 : eH} {r : eH × Int32}  : ∀ (h : eH) (s0 : Int32), fr P h0 h → f_X4_turnOf_J174 L h s0 = some r → fr P h0 r.1 := by
  intro h s0 f0 hf
  unfold f_X4_turnOf_J174 at hf
  rcases e_or hf with hf | hf
  · exact fr_oW hf f0
  · exact fr_oW hf f0
theorem w_X4_turnOf_J155 {P : Nat → Prop} {L : eL} {h0 : eH} {r : eH × Int32}  : ∀ (h : eH) (v0 : Nat), P v0 → fr P h0 h → f_X4_turnOf_J155 L h v0 = some r → fr P h0 r.1 := by
  intro h v0 p_v0 f0 hf
  unfold f_X4_turnOf_J155 at hf
  replace hf := (e_if hf).2
  rcases e_or hf with hf | hf
  · exact w_X4_turnOf_J174 _ _ f0 hf
  · obtain ⟨b35, hb36, hf⟩ := e_bd hf
    have p37 := f0.1 _ _ _ p_v0 hb36
    replace hf := (e_if hf).2
    exact w_X4_turnOf_J174 _ _ f0 hf
theorem w_X4_turnOf {P : Nat → Prop} {L : eL} {h0 h : eH} {v0 : Nat} {v1 : Nat} {v2 : Nat} {r : eH × Int32} (p_v0 : P v0) (p_v1 : P v1) (p_v2 : P v2) (f0 : fr P h0 h) (hf : f_X4_turnOf L h v0 v1 v2 = some r) : fr P h0 r.1 := by
  unfold f_X4_turnOf at hf
  refine w_X4_turnOf_L5 ?_ e_fu _ _ _ _ _ _ p_v0 p_v1 p_v2 f0 hf
  · intro h32 w0_33 p_w0_33 f34 hf
    exact w_X4_turnOf_J155 _ _ p_w0_33 f34 hf
theorem w_X6_turnBy {P : Nat → Prop} {L : eL} {h0 h : eH} {v0 : Nat} {v1 : Int32} {r : eH} (p_v0 : P v0) (f0 : fr P h0 h) (hf : f_X6_turnBy L h v0 v1 = some r) : fr P h0 r := by
  unfold f_X6_turnBy at hf
  replace hf := (e_if hf).2
  exact fr_oV hf (fr_sI f0 p_v0)
theorem w_X6_strike {P : Nat → Prop} {L : eL} {h0 h : eH} {v0 : Nat} {v1 : Int32} {r : eH} (p_v0 : P v0) (f0 : fr P h0 h) (hf : f_X6_strike L h v0 v1 = some r) : fr P h0 r := by
  unfold f_X6_strike at hf
  replace hf := (e_if hf).2
  obtain ⟨r1, hr2, hf⟩ := e_bd hf
  have f3 := w_X6_turnBy p_v0 f0 hr2
  exact fr_oV hf (fr_sI f3 p_v0)
theorem w_X10_goOn_J19 {P : Nat → Prop} {L : eL} {h0 : eH} {r : eH × Int32}  : ∀ (h : eH) (v0 : Nat) (v1 : Nat) (v3 : Int32) (s0 : Int32), P v0 → P v1 → fr P h0 h → f_X10_goOn_J19 L h v0 v1 v3 s0 = some r → fr P h0 r.1 := by
  intro h v0 v1 v3 s0 p_v0 p_v1 f0 hf
  unfold f_X10_goOn_J19 at hf
  replace hf := (e_if hf).2
  rcases e_or hf with hf | hf
  · obtain ⟨h1, hh2, hf⟩ := e_bd hf
    have f3 := fr_oV hh2 (fr_sI (fr_sI f0 p_v1) p_v1)
    replace hf := (e_if hf).2
    obtain ⟨b4, hb5, hf⟩ := e_bd hf
    have p6 := f3.1 _ _ _ p_v0 hb5
    replace hf := (e_if hf).2
    obtain ⟨r7, hr8, hf⟩ := e_bd hf
    obtain ⟨b9, hb10, hf⟩ := e_bd hf
    have p11 := f3.1 _ _ _ p_v0 hb10
    replace hf := (e_if hf).2
    rcases e_or hf with hf | hf
    · rcases e_or hf with hf | hf
      · obtain ⟨b15, hb16, hf⟩ := e_bd hf
        have p17 := f3.1 _ _ _ p_v0 hb16
        obtain ⟨b18, hb19, hf⟩ := e_bd hf
        have p20 := f3.1 _ _ _ p_v0 hb19
        replace hf := (e_if hf).2
        obtain ⟨r21, hr22, hf⟩ := e_bd hf
        have f23 := w_X4_turnOf p17 p_v1 p20 f3 hr22
        obtain ⟨r24, hr25, hf⟩ := e_bd hf
        have f26 := w_X6_strike p_v1 f23 hr25
        exact fr_oW hf f26
      · obtain ⟨r12, hr13, hf⟩ := e_bd hf
        have f14 := w_X6_strike p_v1 f3 hr13
        exact fr_oW hf f14
    · obtain ⟨r27, hr28, hf⟩ := e_bd hf
      have f29 := w_X6_enter p_v1 f3 hr28
      exact fr_oW hf f29
  · exact fr_oW hf f0
theorem w_X10_goOn {P : Nat → Prop} {L : eL} {h0 h : eH} {v0 : Nat} {v1 : Nat} {v2 : Int32} {v3 : Int32} {r : eH × Int32} (p_v0 : P v0) (p_v1 : P v1) (f0 : fr P h0 h) (hf : f_X10_goOn L h v0 v1 v2 v3 = some r) : fr P h0 r.1 := by
  unfold f_X10_goOn at hf
  rcases e_or hf with hf | hf
  · exact w_X10_goOn_J19 _ _ _ _ _ p_v0 p_v1 f0 hf
  · replace hf := (e_if hf).2
    obtain ⟨b30, hb31, hf⟩ := e_bd hf
    have p32 := f0.1 _ _ _ p_v0 hb31
    replace hf := (e_if hf).2
    replace hf := (e_if hf).2
    obtain ⟨r33, hr34, hf⟩ := e_bd hf
    exact w_X10_goOn_J19 _ _ _ _ _ p_v0 p_v1 f0 hf
theorem w_X3_begin {P : Nat → Prop} {L : eL} {h0 h : eH} {v0 : Nat} {r : eH} (p_v0 : P v0) (f0 : fr P h0 h) (hf : f_X3_begin L h v0 = some r) : fr P h0 r := by
  unfold f_X3_begin at hf
  replace hf := (e_if hf).2
  exact fr_oV hf (fr_sI f0 p_v0)
theorem w_X3_add {P : Nat → Prop} {L : eL} {h0 h : eH} {v0 : Nat} {v1 : Int64} {r : eH} (p_v0 : P v0) (f0 : fr P h0 h) (hf : f_X3_add L h v0 v1 = some r) : fr P h0 r := by
  unfold f_X3_add at hf
  replace hf := (e_if hf).2
  rcases e_or hf with hf | hf
  · exact fr_oV hf f0
  · rcases e_or hf with hf | hf
    · exact fr_oV hf f0
    · obtain ⟨b1, hb2, hf⟩ := e_bd hf
      have p3 := f0.1 _ _ _ p_v0 hb2
      replace hf := (e_if hf).2
      obtain ⟨h4, hh5, hf⟩ := e_bd hf
      have f6 := fr_oV hh5 (fr_sI (fr_sL f0 p3) p_v0)
      exact fr_oV hf f6
theorem w_X10_takeSteps_L35 {P : Nat → Prop} {L : eL} {h0 : eH} {r : eH × Int32} {k63 : eH → Nat → Int32 → Int32 → Int32 → Option (eH × Int32)} (hk63 : ∀ (h : eH) (v0 : Nat) (v2 : Int32) (v3 : Int32) (v4 : Int32), P v0 → fr P h0 h → k63 h v0 v2 v3 v4 = some r → fr P h0 r.1) : ∀ (n : Nat) (h : eH) (v0 : Nat) (v1 : Int32) (v2 : Int32) (v3 : Int32) (v4 : Int32) (v5 : Int32), P v0 → fr P h0 h → f_X10_takeSteps_L35 L n k63 h v0 v1 v2 v3 v4 v5 = some r → fr P h0 r.1 := by
  intro n
  induction n with
  | zero => intro h v0 v1 v2 v3 v4 v5 p_v0 f0 hf; exact absurd hf (by simp [f_X10_takeSteps_L35])
  | succ n ih =>
    intro h v0 v1 v2 v3 v4 v5 p_v0 f0 hf
    unfold f_X10_takeSteps_L35 at hf
    rcases e_or hf with hf | hf
    · exact hk63 _ _ _ _ _ p_v0 f0 hf
    · replace hf := (e_if hf).2
      obtain ⟨b7, hb8, hf⟩ := e_bd hf
      have p9 := f0.1 _ _ _ p_v0 hb8
      obtain ⟨r10, hr11, hf⟩ := e_bd hf
      have f12 := w_X10_goOn p_v0 p9 f0 hr11
      rcases e_or hf with hf | hf
      · exact hk63 _ _ _ _ _ p_v0 f12 hf
      · exact ih _ _ _ _ _ _ _ p_v0 f12 hf
theorem w_X10_takeSteps_J63 {P : Nat → Prop} {L : eL} {h0 : eH} {r : eH × Int32}  : ∀ (h : eH) (v0 : Nat) (v2 : Int32) (v3 : Int32) (v4 : Int32), P v0 → fr P h0 h → f_X10_takeSteps_J63 L h v0 v2 v3 v4 = some r → fr P h0 r.1 := by
  intro h v0 v2 v3 v4 p_v0 f0 hf
  unfold f_X10_takeSteps_J63 at hf
  replace hf := (e_if hf).2
  obtain ⟨b19, hb20, hf⟩ := e_bd hf
  have p21 := f0.1 _ _ _ p_v0 hb20
  replace hf := (e_if hf).2
  obtain ⟨r22, hr23, hf⟩ := e_bd hf
  have f24 := w_X3_begin p21 f0 hr23
  obtain ⟨b25, hb26, hf⟩ := e_bd hf
  have p27 := f24.1 _ _ _ p_v0 hb26
  obtain ⟨b28, hb29, hf⟩ := e_bd hf
  have p30 := f24.1 _ _ _ p_v0 hb29
  replace hf := (e_if hf).2
  replace hf := (e_if hf).2
  obtain ⟨r31, hr32, hf⟩ := e_bd hf
  have f33 := w_X3_add p27 f24 hr32
  obtain ⟨b34, hb35, hf⟩ := e_bd hf
  have p36 := f33.1 _ _ _ p_v0 hb35
  obtain ⟨b37, hb38, hf⟩ := e_bd hf
  have p39 := f33.1 _ _ _ p_v0 hb38
  replace hf := (e_if hf).2
  replace hf := (e_if hf).2
  obtain ⟨r40, hr41, hf⟩ := e_bd hf
  have f42 := w_X3_add p36 f33 hr41
  exact fr_oW hf f42
theorem w_X10_takeSteps {P : Nat → Prop} {L : eL} {h0 h : eH} {v0 : Nat} {v1 : Int32} {r : eH × Int32} (p_v0 : P v0) (f0 : fr P h0 h) (hf : f_X10_takeSteps L h v0 v1 = some r) : fr P h0 r.1 := by
  unfold f_X10_takeSteps at hf
  rcases e_or hf with hf | hf
  · exact fr_oW hf f0
  · rcases e_or hf with hf | hf
    · replace hf := (e_if hf).2
      obtain ⟨b1, hb2, hf⟩ := e_bd hf
      have p3 := f0.1 _ _ _ p_v0 hb2
      replace hf := (e_if hf).2
      obtain ⟨b4, hb5, hf⟩ := e_bd hf
      have p6 := f0.1 _ _ _ p_v0 hb5
      replace hf := (e_if hf).2
      refine w_X10_takeSteps_L35 ?_ e_fu _ _ _ _ _ _ _ p_v0 f0 hf
      · intro h13 w0_14 w2_15 w3_16 w4_17 p_w0_14 f18 hf
        exact w_X10_takeSteps_J63 _ _ _ _ _ p_w0_14 f18 hf
    · exact fr_oW hf f0
theorem w_X1_push_J64 {P : Nat → Prop} {L : eL} {h0 : eH} {r : eH}  : ∀ (h : eH) (v0 : Nat) (s0 : Nat) (s1 : Int32), P v0 → P s0 → fr P h0 h → f_X1_push_J64 L h v0 s0 s1 = some r → fr P h0 r := by
  intro h v0 s0 s1 p_v0 p_s0 f0 hf
  unfold f_X1_push_J64 at hf
  replace hf := (e_if hf).2
  replace hf := (e_if hf).2
  obtain ⟨h16, hh17, hf⟩ := e_bd hf
  have f18 := fr_oV hh17 (fr_sI (fr_sI f0 p_s0) p_v0)
  exact fr_oV hf f18
theorem w_X1_push {P : Nat → Prop} {L : eL} {h0 h : eH} {v0 : Nat} {v1 : Nat} {r : eH} (p_v0 : P v0) (p_v1 : P v1) (f0 : fr P h0 h) (hf : f_X1_push L h v0 v1 = some r) : fr P h0 r := by
  unfold f_X1_push at hf
  replace hf := (e_if hf).2
  rcases e_or hf with hf | hf
  · exact fr_oV hf f0
  · rcases e_or hf with hf | hf
    · exact fr_oV hf f0
    · obtain ⟨b1, hb2, hf⟩ := e_bd hf
      have p3 := f0.1 _ _ _ p_v0 hb2
      replace hf := (e_if hf).2
      obtain ⟨b4, hb5, hf⟩ := e_bd hf
      have p6 := f0.1 _ _ _ p3 hb5
      obtain ⟨b7, hb8, hf⟩ := e_bd hf
      have p9 := f0.1 _ _ _ p_v0 hb8
      replace hf := (e_if hf).2
      obtain ⟨b10, hb11, hf⟩ := e_bd hf
      have p12 := f0.1 _ _ _ p9 hb11
      replace hf := (e_if hf).2
      obtain ⟨r13, hr14, hf⟩ := e_bd hf
      have f15 := w_X6_copyFrom p12 p_v1 f0 hr14
      rcases e_or hf with hf | hf
      · exact w_X1_push_J64 _ _ _ _ p_v0 p_v0 f15 hf
      · exact w_X1_push_J64 _ _ _ _ p_v0 p_v0 f15 hf
theorem w_X10_remembered {P : Nat → Prop} {L : eL} {h0 h : eH} {v0 : Nat} {v1 : Int32} {r : eH × Int32} (p_v0 : P v0) (f0 : fr P h0 h) (hf : f_X10_remembered L h v0 v1 = some r) : fr P h0 r.1 := by
  unfold f_X10_remembered at hf
  rcases e_or hf with hf | hf
  · exact fr_oW hf f0
  · replace hf := (e_if hf).2
    obtain ⟨b1, hb2, hf⟩ := e_bd hf
    have p3 := f0.1 _ _ _ p_v0 hb2
    obtain ⟨b4, hb5, hf⟩ := e_bd hf
    have p6 := f0.1 _ _ _ p_v0 hb5
    replace hf := (e_if hf).2
    obtain ⟨r7, hr8, hf⟩ := e_bd hf
    have f9 := w_X1_push p3 p6 f0 hr8
    exact fr_oW hf f9
theorem w_X10_steps {P : Nat → Prop} {L : eL} {h0 h : eH} {v0 : Nat} {v1 : Int32} {r : eH × Int32} (p_v0 : P v0) (f0 : fr P h0 h) (hf : f_X10_steps L h v0 v1 = some r) : fr P h0 r.1 := by
  unfold f_X10_steps at hf
  replace hf := (e_if hf).2
  obtain ⟨b1, hb2, hf⟩ := e_bd hf
  have p3 := f0.1 _ _ _ p_v0 hb2
  obtain ⟨b4, hb5, hf⟩ := e_bd hf
  have p6 := f0.1 _ _ _ p_v0 hb5
  replace hf := (e_if hf).2
  obtain ⟨r7, hr8, hf⟩ := e_bd hf
  have f9 := w_X6_copyFrom p3 p6 f0 hr8
  obtain ⟨r10, hr11, hf⟩ := e_bd hf
  have f12 := w_X10_takeSteps p_v0 f9 hr11
  obtain ⟨r13, hr14, hf⟩ := e_bd hf
  have f15 := w_X10_remembered p_v0 f12 hr14
  exact fr_oW hf f15
theorem w_X10_turnRight {P : Nat → Prop} {L : eL} {h0 h : eH} {v0 : Nat} {v1 : Int32} {r : eH × Int32} (p_v0 : P v0) (f0 : fr P h0 h) (hf : f_X10_turnRight L h v0 v1 = some r) : fr P h0 r.1 := by
  unfold f_X10_turnRight at hf
  rcases e_or hf with hf | hf
  · exact fr_oW hf f0
  · rcases e_or hf with hf | hf
    · replace hf := (e_if hf).2
      obtain ⟨b1, hb2, hf⟩ := e_bd hf
      have p3 := f0.1 _ _ _ p_v0 hb2
      replace hf := (e_if hf).2
      obtain ⟨r4, hr5, hf⟩ := e_bd hf
      have f6 := w_X6_turnBy p3 f0 hr5
      obtain ⟨b7, hb8, hf⟩ := e_bd hf
      have p9 := f6.1 _ _ _ p_v0 hb8
      replace hf := (e_if hf).2
      exact fr_oW hf f6
    · exact fr_oW hf f0
theorem w_X10_turn {P : Nat → Prop} {L : eL} {h0 h : eH} {v0 : Nat} {v1 : Int32} {r : eH × Int32} (p_v0 : P v0) (f0 : fr P h0 h) (hf : f_X10_turn L h v0 v1 = some r) : fr P h0 r.1 := by
  unfold f_X10_turn at hf
  replace hf := (e_if hf).2
  obtain ⟨b1, hb2, hf⟩ := e_bd hf
  have p3 := f0.1 _ _ _ p_v0 hb2
  obtain ⟨b4, hb5, hf⟩ := e_bd hf
  have p6 := f0.1 _ _ _ p_v0 hb5
  replace hf := (e_if hf).2
  obtain ⟨r7, hr8, hf⟩ := e_bd hf
  have f9 := w_X6_copyFrom p3 p6 f0 hr8
  obtain ⟨r10, hr11, hf⟩ := e_bd hf
  have f12 := w_X10_turnRight p_v0 f9 hr11
  obtain ⟨r13, hr14, hf⟩ := e_bd hf
  have f15 := w_X10_remembered p_v0 f12 hr14
  exact fr_oW hf f15
theorem w_X6_dayFalls_L12 {P : Nat → Prop} {L : eL} {h0 : eH} {r : eH} {k63 : eH → Option eH} (hk63 : ∀ (h : eH), fr P h0 h → k63 h = some r → fr P h0 r) : ∀ (n : Nat) (h : eH) (v0 : Nat) (v1 : Nat) (v2 : Int32), P v0 → P v1 → fr P h0 h → f_X6_dayFalls_L12 L n k63 h v0 v1 v2 = some r → fr P h0 r := by
  intro n
  induction n with
  | zero => intro h v0 v1 v2 p_v0 p_v1 f0 hf; exact absurd hf (by simp [f_X6_dayFalls_L12])
  | succ n ih =>
    intro h v0 v1 v2 p_v0 p_v1 f0 hf
    unfold f_X6_dayFalls_L12 at hf
    rcases e_or hf with hf | hf
    · exact hk63 _ f0 hf
    · replace hf := (e_if hf).2
      rcases e_or hf with hf | hf
      · exact ih _ _ _ _ p_v0 p_v1 f0 hf
      · replace hf := (e_if hf).2
        obtain ⟨b1, hb2, hf⟩ := e_bd hf
        have p3 := f0.1 _ _ _ p_v0 hb2
        replace hf := (e_if hf).2
        rcases e_or hf with hf | hf
        · obtain ⟨r4, hr5, hf⟩ := e_bd hf
          have f6 := w_X6_putDust p_v0 f0 hr5
          exact ih _ _ _ _ p_v0 p_v1 f6 hf
        · obtain ⟨r7, hr8, hf⟩ := e_bd hf
          have f9 := w_X6_putDust p_v0 f0 hr8
          exact ih _ _ _ _ p_v0 p_v1 f9 hf
theorem w_X6_dayFalls {P : Nat → Prop} {L : eL} {h0 h : eH} {v0 : Nat} {v1 : Nat} {r : eH} (p_v0 : P v0) (p_v1 : P v1) (f0 : fr P h0 h) (hf : f_X6_dayFalls L h v0 v1 = some r) : fr P h0 r := by
  unfold f_X6_dayFalls at hf
  replace hf := (e_if hf).2
  refine w_X6_dayFalls_L12 ?_ e_fu _ _ _ _ p_v0 p_v1 (fr_sI f0 p_v0) hf
  · intro h10 f11 hf
    exact fr_oV hf f11
theorem w_X10_passDays_L15 {P : Nat → Prop} {L : eL} {h0 : eH} {r : eH × Int32} {k37 : eH → Nat → Option (eH × Int32)} (hk37 : ∀ (h : eH) (v0 : Nat), P v0 → fr P h0 h → k37 h v0 = some r → fr P h0 r.1) : ∀ (n : Nat) (h : eH) (v0 : Nat) (v1 : Int32) (v2 : Int32), P v0 → fr P h0 h → f_X10_passDays_L15 L n k37 h v0 v1 v2 = some r → fr P h0 r.1 := by
  intro n
  induction n with
  | zero => intro h v0 v1 v2 p_v0 f0 hf; exact absurd hf (by simp [f_X10_passDays_L15])
  | succ n ih =>
    intro h v0 v1 v2 p_v0 f0 hf
    unfold f_X10_passDays_L15 at hf
    rcases e_or hf with hf | hf
    · exact hk37 _ _ p_v0 f0 hf
    · replace hf := (e_if hf).2
      obtain ⟨b1, hb2, hf⟩ := e_bd hf
      have p3 := f0.1 _ _ _ p_v0 hb2
      obtain ⟨b4, hb5, hf⟩ := e_bd hf
      have p6 := f0.1 _ _ _ p_v0 hb5
      replace hf := (e_if hf).2
      obtain ⟨r7, hr8, hf⟩ := e_bd hf
      have f9 := w_X6_dayFalls p3 p6 f0 hr8
      exact ih _ _ _ _ p_v0 f9 hf
theorem w_X10_passDays {P : Nat → Prop} {L : eL} {h0 h : eH} {v0 : Nat} {v1 : Int32} {r : eH × Int32} (p_v0 : P v0) (f0 : fr P h0 h) (hf : f_X10_passDays L h v0 v1 = some r) : fr P h0 r.1 := by
  unfold f_X10_passDays at hf
  rcases e_or hf with hf | hf
  · exact fr_oW hf f0
  · rcases e_or hf with hf | hf
    · refine w_X10_passDays_L15 ?_ e_fu _ _ _ _ p_v0 f0 hf
      · intro h10 w0_11 p_w0_11 f12 hf
        replace hf := (e_if hf).2
        obtain ⟨b13, hb14, hf⟩ := e_bd hf
        have p15 := f12.1 _ _ _ p_w0_11 hb14
        replace hf := (e_if hf).2
        obtain ⟨r16, hr17, hf⟩ := e_bd hf
        exact fr_oW hf f12
    · exact fr_oW hf f0
theorem w_X10_days {P : Nat → Prop} {L : eL} {h0 h : eH} {v0 : Nat} {v1 : Int32} {r : eH × Int32} (p_v0 : P v0) (f0 : fr P h0 h) (hf : f_X10_days L h v0 v1 = some r) : fr P h0 r.1 := by
  unfold f_X10_days at hf
  replace hf := (e_if hf).2
  obtain ⟨b1, hb2, hf⟩ := e_bd hf
  have p3 := f0.1 _ _ _ p_v0 hb2
  obtain ⟨b4, hb5, hf⟩ := e_bd hf
  have p6 := f0.1 _ _ _ p_v0 hb5
  replace hf := (e_if hf).2
  obtain ⟨r7, hr8, hf⟩ := e_bd hf
  have f9 := w_X6_copyFrom p3 p6 f0 hr8
  obtain ⟨r10, hr11, hf⟩ := e_bd hf
  have f12 := w_X10_passDays p_v0 f9 hr11
  obtain ⟨r13, hr14, hf⟩ := e_bd hf
  have f15 := w_X10_remembered p_v0 f12 hr14
  exact fr_oW hf f15
theorem w_X10_moveChair {P : Nat → Prop} {L : eL} {h0 h : eH} {v0 : Nat} {v1 : Int32} {r : eH × Int32} (p_v0 : P v0) (f0 : fr P h0 h) (hf : f_X10_moveChair L h v0 v1 = some r) : fr P h0 r.1 := by
  unfold f_X10_moveChair at hf
  replace hf := (e_if hf).2
  obtain ⟨b1, hb2, hf⟩ := e_bd hf
  have p3 := f0.1 _ _ _ p_v0 hb2
  replace hf := (e_if hf).2
  obtain ⟨r4, hr5, hf⟩ := e_bd hf
  rcases e_or hf with hf | hf
  · exact fr_oW hf f0
  · obtain ⟨b6, hb7, hf⟩ := e_bd hf
    have p8 := f0.1 _ _ _ p_v0 hb7
    replace hf := (e_if hf).2
    rcases e_or hf with hf | hf
    · exact fr_oW hf f0
    · obtain ⟨b9, hb10, hf⟩ := e_bd hf
      have p11 := f0.1 _ _ _ p_v0 hb10
      replace hf := (e_if hf).2
      rcases e_or hf with hf | hf
      · exact fr_oW hf f0
      · obtain ⟨b12, hb13, hf⟩ := e_bd hf
        have p14 := f0.1 _ _ _ p_v0 hb13
        replace hf := (e_if hf).2
        obtain ⟨b15, hb16, hf⟩ := e_bd hf
        have p17 := (fr_sL f0 p14).1 _ _ _ p_v0 hb16
        replace hf := (e_if hf).2
        exact fr_oW hf (fr_sL f0 p14)
theorem w_X10_chair {P : Nat → Prop} {L : eL} {h0 h : eH} {v0 : Nat} {v1 : Int32} {r : eH × Int32} (p_v0 : P v0) (f0 : fr P h0 h) (hf : f_X10_chair L h v0 v1 = some r) : fr P h0 r.1 := by
  unfold f_X10_chair at hf
  replace hf := (e_if hf).2
  obtain ⟨b1, hb2, hf⟩ := e_bd hf
  have p3 := f0.1 _ _ _ p_v0 hb2
  obtain ⟨b4, hb5, hf⟩ := e_bd hf
  have p6 := f0.1 _ _ _ p_v0 hb5
  replace hf := (e_if hf).2
  obtain ⟨r7, hr8, hf⟩ := e_bd hf
  have f9 := w_X6_copyFrom p3 p6 f0 hr8
  obtain ⟨r10, hr11, hf⟩ := e_bd hf
  have f12 := w_X10_moveChair p_v0 f9 hr11
  obtain ⟨r13, hr14, hf⟩ := e_bd hf
  have f15 := w_X10_remembered p_v0 f12 hr14
  exact fr_oW hf f15
theorem w_X10_carry {P : Nat → Prop} {L : eL} {h0 h : eH} {v0 : Nat} {v1 : Int32} {v2 : Int32} {r : eH × Int32} (p_v0 : P v0) (f0 : fr P h0 h) (hf : f_X10_carry L h v0 v1 v2 = some r) : fr P h0 r.1 := by
  unfold f_X10_carry at hf
  replace hf := (e_if hf).2
  obtain ⟨b1, hb2, hf⟩ := e_bd hf
  have p3 := f0.1 _ _ _ p_v0 hb2
  replace hf := (e_if hf).2
  obtain ⟨r4, hr5, hf⟩ := e_bd hf
  rcases e_or hf with hf | hf
  · exact fr_oW hf f0
  · rcases e_or hf with hf | hf
    · exact fr_oW hf f0
    · rcases e_or hf with hf | hf
      · obtain ⟨r6, hr7, hf⟩ := e_bd hf
        rcases e_or hf with hf | hf
        · exact fr_oW hf f0
        · obtain ⟨b8, hb9, hf⟩ := e_bd hf
          have p10 := f0.1 _ _ _ p_v0 hb9
          obtain ⟨b11, hb12, hf⟩ := e_bd hf
          have p13 := f0.1 _ _ _ p_v0 hb12
          replace hf := (e_if hf).2
          obtain ⟨r14, hr15, hf⟩ := e_bd hf
          have f16 := w_X6_copyFrom p10 p13 f0 hr15
          obtain ⟨b17, hb18, hf⟩ := e_bd hf
          have p19 := f16.1 _ _ _ p_v0 hb18
          replace hf := (e_if hf).2
          obtain ⟨b20, hb21, hf⟩ := e_bd hf
          have p22 := f16.1 _ _ _ p_v0 hb21
          replace hf := (e_if hf).2
          obtain ⟨b23, hb24, hf⟩ := e_bd hf
          have p25 := (fr_sI f16 p22).1 _ _ _ p_v0 hb24
          replace hf := (e_if hf).2
          obtain ⟨r26, hr27, hf⟩ := e_bd hf
          have f28 := w_X10_remembered p_v0 (fr_sI (fr_sI f16 p22) p25) hr27
          exact fr_oW hf f28
      · exact fr_oW hf f0
theorem w_X10_loadUp {P : Nat → Prop} {L : eL} {h0 h : eH} {v0 : Nat} {v1 : Int32} {r : eH × Int32} (p_v0 : P v0) (f0 : fr P h0 h) (hf : f_X10_loadUp L h v0 v1 = some r) : fr P h0 r.1 := by
  unfold f_X10_loadUp at hf
  rcases e_or hf with hf | hf
  · exact fr_oW hf f0
  · rcases e_or hf with hf | hf
    · replace hf := (e_if hf).2
      obtain ⟨b1, hb2, hf⟩ := e_bd hf
      have p3 := f0.1 _ _ _ p_v0 hb2
      replace hf := (e_if hf).2
      obtain ⟨b4, hb5, hf⟩ := e_bd hf
      have p6 := f0.1 _ _ _ p_v0 hb5
      replace hf := (e_if hf).2
      rcases e_or hf with hf | hf
      · obtain ⟨b7, hb8, hf⟩ := e_bd hf
        have p9 := f0.1 _ _ _ p_v0 hb8
        replace hf := (e_if hf).2
        obtain ⟨b10, hb11, hf⟩ := e_bd hf
        have p12 := f0.1 _ _ _ p_v0 hb11
        replace hf := (e_if hf).2
        obtain ⟨b13, hb14, hf⟩ := e_bd hf
        have p15 := (fr_sI f0 p12).1 _ _ _ p_v0 hb14
        replace hf := (e_if hf).2
        exact fr_oW hf (fr_sI (fr_sI f0 p12) p15)
      · exact fr_oW hf f0
    · exact fr_oW hf f0
theorem w_X10_load {P : Nat → Prop} {L : eL} {h0 h : eH} {v0 : Nat} {v1 : Int32} {r : eH × Int32} (p_v0 : P v0) (f0 : fr P h0 h) (hf : f_X10_load L h v0 v1 = some r) : fr P h0 r.1 := by
  unfold f_X10_load at hf
  replace hf := (e_if hf).2
  obtain ⟨b1, hb2, hf⟩ := e_bd hf
  have p3 := f0.1 _ _ _ p_v0 hb2
  obtain ⟨b4, hb5, hf⟩ := e_bd hf
  have p6 := f0.1 _ _ _ p_v0 hb5
  replace hf := (e_if hf).2
  obtain ⟨r7, hr8, hf⟩ := e_bd hf
  have f9 := w_X6_copyFrom p3 p6 f0 hr8
  obtain ⟨r10, hr11, hf⟩ := e_bd hf
  have f12 := w_X10_loadUp p_v0 f9 hr11
  obtain ⟨r13, hr14, hf⟩ := e_bd hf
  have f15 := w_X10_remembered p_v0 f12 hr14
  exact fr_oW hf f15
theorem w_X10_actOfRun {P : Nat → Prop} {L : eL} {h0 h : eH} {v0 : Nat} {v1 : Int32} {r : eH × Int32} (p_v0 : P v0) (f0 : fr P h0 h) (hf : f_X10_actOfRun L h v0 v1 = some r) : fr P h0 r.1 := by
  unfold f_X10_actOfRun at hf
  replace hf := (e_if hf).2
  obtain ⟨b1, hb2, hf⟩ := e_bd hf
  have p3 := f0.1 _ _ _ p_v0 hb2
  replace hf := (e_if hf).2
  obtain ⟨r4, hr5, hf⟩ := e_bd hf
  obtain ⟨b6, hb7, hf⟩ := e_bd hf
  have p8 := f0.1 _ _ _ p_v0 hb7
  replace hf := (e_if hf).2
  obtain ⟨r9, hr10, hf⟩ := e_bd hf
  obtain ⟨b11, hb12, hf⟩ := e_bd hf
  have p13 := f0.1 _ _ _ p_v0 hb12
  replace hf := (e_if hf).2
  obtain ⟨r14, hr15, hf⟩ := e_bd hf
  rcases e_or hf with hf | hf
  · obtain ⟨r16, hr17, hf⟩ := e_bd hf
    have f18 := w_X10_moveChair p_v0 f0 hr17
    rcases e_or hf with hf | hf
    · exact fr_oW hf f18
    · exact fr_oW hf f18
  rcases e_or hf with hf | hf
  · obtain ⟨r19, hr20, hf⟩ := e_bd hf
    have f21 := w_X10_passDays p_v0 f0 hr20
    rcases e_or hf with hf | hf
    · exact fr_oW hf f21
    · exact fr_oW hf f21
  rcases e_or hf with hf | hf
  · obtain ⟨r22, hr23, hf⟩ := e_bd hf
    have f24 := w_X10_loadUp p_v0 f0 hr23
    rcases e_or hf with hf | hf
    · exact fr_oW hf f24
    · exact fr_oW hf f24
  rcases e_or hf with hf | hf
  · obtain ⟨r25, hr26, hf⟩ := e_bd hf
    have f27 := w_X10_takeSteps p_v0 f0 hr26
    rcases e_or hf with hf | hf
    · exact fr_oW hf f27
    · rcases e_or hf with hf | hf
      · exact fr_oW hf f27
      · exact fr_oW hf f27
  rcases e_or hf with hf | hf
  · obtain ⟨r28, hr29, hf⟩ := e_bd hf
    have f30 := w_X10_turnRight p_v0 f0 hr29
    rcases e_or hf with hf | hf
    · exact fr_oW hf f30
    · exact fr_oW hf f30
  · exact fr_oW hf f0
theorem w_X10_run_J93 {P : Nat → Prop} {L : eL} {h0 : eH} {r : eH × Int32} {k44 : eH → Nat → Int32 → Int32 → Int32 → Int32 → Option (eH × Int32)} {k117 : eH → Nat → Int32 → Int32 → Option (eH × Int32)} (hk44 : ∀ (h : eH) (v0 : Nat) (v2 : Int32) (v3 : Int32) (v4 : Int32) (v5 : Int32), P v0 → fr P h0 h → k44 h v0 v2 v3 v4 v5 = some r → fr P h0 r.1) (hk117 : ∀ (h : eH) (v0 : Nat) (v3 : Int32) (v4 : Int32), P v0 → fr P h0 h → k117 h v0 v3 v4 = some r → fr P h0 r.1) : ∀ (h : eH) (v0 : Nat) (v2 : Int32) (v4 : Int32) (v5 : Int32) (s0 : Int32) (s1 : Int32), P v0 → fr P h0 h → f_X10_run_J93 L k44 k117 h v0 v2 v4 v5 s0 s1 = some r → fr P h0 r.1 := by
  intro h v0 v2 v4 v5 s0 s1 p_v0 f0 hf
  unfold f_X10_run_J93 at hf
  replace hf := (e_if hf).2
  obtain ⟨b20, hb21, hf⟩ := e_bd hf
  have p22 := f0.1 _ _ _ p_v0 hb21
  replace hf := (e_if hf).2
  obtain ⟨r23, hr24, hf⟩ := e_bd hf
  exact hk44 _ _ _ _ _ _ p_v0 f0 hf
theorem w_X10_run_L44 {P : Nat → Prop} {L : eL} {h0 : eH} {r : eH × Int32} {k117 : eH → Nat → Int32 → Int32 → Option (eH × Int32)} (hk117 : ∀ (h : eH) (v0 : Nat) (v3 : Int32) (v4 : Int32), P v0 → fr P h0 h → k117 h v0 v3 v4 = some r → fr P h0 r.1) : ∀ (n : Nat) (h : eH) (v0 : Nat) (v2 : Int32) (v3 : Int32) (v4 : Int32) (v5 : Int32), P v0 → fr P h0 h → f_X10_run_L44 L n k117 h v0 v2 v3 v4 v5 = some r → fr P h0 r.1 := by
  intro n
  induction n with
  | zero => intro h v0 v2 v3 v4 v5 p_v0 f0 hf; exact absurd hf (by simp [f_X10_run_L44])
  | succ n ih =>
    intro h v0 v2 v3 v4 v5 p_v0 f0 hf
    unfold f_X10_run_L44 at hf
    rcases e_or hf with hf | hf
    · exact hk117 _ _ _ _ p_v0 f0 hf
    · replace hf := (e_if hf).2
      obtain ⟨b12, hb13, hf⟩ := e_bd hf
      have p14 := f0.1 _ _ _ p_v0 hb13
      replace hf := (e_if hf).2
      obtain ⟨r15, hr16, hf⟩ := e_bd hf
      rcases e_or hf with hf | hf
      · exact hk117 _ _ _ _ p_v0 f0 hf
      · rcases e_or hf with hf | hf
        · obtain ⟨r17, hr18, hf⟩ := e_bd hf
          have f19 := w_X10_actOfRun p_v0 f0 hr18
          rcases e_or hf with hf | hf
          · exact w_X10_run_J93 ih hk117 _ _ _ _ _ _ _ p_v0 f19 hf
          · exact w_X10_run_J93 ih hk117 _ _ _ _ _ _ _ p_v0 f19 hf
        · exact hk117 _ _ _ _ p_v0 f0 hf
theorem w_X10_run_J141 {P : Nat → Prop} {L : eL} {h0 : eH} {r : eH × Int32}  : ∀ (h : eH) (v0 : Nat) (v3 : Int32) (v4 : Int32), P v0 → fr P h0 h → f_X10_run_J141 L h v0 v3 v4 = some r → fr P h0 r.1 := by
  intro h v0 v3 v4 p_v0 f0 hf
  unfold f_X10_run_J141 at hf
  replace hf := (e_if hf).2
  obtain ⟨b36, hb37, hf⟩ := e_bd hf
  have p38 := f0.1 _ _ _ p_v0 hb37
  replace hf := (e_if hf).2
  obtain ⟨r39, hr40, hf⟩ := e_bd hf
  have f41 := w_X3_begin p38 f0 hr40
  obtain ⟨b42, hb43, hf⟩ := e_bd hf
  have p44 := f41.1 _ _ _ p_v0 hb43
  replace hf := (e_if hf).2
  obtain ⟨r45, hr46, hf⟩ := e_bd hf
  have f47 := w_X3_add p44 f41 hr46
  obtain ⟨b48, hb49, hf⟩ := e_bd hf
  have p50 := f47.1 _ _ _ p_v0 hb49
  obtain ⟨b51, hb52, hf⟩ := e_bd hf
  have p53 := f47.1 _ _ _ p_v0 hb52
  replace hf := (e_if hf).2
  replace hf := (e_if hf).2
  obtain ⟨r54, hr55, hf⟩ := e_bd hf
  have f56 := w_X3_add p50 f47 hr55
  exact fr_oW hf f56
theorem w_X10_run_J117 {P : Nat → Prop} {L : eL} {h0 : eH} {r : eH × Int32}  : ∀ (h : eH) (v0 : Nat) (v3 : Int32) (v4 : Int32), P v0 → fr P h0 h → f_X10_run_J117 L h v0 v3 v4 = some r → fr P h0 r.1 := by
  intro h v0 v3 v4 p_v0 f0 hf
  unfold f_X10_run_J117 at hf
  replace hf := (e_if hf).2
  obtain ⟨b30, hb31, hf⟩ := e_bd hf
  have p32 := f0.1 _ _ _ p_v0 hb31
  replace hf := (e_if hf).2
  obtain ⟨r33, hr34, hf⟩ := e_bd hf
  have f35 := w_X8_cut p32 f0 hr34
  rcases e_or hf with hf | hf
  · exact w_X10_run_J141 _ _ _ _ p_v0 f35 hf
  · obtain ⟨b57, hb58, hf⟩ := e_bd hf
    have p59 := f35.1 _ _ _ p_v0 hb58
    obtain ⟨b60, hb61, hf⟩ := e_bd hf
    have p62 := f35.1 _ _ _ p_v0 hb61
    replace hf := (e_if hf).2
    obtain ⟨r63, hr64, hf⟩ := e_bd hf
    have f65 := w_X1_push p59 p62 f35 hr64
    exact w_X10_run_J141 _ _ _ _ p_v0 f65 hf
theorem w_X10_run {P : Nat → Prop} {L : eL} {h0 h : eH} {v0 : Nat} {r : eH × Int32} (p_v0 : P v0) (f0 : fr P h0 h) (hf : f_X10_run L h v0 = some r) : fr P h0 r.1 := by
  unfold f_X10_run at hf
  replace hf := (e_if hf).2
  obtain ⟨r1, hr2, hf⟩ := e_bd hf
  rcases e_or hf with hf | hf
  · obtain ⟨b3, hb4, hf⟩ := e_bd hf
    have p5 := f0.1 _ _ _ p_v0 hb4
    obtain ⟨b6, hb7, hf⟩ := e_bd hf
    have p8 := f0.1 _ _ _ p_v0 hb7
    replace hf := (e_if hf).2
    obtain ⟨r9, hr10, hf⟩ := e_bd hf
    have f11 := w_X6_copyFrom p5 p8 f0 hr10
    refine w_X10_run_L44 ?_ e_fu _ _ _ _ _ _ p_v0 f11 hf
    · intro h25 w0_26 w3_27 w4_28 p_w0_26 f29 hf
      exact w_X10_run_J117 _ _ _ _ p_w0_26 f29 hf
  · obtain ⟨b66, hb67, hf⟩ := e_bd hf
    have p68 := f0.1 _ _ _ p_v0 hb67
    replace hf := (e_if hf).2
    obtain ⟨r69, hr70, hf⟩ := e_bd hf
    have f71 := w_X8_cut p68 f0 hr70
    exact fr_oW hf f71
theorem w_X1_pop_J28 {P : Nat → Prop} {L : eL} {h0 : eH} {r : eH × Int32}  : ∀ (h : eH) (v0 : Nat) (v1 : Nat) (s0 : Nat) (s1 : Int32), P v0 → P v1 → P s0 → fr P h0 h → f_X1_pop_J28 L h v0 v1 s0 s1 = some r → fr P h0 r.1 := by
  intro h v0 v1 s0 s1 p_v0 p_v1 p_s0 f0 hf
  unfold f_X1_pop_J28 at hf
  replace hf := (e_if hf).2
  replace hf := (e_if hf).2
  obtain ⟨h1, hh2, hf⟩ := e_bd hf
  have f3 := fr_oV hh2 (fr_sI (fr_sI f0 p_s0) p_v0)
  rcases e_or hf with hf | hf
  · exact fr_oW hf f3
  · obtain ⟨b4, hb5, hf⟩ := e_bd hf
    have p6 := f3.1 _ _ _ p_v0 hb5
    replace hf := (e_if hf).2
    obtain ⟨b7, hb8, hf⟩ := e_bd hf
    have p9 := f3.1 _ _ _ p6 hb8
    replace hf := (e_if hf).2
    obtain ⟨r10, hr11, hf⟩ := e_bd hf
    have f12 := w_X6_copyFrom p_v1 p9 f3 hr11
    exact fr_oW hf f12
theorem w_X1_pop {P : Nat → Prop} {L : eL} {h0 h : eH} {v0 : Nat} {v1 : Nat} {r : eH × Int32} (p_v0 : P v0) (p_v1 : P v1) (f0 : fr P h0 h) (hf : f_X1_pop L h v0 v1 = some r) : fr P h0 r.1 := by
  unfold f_X1_pop at hf
  replace hf := (e_if hf).2
  rcases e_or hf with hf | hf
  · rcases e_or hf with hf | hf
    · exact w_X1_pop_J28 _ _ _ _ _ p_v0 p_v1 p_v0 f0 hf
    · exact w_X1_pop_J28 _ _ _ _ _ p_v0 p_v1 p_v0 f0 hf
  · exact fr_oW hf f0
theorem w_X10_undo {P : Nat → Prop} {L : eL} {h0 h : eH} {v0 : Nat} {r : eH × Int32} (p_v0 : P v0) (f0 : fr P h0 h) (hf : f_X10_undo L h v0 = some r) : fr P h0 r.1 := by
  unfold f_X10_undo at hf
  replace hf := (e_if hf).2
  obtain ⟨b1, hb2, hf⟩ := e_bd hf
  have p3 := f0.1 _ _ _ p_v0 hb2
  obtain ⟨b4, hb5, hf⟩ := e_bd hf
  have p6 := f0.1 _ _ _ p_v0 hb5
  replace hf := (e_if hf).2
  obtain ⟨r7, hr8, hf⟩ := e_bd hf
  have f9 := w_X1_pop p3 p6 f0 hr8
  rcases e_or hf with hf | hf
  · exact fr_oW hf f9
  · obtain ⟨b10, hb11, hf⟩ := e_bd hf
    have p12 := f9.1 _ _ _ p_v0 hb11
    replace hf := (e_if hf).2
    obtain ⟨r13, hr14, hf⟩ := e_bd hf
    exact fr_oW hf f9
theorem w_X10_been_L38 {P : Nat → Prop} {L : eL} {h0 : eH} {r : eH × Int32} {k76 : eH → Nat → Int64 → Option (eH × Int32)} (hk76 : ∀ (h : eH) (v0 : Nat) (v2 : Int64), P v0 → fr P h0 h → k76 h v0 v2 = some r → fr P h0 r.1) : ∀ (n : Nat) (h : eH) (v0 : Nat) (v1 : Int32) (v2 : Int64) (v4 : Int32), P v0 → fr P h0 h → f_X10_been_L38 L n k76 h v0 v1 v2 v4 = some r → fr P h0 r.1 := by
  intro n
  induction n with
  | zero => intro h v0 v1 v2 v4 p_v0 f0 hf; exact absurd hf (by simp [f_X10_been_L38])
  | succ n ih =>
    intro h v0 v1 v2 v4 p_v0 f0 hf
    unfold f_X10_been_L38 at hf
    rcases e_or hf with hf | hf
    · exact hk76 _ _ _ p_v0 f0 hf
    · replace hf := (e_if hf).2
      obtain ⟨b13, hb14, hf⟩ := e_bd hf
      have p15 := f0.1 _ _ _ p_v0 hb14
      obtain ⟨r16, hr17, hf⟩ := e_bd hf
      have f18 := w_X10_goOn p_v0 p15 f0 hr17
      rcases e_or hf with hf | hf
      · exact hk76 _ _ _ p_v0 f18 hf
      · obtain ⟨b19, hb20, hf⟩ := e_bd hf
        have p21 := f18.1 _ _ _ p_v0 hb20
        replace hf := (e_if hf).2
        exact ih _ _ _ _ _ p_v0 f18 hf
theorem w_X10_been_J76 {P : Nat → Prop} {L : eL} {h0 : eH} {r : eH × Int32}  : ∀ (h : eH) (v0 : Nat) (v2 : Int64), P v0 → fr P h0 h → f_X10_been_J76 L h v0 v2 = some r → fr P h0 r.1 := by
  intro h v0 v2 p_v0 f0 hf
  unfold f_X10_been_J76 at hf
  replace hf := (e_if hf).2
  obtain ⟨b26, hb27, hf⟩ := e_bd hf
  have p28 := f0.1 _ _ _ p_v0 hb27
  replace hf := (e_if hf).2
  obtain ⟨r29, hr30, hf⟩ := e_bd hf
  have f31 := w_X3_begin p28 f0 hr30
  obtain ⟨b32, hb33, hf⟩ := e_bd hf
  have p34 := f31.1 _ _ _ p_v0 hb33
  replace hf := (e_if hf).2
  obtain ⟨r35, hr36, hf⟩ := e_bd hf
  have f37 := w_X3_add p34 f31 hr36
  obtain ⟨b38, hb39, hf⟩ := e_bd hf
  have p40 := f37.1 _ _ _ p_v0 hb39
  obtain ⟨b41, hb42, hf⟩ := e_bd hf
  have p43 := f37.1 _ _ _ p_v0 hb42
  replace hf := (e_if hf).2
  replace hf := (e_if hf).2
  obtain ⟨r44, hr45, hf⟩ := e_bd hf
  have f46 := w_X3_add p40 f37 hr45
  obtain ⟨b47, hb48, hf⟩ := e_bd hf
  have p49 := f46.1 _ _ _ p_v0 hb48
  obtain ⟨b50, hb51, hf⟩ := e_bd hf
  have p52 := f46.1 _ _ _ p_v0 hb51
  replace hf := (e_if hf).2
  replace hf := (e_if hf).2
  obtain ⟨r53, hr54, hf⟩ := e_bd hf
  have f55 := w_X3_add p49 f46 hr54
  exact fr_oW hf f55
theorem w_X10_been {P : Nat → Prop} {L : eL} {h0 h : eH} {v0 : Nat} {v1 : Int32} {r : eH × Int32} (p_v0 : P v0) (f0 : fr P h0 h) (hf : f_X10_been L h v0 v1 = some r) : fr P h0 r.1 := by
  unfold f_X10_been at hf
  rcases e_or hf with hf | hf
  · exact fr_oW hf f0
  · rcases e_or hf with hf | hf
    · replace hf := (e_if hf).2
      obtain ⟨b1, hb2, hf⟩ := e_bd hf
      have p3 := f0.1 _ _ _ p_v0 hb2
      obtain ⟨b4, hb5, hf⟩ := e_bd hf
      have p6 := f0.1 _ _ _ p_v0 hb5
      replace hf := (e_if hf).2
      obtain ⟨r7, hr8, hf⟩ := e_bd hf
      have f9 := w_X6_copyFrom p3 p6 f0 hr8
      obtain ⟨b10, hb11, hf⟩ := e_bd hf
      have p12 := f9.1 _ _ _ p_v0 hb11
      replace hf := (e_if hf).2
      refine w_X10_been_L38 ?_ e_fu _ _ _ _ _ p_v0 f9 hf
      · intro h22 w0_23 w2_24 p_w0_23 f25 hf
        exact w_X10_been_J76 _ _ _ p_w0_23 f25 hf
    · exact fr_oW hf f0
theorem w_X10_stepsToSee_L32 {P : Nat → Prop} {L : eL} {h0 : eH} {r : eH × Int32} {k83 : eH → Int64 → Int32 → Option (eH × Int32)} (hk83 : ∀ (h : eH) (v4 : Int64) (v6 : Int32), fr P h0 h → k83 h v4 v6 = some r → fr P h0 r.1) : ∀ (n : Nat) (h : eH) (v0 : Nat) (v3 : Int32) (v4 : Int64) (v6 : Int32), P v0 → fr P h0 h → f_X10_stepsToSee_L32 L n k83 h v0 v3 v4 v6 = some r → fr P h0 r.1 := by
  intro n
  induction n with
  | zero => intro h v0 v3 v4 v6 p_v0 f0 hf; exact absurd hf (by simp [f_X10_stepsToSee_L32])
  | succ n ih =>
    intro h v0 v3 v4 v6 p_v0 f0 hf
    unfold f_X10_stepsToSee_L32 at hf
    rcases e_or hf with hf | hf
    · exact hk83 _ _ _ f0 hf
    · rcases e_or hf with hf | hf
      · exact hk83 _ _ _ f0 hf
      · replace hf := (e_if hf).2
        obtain ⟨b13, hb14, hf⟩ := e_bd hf
        have p15 := f0.1 _ _ _ p_v0 hb14
        obtain ⟨r16, hr17, hf⟩ := e_bd hf
        have f18 := w_X10_goOn p_v0 p15 f0 hr17
        obtain ⟨b19, hb20, hf⟩ := e_bd hf
        have p21 := f18.1 _ _ _ p_v0 hb20
        replace hf := (e_if hf).2
        exact ih _ _ _ _ _ p_v0 f18 hf
theorem w_X10_stepsToSee {P : Nat → Prop} {L : eL} {h0 h : eH} {v0 : Nat} {v1 : Int64} {v3 : Int32} {r : eH × Int32} (p_v0 : P v0) (f0 : fr P h0 h) (hf : f_X10_stepsToSee L h v0 v1 v3 = some r) : fr P h0 r.1 := by
  unfold f_X10_stepsToSee at hf
  replace hf := (e_if hf).2
  obtain ⟨b1, hb2, hf⟩ := e_bd hf
  have p3 := f0.1 _ _ _ p_v0 hb2
  obtain ⟨b4, hb5, hf⟩ := e_bd hf
  have p6 := f0.1 _ _ _ p_v0 hb5
  replace hf := (e_if hf).2
  obtain ⟨r7, hr8, hf⟩ := e_bd hf
  have f9 := w_X6_copyFrom p3 p6 f0 hr8
  obtain ⟨b10, hb11, hf⟩ := e_bd hf
  have p12 := f9.1 _ _ _ p_v0 hb11
  replace hf := (e_if hf).2
  refine w_X10_stepsToSee_L32 ?_ e_fu _ _ _ _ _ p_v0 f9 hf
  · intro h22 w4_23 w6_24 f25 hf
    rcases e_or hf with hf | hf
    · exact fr_oW hf f25
    · exact fr_oW hf f25
theorem w_X10_all {P : Nat → Prop} {L : eL} {h0 h : eH} {v0 : Nat} {r : eH × Int32} (p_v0 : P v0) (f0 : fr P h0 h) (hf : f_X10_all L h v0 = some r) : fr P h0 r.1 := by
  unfold f_X10_all at hf
  replace hf := (e_if hf).2
  obtain ⟨b1, hb2, hf⟩ := e_bd hf
  have p3 := f0.1 _ _ _ p_v0 hb2
  obtain ⟨r4, hr5, hf⟩ := e_bd hf
  obtain ⟨b6, hb7, hf⟩ := e_bd hf
  have p8 := f0.1 _ _ _ p_v0 hb7
  replace hf := (e_if hf).2
  replace hf := (e_if hf).2
  obtain ⟨r9, hr10, hf⟩ := e_bd hf
  obtain ⟨r11, hr12, hf⟩ := e_bd hf
  have f13 := w_X10_stepsToSee p_v0 f0 hr12
  rcases e_or hf with hf | hf
  · obtain ⟨b14, hb15, hf⟩ := e_bd hf
    have p16 := f13.1 _ _ _ p_v0 hb15
    replace hf := (e_if hf).2
    obtain ⟨r17, hr18, hf⟩ := e_bd hf
    have f19 := w_X3_begin p16 f13 hr18
    obtain ⟨b20, hb21, hf⟩ := e_bd hf
    have p22 := f19.1 _ _ _ p_v0 hb21
    replace hf := (e_if hf).2
    obtain ⟨r23, hr24, hf⟩ := e_bd hf
    have f25 := w_X3_add p22 f19 hr24
    exact fr_oW hf f25
  · exact fr_oW hf f13
theorem w_X10_never_L47 {P : Nat → Prop} {L : eL} {h0 : eH} {r : eH × Int32} {k96 : eH → Nat → Int64 → Option (eH × Int32)} (hk96 : ∀ (h : eH) (v0 : Nat) (v1 : Int64), P v0 → fr P h0 h → k96 h v0 v1 = some r → fr P h0 r.1) : ∀ (n : Nat) (h : eH) (v0 : Nat) (v1 : Int64) (v3 : Int32), P v0 → fr P h0 h → f_X10_never_L47 L n k96 h v0 v1 v3 = some r → fr P h0 r.1 := by
  intro n
  induction n with
  | zero => intro h v0 v1 v3 p_v0 f0 hf; exact absurd hf (by simp [f_X10_never_L47])
  | succ n ih =>
    intro h v0 v1 v3 p_v0 f0 hf
    unfold f_X10_never_L47 at hf
    rcases e_or hf with hf | hf
    · exact hk96 _ _ _ p_v0 f0 hf
    · rcases e_or hf with hf | hf
      · exact hk96 _ _ _ p_v0 f0 hf
      · replace hf := (e_if hf).2
        obtain ⟨b23, hb24, hf⟩ := e_bd hf
        have p25 := f0.1 _ _ _ p_v0 hb24
        obtain ⟨r26, hr27, hf⟩ := e_bd hf
        have f28 := w_X10_goOn p_v0 p25 f0 hr27
        rcases e_or hf with hf | hf
        · exact hk96 _ _ _ p_v0 f28 hf
        · obtain ⟨b29, hb30, hf⟩ := e_bd hf
          have p31 := f28.1 _ _ _ p_v0 hb30
          replace hf := (e_if hf).2
          exact ih _ _ _ _ p_v0 f28 hf
theorem w_X10_never_J96 {P : Nat → Prop} {L : eL} {h0 : eH} {r : eH × Int32}  : ∀ (h : eH) (v0 : Nat) (v1 : Int64), P v0 → fr P h0 h → f_X10_never_J96 L h v0 v1 = some r → fr P h0 r.1 := by
  intro h v0 v1 p_v0 f0 hf
  unfold f_X10_never_J96 at hf
  replace hf := (e_if hf).2
  obtain ⟨b36, hb37, hf⟩ := e_bd hf
  have p38 := f0.1 _ _ _ p_v0 hb37
  replace hf := (e_if hf).2
  obtain ⟨r39, hr40, hf⟩ := e_bd hf
  have f41 := w_X3_begin p38 f0 hr40
  obtain ⟨b42, hb43, hf⟩ := e_bd hf
  have p44 := f41.1 _ _ _ p_v0 hb43
  replace hf := (e_if hf).2
  obtain ⟨r45, hr46, hf⟩ := e_bd hf
  have f47 := w_X3_add p44 f41 hr46
  exact fr_oW hf f47
theorem w_X10_never {P : Nat → Prop} {L : eL} {h0 h : eH} {v0 : Nat} {r : eH × Int32} (p_v0 : P v0) (f0 : fr P h0 h) (hf : f_X10_never L h v0 = some r) : fr P h0 r.1 := by
  unfold f_X10_never at hf
  replace hf := (e_if hf).2
  obtain ⟨b1, hb2, hf⟩ := e_bd hf
  have p3 := f0.1 _ _ _ p_v0 hb2
  obtain ⟨r4, hr5, hf⟩ := e_bd hf
  obtain ⟨b6, hb7, hf⟩ := e_bd hf
  have p8 := f0.1 _ _ _ p_v0 hb7
  replace hf := (e_if hf).2
  replace hf := (e_if hf).2
  obtain ⟨r9, hr10, hf⟩ := e_bd hf
  obtain ⟨b11, hb12, hf⟩ := e_bd hf
  have p13 := f0.1 _ _ _ p_v0 hb12
  replace hf := (e_if hf).2
  obtain ⟨b14, hb15, hf⟩ := e_bd hf
  have p16 := f0.1 _ _ _ p_v0 hb15
  obtain ⟨b17, hb18, hf⟩ := e_bd hf
  have p19 := f0.1 _ _ _ p_v0 hb18
  replace hf := (e_if hf).2
  obtain ⟨r20, hr21, hf⟩ := e_bd hf
  have f22 := w_X6_copyFrom p16 p19 f0 hr21
  refine w_X10_never_L47 ?_ e_fu _ _ _ _ p_v0 f22 hf
  · intro h32 w0_33 w1_34 p_w0_33 f35 hf
    exact w_X10_never_J96 _ _ _ p_w0_33 f35 hf
theorem w_X10_angle {P : Nat → Prop} {L : eL} {h0 h : eH} {v0 : Nat} {r : eH × Int32} (p_v0 : P v0) (f0 : fr P h0 h) (hf : f_X10_angle L h v0 = some r) : fr P h0 r.1 := by
  unfold f_X10_angle at hf
  replace hf := (e_if hf).2
  obtain ⟨b1, hb2, hf⟩ := e_bd hf
  have p3 := f0.1 _ _ _ p_v0 hb2
  obtain ⟨r4, hr5, hf⟩ := e_bd hf
  obtain ⟨b6, hb7, hf⟩ := e_bd hf
  have p8 := f0.1 _ _ _ p_v0 hb7
  replace hf := (e_if hf).2
  replace hf := (e_if hf).2
  obtain ⟨r9, hr10, hf⟩ := e_bd hf
  obtain ⟨r11, hr12, hf⟩ := e_bd hf
  have f13 := w_X10_stepsToSee p_v0 f0 hr12
  obtain ⟨r14, hr15, hf⟩ := e_bd hf
  have f16 := w_X10_stepsToSee p_v0 f13 hr15
  obtain ⟨r17, hr18, hf⟩ := e_bd hf
  have f19 := w_X10_stepsToSee p_v0 f16 hr18
  obtain ⟨b20, hb21, hf⟩ := e_bd hf
  have p22 := f19.1 _ _ _ p_v0 hb21
  replace hf := (e_if hf).2
  obtain ⟨r23, hr24, hf⟩ := e_bd hf
  have f25 := w_X3_begin p22 f19 hr24
  obtain ⟨b26, hb27, hf⟩ := e_bd hf
  have p28 := f25.1 _ _ _ p_v0 hb27
  replace hf := (e_if hf).2
  obtain ⟨r29, hr30, hf⟩ := e_bd hf
  have f31 := w_X3_add p28 f25 hr30
  obtain ⟨b32, hb33, hf⟩ := e_bd hf
  have p34 := f31.1 _ _ _ p_v0 hb33
  replace hf := (e_if hf).2
  obtain ⟨r35, hr36, hf⟩ := e_bd hf
  have f37 := w_X3_add p34 f31 hr36
  obtain ⟨b38, hb39, hf⟩ := e_bd hf
  have p40 := f37.1 _ _ _ p_v0 hb39
  replace hf := (e_if hf).2
  obtain ⟨r41, hr42, hf⟩ := e_bd hf
  have f43 := w_X3_add p40 f37 hr42
  obtain ⟨b44, hb45, hf⟩ := e_bd hf
  have p46 := f43.1 _ _ _ p_v0 hb45
  replace hf := (e_if hf).2
  obtain ⟨r47, hr48, hf⟩ := e_bd hf
  have f49 := w_X3_add p46 f43 hr48
  rcases e_or hf with hf | hf
  · exact fr_oW hf f49
  · rcases e_or hf with hf | hf
    · exact fr_oW hf f49
    · exact fr_oW hf f49
theorem w_X10_meets {P : Nat → Prop} {L : eL} {h0 h : eH} {v0 : Nat} {r : eH × Int32} (p_v0 : P v0) (f0 : fr P h0 h) (hf : f_X10_meets L h v0 = some r) : fr P h0 r.1 := by
  unfold f_X10_meets at hf
  replace hf := (e_if hf).2
  obtain ⟨b1, hb2, hf⟩ := e_bd hf
  have p3 := f0.1 _ _ _ p_v0 hb2
  replace hf := (e_if hf).2
  rcases e_or hf with hf | hf
  · exact fr_oW hf f0
  · obtain ⟨b4, hb5, hf⟩ := e_bd hf
    have p6 := f0.1 _ _ _ p_v0 hb5
    replace hf := (e_if hf).2
    obtain ⟨r7, hr8, hf⟩ := e_bd hf
    have f9 := w_X10_stepsToSee p_v0 f0 hr8
    rcases e_or hf with hf | hf
    · exact fr_oW hf f9
    · exact fr_oW hf f9
theorem w_X10_round_L13 {P : Nat → Prop} {L : eL} {h0 : eH} {r : eH × Int32} {k67 : eH → Nat → Int32 → Option (eH × Int32)} {k105 : eH → Option (eH × Int32)} (hk67 : ∀ (h : eH) (v0 : Nat) (v1 : Int32), P v0 → fr P h0 h → k67 h v0 v1 = some r → fr P h0 r.1) (hk105 : ∀ (h : eH), fr P h0 h → k105 h = some r → fr P h0 r.1) : ∀ (n : Nat) (h : eH) (v0 : Nat) (v1 : Int32), P v0 → fr P h0 h → f_X10_round_L13 L n k67 k105 h v0 v1 = some r → fr P h0 r.1 := by
  intro n
  induction n with
  | zero => intro h v0 v1 p_v0 f0 hf; exact absurd hf (by simp [f_X10_round_L13])
  | succ n ih =>
    intro h v0 v1 p_v0 f0 hf
    unfold f_X10_round_L13 at hf
    rcases e_or hf with hf | hf
    · exact hk105 _ f0 hf
    · replace hf := (e_if hf).2
      obtain ⟨b10, hb11, hf⟩ := e_bd hf
      have p12 := f0.1 _ _ _ p_v0 hb11
      obtain ⟨r13, hr14, hf⟩ := e_bd hf
      have f15 := w_X10_goOn p_v0 p12 f0 hr14
      rcases e_or hf with hf | hf
      · exact hk105 _ f15 hf
      · obtain ⟨b16, hb17, hf⟩ := e_bd hf
        have p18 := f15.1 _ _ _ p_v0 hb17
        replace hf := (e_if hf).2
        obtain ⟨b19, hb20, hf⟩ := e_bd hf
        have p21 := f15.1 _ _ _ p_v0 hb20
        replace hf := (e_if hf).2
        rcases e_or hf with hf | hf
        · obtain ⟨b22, hb23, hf⟩ := e_bd hf
          have p24 := f15.1 _ _ _ p_v0 hb23
          replace hf := (e_if hf).2
          obtain ⟨b25, hb26, hf⟩ := e_bd hf
          have p27 := f15.1 _ _ _ p_v0 hb26
          replace hf := (e_if hf).2
          rcases e_or hf with hf | hf
          · exact hk67 _ _ _ p_v0 f15 hf
          · exact ih _ _ _ p_v0 f15 hf
        · exact ih _ _ _ p_v0 f15 hf
theorem w_X10_round {P : Nat → Prop} {L : eL} {h0 h : eH} {v0 : Nat} {r : eH × Int32} (p_v0 : P v0) (f0 : fr P h0 h) (hf : f_X10_round L h v0 = some r) : fr P h0 r.1 := by
  unfold f_X10_round at hf
  replace hf := (e_if hf).2
  obtain ⟨b1, hb2, hf⟩ := e_bd hf
  have p3 := f0.1 _ _ _ p_v0 hb2
  obtain ⟨b4, hb5, hf⟩ := e_bd hf
  have p6 := f0.1 _ _ _ p_v0 hb5
  replace hf := (e_if hf).2
  obtain ⟨r7, hr8, hf⟩ := e_bd hf
  have f9 := w_X6_copyFrom p3 p6 f0 hr8
  refine w_X10_round_L13 ?_ ?_ e_fu _ _ _ p_v0 f9 hf
  · intro h28 w0_29 w1_30 p_w0_29 f31 hf
    replace hf := (e_if hf).2
    obtain ⟨b32, hb33, hf⟩ := e_bd hf
    have p34 := f31.1 _ _ _ p_w0_29 hb33
    replace hf := (e_if hf).2
    obtain ⟨r35, hr36, hf⟩ := e_bd hf
    have f37 := w_X3_begin p34 f31 hr36
    obtain ⟨b38, hb39, hf⟩ := e_bd hf
    have p40 := f37.1 _ _ _ p_w0_29 hb39
    obtain ⟨b41, hb42, hf⟩ := e_bd hf
    have p43 := f37.1 _ _ _ p_w0_29 hb42
    replace hf := (e_if hf).2
    obtain ⟨b44, hb45, hf⟩ := e_bd hf
    have p46 := f37.1 _ _ _ p_w0_29 hb45
    replace hf := (e_if hf).2
    replace hf := (e_if hf).2
    obtain ⟨r47, hr48, hf⟩ := e_bd hf
    have f49 := w_X3_add p40 f37 hr48
    exact fr_oW hf f49
  · intro h50 f51 hf
    exact fr_oW hf f51
theorem w_X10_corner_L35 {P : Nat → Prop} {L : eL} {h0 : eH} {r : eH × Int32} {k97 : eH → Nat → Option (eH × Int32)} (hk97 : ∀ (h : eH) (v0 : Nat), P v0 → fr P h0 h → k97 h v0 = some r → fr P h0 r.1) : ∀ (n : Nat) (h : eH) (v0 : Nat) (v1 : Int32) (v2 : Int32), P v0 → fr P h0 h → f_X10_corner_L35 L n k97 h v0 v1 v2 = some r → fr P h0 r.1 := by
  intro n
  induction n with
  | zero => intro h v0 v1 v2 p_v0 f0 hf; exact absurd hf (by simp [f_X10_corner_L35])
  | succ n ih =>
    intro h v0 v1 v2 p_v0 f0 hf
    unfold f_X10_corner_L35 at hf
    rcases e_or hf with hf | hf
    · exact hk97 _ _ p_v0 f0 hf
    · replace hf := (e_if hf).2
      obtain ⟨b16, hb17, hf⟩ := e_bd hf
      have p18 := f0.1 _ _ _ p_v0 hb17
      obtain ⟨r19, hr20, hf⟩ := e_bd hf
      have f21 := w_X10_goOn p_v0 p18 f0 hr20
      rcases e_or hf with hf | hf
      · exact hk97 _ _ p_v0 f21 hf
      · obtain ⟨b22, hb23, hf⟩ := e_bd hf
        have p24 := f21.1 _ _ _ p_v0 hb23
        replace hf := (e_if hf).2
        rcases e_or hf with hf | hf
        · exact ih _ _ _ _ p_v0 f21 hf
        · obtain ⟨b25, hb26, hf⟩ := e_bd hf
          have p27 := f21.1 _ _ _ p_v0 hb26
          replace hf := (e_if hf).2
          rcases e_or hf with hf | hf
          · exact ih _ _ _ _ p_v0 f21 hf
          · obtain ⟨b28, hb29, hf⟩ := e_bd hf
            have p30 := f21.1 _ _ _ p_v0 hb29
            obtain ⟨b31, hb32, hf⟩ := e_bd hf
            have p33 := f21.1 _ _ _ p_v0 hb32
            replace hf := (e_if hf).2
            replace hf := (e_if hf).2
            obtain ⟨h34, hh35, hf⟩ := e_bd hf
            have f36 := fr_oV hh35 (fr_sI f21 p30)
            exact ih _ _ _ _ p_v0 f36 hf
theorem w_X10_corner_L101 {P : Nat → Prop} {L : eL} {h0 : eH} {r : eH × Int32} {k130 : eH → Nat → Int32 → Option (eH × Int32)} (hk130 : ∀ (h : eH) (v0 : Nat) (v2 : Int32), P v0 → fr P h0 h → k130 h v0 v2 = some r → fr P h0 r.1) : ∀ (n : Nat) (h : eH) (v0 : Nat) (v2 : Int32) (v3 : Int32), P v0 → fr P h0 h → f_X10_corner_L101 L n k130 h v0 v2 v3 = some r → fr P h0 r.1 := by
  intro n
  induction n with
  | zero => intro h v0 v2 v3 p_v0 f0 hf; exact absurd hf (by simp [f_X10_corner_L101])
  | succ n ih =>
    intro h v0 v2 v3 p_v0 f0 hf
    unfold f_X10_corner_L101 at hf
    rcases e_or hf with hf | hf
    · exact hk130 _ _ _ p_v0 f0 hf
    · replace hf := (e_if hf).2
      obtain ⟨b40, hb41, hf⟩ := e_bd hf
      have p42 := f0.1 _ _ _ p_v0 hb41
      replace hf := (e_if hf).2
      obtain ⟨b43, hb44, hf⟩ := e_bd hf
      have p45 := f0.1 _ _ _ p_v0 hb44
      replace hf := (e_if hf).2
      rcases e_or hf with hf | hf
      · exact ih _ _ _ _ p_v0 f0 hf
      · exact ih _ _ _ _ p_v0 f0 hf
theorem w_X10_corner {P : Nat → Prop} {L : eL} {h0 h : eH} {v0 : Nat} {v1 : Int32} {r : eH × Int32} (p_v0 : P v0) (f0 : fr P h0 h) (hf : f_X10_corner L h v0 v1 = some r) : fr P h0 r.1 := by
  unfold f_X10_corner at hf
  rcases e_or hf with hf | hf
  · exact fr_oW hf f0
  · rcases e_or hf with hf | hf
    · replace hf := (e_if hf).2
      obtain ⟨b1, hb2, hf⟩ := e_bd hf
      have p3 := f0.1 _ _ _ p_v0 hb2
      obtain ⟨r4, hr5, hf⟩ := e_bd hf
      have f6 := w_J7_fill_53178 p3 f0 hr5
      obtain ⟨b7, hb8, hf⟩ := e_bd hf
      have p9 := f6.1 _ _ _ p_v0 hb8
      obtain ⟨b10, hb11, hf⟩ := e_bd hf
      have p12 := f6.1 _ _ _ p_v0 hb11
      replace hf := (e_if hf).2
      obtain ⟨r13, hr14, hf⟩ := e_bd hf
      have f15 := w_X6_copyFrom p9 p12 f6 hr14
      refine w_X10_corner_L35 ?_ e_fu _ _ _ _ p_v0 f15 hf
      · intro h37 w0_38 p_w0_38 f39 hf
        refine w_X10_corner_L101 ?_ e_fu _ _ _ _ p_w0_38 f39 hf
        · intro h46 w0_47 w2_48 p_w0_47 f49 hf
          replace hf := (e_if hf).2
          obtain ⟨b50, hb51, hf⟩ := e_bd hf
          have p52 := f49.1 _ _ _ p_w0_47 hb51
          replace hf := (e_if hf).2
          obtain ⟨r53, hr54, hf⟩ := e_bd hf
          have f55 := w_X3_begin p52 f49 hr54
          obtain ⟨b56, hb57, hf⟩ := e_bd hf
          have p58 := f55.1 _ _ _ p_w0_47 hb57
          obtain ⟨b59, hb60, hf⟩ := e_bd hf
          have p61 := f55.1 _ _ _ p_w0_47 hb60
          replace hf := (e_if hf).2
          replace hf := (e_if hf).2
          obtain ⟨r62, hr63, hf⟩ := e_bd hf
          have f64 := w_X3_add p58 f55 hr63
          exact fr_oW hf f64
    · exact fr_oW hf f0
theorem w_J7_fill_d0a16_L6 {P : Nat → Prop} {L : eL} {h0 : eH} {r : eH} {k22 : eH → Option eH} (hk22 : ∀ (h : eH), fr P h0 h → k22 h = some r → fr P h0 r) : ∀ (n : Nat) (h : eH) (v0 : Nat) (v1 : Int64) (v3 : Int32) (v4 : Int32), P v0 → fr P h0 h → f_J7_fill_d0a16_L6 L n k22 h v0 v1 v3 v4 = some r → fr P h0 r := by
  intro n
  induction n with
  | zero => intro h v0 v1 v3 v4 p_v0 f0 hf; exact absurd hf (by simp [f_J7_fill_d0a16_L6])
  | succ n ih =>
    intro h v0 v1 v3 v4 p_v0 f0 hf
    unfold f_J7_fill_d0a16_L6 at hf
    rcases e_or hf with hf | hf
    · exact hk22 _ f0 hf
    · replace hf := (e_if hf).2
      exact ih _ _ _ _ _ p_v0 (fr_sL f0 p_v0) hf
theorem w_J7_fill_d0a16 {P : Nat → Prop} {L : eL} {h0 h : eH} {v0 : Nat} {v1 : Int64} {r : eH} (p_v0 : P v0) (f0 : fr P h0 h) (hf : f_J7_fill_d0a16 L h v0 v1 = some r) : fr P h0 r := by
  unfold f_J7_fill_d0a16 at hf
  replace hf := (e_if hf).2
  refine w_J7_fill_d0a16_L6 ?_ e_fu _ _ _ _ _ p_v0 f0 hf
  · intro h1 f2 hf
    exact fr_oV hf f2
theorem w_X9_measure_L32 {P : Nat → Prop} {L : eL} {h0 : eH} {r : eH} {k139 : eH → Option eH} (hk139 : ∀ (h : eH), fr P h0 h → k139 h = some r → fr P h0 r) : ∀ (n : Nat) (h : eH) (v0 : Nat) (v1 : Nat) (v2 : Int64) (v5 : Int32), P v0 → P v1 → fr P h0 h → f_X9_measure_L32 L n k139 h v0 v1 v2 v5 = some r → fr P h0 r := by
  intro n
  induction n with
  | zero => intro h v0 v1 v2 v5 p_v0 p_v1 f0 hf; exact absurd hf (by simp [f_X9_measure_L32])
  | succ n ih =>
    intro h v0 v1 v2 v5 p_v0 p_v1 f0 hf
    unfold f_X9_measure_L32 at hf
    rcases e_or hf with hf | hf
    · exact hk139 _ f0 hf
    · replace hf := (e_if hf).2
      obtain ⟨b13, hb14, hf⟩ := e_bd hf
      have p15 := f0.1 _ _ _ p_v0 hb14
      replace hf := (e_if hf).2
      rcases e_or hf with hf | hf
      · exact ih _ _ _ _ _ p_v0 p_v1 f0 hf
      · obtain ⟨b16, hb17, hf⟩ := e_bd hf
        have p18 := f0.1 _ _ _ p_v0 hb17
        replace hf := (e_if hf).2
        replace hf := (e_if hf).2
        obtain ⟨r19, hr20, hf⟩ := e_bd hf
        obtain ⟨h21, hh22, hf⟩ := e_bd hf
        have f23 := fr_oV hh22 (fr_sL f0 p_v0)
        obtain ⟨b24, hb25, hf⟩ := e_bd hf
        have p26 := f23.1 _ _ _ p_v0 hb25
        replace hf := (e_if hf).2
        obtain ⟨h27, hh28, hf⟩ := e_bd hf
        have f29 := fr_oV hh28 (fr_sL f23 p26)
        obtain ⟨b30, hb31, hf⟩ := e_bd hf
        have p32 := f29.1 _ _ _ p_v0 hb31
        replace hf := (e_if hf).2
        obtain ⟨h33, hh34, hf⟩ := e_bd hf
        have f35 := fr_oV hh34 (fr_sL f29 p32)
        exact ih _ _ _ _ _ p_v0 p_v1 f35 hf
theorem w_X9_measure {P : Nat → Prop} {L : eL} {h0 h : eH} {v0 : Nat} {v1 : Nat} {v2 : Int64} {v4 : Int32} {r : eH} (p_v0 : P v0) (p_v1 : P v1) (f0 : fr P h0 h) (hf : f_X9_measure L h v0 v1 v2 v4 = some r) : fr P h0 r := by
  unfold f_X9_measure at hf
  replace hf := (e_if hf).2
  obtain ⟨b1, hb2, hf⟩ := e_bd hf
  have p3 := f0.1 _ _ _ p_v0 hb2
  obtain ⟨r4, hr5, hf⟩ := e_bd hf
  have f6 := w_J7_fill_d0a16 p3 f0 hr5
  obtain ⟨b7, hb8, hf⟩ := e_bd hf
  have p9 := (fr_sL f6 p_v0).1 _ _ _ p_v0 hb8
  replace hf := (e_if hf).2
  obtain ⟨h10, hh11, hf⟩ := e_bd hf
  have f12 := fr_oV hh11 (fr_sL (fr_sL f6 p_v0) p9)
  refine w_X9_measure_L32 ?_ e_fu _ _ _ _ _ p_v0 p_v1 f12 hf
  · intro h36 f37 hf
    exact fr_oV hf f37
theorem w_X10_way_L108 {P : Nat → Prop} {L : eL} {h0 : eH} {r : eH × Int32} {k174 : eH → Int32 → Option (eH × Int32)} (hk174 : ∀ (h : eH) (v5 : Int32), fr P h0 h → k174 h v5 = some r → fr P h0 r.1) : ∀ (n : Nat) (h : eH) (v0 : Nat) (v2 : Int32) (v5 : Int32) (v6 : Int32) (v7 : Int32) (v8 : Int32), P v0 → fr P h0 h → f_X10_way_L108 L n k174 h v0 v2 v5 v6 v7 v8 = some r → fr P h0 r.1 := by
  intro n
  induction n with
  | zero => intro h v0 v2 v5 v6 v7 v8 p_v0 f0 hf; exact absurd hf (by simp [f_X10_way_L108])
  | succ n ih =>
    intro h v0 v2 v5 v6 v7 v8 p_v0 f0 hf
    unfold f_X10_way_L108 at hf
    rcases e_or hf with hf | hf
    · exact hk174 _ _ f0 hf
    · rcases e_or hf with hf | hf
      · exact hk174 _ _ f0 hf
      · replace hf := (e_if hf).2
        obtain ⟨b39, hb40, hf⟩ := e_bd hf
        have p41 := f0.1 _ _ _ p_v0 hb40
        replace hf := (e_if hf).2
        obtain ⟨r42, hr43, hf⟩ := e_bd hf
        obtain ⟨b44, hb45, hf⟩ := e_bd hf
        have p46 := f0.1 _ _ _ p_v0 hb45
        obtain ⟨b47, hb48, hf⟩ := e_bd hf
        have p49 := f0.1 _ _ _ p_v0 hb48
        replace hf := (e_if hf).2
        obtain ⟨r50, hr51, hf⟩ := e_bd hf
        replace hf := (e_if hf).2
        obtain ⟨r52, hr53, hf⟩ := e_bd hf
        obtain ⟨b54, hb55, hf⟩ := e_bd hf
        have p56 := f0.1 _ _ _ p_v0 hb55
        replace hf := (e_if hf).2
        obtain ⟨r57, hr58, hf⟩ := e_bd hf
        have f59 := w_X3_add p56 f0 hr58
        exact ih _ _ _ _ _ _ _ p_v0 f59 hf
theorem w_X10_way {P : Nat → Prop} {L : eL} {h0 h : eH} {v0 : Nat} {v1 : Int32} {v2 : Int32} {r : eH × Int32} (p_v0 : P v0) (f0 : fr P h0 h) (hf : f_X10_way L h v0 v1 v2 = some r) : fr P h0 r.1 := by
  unfold f_X10_way at hf
  replace hf := (e_if hf).2
  obtain ⟨b1, hb2, hf⟩ := e_bd hf
  have p3 := f0.1 _ _ _ p_v0 hb2
  replace hf := (e_if hf).2
  obtain ⟨r4, hr5, hf⟩ := e_bd hf
  rcases e_or hf with hf | hf
  · exact fr_oW hf f0
  · obtain ⟨b6, hb7, hf⟩ := e_bd hf
    have p8 := f0.1 _ _ _ p_v0 hb7
    replace hf := (e_if hf).2
    obtain ⟨r9, hr10, hf⟩ := e_bd hf
    rcases e_or hf with hf | hf
    · exact fr_oW hf f0
    · obtain ⟨r11, hr12, hf⟩ := e_bd hf
      rcases e_or hf with hf | hf
      · exact fr_oW hf f0
      · rcases e_or hf with hf | hf
        · exact fr_oW hf f0
        · obtain ⟨b13, hb14, hf⟩ := e_bd hf
          have p15 := f0.1 _ _ _ p_v0 hb14
          obtain ⟨b16, hb17, hf⟩ := e_bd hf
          have p18 := f0.1 _ _ _ p_v0 hb17
          replace hf := (e_if hf).2
          obtain ⟨r19, hr20, hf⟩ := e_bd hf
          have f21 := w_X9_measure p15 p18 f0 hr20
          obtain ⟨b22, hb23, hf⟩ := e_bd hf
          have p24 := f21.1 _ _ _ p_v0 hb23
          replace hf := (e_if hf).2
          obtain ⟨r25, hr26, hf⟩ := e_bd hf
          rcases e_or hf with hf | hf
          · exact fr_oW hf f21
          · obtain ⟨b27, hb28, hf⟩ := e_bd hf
            have p29 := f21.1 _ _ _ p_v0 hb28
            replace hf := (e_if hf).2
            obtain ⟨r30, hr31, hf⟩ := e_bd hf
            have f32 := w_X3_begin p29 f21 hr31
            obtain ⟨b33, hb34, hf⟩ := e_bd hf
            have p35 := f32.1 _ _ _ p_v0 hb34
            replace hf := (e_if hf).2
            obtain ⟨r36, hr37, hf⟩ := e_bd hf
            have f38 := w_X3_add p35 f32 hr37
            refine w_X10_way_L108 ?_ e_fu _ _ _ _ _ _ _ p_v0 f38 hf
            · intro h60 w5_61 f62 hf
              exact fr_oW hf f62
theorem w_X10_back_J94 {P : Nat → Prop} {L : eL} {h0 : eH} {r : eH × Int32} {k52 : eH → Nat → Int32 → Int32 → Option (eH × Int32)} {k107 : eH → Int32 → Option (eH × Int32)} {k116 : eH → Int32 → Option (eH × Int32)} (hk52 : ∀ (h : eH) (v0 : Nat) (v1 : Int32) (v2 : Int32), P v0 → fr P h0 h → k52 h v0 v1 v2 = some r → fr P h0 r.1) (hk107 : ∀ (h : eH) (v1 : Int32), fr P h0 h → k107 h v1 = some r → fr P h0 r.1) (hk116 : ∀ (h : eH) (v1 : Int32), fr P h0 h → k116 h v1 = some r → fr P h0 r.1) : ∀ (h : eH) (v0 : Nat) (v1 : Int32) (v2 : Int32), P v0 → fr P h0 h → f_X10_back_J94 L k52 k107 k116 h v0 v1 v2 = some r → fr P h0 r.1 := by
  intro h v0 v1 v2 p_v0 f0 hf
  unfold f_X10_back_J94 at hf
  replace hf := (e_if hf).2
  obtain ⟨b35, hb36, hf⟩ := e_bd hf
  have p37 := f0.1 _ _ _ p_v0 hb36
  obtain ⟨r38, hr39, hf⟩ := e_bd hf
  have f40 := w_X10_goOn p_v0 p37 f0 hr39
  rcases e_or hf with hf | hf
  · exact hk107 _ _ f40 hf
  · exact hk52 _ _ _ _ p_v0 f40 hf
theorem w_X10_back_L52 {P : Nat → Prop} {L : eL} {h0 : eH} {r : eH × Int32} {k107 : eH → Int32 → Option (eH × Int32)} {k116 : eH → Int32 → Option (eH × Int32)} (hk107 : ∀ (h : eH) (v1 : Int32), fr P h0 h → k107 h v1 = some r → fr P h0 r.1) (hk116 : ∀ (h : eH) (v1 : Int32), fr P h0 h → k116 h v1 = some r → fr P h0 r.1) : ∀ (n : Nat) (h : eH) (v0 : Nat) (v1 : Int32) (v2 : Int32), P v0 → fr P h0 h → f_X10_back_L52 L n k107 k116 h v0 v1 v2 = some r → fr P h0 r.1 := by
  intro n
  induction n with
  | zero => intro h v0 v1 v2 p_v0 f0 hf; exact absurd hf (by simp [f_X10_back_L52])
  | succ n ih =>
    intro h v0 v1 v2 p_v0 f0 hf
    unfold f_X10_back_L52 at hf
    rcases e_or hf with hf | hf
    · exact hk116 _ _ f0 hf
    · replace hf := (e_if hf).2
      obtain ⟨b27, hb28, hf⟩ := e_bd hf
      have p29 := f0.1 _ _ _ p_v0 hb28
      obtain ⟨b30, hb31, hf⟩ := e_bd hf
      have p32 := f0.1 _ _ _ p_v0 hb31
      replace hf := (e_if hf).2
      replace hf := (e_if hf).2
      obtain ⟨r33, hr34, hf⟩ := e_bd hf
      rcases e_or hf with hf | hf
      · exact w_X10_back_J94 ih hk107 hk116 _ _ _ _ p_v0 f0 hf
      · obtain ⟨b41, hb42, hf⟩ := e_bd hf
        have p43 := f0.1 _ _ _ p_v0 hb42
        replace hf := (e_if hf).2
        rcases e_or hf with hf | hf
        · exact w_X10_back_J94 ih hk107 hk116 _ _ _ _ p_v0 f0 hf
        · exact w_X10_back_J94 ih hk107 hk116 _ _ _ _ p_v0 f0 hf
theorem w_X10_back {P : Nat → Prop} {L : eL} {h0 h : eH} {v0 : Nat} {r : eH × Int32} (p_v0 : P v0) (f0 : fr P h0 h) (hf : f_X10_back L h v0 = some r) : fr P h0 r.1 := by
  unfold f_X10_back at hf
  replace hf := (e_if hf).2
  obtain ⟨b1, hb2, hf⟩ := e_bd hf
  have p3 := f0.1 _ _ _ p_v0 hb2
  replace hf := (e_if hf).2
  rcases e_or hf with hf | hf
  · exact fr_oW hf f0
  · obtain ⟨b4, hb5, hf⟩ := e_bd hf
    have p6 := f0.1 _ _ _ p_v0 hb5
    obtain ⟨b7, hb8, hf⟩ := e_bd hf
    have p9 := f0.1 _ _ _ p_v0 hb8
    obtain ⟨r10, hr11, hf⟩ := e_bd hf
    obtain ⟨b12, hb13, hf⟩ := e_bd hf
    have p14 := f0.1 _ _ _ p_v0 hb13
    replace hf := (e_if hf).2
    replace hf := (e_if hf).2
    obtain ⟨r15, hr16, hf⟩ := e_bd hf
    have f17 := w_X9_measure p6 p9 f0 hr16
    obtain ⟨b18, hb19, hf⟩ := e_bd hf
    have p20 := f17.1 _ _ _ p_v0 hb19
    obtain ⟨b21, hb22, hf⟩ := e_bd hf
    have p23 := f17.1 _ _ _ p_v0 hb22
    replace hf := (e_if hf).2
    obtain ⟨r24, hr25, hf⟩ := e_bd hf
    have f26 := w_X6_copyFrom p20 p23 f17 hr25
    refine w_X10_back_L52 ?_ ?_ e_fu _ _ _ _ p_v0 f26 hf
    · intro h44 w1_45 f46 hf
      exact fr_oW hf f46
    · intro h47 w1_48 f49 hf
      exact fr_oW hf f49
theorem w_X10_plug_L15 {P : Nat → Prop} {L : eL} {h0 : eH} {r : eH × Int32} {k78 : eH → Nat → Int32 → Int32 → Option (eH × Int32)} (hk78 : ∀ (h : eH) (v0 : Nat) (v3 : Int32) (v4 : Int32), P v0 → fr P h0 h → k78 h v0 v3 v4 = some r → fr P h0 r.1) : ∀ (n : Nat) (h : eH) (v0 : Nat) (v1 : Int64) (v3 : Int32) (v4 : Int32) (v5 : Int32), P v0 → fr P h0 h → f_X10_plug_L15 L n k78 h v0 v1 v3 v4 v5 = some r → fr P h0 r.1 := by
  intro n
  induction n with
  | zero => intro h v0 v1 v3 v4 v5 p_v0 f0 hf; exact absurd hf (by simp [f_X10_plug_L15])
  | succ n ih =>
    intro h v0 v1 v3 v4 v5 p_v0 f0 hf
    unfold f_X10_plug_L15 at hf
    rcases e_or hf with hf | hf
    · exact hk78 _ _ _ _ p_v0 f0 hf
    · rcases e_or hf with hf | hf
      · exact ih _ _ _ _ _ _ p_v0 f0 hf
      · replace hf := (e_if hf).2
        obtain ⟨b3, hb4, hf⟩ := e_bd hf
        have p5 := f0.1 _ _ _ p_v0 hb4
        obtain ⟨b6, hb7, hf⟩ := e_bd hf
        have p8 := f0.1 _ _ _ p_v0 hb7
        replace hf := (e_if hf).2
        obtain ⟨r9, hr10, hf⟩ := e_bd hf
        have f11 := w_X9_measure p5 p8 f0 hr10
        obtain ⟨b12, hb13, hf⟩ := e_bd hf
        have p14 := f11.1 _ _ _ p_v0 hb13
        replace hf := (e_if hf).2
        obtain ⟨r15, hr16, hf⟩ := e_bd hf
        rcases e_or hf with hf | hf
        · exact ih _ _ _ _ _ _ p_v0 f11 hf
        · exact ih _ _ _ _ _ _ p_v0 f11 hf
theorem w_X10_plug {P : Nat → Prop} {L : eL} {h0 h : eH} {v0 : Nat} {r : eH × Int32} (p_v0 : P v0) (f0 : fr P h0 h) (hf : f_X10_plug L h v0 = some r) : fr P h0 r.1 := by
  unfold f_X10_plug at hf
  replace hf := (e_if hf).2
  obtain ⟨r1, hr2, hf⟩ := e_bd hf
  refine w_X10_plug_L15 ?_ e_fu _ _ _ _ _ _ p_v0 f0 hf
  · intro h17 w0_18 w3_19 w4_20 p_w0_18 f21 hf
    replace hf := (e_if hf).2
    obtain ⟨b22, hb23, hf⟩ := e_bd hf
    have p24 := f21.1 _ _ _ p_w0_18 hb23
    replace hf := (e_if hf).2
    obtain ⟨r25, hr26, hf⟩ := e_bd hf
    have f27 := w_X3_begin p24 f21 hr26
    obtain ⟨b28, hb29, hf⟩ := e_bd hf
    have p30 := f27.1 _ _ _ p_w0_18 hb29
    replace hf := (e_if hf).2
    obtain ⟨r31, hr32, hf⟩ := e_bd hf
    have f33 := w_X3_add p30 f27 hr32
    exact fr_oW hf f33
theorem w_X10_doors_L74 {P : Nat → Prop} {L : eL} {h0 : eH} {r : eH × Int32} {k144 : eH → Nat → Int64 → Option (eH × Int32)} (hk144 : ∀ (h : eH) (v0 : Nat) (v5 : Int64), P v0 → fr P h0 h → k144 h v0 v5 = some r → fr P h0 r.1) : ∀ (n : Nat) (h : eH) (v0 : Nat) (v1 : Int64) (v3 : Int64) (v5 : Int64) (v7 : Int32), P v0 → fr P h0 h → f_X10_doors_L74 L n k144 h v0 v1 v3 v5 v7 = some r → fr P h0 r.1 := by
  intro n
  induction n with
  | zero => intro h v0 v1 v3 v5 v7 p_v0 f0 hf; exact absurd hf (by simp [f_X10_doors_L74])
  | succ n ih =>
    intro h v0 v1 v3 v5 v7 p_v0 f0 hf
    unfold f_X10_doors_L74 at hf
    rcases e_or hf with hf | hf
    · exact hk144 _ _ _ p_v0 f0 hf
    · rcases e_or hf with hf | hf
      · exact ih _ _ _ _ _ _ p_v0 f0 hf
      · replace hf := (e_if hf).2
        obtain ⟨b20, hb21, hf⟩ := e_bd hf
        have p22 := f0.1 _ _ _ p_v0 hb21
        obtain ⟨b23, hb24, hf⟩ := e_bd hf
        have p25 := f0.1 _ _ _ p_v0 hb24
        replace hf := (e_if hf).2
        replace hf := (e_if hf).2
        obtain ⟨r26, hr27, hf⟩ := e_bd hf
        obtain ⟨b28, hb29, hf⟩ := e_bd hf
        have p30 := f0.1 _ _ _ p_v0 hb29
        replace hf := (e_if hf).2
        rcases e_or hf with hf | hf
        · exact ih _ _ _ _ _ _ p_v0 f0 hf
        · exact ih _ _ _ _ _ _ p_v0 f0 hf
theorem w_X10_doors {P : Nat → Prop} {L : eL} {h0 h : eH} {v0 : Nat} {r : eH × Int32} (p_v0 : P v0) (f0 : fr P h0 h) (hf : f_X10_doors L h v0 = some r) : fr P h0 r.1 := by
  unfold f_X10_doors at hf
  replace hf := (e_if hf).2
  obtain ⟨r1, hr2, hf⟩ := e_bd hf
  obtain ⟨b3, hb4, hf⟩ := e_bd hf
  have p5 := f0.1 _ _ _ p_v0 hb4
  obtain ⟨b6, hb7, hf⟩ := e_bd hf
  have p8 := f0.1 _ _ _ p_v0 hb7
  replace hf := (e_if hf).2
  replace hf := (e_if hf).2
  obtain ⟨r9, hr10, hf⟩ := e_bd hf
  obtain ⟨b11, hb12, hf⟩ := e_bd hf
  have p13 := f0.1 _ _ _ p_v0 hb12
  replace hf := (e_if hf).2
  rcases e_or hf with hf | hf
  · exact fr_oW hf f0
  · obtain ⟨b14, hb15, hf⟩ := e_bd hf
    have p16 := f0.1 _ _ _ p_v0 hb15
    replace hf := (e_if hf).2
    obtain ⟨b17, hb18, hf⟩ := e_bd hf
    have p19 := f0.1 _ _ _ p_v0 hb18
    replace hf := (e_if hf).2
    refine w_X10_doors_L74 ?_ e_fu _ _ _ _ _ _ p_v0 f0 hf
    · intro h31 w0_32 w5_33 p_w0_32 f34 hf
      replace hf := (e_if hf).2
      obtain ⟨b35, hb36, hf⟩ := e_bd hf
      have p37 := f34.1 _ _ _ p_w0_32 hb36
      replace hf := (e_if hf).2
      obtain ⟨r38, hr39, hf⟩ := e_bd hf
      have f40 := w_X3_begin p37 f34 hr39
      obtain ⟨b41, hb42, hf⟩ := e_bd hf
      have p43 := f40.1 _ _ _ p_w0_32 hb42
      replace hf := (e_if hf).2
      obtain ⟨r44, hr45, hf⟩ := e_bd hf
      have f46 := w_X3_add p43 f40 hr45
      exact fr_oW hf f46
theorem w_X10_chairs_L48 {P : Nat → Prop} {L : eL} {h0 : eH} {r : eH × Int32} {k122 : eH → Nat → Int32 → Int32 → Option (eH × Int32)} (hk122 : ∀ (h : eH) (v0 : Nat) (v4 : Int32) (v5 : Int32), P v0 → fr P h0 h → k122 h v0 v4 v5 = some r → fr P h0 r.1) : ∀ (n : Nat) (h : eH) (v0 : Nat) (v1 : Int64) (v3 : Int32) (v4 : Int32) (v5 : Int32) (v6 : Int32), P v0 → fr P h0 h → f_X10_chairs_L48 L n k122 h v0 v1 v3 v4 v5 v6 = some r → fr P h0 r.1 := by
  intro n
  induction n with
  | zero => intro h v0 v1 v3 v4 v5 v6 p_v0 f0 hf; exact absurd hf (by simp [f_X10_chairs_L48])
  | succ n ih =>
    intro h v0 v1 v3 v4 v5 v6 p_v0 f0 hf
    unfold f_X10_chairs_L48 at hf
    rcases e_or hf with hf | hf
    · exact hk122 _ _ _ _ p_v0 f0 hf
    · replace hf := (e_if hf).2
      obtain ⟨b14, hb15, hf⟩ := e_bd hf
      have p16 := f0.1 _ _ _ p_v0 hb15
      replace hf := (e_if hf).2
      rcases e_or hf with hf | hf
      · exact ih _ _ _ _ _ _ _ p_v0 f0 hf
      · obtain ⟨b17, hb18, hf⟩ := e_bd hf
        have p19 := f0.1 _ _ _ p_v0 hb18
        obtain ⟨b20, hb21, hf⟩ := e_bd hf
        have p22 := f0.1 _ _ _ p_v0 hb21
        replace hf := (e_if hf).2
        replace hf := (e_if hf).2
        obtain ⟨r23, hr24, hf⟩ := e_bd hf
        rcases e_or hf with hf | hf
        · exact ih _ _ _ _ _ _ _ p_v0 f0 hf
        · exact ih _ _ _ _ _ _ _ p_v0 f0 hf
theorem w_X10_chairs {P : Nat → Prop} {L : eL} {h0 h : eH} {v0 : Nat} {r : eH × Int32} (p_v0 : P v0) (f0 : fr P h0 h) (hf : f_X10_chairs L h v0 = some r) : fr P h0 r.1 := by
  unfold f_X10_chairs at hf
  replace hf := (e_if hf).2
  obtain ⟨b1, hb2, hf⟩ := e_bd hf
  have p3 := f0.1 _ _ _ p_v0 hb2
  replace hf := (e_if hf).2
  rcases e_or hf with hf | hf
  · exact fr_oW hf f0
  · obtain ⟨r4, hr5, hf⟩ := e_bd hf
    obtain ⟨b6, hb7, hf⟩ := e_bd hf
    have p8 := f0.1 _ _ _ p_v0 hb7
    obtain ⟨b9, hb10, hf⟩ := e_bd hf
    have p11 := f0.1 _ _ _ p_v0 hb10
    replace hf := (e_if hf).2
    replace hf := (e_if hf).2
    obtain ⟨r12, hr13, hf⟩ := e_bd hf
    refine w_X10_chairs_L48 ?_ e_fu _ _ _ _ _ _ _ p_v0 f0 hf
    · intro h25 w0_26 w4_27 w5_28 p_w0_26 f29 hf
      replace hf := (e_if hf).2
      obtain ⟨b30, hb31, hf⟩ := e_bd hf
      have p32 := f29.1 _ _ _ p_w0_26 hb31
      replace hf := (e_if hf).2
      obtain ⟨r33, hr34, hf⟩ := e_bd hf
      have f35 := w_X3_begin p32 f29 hr34
      obtain ⟨b36, hb37, hf⟩ := e_bd hf
      have p38 := f35.1 _ _ _ p_w0_26 hb37
      replace hf := (e_if hf).2
      obtain ⟨r39, hr40, hf⟩ := e_bd hf
      have f41 := w_X3_add p38 f35 hr40
      exact fr_oW hf f41
theorem w_X7_noteFound_L12 {P : Nat → Prop} {L : eL} {h0 : eH} {r : eH} {k41 : eH → Option eH} (hk41 : ∀ (h : eH), fr P h0 h → k41 h = some r → fr P h0 r) : ∀ (n : Nat) (h : eH) (v0 : Nat) (v1 : Int32) (v3 : Int32), P v0 → fr P h0 h → f_X7_noteFound_L12 L n k41 h v0 v1 v3 = some r → fr P h0 r := by
  intro n
  induction n with
  | zero => intro h v0 v1 v3 p_v0 f0 hf; exact absurd hf (by simp [f_X7_noteFound_L12])
  | succ n ih =>
    intro h v0 v1 v3 p_v0 f0 hf
    unfold f_X7_noteFound_L12 at hf
    rcases e_or hf with hf | hf
    · exact hk41 _ f0 hf
    · rcases e_or hf with hf | hf
      · exact hk41 _ f0 hf
      · replace hf := (e_if hf).2
        obtain ⟨b1, hb2, hf⟩ := e_bd hf
        have p3 := f0.1 _ _ _ p_v0 hb2
        obtain ⟨b4, hb5, hf⟩ := e_bd hf
        have p6 := f0.1 _ _ _ p_v0 hb5
        replace hf := (e_if hf).2
        replace hf := (e_if hf).2
        obtain ⟨h7, hh8, hf⟩ := e_bd hf
        have f9 := fr_oV hh8 (fr_sI f0 p3)
        exact ih _ _ _ _ p_v0 f9 hf
theorem w_X7_noteFound {P : Nat → Prop} {L : eL} {h0 h : eH} {v0 : Nat} {v1 : Int32} {v2 : Int32} {r : eH} (p_v0 : P v0) (f0 : fr P h0 h) (hf : f_X7_noteFound L h v0 v1 v2 = some r) : fr P h0 r := by
  unfold f_X7_noteFound at hf
  replace hf := (e_if hf).2
  refine w_X7_noteFound_L12 ?_ e_fu _ _ _ _ p_v0 (fr_sI (fr_sI f0 p_v0) p_v0) hf
  · intro h10 f11 hf
    exact fr_oV hf f11
theorem w_X7_goFarther_o_J144 {P : Nat → Prop} {L : eL} {h0 : eH} {rec_X7_goFarther : eH → Nat → Int32 → Int32 → Int32 → Int64 → Option eH} {r : eH} {k76 : eH → Nat → Int32 → Int32 → Int32 → Int64 → Int32 → Option eH} {k173 : eH → Option eH} (grec_X7_goFarther : ∀ (h : eH) (a0 : Nat) (a1 : Int32) (a2 : Int32) (a3 : Int32) (a4 : Int64) {z : eH}, P a0 → fr P h0 h → rec_X7_goFarther h a0 a1 a2 a3 a4 = some z → fr P h0 z) (hk76 : ∀ (h : eH) (v0 : Nat) (v1 : Int32) (v2 : Int32) (v3 : Int32) (v4 : Int64) (v6 : Int32), P v0 → fr P h0 h → k76 h v0 v1 v2 v3 v4 v6 = some r → fr P h0 r) (hk173 : ∀ (h : eH), fr P h0 h → k173 h = some r → fr P h0 r) : ∀ (h : eH) (v0 : Nat) (v1 : Int32) (v2 : Int32) (v3 : Int32) (v4 : Int64) (v6 : Int32) (v7 : Int32) (s0 : Int32), P v0 → fr P h0 h → f_X7_goFarther_o_J144 L rec_X7_goFarther k76 k173 h v0 v1 v2 v3 v4 v6 v7 s0 = some r → fr P h0 r := by
  intro h v0 v1 v2 v3 v4 v6 v7 s0 p_v0 f0 hf
  unfold f_X7_goFarther_o_J144 at hf
  replace hf := (e_if hf).2
  obtain ⟨r25, hr26, hf⟩ := e_bd hf
  have f27 := grec_X7_goFarther _ _ _ _ _ _ p_v0 f0 hr26
  exact hk76 _ _ _ _ _ _ _ p_v0 f27 hf
theorem w_X7_goFarther_o_L76 {P : Nat → Prop} {L : eL} {h0 : eH} {rec_X7_goFarther : eH → Nat → Int32 → Int32 → Int32 → Int64 → Option eH} {r : eH} {k173 : eH → Option eH} (grec_X7_goFarther : ∀ (h : eH) (a0 : Nat) (a1 : Int32) (a2 : Int32) (a3 : Int32) (a4 : Int64) {z : eH}, P a0 → fr P h0 h → rec_X7_goFarther h a0 a1 a2 a3 a4 = some z → fr P h0 z) (hk173 : ∀ (h : eH), fr P h0 h → k173 h = some r → fr P h0 r) : ∀ (n : Nat) (h : eH) (v0 : Nat) (v1 : Int32) (v2 : Int32) (v3 : Int32) (v4 : Int64) (v6 : Int32), P v0 → fr P h0 h → f_X7_goFarther_o_L76 L rec_X7_goFarther n k173 h v0 v1 v2 v3 v4 v6 = some r → fr P h0 r := by
  intro n
  induction n with
  | zero => intro h v0 v1 v2 v3 v4 v6 p_v0 f0 hf; exact absurd hf (by simp [f_X7_goFarther_o_L76])
  | succ n ih =>
    intro h v0 v1 v2 v3 v4 v6 p_v0 f0 hf
    unfold f_X7_goFarther_o_L76 at hf
    rcases e_or hf with hf | hf
    · exact hk173 _ f0 hf
    · replace hf := (e_if hf).2
      obtain ⟨b12, hb13, hf⟩ := e_bd hf
      have p14 := f0.1 _ _ _ p_v0 hb13
      replace hf := (e_if hf).2
      replace hf := (e_if hf).2
      obtain ⟨r15, hr16, hf⟩ := e_bd hf
      rcases e_or hf with hf | hf
      · exact ih _ _ _ _ _ _ _ p_v0 f0 hf
      · obtain ⟨b17, hb18, hf⟩ := e_bd hf
        have p19 := f0.1 _ _ _ p_v0 hb18
        replace hf := (e_if hf).2
        rcases e_or hf with hf | hf
        · obtain ⟨b20, hb21, hf⟩ := e_bd hf
          have p22 := (fr_sI f0 p19).1 _ _ _ p_v0 hb21
          replace hf := (e_if hf).2
          obtain ⟨r23, hr24, hf⟩ := e_bd hf
          exact w_X7_goFarther_o_J144 grec_X7_goFarther ih hk173 _ _ _ _ _ _ _ _ _ p_v0 (fr_sI f0 p19) hf
        · exact w_X7_goFarther_o_J144 grec_X7_goFarther ih hk173 _ _ _ _ _ _ _ _ _ p_v0 (fr_sI f0 p19) hf
theorem w_X7_goFarther_o_J30 {P : Nat → Prop} {L : eL} {h0 : eH} {rec_X7_goFarther : eH → Nat → Int32 → Int32 → Int32 → Int64 → Option eH} {r : eH} (grec_X7_goFarther : ∀ (h : eH) (a0 : Nat) (a1 : Int32) (a2 : Int32) (a3 : Int32) (a4 : Int64) {z : eH}, P a0 → fr P h0 h → rec_X7_goFarther h a0 a1 a2 a3 a4 = some z → fr P h0 z) : ∀ (h : eH) (v0 : Nat) (v1 : Int32) (v2 : Int32) (v3 : Int32) (v4 : Int64), P v0 → fr P h0 h → f_X7_goFarther_o_J30 L rec_X7_goFarther h v0 v1 v2 v3 v4 = some r → fr P h0 r := by
  intro h v0 v1 v2 v3 v4 p_v0 f0 hf
  unfold f_X7_goFarther_o_J30 at hf
  rcases e_or hf with hf | hf
  · exact fr_oV hf f0
  · replace hf := (e_if hf).2
    rcases e_or hf with hf | hf
    · exact fr_oV hf f0
    · rcases e_or hf with hf | hf
      · exact fr_oV hf f0
      · obtain ⟨r4, hr5, hf⟩ := e_bd hf
        rcases e_or hf with hf | hf
        · exact fr_oV hf f0
        · obtain ⟨b6, hb7, hf⟩ := e_bd hf
          have p8 := f0.1 _ _ _ p_v0 hb7
          obtain ⟨b9, hb10, hf⟩ := e_bd hf
          have p11 := f0.1 _ _ _ p_v0 hb10
          refine w_X7_goFarther_o_L76 grec_X7_goFarther ?_ e_fu _ _ _ _ _ _ _ p_v0 f0 hf
          · intro h28 f29 hf
            exact fr_oV hf f29
theorem w_X7_goFarther_o {P : Nat → Prop} {L : eL} {h0 h : eH} {rec_X7_goFarther : eH → Nat → Int32 → Int32 → Int32 → Int64 → Option eH} {v0 : Nat} {v1 : Int32} {v2 : Int32} {v3 : Int32} {v4 : Int64} {r : eH} (grec_X7_goFarther : ∀ (h : eH) (a0 : Nat) (a1 : Int32) (a2 : Int32) (a3 : Int32) (a4 : Int64) {z : eH}, P a0 → fr P h0 h → rec_X7_goFarther h a0 a1 a2 a3 a4 = some z → fr P h0 z) (p_v0 : P v0) (f0 : fr P h0 h) (hf : f_X7_goFarther_o L rec_X7_goFarther h v0 v1 v2 v3 v4 = some r) : fr P h0 r := by
  unfold f_X7_goFarther_o at hf
  replace hf := (e_if hf).2
  rcases e_or hf with hf | hf
  · obtain ⟨r1, hr2, hf⟩ := e_bd hf
    have f3 := w_X7_noteFound p_v0 f0 hr2
    exact w_X7_goFarther_o_J30 grec_X7_goFarther _ _ _ _ _ _ p_v0 f3 hf
  · rcases e_or hf with hf | hf
    · rcases e_or hf with hf | hf
      · exact w_X7_goFarther_o_J30 grec_X7_goFarther _ _ _ _ _ _ p_v0 f0 hf
      · obtain ⟨r30, hr31, hf⟩ := e_bd hf
        have f32 := w_X7_noteFound p_v0 f0 hr31
        exact w_X7_goFarther_o_J30 grec_X7_goFarther _ _ _ _ _ _ p_v0 f32 hf
    · exact w_X7_goFarther_o_J30 grec_X7_goFarther _ _ _ _ _ _ p_v0 f0 hf
theorem wg_X7_goFarther {P : Nat → Prop} {L : eL} {h0 : eH} : ∀ (n t : Nat) (h : eH) (x0 : Nat) (x1 : Int32) (x2 : Int32) (x3 : Int32) (x4 : Int64) (r : eH), P x0 → fr P h0 h → fg_X7_goFarther L n t h x0 x1 x2 x3 x4 = some r → fr P h0 r := by
  intro n
  induction n with
  | zero => intro t h x0 x1 x2 x3 x4 r p0 f0 hf; exact absurd hf (by simp [fg_X7_goFarther])
  | succ n ih =>
    intro t h x0 x1 x2 x3 x4 r p0 f0 hf
    unfold fg_X7_goFarther at hf
    exact w_X7_goFarther_o (fun hh a0 a1 a2 a3 a4 {z} pa0 ff hz => ih _ _ _ _ _ _ _ z pa0 ff hz) p0 f0 hf
theorem w_X7_goFarther {P : Nat → Prop} {L : eL} {h0 h : eH} {x0 : Nat} {x1 : Int32} {x2 : Int32} {x3 : Int32} {x4 : Int64} {r : eH} (p0 : P x0) (f0 : fr P h0 h) (hf : f_X7_goFarther L h x0 x1 x2 x3 x4 = some r) : fr P h0 r := wg_X7_goFarther 100 0 h x0 x1 x2 x3 x4 r p0 f0 hf
theorem w_X7_seek_L55 {P : Nat → Prop} {L : eL} {h0 : eH} {r : eH} {k101 : eH → Nat → Nat → Option eH} (hk101 : ∀ (h : eH) (v0 : Nat) (v2 : Nat), P v0 → P v2 → fr P h0 h → k101 h v0 v2 = some r → fr P h0 r) : ∀ (n : Nat) (h : eH) (v0 : Nat) (v2 : Nat) (v4 : Int32), P v0 → P v2 → fr P h0 h → f_X7_seek_L55 L n k101 h v0 v2 v4 = some r → fr P h0 r := by
  intro n
  induction n with
  | zero => intro h v0 v2 v4 p_v0 p_v2 f0 hf; exact absurd hf (by simp [f_X7_seek_L55])
  | succ n ih =>
    intro h v0 v2 v4 p_v0 p_v2 f0 hf
    unfold f_X7_seek_L55 at hf
    rcases e_or hf with hf | hf
    · exact hk101 _ _ _ p_v0 p_v2 f0 hf
    · replace hf := (e_if hf).2
      rcases e_or hf with hf | hf
      · exact ih _ _ _ _ p_v0 p_v2 (fr_sI f0 p_v0) hf
      · replace hf := (e_if hf).2
        obtain ⟨r7, hr8, hf⟩ := e_bd hf
        exact ih _ _ _ _ p_v0 p_v2 (fr_sI f0 p_v0) hf
theorem w_X7_seek {P : Nat → Prop} {L : eL} {h0 h : eH} {v0 : Nat} {v1 : Nat} {v2 : Nat} {v3 : Int32} {r : eH} (p_v0 : P v0) (p_v1 : P v1) (p_v2 : P v2) (f0 : fr P h0 h) (hf : f_X7_seek L h v0 v1 v2 v3 = some r) : fr P h0 r := by
  unfold f_X7_seek at hf
  replace hf := (e_if hf).2
  replace hf := (e_if hf).2
  replace hf := (e_if hf).2
  obtain ⟨h1, hh2, hf⟩ := e_bd hf
  have f3 := fr_oV hh2 (fr_sL (fr_sR (fr_sR f0 p_v0 p_v1) p_v0 p_v2) p_v0)
  obtain ⟨h4, hh5, hf⟩ := e_bd hf
  have f6 := fr_oV hh5 (fr_sI (fr_sI (fr_sI f3 p_v0) p_v0) p_v0)
  refine w_X7_seek_L55 ?_ e_fu _ _ _ _ p_v0 p_v2 (fr_sI f6 p_v0) hf
  · intro h9 w0_10 w2_11 p_w0_10 p_w2_11 f12 hf
    replace hf := (e_if hf).2
    replace hf := (e_if hf).2
    obtain ⟨r13, hr14, hf⟩ := e_bd hf
    have f15 := w_X7_goFarther p_w0_10 f12 hr14
    exact fr_oV hf f15
theorem w_X10_best_L37 {P : Nat → Prop} {L : eL} {h0 : eH} {r : eH × Int32} {k70 : eH → Nat → Option (eH × Int32)} (hk70 : ∀ (h : eH) (v0 : Nat), P v0 → fr P h0 h → k70 h v0 = some r → fr P h0 r.1) : ∀ (n : Nat) (h : eH) (v0 : Nat) (v2 : Int32), P v0 → fr P h0 h → f_X10_best_L37 L n k70 h v0 v2 = some r → fr P h0 r.1 := by
  intro n
  induction n with
  | zero => intro h v0 v2 p_v0 f0 hf; exact absurd hf (by simp [f_X10_best_L37])
  | succ n ih =>
    intro h v0 v2 p_v0 f0 hf
    unfold f_X10_best_L37 at hf
    replace hf := (e_if hf).2
    obtain ⟨b19, hb20, hf⟩ := e_bd hf
    have p21 := f0.1 _ _ _ p_v0 hb20
    replace hf := (e_if hf).2
    rcases e_or hf with hf | hf
    · exact hk70 _ _ p_v0 f0 hf
    · obtain ⟨b22, hb23, hf⟩ := e_bd hf
      have p24 := f0.1 _ _ _ p_v0 hb23
      obtain ⟨b25, hb26, hf⟩ := e_bd hf
      have p27 := f0.1 _ _ _ p_v0 hb26
      replace hf := (e_if hf).2
      obtain ⟨r28, hr29, hf⟩ := e_bd hf
      replace hf := (e_if hf).2
      obtain ⟨r30, hr31, hf⟩ := e_bd hf
      have f32 := w_X3_add p24 f0 hr31
      exact ih _ _ _ p_v0 f32 hf
theorem w_X10_best {P : Nat → Prop} {L : eL} {h0 h : eH} {v0 : Nat} {v1 : Int32} {r : eH × Int32} (p_v0 : P v0) (f0 : fr P h0 h) (hf : f_X10_best L h v0 v1 = some r) : fr P h0 r.1 := by
  unfold f_X10_best at hf
  rcases e_or hf with hf | hf
  · exact fr_oW hf f0
  · rcases e_or hf with hf | hf
    · replace hf := (e_if hf).2
      obtain ⟨b1, hb2, hf⟩ := e_bd hf
      have p3 := f0.1 _ _ _ p_v0 hb2
      obtain ⟨b4, hb5, hf⟩ := e_bd hf
      have p6 := f0.1 _ _ _ p_v0 hb5
      obtain ⟨b7, hb8, hf⟩ := e_bd hf
      have p9 := f0.1 _ _ _ p_v0 hb8
      replace hf := (e_if hf).2
      obtain ⟨r10, hr11, hf⟩ := e_bd hf
      have f12 := w_X7_seek p3 p6 p9 f0 hr11
      obtain ⟨b13, hb14, hf⟩ := e_bd hf
      have p15 := f12.1 _ _ _ p_v0 hb14
      replace hf := (e_if hf).2
      obtain ⟨r16, hr17, hf⟩ := e_bd hf
      have f18 := w_X3_begin p15 f12 hr17
      refine w_X10_best_L37 ?_ e_fu _ _ _ p_v0 f18 hf
      · intro h33 w0_34 p_w0_34 f35 hf
        replace hf := (e_if hf).2
        obtain ⟨b36, hb37, hf⟩ := e_bd hf
        have p38 := f35.1 _ _ _ p_w0_34 hb37
        replace hf := (e_if hf).2
        exact fr_oW hf f35
    · exact fr_oW hf f0
theorem w_X0_add {P : Nat → Prop} {L : eL} {h0 h : eH} {v0 : Nat} {v1 : Int32} {r : eH × Int32} (p_v0 : P v0) (f0 : fr P h0 h) (hf : f_X0_add L h v0 v1 = some r) : fr P h0 r.1 := by
  unfold f_X0_add at hf
  replace hf := (e_if hf).2
  rcases e_or hf with hf | hf
  · exact fr_oW hf f0
  · rcases e_or hf with hf | hf
    · obtain ⟨b1, hb2, hf⟩ := e_bd hf
      have p3 := f0.1 _ _ _ p_v0 hb2
      replace hf := (e_if hf).2
      obtain ⟨h4, hh5, hf⟩ := e_bd hf
      have f6 := fr_oV hh5 (fr_sI (fr_sI f0 p3) p_v0)
      exact fr_oW hf f6
    · exact fr_oW hf f0
theorem w_X0_goOnAll_L3 {P : Nat → Prop} {L : eL} {h0 : eH} {r : eH} {k37 : eH → Option eH} (hk37 : ∀ (h : eH), fr P h0 h → k37 h = some r → fr P h0 r) : ∀ (n : Nat) (h : eH) (v0 : Nat) (v1 : Nat) (v2 : Int64) (v4 : Int32), P v0 → P v1 → fr P h0 h → f_X0_goOnAll_L3 L n k37 h v0 v1 v2 v4 = some r → fr P h0 r := by
  intro n
  induction n with
  | zero => intro h v0 v1 v2 v4 p_v0 p_v1 f0 hf; exact absurd hf (by simp [f_X0_goOnAll_L3])
  | succ n ih =>
    intro h v0 v1 v2 v4 p_v0 p_v1 f0 hf
    unfold f_X0_goOnAll_L3 at hf
    rcases e_or hf with hf | hf
    · exact hk37 _ f0 hf
    · replace hf := (e_if hf).2
      obtain ⟨b1, hb2, hf⟩ := e_bd hf
      have p3 := f0.1 _ _ _ p_v0 hb2
      obtain ⟨b4, hb5, hf⟩ := e_bd hf
      have p6 := f0.1 _ _ _ p_v0 hb5
      replace hf := (e_if hf).2
      replace hf := (e_if hf).2
      obtain ⟨r7, hr8, hf⟩ := e_bd hf
      replace hf := (e_if hf).2
      exact ih _ _ _ _ _ p_v0 p_v1 (fr_sL f0 p3) hf
theorem w_X0_goOnAll {P : Nat → Prop} {L : eL} {h0 h : eH} {v0 : Nat} {v1 : Nat} {v2 : Int64} {r : eH} (p_v0 : P v0) (p_v1 : P v1) (f0 : fr P h0 h) (hf : f_X0_goOnAll L h v0 v1 v2 = some r) : fr P h0 r := by
  unfold f_X0_goOnAll at hf
  refine w_X0_goOnAll_L3 ?_ e_fu _ _ _ _ _ p_v0 p_v1 f0 hf
  · intro h9 f10 hf
    exact fr_oV hf f10
theorem w_X0_strikeAll_L3 {P : Nat → Prop} {L : eL} {h0 : eH} {r : eH} {k36 : eH → Option eH} (hk36 : ∀ (h : eH), fr P h0 h → k36 h = some r → fr P h0 r) : ∀ (n : Nat) (h : eH) (v0 : Nat) (v1 : Nat) (v2 : Int64) (v4 : Int32), P v0 → P v1 → fr P h0 h → f_X0_strikeAll_L3 L n k36 h v0 v1 v2 v4 = some r → fr P h0 r := by
  intro n
  induction n with
  | zero => intro h v0 v1 v2 v4 p_v0 p_v1 f0 hf; exact absurd hf (by simp [f_X0_strikeAll_L3])
  | succ n ih =>
    intro h v0 v1 v2 v4 p_v0 p_v1 f0 hf
    unfold f_X0_strikeAll_L3 at hf
    rcases e_or hf with hf | hf
    · exact hk36 _ f0 hf
    · replace hf := (e_if hf).2
      obtain ⟨b1, hb2, hf⟩ := e_bd hf
      have p3 := f0.1 _ _ _ p_v0 hb2
      replace hf := (e_if hf).2
      obtain ⟨r4, hr5, hf⟩ := e_bd hf
      obtain ⟨h6, hh7, hf⟩ := e_bd hf
      have f8 := fr_oV hh7 (fr_sL f0 p3)
      exact ih _ _ _ _ _ p_v0 p_v1 f8 hf
theorem w_X0_strikeAll {P : Nat → Prop} {L : eL} {h0 h : eH} {v0 : Nat} {v1 : Nat} {v2 : Int64} {r : eH} (p_v0 : P v0) (p_v1 : P v1) (f0 : fr P h0 h) (hf : f_X0_strikeAll L h v0 v1 v2 = some r) : fr P h0 r := by
  unfold f_X0_strikeAll at hf
  refine w_X0_strikeAll_L3 ?_ e_fu _ _ _ _ _ p_v0 p_v1 f0 hf
  · intro h9 f10 hf
    exact fr_oV hf f10
theorem w_X0_swingAll_L2 {P : Nat → Prop} {L : eL} {h0 : eH} {r : eH} {k63 : eH → Option eH} (hk63 : ∀ (h : eH), fr P h0 h → k63 h = some r → fr P h0 r) : ∀ (n : Nat) (h : eH) (v0 : Nat) (v1 : Int32) (v2 : Int32), P v0 → fr P h0 h → f_X0_swingAll_L2 L n k63 h v0 v1 v2 = some r → fr P h0 r := by
  intro n
  induction n with
  | zero => intro h v0 v1 v2 p_v0 f0 hf; exact absurd hf (by simp [f_X0_swingAll_L2])
  | succ n ih =>
    intro h v0 v1 v2 p_v0 f0 hf
    unfold f_X0_swingAll_L2 at hf
    rcases e_or hf with hf | hf
    · exact hk63 _ f0 hf
    · replace hf := (e_if hf).2
      obtain ⟨b1, hb2, hf⟩ := e_bd hf
      have p3 := f0.1 _ _ _ p_v0 hb2
      replace hf := (e_if hf).2
      obtain ⟨b4, hb5, hf⟩ := e_bd hf
      have p6 := f0.1 _ _ _ p_v0 hb5
      obtain ⟨b7, hb8, hf⟩ := e_bd hf
      have p9 := f0.1 _ _ _ p_v0 hb8
      replace hf := (e_if hf).2
      replace hf := (e_if hf).2
      obtain ⟨h10, hh11, hf⟩ := e_bd hf
      have f12 := fr_oV hh11 (fr_sL f0 p6)
      obtain ⟨b13, hb14, hf⟩ := e_bd hf
      have p15 := f12.1 _ _ _ p_v0 hb14
      obtain ⟨b16, hb17, hf⟩ := e_bd hf
      have p18 := f12.1 _ _ _ p_v0 hb17
      replace hf := (e_if hf).2
      replace hf := (e_if hf).2
      obtain ⟨h19, hh20, hf⟩ := e_bd hf
      have f21 := fr_oV hh20 (fr_sL f12 p15)
      obtain ⟨b22, hb23, hf⟩ := e_bd hf
      have p24 := f21.1 _ _ _ p_v0 hb23
      obtain ⟨b25, hb26, hf⟩ := e_bd hf
      have p27 := f21.1 _ _ _ p_v0 hb26
      replace hf := (e_if hf).2
      replace hf := (e_if hf).2
      obtain ⟨h28, hh29, hf⟩ := e_bd hf
      have f30 := fr_oV hh29 (fr_sL f21 p24)
      obtain ⟨b31, hb32, hf⟩ := e_bd hf
      have p33 := f30.1 _ _ _ p_v0 hb32
      replace hf := (e_if hf).2
      obtain ⟨h34, hh35, hf⟩ := e_bd hf
      have f36 := fr_oV hh35 (fr_sL f30 p33)
      exact ih _ _ _ _ p_v0 f36 hf
theorem w_X0_swingAll {P : Nat → Prop} {L : eL} {h0 h : eH} {v0 : Nat} {v1 : Int32} {r : eH} (p_v0 : P v0) (f0 : fr P h0 h) (hf : f_X0_swingAll L h v0 v1 = some r) : fr P h0 r := by
  unfold f_X0_swingAll at hf
  refine w_X0_swingAll_L2 ?_ e_fu _ _ _ _ p_v0 f0 hf
  · intro h37 f38 hf
    exact fr_oV hf f38
theorem w_X0_find_L11 {P : Nat → Prop} {L : eL} {h0 : eH} {r : eH} {k83 : eH → Option eH} (hk83 : ∀ (h : eH), fr P h0 h → k83 h = some r → fr P h0 r) : ∀ (n : Nat) (h : eH) (v0 : Nat) (v1 : Nat) (v2 : Int64) (v4 : Int32), P v0 → P v1 → fr P h0 h → f_X0_find_L11 L n k83 h v0 v1 v2 v4 = some r → fr P h0 r := by
  intro n
  induction n with
  | zero => intro h v0 v1 v2 v4 p_v0 p_v1 f0 hf; exact absurd hf (by simp [f_X0_find_L11])
  | succ n ih =>
    intro h v0 v1 v2 v4 p_v0 p_v1 f0 hf
    unfold f_X0_find_L11 at hf
    replace hf := (e_if hf).2
    rcases e_or hf with hf | hf
    · exact hk83 _ f0 hf
    · rcases e_or hf with hf | hf
      · exact hk83 _ f0 hf
      · obtain ⟨b7, hb8, hf⟩ := e_bd hf
        have p9 := f0.1 _ _ _ p_v0 hb8
        replace hf := (e_if hf).2
        rcases e_or hf with hf | hf
        · obtain ⟨r22, hr23, hf⟩ := e_bd hf
          have f24 := w_X0_goOnAll p_v0 p_v1 f0 hr23
          exact ih _ _ _ _ _ p_v0 p_v1 f24 hf
        · obtain ⟨b10, hb11, hf⟩ := e_bd hf
          have p12 := f0.1 _ _ _ p_v0 hb11
          replace hf := (e_if hf).2
          rcases e_or hf with hf | hf
          · obtain ⟨r19, hr20, hf⟩ := e_bd hf
            have f21 := w_X0_strikeAll p_v0 p_v1 f0 hr20
            exact ih _ _ _ _ _ p_v0 p_v1 f21 hf
          · obtain ⟨b13, hb14, hf⟩ := e_bd hf
            have p15 := f0.1 _ _ _ p_v0 hb14
            replace hf := (e_if hf).2
            obtain ⟨r16, hr17, hf⟩ := e_bd hf
            have f18 := w_X0_swingAll p_v0 f0 hr17
            exact ih _ _ _ _ _ p_v0 p_v1 f18 hf
theorem w_X0_find {P : Nat → Prop} {L : eL} {h0 h : eH} {v0 : Nat} {v1 : Nat} {v2 : Int64} {r : eH} (p_v0 : P v0) (p_v1 : P v1) (f0 : fr P h0 h) (hf : f_X0_find L h v0 v1 v2 = some r) : fr P h0 r := by
  unfold f_X0_find at hf
  replace hf := (e_if hf).2
  obtain ⟨b1, hb2, hf⟩ := e_bd hf
  have p3 := f0.1 _ _ _ p_v0 hb2
  obtain ⟨r4, hr5, hf⟩ := e_bd hf
  have f6 := w_J7_fill_d0a16 p3 f0 hr5
  refine w_X0_find_L11 ?_ e_fu _ _ _ _ _ p_v0 p_v1 f6 hf
  · intro h25 f26 hf
    exact fr_oV hf f26
theorem w_X10_heardOf {P : Nat → Prop} {L : eL} {h0 h : eH} {v0 : Nat} {v1 : Int32} {r : eH × Int32} (p_v0 : P v0) (f0 : fr P h0 h) (hf : f_X10_heardOf L h v0 v1 = some r) : fr P h0 r.1 := by
  unfold f_X10_heardOf at hf
  replace hf := (e_if hf).2
  obtain ⟨b1, hb2, hf⟩ := e_bd hf
  have p3 := f0.1 _ _ _ p_v0 hb2
  replace hf := (e_if hf).2
  obtain ⟨r4, hr5, hf⟩ := e_bd hf
  have f6 := w_X0_add p3 f0 hr5
  rcases e_or hf with hf | hf
  · exact fr_oW hf f6
  · obtain ⟨b7, hb8, hf⟩ := e_bd hf
    have p9 := f6.1 _ _ _ p_v0 hb8
    obtain ⟨b10, hb11, hf⟩ := e_bd hf
    have p12 := f6.1 _ _ _ p_v0 hb11
    obtain ⟨r13, hr14, hf⟩ := e_bd hf
    replace hf := (e_if hf).2
    obtain ⟨r15, hr16, hf⟩ := e_bd hf
    have f17 := w_X0_find p9 p12 f6 hr16
    obtain ⟨b18, hb19, hf⟩ := e_bd hf
    have p20 := f17.1 _ _ _ p_v0 hb19
    replace hf := (e_if hf).2
    obtain ⟨r21, hr22, hf⟩ := e_bd hf
    exact fr_oW hf f17
theorem w_X10_felt_J11 {P : Nat → Prop} {L : eL} {h0 : eH} {r : eH × Int32}  : ∀ (h : eH) (v0 : Nat) (v1 : Int32), P v0 → fr P h0 h → f_X10_felt_J11 L h v0 v1 = some r → fr P h0 r.1 := by
  intro h v0 v1 p_v0 f0 hf
  unfold f_X10_felt_J11 at hf
  rcases e_or hf with hf | hf
  · replace hf := (e_if hf).2
    obtain ⟨r4, hr5, hf⟩ := e_bd hf
    have f6 := w_X10_heardOf p_v0 f0 hr5
    exact fr_oW hf f6
  · replace hf := (e_if hf).2
    obtain ⟨r1, hr2, hf⟩ := e_bd hf
    have f3 := w_X10_heardOf p_v0 f0 hr2
    exact fr_oW hf f3
theorem w_X10_felt {P : Nat → Prop} {L : eL} {h0 h : eH} {v0 : Nat} {v1 : Int32} {r : eH × Int32} (p_v0 : P v0) (f0 : fr P h0 h) (hf : f_X10_felt L h v0 v1 = some r) : fr P h0 r.1 := by
  unfold f_X10_felt at hf
  rcases e_or hf with hf | hf
  · exact w_X10_felt_J11 _ _ _ p_v0 f0 hf
  · rcases e_or hf with hf | hf
    · exact w_X10_felt_J11 _ _ _ p_v0 f0 hf
    · exact fr_oW hf f0
theorem w_X10_swung {P : Nat → Prop} {L : eL} {h0 h : eH} {v0 : Nat} {v1 : Int32} {r : eH × Int32} (p_v0 : P v0) (f0 : fr P h0 h) (hf : f_X10_swung L h v0 v1 = some r) : fr P h0 r.1 := by
  unfold f_X10_swung at hf
  rcases e_or hf with hf | hf
  · exact fr_oW hf f0
  · rcases e_or hf with hf | hf
    · replace hf := (e_if hf).2
      obtain ⟨r1, hr2, hf⟩ := e_bd hf
      have f3 := w_X10_heardOf p_v0 f0 hr2
      exact fr_oW hf f3
    · exact fr_oW hf f0
theorem w_X10_forget {P : Nat → Prop} {L : eL} {h0 h : eH} {v0 : Nat} {r : eH × Int32} (p_v0 : P v0) (f0 : fr P h0 h) (hf : f_X10_forget L h v0 = some r) : fr P h0 r.1 := by
  unfold f_X10_forget at hf
  replace hf := (e_if hf).2
  obtain ⟨b1, hb2, hf⟩ := e_bd hf
  have p3 := f0.1 _ _ _ p_v0 hb2
  replace hf := (e_if hf).2
  obtain ⟨r4, hr5, hf⟩ := e_bd hf
  obtain ⟨b6, hb7, hf⟩ := e_bd hf
  have p8 := f0.1 _ _ _ p_v0 hb7
  replace hf := (e_if hf).2
  obtain ⟨r9, hr10, hf⟩ := e_bd hf
  have f11 := w_X0_clear p8 f0 hr10
  exact fr_oW hf f11
theorem w_X10_held {P : Nat → Prop} {L : eL} {h0 h : eH} {v0 : Nat} {r : eH × Int32} (p_v0 : P v0) (f0 : fr P h0 h) (hf : f_X10_held L h v0 = some r) : fr P h0 r.1 := by
  unfold f_X10_held at hf
  replace hf := (e_if hf).2
  obtain ⟨b1, hb2, hf⟩ := e_bd hf
  have p3 := f0.1 _ _ _ p_v0 hb2
  obtain ⟨b4, hb5, hf⟩ := e_bd hf
  have p6 := f0.1 _ _ _ p_v0 hb5
  obtain ⟨r7, hr8, hf⟩ := e_bd hf
  replace hf := (e_if hf).2
  obtain ⟨r9, hr10, hf⟩ := e_bd hf
  have f11 := w_X0_find p3 p6 f0 hr10
  obtain ⟨b12, hb13, hf⟩ := e_bd hf
  have p14 := f11.1 _ _ _ p_v0 hb13
  replace hf := (e_if hf).2
  obtain ⟨r15, hr16, hf⟩ := e_bd hf
  have f17 := w_X3_begin p14 f11 hr16
  obtain ⟨b18, hb19, hf⟩ := e_bd hf
  have p20 := f17.1 _ _ _ p_v0 hb19
  obtain ⟨b21, hb22, hf⟩ := e_bd hf
  have p23 := f17.1 _ _ _ p_v0 hb22
  replace hf := (e_if hf).2
  obtain ⟨r24, hr25, hf⟩ := e_bd hf
  replace hf := (e_if hf).2
  obtain ⟨r26, hr27, hf⟩ := e_bd hf
  have f28 := w_X3_add p20 f17 hr27
  obtain ⟨b29, hb30, hf⟩ := e_bd hf
  have p31 := f28.1 _ _ _ p_v0 hb30
  obtain ⟨b32, hb33, hf⟩ := e_bd hf
  have p34 := f28.1 _ _ _ p_v0 hb33
  replace hf := (e_if hf).2
  obtain ⟨r35, hr36, hf⟩ := e_bd hf
  replace hf := (e_if hf).2
  obtain ⟨r37, hr38, hf⟩ := e_bd hf
  have f39 := w_X3_add p31 f28 hr38
  obtain ⟨b40, hb41, hf⟩ := e_bd hf
  have p42 := f39.1 _ _ _ p_v0 hb41
  replace hf := (e_if hf).2
  obtain ⟨r43, hr44, hf⟩ := e_bd hf
  exact fr_oW hf f39
theorem w_X10_feel_L43 {P : Nat → Prop} {L : eL} {h0 : eH} {r : eH × Int32} {k97 : eH → Nat → Int32 → Int32 → Option (eH × Int32)} (hk97 : ∀ (h : eH) (v0 : Nat) (v4 : Int32) (v5 : Int32), P v0 → fr P h0 h → k97 h v0 v4 v5 = some r → fr P h0 r.1) : ∀ (n : Nat) (h : eH) (v0 : Nat) (v1 : Int64) (v3 : Int32) (v4 : Int32) (v5 : Int32) (v6 : Int32), P v0 → fr P h0 h → f_X10_feel_L43 L n k97 h v0 v1 v3 v4 v5 v6 = some r → fr P h0 r.1 := by
  intro n
  induction n with
  | zero => intro h v0 v1 v3 v4 v5 v6 p_v0 f0 hf; exact absurd hf (by simp [f_X10_feel_L43])
  | succ n ih =>
    intro h v0 v1 v3 v4 v5 v6 p_v0 f0 hf
    unfold f_X10_feel_L43 at hf
    rcases e_or hf with hf | hf
    · exact hk97 _ _ _ _ p_v0 f0 hf
    · replace hf := (e_if hf).2
      obtain ⟨b17, hb18, hf⟩ := e_bd hf
      have p19 := f0.1 _ _ _ p_v0 hb18
      obtain ⟨b20, hb21, hf⟩ := e_bd hf
      have p22 := f0.1 _ _ _ p_v0 hb21
      replace hf := (e_if hf).2
      obtain ⟨r23, hr24, hf⟩ := e_bd hf
      rcases e_or hf with hf | hf
      · exact ih _ _ _ _ _ _ _ p_v0 f0 hf
      · exact ih _ _ _ _ _ _ _ p_v0 f0 hf
theorem w_X10_feel {P : Nat → Prop} {L : eL} {h0 h : eH} {v0 : Nat} {r : eH × Int32} (p_v0 : P v0) (f0 : fr P h0 h) (hf : f_X10_feel L h v0 = some r) : fr P h0 r.1 := by
  unfold f_X10_feel at hf
  replace hf := (e_if hf).2
  obtain ⟨r1, hr2, hf⟩ := e_bd hf
  obtain ⟨b3, hb4, hf⟩ := e_bd hf
  have p5 := f0.1 _ _ _ p_v0 hb4
  obtain ⟨b6, hb7, hf⟩ := e_bd hf
  have p8 := f0.1 _ _ _ p_v0 hb7
  replace hf := (e_if hf).2
  obtain ⟨r9, hr10, hf⟩ := e_bd hf
  have f11 := w_X0_find p5 p8 f0 hr10
  obtain ⟨b12, hb13, hf⟩ := e_bd hf
  have p14 := f11.1 _ _ _ p_v0 hb13
  replace hf := (e_if hf).2
  obtain ⟨r15, hr16, hf⟩ := e_bd hf
  rcases e_or hf with hf | hf
  · exact fr_oW hf f11
  · refine w_X10_feel_L43 ?_ e_fu _ _ _ _ _ _ _ p_v0 f11 hf
    · intro h25 w0_26 w4_27 w5_28 p_w0_26 f29 hf
      replace hf := (e_if hf).2
      obtain ⟨b30, hb31, hf⟩ := e_bd hf
      have p32 := f29.1 _ _ _ p_w0_26 hb31
      replace hf := (e_if hf).2
      obtain ⟨r33, hr34, hf⟩ := e_bd hf
      have f35 := w_X3_begin p32 f29 hr34
      obtain ⟨b36, hb37, hf⟩ := e_bd hf
      have p38 := f35.1 _ _ _ p_w0_26 hb37
      replace hf := (e_if hf).2
      obtain ⟨r39, hr40, hf⟩ := e_bd hf
      have f41 := w_X3_add p38 f35 hr40
      exact fr_oW hf f41
theorem w_X10_stray_J78 {P : Nat → Prop} {L : eL} {h0 : eH} {r : eH} {k38 : eH → Nat → Int64 → Int32 → Int32 → Option eH} {k102 : eH → Nat → Int64 → Int32 → Option eH} (hk38 : ∀ (h : eH) (v0 : Nat) (v1 : Int64) (v3 : Int32) (v4 : Int32), P v0 → fr P h0 h → k38 h v0 v1 v3 v4 = some r → fr P h0 r) (hk102 : ∀ (h : eH) (v0 : Nat) (v1 : Int64) (v3 : Int32), P v0 → fr P h0 h → k102 h v0 v1 v3 = some r → fr P h0 r) : ∀ (h : eH) (v0 : Nat) (v1 : Int64) (v3 : Int32) (v4 : Int32) (s0 : Int32), P v0 → fr P h0 h → f_X10_stray_J78 L k38 k102 h v0 v1 v3 v4 s0 = some r → fr P h0 r := by
  intro h v0 v1 v3 v4 s0 p_v0 f0 hf
  unfold f_X10_stray_J78 at hf
  replace hf := (e_if hf).2
  obtain ⟨b17, hb18, hf⟩ := e_bd hf
  have p19 := f0.1 _ _ _ p_v0 hb18
  replace hf := (e_if hf).2
  obtain ⟨b20, hb21, hf⟩ := e_bd hf
  have p22 := f0.1 _ _ _ p_v0 hb21
  replace hf := (e_if hf).2
  obtain ⟨h23, hh24, hf⟩ := e_bd hf
  have f25 := fr_oV hh24 (fr_sL f0 p19)
  exact hk38 _ _ _ _ _ p_v0 f25 hf
theorem w_X10_stray_L38 {P : Nat → Prop} {L : eL} {h0 : eH} {r : eH} {k102 : eH → Nat → Int64 → Int32 → Option eH} (hk102 : ∀ (h : eH) (v0 : Nat) (v1 : Int64) (v3 : Int32), P v0 → fr P h0 h → k102 h v0 v1 v3 = some r → fr P h0 r) : ∀ (n : Nat) (h : eH) (v0 : Nat) (v1 : Int64) (v3 : Int32) (v4 : Int32), P v0 → fr P h0 h → f_X10_stray_L38 L n k102 h v0 v1 v3 v4 = some r → fr P h0 r := by
  intro n
  induction n with
  | zero => intro h v0 v1 v3 v4 p_v0 f0 hf; exact absurd hf (by simp [f_X10_stray_L38])
  | succ n ih =>
    intro h v0 v1 v3 v4 p_v0 f0 hf
    unfold f_X10_stray_L38 at hf
    rcases e_or hf with hf | hf
    · exact hk102 _ _ _ _ p_v0 f0 hf
    · replace hf := (e_if hf).2
      obtain ⟨b12, hb13, hf⟩ := e_bd hf
      have p14 := f0.1 _ _ _ p_v0 hb13
      replace hf := (e_if hf).2
      obtain ⟨r15, hr16, hf⟩ := e_bd hf
      rcases e_or hf with hf | hf
      · exact w_X10_stray_J78 ih hk102 _ _ _ _ _ _ p_v0 f0 hf
      · rcases e_or hf with hf | hf
        · exact w_X10_stray_J78 ih hk102 _ _ _ _ _ _ p_v0 f0 hf
        · exact w_X10_stray_J78 ih hk102 _ _ _ _ _ _ p_v0 f0 hf
theorem w_X10_stray_L15 {P : Nat → Prop} {L : eL} {h0 : eH} {r : eH} {k108 : eH → Nat → Option eH} (hk108 : ∀ (h : eH) (v0 : Nat), P v0 → fr P h0 h → k108 h v0 = some r → fr P h0 r) : ∀ (n : Nat) (h : eH) (v0 : Nat) (v1 : Int64) (v3 : Int32), P v0 → fr P h0 h → f_X10_stray_L15 L n k108 h v0 v1 v3 = some r → fr P h0 r := by
  intro n
  induction n with
  | zero => intro h v0 v1 v3 p_v0 f0 hf; exact absurd hf (by simp [f_X10_stray_L15])
  | succ n ih =>
    intro h v0 v1 v3 p_v0 f0 hf
    unfold f_X10_stray_L15 at hf
    rcases e_or hf with hf | hf
    · exact hk108 _ _ p_v0 f0 hf
    · replace hf := (e_if hf).2
      obtain ⟨b9, hb10, hf⟩ := e_bd hf
      have p11 := f0.1 _ _ _ p_v0 hb10
      replace hf := (e_if hf).2
      rcases e_or hf with hf | hf
      · exact ih _ _ _ _ p_v0 f0 hf
      · refine w_X10_stray_L38 ?_ e_fu _ _ _ _ _ p_v0 f0 hf
        · intro h26 w0_27 w1_28 w3_29 p_w0_27 f30 hf
          exact ih _ _ _ _ p_w0_27 f30 hf
theorem w_X10_stray {P : Nat → Prop} {L : eL} {h0 h : eH} {v0 : Nat} {r : eH} (p_v0 : P v0) (f0 : fr P h0 h) (hf : f_X10_stray L h v0 = some r) : fr P h0 r := by
  unfold f_X10_stray at hf
  replace hf := (e_if hf).2
  obtain ⟨r1, hr2, hf⟩ := e_bd hf
  obtain ⟨b3, hb4, hf⟩ := e_bd hf
  have p5 := f0.1 _ _ _ p_v0 hb4
  obtain ⟨r6, hr7, hf⟩ := e_bd hf
  have f8 := w_J7_fill_d0a16 p5 f0 hr7
  refine w_X10_stray_L15 ?_ e_fu _ _ _ _ p_v0 f8 hf
  · intro h31 w0_32 p_w0_32 f33 hf
    replace hf := (e_if hf).2
    obtain ⟨b34, hb35, hf⟩ := e_bd hf
    have p36 := f33.1 _ _ _ p_w0_32 hb35
    obtain ⟨b37, hb38, hf⟩ := e_bd hf
    have p39 := f33.1 _ _ _ p_w0_32 hb38
    replace hf := (e_if hf).2
    exact fr_oV hf (fr_cpL f33 p39)
theorem w_X10_tellFraction_L9 {P : Nat → Prop} {L : eL} {h0 : eH} {r : eH} {k45 : eH → Nat → Int64 → Int64 → Int64 → Option eH} (hk45 : ∀ (h : eH) (v0 : Nat) (v1 : Int64) (v3 : Int64) (v5 : Int64), P v0 → fr P h0 h → k45 h v0 v1 v3 v5 = some r → fr P h0 r) : ∀ (n : Nat) (h : eH) (v0 : Nat) (v1 : Int64) (v3 : Int64) (v5 : Int64) (v7 : Int64) (v9 : Int32), P v0 → fr P h0 h → f_X10_tellFraction_L9 L n k45 h v0 v1 v3 v5 v7 v9 = some r → fr P h0 r := by
  intro n
  induction n with
  | zero => intro h v0 v1 v3 v5 v7 v9 p_v0 f0 hf; exact absurd hf (by simp [f_X10_tellFraction_L9])
  | succ n ih =>
    intro h v0 v1 v3 v5 v7 v9 p_v0 f0 hf
    unfold f_X10_tellFraction_L9 at hf
    rcases e_or hf with hf | hf
    · exact hk45 _ _ _ _ _ p_v0 f0 hf
    · rcases e_or hf with hf | hf
      · exact hk45 _ _ _ _ _ p_v0 f0 hf
      · replace hf := (e_ifp hf).2
        exact ih _ _ _ _ _ _ _ p_v0 f0 hf
theorem w_X10_tellFraction_J58 {P : Nat → Prop} {L : eL} {h0 : eH} {r : eH}  : ∀ (h : eH) (v0 : Nat) (v1 : Int64) (v3 : Int64) (s0 : Int64), P v0 → fr P h0 h → f_X10_tellFraction_J58 L h v0 v1 v3 s0 = some r → fr P h0 r := by
  intro h v0 v1 v3 s0 p_v0 f0 hf
  unfold f_X10_tellFraction_J58 at hf
  replace hf := (e_if hf).2
  obtain ⟨b7, hb8, hf⟩ := e_bd hf
  have p9 := f0.1 _ _ _ p_v0 hb8
  replace hf := (e_if hf).2
  obtain ⟨r10, hr11, hf⟩ := e_bd hf
  have f12 := w_X3_begin p9 f0 hr11
  obtain ⟨b13, hb14, hf⟩ := e_bd hf
  have p15 := f12.1 _ _ _ p_v0 hb14
  replace hf := (e_ifp hf).2
  replace hf := (e_if hf).2
  obtain ⟨r16, hr17, hf⟩ := e_bd hf
  have f18 := w_X3_add p15 f12 hr17
  obtain ⟨b19, hb20, hf⟩ := e_bd hf
  have p21 := f18.1 _ _ _ p_v0 hb20
  replace hf := (e_ifp hf).2
  replace hf := (e_if hf).2
  obtain ⟨r22, hr23, hf⟩ := e_bd hf
  have f24 := w_X3_add p21 f18 hr23
  exact fr_oV hf f24
theorem w_X10_tellFraction {P : Nat → Prop} {L : eL} {h0 h : eH} {v0 : Nat} {v1 : Int64} {v3 : Int64} {r : eH} (p_v0 : P v0) (f0 : fr P h0 h) (hf : f_X10_tellFraction L h v0 v1 v3 = some r) : fr P h0 r := by
  unfold f_X10_tellFraction at hf
  refine w_X10_tellFraction_L9 ?_ e_fu _ _ _ _ _ _ _ p_v0 f0 hf
  · intro h1 w0_2 w1_3 w3_4 w5_5 p_w0_2 f6 hf
    rcases e_or hf with hf | hf
    · exact w_X10_tellFraction_J58 _ _ _ _ _ p_w0_2 f6 hf
    · exact w_X10_tellFraction_J58 _ _ _ _ _ p_w0_2 f6 hf
theorem w_X10_likely_L71 {P : Nat → Prop} {L : eL} {h0 : eH} {r : eH × Int32} {k93 : eH → Nat → Int32 → Int64 → Option (eH × Int32)} (hk93 : ∀ (h : eH) (v0 : Nat) (v2 : Int32) (v3 : Int64), P v0 → fr P h0 h → k93 h v0 v2 v3 = some r → fr P h0 r.1) : ∀ (n : Nat) (h : eH) (v0 : Nat) (v1 : Int32) (v2 : Int32) (v3 : Int64) (v5 : Int32), P v0 → fr P h0 h → f_X10_likely_L71 L n k93 h v0 v1 v2 v3 v5 = some r → fr P h0 r.1 := by
  intro n
  induction n with
  | zero => intro h v0 v1 v2 v3 v5 p_v0 f0 hf; exact absurd hf (by simp [f_X10_likely_L71])
  | succ n ih =>
    intro h v0 v1 v2 v3 v5 p_v0 f0 hf
    unfold f_X10_likely_L71 at hf
    rcases e_or hf with hf | hf
    · exact hk93 _ _ _ _ p_v0 f0 hf
    · replace hf := (e_if hf).2
      obtain ⟨r15, hr16, hf⟩ := e_bd hf
      have f17 := w_X10_stray p_v0 f0 hr16
      exact ih _ _ _ _ _ _ p_v0 f17 hf
theorem w_X10_likely {P : Nat → Prop} {L : eL} {h0 h : eH} {v0 : Nat} {v1 : Int32} {v2 : Int32} {r : eH × Int32} (p_v0 : P v0) (f0 : fr P h0 h) (hf : f_X10_likely L h v0 v1 v2 = some r) : fr P h0 r.1 := by
  unfold f_X10_likely at hf
  rcases e_or hf with hf | hf
  · exact fr_oW hf f0
  · rcases e_or hf with hf | hf
    · exact fr_oW hf f0
    · replace hf := (e_if hf).2
      obtain ⟨b1, hb2, hf⟩ := e_bd hf
      have p3 := f0.1 _ _ _ p_v0 hb2
      replace hf := (e_if hf).2
      obtain ⟨r4, hr5, hf⟩ := e_bd hf
      rcases e_or hf with hf | hf
      · exact fr_oW hf f0
      · obtain ⟨b6, hb7, hf⟩ := e_bd hf
        have p8 := f0.1 _ _ _ p_v0 hb7
        obtain ⟨r9, hr10, hf⟩ := e_bd hf
        have f11 := w_J7_fill_d0a16 p8 f0 hr10
        obtain ⟨b12, hb13, hf⟩ := e_bd hf
        have p14 := f11.1 _ _ _ p_v0 hb13
        replace hf := (e_if hf).2
        rcases e_or hf with hf | hf
        · refine w_X10_likely_L71 ?_ e_fu _ _ _ _ _ _ p_v0 f11 hf
          · intro h18 w0_19 w2_20 w3_21 p_w0_19 f22 hf
            replace hf := (e_if hf).2
            obtain ⟨b23, hb24, hf⟩ := e_bd hf
            have p25 := f22.1 _ _ _ p_w0_19 hb24
            replace hf := (e_if hf).2
            obtain ⟨r26, hr27, hf⟩ := e_bd hf
            have f28 := w_X10_tellFraction p_w0_19 f22 hr27
            exact fr_oW hf f28
        · obtain ⟨b29, hb30, hf⟩ := e_bd hf
          have p31 := f11.1 _ _ _ p_v0 hb30
          replace hf := (e_if hf).2
          rcases e_or hf with hf | hf
          · refine w_X10_likely_L71 ?_ e_fu _ _ _ _ _ _ p_v0 f11 hf
            · intro h32 w0_33 w2_34 w3_35 p_w0_33 f36 hf
              replace hf := (e_if hf).2
              obtain ⟨b37, hb38, hf⟩ := e_bd hf
              have p39 := f36.1 _ _ _ p_w0_33 hb38
              replace hf := (e_if hf).2
              obtain ⟨r40, hr41, hf⟩ := e_bd hf
              have f42 := w_X10_tellFraction p_w0_33 f36 hr41
              exact fr_oW hf f42
          · obtain ⟨b43, hb44, hf⟩ := e_bd hf
            have p45 := f11.1 _ _ _ p_v0 hb44
            obtain ⟨b46, hb47, hf⟩ := e_bd hf
            have p48 := f11.1 _ _ _ p_v0 hb47
            replace hf := (e_if hf).2
            replace hf := (e_if hf).2
            refine w_X10_likely_L71 ?_ e_fu _ _ _ _ _ _ p_v0 (fr_sL f11 p45) hf
            · intro h49 w0_50 w2_51 w3_52 p_w0_50 f53 hf
              replace hf := (e_if hf).2
              obtain ⟨b54, hb55, hf⟩ := e_bd hf
              have p56 := f53.1 _ _ _ p_w0_50 hb55
              replace hf := (e_if hf).2
              obtain ⟨r57, hr58, hf⟩ := e_bd hf
              have f59 := w_X10_tellFraction p_w0_50 f53 hr58
              exact fr_oW hf f59
theorem w_X10_week_L31 {P : Nat → Prop} {L : eL} {h0 : eH} {r : eH × Int32} {k84 : eH → Nat → Int32 → Int32 → Option (eH × Int32)} (hk84 : ∀ (h : eH) (v0 : Nat) (v3 : Int32) (v4 : Int32), P v0 → fr P h0 h → k84 h v0 v3 v4 = some r → fr P h0 r.1) : ∀ (n : Nat) (h : eH) (v0 : Nat) (v1 : Int32) (v2 : Int32) (v3 : Int32) (v4 : Int32) (v5 : Int32), P v0 → fr P h0 h → f_X10_week_L31 L n k84 h v0 v1 v2 v3 v4 v5 = some r → fr P h0 r.1 := by
  intro n
  induction n with
  | zero => intro h v0 v1 v2 v3 v4 v5 p_v0 f0 hf; exact absurd hf (by simp [f_X10_week_L31])
  | succ n ih =>
    intro h v0 v1 v2 v3 v4 v5 p_v0 f0 hf
    unfold f_X10_week_L31 at hf
    rcases e_or hf with hf | hf
    · exact hk84 _ _ _ _ p_v0 f0 hf
    · rcases e_or hf with hf | hf
      · obtain ⟨r1, hr2, hf⟩ := e_bd hf
        rcases e_or hf with hf | hf
        · exact ih _ _ _ _ _ _ _ p_v0 f0 hf
        · rcases e_or hf with hf | hf
          · exact ih _ _ _ _ _ _ _ p_v0 f0 hf
          · exact ih _ _ _ _ _ _ _ p_v0 f0 hf
      · exact ih _ _ _ _ _ _ _ p_v0 f0 hf
theorem w_X10_week {P : Nat → Prop} {L : eL} {h0 h : eH} {v0 : Nat} {v1 : Int32} {v2 : Int32} {r : eH × Int32} (p_v0 : P v0) (f0 : fr P h0 h) (hf : f_X10_week L h v0 v1 v2 = some r) : fr P h0 r.1 := by
  unfold f_X10_week at hf
  rcases e_or hf with hf | hf
  · exact fr_oW hf f0
  · rcases e_or hf with hf | hf
    · exact fr_oW hf f0
    · rcases e_or hf with hf | hf
      · exact fr_oW hf f0
      · rcases e_or hf with hf | hf
        · refine w_X10_week_L31 ?_ e_fu _ _ _ _ _ _ _ p_v0 f0 hf
          · intro h3 w0_4 w3_5 w4_6 p_w0_4 f7 hf
            replace hf := (e_if hf).2
            obtain ⟨b8, hb9, hf⟩ := e_bd hf
            have p10 := f7.1 _ _ _ p_w0_4 hb9
            replace hf := (e_if hf).2
            obtain ⟨r11, hr12, hf⟩ := e_bd hf
            have f13 := w_X3_begin p10 f7 hr12
            obtain ⟨b14, hb15, hf⟩ := e_bd hf
            have p16 := f13.1 _ _ _ p_w0_4 hb15
            replace hf := (e_if hf).2
            obtain ⟨r17, hr18, hf⟩ := e_bd hf
            have f19 := w_X3_add p16 f13 hr18
            exact fr_oW hf f19
        · exact fr_oW hf f0
theorem w_X10_looks_L4 {P : Nat → Prop} {L : eL} {h0 : eH} {r : eH × Int32} {k32 : eH → Nat → Int32 → Option (eH × Int32)} (hk32 : ∀ (h : eH) (v0 : Nat) (v1 : Int32), P v0 → fr P h0 h → k32 h v0 v1 = some r → fr P h0 r.1) : ∀ (n : Nat) (h : eH) (v0 : Nat) (v1 : Int32) (v2 : Int32), P v0 → fr P h0 h → f_X10_looks_L4 L n k32 h v0 v1 v2 = some r → fr P h0 r.1 := by
  intro n
  induction n with
  | zero => intro h v0 v1 v2 p_v0 f0 hf; exact absurd hf (by simp [f_X10_looks_L4])
  | succ n ih =>
    intro h v0 v1 v2 p_v0 f0 hf
    unfold f_X10_looks_L4 at hf
    rcases e_or hf with hf | hf
    · exact hk32 _ _ _ p_v0 f0 hf
    · replace hf := (e_if hf).2
      obtain ⟨b1, hb2, hf⟩ := e_bd hf
      have p3 := f0.1 _ _ _ p_v0 hb2
      replace hf := (e_if hf).2
      obtain ⟨r4, hr5, hf⟩ := e_bd hf
      rcases e_or hf with hf | hf
      · exact ih _ _ _ _ p_v0 f0 hf
      · exact ih _ _ _ _ p_v0 f0 hf
theorem w_X10_looks {P : Nat → Prop} {L : eL} {h0 h : eH} {v0 : Nat} {r : eH × Int32} (p_v0 : P v0) (f0 : fr P h0 h) (hf : f_X10_looks L h v0 = some r) : fr P h0 r.1 := by
  unfold f_X10_looks at hf
  refine w_X10_looks_L4 ?_ e_fu _ _ _ _ p_v0 f0 hf
  · intro h6 w0_7 w1_8 p_w0_7 f9 hf
    replace hf := (e_if hf).2
    obtain ⟨b10, hb11, hf⟩ := e_bd hf
    have p12 := f9.1 _ _ _ p_w0_7 hb11
    replace hf := (e_if hf).2
    obtain ⟨r13, hr14, hf⟩ := e_bd hf
    have f15 := w_X3_begin p12 f9 hr14
    obtain ⟨b16, hb17, hf⟩ := e_bd hf
    have p18 := f15.1 _ _ _ p_w0_7 hb17
    replace hf := (e_if hf).2
    obtain ⟨r19, hr20, hf⟩ := e_bd hf
    have f21 := w_X3_add p18 f15 hr20
    obtain ⟨b22, hb23, hf⟩ := e_bd hf
    have p24 := f21.1 _ _ _ p_w0_7 hb23
    obtain ⟨b25, hb26, hf⟩ := e_bd hf
    have p27 := f21.1 _ _ _ p_w0_7 hb26
    replace hf := (e_if hf).2
    obtain ⟨r28, hr29, hf⟩ := e_bd hf
    replace hf := (e_if hf).2
    obtain ⟨r30, hr31, hf⟩ := e_bd hf
    have f32 := w_X3_add p24 f21 hr31
    exact fr_oW hf f32
theorem w_X10_countSums_L57 {P : Nat → Prop} {L : eL} {h0 : eH} {r : eH} {k95 : eH → Nat → Int64 → Int32 → Int32 → Option eH} (hk95 : ∀ (h : eH) (v0 : Nat) (v1 : Int64) (v3 : Int32) (v4 : Int32), P v0 → fr P h0 h → k95 h v0 v1 v3 v4 = some r → fr P h0 r) : ∀ (n : Nat) (h : eH) (v0 : Nat) (v1 : Int64) (v3 : Int32) (v4 : Int32) (v5 : Int32) (v6 : Int32), P v0 → fr P h0 h → f_X10_countSums_L57 L n k95 h v0 v1 v3 v4 v5 v6 = some r → fr P h0 r := by
  intro n
  induction n with
  | zero => intro h v0 v1 v3 v4 v5 v6 p_v0 f0 hf; exact absurd hf (by simp [f_X10_countSums_L57])
  | succ n ih =>
    intro h v0 v1 v3 v4 v5 v6 p_v0 f0 hf
    unfold f_X10_countSums_L57 at hf
    rcases e_or hf with hf | hf
    · exact hk95 _ _ _ _ _ p_v0 f0 hf
    · rcases e_or hf with hf | hf
      · exact hk95 _ _ _ _ _ p_v0 f0 hf
      · replace hf := (e_if hf).2
        obtain ⟨b15, hb16, hf⟩ := e_bd hf
        have p17 := f0.1 _ _ _ p_v0 hb16
        replace hf := (e_if hf).2
        obtain ⟨b18, hb19, hf⟩ := e_bd hf
        have p20 := f0.1 _ _ _ p_v0 hb19
        replace hf := (e_if hf).2
        obtain ⟨h21, hh22, hf⟩ := e_bd hf
        have f23 := fr_oV hh22 (fr_sI f0 p17)
        exact ih _ _ _ _ _ _ _ p_v0 f23 hf
theorem w_X10_countSums_L18 {P : Nat → Prop} {L : eL} {h0 : eH} {r : eH} {k101 : eH → Option eH} (hk101 : ∀ (h : eH), fr P h0 h → k101 h = some r → fr P h0 r) : ∀ (n : Nat) (h : eH) (v0 : Nat) (v1 : Int64) (v3 : Int32) (v4 : Int32), P v0 → fr P h0 h → f_X10_countSums_L18 L n k101 h v0 v1 v3 v4 = some r → fr P h0 r := by
  intro n
  induction n with
  | zero => intro h v0 v1 v3 v4 p_v0 f0 hf; exact absurd hf (by simp [f_X10_countSums_L18])
  | succ n ih =>
    intro h v0 v1 v3 v4 p_v0 f0 hf
    unfold f_X10_countSums_L18 at hf
    rcases e_or hf with hf | hf
    · exact hk101 _ f0 hf
    · rcases e_or hf with hf | hf
      · exact ih _ _ _ _ _ p_v0 f0 hf
      · replace hf := (e_if hf).2
        obtain ⟨b10, hb11, hf⟩ := e_bd hf
        have p12 := f0.1 _ _ _ p_v0 hb11
        replace hf := (e_if hf).2
        obtain ⟨r13, hr14, hf⟩ := e_bd hf
        refine w_X10_countSums_L57 ?_ e_fu _ _ _ _ _ _ _ p_v0 f0 hf
        · intro h24 w0_25 w1_26 w3_27 w4_28 p_w0_25 f29 hf
          exact ih _ _ _ _ _ p_w0_25 f29 hf
theorem w_X10_countSums {P : Nat → Prop} {L : eL} {h0 h : eH} {v0 : Nat} {v1 : Int64} {v3 : Int32} {r : eH} (p_v0 : P v0) (f0 : fr P h0 h) (hf : f_X10_countSums L h v0 v1 v3 = some r) : fr P h0 r := by
  unfold f_X10_countSums at hf
  replace hf := (e_if hf).2
  obtain ⟨b1, hb2, hf⟩ := e_bd hf
  have p3 := f0.1 _ _ _ p_v0 hb2
  obtain ⟨r4, hr5, hf⟩ := e_bd hf
  have f6 := w_J7_fill_53178 p3 f0 hr5
  obtain ⟨b7, hb8, hf⟩ := e_bd hf
  have p9 := f6.1 _ _ _ p_v0 hb8
  replace hf := (e_if hf).2
  refine w_X10_countSums_L18 ?_ e_fu _ _ _ _ _ p_v0 (fr_sI f6 p9) hf
  · intro h30 f31 hf
    exact fr_oV hf f31
theorem w_X10_box_L45 {P : Nat → Prop} {L : eL} {h0 : eH} {r : eH × Int32} {k103 : eH → Nat → Int32 → Int64 → Option (eH × Int32)} (hk103 : ∀ (h : eH) (v0 : Nat) (v1 : Int32) (v4 : Int64), P v0 → fr P h0 h → k103 h v0 v1 v4 = some r → fr P h0 r.1) : ∀ (n : Nat) (h : eH) (v0 : Nat) (v1 : Int32) (v2 : Int64) (v4 : Int64) (v6 : Int32), P v0 → fr P h0 h → f_X10_box_L45 L n k103 h v0 v1 v2 v4 v6 = some r → fr P h0 r.1 := by
  intro n
  induction n with
  | zero => intro h v0 v1 v2 v4 v6 p_v0 f0 hf; exact absurd hf (by simp [f_X10_box_L45])
  | succ n ih =>
    intro h v0 v1 v2 v4 v6 p_v0 f0 hf
    unfold f_X10_box_L45 at hf
    rcases e_or hf with hf | hf
    · exact hk103 _ _ _ _ p_v0 f0 hf
    · replace hf := (e_if hf).2
      obtain ⟨b9, hb10, hf⟩ := e_bd hf
      have p11 := f0.1 _ _ _ p_v0 hb10
      replace hf := (e_if hf).2
      rcases e_or hf with hf | hf
      · exact hk103 _ _ _ _ p_v0 f0 hf
      · rcases e_or hf with hf | hf
        · exact ih _ _ _ _ _ _ p_v0 f0 hf
        · obtain ⟨b12, hb13, hf⟩ := e_bd hf
          have p14 := f0.1 _ _ _ p_v0 hb13
          replace hf := (e_if hf).2
          obtain ⟨r15, hr16, hf⟩ := e_bd hf
          obtain ⟨r17, hr18, hf⟩ := e_bd hf
          rcases e_or hf with hf | hf
          · exact ih _ _ _ _ _ _ p_v0 f0 hf
          · exact ih _ _ _ _ _ _ p_v0 f0 hf
theorem w_X10_box_J103 {P : Nat → Prop} {L : eL} {h0 : eH} {r : eH × Int32}  : ∀ (h : eH) (v0 : Nat) (v1 : Int32) (v4 : Int64), P v0 → fr P h0 h → f_X10_box_J103 L h v0 v1 v4 = some r → fr P h0 r.1 := by
  intro h v0 v1 v4 p_v0 f0 hf
  unfold f_X10_box_J103 at hf
  replace hf := (e_if hf).2
  obtain ⟨b24, hb25, hf⟩ := e_bd hf
  have p26 := f0.1 _ _ _ p_v0 hb25
  replace hf := (e_if hf).2
  obtain ⟨r27, hr28, hf⟩ := e_bd hf
  have f29 := w_X3_begin p26 f0 hr28
  obtain ⟨b30, hb31, hf⟩ := e_bd hf
  have p32 := f29.1 _ _ _ p_v0 hb31
  replace hf := (e_if hf).2
  obtain ⟨r33, hr34, hf⟩ := e_bd hf
  have f35 := w_X3_add p32 f29 hr34
  obtain ⟨b36, hb37, hf⟩ := e_bd hf
  have p38 := f35.1 _ _ _ p_v0 hb37
  replace hf := (e_if hf).2
  exact fr_oW hf f35
theorem w_X10_box {P : Nat → Prop} {L : eL} {h0 h : eH} {v0 : Nat} {v1 : Int32} {r : eH × Int32} (p_v0 : P v0) (f0 : fr P h0 h) (hf : f_X10_box L h v0 v1 = some r) : fr P h0 r.1 := by
  unfold f_X10_box at hf
  rcases e_or hf with hf | hf
  · exact fr_oW hf f0
  · rcases e_or hf with hf | hf
    · replace hf := (e_if hf).2
      obtain ⟨b1, hb2, hf⟩ := e_bd hf
      have p3 := f0.1 _ _ _ p_v0 hb2
      replace hf := (e_if hf).2
      obtain ⟨r4, hr5, hf⟩ := e_bd hf
      rcases e_or hf with hf | hf
      · obtain ⟨r6, hr7, hf⟩ := e_bd hf
        have f8 := w_X10_countSums p_v0 f0 hr7
        refine w_X10_box_L45 ?_ e_fu _ _ _ _ _ _ p_v0 f8 hf
        · intro h19 w0_20 w1_21 w4_22 p_w0_20 f23 hf
          exact w_X10_box_J103 _ _ _ _ p_w0_20 f23 hf
      · exact fr_oW hf f0
    · exact fr_oW hf f0
theorem w_X10_clean {P : Nat → Prop} {L : eL} {h0 h : eH} {v0 : Nat} {v1 : Int32} {r : eH × Int32} (p_v0 : P v0) (f0 : fr P h0 h) (hf : f_X10_clean L h v0 v1 = some r) : fr P h0 r.1 := by
  unfold f_X10_clean at hf
  replace hf := (e_if hf).2
  obtain ⟨b1, hb2, hf⟩ := e_bd hf
  have p3 := f0.1 _ _ _ p_v0 hb2
  replace hf := (e_if hf).2
  rcases e_or hf with hf | hf
  · exact fr_oW hf f0
  · rcases e_or hf with hf | hf
    · obtain ⟨b4, hb5, hf⟩ := e_bd hf
      have p6 := f0.1 _ _ _ p_v0 hb5
      replace hf := (e_if hf).2
      obtain ⟨r7, hr8, hf⟩ := e_bd hf
      obtain ⟨r9, hr10, hf⟩ := e_bd hf
      obtain ⟨r11, hr12, hf⟩ := e_bd hf
      obtain ⟨r13, hr14, hf⟩ := e_bd hf
      have f15 := w_X10_tellFraction p_v0 f0 hr14
      exact fr_oW hf f15
    · exact fr_oW hf f0
theorem w_X10_rests_L33 {P : Nat → Prop} {L : eL} {h0 : eH} {r : eH × Int32} {k95 : eH → Nat → Int32 → Int32 → Int32 → Option (eH × Int32)} (hk95 : ∀ (h : eH) (v0 : Nat) (v1 : Int32) (v2 : Int32) (v3 : Int32), P v0 → fr P h0 h → k95 h v0 v1 v2 v3 = some r → fr P h0 r.1) : ∀ (n : Nat) (h : eH) (v0 : Nat) (v1 : Int32) (v2 : Int32) (v3 : Int32) (v4 : Int32), P v0 → fr P h0 h → f_X10_rests_L33 L n k95 h v0 v1 v2 v3 v4 = some r → fr P h0 r.1 := by
  intro n
  induction n with
  | zero => intro h v0 v1 v2 v3 v4 p_v0 f0 hf; exact absurd hf (by simp [f_X10_rests_L33])
  | succ n ih =>
    intro h v0 v1 v2 v3 v4 p_v0 f0 hf
    unfold f_X10_rests_L33 at hf
    rcases e_or hf with hf | hf
    · exact hk95 _ _ _ _ _ p_v0 f0 hf
    · obtain ⟨r7, hr8, hf⟩ := e_bd hf
      rcases e_or hf with hf | hf
      · exact ih _ _ _ _ _ _ p_v0 f0 hf
      · obtain ⟨r9, hr10, hf⟩ := e_bd hf
        rcases e_or hf with hf | hf
        · exact ih _ _ _ _ _ _ p_v0 f0 hf
        · rcases e_or hf with hf | hf
          · replace hf := (e_if hf).2
            obtain ⟨b11, hb12, hf⟩ := e_bd hf
            have p13 := f0.1 _ _ _ p_v0 hb12
            replace hf := (e_if hf).2
            obtain ⟨r14, hr15, hf⟩ := e_bd hf
            have f16 := w_X3_add p13 f0 hr15
            obtain ⟨b17, hb18, hf⟩ := e_bd hf
            have p19 := f16.1 _ _ _ p_v0 hb18
            replace hf := (e_if hf).2
            obtain ⟨r20, hr21, hf⟩ := e_bd hf
            have f22 := w_X3_add p19 f16 hr21
            exact ih _ _ _ _ _ _ p_v0 f22 hf
          · exact ih _ _ _ _ _ _ p_v0 f0 hf
theorem w_X10_rests_L24 {P : Nat → Prop} {L : eL} {h0 : eH} {r : eH × Int32} {k101 : eH → Int32 → Option (eH × Int32)} (hk101 : ∀ (h : eH) (v2 : Int32), fr P h0 h → k101 h v2 = some r → fr P h0 r.1) : ∀ (n : Nat) (h : eH) (v0 : Nat) (v1 : Int32) (v2 : Int32) (v3 : Int32), P v0 → fr P h0 h → f_X10_rests_L24 L n k101 h v0 v1 v2 v3 = some r → fr P h0 r.1 := by
  intro n
  induction n with
  | zero => intro h v0 v1 v2 v3 p_v0 f0 hf; exact absurd hf (by simp [f_X10_rests_L24])
  | succ n ih =>
    intro h v0 v1 v2 v3 p_v0 f0 hf
    unfold f_X10_rests_L24 at hf
    rcases e_or hf with hf | hf
    · exact hk101 _ _ f0 hf
    · refine w_X10_rests_L33 ?_ e_fu _ _ _ _ _ _ p_v0 f0 hf
      · intro h23 w0_24 w1_25 w2_26 w3_27 p_w0_24 f28 hf
        exact ih _ _ _ _ _ p_w0_24 f28 hf
theorem w_X10_rests {P : Nat → Prop} {L : eL} {h0 h : eH} {v0 : Nat} {v1 : Int32} {r : eH × Int32} (p_v0 : P v0) (f0 : fr P h0 h) (hf : f_X10_rests L h v0 v1 = some r) : fr P h0 r.1 := by
  unfold f_X10_rests at hf
  rcases e_or hf with hf | hf
  · exact fr_oW hf f0
  · rcases e_or hf with hf | hf
    · replace hf := (e_if hf).2
      obtain ⟨b1, hb2, hf⟩ := e_bd hf
      have p3 := f0.1 _ _ _ p_v0 hb2
      replace hf := (e_if hf).2
      obtain ⟨r4, hr5, hf⟩ := e_bd hf
      have f6 := w_X3_begin p3 f0 hr5
      refine w_X10_rests_L24 ?_ e_fu _ _ _ _ _ p_v0 f6 hf
      · intro h29 w2_30 f31 hf
        exact fr_oW hf f31
    · exact fr_oW hf f0
theorem w_X10_weeks_L29 {P : Nat → Prop} {L : eL} {h0 : eH} {r : eH × Int32} {k152 : eH → Nat → Option (eH × Int32)} (hk152 : ∀ (h : eH) (v0 : Nat), P v0 → fr P h0 h → k152 h v0 = some r → fr P h0 r.1) : ∀ (n : Nat) (h : eH) (v0 : Nat) (v2 : Int32) (v3 : Int32) (v4 : Int32), P v0 → fr P h0 h → f_X10_weeks_L29 L n k152 h v0 v2 v3 v4 = some r → fr P h0 r.1 := by
  intro n
  induction n with
  | zero => intro h v0 v2 v3 v4 p_v0 f0 hf; exact absurd hf (by simp [f_X10_weeks_L29])
  | succ n ih =>
    intro h v0 v2 v3 v4 p_v0 f0 hf
    unfold f_X10_weeks_L29 at hf
    rcases e_or hf with hf | hf
    · exact hk152 _ _ p_v0 f0 hf
    · obtain ⟨r10, hr11, hf⟩ := e_bd hf
      rcases e_or hf with hf | hf
      · replace hf := (e_if hf).2
        obtain ⟨b41, hb42, hf⟩ := e_bd hf
        have p43 := f0.1 _ _ _ p_v0 hb42
        obtain ⟨b44, hb45, hf⟩ := e_bd hf
        have p46 := f0.1 _ _ _ p_v0 hb45
        replace hf := (e_if hf).2
        obtain ⟨r47, hr48, hf⟩ := e_bd hf
        have f49 := w_X6_dayFalls p43 p46 f0 hr48
        exact ih _ _ _ _ _ p_v0 f49 hf
      · rcases e_or hf with hf | hf
        · replace hf := (e_if hf).2
          obtain ⟨b35, hb36, hf⟩ := e_bd hf
          have p37 := f0.1 _ _ _ p_v0 hb36
          replace hf := (e_if hf).2
          obtain ⟨r38, hr39, hf⟩ := e_bd hf
          have f40 := w_X6_turnBy p37 f0 hr39
          exact ih _ _ _ _ _ p_v0 f40 hf
        · replace hf := (e_if hf).2
          obtain ⟨b12, hb13, hf⟩ := e_bd hf
          have p14 := f0.1 _ _ _ p_v0 hb13
          obtain ⟨r15, hr16, hf⟩ := e_bd hf
          have f17 := w_X10_goOn p_v0 p14 f0 hr16
          obtain ⟨b18, hb19, hf⟩ := e_bd hf
          have p20 := f17.1 _ _ _ p_v0 hb19
          replace hf := (e_if hf).2
          obtain ⟨b21, hb22, hf⟩ := e_bd hf
          have p23 := f17.1 _ _ _ p_v0 hb22
          replace hf := (e_if hf).2
          rcases e_or hf with hf | hf
          · exact ih _ _ _ _ _ p_v0 f17 hf
          · obtain ⟨b24, hb25, hf⟩ := e_bd hf
            have p26 := f17.1 _ _ _ p_v0 hb25
            obtain ⟨r27, hr28, hf⟩ := e_bd hf
            rcases e_or hf with hf | hf
            · replace hf := (e_if hf).2
              obtain ⟨r32, hr33, hf⟩ := e_bd hf
              have f34 := w_X6_turnBy p26 f17 hr33
              exact ih _ _ _ _ _ p_v0 f34 hf
            · replace hf := (e_if hf).2
              obtain ⟨r29, hr30, hf⟩ := e_bd hf
              have f31 := w_X6_turnBy p26 f17 hr30
              exact ih _ _ _ _ _ p_v0 f31 hf
theorem w_X10_weeks {P : Nat → Prop} {L : eL} {h0 h : eH} {v0 : Nat} {v1 : Int32} {v2 : Int32} {r : eH × Int32} (p_v0 : P v0) (f0 : fr P h0 h) (hf : f_X10_weeks L h v0 v1 v2 = some r) : fr P h0 r.1 := by
  unfold f_X10_weeks at hf
  rcases e_or hf with hf | hf
  · exact fr_oW hf f0
  · rcases e_or hf with hf | hf
    · replace hf := (e_if hf).2
      obtain ⟨b1, hb2, hf⟩ := e_bd hf
      have p3 := f0.1 _ _ _ p_v0 hb2
      obtain ⟨b4, hb5, hf⟩ := e_bd hf
      have p6 := f0.1 _ _ _ p_v0 hb5
      replace hf := (e_if hf).2
      obtain ⟨r7, hr8, hf⟩ := e_bd hf
      have f9 := w_X6_copyFrom p3 p6 f0 hr8
      refine w_X10_weeks_L29 ?_ e_fu _ _ _ _ _ p_v0 f9 hf
      · intro h50 w0_51 p_w0_51 f52 hf
        replace hf := (e_if hf).2
        obtain ⟨b53, hb54, hf⟩ := e_bd hf
        have p55 := f52.1 _ _ _ p_w0_51 hb54
        replace hf := (e_if hf).2
        obtain ⟨r56, hr57, hf⟩ := e_bd hf
        have f58 := w_X3_begin p55 f52 hr57
        obtain ⟨b59, hb60, hf⟩ := e_bd hf
        have p61 := f58.1 _ _ _ p_w0_51 hb60
        obtain ⟨b62, hb63, hf⟩ := e_bd hf
        have p64 := f58.1 _ _ _ p_w0_51 hb63
        replace hf := (e_if hf).2
        replace hf := (e_if hf).2
        obtain ⟨r65, hr66, hf⟩ := e_bd hf
        have f67 := w_X3_add p61 f58 hr66
        obtain ⟨b68, hb69, hf⟩ := e_bd hf
        have p70 := f67.1 _ _ _ p_w0_51 hb69
        obtain ⟨b71, hb72, hf⟩ := e_bd hf
        have p73 := f67.1 _ _ _ p_w0_51 hb72
        replace hf := (e_if hf).2
        obtain ⟨r74, hr75, hf⟩ := e_bd hf
        replace hf := (e_if hf).2
        obtain ⟨r76, hr77, hf⟩ := e_bd hf
        have f78 := w_X3_add p70 f67 hr77
        obtain ⟨b79, hb80, hf⟩ := e_bd hf
        have p81 := f78.1 _ _ _ p_w0_51 hb80
        replace hf := (e_if hf).2
        obtain ⟨b82, hb83, hf⟩ := e_bd hf
        have p84 := f78.1 _ _ _ p_w0_51 hb83
        replace hf := (e_if hf).2
        exact fr_oW hf f78
    · exact fr_oW hf f0
theorem w_X10_keep {P : Nat → Prop} {L : eL} {h0 h : eH} {v0 : Nat} {v1 : Int32} {r : eH × Int32} (p_v0 : P v0) (f0 : fr P h0 h) (hf : f_X10_keep L h v0 v1 = some r) : fr P h0 r.1 := by
  unfold f_X10_keep at hf
  rcases e_or hf with hf | hf
  · exact fr_oW hf f0
  · rcases e_or hf with hf | hf
    · replace hf := (e_if hf).2
      obtain ⟨b1, hb2, hf⟩ := e_bd hf
      have p3 := f0.1 _ _ _ p_v0 hb2
      replace hf := (e_if hf).2
      obtain ⟨b4, hb5, hf⟩ := e_bd hf
      have p6 := f0.1 _ _ _ p3 hb5
      obtain ⟨b7, hb8, hf⟩ := e_bd hf
      have p9 := f0.1 _ _ _ p_v0 hb8
      replace hf := (e_if hf).2
      obtain ⟨r10, hr11, hf⟩ := e_bd hf
      have f12 := w_X6_copyFrom p6 p9 f0 hr11
      obtain ⟨h13, hh14, hf⟩ := e_bd hf
      have f15 := fr_oV hh14 (fr_sI f12 p_v0)
      exact fr_oW hf f15
    · exact fr_oW hf f0
theorem w_X10_again {P : Nat → Prop} {L : eL} {h0 h : eH} {v0 : Nat} {v1 : Int32} {r : eH × Int32} (p_v0 : P v0) (f0 : fr P h0 h) (hf : f_X10_again L h v0 v1 = some r) : fr P h0 r.1 := by
  unfold f_X10_again at hf
  rcases e_or hf with hf | hf
  · exact fr_oW hf f0
  · rcases e_or hf with hf | hf
    · exact fr_oW hf f0
    · replace hf := (e_if hf).2
      rcases e_or hf with hf | hf
      · exact fr_oW hf f0
      · obtain ⟨b1, hb2, hf⟩ := e_bd hf
        have p3 := f0.1 _ _ _ p_v0 hb2
        obtain ⟨b4, hb5, hf⟩ := e_bd hf
        have p6 := f0.1 _ _ _ p_v0 hb5
        replace hf := (e_if hf).2
        obtain ⟨b7, hb8, hf⟩ := e_bd hf
        have p9 := f0.1 _ _ _ p6 hb8
        replace hf := (e_if hf).2
        obtain ⟨r10, hr11, hf⟩ := e_bd hf
        have f12 := w_X6_copyFrom p3 p9 f0 hr11
        obtain ⟨b13, hb14, hf⟩ := e_bd hf
        have p15 := f12.1 _ _ _ p_v0 hb14
        replace hf := (e_if hf).2
        obtain ⟨r16, hr17, hf⟩ := e_bd hf
        have f18 := w_X1_clear p15 f12 hr17
        exact fr_oW hf f18
theorem w_X10_machine {P : Nat → Prop} {L : eL} {h0 h : eH} {v0 : Nat} {v1 : Int32} {r : eH × Int32} (p_v0 : P v0) (f0 : fr P h0 h) (hf : f_X10_machine L h v0 v1 = some r) : fr P h0 r.1 := by
  unfold f_X10_machine at hf
  rcases e_or hf with hf | hf
  · replace hf := (e_if hf).2
    obtain ⟨b1, hb2, hf⟩ := e_bd hf
    have p3 := f0.1 _ _ _ p_v0 hb2
    replace hf := (e_if hf).2
    exact fr_oW hf f0
  rcases e_or hf with hf | hf
  · replace hf := (e_if hf).2
    obtain ⟨b4, hb5, hf⟩ := e_bd hf
    have p6 := f0.1 _ _ _ p_v0 hb5
    replace hf := (e_if hf).2
    exact fr_oW hf f0
  rcases e_or hf with hf | hf
  · replace hf := (e_if hf).2
    obtain ⟨b7, hb8, hf⟩ := e_bd hf
    have p9 := f0.1 _ _ _ p_v0 hb8
    replace hf := (e_if hf).2
    exact fr_oW hf f0
  rcases e_or hf with hf | hf
  · replace hf := (e_if hf).2
    obtain ⟨b10, hb11, hf⟩ := e_bd hf
    have p12 := f0.1 _ _ _ p_v0 hb11
    replace hf := (e_if hf).2
    exact fr_oW hf f0
  rcases e_or hf with hf | hf
  · replace hf := (e_if hf).2
    obtain ⟨b13, hb14, hf⟩ := e_bd hf
    have p15 := f0.1 _ _ _ p_v0 hb14
    replace hf := (e_if hf).2
    exact fr_oW hf f0
  rcases e_or hf with hf | hf
  · replace hf := (e_if hf).2
    obtain ⟨b16, hb17, hf⟩ := e_bd hf
    have p18 := f0.1 _ _ _ p_v0 hb17
    replace hf := (e_if hf).2
    exact fr_oW hf f0
  rcases e_or hf with hf | hf
  · replace hf := (e_if hf).2
    obtain ⟨b19, hb20, hf⟩ := e_bd hf
    have p21 := f0.1 _ _ _ p_v0 hb20
    obtain ⟨b22, hb23, hf⟩ := e_bd hf
    have p24 := f0.1 _ _ _ p_v0 hb23
    obtain ⟨b25, hb26, hf⟩ := e_bd hf
    have p27 := f0.1 _ _ _ p_v0 hb26
    replace hf := (e_if hf).2
    obtain ⟨r28, hr29, hf⟩ := e_bd hf
    have f30 := w_X4_turnOf p21 p24 p27 f0 hr29
    exact fr_oW hf f30
  rcases e_or hf with hf | hf
  · replace hf := (e_if hf).2
    obtain ⟨b31, hb32, hf⟩ := e_bd hf
    have p33 := f0.1 _ _ _ p_v0 hb32
    obtain ⟨b34, hb35, hf⟩ := e_bd hf
    have p36 := f0.1 _ _ _ p_v0 hb35
    replace hf := (e_if hf).2
    obtain ⟨b37, hb38, hf⟩ := e_bd hf
    have p39 := f0.1 _ _ _ p_v0 hb38
    replace hf := (e_if hf).2
    replace hf := (e_if hf).2
    obtain ⟨r40, hr41, hf⟩ := e_bd hf
    exact fr_oW hf f0
  · exact absurd hf (by simp)
theorem w_X11_sign_L18 {P : Nat → Prop} {L : eL} {h0 : eH} {r : eH × Int32} {k53 : eH → Nat → Option (eH × Int32)} (hk53 : ∀ (h : eH) (v0 : Nat), P v0 → fr P h0 h → k53 h v0 = some r → fr P h0 r.1) : ∀ (n : Nat) (h : eH) (v0 : Nat) (v1 : Int32) (v2 : Int32), P v0 → fr P h0 h → f_X11_sign_L18 L n k53 h v0 v1 v2 = some r → fr P h0 r.1 := by
  intro n
  induction n with
  | zero => intro h v0 v1 v2 p_v0 f0 hf; exact absurd hf (by simp [f_X11_sign_L18])
  | succ n ih =>
    intro h v0 v1 v2 p_v0 f0 hf
    unfold f_X11_sign_L18 at hf
    rcases e_or hf with hf | hf
    · exact hk53 _ _ p_v0 f0 hf
    · replace hf := (e_if hf).2
      obtain ⟨b1, hb2, hf⟩ := e_bd hf
      have p3 := f0.1 _ _ _ p_v0 hb2
      replace hf := (e_if hf).2
      obtain ⟨h4, hh5, hf⟩ := e_bd hf
      have f6 := fr_oV hh5 (fr_sI f0 p3)
      exact ih _ _ _ _ p_v0 f6 hf
theorem w_X11_sign {P : Nat → Prop} {L : eL} {h0 h : eH} {v0 : Nat} {v1 : Int32} {r : eH × Int32} (p_v0 : P v0) (f0 : fr P h0 h) (hf : f_X11_sign L h v0 v1 = some r) : fr P h0 r.1 := by
  unfold f_X11_sign at hf
  replace hf := (e_if hf).2
  rcases e_or hf with hf | hf
  · refine w_X11_sign_L18 ?_ e_fu _ _ _ _ p_v0 (fr_sI f0 p_v0) hf
    · intro h7 w0_8 p_w0_8 f9 hf
      replace hf := (e_if hf).2
      exact fr_oW hf (fr_sI f9 p_w0_8)
  · exact fr_oW hf (fr_sI f0 p_v0)
theorem w_X11_end {P : Nat → Prop} {L : eL} {h0 h : eH} {v0 : Nat} {v1 : Int32} {r : eH × Int32} (p_v0 : P v0) (f0 : fr P h0 h) (hf : f_X11_end L h v0 v1 = some r) : fr P h0 r.1 := by
  unfold f_X11_end at hf
  replace hf := (e_if hf).2
  rcases e_or hf with hf | hf
  · exact fr_oW hf (fr_sI f0 p_v0)
  · exact fr_oW hf (fr_sI (fr_sI f0 p_v0) p_v0)
theorem w_X11_begins {P : Nat → Prop} {L : eL} {h0 h : eH} {v0 : Nat} {v1 : Int32} {r : eH × Int32} (p_v0 : P v0) (f0 : fr P h0 h) (hf : f_X11_begins L h v0 v1 = some r) : fr P h0 r.1 := by
  unfold f_X11_begins at hf
  replace hf := (e_if hf).2
  obtain ⟨h1, hh2, hf⟩ := e_bd hf
  have f3 := fr_oV hh2 (fr_sI (fr_sI (fr_sI (fr_sI f0 p_v0) p_v0) p_v0) p_v0)
  exact fr_oW hf f3
theorem w_X11_readsRow_J131 {P : Nat → Prop} {L : eL} {h0 : eH} {r : eH × Int32} {k36 : eH → Nat → Int32 → Int32 → Int32 → Int32 → Option (eH × Int32)} {k160 : eH → Nat → Int32 → Int32 → Option (eH × Int32)} (hk36 : ∀ (h : eH) (v0 : Nat) (v1 : Int32) (v2 : Int32) (v3 : Int32) (v4 : Int32), P v0 → fr P h0 h → k36 h v0 v1 v2 v3 v4 = some r → fr P h0 r.1) (hk160 : ∀ (h : eH) (v0 : Nat) (v1 : Int32) (v3 : Int32), P v0 → fr P h0 h → k160 h v0 v1 v3 = some r → fr P h0 r.1) : ∀ (h : eH) (v0 : Nat) (v1 : Int32) (v2 : Int32) (v3 : Int32) (s0 : Nat) (s1 : Int32), P v0 → P s0 → fr P h0 h → f_X11_readsRow_J131 L k36 k160 h v0 v1 v2 v3 s0 s1 = some r → fr P h0 r.1 := by
  intro h v0 v1 v2 v3 s0 s1 p_v0 p_s0 f0 hf
  unfold f_X11_readsRow_J131 at hf
  replace hf := (e_if hf).2
  replace hf := (e_if hf).2
  rcases e_or hf with hf | hf
  · obtain ⟨r6, hr7, hf⟩ := e_bd hf
    exact hk36 _ _ _ _ _ _ p_v0 (fr_sI f0 p_s0) hf
  · obtain ⟨r8, hr9, hf⟩ := e_bd hf
    exact hk36 _ _ _ _ _ _ p_v0 (fr_sI f0 p_s0) hf
theorem w_X11_readsRow_J114 {P : Nat → Prop} {L : eL} {h0 : eH} {r : eH × Int32} {k36 : eH → Nat → Int32 → Int32 → Int32 → Int32 → Option (eH × Int32)} {k160 : eH → Nat → Int32 → Int32 → Option (eH × Int32)} (hk36 : ∀ (h : eH) (v0 : Nat) (v1 : Int32) (v2 : Int32) (v3 : Int32) (v4 : Int32), P v0 → fr P h0 h → k36 h v0 v1 v2 v3 v4 = some r → fr P h0 r.1) (hk160 : ∀ (h : eH) (v0 : Nat) (v1 : Int32) (v3 : Int32), P v0 → fr P h0 h → k160 h v0 v1 v3 = some r → fr P h0 r.1) : ∀ (h : eH) (v0 : Nat) (v1 : Int32) (v2 : Int32) (v3 : Int32) (v4 : Int32) (v5 : Int32) (s0 : Nat) (s1 : Int32) (s2 : Int32), P v0 → P s0 → fr P h0 h → f_X11_readsRow_J114 L k36 k160 h v0 v1 v2 v3 v4 v5 s0 s1 s2 = some r → fr P h0 r.1 := by
  intro h v0 v1 v2 v3 v4 v5 s0 s1 s2 p_v0 p_s0 f0 hf
  unfold f_X11_readsRow_J114 at hf
  replace hf := (e_if hf).2
  rcases e_or hf with hf | hf
  · replace hf := (e_if hf).2
    exact w_X11_readsRow_J131 hk36 hk160 _ _ _ _ _ _ _ p_v0 p_v0 (fr_sI f0 p_s0) hf
  · exact w_X11_readsRow_J131 hk36 hk160 _ _ _ _ _ _ _ p_v0 p_v0 (fr_sI f0 p_s0) hf
theorem w_X11_readsRow_J80 {P : Nat → Prop} {L : eL} {h0 : eH} {r : eH × Int32} {k36 : eH → Nat → Int32 → Int32 → Int32 → Int32 → Option (eH × Int32)} {k160 : eH → Nat → Int32 → Int32 → Option (eH × Int32)} (hk36 : ∀ (h : eH) (v0 : Nat) (v1 : Int32) (v2 : Int32) (v3 : Int32) (v4 : Int32), P v0 → fr P h0 h → k36 h v0 v1 v2 v3 v4 = some r → fr P h0 r.1) (hk160 : ∀ (h : eH) (v0 : Nat) (v1 : Int32) (v3 : Int32), P v0 → fr P h0 h → k160 h v0 v1 v3 = some r → fr P h0 r.1) : ∀ (h : eH) (v0 : Nat) (v1 : Int32) (v2 : Int32) (v3 : Int32) (v4 : Int32) (s0 : Int32), P v0 → fr P h0 h → f_X11_readsRow_J80 L k36 k160 h v0 v1 v2 v3 v4 s0 = some r → fr P h0 r.1 := by
  intro h v0 v1 v2 v3 v4 s0 p_v0 f0 hf
  unfold f_X11_readsRow_J80 at hf
  replace hf := (e_if hf).2
  obtain ⟨b3, hb4, hf⟩ := e_bd hf
  have p5 := f0.1 _ _ _ p_v0 hb4
  rcases e_or hf with hf | hf
  · exact w_X11_readsRow_J114 hk36 hk160 _ _ _ _ _ _ _ _ _ _ p_v0 p5 f0 hf
  · rcases e_or hf with hf | hf
    · exact w_X11_readsRow_J114 hk36 hk160 _ _ _ _ _ _ _ _ _ _ p_v0 p5 f0 hf
    · rcases e_or hf with hf | hf
      · exact w_X11_readsRow_J114 hk36 hk160 _ _ _ _ _ _ _ _ _ _ p_v0 p5 f0 hf
      · exact w_X11_readsRow_J114 hk36 hk160 _ _ _ _ _ _ _ _ _ _ p_v0 p5 f0 hf
theorem w_X11_readsRow_L36 {P : Nat → Prop} {L : eL} {h0 : eH} {r : eH × Int32} {k160 : eH → Nat → Int32 → Int32 → Option (eH × Int32)} (hk160 : ∀ (h : eH) (v0 : Nat) (v1 : Int32) (v3 : Int32), P v0 → fr P h0 h → k160 h v0 v1 v3 = some r → fr P h0 r.1) : ∀ (n : Nat) (h : eH) (v0 : Nat) (v1 : Int32) (v2 : Int32) (v3 : Int32) (v4 : Int32), P v0 → fr P h0 h → f_X11_readsRow_L36 L n k160 h v0 v1 v2 v3 v4 = some r → fr P h0 r.1 := by
  intro n
  induction n with
  | zero => intro h v0 v1 v2 v3 v4 p_v0 f0 hf; exact absurd hf (by simp [f_X11_readsRow_L36])
  | succ n ih =>
    intro h v0 v1 v2 v3 v4 p_v0 f0 hf
    unfold f_X11_readsRow_L36 at hf
    rcases e_or hf with hf | hf
    · exact hk160 _ _ _ _ p_v0 f0 hf
    · rcases e_or hf with hf | hf
      · exact hk160 _ _ _ _ p_v0 f0 hf
      · replace hf := (e_if hf).2
        rcases e_or hf with hf | hf
        · exact w_X11_readsRow_J80 ih hk160 _ _ _ _ _ _ _ p_v0 (fr_sI f0 p_v0) hf
        · rcases e_or hf with hf | hf
          · exact w_X11_readsRow_J80 ih hk160 _ _ _ _ _ _ _ p_v0 (fr_sI f0 p_v0) hf
          · exact w_X11_readsRow_J80 ih hk160 _ _ _ _ _ _ _ p_v0 (fr_sI f0 p_v0) hf
theorem w_X11_readsRow_J169 {P : Nat → Prop} {L : eL} {h0 : eH} {r : eH × Int32}  : ∀ (h : eH) (v0 : Nat) (v3 : Int32), P v0 → fr P h0 h → f_X11_readsRow_J169 L h v0 v3 = some r → fr P h0 r.1 := by
  intro h v0 v3 p_v0 f0 hf
  unfold f_X11_readsRow_J169 at hf
  rcases e_or hf with hf | hf
  · exact fr_oW hf f0
  · replace hf := (e_if hf).2
    rcases e_or hf with hf | hf
    · exact fr_oW hf f0
    · exact fr_oW hf f0
theorem w_X11_readsRow_J13 {P : Nat → Prop} {L : eL} {h0 : eH} {r : eH × Int32}  : ∀ (h : eH) (v0 : Nat) (v1 : Int32) (s0 : Int32), P v0 → fr P h0 h → f_X11_readsRow_J13 L h v0 v1 s0 = some r → fr P h0 r.1 := by
  intro h v0 v1 s0 p_v0 f0 hf
  unfold f_X11_readsRow_J13 at hf
  replace hf := (e_if hf).2
  rcases e_or hf with hf | hf
  · obtain ⟨r1, hr2, hf⟩ := e_bd hf
    refine w_X11_readsRow_L36 ?_ e_fu _ _ _ _ _ _ p_v0 f0 hf
    · intro h10 w0_11 w1_12 w3_13 p_w0_11 f14 hf
      rcases e_or hf with hf | hf
      · replace hf := (e_if hf).2
        exact w_X11_readsRow_J169 _ _ _ p_w0_11 (fr_sI f14 p_w0_11) hf
      · exact w_X11_readsRow_J169 _ _ _ p_w0_11 f14 hf
  · obtain ⟨r15, hr16, hf⟩ := e_bd hf
    refine w_X11_readsRow_L36 ?_ e_fu _ _ _ _ _ _ p_v0 f0 hf
    · intro h17 w0_18 w1_19 w3_20 p_w0_18 f21 hf
      rcases e_or hf with hf | hf
      · replace hf := (e_if hf).2
        exact w_X11_readsRow_J169 _ _ _ p_w0_18 (fr_sI f21 p_w0_18) hf
      · exact w_X11_readsRow_J169 _ _ _ p_w0_18 f21 hf
theorem w_X11_readsRow {P : Nat → Prop} {L : eL} {h0 h : eH} {v0 : Nat} {v1 : Int32} {r : eH × Int32} (p_v0 : P v0) (f0 : fr P h0 h) (hf : f_X11_readsRow L h v0 v1 = some r) : fr P h0 r.1 := by
  unfold f_X11_readsRow at hf
  rcases e_or hf with hf | hf
  · exact w_X11_readsRow_J13 _ _ _ _ p_v0 f0 hf
  · replace hf := (e_if hf).2
    exact w_X11_readsRow_J13 _ _ _ _ p_v0 f0 hf
theorem w_X11_takes_J29 {P : Nat → Prop} {L : eL} {h0 : eH} {r : eH × Int32}  : ∀ (h : eH) (v0 : Nat) (s0 : Int32), P v0 → fr P h0 h → f_X11_takes_J29 L h v0 s0 = some r → fr P h0 r.1 := by
  intro h v0 s0 p_v0 f0 hf
  unfold f_X11_takes_J29 at hf
  replace hf := (e_if hf).2
  replace hf := (e_if hf).2
  exact fr_oW hf (fr_sI f0 p_v0)
theorem w_X11_takes {P : Nat → Prop} {L : eL} {h0 h : eH} {v0 : Nat} {v1 : Int32} {r : eH × Int32} (p_v0 : P v0) (f0 : fr P h0 h) (hf : f_X11_takes L h v0 v1 = some r) : fr P h0 r.1 := by
  unfold f_X11_takes at hf
  replace hf := (e_if hf).2
  rcases e_or hf with hf | hf
  · exact w_X11_takes_J29 _ _ _ p_v0 f0 hf
  · obtain ⟨b1, hb2, hf⟩ := e_bd hf
    have p3 := f0.1 _ _ _ p_v0 hb2
    replace hf := (e_if hf).2
    rcases e_or hf with hf | hf
    · exact w_X11_takes_J29 _ _ _ p_v0 f0 hf
    · exact w_X11_takes_J29 _ _ _ p_v0 f0 hf
theorem w_X11_flat_L33 {P : Nat → Prop} {L : eL} {h0 : eH} {r : eH × Int32} {k64 : eH → Nat → Int32 → Int32 → Option (eH × Int32)} (hk64 : ∀ (h : eH) (v0 : Nat) (v1 : Int32) (v2 : Int32), P v0 → fr P h0 h → k64 h v0 v1 v2 = some r → fr P h0 r.1) : ∀ (n : Nat) (h : eH) (v0 : Nat) (v1 : Int32) (v2 : Int32), P v0 → fr P h0 h → f_X11_flat_L33 L n k64 h v0 v1 v2 = some r → fr P h0 r.1 := by
  intro n
  induction n with
  | zero => intro h v0 v1 v2 p_v0 f0 hf; exact absurd hf (by simp [f_X11_flat_L33])
  | succ n ih =>
    intro h v0 v1 v2 p_v0 f0 hf
    unfold f_X11_flat_L33 at hf
    rcases e_or hf with hf | hf
    · exact hk64 _ _ _ _ p_v0 f0 hf
    · rcases e_or hf with hf | hf
      · exact hk64 _ _ _ _ p_v0 f0 hf
      · replace hf := (e_if hf).2
        obtain ⟨r7, hr8, hf⟩ := e_bd hf
        have f9 := w_X11_takes p_v0 f0 hr8
        rcases e_or hf with hf | hf
        · exact hk64 _ _ _ _ p_v0 f9 hf
        · obtain ⟨r10, hr11, hf⟩ := e_bd hf
          have f12 := w_X11_readsRow p_v0 f9 hr11
          exact ih _ _ _ _ p_v0 f12 hf
theorem w_X11_flat_J121 {P : Nat → Prop} {L : eL} {h0 : eH} {r : eH × Int32} {k94 : eH → Nat → Int32 → Int32 → Int32 → Int32 → Option (eH × Int32)} {k156 : eH → Nat → Int32 → Int32 → Int32 → Option (eH × Int32)} (hk94 : ∀ (h : eH) (v0 : Nat) (v1 : Int32) (v3 : Int32) (v4 : Int32) (v5 : Int32), P v0 → fr P h0 h → k94 h v0 v1 v3 v4 v5 = some r → fr P h0 r.1) (hk156 : ∀ (h : eH) (v0 : Nat) (v1 : Int32) (v3 : Int32) (v4 : Int32), P v0 → fr P h0 h → k156 h v0 v1 v3 v4 = some r → fr P h0 r.1) : ∀ (h : eH) (v0 : Nat) (v1 : Int32) (v4 : Int32) (v5 : Int32) (s0 : Int32) (s1 : Int32), P v0 → fr P h0 h → f_X11_flat_J121 L k94 k156 h v0 v1 v4 v5 s0 s1 = some r → fr P h0 r.1 := by
  intro h v0 v1 v4 v5 s0 s1 p_v0 f0 hf
  unfold f_X11_flat_J121 at hf
  rcases e_or hf with hf | hf
  · exact hk94 _ _ _ _ _ _ p_v0 f0 hf
  · replace hf := (e_if hf).2
    obtain ⟨b21, hb22, hf⟩ := e_bd hf
    have p23 := f0.1 _ _ _ p_v0 hb22
    replace hf := (e_if hf).2
    rcases e_or hf with hf | hf
    · exact hk94 _ _ _ _ _ _ p_v0 f0 hf
    · exact hk94 _ _ _ _ _ _ p_v0 f0 hf
theorem w_X11_flat_L94 {P : Nat → Prop} {L : eL} {h0 : eH} {r : eH × Int32} {k156 : eH → Nat → Int32 → Int32 → Int32 → Option (eH × Int32)} (hk156 : ∀ (h : eH) (v0 : Nat) (v1 : Int32) (v3 : Int32) (v4 : Int32), P v0 → fr P h0 h → k156 h v0 v1 v3 v4 = some r → fr P h0 r.1) : ∀ (n : Nat) (h : eH) (v0 : Nat) (v1 : Int32) (v3 : Int32) (v4 : Int32) (v5 : Int32), P v0 → fr P h0 h → f_X11_flat_L94 L n k156 h v0 v1 v3 v4 v5 = some r → fr P h0 r.1 := by
  intro n
  induction n with
  | zero => intro h v0 v1 v3 v4 v5 p_v0 f0 hf; exact absurd hf (by simp [f_X11_flat_L94])
  | succ n ih =>
    intro h v0 v1 v3 v4 v5 p_v0 f0 hf
    unfold f_X11_flat_L94 at hf
    replace hf := (e_if hf).2
    rcases e_or hf with hf | hf
    · exact hk156 _ _ _ _ _ p_v0 f0 hf
    · obtain ⟨b18, hb19, hf⟩ := e_bd hf
      have p20 := f0.1 _ _ _ p_v0 hb19
      replace hf := (e_if hf).2
      rcases e_or hf with hf | hf
      · exact w_X11_flat_J121 ih hk156 _ _ _ _ _ _ _ p_v0 f0 hf
      · exact w_X11_flat_J121 ih hk156 _ _ _ _ _ _ _ p_v0 f0 hf
theorem w_X11_flat_L187 {P : Nat → Prop} {L : eL} {h0 : eH} {r : eH × Int32} {k232 : eH → Nat → Int32 → Int32 → Option (eH × Int32)} (hk232 : ∀ (h : eH) (v0 : Nat) (v3 : Int32) (v4 : Int32), P v0 → fr P h0 h → k232 h v0 v3 v4 = some r → fr P h0 r.1) : ∀ (n : Nat) (h : eH) (v0 : Nat) (v3 : Int32) (v4 : Int32) (v5 : Int32), P v0 → fr P h0 h → f_X11_flat_L187 L n k232 h v0 v3 v4 v5 = some r → fr P h0 r.1 := by
  intro n
  induction n with
  | zero => intro h v0 v3 v4 v5 p_v0 f0 hf; exact absurd hf (by simp [f_X11_flat_L187])
  | succ n ih =>
    intro h v0 v3 v4 v5 p_v0 f0 hf
    unfold f_X11_flat_L187 at hf
    rcases e_or hf with hf | hf
    · exact hk232 _ _ _ _ p_v0 f0 hf
    · replace hf := (e_if hf).2
      obtain ⟨b33, hb34, hf⟩ := e_bd hf
      have p35 := f0.1 _ _ _ p_v0 hb34
      rcases e_or hf with hf | hf
      · replace hf := (e_if hf).2
        exact ih _ _ _ _ _ p_v0 (fr_sI f0 p35) hf
      · obtain ⟨b36, hb37, hf⟩ := e_bd hf
        have p38 := f0.1 _ _ _ p_v0 hb37
        replace hf := (e_if hf).2
        replace hf := (e_if hf).2
        obtain ⟨h39, hh40, hf⟩ := e_bd hf
        have f41 := fr_oV hh40 (fr_sI f0 p35)
        exact ih _ _ _ _ _ p_v0 f41 hf
theorem w_X11_flat_L235 {P : Nat → Prop} {L : eL} {h0 : eH} {r : eH × Int32} {k256 : eH → Nat → Int32 → Int32 → Option (eH × Int32)} (hk256 : ∀ (h : eH) (v0 : Nat) (v3 : Int32) (v4 : Int32), P v0 → fr P h0 h → k256 h v0 v3 v4 = some r → fr P h0 r.1) : ∀ (n : Nat) (h : eH) (v0 : Nat) (v3 : Int32) (v4 : Int32) (v5 : Int32), P v0 → fr P h0 h → f_X11_flat_L235 L n k256 h v0 v3 v4 v5 = some r → fr P h0 r.1 := by
  intro n
  induction n with
  | zero => intro h v0 v3 v4 v5 p_v0 f0 hf; exact absurd hf (by simp [f_X11_flat_L235])
  | succ n ih =>
    intro h v0 v3 v4 v5 p_v0 f0 hf
    unfold f_X11_flat_L235 at hf
    rcases e_or hf with hf | hf
    · exact hk256 _ _ _ _ p_v0 f0 hf
    · replace hf := (e_if hf).2
      obtain ⟨b47, hb48, hf⟩ := e_bd hf
      have p49 := f0.1 _ _ _ p_v0 hb48
      replace hf := (e_if hf).2
      exact ih _ _ _ _ _ p_v0 (fr_sI f0 p49) hf
theorem w_X11_flat_L301 {P : Nat → Prop} {L : eL} {h0 : eH} {r : eH × Int32} {k321 : eH → Int32 → Option (eH × Int32)} (hk321 : ∀ (h : eH) (v3 : Int32), fr P h0 h → k321 h v3 = some r → fr P h0 r.1) : ∀ (n : Nat) (h : eH) (v0 : Nat) (v3 : Int32) (v5 : Int32), P v0 → fr P h0 h → f_X11_flat_L301 L n k321 h v0 v3 v5 = some r → fr P h0 r.1 := by
  intro n
  induction n with
  | zero => intro h v0 v3 v5 p_v0 f0 hf; exact absurd hf (by simp [f_X11_flat_L301])
  | succ n ih =>
    intro h v0 v3 v5 p_v0 f0 hf
    unfold f_X11_flat_L301 at hf
    rcases e_or hf with hf | hf
    · exact hk321 _ _ f0 hf
    · replace hf := (e_if hf).2
      obtain ⟨b64, hb65, hf⟩ := e_bd hf
      have p66 := f0.1 _ _ _ p_v0 hb65
      replace hf := (e_if hf).2
      obtain ⟨h67, hh68, hf⟩ := e_bd hf
      have f69 := fr_oV hh68 (fr_sI f0 p66)
      exact ih _ _ _ _ p_v0 f69 hf
theorem w_X11_flat_J278 {P : Nat → Prop} {L : eL} {h0 : eH} {r : eH × Int32}  : ∀ (h : eH) (v0 : Nat) (v3 : Int32) (s0 : Nat) (s1 : Int32) (s2 : Int32), P v0 → P s0 → fr P h0 h → f_X11_flat_J278 L h v0 v3 s0 s1 s2 = some r → fr P h0 r.1 := by
  intro h v0 v3 s0 s1 s2 p_v0 p_s0 f0 hf
  unfold f_X11_flat_J278 at hf
  replace hf := (e_if hf).2
  replace hf := (e_if hf).2
  obtain ⟨b58, hb59, hf⟩ := e_bd hf
  have p60 := (fr_sI f0 p_s0).1 _ _ _ p_v0 hb59
  replace hf := (e_if hf).2
  obtain ⟨h61, hh62, hf⟩ := e_bd hf
  have f63 := fr_oV hh62 (fr_sI (fr_sI f0 p_s0) p60)
  refine w_X11_flat_L301 ?_ e_fu _ _ _ _ p_v0 (fr_sI (fr_sI f63 p_v0) p_v0) hf
  · intro h70 w3_71 f72 hf
    exact fr_oW hf f72
theorem w_X11_flat_J64 {P : Nat → Prop} {L : eL} {h0 : eH} {r : eH × Int32}  : ∀ (h : eH) (v0 : Nat) (v1 : Int32) (v2 : Int32), P v0 → fr P h0 h → f_X11_flat_J64 L h v0 v1 v2 = some r → fr P h0 r.1 := by
  intro h v0 v1 v2 p_v0 f0 hf
  unfold f_X11_flat_J64 at hf
  rcases e_or hf with hf | hf
  · replace hf := (e_if hf).2
    exact fr_oW hf f0
  · replace hf := (e_if hf).2
    rcases e_or hf with hf | hf
    · refine w_X11_flat_L94 ?_ e_fu _ _ _ _ _ _ p_v0 f0 hf
      · intro h24 w0_25 w1_26 w3_27 w4_28 p_w0_25 f29 hf
        rcases e_or hf with hf | hf
        · exact fr_oW hf f29
        · replace hf := (e_if hf).2
          obtain ⟨h30, hh31, hf⟩ := e_bd hf
          have f32 := fr_oV hh31 (fr_sI (fr_sI f29 p_w0_25) p_w0_25)
          refine w_X11_flat_L187 ?_ e_fu _ _ _ _ _ p_w0_25 (fr_sI f32 p_w0_25) hf
          · intro h42 w0_43 w3_44 w4_45 p_w0_43 f46 hf
            refine w_X11_flat_L235 ?_ e_fu _ _ _ _ _ p_w0_43 f46 hf
            · intro h50 w0_51 w3_52 w4_53 p_w0_51 f54 hf
              replace hf := (e_if hf).2
              obtain ⟨b55, hb56, hf⟩ := e_bd hf
              have p57 := f54.1 _ _ _ p_w0_51 hb56
              rcases e_or hf with hf | hf
              · exact w_X11_flat_J278 _ _ _ _ _ _ p_w0_51 p57 f54 hf
              · exact w_X11_flat_J278 _ _ _ _ _ _ p_w0_51 p57 f54 hf
    · exact fr_oW hf f0
theorem w_X11_flat {P : Nat → Prop} {L : eL} {h0 h : eH} {v0 : Nat} {r : eH × Int32} (p_v0 : P v0) (f0 : fr P h0 h) (hf : f_X11_flat L h v0 = some r) : fr P h0 r.1 := by
  unfold f_X11_flat at hf
  replace hf := (e_if hf).2
  obtain ⟨r1, hr2, hf⟩ := e_bd hf
  have f3 := w_X11_begins p_v0 (fr_sI f0 p_v0) hr2
  obtain ⟨r4, hr5, hf⟩ := e_bd hf
  have f6 := w_X11_readsRow p_v0 (fr_sI (fr_sI f3 p_v0) p_v0) hr5
  refine w_X11_flat_L33 ?_ e_fu _ _ _ _ p_v0 f6 hf
  · intro h13 w0_14 w1_15 w2_16 p_w0_14 f17 hf
    exact w_X11_flat_J64 _ _ _ _ p_w0_14 f17 hf
theorem w_X11_codes {P : Nat → Prop} {L : eL} {h0 h : eH} {v0 : Nat} {v1 : Int32} {r : eH} (p_v0 : P v0) (f0 : fr P h0 h) (hf : f_X11_codes L h v0 v1 = some r) : fr P h0 r := by
  unfold f_X11_codes at hf
  replace hf := (e_if hf).2
  obtain ⟨b1, hb2, hf⟩ := e_bd hf
  have p3 := f0.1 _ _ _ p_v0 hb2
  replace hf := (e_if hf).2
  obtain ⟨h4, hh5, hf⟩ := e_bd hf
  have f6 := fr_oV hh5 (fr_sI (fr_sI f0 p3) p_v0)
  exact fr_oV hf f6
theorem w_X11_number_L13 {P : Nat → Prop} {L : eL} {h0 : eH} {r : eH × Int32} {k59 : eH → Int32 → Option (eH × Int32)} (hk59 : ∀ (h : eH) (v2 : Int32), fr P h0 h → k59 h v2 = some r → fr P h0 r.1) : ∀ (n : Nat) (h : eH) (v0 : Nat) (v1 : Int32) (v2 : Int32) (v3 : Int32), P v0 → fr P h0 h → f_X11_number_L13 L n k59 h v0 v1 v2 v3 = some r → fr P h0 r.1 := by
  intro n
  induction n with
  | zero => intro h v0 v1 v2 v3 p_v0 f0 hf; exact absurd hf (by simp [f_X11_number_L13])
  | succ n ih =>
    intro h v0 v1 v2 v3 p_v0 f0 hf
    unfold f_X11_number_L13 at hf
    rcases e_or hf with hf | hf
    · exact hk59 _ _ f0 hf
    · replace hf := (e_if hf).2
      obtain ⟨r3, hr4, hf⟩ := e_bd hf
      rcases e_or hf with hf | hf
      · exact hk59 _ _ f0 hf
      · obtain ⟨b5, hb6, hf⟩ := e_bd hf
        have p7 := f0.1 _ _ _ p_v0 hb6
        replace hf := (e_if hf).2
        exact ih _ _ _ _ _ p_v0 (fr_sI f0 p_v0) hf
theorem w_X11_number {P : Nat → Prop} {L : eL} {h0 h : eH} {v0 : Nat} {v1 : Int32} {r : eH × Int32} (p_v0 : P v0) (f0 : fr P h0 h) (hf : f_X11_number L h v0 v1 = some r) : fr P h0 r.1 := by
  unfold f_X11_number at hf
  replace hf := (e_if hf).2
  obtain ⟨r1, hr2, hf⟩ := e_bd hf
  rcases e_or hf with hf | hf
  · exact fr_oW hf f0
  · refine w_X11_number_L13 ?_ e_fu _ _ _ _ _ p_v0 f0 hf
    · intro h8 w2_9 f10 hf
      exact fr_oW hf f10
theorem w_X11_takesOf {P : Nat → Prop} {L : eL} {h0 h : eH} {v0 : Nat} {v1 : Nat} {r : eH × Int32} (p_v0 : P v0) (p_v1 : P v1) (f0 : fr P h0 h) (hf : f_X11_takesOf L h v0 v1 = some r) : fr P h0 r.1 := by
  unfold f_X11_takesOf at hf
  replace hf := (e_if hf).2
  obtain ⟨r1, hr2, hf⟩ := e_bd hf
  rcases e_or hf with hf | hf
  · exact fr_oW hf (fr_sI f0 p_v0)
  · exact fr_oW hf (fr_sI f0 p_v0)
theorem w_X11_readsThing_o {P : Nat → Prop} {L : eL} {h0 h : eH} {rec_X11_readsThing : eH → Nat → Option (eH × Int32)} {rec_X11_readsRank : eH → Nat → Int32 → Option (eH × Int32)} {v0 : Nat} {r : eH × Int32} (grec_X11_readsThing : ∀ (h : eH) (a0 : Nat) {z : eH × Int32}, P a0 → fr P h0 h → rec_X11_readsThing h a0 = some z → fr P h0 z.1) (grec_X11_readsRank : ∀ (h : eH) (a0 : Nat) (a1 : Int32) {z : eH × Int32}, P a0 → fr P h0 h → rec_X11_readsRank h a0 a1 = some z → fr P h0 z.1) (p_v0 : P v0) (f0 : fr P h0 h) (hf : f_X11_readsThing_o L rec_X11_readsThing rec_X11_readsRank h v0 = some r) : fr P h0 r.1 := by
  unfold f_X11_readsThing_o at hf
  replace hf := (e_if hf).2
  obtain ⟨r1, hr2, hf⟩ := e_bd hf
  have f3 := w_X11_takes p_v0 f0 hr2
  rcases e_or hf with hf | hf
  · obtain ⟨r4, hr5, hf⟩ := e_bd hf
    rcases e_or hf with hf | hf
    · obtain ⟨r6, hr7, hf⟩ := e_bd hf
      have f8 := w_X11_takesOf p_v0 (f3.2.2 _ (Nat.le_add_right _ _)) f3 hr7
      rcases e_or hf with hf | hf
      · rcases e_or hf with hf | hf
        · exact fr_oW hf f8
        · obtain ⟨r9, hr10, hf⟩ := e_bd hf
          have f11 := w_X11_takes p_v0 f8 hr10
          rcases e_or hf with hf | hf
          · exact fr_oW hf f11
          · obtain ⟨r12, hr13, hf⟩ := e_bd hf
            have f14 := grec_X11_readsRank _ _ _ p_v0 (fr_sI f11 p_v0) hr13
            rcases e_or hf with hf | hf
            · exact fr_oW hf f14
            · obtain ⟨r15, hr16, hf⟩ := e_bd hf
              have f17 := w_X11_takes p_v0 f14 hr16
              rcases e_or hf with hf | hf
              · exact fr_oW hf f17
              · exact fr_oW hf (fr_sI f17 p_v0)
      · obtain ⟨r18, hr19, hf⟩ := e_bd hf
        have f20 := w_X11_codes p_v0 f8 hr19
        exact fr_oW hf f20
    · obtain ⟨r21, hr22, hf⟩ := e_bd hf
      have f23 := w_X11_number p_v0 f3 hr22
      obtain ⟨r24, hr25, hf⟩ := e_bd hf
      have f26 := w_X11_codes p_v0 f23 hr25
      exact fr_oW hf f26
  · obtain ⟨r27, hr28, hf⟩ := e_bd hf
    have f29 := grec_X11_readsThing _ _ p_v0 f3 hr28
    obtain ⟨r30, hr31, hf⟩ := e_bd hf
    have f32 := w_X11_codes p_v0 f29 hr31
    replace hf := (e_if hf).2
    exact fr_oW hf f32
theorem w_X11_readsRank_o_J96 {P : Nat → Prop} {L : eL} {h0 : eH} {rec_X11_readsThing : eH → Nat → Option (eH × Int32)} {rec_X11_readsRank : eH → Nat → Int32 → Option (eH × Int32)} {r : eH × Int32} {k24 : eH → Nat → Int32 → Int32 → Option (eH × Int32)} {k58 : eH → Option (eH × Int32)} {k70 : eH → Option (eH × Int32)} {k113 : eH → Option (eH × Int32)} (grec_X11_readsThing : ∀ (h : eH) (a0 : Nat) {z : eH × Int32}, P a0 → fr P h0 h → rec_X11_readsThing h a0 = some z → fr P h0 z.1) (grec_X11_readsRank : ∀ (h : eH) (a0 : Nat) (a1 : Int32) {z : eH × Int32}, P a0 → fr P h0 h → rec_X11_readsRank h a0 a1 = some z → fr P h0 z.1) (hk24 : ∀ (h : eH) (v0 : Nat) (v1 : Int32) (v2 : Int32), P v0 → fr P h0 h → k24 h v0 v1 v2 = some r → fr P h0 r.1) (hk58 : ∀ (h : eH), fr P h0 h → k58 h = some r → fr P h0 r.1) (hk70 : ∀ (h : eH), fr P h0 h → k70 h = some r → fr P h0 r.1) (hk113 : ∀ (h : eH), fr P h0 h → k113 h = some r → fr P h0 r.1) : ∀ (h : eH) (v0 : Nat) (v1 : Int32) (s0 : Nat) (s1 : Int32) (s2 : Int32), P v0 → P s0 → fr P h0 h → f_X11_readsRank_o_J96 L rec_X11_readsThing rec_X11_readsRank k24 k58 k70 k113 h v0 v1 s0 s1 s2 = some r → fr P h0 r.1 := by
  intro h v0 v1 s0 s1 s2 p_v0 p_s0 f0 hf
  unfold f_X11_readsRank_o_J96 at hf
  replace hf := (e_if hf).2
  obtain ⟨r10, hr11, hf⟩ := e_bd hf
  have f12 := w_X11_codes p_s0 f0 hr11
  rcases e_or hf with hf | hf
  · exact hk24 _ _ _ _ p_v0 f12 hf
  · exact hk24 _ _ _ _ p_v0 f12 hf
theorem w_X11_readsRank_o_J50 {P : Nat → Prop} {L : eL} {h0 : eH} {rec_X11_readsThing : eH → Nat → Option (eH × Int32)} {rec_X11_readsRank : eH → Nat → Int32 → Option (eH × Int32)} {r : eH × Int32} {k24 : eH → Nat → Int32 → Int32 → Option (eH × Int32)} {k58 : eH → Option (eH × Int32)} {k70 : eH → Option (eH × Int32)} {k113 : eH → Option (eH × Int32)} (grec_X11_readsThing : ∀ (h : eH) (a0 : Nat) {z : eH × Int32}, P a0 → fr P h0 h → rec_X11_readsThing h a0 = some z → fr P h0 z.1) (grec_X11_readsRank : ∀ (h : eH) (a0 : Nat) (a1 : Int32) {z : eH × Int32}, P a0 → fr P h0 h → rec_X11_readsRank h a0 a1 = some z → fr P h0 z.1) (hk24 : ∀ (h : eH) (v0 : Nat) (v1 : Int32) (v2 : Int32), P v0 → fr P h0 h → k24 h v0 v1 v2 = some r → fr P h0 r.1) (hk58 : ∀ (h : eH), fr P h0 h → k58 h = some r → fr P h0 r.1) (hk70 : ∀ (h : eH), fr P h0 h → k70 h = some r → fr P h0 r.1) (hk113 : ∀ (h : eH), fr P h0 h → k113 h = some r → fr P h0 r.1) : ∀ (h : eH) (v0 : Nat) (v1 : Int32) (s0 : Nat) (s1 : Nat), P v0 → P s0 → P s1 → fr P h0 h → f_X11_readsRank_o_J50 L rec_X11_readsThing rec_X11_readsRank k24 k58 k70 k113 h v0 v1 s0 s1 = some r → fr P h0 r.1 := by
  intro h v0 v1 s0 s1 p_v0 p_s0 p_s1 f0 hf
  unfold f_X11_readsRank_o_J50 at hf
  replace hf := (e_if hf).2
  obtain ⟨r4, hr5, hf⟩ := e_bd hf
  have f6 := w_X11_takesOf p_s0 p_s1 f0 hr5
  rcases e_or hf with hf | hf
  · replace hf := (e_if hf).2
    obtain ⟨r7, hr8, hf⟩ := e_bd hf
    have f9 := grec_X11_readsRank _ _ _ p_v0 f6 hr8
    rcases e_or hf with hf | hf
    · exact hk70 _ f9 hf
    · rcases e_or hf with hf | hf
      · exact w_X11_readsRank_o_J96 grec_X11_readsThing grec_X11_readsRank hk24 hk58 hk70 hk113 _ _ _ _ _ _ p_v0 p_v0 f9 hf
      · rcases e_or hf with hf | hf
        · exact w_X11_readsRank_o_J96 grec_X11_readsThing grec_X11_readsRank hk24 hk58 hk70 hk113 _ _ _ _ _ _ p_v0 p_v0 f9 hf
        · exact w_X11_readsRank_o_J96 grec_X11_readsThing grec_X11_readsRank hk24 hk58 hk70 hk113 _ _ _ _ _ _ p_v0 p_v0 f9 hf
  · exact hk58 _ f6 hf
theorem w_X11_readsRank_o_L24 {P : Nat → Prop} {L : eL} {h0 : eH} {rec_X11_readsThing : eH → Nat → Option (eH × Int32)} {rec_X11_readsRank : eH → Nat → Int32 → Option (eH × Int32)} {r : eH × Int32} {k58 : eH → Option (eH × Int32)} {k70 : eH → Option (eH × Int32)} {k113 : eH → Option (eH × Int32)} (grec_X11_readsThing : ∀ (h : eH) (a0 : Nat) {z : eH × Int32}, P a0 → fr P h0 h → rec_X11_readsThing h a0 = some z → fr P h0 z.1) (grec_X11_readsRank : ∀ (h : eH) (a0 : Nat) (a1 : Int32) {z : eH × Int32}, P a0 → fr P h0 h → rec_X11_readsRank h a0 a1 = some z → fr P h0 z.1) (hk58 : ∀ (h : eH), fr P h0 h → k58 h = some r → fr P h0 r.1) (hk70 : ∀ (h : eH), fr P h0 h → k70 h = some r → fr P h0 r.1) (hk113 : ∀ (h : eH), fr P h0 h → k113 h = some r → fr P h0 r.1) : ∀ (n : Nat) (h : eH) (v0 : Nat) (v1 : Int32) (v2 : Int32), P v0 → fr P h0 h → f_X11_readsRank_o_L24 L rec_X11_readsThing rec_X11_readsRank n k58 k70 k113 h v0 v1 v2 = some r → fr P h0 r.1 := by
  intro n
  induction n with
  | zero => intro h v0 v1 v2 p_v0 f0 hf; exact absurd hf (by simp [f_X11_readsRank_o_L24])
  | succ n ih =>
    intro h v0 v1 v2 p_v0 f0 hf
    unfold f_X11_readsRank_o_L24 at hf
    rcases e_or hf with hf | hf
    · exact hk113 _ f0 hf
    · rcases e_or hf with hf | hf
      · exact w_X11_readsRank_o_J50 grec_X11_readsThing grec_X11_readsRank ih hk58 hk70 hk113 _ _ _ _ _ p_v0 p_v0 (f0.2.2 _ (Nat.le_add_right _ _)) f0 hf
      · rcases e_or hf with hf | hf
        · exact w_X11_readsRank_o_J50 grec_X11_readsThing grec_X11_readsRank ih hk58 hk70 hk113 _ _ _ _ _ p_v0 p_v0 (f0.2.2 _ (Nat.le_add_right _ _)) f0 hf
        · exact w_X11_readsRank_o_J50 grec_X11_readsThing grec_X11_readsRank ih hk58 hk70 hk113 _ _ _ _ _ p_v0 p_v0 (f0.2.2 _ (Nat.le_add_right _ _)) f0 hf
theorem w_X11_readsRank_o {P : Nat → Prop} {L : eL} {h0 h : eH} {rec_X11_readsThing : eH → Nat → Option (eH × Int32)} {rec_X11_readsRank : eH → Nat → Int32 → Option (eH × Int32)} {v0 : Nat} {v1 : Int32} {r : eH × Int32} (grec_X11_readsThing : ∀ (h : eH) (a0 : Nat) {z : eH × Int32}, P a0 → fr P h0 h → rec_X11_readsThing h a0 = some z → fr P h0 z.1) (grec_X11_readsRank : ∀ (h : eH) (a0 : Nat) (a1 : Int32) {z : eH × Int32}, P a0 → fr P h0 h → rec_X11_readsRank h a0 a1 = some z → fr P h0 z.1) (p_v0 : P v0) (f0 : fr P h0 h) (hf : f_X11_readsRank_o L rec_X11_readsThing rec_X11_readsRank h v0 v1 = some r) : fr P h0 r.1 := by
  unfold f_X11_readsRank_o at hf
  rcases e_or hf with hf | hf
  · replace hf := (e_if hf).2
    obtain ⟨r19, hr20, hf⟩ := e_bd hf
    have f21 := grec_X11_readsThing _ _ p_v0 f0 hr20
    replace hf := (e_if hf).2
    exact fr_oW hf f21
  · replace hf := (e_if hf).2
    obtain ⟨r1, hr2, hf⟩ := e_bd hf
    have f3 := grec_X11_readsRank _ _ _ p_v0 f0 hr2
    rcases e_or hf with hf | hf
    · exact fr_oW hf f3
    · refine w_X11_readsRank_o_L24 grec_X11_readsThing grec_X11_readsRank ?_ ?_ ?_ e_fu _ _ _ _ p_v0 f3 hf
      · intro h13 f14 hf
        exact fr_oW hf f14
      · intro h15 f16 hf
        exact fr_oW hf f16
      · intro h17 f18 hf
        exact fr_oW hf f18
theorem wg_X11_readsRank {P : Nat → Prop} {L : eL} {h0 : eH} : ∀ (n t : Nat) (h : eH) (x0 : Nat) (x1 : Int32) (r : eH × Int32), P x0 → fr P h0 h → fg_X11_readsRank L n t h x0 x1 = some r → fr P h0 r.1 := by
  intro n
  induction n with
  | zero => intro t h x0 x1 r p0 f0 hf; exact absurd hf (by simp [fg_X11_readsRank])
  | succ n ih =>
    intro t h x0 x1 r p0 f0 hf
    unfold fg_X11_readsRank at hf
    rcases e_or hf with hf | hf
    · exact w_X11_readsRank_o (fun hh a0 {z} pa0 ff hz => ih _ _ _ _ z pa0 ff hz) (fun hh a0 a1 {z} pa0 ff hz => ih _ _ _ _ z pa0 ff hz) p0 f0 hf
    · exact w_X11_readsThing_o (fun hh a0 {z} pa0 ff hz => ih _ _ _ _ z pa0 ff hz) (fun hh a0 a1 {z} pa0 ff hz => ih _ _ _ _ z pa0 ff hz) p0 f0 hf
theorem w_X11_readsRank {P : Nat → Prop} {L : eL} {h0 h : eH} {x0 : Nat} {x1 : Int32} {r : eH × Int32} (p0 : P x0) (f0 : fr P h0 h) (hf : f_X11_readsRank L h x0 x1 = some r) : fr P h0 r.1 := wg_X11_readsRank 100 0 h x0 x1 r p0 f0 hf
theorem w_X11_readsThing {P : Nat → Prop} {L : eL} {h0 h : eH} {x0 : Nat} {r : eH × Int32} (p0 : P x0) (f0 : fr P h0 h) (hf : f_X11_readsThing L h x0 = some r) : fr P h0 r.1 := wg_X11_readsRank 100 1 h x0 0 r p0 f0 hf
theorem w_X11_rule_L61 {P : Nat → Prop} {L : eL} {h0 : eH} {r : eH × Int32} {k90 : eH → Option (eH × Int32)} (hk90 : ∀ (h : eH), fr P h0 h → k90 h = some r → fr P h0 r.1) : ∀ (n : Nat) (h : eH) (v0 : Nat) (v4 : Int32), P v0 → fr P h0 h → f_X11_rule_L61 L n k90 h v0 v4 = some r → fr P h0 r.1 := by
  intro n
  induction n with
  | zero => intro h v0 v4 p_v0 f0 hf; exact absurd hf (by simp [f_X11_rule_L61])
  | succ n ih =>
    intro h v0 v4 p_v0 f0 hf
    unfold f_X11_rule_L61 at hf
    replace hf := (e_if hf).2
    rcases e_or hf with hf | hf
    · exact hk90 _ f0 hf
    · obtain ⟨b6, hb7, hf⟩ := e_bd hf
      have p8 := f0.1 _ _ _ p_v0 hb7
      obtain ⟨b9, hb10, hf⟩ := e_bd hf
      have p11 := f0.1 _ _ _ p_v0 hb10
      replace hf := (e_if hf).2
      replace hf := (e_if hf).2
      obtain ⟨h12, hh13, hf⟩ := e_bd hf
      have f14 := fr_oV hh13 (fr_sI f0 p8)
      exact ih _ _ _ p_v0 f14 hf
theorem w_X11_rule_J34 {P : Nat → Prop} {L : eL} {h0 : eH} {r : eH × Int32}  : ∀ (h : eH) (v0 : Nat) (v1 : Int32) (s0 : Int32), P v0 → fr P h0 h → f_X11_rule_J34 L h v0 v1 s0 = some r → fr P h0 r.1 := by
  intro h v0 v1 s0 p_v0 f0 hf
  unfold f_X11_rule_J34 at hf
  replace hf := (e_if hf).2
  obtain ⟨r4, hr5, hf⟩ := e_bd hf
  rcases e_or hf with hf | hf
  · refine w_X11_rule_L61 ?_ e_fu _ _ _ p_v0 (fr_sI f0 p_v0) hf
    · intro h15 f16 hf
      exact fr_oW hf f16
  · exact fr_oW hf f0
theorem w_X11_rule {P : Nat → Prop} {L : eL} {h0 h : eH} {v0 : Nat} {r : eH × Int32} (p_v0 : P v0) (f0 : fr P h0 h) (hf : f_X11_rule L h v0 = some r) : fr P h0 r.1 := by
  unfold f_X11_rule at hf
  replace hf := (e_if hf).2
  obtain ⟨r1, hr2, hf⟩ := e_bd hf
  have f3 := w_X11_begins p_v0 (fr_sI f0 p_v0) hr2
  rcases e_or hf with hf | hf
  · exact w_X11_rule_J34 _ _ _ _ p_v0 (fr_sI f3 p_v0) hf
  · obtain ⟨r17, hr18, hf⟩ := e_bd hf
    have f19 := w_X11_readsRank p_v0 (fr_sI f3 p_v0) hr18
    rcases e_or hf with hf | hf
    · exact w_X11_rule_J34 _ _ _ _ p_v0 f19 hf
    · exact w_X11_rule_J34 _ _ _ _ p_v0 f19 hf
theorem w_X11_refuse {P : Nat → Prop} {L : eL} {h0 h : eH} {v0 : Nat} {r : eH × Int32} (p_v0 : P v0) (f0 : fr P h0 h) (hf : f_X11_refuse L h v0 = some r) : fr P h0 r.1 := by
  unfold f_X11_refuse at hf
  replace hf := (e_if hf).2
  exact fr_oW hf (fr_sI f0 p_v0)
theorem w_X11_spot {P : Nat → Prop} {L : eL} {h0 h : eH} {v0 : Nat} {v1 : Int32} {v2 : Int32} {r : eH × Int32} (p_v0 : P v0) (f0 : fr P h0 h) (hf : f_X11_spot L h v0 v1 v2 = some r) : fr P h0 r.1 := by
  unfold f_X11_spot at hf
  replace hf := (e_if hf).2
  obtain ⟨r1, hr2, hf⟩ := e_bd hf
  rcases e_or hf with hf | hf
  · obtain ⟨r3, hr4, hf⟩ := e_bd hf
    have f5 := w_X11_refuse p_v0 (fr_sI f0 p_v0) hr4
    exact fr_oW hf f5
  · rcases e_or hf with hf | hf
    · obtain ⟨r23, hr24, hf⟩ := e_bd hf
      have f25 := w_X11_refuse p_v0 (fr_sI f0 p_v0) hr24
      exact fr_oW hf f25
    · rcases e_or hf with hf | hf
      · obtain ⟨b6, hb7, hf⟩ := e_bd hf
        have p8 := (fr_sI f0 p_v0).1 _ _ _ p_v0 hb7
        replace hf := (e_if hf).2
        exact fr_oW hf (fr_sI f0 p_v0)
      rcases e_or hf with hf | hf
      · obtain ⟨b9, hb10, hf⟩ := e_bd hf
        have p11 := (fr_sI f0 p_v0).1 _ _ _ p_v0 hb10
        replace hf := (e_if hf).2
        exact fr_oW hf (fr_sI f0 p_v0)
      rcases e_or hf with hf | hf
      · obtain ⟨b12, hb13, hf⟩ := e_bd hf
        have p14 := (fr_sI f0 p_v0).1 _ _ _ p_v0 hb13
        replace hf := (e_if hf).2
        exact fr_oW hf (fr_sI f0 p_v0)
      rcases e_or hf with hf | hf
      · rcases e_or hf with hf | hf
        · exact fr_oW hf (fr_sI f0 p_v0)
        · exact fr_oW hf (fr_sI f0 p_v0)
      rcases e_or hf with hf | hf
      · obtain ⟨b15, hb16, hf⟩ := e_bd hf
        have p17 := (fr_sI f0 p_v0).1 _ _ _ p_v0 hb16
        replace hf := (e_if hf).2
        rcases e_or hf with hf | hf
        · exact fr_oW hf (fr_sI f0 p_v0)
        · exact fr_oW hf (fr_sI f0 p_v0)
      · obtain ⟨b18, hb19, hf⟩ := e_bd hf
        have p20 := (fr_sI f0 p_v0).1 _ _ _ p_v0 hb19
        obtain ⟨r21, hr22, hf⟩ := e_bd hf
        exact fr_oW hf (fr_sI f0 p_v0)
theorem w_X11_ruled_L4 {P : Nat → Prop} {L : eL} {h0 : eH} {r : eH × Int32} {k125 : eH → Nat → Option (eH × Int32)} (hk125 : ∀ (h : eH) (v0 : Nat), P v0 → fr P h0 h → k125 h v0 = some r → fr P h0 r.1) : ∀ (n : Nat) (h : eH) (v0 : Nat) (v1 : Int32) (v2 : Int32), P v0 → fr P h0 h → f_X11_ruled_L4 L n k125 h v0 v1 v2 = some r → fr P h0 r.1 := by
  intro n
  induction n with
  | zero => intro h v0 v1 v2 p_v0 f0 hf; exact absurd hf (by simp [f_X11_ruled_L4])
  | succ n ih =>
    intro h v0 v1 v2 p_v0 f0 hf
    unfold f_X11_ruled_L4 at hf
    replace hf := (e_if hf).2
    rcases e_or hf with hf | hf
    · exact hk125 _ _ p_v0 f0 hf
    · obtain ⟨b1, hb2, hf⟩ := e_bd hf
      have p3 := f0.1 _ _ _ p_v0 hb2
      replace hf := (e_if hf).2
      rcases e_or hf with hf | hf
      · obtain ⟨b30, hb31, hf⟩ := e_bd hf
        have p32 := f0.1 _ _ _ p_v0 hb31
        obtain ⟨b33, hb34, hf⟩ := e_bd hf
        have p35 := f0.1 _ _ _ p_v0 hb34
        replace hf := (e_if hf).2
        replace hf := (e_if hf).2
        obtain ⟨h36, hh37, hf⟩ := e_bd hf
        have f38 := fr_oV hh37 (fr_sI f0 p32)
        exact ih _ _ _ _ p_v0 f38 hf
      · rcases e_or hf with hf | hf
        · obtain ⟨b4, hb5, hf⟩ := e_bd hf
          have p6 := f0.1 _ _ _ p_v0 hb5
          rcases e_or hf with hf | hf
          · replace hf := (e_if hf).2
            obtain ⟨h7, hh8, hf⟩ := e_bd hf
            have f9 := fr_oV hh8 (fr_sI f0 p6)
            exact ih _ _ _ _ p_v0 f9 hf
          · obtain ⟨b10, hb11, hf⟩ := e_bd hf
            have p12 := f0.1 _ _ _ p_v0 hb11
            replace hf := (e_if hf).2
            replace hf := (e_if hf).2
            obtain ⟨h13, hh14, hf⟩ := e_bd hf
            have f15 := fr_oV hh14 (fr_sI f0 p6)
            exact ih _ _ _ _ p_v0 f15 hf
        · obtain ⟨b16, hb17, hf⟩ := e_bd hf
          have p18 := f0.1 _ _ _ p_v0 hb17
          obtain ⟨b19, hb20, hf⟩ := e_bd hf
          have p21 := f0.1 _ _ _ p_v0 hb20
          replace hf := (e_if hf).2
          obtain ⟨b22, hb23, hf⟩ := e_bd hf
          have p24 := f0.1 _ _ _ p_v0 hb23
          replace hf := (e_if hf).2
          obtain ⟨r25, hr26, hf⟩ := e_bd hf
          replace hf := (e_if hf).2
          obtain ⟨h27, hh28, hf⟩ := e_bd hf
          have f29 := fr_oV hh28 (fr_sI f0 p18)
          exact ih _ _ _ _ p_v0 f29 hf
theorem w_X11_ruled {P : Nat → Prop} {L : eL} {h0 h : eH} {v0 : Nat} {r : eH × Int32} (p_v0 : P v0) (f0 : fr P h0 h) (hf : f_X11_ruled L h v0 = some r) : fr P h0 r.1 := by
  unfold f_X11_ruled at hf
  refine w_X11_ruled_L4 ?_ e_fu _ _ _ _ p_v0 f0 hf
  · intro h39 w0_40 p_w0_40 f41 hf
    replace hf := (e_if hf).2
    rcases e_or hf with hf | hf
    · exact fr_oW hf f41
    · obtain ⟨b42, hb43, hf⟩ := e_bd hf
      have p44 := f41.1 _ _ _ p_w0_40 hb43
      replace hf := (e_if hf).2
      exact fr_oW hf f41
theorem w_X11_turnOf_J67 {P : Nat → Prop} {L : eL} {h0 : eH} {r : eH × Int32}  : ∀ (h : eH) (v0 : Nat) (v1 : Nat) (v2 : Int32) (s0 : Nat) (s1 : Int32) (s2 : Int32), P v0 → P v1 → P s0 → fr P h0 h → f_X11_turnOf_J67 L h v0 v1 v2 s0 s1 s2 = some r → fr P h0 r.1 := by
  intro h v0 v1 v2 s0 s1 s2 p_v0 p_v1 p_s0 f0 hf
  unfold f_X11_turnOf_J67 at hf
  replace hf := (e_if hf).2
  replace hf := (e_if hf).2
  obtain ⟨b25, hb26, hf⟩ := e_bd hf
  have p27 := (fr_sI f0 p_s0).1 _ _ _ p_v0 hb26
  replace hf := (e_if hf).2
  replace hf := (e_if hf).2
  obtain ⟨h28, hh29, hf⟩ := e_bd hf
  have f30 := fr_oV hh29 (fr_sI (fr_sI f0 p_s0) p27)
  obtain ⟨r31, hr32, hf⟩ := e_bd hf
  have f33 := w_X11_ruled p_v0 f30 hr32
  rcases e_or hf with hf | hf
  · exact fr_oW hf f33
  · exact fr_oW hf f33
theorem w_X11_turnOf {P : Nat → Prop} {L : eL} {h0 h : eH} {v0 : Nat} {v1 : Nat} {r : eH × Int32} (p_v0 : P v0) (p_v1 : P v1) (f0 : fr P h0 h) (hf : f_X11_turnOf L h v0 v1 = some r) : fr P h0 r.1 := by
  unfold f_X11_turnOf at hf
  replace hf := (e_if hf).2
  rcases e_or hf with hf | hf
  · replace hf := (e_if hf).2
    obtain ⟨b1, hb2, hf⟩ := e_bd hf
    have p3 := f0.1 _ _ _ p_v0 hb2
    replace hf := (e_if hf).2
    replace hf := (e_if hf).2
    obtain ⟨h4, hh5, hf⟩ := e_bd hf
    have f6 := fr_oV hh5 (fr_sI f0 p3)
    obtain ⟨b7, hb8, hf⟩ := e_bd hf
    have p9 := f6.1 _ _ _ p_v0 hb8
    replace hf := (e_if hf).2
    replace hf := (e_if hf).2
    obtain ⟨h10, hh11, hf⟩ := e_bd hf
    have f12 := fr_oV hh11 (fr_sI f6 p9)
    obtain ⟨b13, hb14, hf⟩ := e_bd hf
    have p15 := f12.1 _ _ _ p_v0 hb14
    replace hf := (e_if hf).2
    obtain ⟨h16, hh17, hf⟩ := e_bd hf
    have f18 := fr_oV hh17 (fr_sI f12 p15)
    obtain ⟨b19, hb20, hf⟩ := e_bd hf
    have p21 := f18.1 _ _ _ p_v0 hb20
    obtain ⟨b22, hb23, hf⟩ := e_bd hf
    have p24 := f18.1 _ _ _ p_v0 hb23
    replace hf := (e_if hf).2
    rcases e_or hf with hf | hf
    · exact w_X11_turnOf_J67 _ _ _ _ _ _ _ p_v0 p_v1 p21 f18 hf
    · exact w_X11_turnOf_J67 _ _ _ _ _ _ _ p_v0 p_v1 p21 f18 hf
  · exact fr_oW hf f0
theorem w_X11_machine {P : Nat → Prop} {L : eL} {h0 h : eH} {v0 : Nat} {v1 : Int32} {r : eH × Int32} (p_v0 : P v0) (f0 : fr P h0 h) (hf : f_X11_machine L h v0 v1 = some r) : fr P h0 r.1 := by
  unfold f_X11_machine at hf
  replace hf := (e_if hf).2
  rcases e_or hf with hf | hf
  · obtain ⟨r18, hr19, hf⟩ := e_bd hf
    have f20 := w_X11_refuse p_v0 (fr_sI f0 p_v0) hr19
    exact fr_oW hf f20
  · rcases e_or hf with hf | hf
    · rcases e_or hf with hf | hf
      · obtain ⟨b9, hb10, hf⟩ := e_bd hf
        have p11 := (fr_sI f0 p_v0).1 _ _ _ p_v0 hb10
        obtain ⟨r12, hr13, hf⟩ := e_bd hf
        have f14 := w_X11_turnOf p_v0 p11 (fr_sI f0 p_v0) hr13
        exact fr_oW hf f14
      · obtain ⟨b1, hb2, hf⟩ := e_bd hf
        have p3 := (fr_sI f0 p_v0).1 _ _ _ p_v0 hb2
        replace hf := (e_if hf).2
        obtain ⟨b4, hb5, hf⟩ := e_bd hf
        have p6 := (fr_sI f0 p_v0).1 _ _ _ p_v0 hb5
        replace hf := (e_if hf).2
        obtain ⟨r7, hr8, hf⟩ := e_bd hf
        exact fr_oW hf (fr_sI f0 p_v0)
    · obtain ⟨b15, hb16, hf⟩ := e_bd hf
      have p17 := (fr_sI f0 p_v0).1 _ _ _ p_v0 hb16
      replace hf := (e_if hf).2
      exact fr_oW hf (fr_sI f0 p_v0)
theorem w_X11_sheet_J122 {P : Nat → Prop} {L : eL} {h0 : eH} {r : eH × Int32} {k46 : eH → Nat → Int32 → Int32 → Int32 → Int32 → Int32 → Int32 → Option (eH × Int32)} {k148 : eH → Int32 → Int32 → Option (eH × Int32)} (hk46 : ∀ (h : eH) (v0 : Nat) (v1 : Int32) (v2 : Int32) (v4 : Int32) (v5 : Int32) (v6 : Int32) (v7 : Int32), P v0 → fr P h0 h → k46 h v0 v1 v2 v4 v5 v6 v7 = some r → fr P h0 r.1) (hk148 : ∀ (h : eH) (v1 : Int32) (v5 : Int32), fr P h0 h → k148 h v1 v5 = some r → fr P h0 r.1) : ∀ (h : eH) (v0 : Nat) (v1 : Int32) (v2 : Int32) (v4 : Int32) (v5 : Int32) (v6 : Int32) (v7 : Int32) (s0 : Nat) (s1 : Int32) (s2 : Int32), P v0 → P s0 → fr P h0 h → f_X11_sheet_J122 L k46 k148 h v0 v1 v2 v4 v5 v6 v7 s0 s1 s2 = some r → fr P h0 r.1 := by
  intro h v0 v1 v2 v4 v5 v6 v7 s0 s1 s2 p_v0 p_s0 f0 hf
  unfold f_X11_sheet_J122 at hf
  replace hf := (e_if hf).2
  replace hf := (e_if hf).2
  obtain ⟨b6, hb7, hf⟩ := e_bd hf
  have p8 := (fr_sI f0 p_s0).1 _ _ _ p_v0 hb7
  replace hf := (e_if hf).2
  exact hk46 _ _ _ _ _ _ _ _ p_v0 (fr_sI f0 p_s0) hf
theorem w_X11_sheet_J78 {P : Nat → Prop} {L : eL} {h0 : eH} {r : eH × Int32} {k46 : eH → Nat → Int32 → Int32 → Int32 → Int32 → Int32 → Int32 → Option (eH × Int32)} {k148 : eH → Int32 → Int32 → Option (eH × Int32)} (hk46 : ∀ (h : eH) (v0 : Nat) (v1 : Int32) (v2 : Int32) (v4 : Int32) (v5 : Int32) (v6 : Int32) (v7 : Int32), P v0 → fr P h0 h → k46 h v0 v1 v2 v4 v5 v6 v7 = some r → fr P h0 r.1) (hk148 : ∀ (h : eH) (v1 : Int32) (v5 : Int32), fr P h0 h → k148 h v1 v5 = some r → fr P h0 r.1) : ∀ (h : eH) (v0 : Nat) (v1 : Int32) (v2 : Int32) (v4 : Int32) (v5 : Int32) (v6 : Int32) (v7 : Int32) (s0 : Int32), P v0 → fr P h0 h → f_X11_sheet_J78 L k46 k148 h v0 v1 v2 v4 v5 v6 v7 s0 = some r → fr P h0 r.1 := by
  intro h v0 v1 v2 v4 v5 v6 v7 s0 p_v0 f0 hf
  unfold f_X11_sheet_J78 at hf
  replace hf := (e_if hf).2
  obtain ⟨b3, hb4, hf⟩ := e_bd hf
  have p5 := f0.1 _ _ _ p_v0 hb4
  rcases e_or hf with hf | hf
  · exact w_X11_sheet_J122 hk46 hk148 _ _ _ _ _ _ _ _ _ _ _ p_v0 p5 f0 hf
  · rcases e_or hf with hf | hf
    · exact w_X11_sheet_J122 hk46 hk148 _ _ _ _ _ _ _ _ _ _ _ p_v0 p5 f0 hf
    · obtain ⟨b9, hb10, hf⟩ := e_bd hf
      have p11 := f0.1 _ _ _ p_v0 hb10
      replace hf := (e_if hf).2
      rcases e_or hf with hf | hf
      · exact w_X11_sheet_J122 hk46 hk148 _ _ _ _ _ _ _ _ _ _ _ p_v0 p5 f0 hf
      · exact w_X11_sheet_J122 hk46 hk148 _ _ _ _ _ _ _ _ _ _ _ p_v0 p5 f0 hf
theorem w_X11_sheet_L46 {P : Nat → Prop} {L : eL} {h0 : eH} {r : eH × Int32} {k148 : eH → Int32 → Int32 → Option (eH × Int32)} (hk148 : ∀ (h : eH) (v1 : Int32) (v5 : Int32), fr P h0 h → k148 h v1 v5 = some r → fr P h0 r.1) : ∀ (n : Nat) (h : eH) (v0 : Nat) (v1 : Int32) (v2 : Int32) (v4 : Int32) (v5 : Int32) (v6 : Int32) (v7 : Int32), P v0 → fr P h0 h → f_X11_sheet_L46 L n k148 h v0 v1 v2 v4 v5 v6 v7 = some r → fr P h0 r.1 := by
  intro n
  induction n with
  | zero => intro h v0 v1 v2 v4 v5 v6 v7 p_v0 f0 hf; exact absurd hf (by simp [f_X11_sheet_L46])
  | succ n ih =>
    intro h v0 v1 v2 v4 v5 v6 v7 p_v0 f0 hf
    unfold f_X11_sheet_L46 at hf
    replace hf := (e_if hf).2
    obtain ⟨r1, hr2, hf⟩ := e_bd hf
    rcases e_or hf with hf | hf
    · exact hk148 _ _ _ f0 hf
    · rcases e_or hf with hf | hf
      · exact w_X11_sheet_J78 ih hk148 _ _ _ _ _ _ _ _ _ p_v0 f0 hf
      · rcases e_or hf with hf | hf
        · exact w_X11_sheet_J78 ih hk148 _ _ _ _ _ _ _ _ _ p_v0 f0 hf
        · exact w_X11_sheet_J78 ih hk148 _ _ _ _ _ _ _ _ _ p_v0 f0 hf
theorem w_X11_sheet {P : Nat → Prop} {L : eL} {h0 h : eH} {v0 : Nat} {v1 : Int32} {v2 : Int32} {v3 : Int32} {v4 : Int32} {r : eH × Int32} (p_v0 : P v0) (f0 : fr P h0 h) (hf : f_X11_sheet L h v0 v1 v2 v3 v4 = some r) : fr P h0 r.1 := by
  unfold f_X11_sheet at hf
  replace hf := (e_if hf).2
  rcases e_or hf with hf | hf
  · exact fr_oW hf (fr_sI f0 p_v0)
  · rcases e_or hf with hf | hf
    · rcases e_or hf with hf | hf
      · refine w_X11_sheet_L46 ?_ e_fu _ _ _ _ _ _ _ _ p_v0 (fr_sI f0 p_v0) hf
        · intro h12 w1_13 w5_14 f15 hf
          rcases e_or hf with hf | hf
          · exact fr_oW hf f15
          · exact fr_oW hf f15
      · rcases e_or hf with hf | hf
        · refine w_X11_sheet_L46 ?_ e_fu _ _ _ _ _ _ _ _ p_v0 (fr_sI f0 p_v0) hf
          · intro h16 w1_17 w5_18 f19 hf
            rcases e_or hf with hf | hf
            · exact fr_oW hf f19
            · exact fr_oW hf f19
        · exact fr_oW hf (fr_sI f0 p_v0)
    · exact fr_oW hf (fr_sI f0 p_v0)
theorem w_X11_undo_L26 {P : Nat → Prop} {L : eL} {h0 : eH} {r : eH × Int32} {k58 : eH → Nat → Option (eH × Int32)} (hk58 : ∀ (h : eH) (v0 : Nat), P v0 → fr P h0 h → k58 h v0 = some r → fr P h0 r.1) : ∀ (n : Nat) (h : eH) (v0 : Nat) (v1 : Int32), P v0 → fr P h0 h → f_X11_undo_L26 L n k58 h v0 v1 = some r → fr P h0 r.1 := by
  intro n
  induction n with
  | zero => intro h v0 v1 p_v0 f0 hf; exact absurd hf (by simp [f_X11_undo_L26])
  | succ n ih =>
    intro h v0 v1 p_v0 f0 hf
    unfold f_X11_undo_L26 at hf
    rcases e_or hf with hf | hf
    · exact hk58 _ _ p_v0 f0 hf
    · replace hf := (e_if hf).2
      obtain ⟨b4, hb5, hf⟩ := e_bd hf
      have p6 := f0.1 _ _ _ p_v0 hb5
      obtain ⟨b7, hb8, hf⟩ := e_bd hf
      have p9 := f0.1 _ _ _ p_v0 hb8
      replace hf := (e_if hf).2
      replace hf := (e_if hf).2
      obtain ⟨h10, hh11, hf⟩ := e_bd hf
      have f12 := fr_oV hh11 (fr_sI f0 p6)
      exact ih _ _ _ p_v0 f12 hf
theorem w_X11_undo {P : Nat → Prop} {L : eL} {h0 h : eH} {v0 : Nat} {r : eH × Int32} (p_v0 : P v0) (f0 : fr P h0 h) (hf : f_X11_undo L h v0 = some r) : fr P h0 r.1 := by
  unfold f_X11_undo at hf
  replace hf := (e_if hf).2
  rcases e_or hf with hf | hf
  · exact fr_oW hf (fr_sI f0 p_v0)
  · obtain ⟨h1, hh2, hf⟩ := e_bd hf
    have f3 := fr_oV hh2 (fr_sI (fr_sI f0 p_v0) p_v0)
    refine w_X11_undo_L26 ?_ e_fu _ _ _ p_v0 f3 hf
    · intro h13 w0_14 p_w0_14 f15 hf
      replace hf := (e_if hf).2
      exact fr_oW hf f15
theorem w_X11_putsBy_L2 {P : Nat → Prop} {L : eL} {h0 : eH} {r : eH} {k34 : eH → Option eH} (hk34 : ∀ (h : eH), fr P h0 h → k34 h = some r → fr P h0 r) : ∀ (n : Nat) (h : eH) (v0 : Nat) (v1 : Int32), P v0 → fr P h0 h → f_X11_putsBy_L2 L n k34 h v0 v1 = some r → fr P h0 r := by
  intro n
  induction n with
  | zero => intro h v0 v1 p_v0 f0 hf; exact absurd hf (by simp [f_X11_putsBy_L2])
  | succ n ih =>
    intro h v0 v1 p_v0 f0 hf
    unfold f_X11_putsBy_L2 at hf
    rcases e_or hf with hf | hf
    · exact hk34 _ f0 hf
    · replace hf := (e_if hf).2
      obtain ⟨b1, hb2, hf⟩ := e_bd hf
      have p3 := f0.1 _ _ _ p_v0 hb2
      obtain ⟨b4, hb5, hf⟩ := e_bd hf
      have p6 := f0.1 _ _ _ p_v0 hb5
      replace hf := (e_if hf).2
      replace hf := (e_if hf).2
      obtain ⟨h7, hh8, hf⟩ := e_bd hf
      have f9 := fr_oV hh8 (fr_sI f0 p3)
      exact ih _ _ _ p_v0 f9 hf
theorem w_X11_putsBy {P : Nat → Prop} {L : eL} {h0 h : eH} {v0 : Nat} {r : eH} (p_v0 : P v0) (f0 : fr P h0 h) (hf : f_X11_putsBy L h v0 = some r) : fr P h0 r := by
  unfold f_X11_putsBy at hf
  refine w_X11_putsBy_L2 ?_ e_fu _ _ _ p_v0 f0 hf
  · intro h10 f11 hf
    exact fr_oV hf f11
theorem w_X11_stepGoes {P : Nat → Prop} {L : eL} {h0 h : eH} {v0 : Nat} {v1 : Nat} {v2 : Int32} {r : eH × Int32} (p_v0 : P v0) (p_v1 : P v1) (f0 : fr P h0 h) (hf : f_X11_stepGoes L h v0 v1 v2 = some r) : fr P h0 r.1 := by
  unfold f_X11_stepGoes at hf
  replace hf := (e_if hf).2
  rcases e_or hf with hf | hf
  · obtain ⟨h1, hh2, hf⟩ := e_bd hf
    have f3 := fr_oV hh2 (fr_sI f0 p_v1)
    replace hf := (e_if hf).2
    obtain ⟨h4, hh5, hf⟩ := e_bd hf
    have f6 := fr_oV hh5 (fr_sI f3 p_v1)
    replace hf := (e_if hf).2
    replace hf := (e_if hf).2
    replace hf := (e_if hf).2
    obtain ⟨r7, hr8, hf⟩ := e_bd hf
    obtain ⟨r9, hr10, hf⟩ := e_bd hf
    rcases e_or hf with hf | hf
    · obtain ⟨r11, hr12, hf⟩ := e_bd hf
      have f13 := w_X11_turnOf p_v0 p_v1 f6 hr12
      obtain ⟨h14, hh15, hf⟩ := e_bd hf
      have f16 := fr_oV hh15 (fr_sI f13 p_v1)
      replace hf := (e_if hf).2
      obtain ⟨h17, hh18, hf⟩ := e_bd hf
      have f19 := fr_oV hh18 (fr_sI f16 p_v1)
      exact fr_oW hf f19
    · replace hf := (e_if hf).2
      replace hf := (e_if hf).2
      obtain ⟨h20, hh21, hf⟩ := e_bd hf
      have f22 := fr_oV hh21 (fr_sI (fr_sI f6 p_v1) p_v1)
      exact fr_oW hf (fr_sI f22 p_v1)
  · exact fr_oW hf f0
theorem w_X11_goesOn_L2 {P : Nat → Prop} {L : eL} {h0 : eH} {r : eH × Int32} {k23 : eH → Int32 → Option (eH × Int32)} {k31 : eH → Int32 → Option (eH × Int32)} (hk23 : ∀ (h : eH) (v3 : Int32), fr P h0 h → k23 h v3 = some r → fr P h0 r.1) (hk31 : ∀ (h : eH) (v2 : Int32), fr P h0 h → k31 h v2 = some r → fr P h0 r.1) : ∀ (n : Nat) (h : eH) (v0 : Nat) (v1 : Nat) (v2 : Int32) (v3 : Int32), P v0 → P v1 → fr P h0 h → f_X11_goesOn_L2 L n k23 k31 h v0 v1 v2 v3 = some r → fr P h0 r.1 := by
  intro n
  induction n with
  | zero => intro h v0 v1 v2 v3 p_v0 p_v1 f0 hf; exact absurd hf (by simp [f_X11_goesOn_L2])
  | succ n ih =>
    intro h v0 v1 v2 v3 p_v0 p_v1 f0 hf
    unfold f_X11_goesOn_L2 at hf
    rcases e_or hf with hf | hf
    · exact hk31 _ _ f0 hf
    · replace hf := (e_if hf).2
      replace hf := (e_if hf).2
      obtain ⟨r1, hr2, hf⟩ := e_bd hf
      obtain ⟨r3, hr4, hf⟩ := e_bd hf
      have f5 := w_X11_stepGoes p_v0 p_v1 f0 hr4
      rcases e_or hf with hf | hf
      · exact hk23 _ _ f5 hf
      · exact ih _ _ _ _ _ p_v0 p_v1 f5 hf
theorem w_X11_goesOn {P : Nat → Prop} {L : eL} {h0 h : eH} {v0 : Nat} {v1 : Nat} {v2 : Int32} {r : eH × Int32} (p_v0 : P v0) (p_v1 : P v1) (f0 : fr P h0 h) (hf : f_X11_goesOn L h v0 v1 v2 = some r) : fr P h0 r.1 := by
  unfold f_X11_goesOn at hf
  refine w_X11_goesOn_L2 ?_ ?_ e_fu _ _ _ _ _ p_v0 p_v1 f0 hf
  · intro h6 w3_7 f8 hf
    exact fr_oW hf f8
  · intro h9 w2_10 f11 hf
    exact fr_oW hf f11
theorem w_X11_enters {P : Nat → Prop} {L : eL} {h0 h : eH} {v0 : Nat} {v1 : Int64} {r : eH} (p_v0 : P v0) (f0 : fr P h0 h) (hf : f_X11_enters L h v0 v1 = some r) : fr P h0 r := by
  unfold f_X11_enters at hf
  replace hf := (e_if hf).2
  obtain ⟨b1, hb2, hf⟩ := e_bd hf
  have p3 := f0.1 _ _ _ p_v0 hb2
  replace hf := (e_if hf).2
  obtain ⟨h4, hh5, hf⟩ := e_bd hf
  have f6 := fr_oV hh5 (fr_sI (fr_sL f0 p3) p_v0)
  exact fr_oV hf f6
theorem w_X11_adds_L21 {P : Nat → Prop} {L : eL} {h0 : eH} {r : eH × Int32} {k49 : eH → Nat → Int32 → Option (eH × Int32)} (hk49 : ∀ (h : eH) (v0 : Nat) (v1 : Int32), P v0 → fr P h0 h → k49 h v0 v1 = some r → fr P h0 r.1) : ∀ (n : Nat) (h : eH) (v0 : Nat) (v1 : Int32) (v2 : Int32), P v0 → fr P h0 h → f_X11_adds_L21 L n k49 h v0 v1 v2 = some r → fr P h0 r.1 := by
  intro n
  induction n with
  | zero => intro h v0 v1 v2 p_v0 f0 hf; exact absurd hf (by simp [f_X11_adds_L21])
  | succ n ih =>
    intro h v0 v1 v2 p_v0 f0 hf
    unfold f_X11_adds_L21 at hf
    rcases e_or hf with hf | hf
    · exact hk49 _ _ _ p_v0 f0 hf
    · replace hf := (e_if hf).2
      obtain ⟨b1, hb2, hf⟩ := e_bd hf
      have p3 := f0.1 _ _ _ p_v0 hb2
      obtain ⟨b4, hb5, hf⟩ := e_bd hf
      have p6 := f0.1 _ _ _ p_v0 hb5
      replace hf := (e_if hf).2
      replace hf := (e_if hf).2
      obtain ⟨h7, hh8, hf⟩ := e_bd hf
      have f9 := fr_oV hh8 (fr_sI f0 p3)
      exact ih _ _ _ _ p_v0 f9 hf
theorem w_X11_adds {P : Nat → Prop} {L : eL} {h0 h : eH} {v0 : Nat} {v1 : Int32} {r : eH × Int32} (p_v0 : P v0) (f0 : fr P h0 h) (hf : f_X11_adds L h v0 v1 = some r) : fr P h0 r.1 := by
  unfold f_X11_adds at hf
  replace hf := (e_if hf).2
  rcases e_or hf with hf | hf
  · exact fr_oW hf (fr_sI f0 p_v0)
  · refine w_X11_adds_L21 ?_ e_fu _ _ _ _ p_v0 (fr_sI f0 p_v0) hf
    · intro h10 w0_11 w1_12 p_w0_11 f13 hf
      replace hf := (e_if hf).2
      exact fr_oW hf (fr_sI f13 p_w0_11)
theorem w_X11_steps {P : Nat → Prop} {L : eL} {h0 h : eH} {v0 : Nat} {v1 : Int32} {r : eH × Int32} (p_v0 : P v0) (f0 : fr P h0 h) (hf : f_X11_steps L h v0 v1 = some r) : fr P h0 r.1 := by
  unfold f_X11_steps at hf
  replace hf := (e_if hf).2
  rcases e_or hf with hf | hf
  · exact fr_oW hf (fr_sI f0 p_v0)
  · obtain ⟨r1, hr2, hf⟩ := e_bd hf
    have f3 := w_X11_putsBy p_v0 (fr_sI f0 p_v0) hr2
    obtain ⟨b4, hb5, hf⟩ := e_bd hf
    have p6 := f3.1 _ _ _ p_v0 hb5
    replace hf := (e_if hf).2
    obtain ⟨b7, hb8, hf⟩ := e_bd hf
    have p9 := f3.1 _ _ _ p_v0 hb8
    replace hf := (e_if hf).2
    obtain ⟨b10, hb11, hf⟩ := e_bd hf
    have p12 := f3.1 _ _ _ p_v0 hb11
    obtain ⟨r13, hr14, hf⟩ := e_bd hf
    have f15 := w_X11_goesOn p_v0 p12 f3 hr14
    obtain ⟨b16, hb17, hf⟩ := e_bd hf
    have p18 := (fr_sI f15 p_v0).1 _ _ _ p_v0 hb17
    replace hf := (e_if hf).2
    obtain ⟨r19, hr20, hf⟩ := e_bd hf
    have f21 := w_X11_enters p_v0 (fr_sI f15 p_v0) hr20
    obtain ⟨b22, hb23, hf⟩ := e_bd hf
    have p24 := f21.1 _ _ _ p_v0 hb23
    replace hf := (e_if hf).2
    obtain ⟨r25, hr26, hf⟩ := e_bd hf
    have f27 := w_X11_enters p_v0 f21 hr26
    obtain ⟨r28, hr29, hf⟩ := e_bd hf
    have f30 := w_X11_adds p_v0 f27 hr29
    exact fr_oW hf f30
theorem w_X11_turn {P : Nat → Prop} {L : eL} {h0 h : eH} {v0 : Nat} {v1 : Int32} {r : eH × Int32} (p_v0 : P v0) (f0 : fr P h0 h) (hf : f_X11_turn L h v0 v1 = some r) : fr P h0 r.1 := by
  unfold f_X11_turn at hf
  replace hf := (e_if hf).2
  rcases e_or hf with hf | hf
  · exact fr_oW hf (fr_sI f0 p_v0)
  · obtain ⟨r1, hr2, hf⟩ := e_bd hf
    have f3 := w_X11_putsBy p_v0 (fr_sI f0 p_v0) hr2
    obtain ⟨b4, hb5, hf⟩ := e_bd hf
    have p6 := f3.1 _ _ _ p_v0 hb5
    obtain ⟨b7, hb8, hf⟩ := e_bd hf
    have p9 := f3.1 _ _ _ p_v0 hb8
    replace hf := (e_if hf).2
    replace hf := (e_if hf).2
    obtain ⟨h10, hh11, hf⟩ := e_bd hf
    have f12 := fr_oV hh11 (fr_sI f3 p6)
    obtain ⟨b13, hb14, hf⟩ := e_bd hf
    have p15 := f12.1 _ _ _ p_v0 hb14
    replace hf := (e_if hf).2
    obtain ⟨r16, hr17, hf⟩ := e_bd hf
    have f18 := w_X11_adds p_v0 f12 hr17
    exact fr_oW hf f18
theorem w_X11_dayGoes_L2 {P : Nat → Prop} {L : eL} {h0 : eH} {r : eH} {k34 : eH → Nat → Option eH} (hk34 : ∀ (h : eH) (v1 : Nat), P v1 → fr P h0 h → k34 h v1 = some r → fr P h0 r) : ∀ (n : Nat) (h : eH) (v0 : Nat) (v1 : Nat) (v2 : Int32), P v0 → P v1 → fr P h0 h → f_X11_dayGoes_L2 L n k34 h v0 v1 v2 = some r → fr P h0 r := by
  intro n
  induction n with
  | zero => intro h v0 v1 v2 p_v0 p_v1 f0 hf; exact absurd hf (by simp [f_X11_dayGoes_L2])
  | succ n ih =>
    intro h v0 v1 v2 p_v0 p_v1 f0 hf
    unfold f_X11_dayGoes_L2 at hf
    replace hf := (e_if hf).2
    obtain ⟨r1, hr2, hf⟩ := e_bd hf
    rcases e_or hf with hf | hf
    · exact hk34 _ _ p_v1 f0 hf
    · replace hf := (e_if hf).2
      obtain ⟨b3, hb4, hf⟩ := e_bd hf
      have p5 := f0.1 _ _ _ p_v0 hb4
      replace hf := (e_if hf).2
      obtain ⟨h6, hh7, hf⟩ := e_bd hf
      have f8 := fr_oV hh7 (fr_sI f0 p_v1)
      exact ih _ _ _ _ p_v0 p_v1 f8 hf
theorem w_X11_dayGoes {P : Nat → Prop} {L : eL} {h0 h : eH} {v0 : Nat} {v1 : Nat} {r : eH} (p_v0 : P v0) (p_v1 : P v1) (f0 : fr P h0 h) (hf : f_X11_dayGoes L h v0 v1 = some r) : fr P h0 r := by
  unfold f_X11_dayGoes at hf
  refine w_X11_dayGoes_L2 ?_ e_fu _ _ _ _ p_v0 p_v1 f0 hf
  · intro h9 w1_10 p_w1_10 f11 hf
    replace hf := (e_if hf).2
    obtain ⟨h12, hh13, hf⟩ := e_bd hf
    have f14 := fr_oV hh13 (fr_sI f11 p_w1_10)
    exact fr_oV hf f14
theorem w_X11_daysGo_L16 {P : Nat → Prop} {L : eL} {h0 : eH} {r : eH × Int32} {k35 : eH → Nat → Option (eH × Int32)} (hk35 : ∀ (h : eH) (v0 : Nat), P v0 → fr P h0 h → k35 h v0 = some r → fr P h0 r.1) : ∀ (n : Nat) (h : eH) (v0 : Nat) (v1 : Int32) (v2 : Int32), P v0 → fr P h0 h → f_X11_daysGo_L16 L n k35 h v0 v1 v2 = some r → fr P h0 r.1 := by
  intro n
  induction n with
  | zero => intro h v0 v1 v2 p_v0 f0 hf; exact absurd hf (by simp [f_X11_daysGo_L16])
  | succ n ih =>
    intro h v0 v1 v2 p_v0 f0 hf
    unfold f_X11_daysGo_L16 at hf
    rcases e_or hf with hf | hf
    · exact hk35 _ _ p_v0 f0 hf
    · replace hf := (e_if hf).2
      obtain ⟨b1, hb2, hf⟩ := e_bd hf
      have p3 := f0.1 _ _ _ p_v0 hb2
      obtain ⟨r4, hr5, hf⟩ := e_bd hf
      have f6 := w_X11_dayGoes p_v0 p3 f0 hr5
      exact ih _ _ _ _ p_v0 f6 hf
theorem w_X11_daysGo {P : Nat → Prop} {L : eL} {h0 h : eH} {v0 : Nat} {v1 : Int32} {r : eH × Int32} (p_v0 : P v0) (f0 : fr P h0 h) (hf : f_X11_daysGo L h v0 v1 = some r) : fr P h0 r.1 := by
  unfold f_X11_daysGo at hf
  rcases e_or hf with hf | hf
  · exact fr_oW hf f0
  · refine w_X11_daysGo_L16 ?_ e_fu _ _ _ _ p_v0 f0 hf
    · intro h7 w0_8 p_w0_8 f9 hf
      replace hf := (e_if hf).2
      obtain ⟨b10, hb11, hf⟩ := e_bd hf
      have p12 := f9.1 _ _ _ p_w0_8 hb11
      obtain ⟨r13, hr14, hf⟩ := e_bd hf
      exact fr_oW hf f9
theorem w_X11_counts {P : Nat → Prop} {L : eL} {h0 h : eH} {v0 : Nat} {v1 : Int32} {r : eH × Int32} (p_v0 : P v0) (f0 : fr P h0 h) (hf : f_X11_counts L h v0 v1 = some r) : fr P h0 r.1 := by
  unfold f_X11_counts at hf
  rcases e_or hf with hf | hf
  · replace hf := (e_if hf).2
    obtain ⟨r1, hr2, hf⟩ := e_bd hf
    have f3 := w_X11_adds p_v0 f0 hr2
    exact fr_oW hf f3
  · exact fr_oW hf f0
theorem w_X11_days {P : Nat → Prop} {L : eL} {h0 h : eH} {v0 : Nat} {v1 : Int32} {r : eH × Int32} (p_v0 : P v0) (f0 : fr P h0 h) (hf : f_X11_days L h v0 v1 = some r) : fr P h0 r.1 := by
  unfold f_X11_days at hf
  replace hf := (e_if hf).2
  obtain ⟨r1, hr2, hf⟩ := e_bd hf
  have f3 := w_X11_putsBy p_v0 (fr_sI f0 p_v0) hr2
  obtain ⟨r4, hr5, hf⟩ := e_bd hf
  have f6 := w_X11_daysGo p_v0 f3 hr5
  obtain ⟨r7, hr8, hf⟩ := e_bd hf
  have f9 := w_X11_counts p_v0 f6 hr8
  exact fr_oW hf f9
theorem w_X11_chairsAt {P : Nat → Prop} {L : eL} {h0 h : eH} {v0 : Nat} {v1 : Int32} {r : eH × Int32} (p_v0 : P v0) (f0 : fr P h0 h) (hf : f_X11_chairsAt L h v0 v1 = some r) : fr P h0 r.1 := by
  unfold f_X11_chairsAt at hf
  replace hf := (e_if hf).2
  obtain ⟨r1, hr2, hf⟩ := e_bd hf
  rcases e_or hf with hf | hf
  · exact fr_oW hf f0
  · obtain ⟨b3, hb4, hf⟩ := e_bd hf
    have p5 := f0.1 _ _ _ p_v0 hb4
    replace hf := (e_if hf).2
    rcases e_or hf with hf | hf
    · exact fr_oW hf f0
    · obtain ⟨b6, hb7, hf⟩ := e_bd hf
      have p8 := f0.1 _ _ _ p_v0 hb7
      replace hf := (e_if hf).2
      rcases e_or hf with hf | hf
      · exact fr_oW hf f0
      · obtain ⟨b9, hb10, hf⟩ := e_bd hf
        have p11 := f0.1 _ _ _ p_v0 hb10
        obtain ⟨b12, hb13, hf⟩ := e_bd hf
        have p14 := f0.1 _ _ _ p_v0 hb13
        replace hf := (e_if hf).2
        replace hf := (e_if hf).2
        obtain ⟨h15, hh16, hf⟩ := e_bd hf
        have f17 := fr_oV hh16 (fr_sI f0 p11)
        obtain ⟨b18, hb19, hf⟩ := e_bd hf
        have p20 := f17.1 _ _ _ p_v0 hb19
        obtain ⟨r21, hr22, hf⟩ := e_bd hf
        exact fr_oW hf f17
theorem w_X11_chair {P : Nat → Prop} {L : eL} {h0 h : eH} {v0 : Nat} {v1 : Int32} {r : eH × Int32} (p_v0 : P v0) (f0 : fr P h0 h) (hf : f_X11_chair L h v0 v1 = some r) : fr P h0 r.1 := by
  unfold f_X11_chair at hf
  replace hf := (e_if hf).2
  obtain ⟨r1, hr2, hf⟩ := e_bd hf
  have f3 := w_X11_putsBy p_v0 (fr_sI f0 p_v0) hr2
  obtain ⟨r4, hr5, hf⟩ := e_bd hf
  have f6 := w_X11_chairsAt p_v0 f3 hr5
  obtain ⟨r7, hr8, hf⟩ := e_bd hf
  have f9 := w_X11_counts p_v0 f6 hr8
  exact fr_oW hf f9
theorem w_X11_carry {P : Nat → Prop} {L : eL} {h0 h : eH} {v0 : Nat} {v1 : Int32} {v2 : Int32} {r : eH × Int32} (p_v0 : P v0) (f0 : fr P h0 h) (hf : f_X11_carry L h v0 v1 v2 = some r) : fr P h0 r.1 := by
  unfold f_X11_carry at hf
  replace hf := (e_if hf).2
  obtain ⟨r1, hr2, hf⟩ := e_bd hf
  rcases e_or hf with hf | hf
  · exact fr_oW hf (fr_sI f0 p_v0)
  · rcases e_or hf with hf | hf
    · exact fr_oW hf (fr_sI f0 p_v0)
    · obtain ⟨b3, hb4, hf⟩ := e_bd hf
      have p5 := (fr_sI f0 p_v0).1 _ _ _ p_v0 hb4
      obtain ⟨r6, hr7, hf⟩ := e_bd hf
      rcases e_or hf with hf | hf
      · exact fr_oW hf (fr_sI f0 p_v0)
      · obtain ⟨r8, hr9, hf⟩ := e_bd hf
        have f10 := w_X11_putsBy p_v0 (fr_sI f0 p_v0) hr9
        obtain ⟨b11, hb12, hf⟩ := e_bd hf
        have p13 := f10.1 _ _ _ p_v0 hb12
        replace hf := (e_if hf).2
        obtain ⟨b14, hb15, hf⟩ := e_bd hf
        have p16 := f10.1 _ _ _ p_v0 hb15
        replace hf := (e_if hf).2
        obtain ⟨b17, hb18, hf⟩ := e_bd hf
        have p19 := (fr_sI f10 p16).1 _ _ _ p_v0 hb18
        replace hf := (e_if hf).2
        obtain ⟨h20, hh21, hf⟩ := e_bd hf
        have f22 := fr_oV hh21 (fr_sI (fr_sI f10 p16) p19)
        obtain ⟨r23, hr24, hf⟩ := e_bd hf
        have f25 := w_X11_adds p_v0 f22 hr24
        exact fr_oW hf f25
theorem w_X11_loads {P : Nat → Prop} {L : eL} {h0 h : eH} {v0 : Nat} {v1 : Int32} {r : eH × Int32} (p_v0 : P v0) (f0 : fr P h0 h) (hf : f_X11_loads L h v0 v1 = some r) : fr P h0 r.1 := by
  unfold f_X11_loads at hf
  rcases e_or hf with hf | hf
  · exact fr_oW hf f0
  · replace hf := (e_if hf).2
    rcases e_or hf with hf | hf
    · exact fr_oW hf f0
    · obtain ⟨b1, hb2, hf⟩ := e_bd hf
      have p3 := f0.1 _ _ _ p_v0 hb2
      replace hf := (e_if hf).2
      rcases e_or hf with hf | hf
      · obtain ⟨b4, hb5, hf⟩ := e_bd hf
        have p6 := f0.1 _ _ _ p_v0 hb5
        replace hf := (e_if hf).2
        obtain ⟨b7, hb8, hf⟩ := e_bd hf
        have p9 := f0.1 _ _ _ p_v0 hb8
        replace hf := (e_if hf).2
        obtain ⟨b10, hb11, hf⟩ := e_bd hf
        have p12 := (fr_sI f0 p9).1 _ _ _ p_v0 hb11
        replace hf := (e_if hf).2
        obtain ⟨h13, hh14, hf⟩ := e_bd hf
        have f15 := fr_oV hh14 (fr_sI (fr_sI f0 p9) p12)
        exact fr_oW hf f15
      · exact fr_oW hf f0
theorem w_X11_load {P : Nat → Prop} {L : eL} {h0 h : eH} {v0 : Nat} {v1 : Int32} {r : eH × Int32} (p_v0 : P v0) (f0 : fr P h0 h) (hf : f_X11_load L h v0 v1 = some r) : fr P h0 r.1 := by
  unfold f_X11_load at hf
  replace hf := (e_if hf).2
  obtain ⟨r1, hr2, hf⟩ := e_bd hf
  have f3 := w_X11_putsBy p_v0 (fr_sI f0 p_v0) hr2
  obtain ⟨r4, hr5, hf⟩ := e_bd hf
  have f6 := w_X11_loads p_v0 f3 hr5
  obtain ⟨r7, hr8, hf⟩ := e_bd hf
  have f9 := w_X11_counts p_v0 f6 hr8
  exact fr_oW hf f9
theorem w_X11_signIn {P : Nat → Prop} {L : eL} {h0 h : eH} {v0 : Nat} {v1 : Int32} {v2 : Int32} {v3 : Int32} {r : eH × Int32} (p_v0 : P v0) (f0 : fr P h0 h) (hf : f_X11_signIn L h v0 v1 v2 v3 = some r) : fr P h0 r.1 := by
  unfold f_X11_signIn at hf
  replace hf := (e_if hf).2
  rcases e_or hf with hf | hf
  · exact fr_oW hf f0
  · obtain ⟨b1, hb2, hf⟩ := e_bd hf
    have p3 := f0.1 _ _ _ p_v0 hb2
    replace hf := (e_if hf).2
    rcases e_or hf with hf | hf
    · exact fr_oW hf f0
    · obtain ⟨b4, hb5, hf⟩ := e_bd hf
      have p6 := (fr_sI f0 p_v0).1 _ _ _ p_v0 hb5
      replace hf := (e_if hf).2
      exact fr_oW hf (fr_sI f0 p_v0)
theorem w_X11_readsAct_J133 {P : Nat → Prop} {L : eL} {h0 : eH} {r : eH × Int32}  : ∀ (h : eH) (v0 : Nat) (v1 : Int32) (v2 : Int32) (s0 : Int32), P v0 → fr P h0 h → f_X11_readsAct_J133 L h v0 v1 v2 s0 = some r → fr P h0 r.1 := by
  intro h v0 v1 v2 s0 p_v0 f0 hf
  unfold f_X11_readsAct_J133 at hf
  replace hf := (e_if hf).2
  obtain ⟨b22, hb23, hf⟩ := e_bd hf
  have p24 := f0.1 _ _ _ p_v0 hb23
  replace hf := (e_if hf).2
  rcases e_or hf with hf | hf
  · exact fr_oW hf (fr_sI f0 p24)
  · exact fr_oW hf (fr_sI f0 p24)
theorem w_X11_readsAct_J98 {P : Nat → Prop} {L : eL} {h0 : eH} {r : eH × Int32}  : ∀ (h : eH) (v0 : Nat) (v1 : Int32) (s0 : Nat) (s1 : Int32) (s2 : Int32), P v0 → P s0 → fr P h0 h → f_X11_readsAct_J98 L h v0 v1 s0 s1 s2 = some r → fr P h0 r.1 := by
  intro h v0 v1 s0 s1 s2 p_v0 p_s0 f0 hf
  unfold f_X11_readsAct_J98 at hf
  replace hf := (e_if hf).2
  replace hf := (e_if hf).2
  obtain ⟨b37, hb38, hf⟩ := e_bd hf
  have p39 := (fr_sI f0 p_s0).1 _ _ _ p_v0 hb38
  replace hf := (e_if hf).2
  rcases e_or hf with hf | hf
  · exact fr_oW hf (fr_sI f0 p_s0)
  · exact fr_oW hf (fr_sI f0 p_s0)
theorem w_X11_readsAct {P : Nat → Prop} {L : eL} {h0 h : eH} {v0 : Nat} {r : eH × Int32} (p_v0 : P v0) (f0 : fr P h0 h) (hf : f_X11_readsAct L h v0 = some r) : fr P h0 r.1 := by
  unfold f_X11_readsAct at hf
  replace hf := (e_if hf).2
  obtain ⟨b1, hb2, hf⟩ := e_bd hf
  have p3 := f0.1 _ _ _ p_v0 hb2
  obtain ⟨r4, hr5, hf⟩ := e_bd hf
  have f6 := w_X11_takesOf p_v0 (f0.2.2 _ (Nat.le_add_right _ _)) f0 hr5
  replace hf := (e_if hf).2
  obtain ⟨h7, hh8, hf⟩ := e_bd hf
  have f9 := fr_oV hh8 (fr_sI (fr_sI f6 p3) p_v0)
  obtain ⟨b10, hb11, hf⟩ := e_bd hf
  have p12 := f9.1 _ _ _ p_v0 hb11
  replace hf := (e_if hf).2
  rcases e_or hf with hf | hf
  · obtain ⟨b13, hb14, hf⟩ := e_bd hf
    have p15 := f9.1 _ _ _ p_v0 hb14
    replace hf := (e_if hf).2
    rcases e_or hf with hf | hf
    · obtain ⟨r16, hr17, hf⟩ := e_bd hf
      have f18 := w_X11_number p_v0 f9 hr17
      rcases e_or hf with hf | hf
      · obtain ⟨r19, hr20, hf⟩ := e_bd hf
        have f21 := w_X11_number p_v0 f18 hr20
        exact w_X11_readsAct_J133 _ _ _ _ _ p_v0 f21 hf
      · exact w_X11_readsAct_J133 _ _ _ _ _ p_v0 f18 hf
    · obtain ⟨b25, hb26, hf⟩ := e_bd hf
      have p27 := f9.1 _ _ _ p_v0 hb26
      obtain ⟨b28, hb29, hf⟩ := e_bd hf
      have p30 := f9.1 _ _ _ p_v0 hb29
      replace hf := (e_if hf).2
      rcases e_or hf with hf | hf
      · obtain ⟨r43, hr44, hf⟩ := e_bd hf
        have f45 := w_X11_signIn p_v0 f9 hr44
        exact w_X11_readsAct_J98 _ _ _ _ _ _ p_v0 p27 f45 hf
      · obtain ⟨b31, hb32, hf⟩ := e_bd hf
        have p33 := f9.1 _ _ _ p_v0 hb32
        replace hf := (e_if hf).2
        rcases e_or hf with hf | hf
        · obtain ⟨r40, hr41, hf⟩ := e_bd hf
          have f42 := w_X11_signIn p_v0 f9 hr41
          exact w_X11_readsAct_J98 _ _ _ _ _ _ p_v0 p27 f42 hf
        · obtain ⟨r34, hr35, hf⟩ := e_bd hf
          have f36 := w_X11_signIn p_v0 f9 hr35
          exact w_X11_readsAct_J98 _ _ _ _ _ _ p_v0 p27 f36 hf
  · exact fr_oW hf f9
theorem w_X11_does {P : Nat → Prop} {L : eL} {h0 h : eH} {v0 : Nat} {v1 : Int32} {r : eH × Int32} (p_v0 : P v0) (f0 : fr P h0 h) (hf : f_X11_does L h v0 v1 = some r) : fr P h0 r.1 := by
  unfold f_X11_does at hf
  replace hf := (e_if hf).2
  obtain ⟨b1, hb2, hf⟩ := e_bd hf
  have p3 := f0.1 _ _ _ p_v0 hb2
  replace hf := (e_if hf).2
  obtain ⟨b4, hb5, hf⟩ := e_bd hf
  have p6 := f0.1 _ _ _ p_v0 hb5
  replace hf := (e_if hf).2
  rcases e_or hf with hf | hf
  · obtain ⟨b7, hb8, hf⟩ := e_bd hf
    have p9 := f0.1 _ _ _ p_v0 hb8
    obtain ⟨r10, hr11, hf⟩ := e_bd hf
    have f12 := w_X11_goesOn p_v0 p9 f0 hr11
    rcases e_or hf with hf | hf
    · exact fr_oW hf f12
    · rcases e_or hf with hf | hf
      · exact fr_oW hf f12
      · exact fr_oW hf f12
  rcases e_or hf with hf | hf
  · obtain ⟨b13, hb14, hf⟩ := e_bd hf
    have p15 := f0.1 _ _ _ p_v0 hb14
    obtain ⟨b16, hb17, hf⟩ := e_bd hf
    have p18 := f0.1 _ _ _ p_v0 hb17
    replace hf := (e_if hf).2
    replace hf := (e_if hf).2
    obtain ⟨h19, hh20, hf⟩ := e_bd hf
    have f21 := fr_oV hh20 (fr_sI f0 p15)
    exact fr_oW hf f21
  rcases e_or hf with hf | hf
  · obtain ⟨r22, hr23, hf⟩ := e_bd hf
    have f24 := w_X11_daysGo p_v0 f0 hr23
    rcases e_or hf with hf | hf
    · exact fr_oW hf f24
    · exact fr_oW hf f24
  rcases e_or hf with hf | hf
  · obtain ⟨r25, hr26, hf⟩ := e_bd hf
    have f27 := w_X11_chairsAt p_v0 f0 hr26
    rcases e_or hf with hf | hf
    · exact fr_oW hf f27
    · exact fr_oW hf f27
  · obtain ⟨r28, hr29, hf⟩ := e_bd hf
    have f30 := w_X11_loads p_v0 f0 hr29
    rcases e_or hf with hf | hf
    · exact fr_oW hf f30
    · exact fr_oW hf f30
theorem w_X11_run_L19 {P : Nat → Prop} {L : eL} {h0 : eH} {r : eH × Int32} {k42 : eH → Nat → Int32 → Int32 → Option (eH × Int32)} (hk42 : ∀ (h : eH) (v0 : Nat) (v1 : Int32) (v2 : Int32), P v0 → fr P h0 h → k42 h v0 v1 v2 = some r → fr P h0 r.1) : ∀ (n : Nat) (h : eH) (v0 : Nat) (v1 : Int32) (v2 : Int32), P v0 → fr P h0 h → f_X11_run_L19 L n k42 h v0 v1 v2 = some r → fr P h0 r.1 := by
  intro n
  induction n with
  | zero => intro h v0 v1 v2 p_v0 f0 hf; exact absurd hf (by simp [f_X11_run_L19])
  | succ n ih =>
    intro h v0 v1 v2 p_v0 f0 hf
    unfold f_X11_run_L19 at hf
    rcases e_or hf with hf | hf
    · exact hk42 _ _ _ _ p_v0 f0 hf
    · replace hf := (e_if hf).2
      rcases e_or hf with hf | hf
      · exact hk42 _ _ _ _ p_v0 f0 hf
      · obtain ⟨r4, hr5, hf⟩ := e_bd hf
        have f6 := w_X11_readsAct p_v0 f0 hr5
        exact ih _ _ _ _ p_v0 f6 hf
theorem w_X11_run_L64 {P : Nat → Prop} {L : eL} {h0 : eH} {r : eH × Int32} {k88 : eH → Nat → Int32 → Option (eH × Int32)} (hk88 : ∀ (h : eH) (v0 : Nat) (v4 : Int32), P v0 → fr P h0 h → k88 h v0 v4 = some r → fr P h0 r.1) : ∀ (n : Nat) (h : eH) (v0 : Nat) (v4 : Int32), P v0 → fr P h0 h → f_X11_run_L64 L n k88 h v0 v4 = some r → fr P h0 r.1 := by
  intro n
  induction n with
  | zero => intro h v0 v4 p_v0 f0 hf; exact absurd hf (by simp [f_X11_run_L64])
  | succ n ih =>
    intro h v0 v4 p_v0 f0 hf
    unfold f_X11_run_L64 at hf
    replace hf := (e_if hf).2
    rcases e_or hf with hf | hf
    · exact hk88 _ _ _ p_v0 f0 hf
    · obtain ⟨r17, hr18, hf⟩ := e_bd hf
      have f19 := w_X11_does p_v0 f0 hr18
      rcases e_or hf with hf | hf
      · exact hk88 _ _ _ p_v0 f19 hf
      · exact ih _ _ _ p_v0 f19 hf
theorem w_X11_run_J108 {P : Nat → Prop} {L : eL} {h0 : eH} {r : eH × Int32}  : ∀ (h : eH) (v0 : Nat) (v4 : Int32) (s0 : Nat) (s1 : Int32), P v0 → P s0 → fr P h0 h → f_X11_run_J108 L h v0 v4 s0 s1 = some r → fr P h0 r.1 := by
  intro h v0 v4 s0 s1 p_v0 p_s0 f0 hf
  unfold f_X11_run_J108 at hf
  replace hf := (e_if hf).2
  obtain ⟨r24, hr25, hf⟩ := e_bd hf
  have f26 := w_X11_enters p_s0 f0 hr25
  replace hf := (e_if hf).2
  obtain ⟨b27, hb28, hf⟩ := e_bd hf
  have p29 := f26.1 _ _ _ p_v0 hb28
  replace hf := (e_if hf).2
  obtain ⟨r30, hr31, hf⟩ := e_bd hf
  have f32 := w_X11_enters p_v0 f26 hr31
  rcases e_or hf with hf | hf
  · exact fr_oW hf f32
  · obtain ⟨r33, hr34, hf⟩ := e_bd hf
    have f35 := w_X11_adds p_v0 f32 hr34
    exact fr_oW hf f35
theorem w_X11_run_J88 {P : Nat → Prop} {L : eL} {h0 : eH} {r : eH × Int32}  : ∀ (h : eH) (v0 : Nat) (v4 : Int32), P v0 → fr P h0 h → f_X11_run_J88 L h v0 v4 = some r → fr P h0 r.1 := by
  intro h v0 v4 p_v0 f0 hf
  unfold f_X11_run_J88 at hf
  replace hf := (e_if hf).2
  rcases e_or hf with hf | hf
  · exact w_X11_run_J108 _ _ _ _ _ p_v0 p_v0 (fr_sI f0 p_v0) hf
  · exact w_X11_run_J108 _ _ _ _ _ p_v0 p_v0 (fr_sI f0 p_v0) hf
theorem w_X11_run_J42 {P : Nat → Prop} {L : eL} {h0 : eH} {r : eH × Int32}  : ∀ (h : eH) (v0 : Nat) (v1 : Int32) (v2 : Int32), P v0 → fr P h0 h → f_X11_run_J42 L h v0 v1 v2 = some r → fr P h0 r.1 := by
  intro h v0 v1 v2 p_v0 f0 hf
  unfold f_X11_run_J42 at hf
  replace hf := (e_if hf).2
  obtain ⟨r12, hr13, hf⟩ := e_bd hf
  rcases e_or hf with hf | hf
  · obtain ⟨r14, hr15, hf⟩ := e_bd hf
    have f16 := w_X11_putsBy p_v0 f0 hr15
    refine w_X11_run_L64 ?_ e_fu _ _ _ p_v0 f16 hf
    · intro h20 w0_21 w4_22 p_w0_21 f23 hf
      exact w_X11_run_J88 _ _ _ p_w0_21 f23 hf
  · exact fr_oW hf f0
theorem w_X11_run {P : Nat → Prop} {L : eL} {h0 h : eH} {v0 : Nat} {r : eH × Int32} (p_v0 : P v0) (f0 : fr P h0 h) (hf : f_X11_run L h v0 = some r) : fr P h0 r.1 := by
  unfold f_X11_run at hf
  replace hf := (e_if hf).2
  obtain ⟨r1, hr2, hf⟩ := e_bd hf
  have f3 := w_X11_begins p_v0 (fr_sI f0 p_v0) hr2
  refine w_X11_run_L19 ?_ e_fu _ _ _ _ p_v0 (fr_sI f3 p_v0) hf
  · intro h7 w0_8 w1_9 w2_10 p_w0_8 f11 hf
    exact w_X11_run_J42 _ _ _ _ p_w0_8 f11 hf
theorem w_X11_puts_L2 {P : Nat → Prop} {L : eL} {h0 : eH} {r : eH} {k26 : eH → Option eH} (hk26 : ∀ (h : eH), fr P h0 h → k26 h = some r → fr P h0 r) : ∀ (n : Nat) (h : eH) (v0 : Nat) (v1 : Int32), P v0 → fr P h0 h → f_X11_puts_L2 L n k26 h v0 v1 = some r → fr P h0 r := by
  intro n
  induction n with
  | zero => intro h v0 v1 p_v0 f0 hf; exact absurd hf (by simp [f_X11_puts_L2])
  | succ n ih =>
    intro h v0 v1 p_v0 f0 hf
    unfold f_X11_puts_L2 at hf
    rcases e_or hf with hf | hf
    · exact hk26 _ f0 hf
    · replace hf := (e_if hf).2
      obtain ⟨b1, hb2, hf⟩ := e_bd hf
      have p3 := f0.1 _ _ _ p_v0 hb2
      obtain ⟨b4, hb5, hf⟩ := e_bd hf
      have p6 := f0.1 _ _ _ p_v0 hb5
      replace hf := (e_if hf).2
      replace hf := (e_if hf).2
      obtain ⟨h7, hh8, hf⟩ := e_bd hf
      have f9 := fr_oV hh8 (fr_sI f0 p3)
      exact ih _ _ _ p_v0 f9 hf
theorem w_X11_puts {P : Nat → Prop} {L : eL} {h0 h : eH} {v0 : Nat} {r : eH} (p_v0 : P v0) (f0 : fr P h0 h) (hf : f_X11_puts L h v0 = some r) : fr P h0 r := by
  unfold f_X11_puts at hf
  refine w_X11_puts_L2 ?_ e_fu _ _ _ p_v0 f0 hf
  · intro h10 f11 hf
    exact fr_oV hf f11
theorem w_X11_been_L36 {P : Nat → Prop} {L : eL} {h0 : eH} {r : eH × Int32} {k82 : eH → Nat → Int64 → Option (eH × Int32)} (hk82 : ∀ (h : eH) (v0 : Nat) (v2 : Int64), P v0 → fr P h0 h → k82 h v0 v2 = some r → fr P h0 r.1) : ∀ (n : Nat) (h : eH) (v0 : Nat) (v1 : Int32) (v2 : Int64) (v4 : Int32), P v0 → fr P h0 h → f_X11_been_L36 L n k82 h v0 v1 v2 v4 = some r → fr P h0 r.1 := by
  intro n
  induction n with
  | zero => intro h v0 v1 v2 v4 p_v0 f0 hf; exact absurd hf (by simp [f_X11_been_L36])
  | succ n ih =>
    intro h v0 v1 v2 v4 p_v0 f0 hf
    unfold f_X11_been_L36 at hf
    rcases e_or hf with hf | hf
    · exact hk82 _ _ _ p_v0 f0 hf
    · replace hf := (e_if hf).2
      obtain ⟨b7, hb8, hf⟩ := e_bd hf
      have p9 := f0.1 _ _ _ p_v0 hb8
      obtain ⟨b10, hb11, hf⟩ := e_bd hf
      have p12 := f0.1 _ _ _ p_v0 hb11
      replace hf := (e_if hf).2
      obtain ⟨r13, hr14, hf⟩ := e_bd hf
      obtain ⟨r15, hr16, hf⟩ := e_bd hf
      have f17 := w_X11_stepGoes p_v0 p9 f0 hr16
      rcases e_or hf with hf | hf
      · exact hk82 _ _ _ p_v0 f17 hf
      · obtain ⟨b18, hb19, hf⟩ := e_bd hf
        have p20 := f17.1 _ _ _ p_v0 hb19
        replace hf := (e_if hf).2
        exact ih _ _ _ _ _ p_v0 f17 hf
theorem w_X11_been_J82 {P : Nat → Prop} {L : eL} {h0 : eH} {r : eH × Int32}  : ∀ (h : eH) (v0 : Nat) (v2 : Int64), P v0 → fr P h0 h → f_X11_been_J82 L h v0 v2 = some r → fr P h0 r.1 := by
  intro h v0 v2 p_v0 f0 hf
  unfold f_X11_been_J82 at hf
  replace hf := (e_if hf).2
  obtain ⟨r25, hr26, hf⟩ := e_bd hf
  have f27 := w_X11_enters p_v0 (fr_sI f0 p_v0) hr26
  obtain ⟨b28, hb29, hf⟩ := e_bd hf
  have p30 := f27.1 _ _ _ p_v0 hb29
  replace hf := (e_if hf).2
  obtain ⟨r31, hr32, hf⟩ := e_bd hf
  have f33 := w_X11_enters p_v0 f27 hr32
  obtain ⟨b34, hb35, hf⟩ := e_bd hf
  have p36 := f33.1 _ _ _ p_v0 hb35
  replace hf := (e_if hf).2
  obtain ⟨r37, hr38, hf⟩ := e_bd hf
  have f39 := w_X11_enters p_v0 f33 hr38
  exact fr_oW hf f39
theorem w_X11_been {P : Nat → Prop} {L : eL} {h0 h : eH} {v0 : Nat} {v1 : Int32} {r : eH × Int32} (p_v0 : P v0) (f0 : fr P h0 h) (hf : f_X11_been L h v0 v1 = some r) : fr P h0 r.1 := by
  unfold f_X11_been at hf
  replace hf := (e_if hf).2
  rcases e_or hf with hf | hf
  · exact fr_oW hf (fr_sI f0 p_v0)
  · obtain ⟨r1, hr2, hf⟩ := e_bd hf
    have f3 := w_X11_puts p_v0 (fr_sI f0 p_v0) hr2
    obtain ⟨b4, hb5, hf⟩ := e_bd hf
    have p6 := f3.1 _ _ _ p_v0 hb5
    replace hf := (e_if hf).2
    refine w_X11_been_L36 ?_ e_fu _ _ _ _ _ p_v0 f3 hf
    · intro h21 w0_22 w2_23 p_w0_22 f24 hf
      exact w_X11_been_J82 _ _ _ p_w0_22 f24 hf
theorem w_X11_sweeps_L25 {P : Nat → Prop} {L : eL} {h0 : eH} {r : eH × Int32} {k41 : eH → Int32 → Option (eH × Int32)} {k88 : eH → Option (eH × Int32)} (hk41 : ∀ (h : eH) (v3 : Int32), fr P h0 h → k41 h v3 = some r → fr P h0 r.1) (hk88 : ∀ (h : eH), fr P h0 h → k88 h = some r → fr P h0 r.1) : ∀ (n : Nat) (h : eH) (v0 : Nat) (v3 : Int32), P v0 → fr P h0 h → f_X11_sweeps_L25 L n k41 k88 h v0 v3 = some r → fr P h0 r.1 := by
  intro n
  induction n with
  | zero => intro h v0 v3 p_v0 f0 hf; exact absurd hf (by simp [f_X11_sweeps_L25])
  | succ n ih =>
    intro h v0 v3 p_v0 f0 hf
    unfold f_X11_sweeps_L25 at hf
    rcases e_or hf with hf | hf
    · exact hk88 _ f0 hf
    · replace hf := (e_if hf).2
      rcases e_or hf with hf | hf
      · exact hk41 _ _ f0 hf
      · rcases e_or hf with hf | hf
        · exact ih _ _ _ p_v0 f0 hf
        · obtain ⟨b10, hb11, hf⟩ := e_bd hf
          have p12 := f0.1 _ _ _ p_v0 hb11
          obtain ⟨r13, hr14, hf⟩ := e_bd hf
          have f15 := w_X11_stepGoes p_v0 p12 f0 hr14
          obtain ⟨b16, hb17, hf⟩ := e_bd hf
          have p18 := f15.1 _ _ _ p_v0 hb17
          replace hf := (e_if hf).2
          obtain ⟨h19, hh20, hf⟩ := e_bd hf
          have f21 := fr_oV hh20 (fr_sL f15 p_v0)
          exact ih _ _ _ p_v0 f21 hf
theorem w_X11_sweeps {P : Nat → Prop} {L : eL} {h0 h : eH} {v0 : Nat} {v1 : Int64} {r : eH × Int32} (p_v0 : P v0) (f0 : fr P h0 h) (hf : f_X11_sweeps L h v0 v1 = some r) : fr P h0 r.1 := by
  unfold f_X11_sweeps at hf
  replace hf := (e_if hf).2
  obtain ⟨r1, hr2, hf⟩ := e_bd hf
  have f3 := w_X11_puts p_v0 f0 hr2
  obtain ⟨b4, hb5, hf⟩ := e_bd hf
  have p6 := f3.1 _ _ _ p_v0 hb5
  replace hf := (e_if hf).2
  obtain ⟨h7, hh8, hf⟩ := e_bd hf
  have f9 := fr_oV hh8 (fr_sL f3 p_v0)
  refine w_X11_sweeps_L25 ?_ ?_ e_fu _ _ _ p_v0 f9 hf
  · intro h22 w3_23 f24 hf
    exact fr_oW hf f24
  · intro h25 f26 hf
    exact fr_oW hf f26
theorem w_X11_all {P : Nat → Prop} {L : eL} {h0 h : eH} {v0 : Nat} {r : eH × Int32} (p_v0 : P v0) (f0 : fr P h0 h) (hf : f_X11_all L h v0 = some r) : fr P h0 r.1 := by
  unfold f_X11_all at hf
  replace hf := (e_if hf).2
  obtain ⟨b1, hb2, hf⟩ := e_bd hf
  have p3 := (fr_sI f0 p_v0).1 _ _ _ p_v0 hb2
  obtain ⟨b4, hb5, hf⟩ := e_bd hf
  have p6 := (fr_sI f0 p_v0).1 _ _ _ p_v0 hb5
  replace hf := (e_if hf).2
  obtain ⟨r7, hr8, hf⟩ := e_bd hf
  obtain ⟨r9, hr10, hf⟩ := e_bd hf
  have f11 := w_X11_sweeps p_v0 (fr_sI f0 p_v0) hr10
  rcases e_or hf with hf | hf
  · obtain ⟨r12, hr13, hf⟩ := e_bd hf
    have f14 := w_X11_enters p_v0 (fr_sI f11 p_v0) hr13
    exact fr_oW hf f14
  · exact fr_oW hf f11
theorem w_X11_never {P : Nat → Prop} {L : eL} {h0 h : eH} {v0 : Nat} {r : eH × Int32} (p_v0 : P v0) (f0 : fr P h0 h) (hf : f_X11_never L h v0 = some r) : fr P h0 r.1 := by
  unfold f_X11_never at hf
  replace hf := (e_if hf).2
  obtain ⟨b1, hb2, hf⟩ := e_bd hf
  have p3 := (fr_sI f0 p_v0).1 _ _ _ p_v0 hb2
  obtain ⟨b4, hb5, hf⟩ := e_bd hf
  have p6 := (fr_sI f0 p_v0).1 _ _ _ p_v0 hb5
  replace hf := (e_if hf).2
  obtain ⟨r7, hr8, hf⟩ := e_bd hf
  obtain ⟨r9, hr10, hf⟩ := e_bd hf
  have f11 := w_X11_sweeps p_v0 (fr_sI f0 p_v0) hr10
  obtain ⟨r12, hr13, hf⟩ := e_bd hf
  have f14 := w_X11_enters p_v0 (fr_sI f11 p_v0) hr13
  exact fr_oW hf f14
theorem w_X11_angle_L37 {P : Nat → Prop} {L : eL} {h0 : eH} {r : eH × Int32} {k92 : eH → Nat → Int32 → Int32 → Option (eH × Int32)} (hk92 : ∀ (h : eH) (v0 : Nat) (v3 : Int32) (v4 : Int32), P v0 → fr P h0 h → k92 h v0 v3 v4 = some r → fr P h0 r.1) : ∀ (n : Nat) (h : eH) (v0 : Nat) (v1 : Int64) (v3 : Int32) (v4 : Int32) (v5 : Int32), P v0 → fr P h0 h → f_X11_angle_L37 L n k92 h v0 v1 v3 v4 v5 = some r → fr P h0 r.1 := by
  intro n
  induction n with
  | zero => intro h v0 v1 v3 v4 v5 p_v0 f0 hf; exact absurd hf (by simp [f_X11_angle_L37])
  | succ n ih =>
    intro h v0 v1 v3 v4 v5 p_v0 f0 hf
    unfold f_X11_angle_L37 at hf
    rcases e_or hf with hf | hf
    · exact hk92 _ _ _ _ p_v0 f0 hf
    · replace hf := (e_if hf).2
      obtain ⟨r9, hr10, hf⟩ := e_bd hf
      have f11 := w_X11_sweeps p_v0 (fr_sI f0 p_v0) hr10
      obtain ⟨r12, hr13, hf⟩ := e_bd hf
      have f14 := w_X11_enters p_v0 f11 hr13
      rcases e_or hf with hf | hf
      · exact ih _ _ _ _ _ _ p_v0 f14 hf
      · exact ih _ _ _ _ _ _ p_v0 f14 hf
theorem w_X11_angle {P : Nat → Prop} {L : eL} {h0 h : eH} {v0 : Nat} {r : eH × Int32} (p_v0 : P v0) (f0 : fr P h0 h) (hf : f_X11_angle L h v0 = some r) : fr P h0 r.1 := by
  unfold f_X11_angle at hf
  replace hf := (e_if hf).2
  obtain ⟨b1, hb2, hf⟩ := e_bd hf
  have p3 := (fr_sI f0 p_v0).1 _ _ _ p_v0 hb2
  obtain ⟨b4, hb5, hf⟩ := e_bd hf
  have p6 := (fr_sI f0 p_v0).1 _ _ _ p_v0 hb5
  replace hf := (e_if hf).2
  obtain ⟨r7, hr8, hf⟩ := e_bd hf
  refine w_X11_angle_L37 ?_ e_fu _ _ _ _ _ _ p_v0 (fr_sI (fr_sI f0 p_v0) p_v0) hf
  · intro h15 w0_16 w3_17 w4_18 p_w0_16 f19 hf
    replace hf := (e_if hf).2
    obtain ⟨b20, hb21, hf⟩ := e_bd hf
    have p22 := (fr_sI f19 p_w0_16).1 _ _ _ p_w0_16 hb21
    replace hf := (e_if hf).2
    obtain ⟨h23, hh24, hf⟩ := e_bd hf
    have f25 := fr_oV hh24 (fr_sL (fr_sI f19 p_w0_16) p22)
    exact fr_oW hf f25
theorem w_X11_meets_L11 {P : Nat → Prop} {L : eL} {h0 : eH} {r : eH × Int32} {k39 : eH → Int32 → Option (eH × Int32)} {k57 : eH → Option (eH × Int32)} (hk39 : ∀ (h : eH) (v1 : Int32), fr P h0 h → k39 h v1 = some r → fr P h0 r.1) (hk57 : ∀ (h : eH), fr P h0 h → k57 h = some r → fr P h0 r.1) : ∀ (n : Nat) (h : eH) (v0 : Nat) (v1 : Int32), P v0 → fr P h0 h → f_X11_meets_L11 L n k39 k57 h v0 v1 = some r → fr P h0 r.1 := by
  intro n
  induction n with
  | zero => intro h v0 v1 p_v0 f0 hf; exact absurd hf (by simp [f_X11_meets_L11])
  | succ n ih =>
    intro h v0 v1 p_v0 f0 hf
    unfold f_X11_meets_L11 at hf
    rcases e_or hf with hf | hf
    · exact hk57 _ f0 hf
    · replace hf := (e_if hf).2
      rcases e_or hf with hf | hf
      · exact hk57 _ f0 hf
      · obtain ⟨b4, hb5, hf⟩ := e_bd hf
        have p6 := f0.1 _ _ _ p_v0 hb5
        replace hf := (e_if hf).2
        rcases e_or hf with hf | hf
        · exact hk39 _ _ f0 hf
        · obtain ⟨b7, hb8, hf⟩ := e_bd hf
          have p9 := f0.1 _ _ _ p_v0 hb8
          obtain ⟨r10, hr11, hf⟩ := e_bd hf
          have f12 := w_X11_stepGoes p_v0 p9 f0 hr11
          exact ih _ _ _ p_v0 f12 hf
theorem w_X11_meets {P : Nat → Prop} {L : eL} {h0 h : eH} {v0 : Nat} {r : eH × Int32} (p_v0 : P v0) (f0 : fr P h0 h) (hf : f_X11_meets L h v0 = some r) : fr P h0 r.1 := by
  unfold f_X11_meets at hf
  replace hf := (e_if hf).2
  obtain ⟨r1, hr2, hf⟩ := e_bd hf
  have f3 := w_X11_puts p_v0 (fr_sI f0 p_v0) hr2
  refine w_X11_meets_L11 ?_ ?_ e_fu _ _ _ p_v0 f3 hf
  · intro h13 w1_14 f15 hf
    exact fr_oW hf f15
  · intro h16 f17 hf
    exact fr_oW hf f17
theorem w_X11_round_L11 {P : Nat → Prop} {L : eL} {h0 : eH} {r : eH × Int32} {k62 : eH → Nat → Int32 → Option (eH × Int32)} {k95 : eH → Option (eH × Int32)} (hk62 : ∀ (h : eH) (v0 : Nat) (v1 : Int32), P v0 → fr P h0 h → k62 h v0 v1 = some r → fr P h0 r.1) (hk95 : ∀ (h : eH), fr P h0 h → k95 h = some r → fr P h0 r.1) : ∀ (n : Nat) (h : eH) (v0 : Nat) (v1 : Int32), P v0 → fr P h0 h → f_X11_round_L11 L n k62 k95 h v0 v1 = some r → fr P h0 r.1 := by
  intro n
  induction n with
  | zero => intro h v0 v1 p_v0 f0 hf; exact absurd hf (by simp [f_X11_round_L11])
  | succ n ih =>
    intro h v0 v1 p_v0 f0 hf
    unfold f_X11_round_L11 at hf
    rcases e_or hf with hf | hf
    · exact hk95 _ f0 hf
    · replace hf := (e_if hf).2
      obtain ⟨b4, hb5, hf⟩ := e_bd hf
      have p6 := f0.1 _ _ _ p_v0 hb5
      obtain ⟨r7, hr8, hf⟩ := e_bd hf
      have f9 := w_X11_stepGoes p_v0 p6 f0 hr8
      obtain ⟨b10, hb11, hf⟩ := e_bd hf
      have p12 := f9.1 _ _ _ p_v0 hb11
      replace hf := (e_if hf).2
      obtain ⟨b13, hb14, hf⟩ := e_bd hf
      have p15 := f9.1 _ _ _ p_v0 hb14
      replace hf := (e_if hf).2
      rcases e_or hf with hf | hf
      · obtain ⟨b16, hb17, hf⟩ := e_bd hf
        have p18 := f9.1 _ _ _ p_v0 hb17
        replace hf := (e_if hf).2
        obtain ⟨b19, hb20, hf⟩ := e_bd hf
        have p21 := f9.1 _ _ _ p_v0 hb20
        replace hf := (e_if hf).2
        rcases e_or hf with hf | hf
        · exact hk62 _ _ _ p_v0 f9 hf
        · exact ih _ _ _ p_v0 f9 hf
      · exact ih _ _ _ p_v0 f9 hf
theorem w_X11_round {P : Nat → Prop} {L : eL} {h0 h : eH} {v0 : Nat} {r : eH × Int32} (p_v0 : P v0) (f0 : fr P h0 h) (hf : f_X11_round L h v0 = some r) : fr P h0 r.1 := by
  unfold f_X11_round at hf
  replace hf := (e_if hf).2
  obtain ⟨r1, hr2, hf⟩ := e_bd hf
  have f3 := w_X11_puts p_v0 (fr_sI f0 p_v0) hr2
  refine w_X11_round_L11 ?_ ?_ e_fu _ _ _ p_v0 f3 hf
  · intro h22 w0_23 w1_24 p_w0_23 f25 hf
    replace hf := (e_if hf).2
    obtain ⟨b26, hb27, hf⟩ := e_bd hf
    have p28 := (fr_sI f25 p_w0_23).1 _ _ _ p_w0_23 hb27
    replace hf := (e_if hf).2
    obtain ⟨b29, hb30, hf⟩ := e_bd hf
    have p31 := (fr_sI f25 p_w0_23).1 _ _ _ p_w0_23 hb30
    replace hf := (e_if hf).2
    obtain ⟨r32, hr33, hf⟩ := e_bd hf
    have f34 := w_X11_enters p_w0_23 (fr_sI f25 p_w0_23) hr33
    exact fr_oW hf f34
  · intro h35 f36 hf
    exact fr_oW hf f36
theorem w_X11_corner_L25 {P : Nat → Prop} {L : eL} {h0 : eH} {r : eH × Int32} {k44 : eH → Nat → Int32 → Option (eH × Int32)} (hk44 : ∀ (h : eH) (v0 : Nat) (v1 : Int32), P v0 → fr P h0 h → k44 h v0 v1 = some r → fr P h0 r.1) : ∀ (n : Nat) (h : eH) (v0 : Nat) (v1 : Int32) (v2 : Int32), P v0 → fr P h0 h → f_X11_corner_L25 L n k44 h v0 v1 v2 = some r → fr P h0 r.1 := by
  intro n
  induction n with
  | zero => intro h v0 v1 v2 p_v0 f0 hf; exact absurd hf (by simp [f_X11_corner_L25])
  | succ n ih =>
    intro h v0 v1 v2 p_v0 f0 hf
    unfold f_X11_corner_L25 at hf
    rcases e_or hf with hf | hf
    · exact hk44 _ _ _ p_v0 f0 hf
    · replace hf := (e_if hf).2
      obtain ⟨b4, hb5, hf⟩ := e_bd hf
      have p6 := f0.1 _ _ _ p_v0 hb5
      replace hf := (e_if hf).2
      exact ih _ _ _ _ p_v0 (fr_sI f0 p6) hf
theorem w_X11_corner_L46 {P : Nat → Prop} {L : eL} {h0 : eH} {r : eH × Int32} {k83 : eH → Nat → Option (eH × Int32)} (hk83 : ∀ (h : eH) (v0 : Nat), P v0 → fr P h0 h → k83 h v0 = some r → fr P h0 r.1) : ∀ (n : Nat) (h : eH) (v0 : Nat) (v1 : Int32) (v2 : Int32), P v0 → fr P h0 h → f_X11_corner_L46 L n k83 h v0 v1 v2 = some r → fr P h0 r.1 := by
  intro n
  induction n with
  | zero => intro h v0 v1 v2 p_v0 f0 hf; exact absurd hf (by simp [f_X11_corner_L46])
  | succ n ih =>
    intro h v0 v1 v2 p_v0 f0 hf
    unfold f_X11_corner_L46 at hf
    rcases e_or hf with hf | hf
    · exact hk83 _ _ p_v0 f0 hf
    · replace hf := (e_if hf).2
      obtain ⟨b11, hb12, hf⟩ := e_bd hf
      have p13 := f0.1 _ _ _ p_v0 hb12
      obtain ⟨r14, hr15, hf⟩ := e_bd hf
      have f16 := w_X11_stepGoes p_v0 p13 f0 hr15
      obtain ⟨b17, hb18, hf⟩ := e_bd hf
      have p19 := f16.1 _ _ _ p_v0 hb18
      obtain ⟨b20, hb21, hf⟩ := e_bd hf
      have p22 := f16.1 _ _ _ p_v0 hb21
      replace hf := (e_if hf).2
      replace hf := (e_if hf).2
      obtain ⟨h23, hh24, hf⟩ := e_bd hf
      have f25 := fr_oV hh24 (fr_sI f16 p19)
      exact ih _ _ _ _ p_v0 f25 hf
theorem w_X11_corner_L87 {P : Nat → Prop} {L : eL} {h0 : eH} {r : eH × Int32} {k120 : eH → Nat → Int32 → Option (eH × Int32)} (hk120 : ∀ (h : eH) (v0 : Nat) (v2 : Int32), P v0 → fr P h0 h → k120 h v0 v2 = some r → fr P h0 r.1) : ∀ (n : Nat) (h : eH) (v0 : Nat) (v2 : Int32) (v3 : Int32), P v0 → fr P h0 h → f_X11_corner_L87 L n k120 h v0 v2 v3 = some r → fr P h0 r.1 := by
  intro n
  induction n with
  | zero => intro h v0 v2 v3 p_v0 f0 hf; exact absurd hf (by simp [f_X11_corner_L87])
  | succ n ih =>
    intro h v0 v2 v3 p_v0 f0 hf
    unfold f_X11_corner_L87 at hf
    rcases e_or hf with hf | hf
    · exact hk120 _ _ _ p_v0 f0 hf
    · replace hf := (e_if hf).2
      obtain ⟨b29, hb30, hf⟩ := e_bd hf
      have p31 := f0.1 _ _ _ p_v0 hb30
      replace hf := (e_if hf).2
      obtain ⟨b32, hb33, hf⟩ := e_bd hf
      have p34 := f0.1 _ _ _ p_v0 hb33
      replace hf := (e_if hf).2
      rcases e_or hf with hf | hf
      · exact ih _ _ _ _ p_v0 f0 hf
      · exact ih _ _ _ _ p_v0 f0 hf
theorem w_X11_corner {P : Nat → Prop} {L : eL} {h0 h : eH} {v0 : Nat} {v1 : Int32} {r : eH × Int32} (p_v0 : P v0) (f0 : fr P h0 h) (hf : f_X11_corner L h v0 v1 = some r) : fr P h0 r.1 := by
  unfold f_X11_corner at hf
  replace hf := (e_if hf).2
  rcases e_or hf with hf | hf
  · exact fr_oW hf (fr_sI f0 p_v0)
  · obtain ⟨r1, hr2, hf⟩ := e_bd hf
    have f3 := w_X11_puts p_v0 (fr_sI f0 p_v0) hr2
    refine w_X11_corner_L25 ?_ e_fu _ _ _ _ p_v0 f3 hf
    · intro h7 w0_8 w1_9 p_w0_8 f10 hf
      refine w_X11_corner_L46 ?_ e_fu _ _ _ _ p_w0_8 f10 hf
      · intro h26 w0_27 p_w0_27 f28 hf
        refine w_X11_corner_L87 ?_ e_fu _ _ _ _ p_w0_27 f28 hf
        · intro h35 w0_36 w2_37 p_w0_36 f38 hf
          replace hf := (e_if hf).2
          obtain ⟨b39, hb40, hf⟩ := e_bd hf
          have p41 := (fr_sI f38 p_w0_36).1 _ _ _ p_w0_36 hb40
          replace hf := (e_if hf).2
          obtain ⟨r42, hr43, hf⟩ := e_bd hf
          have f44 := w_X11_enters p_w0_36 (fr_sI f38 p_w0_36) hr43
          exact fr_oW hf f44
theorem w_X11_laysFar_L2 {P : Nat → Prop} {L : eL} {h0 : eH} {r : eH} {k41 : eH → Nat → Nat → Option eH} (hk41 : ∀ (h : eH) (v0 : Nat) (v1 : Nat), P v0 → P v1 → fr P h0 h → k41 h v0 v1 = some r → fr P h0 r) : ∀ (n : Nat) (h : eH) (v0 : Nat) (v1 : Nat) (v2 : Int32) (v3 : Int32), P v0 → P v1 → fr P h0 h → f_X11_laysFar_L2 L n k41 h v0 v1 v2 v3 = some r → fr P h0 r := by
  intro n
  induction n with
  | zero => intro h v0 v1 v2 v3 p_v0 p_v1 f0 hf; exact absurd hf (by simp [f_X11_laysFar_L2])
  | succ n ih =>
    intro h v0 v1 v2 v3 p_v0 p_v1 f0 hf
    unfold f_X11_laysFar_L2 at hf
    rcases e_or hf with hf | hf
    · exact hk41 _ _ _ p_v0 p_v1 f0 hf
    · replace hf := (e_if hf).2
      obtain ⟨b1, hb2, hf⟩ := e_bd hf
      have p3 := f0.1 _ _ _ p_v0 hb2
      rcases e_or hf with hf | hf
      · obtain ⟨r4, hr5, hf⟩ := e_bd hf
        rcases e_or hf with hf | hf
        · replace hf := (e_if hf).2
          exact ih _ _ _ _ _ p_v0 p_v1 (fr_sI f0 p3) hf
        · replace hf := (e_if hf).2
          exact ih _ _ _ _ _ p_v0 p_v1 (fr_sI f0 p3) hf
      · replace hf := (e_if hf).2
        exact ih _ _ _ _ _ p_v0 p_v1 (fr_sI f0 p3) hf
theorem w_X11_laysFar_L64 {P : Nat → Prop} {L : eL} {h0 : eH} {r : eH} {k148 : eH → Nat → Nat → Int32 → Int32 → Option eH} (hk148 : ∀ (h : eH) (v0 : Nat) (v1 : Nat) (v3 : Int32) (v4 : Int32), P v0 → P v1 → fr P h0 h → k148 h v0 v1 v3 v4 = some r → fr P h0 r) : ∀ (n : Nat) (h : eH) (v0 : Nat) (v1 : Nat) (v3 : Int32) (v4 : Int32) (v5 : Int32), P v0 → P v1 → fr P h0 h → f_X11_laysFar_L64 L n k148 h v0 v1 v3 v4 v5 = some r → fr P h0 r := by
  intro n
  induction n with
  | zero => intro h v0 v1 v3 v4 v5 p_v0 p_v1 f0 hf; exact absurd hf (by simp [f_X11_laysFar_L64])
  | succ n ih =>
    intro h v0 v1 v3 v4 v5 p_v0 p_v1 f0 hf
    unfold f_X11_laysFar_L64 at hf
    rcases e_or hf with hf | hf
    · exact hk148 _ _ _ _ _ p_v0 p_v1 f0 hf
    · replace hf := (e_if hf).2
      obtain ⟨r12, hr13, hf⟩ := e_bd hf
      rcases e_or hf with hf | hf
      · exact hk148 _ _ _ _ _ p_v0 p_v1 f0 hf
      · obtain ⟨r14, hr15, hf⟩ := e_bd hf
        rcases e_or hf with hf | hf
        · exact ih _ _ _ _ _ _ p_v0 p_v1 f0 hf
        · obtain ⟨b16, hb17, hf⟩ := e_bd hf
          have p18 := f0.1 _ _ _ p_v0 hb17
          replace hf := (e_if hf).2
          obtain ⟨r19, hr20, hf⟩ := e_bd hf
          obtain ⟨b21, hb22, hf⟩ := e_bd hf
          have p23 := f0.1 _ _ _ p_v0 hb22
          replace hf := (e_if hf).2
          rcases e_or hf with hf | hf
          · exact ih _ _ _ _ _ _ p_v0 p_v1 f0 hf
          · obtain ⟨b24, hb25, hf⟩ := e_bd hf
            have p26 := f0.1 _ _ _ p_v0 hb25
            obtain ⟨b27, hb28, hf⟩ := e_bd hf
            have p29 := f0.1 _ _ _ p_v0 hb28
            replace hf := (e_if hf).2
            obtain ⟨r30, hr31, hf⟩ := e_bd hf
            replace hf := (e_if hf).2
            obtain ⟨h32, hh33, hf⟩ := e_bd hf
            have f34 := fr_oV hh33 (fr_sI f0 p26)
            exact ih _ _ _ _ _ _ p_v0 p_v1 f34 hf
theorem w_X11_laysFar_L52 {P : Nat → Prop} {L : eL} {h0 : eH} {r : eH} {k154 : eH → Nat → Nat → Int32 → Option eH} (hk154 : ∀ (h : eH) (v0 : Nat) (v1 : Nat) (v3 : Int32), P v0 → P v1 → fr P h0 h → k154 h v0 v1 v3 = some r → fr P h0 r) : ∀ (n : Nat) (h : eH) (v0 : Nat) (v1 : Nat) (v3 : Int32) (v4 : Int32), P v0 → P v1 → fr P h0 h → f_X11_laysFar_L52 L n k154 h v0 v1 v3 v4 = some r → fr P h0 r := by
  intro n
  induction n with
  | zero => intro h v0 v1 v3 v4 p_v0 p_v1 f0 hf; exact absurd hf (by simp [f_X11_laysFar_L52])
  | succ n ih =>
    intro h v0 v1 v3 v4 p_v0 p_v1 f0 hf
    unfold f_X11_laysFar_L52 at hf
    replace hf := (e_if hf).2
    obtain ⟨r10, hr11, hf⟩ := e_bd hf
    rcases e_or hf with hf | hf
    · exact hk154 _ _ _ _ p_v0 p_v1 f0 hf
    · refine w_X11_laysFar_L64 ?_ e_fu _ _ _ _ _ _ p_v0 p_v1 f0 hf
      · intro h35 w0_36 w1_37 w3_38 w4_39 p_w0_36 p_w1_37 f40 hf
        exact ih _ _ _ _ _ p_w0_36 p_w1_37 f40 hf
theorem w_X11_laysFar_L43 {P : Nat → Prop} {L : eL} {h0 : eH} {r : eH} {k157 : eH → Option eH} (hk157 : ∀ (h : eH), fr P h0 h → k157 h = some r → fr P h0 r) : ∀ (n : Nat) (h : eH) (v0 : Nat) (v1 : Nat) (v3 : Int32), P v0 → P v1 → fr P h0 h → f_X11_laysFar_L43 L n k157 h v0 v1 v3 = some r → fr P h0 r := by
  intro n
  induction n with
  | zero => intro h v0 v1 v3 p_v0 p_v1 f0 hf; exact absurd hf (by simp [f_X11_laysFar_L43])
  | succ n ih =>
    intro h v0 v1 v3 p_v0 p_v1 f0 hf
    unfold f_X11_laysFar_L43 at hf
    rcases e_or hf with hf | hf
    · exact hk157 _ f0 hf
    · refine w_X11_laysFar_L52 ?_ e_fu _ _ _ _ _ p_v0 p_v1 f0 hf
      · intro h41 w0_42 w1_43 w3_44 p_w0_42 p_w1_43 f45 hf
        exact ih _ _ _ _ p_w0_42 p_w1_43 f45 hf
theorem w_X11_laysFar {P : Nat → Prop} {L : eL} {h0 h : eH} {v0 : Nat} {v1 : Nat} {v2 : Int32} {r : eH} (p_v0 : P v0) (p_v1 : P v1) (f0 : fr P h0 h) (hf : f_X11_laysFar L h v0 v1 v2 = some r) : fr P h0 r := by
  unfold f_X11_laysFar at hf
  refine w_X11_laysFar_L2 ?_ e_fu _ _ _ _ _ p_v0 p_v1 f0 hf
  · intro h6 w0_7 w1_8 p_w0_7 p_w1_8 f9 hf
    refine w_X11_laysFar_L43 ?_ e_fu _ _ _ _ p_w0_7 p_w1_8 f9 hf
    · intro h46 f47 hf
      exact fr_oV hf f47
theorem w_X11_way_L84 {P : Nat → Prop} {L : eL} {h0 : eH} {r : eH × Int32} {k146 : eH → Nat → Int32 → Int32 → Int32 → Option (eH × Int32)} (hk146 : ∀ (h : eH) (v0 : Nat) (v1 : Int32) (v2 : Int32) (v4 : Int32), P v0 → fr P h0 h → k146 h v0 v1 v2 v4 = some r → fr P h0 r.1) : ∀ (n : Nat) (h : eH) (v0 : Nat) (v1 : Int32) (v2 : Int32) (v3 : Int32) (v4 : Int32) (v5 : Int32), P v0 → fr P h0 h → f_X11_way_L84 L n k146 h v0 v1 v2 v3 v4 v5 = some r → fr P h0 r.1 := by
  intro n
  induction n with
  | zero => intro h v0 v1 v2 v3 v4 v5 p_v0 f0 hf; exact absurd hf (by simp [f_X11_way_L84])
  | succ n ih =>
    intro h v0 v1 v2 v3 v4 v5 p_v0 f0 hf
    unfold f_X11_way_L84 at hf
    rcases e_or hf with hf | hf
    · exact hk146 _ _ _ _ _ p_v0 f0 hf
    · replace hf := (e_if hf).2
      obtain ⟨r22, hr23, hf⟩ := e_bd hf
      rcases e_or hf with hf | hf
      · exact ih _ _ _ _ _ _ _ p_v0 f0 hf
      · obtain ⟨b24, hb25, hf⟩ := e_bd hf
        have p26 := f0.1 _ _ _ p_v0 hb25
        replace hf := (e_if hf).2
        obtain ⟨r27, hr28, hf⟩ := e_bd hf
        obtain ⟨b29, hb30, hf⟩ := e_bd hf
        have p31 := f0.1 _ _ _ p_v0 hb30
        replace hf := (e_if hf).2
        rcases e_or hf with hf | hf
        · exact ih _ _ _ _ _ _ _ p_v0 f0 hf
        · exact ih _ _ _ _ _ _ _ p_v0 f0 hf
theorem w_X11_way_L72 {P : Nat → Prop} {L : eL} {h0 : eH} {r : eH × Int32} {k158 : eH → Nat → Int32 → Option (eH × Int32)} (hk158 : ∀ (h : eH) (v0 : Nat) (v1 : Int32), P v0 → fr P h0 h → k158 h v0 v1 = some r → fr P h0 r.1) : ∀ (n : Nat) (h : eH) (v0 : Nat) (v1 : Int32) (v2 : Int32) (v3 : Int32), P v0 → fr P h0 h → f_X11_way_L72 L n k158 h v0 v1 v2 v3 = some r → fr P h0 r.1 := by
  intro n
  induction n with
  | zero => intro h v0 v1 v2 v3 p_v0 f0 hf; exact absurd hf (by simp [f_X11_way_L72])
  | succ n ih =>
    intro h v0 v1 v2 v3 p_v0 f0 hf
    unfold f_X11_way_L72 at hf
    rcases e_or hf with hf | hf
    · exact hk158 _ _ _ p_v0 f0 hf
    · refine w_X11_way_L84 ?_ e_fu _ _ _ _ _ _ _ p_v0 f0 hf
      · intro h32 w0_33 w1_34 w2_35 w4_36 p_w0_33 f37 hf
        replace hf := (e_if hf).2
        obtain ⟨r38, hr39, hf⟩ := e_bd hf
        have f40 := w_X11_enters p_w0_33 f37 hr39
        exact ih _ _ _ _ _ p_w0_33 f40 hf
theorem w_X11_way {P : Nat → Prop} {L : eL} {h0 h : eH} {v0 : Nat} {v1 : Int32} {v2 : Int32} {r : eH × Int32} (p_v0 : P v0) (f0 : fr P h0 h) (hf : f_X11_way L h v0 v1 v2 = some r) : fr P h0 r.1 := by
  unfold f_X11_way at hf
  replace hf := (e_if hf).2
  obtain ⟨r1, hr2, hf⟩ := e_bd hf
  rcases e_or hf with hf | hf
  · exact fr_oW hf (fr_sI f0 p_v0)
  · obtain ⟨r3, hr4, hf⟩ := e_bd hf
    rcases e_or hf with hf | hf
    · exact fr_oW hf (fr_sI f0 p_v0)
    · obtain ⟨b5, hb6, hf⟩ := e_bd hf
      have p7 := (fr_sI f0 p_v0).1 _ _ _ p_v0 hb6
      obtain ⟨r8, hr9, hf⟩ := e_bd hf
      have f10 := w_X11_laysFar p_v0 p7 (fr_sI f0 p_v0) hr9
      obtain ⟨b11, hb12, hf⟩ := e_bd hf
      have p13 := f10.1 _ _ _ p_v0 hb12
      obtain ⟨r14, hr15, hf⟩ := e_bd hf
      rcases e_or hf with hf | hf
      · exact fr_oW hf f10
      · obtain ⟨b16, hb17, hf⟩ := e_bd hf
        have p18 := f10.1 _ _ _ p_v0 hb17
        replace hf := (e_if hf).2
        rcases e_or hf with hf | hf
        · obtain ⟨r19, hr20, hf⟩ := e_bd hf
          have f21 := w_X11_enters p_v0 (fr_sI f10 p_v0) hr20
          refine w_X11_way_L72 ?_ e_fu _ _ _ _ _ p_v0 f21 hf
          · intro h41 w0_42 w1_43 p_w0_42 f44 hf
            replace hf := (e_if hf).2
            obtain ⟨b45, hb46, hf⟩ := e_bd hf
            have p47 := f44.1 _ _ _ p_w0_42 hb46
            replace hf := (e_if hf).2
            exact fr_oW hf f44
        · exact fr_oW hf f10
theorem w_X11_back_J76 {P : Nat → Prop} {L : eL} {h0 : eH} {r : eH × Int32} {k38 : eH → Nat → Int32 → Int32 → Int32 → Option (eH × Int32)} {k103 : eH → Int32 → Option (eH × Int32)} (hk38 : ∀ (h : eH) (v0 : Nat) (v1 : Int32) (v2 : Int32) (v3 : Int32), P v0 → fr P h0 h → k38 h v0 v1 v2 v3 = some r → fr P h0 r.1) (hk103 : ∀ (h : eH) (v1 : Int32), fr P h0 h → k103 h v1 = some r → fr P h0 r.1) : ∀ (h : eH) (v0 : Nat) (v3 : Int32) (s0 : Int32), P v0 → fr P h0 h → f_X11_back_J76 L k38 k103 h v0 v3 s0 = some r → fr P h0 r.1 := by
  intro h v0 v3 s0 p_v0 f0 hf
  unfold f_X11_back_J76 at hf
  replace hf := (e_if hf).2
  obtain ⟨b19, hb20, hf⟩ := e_bd hf
  have p21 := f0.1 _ _ _ p_v0 hb20
  obtain ⟨b22, hb23, hf⟩ := e_bd hf
  have p24 := f0.1 _ _ _ p_v0 hb23
  replace hf := (e_if hf).2
  obtain ⟨r25, hr26, hf⟩ := e_bd hf
  obtain ⟨r27, hr28, hf⟩ := e_bd hf
  have f29 := w_X11_stepGoes p_v0 p21 f0 hr28
  exact hk38 _ _ _ _ _ p_v0 f29 hf
theorem w_X11_back_L38 {P : Nat → Prop} {L : eL} {h0 : eH} {r : eH × Int32} {k103 : eH → Int32 → Option (eH × Int32)} (hk103 : ∀ (h : eH) (v1 : Int32), fr P h0 h → k103 h v1 = some r → fr P h0 r.1) : ∀ (n : Nat) (h : eH) (v0 : Nat) (v1 : Int32) (v2 : Int32) (v3 : Int32), P v0 → fr P h0 h → f_X11_back_L38 L n k103 h v0 v1 v2 v3 = some r → fr P h0 r.1 := by
  intro n
  induction n with
  | zero => intro h v0 v1 v2 v3 p_v0 f0 hf; exact absurd hf (by simp [f_X11_back_L38])
  | succ n ih =>
    intro h v0 v1 v2 v3 p_v0 f0 hf
    unfold f_X11_back_L38 at hf
    rcases e_or hf with hf | hf
    · exact hk103 _ _ f0 hf
    · rcases e_or hf with hf | hf
      · exact hk103 _ _ f0 hf
      · replace hf := (e_if hf).2
        obtain ⟨b10, hb11, hf⟩ := e_bd hf
        have p12 := f0.1 _ _ _ p_v0 hb11
        replace hf := (e_if hf).2
        obtain ⟨b13, hb14, hf⟩ := e_bd hf
        have p15 := f0.1 _ _ _ p_v0 hb14
        obtain ⟨b16, hb17, hf⟩ := e_bd hf
        have p18 := f0.1 _ _ _ p_v0 hb17
        replace hf := (e_if hf).2
        replace hf := (e_if hf).2
        rcases e_or hf with hf | hf
        · exact w_X11_back_J76 ih hk103 _ _ _ _ p_v0 f0 hf
        · exact w_X11_back_J76 ih hk103 _ _ _ _ p_v0 f0 hf
theorem w_X11_back {P : Nat → Prop} {L : eL} {h0 h : eH} {v0 : Nat} {r : eH × Int32} (p_v0 : P v0) (f0 : fr P h0 h) (hf : f_X11_back L h v0 = some r) : fr P h0 r.1 := by
  unfold f_X11_back at hf
  replace hf := (e_if hf).2
  rcases e_or hf with hf | hf
  · obtain ⟨b1, hb2, hf⟩ := e_bd hf
    have p3 := (fr_sI f0 p_v0).1 _ _ _ p_v0 hb2
    obtain ⟨r4, hr5, hf⟩ := e_bd hf
    have f6 := w_X11_laysFar p_v0 p3 (fr_sI f0 p_v0) hr5
    obtain ⟨r7, hr8, hf⟩ := e_bd hf
    have f9 := w_X11_puts p_v0 f6 hr8
    refine w_X11_back_L38 ?_ e_fu _ _ _ _ _ p_v0 f9 hf
    · intro h30 w1_31 f32 hf
      exact fr_oW hf f32
  · exact fr_oW hf (fr_sI f0 p_v0)
theorem w_X11_plug_L48 {P : Nat → Prop} {L : eL} {h0 : eH} {r : eH × Int32} {k101 : eH → Nat → Int32 → Int32 → Int32 → Int32 → Option (eH × Int32)} (hk101 : ∀ (h : eH) (v0 : Nat) (v1 : Int32) (v2 : Int32) (v3 : Int32) (v4 : Int32), P v0 → fr P h0 h → k101 h v0 v1 v2 v3 v4 = some r → fr P h0 r.1) : ∀ (n : Nat) (h : eH) (v0 : Nat) (v1 : Int32) (v2 : Int32) (v3 : Int32) (v4 : Int32) (v5 : Int32), P v0 → fr P h0 h → f_X11_plug_L48 L n k101 h v0 v1 v2 v3 v4 v5 = some r → fr P h0 r.1 := by
  intro n
  induction n with
  | zero => intro h v0 v1 v2 v3 v4 v5 p_v0 f0 hf; exact absurd hf (by simp [f_X11_plug_L48])
  | succ n ih =>
    intro h v0 v1 v2 v3 v4 v5 p_v0 f0 hf
    unfold f_X11_plug_L48 at hf
    replace hf := (e_if hf).2
    obtain ⟨r14, hr15, hf⟩ := e_bd hf
    rcases e_or hf with hf | hf
    · exact hk101 _ _ _ _ _ _ p_v0 f0 hf
    · obtain ⟨b16, hb17, hf⟩ := e_bd hf
      have p18 := f0.1 _ _ _ p_v0 hb17
      obtain ⟨r19, hr20, hf⟩ := e_bd hf
      rcases e_or hf with hf | hf
      · exact ih _ _ _ _ _ _ _ p_v0 f0 hf
      · obtain ⟨b21, hb22, hf⟩ := e_bd hf
        have p23 := f0.1 _ _ _ p_v0 hb22
        replace hf := (e_if hf).2
        exact ih _ _ _ _ _ _ _ p_v0 f0 hf
theorem w_X11_plug_L13 {P : Nat → Prop} {L : eL} {h0 : eH} {r : eH × Int32} {k126 : eH → Nat → Int32 → Int32 → Option (eH × Int32)} (hk126 : ∀ (h : eH) (v0 : Nat) (v1 : Int32) (v2 : Int32), P v0 → fr P h0 h → k126 h v0 v1 v2 = some r → fr P h0 r.1) : ∀ (n : Nat) (h : eH) (v0 : Nat) (v1 : Int32) (v2 : Int32) (v3 : Int32), P v0 → fr P h0 h → f_X11_plug_L13 L n k126 h v0 v1 v2 v3 = some r → fr P h0 r.1 := by
  intro n
  induction n with
  | zero => intro h v0 v1 v2 v3 p_v0 f0 hf; exact absurd hf (by simp [f_X11_plug_L13])
  | succ n ih =>
    intro h v0 v1 v2 v3 p_v0 f0 hf
    unfold f_X11_plug_L13 at hf
    replace hf := (e_if hf).2
    obtain ⟨r1, hr2, hf⟩ := e_bd hf
    rcases e_or hf with hf | hf
    · exact hk126 _ _ _ _ p_v0 f0 hf
    · obtain ⟨b3, hb4, hf⟩ := e_bd hf
      have p5 := f0.1 _ _ _ p_v0 hb4
      obtain ⟨r6, hr7, hf⟩ := e_bd hf
      rcases e_or hf with hf | hf
      · exact ih _ _ _ _ _ p_v0 f0 hf
      · obtain ⟨b8, hb9, hf⟩ := e_bd hf
        have p10 := f0.1 _ _ _ p_v0 hb9
        obtain ⟨r11, hr12, hf⟩ := e_bd hf
        have f13 := w_X11_laysFar p_v0 p10 f0 hr12
        refine w_X11_plug_L48 ?_ e_fu _ _ _ _ _ _ _ p_v0 f13 hf
        · intro h24 w0_25 w1_26 w2_27 w3_28 w4_29 p_w0_25 f30 hf
          rcases e_or hf with hf | hf
          · exact ih _ _ _ _ _ p_w0_25 f30 hf
          · exact ih _ _ _ _ _ p_w0_25 f30 hf
theorem w_X11_plug {P : Nat → Prop} {L : eL} {h0 h : eH} {v0 : Nat} {r : eH × Int32} (p_v0 : P v0) (f0 : fr P h0 h) (hf : f_X11_plug L h v0 = some r) : fr P h0 r.1 := by
  unfold f_X11_plug at hf
  replace hf := (e_if hf).2
  refine w_X11_plug_L13 ?_ e_fu _ _ _ _ _ p_v0 (fr_sI f0 p_v0) hf
  · intro h31 w0_32 w1_33 w2_34 p_w0_32 f35 hf
    replace hf := (e_if hf).2
    obtain ⟨r36, hr37, hf⟩ := e_bd hf
    have f38 := w_X11_enters p_w0_32 (fr_sI f35 p_w0_32) hr37
    exact fr_oW hf f38
theorem w_X11_doors_L27 {P : Nat → Prop} {L : eL} {h0 : eH} {r : eH × Int32} {k90 : eH → Nat → Int64 → Option (eH × Int32)} (hk90 : ∀ (h : eH) (v0 : Nat) (v1 : Int64), P v0 → fr P h0 h → k90 h v0 v1 = some r → fr P h0 r.1) : ∀ (n : Nat) (h : eH) (v0 : Nat) (v1 : Int64) (v3 : Int32), P v0 → fr P h0 h → f_X11_doors_L27 L n k90 h v0 v1 v3 = some r → fr P h0 r.1 := by
  intro n
  induction n with
  | zero => intro h v0 v1 v3 p_v0 f0 hf; exact absurd hf (by simp [f_X11_doors_L27])
  | succ n ih =>
    intro h v0 v1 v3 p_v0 f0 hf
    unfold f_X11_doors_L27 at hf
    replace hf := (e_if hf).2
    obtain ⟨r3, hr4, hf⟩ := e_bd hf
    rcases e_or hf with hf | hf
    · exact hk90 _ _ _ p_v0 f0 hf
    · rcases e_or hf with hf | hf
      · exact ih _ _ _ _ p_v0 f0 hf
      · obtain ⟨b5, hb6, hf⟩ := e_bd hf
        have p7 := f0.1 _ _ _ p_v0 hb6
        replace hf := (e_if hf).2
        rcases e_or hf with hf | hf
        · exact ih _ _ _ _ p_v0 f0 hf
        · obtain ⟨b8, hb9, hf⟩ := e_bd hf
          have p10 := f0.1 _ _ _ p_v0 hb9
          obtain ⟨r11, hr12, hf⟩ := e_bd hf
          rcases e_or hf with hf | hf
          · exact ih _ _ _ _ p_v0 f0 hf
          · obtain ⟨r13, hr14, hf⟩ := e_bd hf
            rcases e_or hf with hf | hf
            · exact ih _ _ _ _ p_v0 f0 hf
            · exact ih _ _ _ _ p_v0 f0 hf
theorem w_X11_doors {P : Nat → Prop} {L : eL} {h0 h : eH} {v0 : Nat} {r : eH × Int32} (p_v0 : P v0) (f0 : fr P h0 h) (hf : f_X11_doors L h v0 = some r) : fr P h0 r.1 := by
  unfold f_X11_doors at hf
  replace hf := (e_if hf).2
  rcases e_or hf with hf | hf
  · exact fr_oW hf (fr_sI f0 p_v0)
  · obtain ⟨r1, hr2, hf⟩ := e_bd hf
    rcases e_or hf with hf | hf
    · exact fr_oW hf (fr_sI f0 p_v0)
    · refine w_X11_doors_L27 ?_ e_fu _ _ _ _ p_v0 (fr_sI f0 p_v0) hf
      · intro h15 w0_16 w1_17 p_w0_16 f18 hf
        replace hf := (e_if hf).2
        obtain ⟨r19, hr20, hf⟩ := e_bd hf
        have f21 := w_X11_enters p_w0_16 (fr_sI f18 p_w0_16) hr20
        exact fr_oW hf f21
theorem w_X11_chairs_L37 {P : Nat → Prop} {L : eL} {h0 : eH} {r : eH × Int32} {k131 : eH → Nat → Int32 → Int32 → Option (eH × Int32)} (hk131 : ∀ (h : eH) (v0 : Nat) (v2 : Int32) (v3 : Int32), P v0 → fr P h0 h → k131 h v0 v2 v3 = some r → fr P h0 r.1) : ∀ (n : Nat) (h : eH) (v0 : Nat) (v1 : Int32) (v2 : Int32) (v3 : Int32) (v4 : Int32), P v0 → fr P h0 h → f_X11_chairs_L37 L n k131 h v0 v1 v2 v3 v4 = some r → fr P h0 r.1 := by
  intro n
  induction n with
  | zero => intro h v0 v1 v2 v3 v4 p_v0 f0 hf; exact absurd hf (by simp [f_X11_chairs_L37])
  | succ n ih =>
    intro h v0 v1 v2 v3 v4 p_v0 f0 hf
    unfold f_X11_chairs_L37 at hf
    replace hf := (e_if hf).2
    obtain ⟨r12, hr13, hf⟩ := e_bd hf
    rcases e_or hf with hf | hf
    · exact hk131 _ _ _ _ p_v0 f0 hf
    · obtain ⟨b14, hb15, hf⟩ := e_bd hf
      have p16 := f0.1 _ _ _ p_v0 hb15
      replace hf := (e_if hf).2
      rcases e_or hf with hf | hf
      · obtain ⟨b17, hb18, hf⟩ := e_bd hf
        have p19 := f0.1 _ _ _ p_v0 hb18
        replace hf := (e_if hf).2
        obtain ⟨b20, hb21, hf⟩ := e_bd hf
        have p22 := (fr_sI f0 p19).1 _ _ _ p_v0 hb21
        obtain ⟨b23, hb24, hf⟩ := e_bd hf
        have p25 := (fr_sI f0 p19).1 _ _ _ p_v0 hb24
        replace hf := (e_if hf).2
        obtain ⟨r26, hr27, hf⟩ := e_bd hf
        obtain ⟨b28, hb29, hf⟩ := e_bd hf
        have p30 := (fr_sI f0 p19).1 _ _ _ p_v0 hb29
        replace hf := (e_if hf).2
        obtain ⟨h31, hh32, hf⟩ := e_bd hf
        have f33 := fr_oV hh32 (fr_sI (fr_sI f0 p19) p30)
        rcases e_or hf with hf | hf
        · exact ih _ _ _ _ _ _ p_v0 f33 hf
        · exact ih _ _ _ _ _ _ p_v0 f33 hf
      · exact ih _ _ _ _ _ _ p_v0 f0 hf
theorem w_X11_chairs {P : Nat → Prop} {L : eL} {h0 h : eH} {v0 : Nat} {r : eH × Int32} (p_v0 : P v0) (f0 : fr P h0 h) (hf : f_X11_chairs L h v0 = some r) : fr P h0 r.1 := by
  unfold f_X11_chairs at hf
  replace hf := (e_if hf).2
  obtain ⟨b1, hb2, hf⟩ := e_bd hf
  have p3 := (fr_sI f0 p_v0).1 _ _ _ p_v0 hb2
  obtain ⟨b4, hb5, hf⟩ := e_bd hf
  have p6 := (fr_sI f0 p_v0).1 _ _ _ p_v0 hb5
  replace hf := (e_if hf).2
  obtain ⟨r7, hr8, hf⟩ := e_bd hf
  obtain ⟨r9, hr10, hf⟩ := e_bd hf
  have f11 := w_X11_puts p_v0 (fr_sI f0 p_v0) hr10
  refine w_X11_chairs_L37 ?_ e_fu _ _ _ _ _ _ p_v0 f11 hf
  · intro h34 w0_35 w2_36 w3_37 p_w0_35 f38 hf
    rcases e_or hf with hf | hf
    · exact fr_oW hf f38
    · replace hf := (e_if hf).2
      obtain ⟨r39, hr40, hf⟩ := e_bd hf
      have f41 := w_X11_enters p_w0_35 (fr_sI f38 p_w0_35) hr40
      exact fr_oW hf f41
theorem w_X11_gathers_o_L40 {P : Nat → Prop} {L : eL} {h0 : eH} {rec_X11_gathers : eH → Nat → Int32 → Int32 → Int32 → Int64 → Int32 → Option eH} {r : eH} {k66 : eH → Nat → Int32 → Int32 → Int32 → Int64 → Int32 → Option eH} (grec_X11_gathers : ∀ (h : eH) (a0 : Nat) (a1 : Int32) (a2 : Int32) (a3 : Int32) (a4 : Int64) (a5 : Int32) {z : eH}, P a0 → fr P h0 h → rec_X11_gathers h a0 a1 a2 a3 a4 a5 = some z → fr P h0 z) (hk66 : ∀ (h : eH) (v0 : Nat) (v1 : Int32) (v2 : Int32) (v3 : Int32) (v4 : Int64) (v6 : Int32), P v0 → fr P h0 h → k66 h v0 v1 v2 v3 v4 v6 = some r → fr P h0 r) : ∀ (n : Nat) (h : eH) (v0 : Nat) (v1 : Int32) (v2 : Int32) (v3 : Int32) (v4 : Int64) (v6 : Int32) (v7 : Int32), P v0 → fr P h0 h → f_X11_gathers_o_L40 L rec_X11_gathers n k66 h v0 v1 v2 v3 v4 v6 v7 = some r → fr P h0 r := by
  intro n
  induction n with
  | zero => intro h v0 v1 v2 v3 v4 v6 v7 p_v0 f0 hf; exact absurd hf (by simp [f_X11_gathers_o_L40])
  | succ n ih =>
    intro h v0 v1 v2 v3 v4 v6 v7 p_v0 f0 hf
    unfold f_X11_gathers_o_L40 at hf
    rcases e_or hf with hf | hf
    · exact hk66 _ _ _ _ _ _ _ p_v0 f0 hf
    · replace hf := (e_if hf).2
      obtain ⟨b1, hb2, hf⟩ := e_bd hf
      have p3 := f0.1 _ _ _ p_v0 hb2
      obtain ⟨b4, hb5, hf⟩ := e_bd hf
      have p6 := f0.1 _ _ _ p_v0 hb5
      replace hf := (e_if hf).2
      replace hf := (e_if hf).2
      obtain ⟨h7, hh8, hf⟩ := e_bd hf
      have f9 := fr_oV hh8 (fr_sI f0 p3)
      exact ih _ _ _ _ _ _ _ _ p_v0 f9 hf
theorem w_X11_gathers_o_J132 {P : Nat → Prop} {L : eL} {h0 : eH} {rec_X11_gathers : eH → Nat → Int32 → Int32 → Int32 → Int64 → Int32 → Option eH} {r : eH} {k74 : eH → Nat → Int32 → Int32 → Int32 → Int64 → Int32 → Int32 → Option eH} {k209 : eH → Option eH} (grec_X11_gathers : ∀ (h : eH) (a0 : Nat) (a1 : Int32) (a2 : Int32) (a3 : Int32) (a4 : Int64) (a5 : Int32) {z : eH}, P a0 → fr P h0 h → rec_X11_gathers h a0 a1 a2 a3 a4 a5 = some z → fr P h0 z) (hk74 : ∀ (h : eH) (v0 : Nat) (v1 : Int32) (v2 : Int32) (v3 : Int32) (v4 : Int64) (v6 : Int32) (v7 : Int32), P v0 → fr P h0 h → k74 h v0 v1 v2 v3 v4 v6 v7 = some r → fr P h0 r) (hk209 : ∀ (h : eH), fr P h0 h → k209 h = some r → fr P h0 r) : ∀ (h : eH) (v0 : Nat) (v1 : Int32) (v2 : Int32) (v3 : Int32) (v4 : Int64) (v6 : Int32) (v7 : Int32) (s0 : Int32), P v0 → fr P h0 h → f_X11_gathers_o_J132 L rec_X11_gathers k74 k209 h v0 v1 v2 v3 v4 v6 v7 s0 = some r → fr P h0 r := by
  intro h v0 v1 v2 v3 v4 v6 v7 s0 p_v0 f0 hf
  unfold f_X11_gathers_o_J132 at hf
  rcases e_or hf with hf | hf
  · exact hk74 _ _ _ _ _ _ _ _ p_v0 f0 hf
  · replace hf := (e_if hf).2
    obtain ⟨b22, hb23, hf⟩ := e_bd hf
    have p24 := f0.1 _ _ _ p_v0 hb23
    obtain ⟨r25, hr26, hf⟩ := e_bd hf
    rcases e_or hf with hf | hf
    · exact hk74 _ _ _ _ _ _ _ _ p_v0 f0 hf
    · obtain ⟨b27, hb28, hf⟩ := e_bd hf
      have p29 := f0.1 _ _ _ p_v0 hb28
      replace hf := (e_if hf).2
      rcases e_or hf with hf | hf
      · obtain ⟨r36, hr37, hf⟩ := e_bd hf
        have f38 := grec_X11_gathers _ _ _ _ _ _ _ p_v0 (fr_sI f0 p29) hr37
        exact hk74 _ _ _ _ _ _ _ _ p_v0 f38 hf
      · obtain ⟨b30, hb31, hf⟩ := e_bd hf
        have p32 := (fr_sI f0 p29).1 _ _ _ p_v0 hb31
        replace hf := (e_if hf).2
        obtain ⟨r33, hr34, hf⟩ := e_bd hf
        have f35 := grec_X11_gathers _ _ _ _ _ _ _ p_v0 (fr_sI f0 p29) hr34
        exact hk74 _ _ _ _ _ _ _ _ p_v0 f35 hf
theorem w_X11_gathers_o_L74 {P : Nat → Prop} {L : eL} {h0 : eH} {rec_X11_gathers : eH → Nat → Int32 → Int32 → Int32 → Int64 → Int32 → Option eH} {r : eH} {k209 : eH → Option eH} (grec_X11_gathers : ∀ (h : eH) (a0 : Nat) (a1 : Int32) (a2 : Int32) (a3 : Int32) (a4 : Int64) (a5 : Int32) {z : eH}, P a0 → fr P h0 h → rec_X11_gathers h a0 a1 a2 a3 a4 a5 = some z → fr P h0 z) (hk209 : ∀ (h : eH), fr P h0 h → k209 h = some r → fr P h0 r) : ∀ (n : Nat) (h : eH) (v0 : Nat) (v1 : Int32) (v2 : Int32) (v3 : Int32) (v4 : Int64) (v6 : Int32) (v7 : Int32), P v0 → fr P h0 h → f_X11_gathers_o_L74 L rec_X11_gathers n k209 h v0 v1 v2 v3 v4 v6 v7 = some r → fr P h0 r := by
  intro n
  induction n with
  | zero => intro h v0 v1 v2 v3 v4 v6 v7 p_v0 f0 hf; exact absurd hf (by simp [f_X11_gathers_o_L74])
  | succ n ih =>
    intro h v0 v1 v2 v3 v4 v6 v7 p_v0 f0 hf
    unfold f_X11_gathers_o_L74 at hf
    replace hf := (e_if hf).2
    obtain ⟨r18, hr19, hf⟩ := e_bd hf
    rcases e_or hf with hf | hf
    · exact hk209 _ f0 hf
    · obtain ⟨r20, hr21, hf⟩ := e_bd hf
      rcases e_or hf with hf | hf
      · exact w_X11_gathers_o_J132 grec_X11_gathers ih hk209 _ _ _ _ _ _ _ _ _ p_v0 f0 hf
      · obtain ⟨r39, hr40, hf⟩ := e_bd hf
        rcases e_or hf with hf | hf
        · exact w_X11_gathers_o_J132 grec_X11_gathers ih hk209 _ _ _ _ _ _ _ _ _ p_v0 f0 hf
        · obtain ⟨r41, hr42, hf⟩ := e_bd hf
          rcases e_or hf with hf | hf
          · exact w_X11_gathers_o_J132 grec_X11_gathers ih hk209 _ _ _ _ _ _ _ _ _ p_v0 f0 hf
          · obtain ⟨r43, hr44, hf⟩ := e_bd hf
            rcases e_or hf with hf | hf
            · exact w_X11_gathers_o_J132 grec_X11_gathers ih hk209 _ _ _ _ _ _ _ _ _ p_v0 f0 hf
            · exact w_X11_gathers_o_J132 grec_X11_gathers ih hk209 _ _ _ _ _ _ _ _ _ p_v0 f0 hf
theorem w_X11_gathers_o {P : Nat → Prop} {L : eL} {h0 h : eH} {rec_X11_gathers : eH → Nat → Int32 → Int32 → Int32 → Int64 → Int32 → Option eH} {v0 : Nat} {v1 : Int32} {v2 : Int32} {v3 : Int32} {v4 : Int64} {v6 : Int32} {r : eH} (grec_X11_gathers : ∀ (h : eH) (a0 : Nat) (a1 : Int32) (a2 : Int32) (a3 : Int32) (a4 : Int64) (a5 : Int32) {z : eH}, P a0 → fr P h0 h → rec_X11_gathers h a0 a1 a2 a3 a4 a5 = some z → fr P h0 z) (p_v0 : P v0) (f0 : fr P h0 h) (hf : f_X11_gathers_o L rec_X11_gathers h v0 v1 v2 v3 v4 v6 = some r) : fr P h0 r := by
  unfold f_X11_gathers_o at hf
  replace hf := (e_if hf).2
  rcases e_or hf with hf | hf
  · refine w_X11_gathers_o_L40 grec_X11_gathers ?_ e_fu _ _ _ _ _ _ _ _ p_v0 (fr_sI (fr_sI f0 p_v0) p_v0) hf
    · intro h10 w0_11 w1_12 w2_13 w3_14 w4_15 w6_16 p_w0_11 f17 hf
      rcases e_or hf with hf | hf
      · exact fr_oV hf f17
      · refine w_X11_gathers_o_L74 grec_X11_gathers ?_ e_fu _ _ _ _ _ _ _ _ p_w0_11 f17 hf
        · intro h45 f46 hf
          exact fr_oV hf f46
  · rcases e_or hf with hf | hf
    · rcases e_or hf with hf | hf
      · rcases e_or hf with hf | hf
        · exact fr_oV hf f0
        · refine w_X11_gathers_o_L74 grec_X11_gathers ?_ e_fu _ _ _ _ _ _ _ _ p_v0 f0 hf
          · intro h49 f50 hf
            exact fr_oV hf f50
      · refine w_X11_gathers_o_L40 grec_X11_gathers ?_ e_fu _ _ _ _ _ _ _ _ p_v0 (fr_sI (fr_sI f0 p_v0) p_v0) hf
        · intro h51 w0_52 w1_53 w2_54 w3_55 w4_56 w6_57 p_w0_52 f58 hf
          rcases e_or hf with hf | hf
          · exact fr_oV hf f58
          · refine w_X11_gathers_o_L74 grec_X11_gathers ?_ e_fu _ _ _ _ _ _ _ _ p_w0_52 f58 hf
            · intro h59 f60 hf
              exact fr_oV hf f60
    · rcases e_or hf with hf | hf
      · exact fr_oV hf f0
      · refine w_X11_gathers_o_L74 grec_X11_gathers ?_ e_fu _ _ _ _ _ _ _ _ p_v0 f0 hf
        · intro h47 f48 hf
          exact fr_oV hf f48
theorem wg_X11_gathers {P : Nat → Prop} {L : eL} {h0 : eH} : ∀ (n t : Nat) (h : eH) (x0 : Nat) (x1 : Int32) (x2 : Int32) (x3 : Int32) (x4 : Int64) (x5 : Int32) (r : eH), P x0 → fr P h0 h → fg_X11_gathers L n t h x0 x1 x2 x3 x4 x5 = some r → fr P h0 r := by
  intro n
  induction n with
  | zero => intro t h x0 x1 x2 x3 x4 x5 r p0 f0 hf; exact absurd hf (by simp [fg_X11_gathers])
  | succ n ih =>
    intro t h x0 x1 x2 x3 x4 x5 r p0 f0 hf
    unfold fg_X11_gathers at hf
    exact w_X11_gathers_o (fun hh a0 a1 a2 a3 a4 a5 {z} pa0 ff hz => ih _ _ _ _ _ _ _ _ z pa0 ff hz) p0 f0 hf
theorem w_X11_gathers {P : Nat → Prop} {L : eL} {h0 h : eH} {x0 : Nat} {x1 : Int32} {x2 : Int32} {x3 : Int32} {x4 : Int64} {x5 : Int32} {r : eH} (p0 : P x0) (f0 : fr P h0 h) (hf : f_X11_gathers L h x0 x1 x2 x3 x4 x5 = some r) : fr P h0 r := wg_X11_gathers 100 0 h x0 x1 x2 x3 x4 x5 r p0 f0 hf
theorem w_X11_best_L59 {P : Nat → Prop} {L : eL} {h0 : eH} {r : eH × Int32} {k84 : eH → Nat → Option (eH × Int32)} (hk84 : ∀ (h : eH) (v0 : Nat), P v0 → fr P h0 h → k84 h v0 = some r → fr P h0 r.1) : ∀ (n : Nat) (h : eH) (v0 : Nat) (v2 : Int32), P v0 → fr P h0 h → f_X11_best_L59 L n k84 h v0 v2 = some r → fr P h0 r.1 := by
  intro n
  induction n with
  | zero => intro h v0 v2 p_v0 f0 hf; exact absurd hf (by simp [f_X11_best_L59])
  | succ n ih =>
    intro h v0 v2 p_v0 f0 hf
    unfold f_X11_best_L59 at hf
    replace hf := (e_if hf).2
    rcases e_or hf with hf | hf
    · exact hk84 _ _ p_v0 f0 hf
    · obtain ⟨b10, hb11, hf⟩ := e_bd hf
      have p12 := f0.1 _ _ _ p_v0 hb11
      replace hf := (e_if hf).2
      obtain ⟨r13, hr14, hf⟩ := e_bd hf
      have f15 := w_X11_enters p_v0 f0 hr14
      exact ih _ _ _ p_v0 f15 hf
theorem w_X11_best {P : Nat → Prop} {L : eL} {h0 h : eH} {v0 : Nat} {v1 : Int32} {r : eH × Int32} (p_v0 : P v0) (f0 : fr P h0 h) (hf : f_X11_best L h v0 v1 = some r) : fr P h0 r.1 := by
  unfold f_X11_best at hf
  replace hf := (e_if hf).2
  rcases e_or hf with hf | hf
  · exact fr_oW hf (fr_sI f0 p_v0)
  · obtain ⟨b1, hb2, hf⟩ := e_bd hf
    have p3 := (fr_sI (fr_sI (fr_sI f0 p_v0) p_v0) p_v0).1 _ _ _ p_v0 hb2
    replace hf := (e_if hf).2
    obtain ⟨b4, hb5, hf⟩ := e_bd hf
    have p6 := (fr_sI (fr_sI (fr_sI f0 p_v0) p_v0) p_v0).1 _ _ _ p_v0 hb5
    replace hf := (e_if hf).2
    obtain ⟨r7, hr8, hf⟩ := e_bd hf
    have f9 := w_X11_gathers p_v0 (fr_sI (fr_sI (fr_sI f0 p_v0) p_v0) p_v0) hr8
    refine w_X11_best_L59 ?_ e_fu _ _ _ p_v0 (fr_sI f9 p_v0) hf
    · intro h16 w0_17 p_w0_17 f18 hf
      replace hf := (e_if hf).2
      exact fr_oW hf f18
theorem w_X11_goesBy_J69 {P : Nat → Prop} {L : eL} {h0 : eH} {r : eH}  : ∀ (h : eH) (v0 : Nat) (v1 : Int32) (v2 : Int32) (v3 : Int32) (v4 : Int32), P v0 → fr P h0 h → f_X11_goesBy_J69 L h v0 v1 v2 v3 v4 = some r → fr P h0 r := by
  intro h v0 v1 v2 v3 v4 p_v0 f0 hf
  unfold f_X11_goesBy_J69 at hf
  rcases e_or hf with hf | hf
  · rcases e_or hf with hf | hf
    · exact fr_oV hf f0
    · replace hf := (e_if hf).2
      obtain ⟨b8, hb9, hf⟩ := e_bd hf
      have p10 := f0.1 _ _ _ p_v0 hb9
      replace hf := (e_if hf).2
      obtain ⟨h11, hh12, hf⟩ := e_bd hf
      have f13 := fr_oV hh12 (fr_sI f0 p10)
      exact fr_oV hf f13
  · exact fr_oV hf f0
theorem w_X11_goesBy {P : Nat → Prop} {L : eL} {h0 h : eH} {v0 : Nat} {v1 : Int32} {v2 : Int32} {r : eH} (p_v0 : P v0) (f0 : fr P h0 h) (hf : f_X11_goesBy L h v0 v1 v2 = some r) : fr P h0 r := by
  unfold f_X11_goesBy at hf
  replace hf := (e_if hf).2
  obtain ⟨r1, hr2, hf⟩ := e_bd hf
  obtain ⟨b3, hb4, hf⟩ := e_bd hf
  have p5 := f0.1 _ _ _ p_v0 hb4
  obtain ⟨r6, hr7, hf⟩ := e_bd hf
  rcases e_or hf with hf | hf
  · rcases e_or hf with hf | hf
    · rcases e_or hf with hf | hf
      · obtain ⟨b14, hb15, hf⟩ := e_bd hf
        have p16 := f0.1 _ _ _ p_v0 hb15
        replace hf := (e_if hf).2
        obtain ⟨h17, hh18, hf⟩ := e_bd hf
        have f19 := fr_oV hh18 (fr_sI f0 p16)
        exact fr_oV hf f19
      · exact w_X11_goesBy_J69 _ _ _ _ _ _ p_v0 f0 hf
    · exact w_X11_goesBy_J69 _ _ _ _ _ _ p_v0 f0 hf
  · obtain ⟨b20, hb21, hf⟩ := e_bd hf
    have p22 := f0.1 _ _ _ p_v0 hb21
    replace hf := (e_if hf).2
    obtain ⟨h23, hh24, hf⟩ := e_bd hf
    have f25 := fr_oV hh24 (fr_sI f0 p22)
    exact fr_oV hf f25
theorem w_X11_laysPlaces_L2 {P : Nat → Prop} {L : eL} {h0 : eH} {r : eH} {k32 : eH → Nat → Option eH} (hk32 : ∀ (h : eH) (v0 : Nat), P v0 → fr P h0 h → k32 h v0 = some r → fr P h0 r) : ∀ (n : Nat) (h : eH) (v0 : Nat) (v1 : Int32), P v0 → fr P h0 h → f_X11_laysPlaces_L2 L n k32 h v0 v1 = some r → fr P h0 r := by
  intro n
  induction n with
  | zero => intro h v0 v1 p_v0 f0 hf; exact absurd hf (by simp [f_X11_laysPlaces_L2])
  | succ n ih =>
    intro h v0 v1 p_v0 f0 hf
    unfold f_X11_laysPlaces_L2 at hf
    rcases e_or hf with hf | hf
    · exact hk32 _ _ p_v0 f0 hf
    · replace hf := (e_if hf).2
      obtain ⟨b1, hb2, hf⟩ := e_bd hf
      have p3 := f0.1 _ _ _ p_v0 hb2
      obtain ⟨b4, hb5, hf⟩ := e_bd hf
      have p6 := f0.1 _ _ _ p_v0 hb5
      obtain ⟨r7, hr8, hf⟩ := e_bd hf
      replace hf := (e_if hf).2
      obtain ⟨h9, hh10, hf⟩ := e_bd hf
      have f11 := fr_oV hh10 (fr_sI f0 p3)
      exact ih _ _ _ p_v0 f11 hf
theorem w_X11_laysPlaces_L44 {P : Nat → Prop} {L : eL} {h0 : eH} {r : eH} {k64 : eH → Nat → Int32 → Option eH} (hk64 : ∀ (h : eH) (v0 : Nat) (v1 : Int32), P v0 → fr P h0 h → k64 h v0 v1 = some r → fr P h0 r) : ∀ (n : Nat) (h : eH) (v0 : Nat) (v1 : Int32) (v2 : Int32), P v0 → fr P h0 h → f_X11_laysPlaces_L44 L n k64 h v0 v1 v2 = some r → fr P h0 r := by
  intro n
  induction n with
  | zero => intro h v0 v1 v2 p_v0 f0 hf; exact absurd hf (by simp [f_X11_laysPlaces_L44])
  | succ n ih =>
    intro h v0 v1 v2 p_v0 f0 hf
    unfold f_X11_laysPlaces_L44 at hf
    rcases e_or hf with hf | hf
    · exact hk64 _ _ _ p_v0 f0 hf
    · replace hf := (e_if hf).2
      obtain ⟨b15, hb16, hf⟩ := e_bd hf
      have p17 := f0.1 _ _ _ p_v0 hb16
      replace hf := (e_if hf).2
      obtain ⟨h18, hh19, hf⟩ := e_bd hf
      have f20 := fr_oV hh19 (fr_sI f0 p17)
      exact ih _ _ _ _ p_v0 f20 hf
theorem w_X11_laysPlaces_L66 {P : Nat → Prop} {L : eL} {h0 : eH} {r : eH} {k99 : eH → Nat → Int32 → Option eH} (hk99 : ∀ (h : eH) (v0 : Nat) (v1 : Int32), P v0 → fr P h0 h → k99 h v0 v1 = some r → fr P h0 r) : ∀ (n : Nat) (h : eH) (v0 : Nat) (v1 : Int32) (v2 : Int32), P v0 → fr P h0 h → f_X11_laysPlaces_L66 L n k99 h v0 v1 v2 = some r → fr P h0 r := by
  intro n
  induction n with
  | zero => intro h v0 v1 v2 p_v0 f0 hf; exact absurd hf (by simp [f_X11_laysPlaces_L66])
  | succ n ih =>
    intro h v0 v1 v2 p_v0 f0 hf
    unfold f_X11_laysPlaces_L66 at hf
    rcases e_or hf with hf | hf
    · exact hk99 _ _ _ p_v0 f0 hf
    · replace hf := (e_if hf).2
      obtain ⟨b25, hb26, hf⟩ := e_bd hf
      have p27 := f0.1 _ _ _ p_v0 hb26
      replace hf := (e_if hf).2
      rcases e_or hf with hf | hf
      · exact ih _ _ _ _ p_v0 f0 hf
      · obtain ⟨b28, hb29, hf⟩ := e_bd hf
        have p30 := f0.1 _ _ _ p_v0 hb29
        replace hf := (e_if hf).2
        obtain ⟨r31, hr32, hf⟩ := e_bd hf
        have f33 := w_X11_goesBy p_v0 f0 hr32
        exact ih _ _ _ _ p_v0 f33 hf
theorem w_X11_laysPlaces_L101 {P : Nat → Prop} {L : eL} {h0 : eH} {r : eH} {k126 : eH → Nat → Int32 → Option eH} (hk126 : ∀ (h : eH) (v0 : Nat) (v1 : Int32), P v0 → fr P h0 h → k126 h v0 v1 = some r → fr P h0 r) : ∀ (n : Nat) (h : eH) (v0 : Nat) (v1 : Int32) (v2 : Int32), P v0 → fr P h0 h → f_X11_laysPlaces_L101 L n k126 h v0 v1 v2 = some r → fr P h0 r := by
  intro n
  induction n with
  | zero => intro h v0 v1 v2 p_v0 f0 hf; exact absurd hf (by simp [f_X11_laysPlaces_L101])
  | succ n ih =>
    intro h v0 v1 v2 p_v0 f0 hf
    unfold f_X11_laysPlaces_L101 at hf
    rcases e_or hf with hf | hf
    · exact hk126 _ _ _ p_v0 f0 hf
    · replace hf := (e_if hf).2
      obtain ⟨b38, hb39, hf⟩ := e_bd hf
      have p40 := f0.1 _ _ _ p_v0 hb39
      obtain ⟨b41, hb42, hf⟩ := e_bd hf
      have p43 := f0.1 _ _ _ p_v0 hb42
      replace hf := (e_if hf).2
      replace hf := (e_if hf).2
      obtain ⟨h44, hh45, hf⟩ := e_bd hf
      have f46 := fr_oV hh45 (fr_sI f0 p40)
      exact ih _ _ _ _ p_v0 f46 hf
theorem w_X11_laysPlaces_L34 {P : Nat → Prop} {L : eL} {h0 : eH} {r : eH} {k132 : eH → Option eH} (hk132 : ∀ (h : eH), fr P h0 h → k132 h = some r → fr P h0 r) : ∀ (n : Nat) (h : eH) (v0 : Nat) (v1 : Int32), P v0 → fr P h0 h → f_X11_laysPlaces_L34 L n k132 h v0 v1 = some r → fr P h0 r := by
  intro n
  induction n with
  | zero => intro h v0 v1 p_v0 f0 hf; exact absurd hf (by simp [f_X11_laysPlaces_L34])
  | succ n ih =>
    intro h v0 v1 p_v0 f0 hf
    unfold f_X11_laysPlaces_L34 at hf
    replace hf := (e_if hf).2
    rcases e_or hf with hf | hf
    · exact hk132 _ f0 hf
    · refine w_X11_laysPlaces_L44 ?_ e_fu _ _ _ _ p_v0 f0 hf
      · intro h21 w0_22 w1_23 p_w0_22 f24 hf
        refine w_X11_laysPlaces_L66 ?_ e_fu _ _ _ _ p_w0_22 f24 hf
        · intro h34 w0_35 w1_36 p_w0_35 f37 hf
          refine w_X11_laysPlaces_L101 ?_ e_fu _ _ _ _ p_w0_35 f37 hf
          · intro h47 w0_48 w1_49 p_w0_48 f50 hf
            exact ih _ _ _ p_w0_48 f50 hf
theorem w_X11_laysPlaces {P : Nat → Prop} {L : eL} {h0 h : eH} {v0 : Nat} {r : eH} (p_v0 : P v0) (f0 : fr P h0 h) (hf : f_X11_laysPlaces L h v0 = some r) : fr P h0 r := by
  unfold f_X11_laysPlaces at hf
  refine w_X11_laysPlaces_L2 ?_ e_fu _ _ _ p_v0 f0 hf
  · intro h12 w0_13 p_w0_13 f14 hf
    refine w_X11_laysPlaces_L34 ?_ e_fu _ _ _ p_w0_13 f14 hf
    · intro h51 f52 hf
      exact fr_oV hf f52
theorem w_X11_feels {P : Nat → Prop} {L : eL} {h0 h : eH} {v0 : Nat} {v1 : Int32} {r : eH × Int32} (p_v0 : P v0) (f0 : fr P h0 h) (hf : f_X11_feels L h v0 v1 = some r) : fr P h0 r.1 := by
  unfold f_X11_feels at hf
  replace hf := (e_if hf).2
  obtain ⟨b1, hb2, hf⟩ := e_bd hf
  have p3 := f0.1 _ _ _ p_v0 hb2
  replace hf := (e_if hf).2
  obtain ⟨h4, hh5, hf⟩ := e_bd hf
  have f6 := fr_oV hh5 (fr_sI (fr_sI f0 p3) p_v0)
  obtain ⟨r7, hr8, hf⟩ := e_bd hf
  have f9 := w_X11_laysPlaces p_v0 f6 hr8
  obtain ⟨r10, hr11, hf⟩ := e_bd hf
  exact fr_oW hf f9
theorem w_X11_felt {P : Nat → Prop} {L : eL} {h0 h : eH} {v0 : Nat} {v1 : Int32} {r : eH × Int32} (p_v0 : P v0) (f0 : fr P h0 h) (hf : f_X11_felt L h v0 v1 = some r) : fr P h0 r.1 := by
  unfold f_X11_felt at hf
  replace hf := (e_if hf).2
  rcases e_or hf with hf | hf
  · exact fr_oW hf (fr_sI f0 p_v0)
  · rcases e_or hf with hf | hf
    · exact fr_oW hf (fr_sI f0 p_v0)
    · obtain ⟨r1, hr2, hf⟩ := e_bd hf
      have f3 := w_X11_feels p_v0 (fr_sI f0 p_v0) hr2
      exact fr_oW hf f3
theorem w_X11_swung {P : Nat → Prop} {L : eL} {h0 h : eH} {v0 : Nat} {v1 : Int32} {r : eH × Int32} (p_v0 : P v0) (f0 : fr P h0 h) (hf : f_X11_swung L h v0 v1 = some r) : fr P h0 r.1 := by
  unfold f_X11_swung at hf
  replace hf := (e_if hf).2
  rcases e_or hf with hf | hf
  · exact fr_oW hf (fr_sI f0 p_v0)
  · rcases e_or hf with hf | hf
    · exact fr_oW hf (fr_sI f0 p_v0)
    · obtain ⟨r1, hr2, hf⟩ := e_bd hf
      have f3 := w_X11_feels p_v0 (fr_sI f0 p_v0) hr2
      exact fr_oW hf f3
theorem w_X11_forget {P : Nat → Prop} {L : eL} {h0 h : eH} {v0 : Nat} {r : eH × Int32} (p_v0 : P v0) (f0 : fr P h0 h) (hf : f_X11_forget L h v0 = some r) : fr P h0 r.1 := by
  unfold f_X11_forget at hf
  replace hf := (e_if hf).2
  exact fr_oW hf (fr_sI (fr_sI f0 p_v0) p_v0)
theorem w_X11_held_L13 {P : Nat → Prop} {L : eL} {h0 : eH} {r : eH × Int32} {k47 : eH → Nat → Int64 → Option (eH × Int32)} (hk47 : ∀ (h : eH) (v0 : Nat) (v1 : Int64), P v0 → fr P h0 h → k47 h v0 v1 = some r → fr P h0 r.1) : ∀ (n : Nat) (h : eH) (v0 : Nat) (v1 : Int64) (v3 : Int32), P v0 → fr P h0 h → f_X11_held_L13 L n k47 h v0 v1 v3 = some r → fr P h0 r.1 := by
  intro n
  induction n with
  | zero => intro h v0 v1 v3 p_v0 f0 hf; exact absurd hf (by simp [f_X11_held_L13])
  | succ n ih =>
    intro h v0 v1 v3 p_v0 f0 hf
    unfold f_X11_held_L13 at hf
    rcases e_or hf with hf | hf
    · exact hk47 _ _ _ p_v0 f0 hf
    · replace hf := (e_if hf).2
      obtain ⟨b4, hb5, hf⟩ := e_bd hf
      have p6 := f0.1 _ _ _ p_v0 hb5
      replace hf := (e_if hf).2
      rcases e_or hf with hf | hf
      · exact ih _ _ _ _ p_v0 f0 hf
      · exact ih _ _ _ _ p_v0 f0 hf
theorem w_X11_held {P : Nat → Prop} {L : eL} {h0 h : eH} {v0 : Nat} {r : eH × Int32} (p_v0 : P v0) (f0 : fr P h0 h) (hf : f_X11_held L h v0 = some r) : fr P h0 r.1 := by
  unfold f_X11_held at hf
  replace hf := (e_if hf).2
  obtain ⟨r1, hr2, hf⟩ := e_bd hf
  have f3 := w_X11_laysPlaces p_v0 (fr_sI f0 p_v0) hr2
  refine w_X11_held_L13 ?_ e_fu _ _ _ _ p_v0 f3 hf
  · intro h7 w0_8 w1_9 p_w0_8 f10 hf
    replace hf := (e_if hf).2
    obtain ⟨r11, hr12, hf⟩ := e_bd hf
    have f13 := w_X11_enters p_w0_8 (fr_sI f10 p_w0_8) hr12
    obtain ⟨r14, hr15, hf⟩ := e_bd hf
    obtain ⟨r16, hr17, hf⟩ := e_bd hf
    have f18 := w_X11_enters p_w0_8 f13 hr17
    exact fr_oW hf f18
theorem w_X11_feel_L38 {P : Nat → Prop} {L : eL} {h0 : eH} {r : eH × Int32} {k100 : eH → Nat → Int32 → Int32 → Int32 → Int32 → Option (eH × Int32)} (hk100 : ∀ (h : eH) (v0 : Nat) (v1 : Int32) (v2 : Int32) (v3 : Int32) (v4 : Int32), P v0 → fr P h0 h → k100 h v0 v1 v2 v3 v4 = some r → fr P h0 r.1) : ∀ (n : Nat) (h : eH) (v0 : Nat) (v1 : Int32) (v2 : Int32) (v3 : Int32) (v4 : Int32) (v5 : Int32), P v0 → fr P h0 h → f_X11_feel_L38 L n k100 h v0 v1 v2 v3 v4 v5 = some r → fr P h0 r.1 := by
  intro n
  induction n with
  | zero => intro h v0 v1 v2 v3 v4 v5 p_v0 f0 hf; exact absurd hf (by simp [f_X11_feel_L38])
  | succ n ih =>
    intro h v0 v1 v2 v3 v4 v5 p_v0 f0 hf
    unfold f_X11_feel_L38 at hf
    rcases e_or hf with hf | hf
    · exact hk100 _ _ _ _ _ _ p_v0 f0 hf
    · replace hf := (e_if hf).2
      obtain ⟨b6, hb7, hf⟩ := e_bd hf
      have p8 := f0.1 _ _ _ p_v0 hb7
      replace hf := (e_if hf).2
      rcases e_or hf with hf | hf
      · exact ih _ _ _ _ _ _ _ p_v0 f0 hf
      · obtain ⟨b9, hb10, hf⟩ := e_bd hf
        have p11 := f0.1 _ _ _ p_v0 hb10
        obtain ⟨r12, hr13, hf⟩ := e_bd hf
        obtain ⟨r14, hr15, hf⟩ := e_bd hf
        rcases e_or hf with hf | hf
        · exact ih _ _ _ _ _ _ _ p_v0 f0 hf
        · exact ih _ _ _ _ _ _ _ p_v0 f0 hf
theorem w_X11_feel_L27 {P : Nat → Prop} {L : eL} {h0 : eH} {r : eH × Int32} {k139 : eH → Nat → Int32 → Int32 → Option (eH × Int32)} (hk139 : ∀ (h : eH) (v0 : Nat) (v1 : Int32) (v2 : Int32), P v0 → fr P h0 h → k139 h v0 v1 v2 = some r → fr P h0 r.1) : ∀ (n : Nat) (h : eH) (v0 : Nat) (v1 : Int32) (v2 : Int32) (v3 : Int32), P v0 → fr P h0 h → f_X11_feel_L27 L n k139 h v0 v1 v2 v3 = some r → fr P h0 r.1 := by
  intro n
  induction n with
  | zero => intro h v0 v1 v2 v3 p_v0 f0 hf; exact absurd hf (by simp [f_X11_feel_L27])
  | succ n ih =>
    intro h v0 v1 v2 v3 p_v0 f0 hf
    unfold f_X11_feel_L27 at hf
    rcases e_or hf with hf | hf
    · exact hk139 _ _ _ _ p_v0 f0 hf
    · refine w_X11_feel_L38 ?_ e_fu _ _ _ _ _ _ _ p_v0 f0 hf
      · intro h16 w0_17 w1_18 w2_19 w3_20 w4_21 p_w0_17 f22 hf
        replace hf := (e_if hf).2
        obtain ⟨r23, hr24, hf⟩ := e_bd hf
        rcases e_or hf with hf | hf
        · exact ih _ _ _ _ _ p_w0_17 f22 hf
        · exact ih _ _ _ _ _ p_w0_17 f22 hf
theorem w_X11_feel {P : Nat → Prop} {L : eL} {h0 h : eH} {v0 : Nat} {r : eH × Int32} (p_v0 : P v0) (f0 : fr P h0 h) (hf : f_X11_feel L h v0 = some r) : fr P h0 r.1 := by
  unfold f_X11_feel at hf
  replace hf := (e_if hf).2
  obtain ⟨r1, hr2, hf⟩ := e_bd hf
  have f3 := w_X11_laysPlaces p_v0 (fr_sI f0 p_v0) hr2
  obtain ⟨r4, hr5, hf⟩ := e_bd hf
  rcases e_or hf with hf | hf
  · exact fr_oW hf f3
  · refine w_X11_feel_L27 ?_ e_fu _ _ _ _ _ p_v0 f3 hf
    · intro h25 w0_26 w1_27 w2_28 p_w0_26 f29 hf
      replace hf := (e_if hf).2
      obtain ⟨r30, hr31, hf⟩ := e_bd hf
      have f32 := w_X11_enters p_w0_26 (fr_sI f29 p_w0_26) hr31
      exact fr_oW hf f32
theorem w_X11_tellsFraction {P : Nat → Prop} {L : eL} {h0 h : eH} {v0 : Nat} {v1 : Int64} {v3 : Int64} {r : eH} (p_v0 : P v0) (f0 : fr P h0 h) (hf : f_X11_tellsFraction L h v0 v1 v3 = some r) : fr P h0 r := by
  unfold f_X11_tellsFraction at hf
  obtain ⟨r1, hr2, hf⟩ := e_bd hf
  replace hf := (e_if hf).2
  replace hf := (e_ifp hf).2
  obtain ⟨r3, hr4, hf⟩ := e_bd hf
  have f5 := w_X11_enters p_v0 (fr_sI f0 p_v0) hr4
  replace hf := (e_ifp hf).2
  obtain ⟨r6, hr7, hf⟩ := e_bd hf
  have f8 := w_X11_enters p_v0 f5 hr7
  exact fr_oV hf f8
theorem w_X11_likely_L29 {P : Nat → Prop} {L : eL} {h0 : eH} {r : eH × Int32} {k67 : eH → Nat → Int32 → Int32 → Option (eH × Int32)} (hk67 : ∀ (h : eH) (v0 : Nat) (v1 : Int32) (v2 : Int32), P v0 → fr P h0 h → k67 h v0 v1 v2 = some r → fr P h0 r.1) : ∀ (n : Nat) (h : eH) (v0 : Nat) (v1 : Int32) (v2 : Int32) (v3 : Int32), P v0 → fr P h0 h → f_X11_likely_L29 L n k67 h v0 v1 v2 v3 = some r → fr P h0 r.1 := by
  intro n
  induction n with
  | zero => intro h v0 v1 v2 v3 p_v0 f0 hf; exact absurd hf (by simp [f_X11_likely_L29])
  | succ n ih =>
    intro h v0 v1 v2 v3 p_v0 f0 hf
    unfold f_X11_likely_L29 at hf
    rcases e_or hf with hf | hf
    · exact hk67 _ _ _ _ p_v0 f0 hf
    · replace hf := (e_if hf).2
      obtain ⟨b3, hb4, hf⟩ := e_bd hf
      have p5 := f0.1 _ _ _ p_v0 hb4
      obtain ⟨b6, hb7, hf⟩ := e_bd hf
      have p8 := f0.1 _ _ _ p_v0 hb7
      replace hf := (e_if hf).2
      rcases e_or hf with hf | hf
      · replace hf := (e_if hf).2
        obtain ⟨h12, hh13, hf⟩ := e_bd hf
        have f14 := fr_oV hh13 (fr_sL f0 p5)
        exact ih _ _ _ _ _ p_v0 f14 hf
      · replace hf := (e_if hf).2
        obtain ⟨h9, hh10, hf⟩ := e_bd hf
        have f11 := fr_oV hh10 (fr_sL f0 p5)
        exact ih _ _ _ _ _ p_v0 f11 hf
theorem w_X11_likely_L81 {P : Nat → Prop} {L : eL} {h0 : eH} {r : eH × Int32} {k102 : eH → Nat → Int32 → Int32 → Int64 → Int32 → Option (eH × Int32)} (hk102 : ∀ (h : eH) (v0 : Nat) (v1 : Int32) (v2 : Int32) (v3 : Int64) (v5 : Int32), P v0 → fr P h0 h → k102 h v0 v1 v2 v3 v5 = some r → fr P h0 r.1) : ∀ (n : Nat) (h : eH) (v0 : Nat) (v1 : Int32) (v2 : Int32) (v3 : Int64) (v5 : Int32) (v6 : Int32), P v0 → fr P h0 h → f_X11_likely_L81 L n k102 h v0 v1 v2 v3 v5 v6 = some r → fr P h0 r.1 := by
  intro n
  induction n with
  | zero => intro h v0 v1 v2 v3 v5 v6 p_v0 f0 hf; exact absurd hf (by simp [f_X11_likely_L81])
  | succ n ih =>
    intro h v0 v1 v2 v3 v5 v6 p_v0 f0 hf
    unfold f_X11_likely_L81 at hf
    rcases e_or hf with hf | hf
    · exact hk102 _ _ _ _ _ _ p_v0 f0 hf
    · replace hf := (e_if hf).2
      obtain ⟨b20, hb21, hf⟩ := e_bd hf
      have p22 := f0.1 _ _ _ p_v0 hb21
      replace hf := (e_if hf).2
      exact ih _ _ _ _ _ _ _ p_v0 (fr_sL f0 p22) hf
theorem w_X11_likely_J157 {P : Nat → Prop} {L : eL} {h0 : eH} {r : eH × Int32} {k117 : eH → Nat → Int32 → Int32 → Int64 → Int32 → Int32 → Int32 → Option (eH × Int32)} {k174 : eH → Nat → Int32 → Int32 → Int64 → Int32 → Int32 → Option (eH × Int32)} (hk117 : ∀ (h : eH) (v0 : Nat) (v1 : Int32) (v2 : Int32) (v3 : Int64) (v5 : Int32) (v6 : Int32) (v7 : Int32), P v0 → fr P h0 h → k117 h v0 v1 v2 v3 v5 v6 v7 = some r → fr P h0 r.1) (hk174 : ∀ (h : eH) (v0 : Nat) (v1 : Int32) (v2 : Int32) (v3 : Int64) (v5 : Int32) (v6 : Int32), P v0 → fr P h0 h → k174 h v0 v1 v2 v3 v5 v6 = some r → fr P h0 r.1) : ∀ (h : eH) (v0 : Nat) (v1 : Int32) (v2 : Int32) (v3 : Int64) (v5 : Int32) (v6 : Int32) (v7 : Int32) (s0 : Nat) (s1 : Int32), P v0 → P s0 → fr P h0 h → f_X11_likely_J157 L k117 k174 h v0 v1 v2 v3 v5 v6 v7 s0 s1 = some r → fr P h0 r.1 := by
  intro h v0 v1 v2 v3 v5 v6 v7 s0 s1 p_v0 p_s0 f0 hf
  unfold f_X11_likely_J157 at hf
  replace hf := (e_if hf).2
  replace hf := (e_if hf).2
  obtain ⟨b42, hb43, hf⟩ := e_bd hf
  have p44 := f0.1 _ _ _ p_v0 hb43
  replace hf := (e_if hf).2
  obtain ⟨h45, hh46, hf⟩ := e_bd hf
  have f47 := fr_oV hh46 (fr_sL f0 p_s0)
  exact hk117 _ _ _ _ _ _ _ _ p_v0 f47 hf
theorem w_X11_likely_L117 {P : Nat → Prop} {L : eL} {h0 : eH} {r : eH × Int32} {k174 : eH → Nat → Int32 → Int32 → Int64 → Int32 → Int32 → Option (eH × Int32)} (hk174 : ∀ (h : eH) (v0 : Nat) (v1 : Int32) (v2 : Int32) (v3 : Int64) (v5 : Int32) (v6 : Int32), P v0 → fr P h0 h → k174 h v0 v1 v2 v3 v5 v6 = some r → fr P h0 r.1) : ∀ (n : Nat) (h : eH) (v0 : Nat) (v1 : Int32) (v2 : Int32) (v3 : Int64) (v5 : Int32) (v6 : Int32) (v7 : Int32), P v0 → fr P h0 h → f_X11_likely_L117 L n k174 h v0 v1 v2 v3 v5 v6 v7 = some r → fr P h0 r.1 := by
  intro n
  induction n with
  | zero => intro h v0 v1 v2 v3 v5 v6 v7 p_v0 f0 hf; exact absurd hf (by simp [f_X11_likely_L117])
  | succ n ih =>
    intro h v0 v1 v2 v3 v5 v6 v7 p_v0 f0 hf
    unfold f_X11_likely_L117 at hf
    rcases e_or hf with hf | hf
    · exact hk174 _ _ _ _ _ _ _ p_v0 f0 hf
    · replace hf := (e_if hf).2
      obtain ⟨r32, hr33, hf⟩ := e_bd hf
      obtain ⟨b34, hb35, hf⟩ := e_bd hf
      have p36 := f0.1 _ _ _ p_v0 hb35
      obtain ⟨b37, hb38, hf⟩ := e_bd hf
      have p39 := f0.1 _ _ _ p_v0 hb38
      obtain ⟨r40, hr41, hf⟩ := e_bd hf
      rcases e_or hf with hf | hf
      · exact w_X11_likely_J157 ih hk174 _ _ _ _ _ _ _ _ _ _ p_v0 p36 f0 hf
      · exact w_X11_likely_J157 ih hk174 _ _ _ _ _ _ _ _ _ _ p_v0 p36 f0 hf
theorem w_X11_likely_L105 {P : Nat → Prop} {L : eL} {h0 : eH} {r : eH × Int32} {k180 : eH → Nat → Int32 → Int32 → Int64 → Int32 → Option (eH × Int32)} (hk180 : ∀ (h : eH) (v0 : Nat) (v1 : Int32) (v2 : Int32) (v3 : Int64) (v5 : Int32), P v0 → fr P h0 h → k180 h v0 v1 v2 v3 v5 = some r → fr P h0 r.1) : ∀ (n : Nat) (h : eH) (v0 : Nat) (v1 : Int32) (v2 : Int32) (v3 : Int64) (v5 : Int32) (v6 : Int32), P v0 → fr P h0 h → f_X11_likely_L105 L n k180 h v0 v1 v2 v3 v5 v6 = some r → fr P h0 r.1 := by
  intro n
  induction n with
  | zero => intro h v0 v1 v2 v3 v5 v6 p_v0 f0 hf; exact absurd hf (by simp [f_X11_likely_L105])
  | succ n ih =>
    intro h v0 v1 v2 v3 v5 v6 p_v0 f0 hf
    unfold f_X11_likely_L105 at hf
    replace hf := (e_if hf).2
    obtain ⟨r30, hr31, hf⟩ := e_bd hf
    rcases e_or hf with hf | hf
    · exact hk180 _ _ _ _ _ _ p_v0 f0 hf
    · refine w_X11_likely_L117 ?_ e_fu _ _ _ _ _ _ _ _ p_v0 f0 hf
      · intro h48 w0_49 w1_50 w2_51 w3_52 w5_53 w6_54 p_w0_49 f55 hf
        exact ih _ _ _ _ _ _ _ p_w0_49 f55 hf
theorem w_X11_likely_L183 {P : Nat → Prop} {L : eL} {h0 : eH} {r : eH × Int32} {k210 : eH → Nat → Int32 → Int32 → Int64 → Int32 → Option (eH × Int32)} (hk210 : ∀ (h : eH) (v0 : Nat) (v1 : Int32) (v2 : Int32) (v3 : Int64) (v5 : Int32), P v0 → fr P h0 h → k210 h v0 v1 v2 v3 v5 = some r → fr P h0 r.1) : ∀ (n : Nat) (h : eH) (v0 : Nat) (v1 : Int32) (v2 : Int32) (v3 : Int64) (v5 : Int32) (v6 : Int32), P v0 → fr P h0 h → f_X11_likely_L183 L n k210 h v0 v1 v2 v3 v5 v6 = some r → fr P h0 r.1 := by
  intro n
  induction n with
  | zero => intro h v0 v1 v2 v3 v5 v6 p_v0 f0 hf; exact absurd hf (by simp [f_X11_likely_L183])
  | succ n ih =>
    intro h v0 v1 v2 v3 v5 v6 p_v0 f0 hf
    unfold f_X11_likely_L183 at hf
    rcases e_or hf with hf | hf
    · exact hk210 _ _ _ _ _ _ p_v0 f0 hf
    · replace hf := (e_if hf).2
      obtain ⟨b63, hb64, hf⟩ := e_bd hf
      have p65 := f0.1 _ _ _ p_v0 hb64
      obtain ⟨b66, hb67, hf⟩ := e_bd hf
      have p68 := f0.1 _ _ _ p_v0 hb67
      replace hf := (e_if hf).2
      replace hf := (e_if hf).2
      obtain ⟨h69, hh70, hf⟩ := e_bd hf
      have f71 := fr_oV hh70 (fr_sL f0 p65)
      exact ih _ _ _ _ _ _ _ p_v0 f71 hf
theorem w_X11_likely_L72 {P : Nat → Prop} {L : eL} {h0 : eH} {r : eH × Int32} {k222 : eH → Nat → Int32 → Int64 → Option (eH × Int32)} (hk222 : ∀ (h : eH) (v0 : Nat) (v2 : Int32) (v3 : Int64), P v0 → fr P h0 h → k222 h v0 v2 v3 = some r → fr P h0 r.1) : ∀ (n : Nat) (h : eH) (v0 : Nat) (v1 : Int32) (v2 : Int32) (v3 : Int64) (v5 : Int32), P v0 → fr P h0 h → f_X11_likely_L72 L n k222 h v0 v1 v2 v3 v5 = some r → fr P h0 r.1 := by
  intro n
  induction n with
  | zero => intro h v0 v1 v2 v3 v5 p_v0 f0 hf; exact absurd hf (by simp [f_X11_likely_L72])
  | succ n ih =>
    intro h v0 v1 v2 v3 v5 p_v0 f0 hf
    unfold f_X11_likely_L72 at hf
    rcases e_or hf with hf | hf
    · exact hk222 _ _ _ _ p_v0 f0 hf
    · refine w_X11_likely_L81 ?_ e_fu _ _ _ _ _ _ _ p_v0 f0 hf
      · intro h23 w0_24 w1_25 w2_26 w3_27 w5_28 p_w0_24 f29 hf
        refine w_X11_likely_L105 ?_ e_fu _ _ _ _ _ _ _ p_w0_24 f29 hf
        · intro h56 w0_57 w1_58 w2_59 w3_60 w5_61 p_w0_57 f62 hf
          refine w_X11_likely_L183 ?_ e_fu _ _ _ _ _ _ _ p_w0_57 f62 hf
          · intro h72 w0_73 w1_74 w2_75 w3_76 w5_77 p_w0_73 f78 hf
            exact ih _ _ _ _ _ _ p_w0_73 f78 hf
theorem w_X11_likely {P : Nat → Prop} {L : eL} {h0 h : eH} {v0 : Nat} {v1 : Int32} {v2 : Int32} {r : eH × Int32} (p_v0 : P v0) (f0 : fr P h0 h) (hf : f_X11_likely L h v0 v1 v2 = some r) : fr P h0 r.1 := by
  unfold f_X11_likely at hf
  replace hf := (e_if hf).2
  rcases e_or hf with hf | hf
  · exact fr_oW hf (fr_sI f0 p_v0)
  · obtain ⟨r1, hr2, hf⟩ := e_bd hf
    rcases e_or hf with hf | hf
    · exact fr_oW hf (fr_sI f0 p_v0)
    · refine w_X11_likely_L29 ?_ e_fu _ _ _ _ _ p_v0 (fr_sI f0 p_v0) hf
      · intro h15 w0_16 w1_17 w2_18 p_w0_16 f19 hf
        refine w_X11_likely_L72 ?_ e_fu _ _ _ _ _ _ p_w0_16 f19 hf
        · intro h79 w0_80 w2_81 w3_82 p_w0_80 f83 hf
          replace hf := (e_if hf).2
          obtain ⟨b84, hb85, hf⟩ := e_bd hf
          have p86 := f83.1 _ _ _ p_w0_80 hb85
          replace hf := (e_if hf).2
          obtain ⟨r87, hr88, hf⟩ := e_bd hf
          have f89 := w_X11_tellsFraction p_w0_80 f83 hr88
          exact fr_oW hf f89
theorem w_X11_week_L58 {P : Nat → Prop} {L : eL} {h0 : eH} {r : eH × Int32} {k99 : eH → Nat → Int32 → Int32 → Int32 → Int32 → Int32 → Int32 → Option (eH × Int32)} (hk99 : ∀ (h : eH) (v0 : Nat) (v1 : Int32) (v2 : Int32) (v3 : Int32) (v4 : Int32) (v5 : Int32) (v7 : Int32), P v0 → fr P h0 h → k99 h v0 v1 v2 v3 v4 v5 v7 = some r → fr P h0 r.1) : ∀ (n : Nat) (h : eH) (v0 : Nat) (v1 : Int32) (v2 : Int32) (v3 : Int32) (v4 : Int32) (v5 : Int32) (v6 : Int32) (v7 : Int32) (v8 : Int32), P v0 → fr P h0 h → f_X11_week_L58 L n k99 h v0 v1 v2 v3 v4 v5 v6 v7 v8 = some r → fr P h0 r.1 := by
  intro n
  induction n with
  | zero => intro h v0 v1 v2 v3 v4 v5 v6 v7 v8 p_v0 f0 hf; exact absurd hf (by simp [f_X11_week_L58])
  | succ n ih =>
    intro h v0 v1 v2 v3 v4 v5 v6 v7 v8 p_v0 f0 hf
    unfold f_X11_week_L58 at hf
    rcases e_or hf with hf | hf
    · exact hk99 _ _ _ _ _ _ _ _ p_v0 f0 hf
    · rcases e_or hf with hf | hf
      · exact ih _ _ _ _ _ _ _ _ _ _ p_v0 f0 hf
      · exact ih _ _ _ _ _ _ _ _ _ _ p_v0 f0 hf
theorem w_X11_week_J133 {P : Nat → Prop} {L : eL} {h0 : eH} {r : eH × Int32} {k41 : eH → Nat → Int32 → Int32 → Int32 → Int32 → Int32 → Option (eH × Int32)} {k154 : eH → Nat → Int32 → Int32 → Option (eH × Int32)} (hk41 : ∀ (h : eH) (v0 : Nat) (v1 : Int32) (v2 : Int32) (v3 : Int32) (v4 : Int32) (v5 : Int32), P v0 → fr P h0 h → k41 h v0 v1 v2 v3 v4 v5 = some r → fr P h0 r.1) (hk154 : ∀ (h : eH) (v0 : Nat) (v3 : Int32) (v4 : Int32), P v0 → fr P h0 h → k154 h v0 v3 v4 = some r → fr P h0 r.1) : ∀ (h : eH) (v0 : Nat) (v1 : Int32) (v2 : Int32) (v4 : Int32) (v5 : Int32) (v7 : Int32) (v8 : Int32) (s0 : Int32), P v0 → fr P h0 h → f_X11_week_J133 L k41 k154 h v0 v1 v2 v4 v5 v7 v8 s0 = some r → fr P h0 r.1 := by
  intro h v0 v1 v2 v4 v5 v7 v8 s0 p_v0 f0 hf
  unfold f_X11_week_J133 at hf
  rcases e_or hf with hf | hf
  · exact hk41 _ _ _ _ _ _ _ p_v0 f0 hf
  · exact hk41 _ _ _ _ _ _ _ p_v0 f0 hf
theorem w_X11_week_L41 {P : Nat → Prop} {L : eL} {h0 : eH} {r : eH × Int32} {k154 : eH → Nat → Int32 → Int32 → Option (eH × Int32)} (hk154 : ∀ (h : eH) (v0 : Nat) (v3 : Int32) (v4 : Int32), P v0 → fr P h0 h → k154 h v0 v3 v4 = some r → fr P h0 r.1) : ∀ (n : Nat) (h : eH) (v0 : Nat) (v1 : Int32) (v2 : Int32) (v3 : Int32) (v4 : Int32) (v5 : Int32), P v0 → fr P h0 h → f_X11_week_L41 L n k154 h v0 v1 v2 v3 v4 v5 = some r → fr P h0 r.1 := by
  intro n
  induction n with
  | zero => intro h v0 v1 v2 v3 v4 v5 p_v0 f0 hf; exact absurd hf (by simp [f_X11_week_L41])
  | succ n ih =>
    intro h v0 v1 v2 v3 v4 v5 p_v0 f0 hf
    unfold f_X11_week_L41 at hf
    rcases e_or hf with hf | hf
    · exact hk154 _ _ _ _ p_v0 f0 hf
    · refine w_X11_week_L58 ?_ e_fu _ _ _ _ _ _ _ _ _ _ p_v0 f0 hf
      · intro h1 w0_2 w1_3 w2_4 w3_5 w4_6 w5_7 w7_8 p_w0_2 f9 hf
        rcases e_or hf with hf | hf
        · rcases e_or hf with hf | hf
          · exact w_X11_week_J133 ih hk154 _ _ _ _ _ _ _ _ _ p_w0_2 f9 hf
          · exact w_X11_week_J133 ih hk154 _ _ _ _ _ _ _ _ _ p_w0_2 f9 hf
        · exact w_X11_week_J133 ih hk154 _ _ _ _ _ _ _ _ _ p_w0_2 f9 hf
theorem w_X11_week {P : Nat → Prop} {L : eL} {h0 h : eH} {v0 : Nat} {v1 : Int32} {v2 : Int32} {r : eH × Int32} (p_v0 : P v0) (f0 : fr P h0 h) (hf : f_X11_week L h v0 v1 v2 = some r) : fr P h0 r.1 := by
  unfold f_X11_week at hf
  replace hf := (e_if hf).2
  rcases e_or hf with hf | hf
  · exact fr_oW hf (fr_sI f0 p_v0)
  · rcases e_or hf with hf | hf
    · exact fr_oW hf (fr_sI f0 p_v0)
    · refine w_X11_week_L41 ?_ e_fu _ _ _ _ _ _ _ p_v0 (fr_sI f0 p_v0) hf
      · intro h10 w0_11 w3_12 w4_13 p_w0_11 f14 hf
        replace hf := (e_if hf).2
        obtain ⟨r15, hr16, hf⟩ := e_bd hf
        have f17 := w_X11_enters p_w0_11 (fr_sI f14 p_w0_11) hr16
        exact fr_oW hf f17
theorem w_X11_looks_L9 {P : Nat → Prop} {L : eL} {h0 : eH} {r : eH × Int32} {k38 : eH → Nat → Int32 → Option (eH × Int32)} (hk38 : ∀ (h : eH) (v0 : Nat) (v1 : Int32), P v0 → fr P h0 h → k38 h v0 v1 = some r → fr P h0 r.1) : ∀ (n : Nat) (h : eH) (v0 : Nat) (v1 : Int32) (v2 : Int32), P v0 → fr P h0 h → f_X11_looks_L9 L n k38 h v0 v1 v2 = some r → fr P h0 r.1 := by
  intro n
  induction n with
  | zero => intro h v0 v1 v2 p_v0 f0 hf; exact absurd hf (by simp [f_X11_looks_L9])
  | succ n ih =>
    intro h v0 v1 v2 p_v0 f0 hf
    unfold f_X11_looks_L9 at hf
    rcases e_or hf with hf | hf
    · exact hk38 _ _ _ p_v0 f0 hf
    · replace hf := (e_if hf).2
      obtain ⟨r1, hr2, hf⟩ := e_bd hf
      rcases e_or hf with hf | hf
      · exact ih _ _ _ _ p_v0 f0 hf
      · exact ih _ _ _ _ p_v0 f0 hf
theorem w_X11_looks {P : Nat → Prop} {L : eL} {h0 h : eH} {v0 : Nat} {r : eH × Int32} (p_v0 : P v0) (f0 : fr P h0 h) (hf : f_X11_looks L h v0 = some r) : fr P h0 r.1 := by
  unfold f_X11_looks at hf
  replace hf := (e_if hf).2
  refine w_X11_looks_L9 ?_ e_fu _ _ _ _ p_v0 (fr_sI f0 p_v0) hf
  · intro h3 w0_4 w1_5 p_w0_4 f6 hf
    replace hf := (e_if hf).2
    obtain ⟨r7, hr8, hf⟩ := e_bd hf
    have f9 := w_X11_enters p_w0_4 (fr_sI f6 p_w0_4) hr8
    obtain ⟨r10, hr11, hf⟩ := e_bd hf
    obtain ⟨r12, hr13, hf⟩ := e_bd hf
    have f14 := w_X11_enters p_w0_4 f9 hr13
    exact fr_oW hf f14
theorem w_X11_waysTo_L2 {P : Nat → Prop} {L : eL} {h0 : eH} {r : eH × Int32} {k31 : eH → Nat → Int32 → Int32 → Option (eH × Int32)} (hk31 : ∀ (h : eH) (v0 : Nat) (v1 : Int32) (v2 : Int32), P v0 → fr P h0 h → k31 h v0 v1 v2 = some r → fr P h0 r.1) : ∀ (n : Nat) (h : eH) (v0 : Nat) (v1 : Int32) (v2 : Int32) (v3 : Int32), P v0 → fr P h0 h → f_X11_waysTo_L2 L n k31 h v0 v1 v2 v3 = some r → fr P h0 r.1 := by
  intro n
  induction n with
  | zero => intro h v0 v1 v2 v3 p_v0 f0 hf; exact absurd hf (by simp [f_X11_waysTo_L2])
  | succ n ih =>
    intro h v0 v1 v2 v3 p_v0 f0 hf
    unfold f_X11_waysTo_L2 at hf
    rcases e_or hf with hf | hf
    · exact hk31 _ _ _ _ p_v0 f0 hf
    · replace hf := (e_if hf).2
      obtain ⟨b1, hb2, hf⟩ := e_bd hf
      have p3 := f0.1 _ _ _ p_v0 hb2
      rcases e_or hf with hf | hf
      · replace hf := (e_if hf).2
        exact ih _ _ _ _ _ p_v0 (fr_sI f0 p3) hf
      · replace hf := (e_if hf).2
        exact ih _ _ _ _ _ p_v0 (fr_sI f0 p3) hf
theorem w_X11_waysTo_L44 {P : Nat → Prop} {L : eL} {h0 : eH} {r : eH × Int32} {k99 : eH → Nat → Int32 → Int32 → Int32 → Option (eH × Int32)} (hk99 : ∀ (h : eH) (v0 : Nat) (v1 : Int32) (v2 : Int32) (v3 : Int32), P v0 → fr P h0 h → k99 h v0 v1 v2 v3 = some r → fr P h0 r.1) : ∀ (n : Nat) (h : eH) (v0 : Nat) (v1 : Int32) (v2 : Int32) (v3 : Int32) (v4 : Int32), P v0 → fr P h0 h → f_X11_waysTo_L44 L n k99 h v0 v1 v2 v3 v4 = some r → fr P h0 r.1 := by
  intro n
  induction n with
  | zero => intro h v0 v1 v2 v3 v4 p_v0 f0 hf; exact absurd hf (by simp [f_X11_waysTo_L44])
  | succ n ih =>
    intro h v0 v1 v2 v3 v4 p_v0 f0 hf
    unfold f_X11_waysTo_L44 at hf
    replace hf := (e_if hf).2
    obtain ⟨b11, hb12, hf⟩ := e_bd hf
    have p13 := f0.1 _ _ _ p_v0 hb12
    replace hf := (e_if hf).2
    rcases e_or hf with hf | hf
    · exact hk99 _ _ _ _ _ p_v0 f0 hf
    · obtain ⟨b14, hb15, hf⟩ := e_bd hf
      have p16 := f0.1 _ _ _ p_v0 hb15
      replace hf := (e_if hf).2
      rcases e_or hf with hf | hf
      · exact hk99 _ _ _ _ _ p_v0 f0 hf
      · rcases e_or hf with hf | hf
        · exact hk99 _ _ _ _ _ p_v0 f0 hf
        · obtain ⟨b17, hb18, hf⟩ := e_bd hf
          have p19 := f0.1 _ _ _ p_v0 hb18
          replace hf := (e_if hf).2
          obtain ⟨b20, hb21, hf⟩ := e_bd hf
          have p22 := f0.1 _ _ _ p_v0 hb21
          obtain ⟨b23, hb24, hf⟩ := e_bd hf
          have p25 := f0.1 _ _ _ p_v0 hb24
          replace hf := (e_if hf).2
          replace hf := (e_if hf).2
          obtain ⟨h26, hh27, hf⟩ := e_bd hf
          have f28 := fr_oV hh27 (fr_sI f0 p19)
          exact ih _ _ _ _ _ _ p_v0 f28 hf
theorem w_X11_waysTo_L33 {P : Nat → Prop} {L : eL} {h0 : eH} {r : eH × Int32} {k105 : eH → Nat → Int32 → Option (eH × Int32)} (hk105 : ∀ (h : eH) (v0 : Nat) (v1 : Int32), P v0 → fr P h0 h → k105 h v0 v1 = some r → fr P h0 r.1) : ∀ (n : Nat) (h : eH) (v0 : Nat) (v1 : Int32) (v2 : Int32) (v3 : Int32), P v0 → fr P h0 h → f_X11_waysTo_L33 L n k105 h v0 v1 v2 v3 = some r → fr P h0 r.1 := by
  intro n
  induction n with
  | zero => intro h v0 v1 v2 v3 p_v0 f0 hf; exact absurd hf (by simp [f_X11_waysTo_L33])
  | succ n ih =>
    intro h v0 v1 v2 v3 p_v0 f0 hf
    unfold f_X11_waysTo_L33 at hf
    replace hf := (e_if hf).2
    obtain ⟨r9, hr10, hf⟩ := e_bd hf
    rcases e_or hf with hf | hf
    · exact hk105 _ _ _ p_v0 f0 hf
    · refine w_X11_waysTo_L44 ?_ e_fu _ _ _ _ _ _ p_v0 f0 hf
      · intro h29 w0_30 w1_31 w2_32 w3_33 p_w0_30 f34 hf
        exact ih _ _ _ _ _ p_w0_30 f34 hf
theorem w_X11_waysTo {P : Nat → Prop} {L : eL} {h0 h : eH} {v0 : Nat} {v1 : Int32} {v2 : Int32} {r : eH × Int32} (p_v0 : P v0) (f0 : fr P h0 h) (hf : f_X11_waysTo L h v0 v1 v2 = some r) : fr P h0 r.1 := by
  unfold f_X11_waysTo at hf
  refine w_X11_waysTo_L2 ?_ e_fu _ _ _ _ _ p_v0 f0 hf
  · intro h4 w0_5 w1_6 w2_7 p_w0_5 f8 hf
    refine w_X11_waysTo_L33 ?_ e_fu _ _ _ _ _ p_w0_5 f8 hf
    · intro h35 w0_36 w1_37 p_w0_36 f38 hf
      replace hf := (e_if hf).2
      obtain ⟨b39, hb40, hf⟩ := e_bd hf
      have p41 := f38.1 _ _ _ p_w0_36 hb40
      replace hf := (e_if hf).2
      exact fr_oW hf f38
theorem w_X11_box_L43 {P : Nat → Prop} {L : eL} {h0 : eH} {r : eH × Int32} {k93 : eH → Nat → Int32 → Int64 → Option (eH × Int32)} (hk93 : ∀ (h : eH) (v0 : Nat) (v2 : Int32) (v3 : Int64), P v0 → fr P h0 h → k93 h v0 v2 v3 = some r → fr P h0 r.1) : ∀ (n : Nat) (h : eH) (v0 : Nat) (v1 : Int32) (v2 : Int32) (v3 : Int64) (v5 : Int32), P v0 → fr P h0 h → f_X11_box_L43 L n k93 h v0 v1 v2 v3 v5 = some r → fr P h0 r.1 := by
  intro n
  induction n with
  | zero => intro h v0 v1 v2 v3 v5 p_v0 f0 hf; exact absurd hf (by simp [f_X11_box_L43])
  | succ n ih =>
    intro h v0 v1 v2 v3 v5 p_v0 f0 hf
    unfold f_X11_box_L43 at hf
    replace hf := (e_if hf).2
    obtain ⟨r6, hr7, hf⟩ := e_bd hf
    rcases e_or hf with hf | hf
    · exact hk93 _ _ _ _ p_v0 f0 hf
    · rcases e_or hf with hf | hf
      · exact hk93 _ _ _ _ p_v0 f0 hf
      · obtain ⟨b8, hb9, hf⟩ := e_bd hf
        have p10 := f0.1 _ _ _ p_v0 hb9
        replace hf := (e_if hf).2
        rcases e_or hf with hf | hf
        · exact ih _ _ _ _ _ _ p_v0 f0 hf
        · obtain ⟨r11, hr12, hf⟩ := e_bd hf
          have f13 := w_X11_waysTo p_v0 f0 hr12
          rcases e_or hf with hf | hf
          · exact ih _ _ _ _ _ _ p_v0 f13 hf
          · exact ih _ _ _ _ _ _ p_v0 f13 hf
theorem w_X11_box {P : Nat → Prop} {L : eL} {h0 h : eH} {v0 : Nat} {v1 : Int32} {r : eH × Int32} (p_v0 : P v0) (f0 : fr P h0 h) (hf : f_X11_box L h v0 v1 = some r) : fr P h0 r.1 := by
  unfold f_X11_box at hf
  replace hf := (e_if hf).2
  rcases e_or hf with hf | hf
  · exact fr_oW hf (fr_sI f0 p_v0)
  · obtain ⟨r1, hr2, hf⟩ := e_bd hf
    rcases e_or hf with hf | hf
    · obtain ⟨r3, hr4, hf⟩ := e_bd hf
      have f5 := w_X11_waysTo p_v0 (fr_sI f0 p_v0) hr4
      refine w_X11_box_L43 ?_ e_fu _ _ _ _ _ _ p_v0 f5 hf
      · intro h14 w0_15 w2_16 w3_17 p_w0_15 f18 hf
        replace hf := (e_if hf).2
        obtain ⟨r19, hr20, hf⟩ := e_bd hf
        have f21 := w_X11_enters p_w0_15 (fr_sI f18 p_w0_15) hr20
        exact fr_oW hf f21
    · exact fr_oW hf (fr_sI f0 p_v0)
theorem w_X11_clean_L39 {P : Nat → Prop} {L : eL} {h0 : eH} {r : eH × Int32} {k98 : eH → Nat → Int64 → Int64 → Option (eH × Int32)} (hk98 : ∀ (h : eH) (v0 : Nat) (v4 : Int64) (v6 : Int64), P v0 → fr P h0 h → k98 h v0 v4 v6 = some r → fr P h0 r.1) : ∀ (n : Nat) (h : eH) (v0 : Nat) (v1 : Int32) (v2 : Int32) (v3 : Int32) (v4 : Int64) (v6 : Int64) (v8 : Int32), P v0 → fr P h0 h → f_X11_clean_L39 L n k98 h v0 v1 v2 v3 v4 v6 v8 = some r → fr P h0 r.1 := by
  intro n
  induction n with
  | zero => intro h v0 v1 v2 v3 v4 v6 v8 p_v0 f0 hf; exact absurd hf (by simp [f_X11_clean_L39])
  | succ n ih =>
    intro h v0 v1 v2 v3 v4 v6 v8 p_v0 f0 hf
    unfold f_X11_clean_L39 at hf
    rcases e_or hf with hf | hf
    · exact hk98 _ _ _ _ p_v0 f0 hf
    · obtain ⟨r5, hr6, hf⟩ := e_bd hf
      replace hf := (e_ifp hf).2
      replace hf := (e_ifp hf).2
      exact ih _ _ _ _ _ _ _ _ p_v0 f0 hf
theorem w_X11_clean {P : Nat → Prop} {L : eL} {h0 h : eH} {v0 : Nat} {v1 : Int32} {r : eH × Int32} (p_v0 : P v0) (f0 : fr P h0 h) (hf : f_X11_clean L h v0 v1 = some r) : fr P h0 r.1 := by
  unfold f_X11_clean at hf
  replace hf := (e_if hf).2
  obtain ⟨r1, hr2, hf⟩ := e_bd hf
  rcases e_or hf with hf | hf
  · exact fr_oW hf (fr_sI f0 p_v0)
  · obtain ⟨r3, hr4, hf⟩ := e_bd hf
    refine w_X11_clean_L39 ?_ e_fu _ _ _ _ _ _ _ _ p_v0 (fr_sI f0 p_v0) hf
    · intro h7 w0_8 w4_9 w6_10 p_w0_8 f11 hf
      replace hf := (e_if hf).2
      obtain ⟨r12, hr13, hf⟩ := e_bd hf
      have f14 := w_X11_tellsFraction p_w0_8 f11 hr13
      exact fr_oW hf f14
theorem w_X11_rests_L37 {P : Nat → Prop} {L : eL} {h0 : eH} {r : eH × Int32} {k90 : eH → Nat → Int32 → Int32 → Int32 → Option (eH × Int32)} (hk90 : ∀ (h : eH) (v0 : Nat) (v1 : Int32) (v2 : Int32) (v3 : Int32), P v0 → fr P h0 h → k90 h v0 v1 v2 v3 = some r → fr P h0 r.1) : ∀ (n : Nat) (h : eH) (v0 : Nat) (v1 : Int32) (v2 : Int32) (v3 : Int32) (v4 : Int32), P v0 → fr P h0 h → f_X11_rests_L37 L n k90 h v0 v1 v2 v3 v4 = some r → fr P h0 r.1 := by
  intro n
  induction n with
  | zero => intro h v0 v1 v2 v3 v4 p_v0 f0 hf; exact absurd hf (by simp [f_X11_rests_L37])
  | succ n ih =>
    intro h v0 v1 v2 v3 v4 p_v0 f0 hf
    unfold f_X11_rests_L37 at hf
    rcases e_or hf with hf | hf
    · exact hk90 _ _ _ _ _ p_v0 f0 hf
    · obtain ⟨r1, hr2, hf⟩ := e_bd hf
      rcases e_or hf with hf | hf
      · exact ih _ _ _ _ _ _ p_v0 f0 hf
      · obtain ⟨r3, hr4, hf⟩ := e_bd hf
        rcases e_or hf with hf | hf
        · exact ih _ _ _ _ _ _ p_v0 f0 hf
        · rcases e_or hf with hf | hf
          · replace hf := (e_if hf).2
            obtain ⟨r5, hr6, hf⟩ := e_bd hf
            have f7 := w_X11_enters p_v0 f0 hr6
            obtain ⟨r8, hr9, hf⟩ := e_bd hf
            have f10 := w_X11_enters p_v0 f7 hr9
            exact ih _ _ _ _ _ _ p_v0 f10 hf
          · exact ih _ _ _ _ _ _ p_v0 f0 hf
theorem w_X11_rests_L28 {P : Nat → Prop} {L : eL} {h0 : eH} {r : eH × Int32} {k96 : eH → Int32 → Option (eH × Int32)} (hk96 : ∀ (h : eH) (v2 : Int32), fr P h0 h → k96 h v2 = some r → fr P h0 r.1) : ∀ (n : Nat) (h : eH) (v0 : Nat) (v1 : Int32) (v2 : Int32) (v3 : Int32), P v0 → fr P h0 h → f_X11_rests_L28 L n k96 h v0 v1 v2 v3 = some r → fr P h0 r.1 := by
  intro n
  induction n with
  | zero => intro h v0 v1 v2 v3 p_v0 f0 hf; exact absurd hf (by simp [f_X11_rests_L28])
  | succ n ih =>
    intro h v0 v1 v2 v3 p_v0 f0 hf
    unfold f_X11_rests_L28 at hf
    rcases e_or hf with hf | hf
    · exact hk96 _ _ f0 hf
    · refine w_X11_rests_L37 ?_ e_fu _ _ _ _ _ _ p_v0 f0 hf
      · intro h11 w0_12 w1_13 w2_14 w3_15 p_w0_12 f16 hf
        exact ih _ _ _ _ _ p_w0_12 f16 hf
theorem w_X11_rests {P : Nat → Prop} {L : eL} {h0 h : eH} {v0 : Nat} {v1 : Int32} {r : eH × Int32} (p_v0 : P v0) (f0 : fr P h0 h) (hf : f_X11_rests L h v0 v1 = some r) : fr P h0 r.1 := by
  unfold f_X11_rests at hf
  replace hf := (e_if hf).2
  rcases e_or hf with hf | hf
  · exact fr_oW hf (fr_sI f0 p_v0)
  · refine w_X11_rests_L28 ?_ e_fu _ _ _ _ _ p_v0 (fr_sI (fr_sI f0 p_v0) p_v0) hf
    · intro h17 w2_18 f19 hf
      exact fr_oW hf f19
theorem w_X11_draws {P : Nat → Prop} {L : eL} {h0 h : eH} {v0 : Nat} {v1 : Int32} {r : eH × Int32} (p_v0 : P v0) (f0 : fr P h0 h) (hf : f_X11_draws L h v0 v1 = some r) : fr P h0 r.1 := by
  unfold f_X11_draws at hf
  replace hf := (e_if hf).2
  obtain ⟨h1, hh2, hf⟩ := e_bd hf
  have f3 := fr_oV hh2 (fr_sI f0 p_v0)
  replace hf := (e_ifp hf).2
  exact fr_oW hf f3
theorem w_X11_weeks_J103 {P : Nat → Prop} {L : eL} {h0 : eH} {r : eH × Int32} {k30 : eH → Nat → Int32 → Int32 → Option (eH × Int32)} {k148 : eH → Nat → Option (eH × Int32)} (hk30 : ∀ (h : eH) (v0 : Nat) (v2 : Int32) (v3 : Int32), P v0 → fr P h0 h → k30 h v0 v2 v3 = some r → fr P h0 r.1) (hk148 : ∀ (h : eH) (v0 : Nat), P v0 → fr P h0 h → k148 h v0 = some r → fr P h0 r.1) : ∀ (h : eH) (v0 : Nat) (v2 : Int32) (v3 : Int32) (v4 : Int32) (s0 : Int32), P v0 → fr P h0 h → f_X11_weeks_J103 L k30 k148 h v0 v2 v3 v4 s0 = some r → fr P h0 r.1 := by
  intro h v0 v2 v3 v4 s0 p_v0 f0 hf
  unfold f_X11_weeks_J103 at hf
  replace hf := (e_if hf).2
  obtain ⟨b7, hb8, hf⟩ := e_bd hf
  have p9 := f0.1 _ _ _ p_v0 hb8
  obtain ⟨b10, hb11, hf⟩ := e_bd hf
  have p12 := f0.1 _ _ _ p_v0 hb11
  replace hf := (e_if hf).2
  replace hf := (e_if hf).2
  obtain ⟨h13, hh14, hf⟩ := e_bd hf
  have f15 := fr_oV hh14 (fr_sI f0 p9)
  rcases e_or hf with hf | hf
  · obtain ⟨b16, hb17, hf⟩ := e_bd hf
    have p18 := f15.1 _ _ _ p_v0 hb17
    obtain ⟨r19, hr20, hf⟩ := e_bd hf
    have f21 := w_X11_dayGoes p_v0 p18 f15 hr20
    exact hk30 _ _ _ _ p_v0 f21 hf
  · exact hk30 _ _ _ _ p_v0 f15 hf
theorem w_X11_weeks_J60 {P : Nat → Prop} {L : eL} {h0 : eH} {r : eH × Int32} {k30 : eH → Nat → Int32 → Int32 → Option (eH × Int32)} {k148 : eH → Nat → Option (eH × Int32)} (hk30 : ∀ (h : eH) (v0 : Nat) (v2 : Int32) (v3 : Int32), P v0 → fr P h0 h → k30 h v0 v2 v3 = some r → fr P h0 r.1) (hk148 : ∀ (h : eH) (v0 : Nat), P v0 → fr P h0 h → k148 h v0 = some r → fr P h0 r.1) : ∀ (h : eH) (v0 : Nat) (v2 : Int32) (v3 : Int32) (v4 : Int32), P v0 → fr P h0 h → f_X11_weeks_J60 L k30 k148 h v0 v2 v3 v4 = some r → fr P h0 r.1 := by
  intro h v0 v2 v3 v4 p_v0 f0 hf
  unfold f_X11_weeks_J60 at hf
  rcases e_or hf with hf | hf
  · exact w_X11_weeks_J103 hk30 hk148 _ _ _ _ _ _ p_v0 f0 hf
  · rcases e_or hf with hf | hf
    · exact w_X11_weeks_J103 hk30 hk148 _ _ _ _ _ _ p_v0 f0 hf
    · replace hf := (e_if hf).2
      obtain ⟨b22, hb23, hf⟩ := e_bd hf
      have p24 := f0.1 _ _ _ p_v0 hb23
      obtain ⟨b25, hb26, hf⟩ := e_bd hf
      have p27 := f0.1 _ _ _ p_v0 hb26
      replace hf := (e_if hf).2
      replace hf := (e_if hf).2
      rcases e_or hf with hf | hf
      · obtain ⟨r28, hr29, hf⟩ := e_bd hf
        have f30 := w_X11_draws p_v0 f0 hr29
        rcases e_or hf with hf | hf
        · exact w_X11_weeks_J103 hk30 hk148 _ _ _ _ _ _ p_v0 f30 hf
        · exact w_X11_weeks_J103 hk30 hk148 _ _ _ _ _ _ p_v0 f30 hf
      · exact w_X11_weeks_J103 hk30 hk148 _ _ _ _ _ _ p_v0 f0 hf
theorem w_X11_weeks_L30 {P : Nat → Prop} {L : eL} {h0 : eH} {r : eH × Int32} {k148 : eH → Nat → Option (eH × Int32)} (hk148 : ∀ (h : eH) (v0 : Nat), P v0 → fr P h0 h → k148 h v0 = some r → fr P h0 r.1) : ∀ (n : Nat) (h : eH) (v0 : Nat) (v2 : Int32) (v3 : Int32), P v0 → fr P h0 h → f_X11_weeks_L30 L n k148 h v0 v2 v3 = some r → fr P h0 r.1 := by
  intro n
  induction n with
  | zero => intro h v0 v2 v3 p_v0 f0 hf; exact absurd hf (by simp [f_X11_weeks_L30])
  | succ n ih =>
    intro h v0 v2 v3 p_v0 f0 hf
    unfold f_X11_weeks_L30 at hf
    rcases e_or hf with hf | hf
    · exact hk148 _ _ p_v0 f0 hf
    · replace hf := (e_if hf).2
      obtain ⟨r4, hr5, hf⟩ := e_bd hf
      have f6 := w_X11_draws p_v0 f0 hr5
      rcases e_or hf with hf | hf
      · exact w_X11_weeks_J60 ih hk148 _ _ _ _ _ p_v0 f6 hf
      · obtain ⟨b31, hb32, hf⟩ := e_bd hf
        have p33 := f6.1 _ _ _ p_v0 hb32
        obtain ⟨r34, hr35, hf⟩ := e_bd hf
        have f36 := w_X11_stepGoes p_v0 p33 f6 hr35
        exact w_X11_weeks_J60 ih hk148 _ _ _ _ _ p_v0 f36 hf
theorem w_X11_weeks {P : Nat → Prop} {L : eL} {h0 h : eH} {v0 : Nat} {v1 : Int32} {v2 : Int32} {r : eH × Int32} (p_v0 : P v0) (f0 : fr P h0 h) (hf : f_X11_weeks L h v0 v1 v2 = some r) : fr P h0 r.1 := by
  unfold f_X11_weeks at hf
  replace hf := (e_if hf).2
  rcases e_or hf with hf | hf
  · exact fr_oW hf (fr_sI f0 p_v0)
  · obtain ⟨r1, hr2, hf⟩ := e_bd hf
    have f3 := w_X11_puts p_v0 (fr_sI (fr_sI f0 p_v0) p_v0) hr2
    refine w_X11_weeks_L30 ?_ e_fu _ _ _ _ p_v0 f3 hf
    · intro h37 w0_38 p_w0_38 f39 hf
      replace hf := (e_if hf).2
      obtain ⟨b40, hb41, hf⟩ := e_bd hf
      have p42 := (fr_sI f39 p_w0_38).1 _ _ _ p_w0_38 hb41
      replace hf := (e_if hf).2
      obtain ⟨r43, hr44, hf⟩ := e_bd hf
      have f45 := w_X11_enters p_w0_38 (fr_sI f39 p_w0_38) hr44
      obtain ⟨b46, hb47, hf⟩ := e_bd hf
      have p48 := f45.1 _ _ _ p_w0_38 hb47
      obtain ⟨r49, hr50, hf⟩ := e_bd hf
      obtain ⟨r51, hr52, hf⟩ := e_bd hf
      have f53 := w_X11_enters p_w0_38 f45 hr52
      obtain ⟨b54, hb55, hf⟩ := e_bd hf
      have p56 := f53.1 _ _ _ p_w0_38 hb55
      replace hf := (e_if hf).2
      obtain ⟨b57, hb58, hf⟩ := e_bd hf
      have p59 := f53.1 _ _ _ p_w0_38 hb58
      replace hf := (e_if hf).2
      exact fr_oW hf f53
theorem w_X11_keep_L28 {P : Nat → Prop} {L : eL} {h0 : eH} {r : eH × Int32} {k57 : eH → Option (eH × Int32)} (hk57 : ∀ (h : eH), fr P h0 h → k57 h = some r → fr P h0 r.1) : ∀ (n : Nat) (h : eH) (v0 : Nat) (v1 : Int32) (v2 : Int32), P v0 → fr P h0 h → f_X11_keep_L28 L n k57 h v0 v1 v2 = some r → fr P h0 r.1 := by
  intro n
  induction n with
  | zero => intro h v0 v1 v2 p_v0 f0 hf; exact absurd hf (by simp [f_X11_keep_L28])
  | succ n ih =>
    intro h v0 v1 v2 p_v0 f0 hf
    unfold f_X11_keep_L28 at hf
    rcases e_or hf with hf | hf
    · exact hk57 _ f0 hf
    · replace hf := (e_if hf).2
      obtain ⟨b7, hb8, hf⟩ := e_bd hf
      have p9 := f0.1 _ _ _ p_v0 hb8
      obtain ⟨b10, hb11, hf⟩ := e_bd hf
      have p12 := f0.1 _ _ _ p_v0 hb11
      replace hf := (e_if hf).2
      replace hf := (e_if hf).2
      obtain ⟨h13, hh14, hf⟩ := e_bd hf
      have f15 := fr_oV hh14 (fr_sI f0 p9)
      exact ih _ _ _ _ p_v0 f15 hf
theorem w_X11_keep {P : Nat → Prop} {L : eL} {h0 h : eH} {v0 : Nat} {v1 : Int32} {r : eH × Int32} (p_v0 : P v0) (f0 : fr P h0 h) (hf : f_X11_keep L h v0 v1 = some r) : fr P h0 r.1 := by
  unfold f_X11_keep at hf
  replace hf := (e_if hf).2
  rcases e_or hf with hf | hf
  · exact fr_oW hf (fr_sI f0 p_v0)
  · obtain ⟨b1, hb2, hf⟩ := e_bd hf
    have p3 := (fr_sI f0 p_v0).1 _ _ _ p_v0 hb2
    replace hf := (e_if hf).2
    obtain ⟨h4, hh5, hf⟩ := e_bd hf
    have f6 := fr_oV hh5 (fr_sI (fr_sI f0 p_v0) p3)
    refine w_X11_keep_L28 ?_ e_fu _ _ _ _ p_v0 f6 hf
    · intro h16 f17 hf
      exact fr_oW hf f17
theorem w_X11_again_L30 {P : Nat → Prop} {L : eL} {h0 : eH} {r : eH × Int32} {k59 : eH → Nat → Option (eH × Int32)} (hk59 : ∀ (h : eH) (v0 : Nat), P v0 → fr P h0 h → k59 h v0 = some r → fr P h0 r.1) : ∀ (n : Nat) (h : eH) (v0 : Nat) (v1 : Int32) (v2 : Int32), P v0 → fr P h0 h → f_X11_again_L30 L n k59 h v0 v1 v2 = some r → fr P h0 r.1 := by
  intro n
  induction n with
  | zero => intro h v0 v1 v2 p_v0 f0 hf; exact absurd hf (by simp [f_X11_again_L30])
  | succ n ih =>
    intro h v0 v1 v2 p_v0 f0 hf
    unfold f_X11_again_L30 at hf
    rcases e_or hf with hf | hf
    · exact hk59 _ _ p_v0 f0 hf
    · replace hf := (e_if hf).2
      obtain ⟨b4, hb5, hf⟩ := e_bd hf
      have p6 := f0.1 _ _ _ p_v0 hb5
      obtain ⟨b7, hb8, hf⟩ := e_bd hf
      have p9 := f0.1 _ _ _ p_v0 hb8
      replace hf := (e_if hf).2
      replace hf := (e_if hf).2
      obtain ⟨h10, hh11, hf⟩ := e_bd hf
      have f12 := fr_oV hh11 (fr_sI f0 p6)
      exact ih _ _ _ _ p_v0 f12 hf
theorem w_X11_again {P : Nat → Prop} {L : eL} {h0 h : eH} {v0 : Nat} {v1 : Int32} {r : eH × Int32} (p_v0 : P v0) (f0 : fr P h0 h) (hf : f_X11_again L h v0 v1 = some r) : fr P h0 r.1 := by
  unfold f_X11_again at hf
  replace hf := (e_if hf).2
  rcases e_or hf with hf | hf
  · exact fr_oW hf (fr_sI f0 p_v0)
  · obtain ⟨b1, hb2, hf⟩ := e_bd hf
    have p3 := (fr_sI f0 p_v0).1 _ _ _ p_v0 hb2
    replace hf := (e_if hf).2
    rcases e_or hf with hf | hf
    · exact fr_oW hf (fr_sI f0 p_v0)
    · refine w_X11_again_L30 ?_ e_fu _ _ _ _ p_v0 (fr_sI f0 p_v0) hf
      · intro h13 w0_14 p_w0_14 f15 hf
        replace hf := (e_if hf).2
        exact fr_oW hf (fr_sI f15 p_w0_14)
theorem w_X11_count {P : Nat → Prop} {L : eL} {h0 h : eH} {v0 : Nat} {v1 : Int32} {r : eH × Int32} (p_v0 : P v0) (f0 : fr P h0 h) (hf : f_X11_count L h v0 v1 = some r) : fr P h0 r.1 := by
  unfold f_X11_count at hf
  replace hf := (e_if hf).2
  rcases e_or hf with hf | hf
  · exact fr_oW hf (fr_sI f0 p_v0)
  rcases e_or hf with hf | hf
  · exact fr_oW hf (fr_sI f0 p_v0)
  rcases e_or hf with hf | hf
  · obtain ⟨r1, hr2, hf⟩ := e_bd hf
    exact fr_oW hf (fr_sI f0 p_v0)
  rcases e_or hf with hf | hf
  · obtain ⟨b3, hb4, hf⟩ := e_bd hf
    have p5 := (fr_sI f0 p_v0).1 _ _ _ p_v0 hb4
    obtain ⟨r6, hr7, hf⟩ := e_bd hf
    exact fr_oW hf (fr_sI f0 p_v0)
  rcases e_or hf with hf | hf
  · obtain ⟨b8, hb9, hf⟩ := e_bd hf
    have p10 := (fr_sI f0 p_v0).1 _ _ _ p_v0 hb9
    obtain ⟨r11, hr12, hf⟩ := e_bd hf
    exact fr_oW hf (fr_sI f0 p_v0)
  rcases e_or hf with hf | hf
  · exact fr_oW hf (fr_sI f0 p_v0)
  rcases e_or hf with hf | hf
  · obtain ⟨b13, hb14, hf⟩ := e_bd hf
    have p15 := (fr_sI f0 p_v0).1 _ _ _ p_v0 hb14
    replace hf := (e_if hf).2
    exact fr_oW hf (fr_sI f0 p_v0)
  rcases e_or hf with hf | hf
  · exact fr_oW hf (fr_sI f0 p_v0)
  rcases e_or hf with hf | hf
  · exact fr_oW hf (fr_sI f0 p_v0)
  rcases e_or hf with hf | hf
  · exact fr_oW hf (fr_sI f0 p_v0)
  rcases e_or hf with hf | hf
  · exact fr_oW hf (fr_sI f0 p_v0)
  · exact fr_oW hf (fr_sI f0 p_v0)
theorem w_X11_row {P : Nat → Prop} {L : eL} {h0 h : eH} {v0 : Nat} {v1 : Int32} {r : eH × Int64} (p_v0 : P v0) (f0 : fr P h0 h) (hf : f_X11_row L h v0 v1 = some r) : fr P h0 r.1 := by
  unfold f_X11_row at hf
  replace hf := (e_if hf).2
  rcases e_or hf with hf | hf
  · exact fr_oL hf (fr_sI (fr_sI f0 p_v0) p_v0)
  · obtain ⟨b1, hb2, hf⟩ := e_bd hf
    have p3 := (fr_sI f0 p_v0).1 _ _ _ p_v0 hb2
    replace hf := (e_if hf).2
    exact fr_oL hf (fr_sI f0 p_v0)

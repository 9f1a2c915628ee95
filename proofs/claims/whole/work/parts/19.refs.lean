theorem g_X8_addFour_L22 {L : eL} {h0 : eH} {r : eH × Int32} {k57 : eH → Nat → Option (eH × Int32)} (hk57 : ∀ (h : eH) (v0 : Nat), rf h0 h → k57 h v0 = some r → rf h0 r.1) : ∀ (n : Nat) (h : eH) (v0 : Nat) (v1 : Int32) (v2 : Int32), rf h0 h → f_X8_addFour_L22 L n k57 h v0 v1 v2 = some r → rf h0 r.1 := by
  intro n
  induction n with
  | zero => intro h v0 v1 v2 f0 hf; exact absurd hf (by simp [f_X8_addFour_L22])
  | succ n ih =>
    intro h v0 v1 v2 f0 hf
    unfold f_X8_addFour_L22 at hf
    rcases e_or hf with hf | hf
    · exact hk57 _ _  f0 hf
    · replace hf := (e_if hf).2
      obtain ⟨b1, hb2, hf⟩ := e_bd hf
      replace hf := (e_if hf).2
      obtain ⟨h4, hh5, hf⟩ := e_bd hf
      have f6 := rf_oV hh5 (rf_sI f0 )
      exact ih _ _ _ _  f6 hf
theorem g_X8_addFour {L : eL} {h0 h : eH} {v0 : Nat} {v1 : Int32} {r : eH × Int32} (f0 : rf h0 h) (hf : f_X8_addFour L h v0 v1 = some r) : rf h0 r.1 := by
  unfold f_X8_addFour at hf
  replace hf := (e_if hf).2
  rcases e_or hf with hf | hf
  · exact rf_oW hf f0
  · rcases e_or hf with hf | hf
    · refine g_X8_addFour_L22 ?_ e_fu _ _ _ _  f0 hf
      · intro h7 w0_8 f9 hf
        replace hf := (e_if hf).2
        exact rf_oW hf (rf_sI f9 )
    · exact rf_oW hf f0
theorem g_X10_sign {L : eL} {h0 h : eH} {v0 : Nat} {v1 : Int32} {r : eH × Int32} (f0 : rf h0 h) (hf : f_X10_sign L h v0 v1 = some r) : rf h0 r.1 := by
  unfold f_X10_sign at hf
  replace hf := (e_if hf).2
  obtain ⟨b1, hb2, hf⟩ := e_bd hf
  replace hf := (e_if hf).2
  obtain ⟨r4, hr5, hf⟩ := e_bd hf
  have f6 := g_X8_addFour  f0 hr5
  rcases e_or hf with hf | hf
  · exact rf_oW hf f6
  · obtain ⟨b7, hb8, hf⟩ := e_bd hf
    replace hf := (e_if hf).2
    obtain ⟨r10, hr11, hf⟩ := e_bd hf
    exact rf_oW hf f6
theorem g_X8_cut {L : eL} {h0 h : eH} {v0 : Nat} {v1 : Int32} {r : eH × Int32} (f0 : rf h0 h) (hf : f_X8_cut L h v0 v1 = some r) : rf h0 r.1 := by
  unfold f_X8_cut at hf
  rcases e_or hf with hf | hf
  · exact rf_oW hf f0
  · replace hf := (e_if hf).2
    rcases e_or hf with hf | hf
    · exact rf_oW hf (rf_sI f0 )
    · exact rf_oW hf f0
theorem g_X10_end {L : eL} {h0 h : eH} {v0 : Nat} {v1 : Int32} {r : eH × Int32} (f0 : rf h0 h) (hf : f_X10_end L h v0 v1 = some r) : rf h0 r.1 := by
  unfold f_X10_end at hf
  replace hf := (e_if hf).2
  obtain ⟨b1, hb2, hf⟩ := e_bd hf
  replace hf := (e_if hf).2
  obtain ⟨r4, hr5, hf⟩ := e_bd hf
  have f6 := g_X8_cut  f0 hr5
  replace hf := (e_if hf).2
  exact rf_oW hf f6
theorem g_X2_put_J54 {L : eL} {h0 : eH} {r : eH × Int32}  : ∀ (h : eH) (v0 : Nat) (v2 : Int32) (v3 : Int32) (v4 : Int32), rf h0 h → f_X2_put_J54 L h v0 v2 v3 v4 = some r → rf h0 r.1 := by
  intro h v0 v2 v3 v4 f0 hf
  unfold f_X2_put_J54 at hf
  replace hf := (e_if hf).2
  obtain ⟨b1, hb2, hf⟩ := e_bd hf
  replace hf := (e_if hf).2
  rcases e_or hf with hf | hf
  · obtain ⟨h4, hh5, hf⟩ := e_bd hf
    have f6 := rf_oV hh5 (rf_sI (rf_sI f0 ) )
    exact rf_oW hf f6
  · exact rf_oW hf (rf_sI (rf_sI f0 ) )
theorem g_X2_put_J22 {L : eL} {h0 : eH} {r : eH × Int32}  : ∀ (h : eH) (v0 : Nat) (v2 : Int32) (v3 : Int32) (s0 : Int32), rf h0 h → f_X2_put_J22 L h v0 v2 v3 s0 = some r → rf h0 r.1 := by
  intro h v0 v2 v3 s0 f0 hf
  unfold f_X2_put_J22 at hf
  rcases e_or hf with hf | hf
  · exact rf_oW hf f0
  · rcases e_or hf with hf | hf
    · exact rf_oW hf f0
    · rcases e_or hf with hf | hf
      · exact rf_oW hf f0
      · rcases e_or hf with hf | hf
        · exact g_X2_put_J54 _ _ _ _ _  f0 hf
        · replace hf := (e_if hf).2
          rcases e_or hf with hf | hf
          · exact g_X2_put_J54 _ _ _ _ _  f0 hf
          · exact rf_oW hf f0
theorem g_X2_put {L : eL} {h0 h : eH} {v0 : Nat} {v1 : Int32} {v2 : Int32} {r : eH × Int32} (f0 : rf h0 h) (hf : f_X2_put L h v0 v1 v2 = some r) : rf h0 r.1 := by
  unfold f_X2_put at hf
  rcases e_or hf with hf | hf
  · exact g_X2_put_J22 _ _ _ _ _  f0 hf
  · rcases e_or hf with hf | hf
    · exact g_X2_put_J22 _ _ _ _ _  f0 hf
    · exact g_X2_put_J22 _ _ _ _ _  f0 hf
theorem g_X2_drawSets_J48 {L : eL} {h0 : eH} {r : eH} {k12 : eH → Nat → Int32 → Option eH} {k80 : eH → Nat → Option eH} (hk12 : ∀ (h : eH) (v0 : Nat) (v1 : Int32), rf h0 h → k12 h v0 v1 = some r → rf h0 r) (hk80 : ∀ (h : eH) (v0 : Nat), rf h0 h → k80 h v0 = some r → rf h0 r) : ∀ (h : eH) (v0 : Nat) (v1 : Int32) (v2 : Int32) (s0 : Nat) (s1 : Int64) (s2 : Int64), rf h0 h → f_X2_drawSets_J48 L k12 k80 h v0 v1 v2 s0 s1 s2 = some r → rf h0 r := by
  intro h v0 v1 v2 s0 s1 s2 f0 hf
  unfold f_X2_drawSets_J48 at hf
  replace hf := (e_if hf).2
  replace hf := (e_if hf).2
  rcases e_or hf with hf | hf
  · obtain ⟨h6, hh7, hf⟩ := e_bd hf
    have f8 := rf_oV hh7 (rf_sL (rf_sL f0 ) )
    exact hk12 _ _ _  f8 hf
  · obtain ⟨h3, hh4, hf⟩ := e_bd hf
    have f5 := rf_oV hh4 (rf_sL (rf_sL f0 ) )
    exact hk12 _ _ _  f5 hf
theorem g_X2_drawSets_L12 {L : eL} {h0 : eH} {r : eH} {k80 : eH → Nat → Option eH} (hk80 : ∀ (h : eH) (v0 : Nat), rf h0 h → k80 h v0 = some r → rf h0 r) : ∀ (n : Nat) (h : eH) (v0 : Nat) (v1 : Int32), rf h0 h → f_X2_drawSets_L12 L n k80 h v0 v1 = some r → rf h0 r := by
  intro n
  induction n with
  | zero => intro h v0 v1 f0 hf; exact absurd hf (by simp [f_X2_drawSets_L12])
  | succ n ih =>
    intro h v0 v1 f0 hf
    unfold f_X2_drawSets_L12 at hf
    replace hf := (e_if hf).2
    rcases e_or hf with hf | hf
    · exact hk80 _ _  f0 hf
    · obtain ⟨r1, hr2, hf⟩ := e_bd hf
      rcases e_or hf with hf | hf
      · exact g_X2_drawSets_J48 ih hk80 _ _ _ _ _ _ _   f0 hf
      · exact g_X2_drawSets_J48 ih hk80 _ _ _ _ _ _ _   f0 hf
theorem g_X2_drawSets_L87 {L : eL} {h0 : eH} {r : eH} {k119 : eH → Nat → Option eH} (hk119 : ∀ (h : eH) (v0 : Nat), rf h0 h → k119 h v0 = some r → rf h0 r) : ∀ (n : Nat) (h : eH) (v0 : Nat) (v1 : Int32), rf h0 h → f_X2_drawSets_L87 L n k119 h v0 v1 = some r → rf h0 r := by
  intro n
  induction n with
  | zero => intro h v0 v1 f0 hf; exact absurd hf (by simp [f_X2_drawSets_L87])
  | succ n ih =>
    intro h v0 v1 f0 hf
    unfold f_X2_drawSets_L87 at hf
    replace hf := (e_if hf).2
    rcases e_or hf with hf | hf
    · exact hk119 _ _  f0 hf
    · obtain ⟨h12, hh13, hf⟩ := e_bd hf
      have f14 := rf_oV hh13 (rf_sL f0 )
      exact ih _ _ _  f14 hf
theorem g_X2_drawSets {L : eL} {h0 h : eH} {v0 : Nat} {r : eH} (f0 : rf h0 h) (hf : f_X2_drawSets L h v0 = some r) : rf h0 r := by
  unfold f_X2_drawSets at hf
  replace hf := (e_if hf).2
  refine g_X2_drawSets_L12 ?_ e_fu _ _ _  (rf_sL (rf_sL f0 ) ) hf
  · intro h9 w0_10 f11 hf
    replace hf := (e_if hf).2
    refine g_X2_drawSets_L87 ?_ e_fu _ _ _  (rf_sL f11 ) hf
    · intro h15 w0_16 f17 hf
      replace hf := (e_if hf).2
      obtain ⟨h18, hh19, hf⟩ := e_bd hf
      have f20 := rf_oV hh19 (rf_sL f17 )
      exact rf_oV hf f20
theorem g_X2_read_L18 {L : eL} {h0 : eH} {r : eH × Int32} {k56 : eH → Int32 → Option (eH × Int32)} {k101 : eH → Int32 → Option (eH × Int32)} {k113 : eH → Nat → Nat → Int32 → Int32 → Option (eH × Int32)} (hk56 : ∀ (h : eH) (v4 : Int32), rf h0 h → k56 h v4 = some r → rf h0 r.1) (hk101 : ∀ (h : eH) (v4 : Int32), rf h0 h → k101 h v4 = some r → rf h0 r.1) (hk113 : ∀ (h : eH) (v0 : Nat) (v1 : Nat) (v2 : Int32) (v3 : Int32), rf h0 h → k113 h v0 v1 v2 v3 = some r → rf h0 r.1) : ∀ (n : Nat) (h : eH) (v0 : Nat) (v1 : Nat) (v2 : Int32) (v3 : Int32) (v4 : Int32), rf h0 h → f_X2_read_L18 L n k56 k101 k113 h v0 v1 v2 v3 v4 = some r → rf h0 r.1 := by
  intro n
  induction n with
  | zero => intro h v0 v1 v2 v3 v4 f0 hf; exact absurd hf (by simp [f_X2_read_L18])
  | succ n ih =>
    intro h v0 v1 v2 v3 v4 f0 hf
    unfold f_X2_read_L18 at hf
    replace hf := (e_if hf).2
    obtain ⟨r1, hr2, hf⟩ := e_bd hf
    rcases e_or hf with hf | hf
    · exact hk113 _ _ _ _ _   f0 hf
    · obtain ⟨r3, hr4, hf⟩ := e_bd hf
      rcases e_or hf with hf | hf
      · replace hf := (e_if hf).2
        obtain ⟨r8, hr9, hf⟩ := e_bd hf
        rcases e_or hf with hf | hf
        · exact hk56 _ _ f0 hf
        · rcases e_or hf with hf | hf
          · exact hk56 _ _ f0 hf
          · exact ih _ _ _ _ _ _   (rf_sI f0 ) hf
      · replace hf := (e_if hf).2
        rcases e_or hf with hf | hf
        · exact hk101 _ _ f0 hf
        · obtain ⟨r5, hr6, hf⟩ := e_bd hf
          have f7 := g_X2_put  f0 hr6
          rcases e_or hf with hf | hf
          · exact hk101 _ _ f7 hf
          · exact ih _ _ _ _ _ _   f7 hf
theorem g_X2_read {L : eL} {h0 h : eH} {v0 : Nat} {v1 : Nat} {r : eH × Int32} (f0 : rf h0 h) (hf : f_X2_read L h v0 v1 = some r) : rf h0 r.1 := by
  unfold f_X2_read at hf
  replace hf := (e_if hf).2
  refine g_X2_read_L18 ?_ ?_ ?_ e_fu _ _ _ _ _ _   (rf_sI (rf_sI f0 ) ) hf
  · intro h10 w4_11 f12 hf
    exact rf_oW hf f12
  · intro h13 w4_14 f15 hf
    exact rf_oW hf f15
  · intro h16 w0_17 w1_18 w2_19 w3_20 f21 hf
    replace hf := (e_if hf).2
    obtain ⟨r22, hr23, hf⟩ := e_bd hf
    rcases e_or hf with hf | hf
    · replace hf := (e_if hf).2
      obtain ⟨r30, hr31, hf⟩ := e_bd hf
      exact rf_oW hf f21
    · obtain ⟨h24, hh25, hf⟩ := e_bd hf
      have f26 := rf_oV hh25 (rf_sI (rf_sI f21 ) )
      obtain ⟨r27, hr28, hf⟩ := e_bd hf
      have f29 := g_X2_drawSets  f26 hr28
      exact rf_oW hf f29
theorem g_J7_fill_53178_L5 {L : eL} {h0 : eH} {r : eH} {k20 : eH → Option eH} (hk20 : ∀ (h : eH), rf h0 h → k20 h = some r → rf h0 r) : ∀ (n : Nat) (h : eH) (v0 : Nat) (v1 : Int32) (v2 : Int32) (v3 : Int32), rf h0 h → f_J7_fill_53178_L5 L n k20 h v0 v1 v2 v3 = some r → rf h0 r := by
  intro n
  induction n with
  | zero => intro h v0 v1 v2 v3 f0 hf; exact absurd hf (by simp [f_J7_fill_53178_L5])
  | succ n ih =>
    intro h v0 v1 v2 v3 f0 hf
    unfold f_J7_fill_53178_L5 at hf
    rcases e_or hf with hf | hf
    · exact hk20 _ f0 hf
    · replace hf := (e_if hf).2
      exact ih _ _ _ _ _  (rf_sI f0 ) hf
theorem g_J7_fill_53178 {L : eL} {h0 h : eH} {v0 : Nat} {v1 : Int32} {r : eH} (f0 : rf h0 h) (hf : f_J7_fill_53178 L h v0 v1 = some r) : rf h0 r := by
  unfold f_J7_fill_53178 at hf
  replace hf := (e_if hf).2
  refine g_J7_fill_53178_L5 ?_ e_fu _ _ _ _ _  f0 hf
  · intro h1 f2 hf
    exact rf_oV hf f2
theorem g_X6_clearDust {L : eL} {h0 h : eH} {v0 : Nat} {r : eH} (f0 : rf h0 h) (hf : f_X6_clearDust L h v0 = some r) : rf h0 r := by
  unfold f_X6_clearDust at hf
  replace hf := (e_if hf).2
  obtain ⟨b1, hb2, hf⟩ := e_bd hf
  obtain ⟨r4, hr5, hf⟩ := e_bd hf
  have f6 := g_J7_fill_53178  f0 hr5
  exact rf_oV hf f6
theorem g_X6_begin {L : eL} {h0 h : eH} {v0 : Nat} {v1 : Int32} {r : eH} (f0 : rf h0 h) (hf : f_X6_begin L h v0 v1 = some r) : rf h0 r := by
  unfold f_X6_begin at hf
  replace hf := (e_if hf).2
  obtain ⟨r1, hr2, hf⟩ := e_bd hf
  have f3 := g_X6_clearDust  f0 hr2
  obtain ⟨h4, hh5, hf⟩ := e_bd hf
  have f6 := rf_oV hh5 (rf_sI (rf_sI (rf_sI (rf_sI f3 ) ) ) )
  obtain ⟨h7, hh8, hf⟩ := e_bd hf
  have f9 := rf_oV hh8 (rf_sL (rf_sI (rf_sI (rf_sI f6 ) ) ) )
  exact rf_oV hf f9
theorem g_X0_clear {L : eL} {h0 h : eH} {v0 : Nat} {r : eH} (f0 : rf h0 h) (hf : f_X0_clear L h v0 = some r) : rf h0 r := by
  unfold f_X0_clear at hf
  replace hf := (e_if hf).2
  exact rf_oV hf (rf_sI f0 )
theorem g_X1_clear {L : eL} {h0 h : eH} {v0 : Nat} {r : eH} (f0 : rf h0 h) (hf : f_X1_clear L h v0 = some r) : rf h0 r := by
  unfold f_X1_clear at hf
  replace hf := (e_if hf).2
  exact rf_oV hf (rf_sI f0 )
theorem g_X4_begin {L : eL} {h0 h : eH} {v0 : Nat} {r : eH} (f0 : rf h0 h) (hf : f_X4_begin L h v0 = some r) : rf h0 r := by
  unfold f_X4_begin at hf
  replace hf := (e_if hf).2
  exact rf_oV hf (rf_sI f0 )
theorem g_X4_add {L : eL} {h0 h : eH} {v0 : Nat} {v1 : Int32} {r : eH} (f0 : rf h0 h) (hf : f_X4_add L h v0 v1 = some r) : rf h0 r := by
  unfold f_X4_add at hf
  replace hf := (e_if hf).2
  rcases e_or hf with hf | hf
  · exact rf_oV hf f0
  · rcases e_or hf with hf | hf
    · exact rf_oV hf f0
    · obtain ⟨b1, hb2, hf⟩ := e_bd hf
      replace hf := (e_if hf).2
      obtain ⟨h4, hh5, hf⟩ := e_bd hf
      have f6 := rf_oV hh5 (rf_sI (rf_sI f0 ) )
      exact rf_oV hf f6
theorem g_X4_addNumber {L : eL} {h0 h : eH} {v0 : Nat} {v1 : Int32} {r : eH} (f0 : rf h0 h) (hf : f_X4_addNumber L h v0 v1 = some r) : rf h0 r := by
  unfold f_X4_addNumber at hf
  replace hf := (e_if hf).2
  obtain ⟨r1, hr2, hf⟩ := e_bd hf
  have f3 := g_X4_add  f0 hr2
  exact rf_oV hf f3
theorem g_X5_readNumber_L4 {L : eL} {h0 : eH} {r : eH} {k48 : eH → Nat → Int32 → Option eH} (hk48 : ∀ (h : eH) (v0 : Nat) (v1 : Int32), rf h0 h → k48 h v0 v1 = some r → rf h0 r) : ∀ (n : Nat) (h : eH) (v0 : Nat) (v1 : Int32) (v2 : Int32), rf h0 h → f_X5_readNumber_L4 L n k48 h v0 v1 v2 = some r → rf h0 r := by
  intro n
  induction n with
  | zero => intro h v0 v1 v2 f0 hf; exact absurd hf (by simp [f_X5_readNumber_L4])
  | succ n ih =>
    intro h v0 v1 v2 f0 hf
    unfold f_X5_readNumber_L4 at hf
    rcases e_or hf with hf | hf
    · exact hk48 _ _ _  f0 hf
    · replace hf := (e_if hf).2
      obtain ⟨r1, hr2, hf⟩ := e_bd hf
      rcases e_or hf with hf | hf
      · exact hk48 _ _ _  f0 hf
      · obtain ⟨r3, hr4, hf⟩ := e_bd hf
        exact ih _ _ _ _  (rf_sI f0 ) hf
theorem g_X5_readNumber {L : eL} {h0 h : eH} {v0 : Nat} {r : eH} (f0 : rf h0 h) (hf : f_X5_readNumber L h v0 = some r) : rf h0 r := by
  unfold f_X5_readNumber at hf
  refine g_X5_readNumber_L4 ?_ e_fu _ _ _ _  f0 hf
  · intro h5 w0_6 w1_7 f8 hf
    replace hf := (e_if hf).2
    obtain ⟨b9, hb10, hf⟩ := e_bd hf
    obtain ⟨b12, hb13, hf⟩ := e_bd hf
    replace hf := (e_if hf).2
    obtain ⟨r15, hr16, hf⟩ := e_bd hf
    have f17 := g_X4_addNumber  f8 hr16
    exact rf_oV hf f17
theorem g_X4_addSign {L : eL} {h0 h : eH} {v0 : Nat} {v1 : Int32} {r : eH} (f0 : rf h0 h) (hf : f_X4_addSign L h v0 v1 = some r) : rf h0 r := by
  unfold f_X4_addSign at hf
  replace hf := (e_if hf).2
  obtain ⟨r1, hr2, hf⟩ := e_bd hf
  have f3 := g_X4_add  f0 hr2
  exact rf_oV hf f3
theorem g_X5_emit {L : eL} {h0 h : eH} {v0 : Nat} {v1 : Int32} {r : eH} (f0 : rf h0 h) (hf : f_X5_emit L h v0 v1 = some r) : rf h0 r := by
  unfold f_X5_emit at hf
  replace hf := (e_if hf).2
  obtain ⟨b1, hb2, hf⟩ := e_bd hf
  obtain ⟨b4, hb5, hf⟩ := e_bd hf
  replace hf := (e_if hf).2
  obtain ⟨r7, hr8, hf⟩ := e_bd hf
  have f9 := g_X4_addSign  f0 hr8
  exact rf_oV hf f9
theorem g_X5_readThing_o {L : eL} {h0 h : eH} {rec_X5_readLevel : eH → Nat → Int32 → Int32 → Option (eH × Int32)} {v0 : Nat} {v1 : Int32} {r : eH × Int32} (grec_X5_readLevel : ∀ (h : eH) (a0 : Nat) (a1 : Int32) (a2 : Int32) {z : eH × Int32}, rf h0 h → rec_X5_readLevel h a0 a1 a2 = some z → rf h0 z.1) (f0 : rf h0 h) (hf : f_X5_readThing_o L rec_X5_readLevel h v0 v1 = some r) : rf h0 r.1 := by
  unfold f_X5_readThing_o at hf
  replace hf := (e_if hf).2
  obtain ⟨r1, hr2, hf⟩ := e_bd hf
  rcases e_or hf with hf | hf
  · rcases e_or hf with hf | hf
    · rcases e_or hf with hf | hf
      · rcases e_or hf with hf | hf
        · obtain ⟨r3, hr4, hf⟩ := e_bd hf
          have f5 := grec_X5_readLevel _ _ _ _  (rf_sI f0 ) hr4
          rcases e_or hf with hf | hf
          · exact rf_oW hf f5
          · obtain ⟨r6, hr7, hf⟩ := e_bd hf
            rcases e_or hf with hf | hf
            · exact rf_oW hf (rf_sI f5 )
            · exact rf_oW hf f5
        · exact rf_oW hf f0
      · exact rf_oW hf f0
    · obtain ⟨r8, hr9, hf⟩ := e_bd hf
      have f10 := g_X5_emit  (rf_sI f0 ) hr9
      exact rf_oW hf f10
  · obtain ⟨r11, hr12, hf⟩ := e_bd hf
    have f13 := g_X5_readNumber  f0 hr12
    exact rf_oW hf f13
theorem g_X5_readSigned_o_L2 {L : eL} {h0 : eH} {rec_X5_readThing : eH → Nat → Int32 → Option (eH × Int32)} {r : eH × Int32} {k33 : eH → Nat → Int32 → Int32 → Option (eH × Int32)} (grec_X5_readThing : ∀ (h : eH) (a0 : Nat) (a1 : Int32) {z : eH × Int32}, rf h0 h → rec_X5_readThing h a0 a1 = some z → rf h0 z.1) (hk33 : ∀ (h : eH) (v0 : Nat) (v1 : Int32) (v2 : Int32), rf h0 h → k33 h v0 v1 v2 = some r → rf h0 r.1) : ∀ (n : Nat) (h : eH) (v0 : Nat) (v1 : Int32) (v2 : Int32), rf h0 h → f_X5_readSigned_o_L2 L rec_X5_readThing n k33 h v0 v1 v2 = some r → rf h0 r.1 := by
  intro n
  induction n with
  | zero => intro h v0 v1 v2 f0 hf; exact absurd hf (by simp [f_X5_readSigned_o_L2])
  | succ n ih =>
    intro h v0 v1 v2 f0 hf
    unfold f_X5_readSigned_o_L2 at hf
    rcases e_or hf with hf | hf
    · exact hk33 _ _ _ _  f0 hf
    · replace hf := (e_if hf).2
      obtain ⟨r1, hr2, hf⟩ := e_bd hf
      rcases e_or hf with hf | hf
      · exact ih _ _ _ _  (rf_sI f0 ) hf
      · exact hk33 _ _ _ _  f0 hf
theorem g_X5_readSigned_o_L45 {L : eL} {h0 : eH} {rec_X5_readThing : eH → Nat → Int32 → Option (eH × Int32)} {r : eH × Int32} {k62 : eH → Option (eH × Int32)} (grec_X5_readThing : ∀ (h : eH) (a0 : Nat) (a1 : Int32) {z : eH × Int32}, rf h0 h → rec_X5_readThing h a0 a1 = some z → rf h0 z.1) (hk62 : ∀ (h : eH), rf h0 h → k62 h = some r → rf h0 r.1) : ∀ (n : Nat) (h : eH) (v0 : Nat) (v2 : Int32) (v3 : Int32), rf h0 h → f_X5_readSigned_o_L45 L rec_X5_readThing n k62 h v0 v2 v3 = some r → rf h0 r.1 := by
  intro n
  induction n with
  | zero => intro h v0 v2 v3 f0 hf; exact absurd hf (by simp [f_X5_readSigned_o_L45])
  | succ n ih =>
    intro h v0 v2 v3 f0 hf
    unfold f_X5_readSigned_o_L45 at hf
    rcases e_or hf with hf | hf
    · exact hk62 _ f0 hf
    · replace hf := (e_if hf).2
      obtain ⟨r11, hr12, hf⟩ := e_bd hf
      have f13 := g_X5_emit  f0 hr12
      exact ih _ _ _ _  f13 hf
theorem g_X5_readSigned_o {L : eL} {h0 h : eH} {rec_X5_readThing : eH → Nat → Int32 → Option (eH × Int32)} {v0 : Nat} {v1 : Int32} {r : eH × Int32} (grec_X5_readThing : ∀ (h : eH) (a0 : Nat) (a1 : Int32) {z : eH × Int32}, rf h0 h → rec_X5_readThing h a0 a1 = some z → rf h0 z.1) (f0 : rf h0 h) (hf : f_X5_readSigned_o L rec_X5_readThing h v0 v1 = some r) : rf h0 r.1 := by
  unfold f_X5_readSigned_o at hf
  refine g_X5_readSigned_o_L2 grec_X5_readThing ?_ e_fu _ _ _ _  f0 hf
  · intro h3 w0_4 w1_5 w2_6 f7 hf
    replace hf := (e_if hf).2
    obtain ⟨r8, hr9, hf⟩ := e_bd hf
    have f10 := grec_X5_readThing _ _ _  f7 hr9
    rcases e_or hf with hf | hf
    · exact rf_oW hf f10
    · refine g_X5_readSigned_o_L45 grec_X5_readThing ?_ e_fu _ _ _ _  f10 hf
      · intro h14 f15 hf
        exact rf_oW hf f15
theorem g_X5_readLevel_o_L42 {L : eL} {h0 : eH} {rec_X5_readSigned : eH → Nat → Int32 → Option (eH × Int32)} {rec_X5_readLevel : eH → Nat → Int32 → Int32 → Option (eH × Int32)} {r : eH × Int32} {k86 : eH → Option (eH × Int32)} {k100 : eH → Option (eH × Int32)} (grec_X5_readSigned : ∀ (h : eH) (a0 : Nat) (a1 : Int32) {z : eH × Int32}, rf h0 h → rec_X5_readSigned h a0 a1 = some z → rf h0 z.1) (grec_X5_readLevel : ∀ (h : eH) (a0 : Nat) (a1 : Int32) (a2 : Int32) {z : eH × Int32}, rf h0 h → rec_X5_readLevel h a0 a1 a2 = some z → rf h0 z.1) (hk86 : ∀ (h : eH), rf h0 h → k86 h = some r → rf h0 r.1) (hk100 : ∀ (h : eH), rf h0 h → k100 h = some r → rf h0 r.1) : ∀ (n : Nat) (h : eH) (v0 : Nat) (v1 : Int32) (v2 : Int32) (v3 : Int32) (v4 : Int32), rf h0 h → f_X5_readLevel_o_L42 L rec_X5_readSigned rec_X5_readLevel n k86 k100 h v0 v1 v2 v3 v4 = some r → rf h0 r.1 := by
  intro n
  induction n with
  | zero => intro h v0 v1 v2 v3 v4 f0 hf; exact absurd hf (by simp [f_X5_readLevel_o_L42])
  | succ n ih =>
    intro h v0 v1 v2 v3 v4 f0 hf
    unfold f_X5_readLevel_o_L42 at hf
    rcases e_or hf with hf | hf
    · exact hk100 _ f0 hf
    · replace hf := (e_if hf).2
      obtain ⟨r4, hr5, hf⟩ := e_bd hf
      rcases e_or hf with hf | hf
      · obtain ⟨r6, hr7, hf⟩ := e_bd hf
        obtain ⟨r8, hr9, hf⟩ := e_bd hf
        have f10 := grec_X5_readLevel _ _ _ _  (rf_sI f0 ) hr9
        rcases e_or hf with hf | hf
        · exact hk86 _ f10 hf
        · obtain ⟨r11, hr12, hf⟩ := e_bd hf
          have f13 := g_X5_emit  f10 hr12
          exact ih _ _ _ _ _ _  f13 hf
      · exact hk100 _ f0 hf
theorem g_X5_readLevel_o {L : eL} {h0 h : eH} {rec_X5_readSigned : eH → Nat → Int32 → Option (eH × Int32)} {rec_X5_readLevel : eH → Nat → Int32 → Int32 → Option (eH × Int32)} {v0 : Nat} {v1 : Int32} {v2 : Int32} {r : eH × Int32} (grec_X5_readSigned : ∀ (h : eH) (a0 : Nat) (a1 : Int32) {z : eH × Int32}, rf h0 h → rec_X5_readSigned h a0 a1 = some z → rf h0 z.1) (grec_X5_readLevel : ∀ (h : eH) (a0 : Nat) (a1 : Int32) (a2 : Int32) {z : eH × Int32}, rf h0 h → rec_X5_readLevel h a0 a1 a2 = some z → rf h0 z.1) (f0 : rf h0 h) (hf : f_X5_readLevel_o L rec_X5_readSigned rec_X5_readLevel h v0 v1 v2 = some r) : rf h0 r.1 := by
  unfold f_X5_readLevel_o at hf
  rcases e_or hf with hf | hf
  · rcases e_or hf with hf | hf
    · exact rf_oW hf f0
    · replace hf := (e_if hf).2
      obtain ⟨r1, hr2, hf⟩ := e_bd hf
      have f3 := grec_X5_readLevel _ _ _ _  f0 hr2
      rcases e_or hf with hf | hf
      · exact rf_oW hf f3
      · rcases e_or hf with hf | hf
        · refine g_X5_readLevel_o_L42 grec_X5_readSigned grec_X5_readLevel ?_ ?_ e_fu _ _ _ _ _ _  f3 hf
          · intro h18 f19 hf
            exact rf_oW hf f19
          · intro h20 f21 hf
            exact rf_oW hf f21
        · refine g_X5_readLevel_o_L42 grec_X5_readSigned grec_X5_readLevel ?_ ?_ e_fu _ _ _ _ _ _  f3 hf
          · intro h14 f15 hf
            exact rf_oW hf f15
          · intro h16 f17 hf
            exact rf_oW hf f17
  · replace hf := (e_if hf).2
    obtain ⟨r22, hr23, hf⟩ := e_bd hf
    have f24 := grec_X5_readSigned _ _ _  f0 hr23
    replace hf := (e_if hf).2
    exact rf_oW hf f24
theorem gg_X5_readLevel {L : eL} {h0 : eH} : ∀ (n t : Nat) (h : eH) (x0 : Nat) (x1 : Int32) (x2 : Int32) (r : eH × Int32), rf h0 h → fg_X5_readLevel L n t h x0 x1 x2 = some r → rf h0 r.1 := by
  intro n
  induction n with
  | zero => intro t h x0 x1 x2 r f0 hf; exact absurd hf (by simp [fg_X5_readLevel])
  | succ n ih =>
    intro t h x0 x1 x2 r f0 hf
    unfold fg_X5_readLevel at hf
    rcases e_or hf with hf | hf
    · exact g_X5_readLevel_o (fun hh a0 a1 {z} ff hz => ih _ _ _ _ _ z ff hz) (fun hh a0 a1 a2 {z} ff hz => ih _ _ _ _ _ z ff hz) f0 hf
    rcases e_or hf with hf | hf
    · exact g_X5_readSigned_o (fun hh a0 a1 {z} ff hz => ih _ _ _ _ _ z ff hz) f0 hf
    · exact g_X5_readThing_o (fun hh a0 a1 a2 {z} ff hz => ih _ _ _ _ _ z ff hz) f0 hf
theorem g_X5_readLevel {L : eL} {h0 h : eH} {x0 : Nat} {x1 : Int32} {x2 : Int32} {r : eH × Int32} (f0 : rf h0 h) (hf : f_X5_readLevel L h x0 x1 x2 = some r) : rf h0 r.1 := gg_X5_readLevel 100 0 h x0 x1 x2 r f0 hf
theorem g_X5_readSigned {L : eL} {h0 h : eH} {x0 : Nat} {x1 : Int32} {r : eH × Int32} (f0 : rf h0 h) (hf : f_X5_readSigned L h x0 x1 = some r) : rf h0 r.1 := gg_X5_readLevel 100 1 h x0 x1 0 r f0 hf
theorem g_X5_readThing {L : eL} {h0 h : eH} {x0 : Nat} {x1 : Int32} {r : eH × Int32} (f0 : rf h0 h) (hf : f_X5_readThing L h x0 x1 = some r) : rf h0 r.1 := gg_X5_readLevel 100 2 h x0 x1 0 r f0 hf
theorem g_X6_putDust {L : eL} {h0 h : eH} {v0 : Nat} {v1 : Int32} {v2 : Int32} {r : eH} (f0 : rf h0 h) (hf : f_X6_putDust L h v0 v1 v2 = some r) : rf h0 r := by
  unfold f_X6_putDust at hf
  rcases e_or hf with hf | hf
  · exact rf_oV hf f0
  · rcases e_or hf with hf | hf
    · exact rf_oV hf f0
    · replace hf := (e_if hf).2
      obtain ⟨b1, hb2, hf⟩ := e_bd hf
      replace hf := (e_if hf).2
      exact rf_oV hf (rf_sI f0 )
theorem g_X10_sheet_J75 {L : eL} {h0 : eH} {r : eH × Int32} {k42 : eH → Nat → Int32 → Int32 → Int32 → Int32 → Int32 → Option (eH × Int32)} {k112 : eH → Nat → Option (eH × Int32)} (hk42 : ∀ (h : eH) (v0 : Nat) (v1 : Int32) (v2 : Int32) (v3 : Int32) (v4 : Int32) (v5 : Int32), rf h0 h → k42 h v0 v1 v2 v3 v4 v5 = some r → rf h0 r.1) (hk112 : ∀ (h : eH) (v0 : Nat), rf h0 h → k112 h v0 = some r → rf h0 r.1) : ∀ (h : eH) (v0 : Nat) (v1 : Int32) (v2 : Int32) (v3 : Int32) (v4 : Int32) (v5 : Int32) (s0 : Int32), rf h0 h → f_X10_sheet_J75 L k42 k112 h v0 v1 v2 v3 v4 v5 s0 = some r → rf h0 r.1 := by
  intro h v0 v1 v2 v3 v4 v5 s0 f0 hf
  unfold f_X10_sheet_J75 at hf
  replace hf := (e_if hf).2
  obtain ⟨b1, hb2, hf⟩ := e_bd hf
  rcases e_or hf with hf | hf
  · replace hf := (e_if hf).2
    obtain ⟨r4, hr5, hf⟩ := e_bd hf
    have f6 := g_X6_putDust  f0 hr5
    exact hk42 _ _ _ _ _ _ _  f6 hf
  · replace hf := (e_if hf).2
    obtain ⟨r7, hr8, hf⟩ := e_bd hf
    have f9 := g_X6_putDust  f0 hr8
    exact hk42 _ _ _ _ _ _ _  f9 hf
theorem g_X10_sheet_L42 {L : eL} {h0 : eH} {r : eH × Int32} {k112 : eH → Nat → Option (eH × Int32)} (hk112 : ∀ (h : eH) (v0 : Nat), rf h0 h → k112 h v0 = some r → rf h0 r.1) : ∀ (n : Nat) (h : eH) (v0 : Nat) (v1 : Int32) (v2 : Int32) (v3 : Int32) (v4 : Int32) (v5 : Int32), rf h0 h → f_X10_sheet_L42 L n k112 h v0 v1 v2 v3 v4 v5 = some r → rf h0 r.1 := by
  intro n
  induction n with
  | zero => intro h v0 v1 v2 v3 v4 v5 f0 hf; exact absurd hf (by simp [f_X10_sheet_L42])
  | succ n ih =>
    intro h v0 v1 v2 v3 v4 v5 f0 hf
    unfold f_X10_sheet_L42 at hf
    rcases e_or hf with hf | hf
    · exact hk112 _ _  f0 hf
    · rcases e_or hf with hf | hf
      · exact g_X10_sheet_J75 ih hk112 _ _ _ _ _ _ _ _  f0 hf
      · replace hf := (e_if hf).2
        obtain ⟨b10, hb11, hf⟩ := e_bd hf
        replace hf := (e_if hf).2
        rcases e_or hf with hf | hf
        · exact g_X10_sheet_J75 ih hk112 _ _ _ _ _ _ _ _  f0 hf
        · exact g_X10_sheet_J75 ih hk112 _ _ _ _ _ _ _ _  f0 hf
theorem g_X10_sheet {L : eL} {h0 h : eH} {v0 : Nat} {v1 : Int32} {v2 : Int32} {v3 : Int32} {v4 : Int32} {r : eH × Int32} (f0 : rf h0 h) (hf : f_X10_sheet L h v0 v1 v2 v3 v4 = some r) : rf h0 r.1 := by
  unfold f_X10_sheet at hf
  rcases e_or hf with hf | hf
  · exact rf_oW hf f0
  · rcases e_or hf with hf | hf
    · exact rf_oW hf f0
    · rcases e_or hf with hf | hf
      · rcases e_or hf with hf | hf
        · replace hf := (e_if hf).2
          obtain ⟨b21, hb22, hf⟩ := e_bd hf
          replace hf := (e_if hf).2
          obtain ⟨r24, hr25, hf⟩ := e_bd hf
          have f26 := g_X6_clearDust  f0 hr25
          exact rf_oW hf f26
        · rcases e_or hf with hf | hf
          · refine g_X10_sheet_L42 ?_ e_fu _ _ _ _ _ _ _  f0 hf
            · intro h13 w0_14 f15 hf
              replace hf := (e_if hf).2
              obtain ⟨b16, hb17, hf⟩ := e_bd hf
              replace hf := (e_if hf).2
              obtain ⟨r19, hr20, hf⟩ := e_bd hf
              exact rf_oW hf f15
          · exact rf_oW hf f0
      · exact rf_oW hf f0
theorem g_X6_copyFrom {L : eL} {h0 h : eH} {v0 : Nat} {v1 : Nat} {r : eH} (f0 : rf h0 h) (hf : f_X6_copyFrom L h v0 v1 = some r) : rf h0 r := by
  unfold f_X6_copyFrom at hf
  replace hf := (e_if hf).2
  obtain ⟨b1, hb2, hf⟩ := e_bd hf
  replace hf := (e_if hf).2
  obtain ⟨b4, hb5, hf⟩ := e_bd hf
  replace hf := (e_if hf).2
  obtain ⟨h7, hh8, hf⟩ := e_bd hf
  have f9 := rf_oV hh8 (rf_sI (rf_cpI f0 ) )
  obtain ⟨h10, hh11, hf⟩ := e_bd hf
  have f12 := rf_oV hh11 (rf_sI (rf_sI f9 ) )
  obtain ⟨h13, hh14, hf⟩ := e_bd hf
  have f15 := rf_oV hh14 (rf_sI (rf_sI f12 ) )
  obtain ⟨h16, hh17, hf⟩ := e_bd hf
  have f18 := rf_oV hh17 (rf_sI (rf_sI f15 ) )
  exact rf_oV hf (rf_sL f18 )
theorem g_X6_enter {L : eL} {h0 h : eH} {v0 : Nat} {v1 : Int32} {r : eH} (f0 : rf h0 h) (hf : f_X6_enter L h v0 v1 = some r) : rf h0 r := by
  unfold f_X6_enter at hf
  replace hf := (e_if hf).2
  obtain ⟨r1, hr2, hf⟩ := e_bd hf
  obtain ⟨h3, hh4, hf⟩ := e_bd hf
  have f5 := rf_oV hh4 (rf_sI (rf_sI f0 ) )
  obtain ⟨r6, hr7, hf⟩ := e_bd hf
  have f8 := g_X6_putDust  f5 hr7
  exact rf_oV hf f8
theorem g_X4_turnOf_J44 {L : eL} {h0 : eH} {r : eH × Int32} {k5 : eH → Nat → Nat → Nat → Int32 → Int32 → Option (eH × Int32)} {k155 : eH → Nat → Option (eH × Int32)} (hk5 : ∀ (h : eH) (v0 : Nat) (v1 : Nat) (v2 : Nat) (v3 : Int32) (v4 : Int32), rf h0 h → k5 h v0 v1 v2 v3 v4 = some r → rf h0 r.1) (hk155 : ∀ (h : eH) (v0 : Nat), rf h0 h → k155 h v0 = some r → rf h0 r.1) : ∀ (h : eH) (v0 : Nat) (v1 : Nat) (v2 : Nat) (v3 : Int32) (v4 : Int32) (v5 : Int32), rf h0 h → f_X4_turnOf_J44 L k5 k155 h v0 v1 v2 v3 v4 v5 = some r → rf h0 r.1 := by
  intro h v0 v1 v2 v3 v4 v5 f0 hf
  unfold f_X4_turnOf_J44 at hf
  rcases e_or hf with hf | hf
  · exact hk5 _ _ _ _ _ _    f0 hf
  · replace hf := (e_if hf).2
    obtain ⟨b4, hb5, hf⟩ := e_bd hf
    rcases e_or hf with hf | hf
    · obtain ⟨r7, hr8, hf⟩ := e_bd hf
      replace hf := (e_if hf).2
      exact hk5 _ _ _ _ _ _    (rf_sI f0 ) hf
    · replace hf := (e_if hf).2
      exact hk5 _ _ _ _ _ _    (rf_sI f0 ) hf
theorem g_X4_turnOf_L5 {L : eL} {h0 : eH} {r : eH × Int32} {k155 : eH → Nat → Option (eH × Int32)} (hk155 : ∀ (h : eH) (v0 : Nat), rf h0 h → k155 h v0 = some r → rf h0 r.1) : ∀ (n : Nat) (h : eH) (v0 : Nat) (v1 : Nat) (v2 : Nat) (v3 : Int32) (v4 : Int32), rf h0 h → f_X4_turnOf_L5 L n k155 h v0 v1 v2 v3 v4 = some r → rf h0 r.1 := by
  intro n
  induction n with
  | zero => intro h v0 v1 v2 v3 v4 f0 hf; exact absurd hf (by simp [f_X4_turnOf_L5])
  | succ n ih =>
    intro h v0 v1 v2 v3 v4 f0 hf
    unfold f_X4_turnOf_L5 at hf
    replace hf := (e_if hf).2
    rcases e_or hf with hf | hf
    · exact hk155 _ _  f0 hf
    · rcases e_or hf with hf | hf
      · exact hk155 _ _  f0 hf
      · obtain ⟨b1, hb2, hf⟩ := e_bd hf
        replace hf := (e_if hf).2
        rcases e_or hf with hf | hf
        · exact g_X4_turnOf_J44 ih hk155 _ _ _ _ _ _ _    f0 hf
        · rcases e_or hf with hf | hf
          · rcases e_or hf with hf | hf
            · rcases e_or hf with hf | hf
              · exact ih _ _ _ _ _ _    f0 hf
              · obtain ⟨b23, hb24, hf⟩ := e_bd hf
                obtain ⟨b26, hb27, hf⟩ := e_bd hf
                replace hf := (e_if hf).2
                replace hf := (e_if hf).2
                obtain ⟨h29, hh30, hf⟩ := e_bd hf
                have f31 := rf_oV hh30 (rf_sI f0 )
                exact ih _ _ _ _ _ _    f31 hf
            · rcases e_or hf with hf | hf
              · exact ih _ _ _ _ _ _    f0 hf
              · obtain ⟨b9, hb10, hf⟩ := e_bd hf
                obtain ⟨b12, hb13, hf⟩ := e_bd hf
                replace hf := (e_if hf).2
                obtain ⟨b15, hb16, hf⟩ := e_bd hf
                replace hf := (e_if hf).2
                obtain ⟨r18, hr19, hf⟩ := e_bd hf
                replace hf := (e_if hf).2
                obtain ⟨h20, hh21, hf⟩ := e_bd hf
                have f22 := rf_oV hh21 (rf_sI f0 )
                exact ih _ _ _ _ _ _    f22 hf
          · exact g_X4_turnOf_J44 ih hk155 _ _ _ _ _ _ _    f0 hf
theorem g_X4_turnOf_J174 {L : eL} {h0 : eH} {r : eH × Int32}  : ∀ (h : eH) (s0 : Int32), rf h0 h → f_X4_turnOf_J174 L h s0 = some r → rf h0 r.1 := by
  intro h s0 f0 hf
  unfold f_X4_turnOf_J174 at hf
  rcases e_or hf with hf | hf
  · exact rf_oW hf f0
  · exact rf_oW hf f0
theorem g_X4_turnOf_J155 {L : eL} {h0 : eH} {r : eH × Int32}  : ∀ (h : eH) (v0 : Nat), rf h0 h → f_X4_turnOf_J155 L h v0 = some r → rf h0 r.1 := by
  intro h v0 f0 hf
  unfold f_X4_turnOf_J155 at hf
  replace hf := (e_if hf).2
  rcases e_or hf with hf | hf
  · exact g_X4_turnOf_J174 _ _ f0 hf
  · obtain ⟨b35, hb36, hf⟩ := e_bd hf
    replace hf := (e_if hf).2
    exact g_X4_turnOf_J174 _ _ f0 hf
theorem g_X4_turnOf {L : eL} {h0 h : eH} {v0 : Nat} {v1 : Nat} {v2 : Nat} {r : eH × Int32} (f0 : rf h0 h) (hf : f_X4_turnOf L h v0 v1 v2 = some r) : rf h0 r.1 := by
  unfold f_X4_turnOf at hf
  refine g_X4_turnOf_L5 ?_ e_fu _ _ _ _ _ _    f0 hf
  · intro h32 w0_33 f34 hf
    exact g_X4_turnOf_J155 _ _  f34 hf
theorem g_X6_turnBy {L : eL} {h0 h : eH} {v0 : Nat} {v1 : Int32} {r : eH} (f0 : rf h0 h) (hf : f_X6_turnBy L h v0 v1 = some r) : rf h0 r := by
  unfold f_X6_turnBy at hf
  replace hf := (e_if hf).2
  exact rf_oV hf (rf_sI f0 )
theorem g_X6_strike {L : eL} {h0 h : eH} {v0 : Nat} {v1 : Int32} {r : eH} (f0 : rf h0 h) (hf : f_X6_strike L h v0 v1 = some r) : rf h0 r := by
  unfold f_X6_strike at hf
  replace hf := (e_if hf).2
  obtain ⟨r1, hr2, hf⟩ := e_bd hf
  have f3 := g_X6_turnBy  f0 hr2
  exact rf_oV hf (rf_sI f3 )
theorem g_X10_goOn_J19 {L : eL} {h0 : eH} {r : eH × Int32}  : ∀ (h : eH) (v0 : Nat) (v1 : Nat) (v3 : Int32) (s0 : Int32), rf h0 h → f_X10_goOn_J19 L h v0 v1 v3 s0 = some r → rf h0 r.1 := by
  intro h v0 v1 v3 s0 f0 hf
  unfold f_X10_goOn_J19 at hf
  replace hf := (e_if hf).2
  rcases e_or hf with hf | hf
  · obtain ⟨h1, hh2, hf⟩ := e_bd hf
    have f3 := rf_oV hh2 (rf_sI (rf_sI f0 ) )
    replace hf := (e_if hf).2
    obtain ⟨b4, hb5, hf⟩ := e_bd hf
    replace hf := (e_if hf).2
    obtain ⟨r7, hr8, hf⟩ := e_bd hf
    obtain ⟨b9, hb10, hf⟩ := e_bd hf
    replace hf := (e_if hf).2
    rcases e_or hf with hf | hf
    · rcases e_or hf with hf | hf
      · obtain ⟨b15, hb16, hf⟩ := e_bd hf
        obtain ⟨b18, hb19, hf⟩ := e_bd hf
        replace hf := (e_if hf).2
        obtain ⟨r21, hr22, hf⟩ := e_bd hf
        have f23 := g_X4_turnOf    f3 hr22
        obtain ⟨r24, hr25, hf⟩ := e_bd hf
        have f26 := g_X6_strike  f23 hr25
        exact rf_oW hf f26
      · obtain ⟨r12, hr13, hf⟩ := e_bd hf
        have f14 := g_X6_strike  f3 hr13
        exact rf_oW hf f14
    · obtain ⟨r27, hr28, hf⟩ := e_bd hf
      have f29 := g_X6_enter  f3 hr28
      exact rf_oW hf f29
  · exact rf_oW hf f0
theorem g_X10_goOn {L : eL} {h0 h : eH} {v0 : Nat} {v1 : Nat} {v2 : Int32} {v3 : Int32} {r : eH × Int32} (f0 : rf h0 h) (hf : f_X10_goOn L h v0 v1 v2 v3 = some r) : rf h0 r.1 := by
  unfold f_X10_goOn at hf
  rcases e_or hf with hf | hf
  · exact g_X10_goOn_J19 _ _ _ _ _   f0 hf
  · replace hf := (e_if hf).2
    obtain ⟨b30, hb31, hf⟩ := e_bd hf
    replace hf := (e_if hf).2
    replace hf := (e_if hf).2
    obtain ⟨r33, hr34, hf⟩ := e_bd hf
    exact g_X10_goOn_J19 _ _ _ _ _   f0 hf
theorem g_X3_begin {L : eL} {h0 h : eH} {v0 : Nat} {r : eH} (f0 : rf h0 h) (hf : f_X3_begin L h v0 = some r) : rf h0 r := by
  unfold f_X3_begin at hf
  replace hf := (e_if hf).2
  exact rf_oV hf (rf_sI f0 )
theorem g_X3_add {L : eL} {h0 h : eH} {v0 : Nat} {v1 : Int64} {r : eH} (f0 : rf h0 h) (hf : f_X3_add L h v0 v1 = some r) : rf h0 r := by
  unfold f_X3_add at hf
  replace hf := (e_if hf).2
  rcases e_or hf with hf | hf
  · exact rf_oV hf f0
  · rcases e_or hf with hf | hf
    · exact rf_oV hf f0
    · obtain ⟨b1, hb2, hf⟩ := e_bd hf
      replace hf := (e_if hf).2
      obtain ⟨h4, hh5, hf⟩ := e_bd hf
      have f6 := rf_oV hh5 (rf_sI (rf_sL f0 ) )
      exact rf_oV hf f6
theorem g_X10_takeSteps_L35 {L : eL} {h0 : eH} {r : eH × Int32} {k63 : eH → Nat → Int32 → Int32 → Int32 → Option (eH × Int32)} (hk63 : ∀ (h : eH) (v0 : Nat) (v2 : Int32) (v3 : Int32) (v4 : Int32), rf h0 h → k63 h v0 v2 v3 v4 = some r → rf h0 r.1) : ∀ (n : Nat) (h : eH) (v0 : Nat) (v1 : Int32) (v2 : Int32) (v3 : Int32) (v4 : Int32) (v5 : Int32), rf h0 h → f_X10_takeSteps_L35 L n k63 h v0 v1 v2 v3 v4 v5 = some r → rf h0 r.1 := by
  intro n
  induction n with
  | zero => intro h v0 v1 v2 v3 v4 v5 f0 hf; exact absurd hf (by simp [f_X10_takeSteps_L35])
  | succ n ih =>
    intro h v0 v1 v2 v3 v4 v5 f0 hf
    unfold f_X10_takeSteps_L35 at hf
    rcases e_or hf with hf | hf
    · exact hk63 _ _ _ _ _  f0 hf
    · replace hf := (e_if hf).2
      obtain ⟨b7, hb8, hf⟩ := e_bd hf
      obtain ⟨r10, hr11, hf⟩ := e_bd hf
      have f12 := g_X10_goOn   f0 hr11
      rcases e_or hf with hf | hf
      · exact hk63 _ _ _ _ _  f12 hf
      · exact ih _ _ _ _ _ _ _  f12 hf
theorem g_X10_takeSteps_J63 {L : eL} {h0 : eH} {r : eH × Int32}  : ∀ (h : eH) (v0 : Nat) (v2 : Int32) (v3 : Int32) (v4 : Int32), rf h0 h → f_X10_takeSteps_J63 L h v0 v2 v3 v4 = some r → rf h0 r.1 := by
  intro h v0 v2 v3 v4 f0 hf
  unfold f_X10_takeSteps_J63 at hf
  replace hf := (e_if hf).2
  obtain ⟨b19, hb20, hf⟩ := e_bd hf
  replace hf := (e_if hf).2
  obtain ⟨r22, hr23, hf⟩ := e_bd hf
  have f24 := g_X3_begin  f0 hr23
  obtain ⟨b25, hb26, hf⟩ := e_bd hf
  obtain ⟨b28, hb29, hf⟩ := e_bd hf
  replace hf := (e_if hf).2
  replace hf := (e_if hf).2
  obtain ⟨r31, hr32, hf⟩ := e_bd hf
  have f33 := g_X3_add  f24 hr32
  obtain ⟨b34, hb35, hf⟩ := e_bd hf
  obtain ⟨b37, hb38, hf⟩ := e_bd hf
  replace hf := (e_if hf).2
  replace hf := (e_if hf).2
  obtain ⟨r40, hr41, hf⟩ := e_bd hf
  have f42 := g_X3_add  f33 hr41
  exact rf_oW hf f42
theorem g_X10_takeSteps {L : eL} {h0 h : eH} {v0 : Nat} {v1 : Int32} {r : eH × Int32} (f0 : rf h0 h) (hf : f_X10_takeSteps L h v0 v1 = some r) : rf h0 r.1 := by
  unfold f_X10_takeSteps at hf
  rcases e_or hf with hf | hf
  · exact rf_oW hf f0
  · rcases e_or hf with hf | hf
    · replace hf := (e_if hf).2
      obtain ⟨b1, hb2, hf⟩ := e_bd hf
      replace hf := (e_if hf).2
      obtain ⟨b4, hb5, hf⟩ := e_bd hf
      replace hf := (e_if hf).2
      refine g_X10_takeSteps_L35 ?_ e_fu _ _ _ _ _ _ _  f0 hf
      · intro h13 w0_14 w2_15 w3_16 w4_17 f18 hf
        exact g_X10_takeSteps_J63 _ _ _ _ _  f18 hf
    · exact rf_oW hf f0
theorem g_X1_push_J64 {L : eL} {h0 : eH} {r : eH}  : ∀ (h : eH) (v0 : Nat) (s0 : Nat) (s1 : Int32), rf h0 h → f_X1_push_J64 L h v0 s0 s1 = some r → rf h0 r := by
  intro h v0 s0 s1 f0 hf
  unfold f_X1_push_J64 at hf
  replace hf := (e_if hf).2
  replace hf := (e_if hf).2
  obtain ⟨h16, hh17, hf⟩ := e_bd hf
  have f18 := rf_oV hh17 (rf_sI (rf_sI f0 ) )
  exact rf_oV hf f18
theorem g_X1_push {L : eL} {h0 h : eH} {v0 : Nat} {v1 : Nat} {r : eH} (f0 : rf h0 h) (hf : f_X1_push L h v0 v1 = some r) : rf h0 r := by
  unfold f_X1_push at hf
  replace hf := (e_if hf).2
  rcases e_or hf with hf | hf
  · exact rf_oV hf f0
  · rcases e_or hf with hf | hf
    · exact rf_oV hf f0
    · obtain ⟨b1, hb2, hf⟩ := e_bd hf
      replace hf := (e_if hf).2
      obtain ⟨b4, hb5, hf⟩ := e_bd hf
      obtain ⟨b7, hb8, hf⟩ := e_bd hf
      replace hf := (e_if hf).2
      obtain ⟨b10, hb11, hf⟩ := e_bd hf
      replace hf := (e_if hf).2
      obtain ⟨r13, hr14, hf⟩ := e_bd hf
      have f15 := g_X6_copyFrom   f0 hr14
      rcases e_or hf with hf | hf
      · exact g_X1_push_J64 _ _ _ _   f15 hf
      · exact g_X1_push_J64 _ _ _ _   f15 hf
theorem g_X10_remembered {L : eL} {h0 h : eH} {v0 : Nat} {v1 : Int32} {r : eH × Int32} (f0 : rf h0 h) (hf : f_X10_remembered L h v0 v1 = some r) : rf h0 r.1 := by
  unfold f_X10_remembered at hf
  rcases e_or hf with hf | hf
  · exact rf_oW hf f0
  · replace hf := (e_if hf).2
    obtain ⟨b1, hb2, hf⟩ := e_bd hf
    obtain ⟨b4, hb5, hf⟩ := e_bd hf
    replace hf := (e_if hf).2
    obtain ⟨r7, hr8, hf⟩ := e_bd hf
    have f9 := g_X1_push   f0 hr8
    exact rf_oW hf f9
theorem g_X10_steps {L : eL} {h0 h : eH} {v0 : Nat} {v1 : Int32} {r : eH × Int32} (f0 : rf h0 h) (hf : f_X10_steps L h v0 v1 = some r) : rf h0 r.1 := by
  unfold f_X10_steps at hf
  replace hf := (e_if hf).2
  obtain ⟨b1, hb2, hf⟩ := e_bd hf
  obtain ⟨b4, hb5, hf⟩ := e_bd hf
  replace hf := (e_if hf).2
  obtain ⟨r7, hr8, hf⟩ := e_bd hf
  have f9 := g_X6_copyFrom   f0 hr8
  obtain ⟨r10, hr11, hf⟩ := e_bd hf
  have f12 := g_X10_takeSteps  f9 hr11
  obtain ⟨r13, hr14, hf⟩ := e_bd hf
  have f15 := g_X10_remembered  f12 hr14
  exact rf_oW hf f15
theorem g_X10_turnRight {L : eL} {h0 h : eH} {v0 : Nat} {v1 : Int32} {r : eH × Int32} (f0 : rf h0 h) (hf : f_X10_turnRight L h v0 v1 = some r) : rf h0 r.1 := by
  unfold f_X10_turnRight at hf
  rcases e_or hf with hf | hf
  · exact rf_oW hf f0
  · rcases e_or hf with hf | hf
    · replace hf := (e_if hf).2
      obtain ⟨b1, hb2, hf⟩ := e_bd hf
      replace hf := (e_if hf).2
      obtain ⟨r4, hr5, hf⟩ := e_bd hf
      have f6 := g_X6_turnBy  f0 hr5
      obtain ⟨b7, hb8, hf⟩ := e_bd hf
      replace hf := (e_if hf).2
      exact rf_oW hf f6
    · exact rf_oW hf f0
theorem g_X10_turn {L : eL} {h0 h : eH} {v0 : Nat} {v1 : Int32} {r : eH × Int32} (f0 : rf h0 h) (hf : f_X10_turn L h v0 v1 = some r) : rf h0 r.1 := by
  unfold f_X10_turn at hf
  replace hf := (e_if hf).2
  obtain ⟨b1, hb2, hf⟩ := e_bd hf
  obtain ⟨b4, hb5, hf⟩ := e_bd hf
  replace hf := (e_if hf).2
  obtain ⟨r7, hr8, hf⟩ := e_bd hf
  have f9 := g_X6_copyFrom   f0 hr8
  obtain ⟨r10, hr11, hf⟩ := e_bd hf
  have f12 := g_X10_turnRight  f9 hr11
  obtain ⟨r13, hr14, hf⟩ := e_bd hf
  have f15 := g_X10_remembered  f12 hr14
  exact rf_oW hf f15
theorem g_X6_dayFalls_L12 {L : eL} {h0 : eH} {r : eH} {k63 : eH → Option eH} (hk63 : ∀ (h : eH), rf h0 h → k63 h = some r → rf h0 r) : ∀ (n : Nat) (h : eH) (v0 : Nat) (v1 : Nat) (v2 : Int32), rf h0 h → f_X6_dayFalls_L12 L n k63 h v0 v1 v2 = some r → rf h0 r := by
  intro n
  induction n with
  | zero => intro h v0 v1 v2 f0 hf; exact absurd hf (by simp [f_X6_dayFalls_L12])
  | succ n ih =>
    intro h v0 v1 v2 f0 hf
    unfold f_X6_dayFalls_L12 at hf
    rcases e_or hf with hf | hf
    · exact hk63 _ f0 hf
    · replace hf := (e_if hf).2
      rcases e_or hf with hf | hf
      · exact ih _ _ _ _   f0 hf
      · replace hf := (e_if hf).2
        obtain ⟨b1, hb2, hf⟩ := e_bd hf
        replace hf := (e_if hf).2
        rcases e_or hf with hf | hf
        · obtain ⟨r4, hr5, hf⟩ := e_bd hf
          have f6 := g_X6_putDust  f0 hr5
          exact ih _ _ _ _   f6 hf
        · obtain ⟨r7, hr8, hf⟩ := e_bd hf
          have f9 := g_X6_putDust  f0 hr8
          exact ih _ _ _ _   f9 hf
theorem g_X6_dayFalls {L : eL} {h0 h : eH} {v0 : Nat} {v1 : Nat} {r : eH} (f0 : rf h0 h) (hf : f_X6_dayFalls L h v0 v1 = some r) : rf h0 r := by
  unfold f_X6_dayFalls at hf
  replace hf := (e_if hf).2
  refine g_X6_dayFalls_L12 ?_ e_fu _ _ _ _   (rf_sI f0 ) hf
  · intro h10 f11 hf
    exact rf_oV hf f11
theorem g_X10_passDays_L15 {L : eL} {h0 : eH} {r : eH × Int32} {k37 : eH → Nat → Option (eH × Int32)} (hk37 : ∀ (h : eH) (v0 : Nat), rf h0 h → k37 h v0 = some r → rf h0 r.1) : ∀ (n : Nat) (h : eH) (v0 : Nat) (v1 : Int32) (v2 : Int32), rf h0 h → f_X10_passDays_L15 L n k37 h v0 v1 v2 = some r → rf h0 r.1 := by
  intro n
  induction n with
  | zero => intro h v0 v1 v2 f0 hf; exact absurd hf (by simp [f_X10_passDays_L15])
  | succ n ih =>
    intro h v0 v1 v2 f0 hf
    unfold f_X10_passDays_L15 at hf
    rcases e_or hf with hf | hf
    · exact hk37 _ _  f0 hf
    · replace hf := (e_if hf).2
      obtain ⟨b1, hb2, hf⟩ := e_bd hf
      obtain ⟨b4, hb5, hf⟩ := e_bd hf
      replace hf := (e_if hf).2
      obtain ⟨r7, hr8, hf⟩ := e_bd hf
      have f9 := g_X6_dayFalls   f0 hr8
      exact ih _ _ _ _  f9 hf
theorem g_X10_passDays {L : eL} {h0 h : eH} {v0 : Nat} {v1 : Int32} {r : eH × Int32} (f0 : rf h0 h) (hf : f_X10_passDays L h v0 v1 = some r) : rf h0 r.1 := by
  unfold f_X10_passDays at hf
  rcases e_or hf with hf | hf
  · exact rf_oW hf f0
  · rcases e_or hf with hf | hf
    · refine g_X10_passDays_L15 ?_ e_fu _ _ _ _  f0 hf
      · intro h10 w0_11 f12 hf
        replace hf := (e_if hf).2
        obtain ⟨b13, hb14, hf⟩ := e_bd hf
        replace hf := (e_if hf).2
        obtain ⟨r16, hr17, hf⟩ := e_bd hf
        exact rf_oW hf f12
    · exact rf_oW hf f0
theorem g_X10_days {L : eL} {h0 h : eH} {v0 : Nat} {v1 : Int32} {r : eH × Int32} (f0 : rf h0 h) (hf : f_X10_days L h v0 v1 = some r) : rf h0 r.1 := by
  unfold f_X10_days at hf
  replace hf := (e_if hf).2
  obtain ⟨b1, hb2, hf⟩ := e_bd hf
  obtain ⟨b4, hb5, hf⟩ := e_bd hf
  replace hf := (e_if hf).2
  obtain ⟨r7, hr8, hf⟩ := e_bd hf
  have f9 := g_X6_copyFrom   f0 hr8
  obtain ⟨r10, hr11, hf⟩ := e_bd hf
  have f12 := g_X10_passDays  f9 hr11
  obtain ⟨r13, hr14, hf⟩ := e_bd hf
  have f15 := g_X10_remembered  f12 hr14
  exact rf_oW hf f15
theorem g_X10_moveChair {L : eL} {h0 h : eH} {v0 : Nat} {v1 : Int32} {r : eH × Int32} (f0 : rf h0 h) (hf : f_X10_moveChair L h v0 v1 = some r) : rf h0 r.1 := by
  unfold f_X10_moveChair at hf
  replace hf := (e_if hf).2
  obtain ⟨b1, hb2, hf⟩ := e_bd hf
  replace hf := (e_if hf).2
  obtain ⟨r4, hr5, hf⟩ := e_bd hf
  rcases e_or hf with hf | hf
  · exact rf_oW hf f0
  · obtain ⟨b6, hb7, hf⟩ := e_bd hf
    replace hf := (e_if hf).2
    rcases e_or hf with hf | hf
    · exact rf_oW hf f0
    · obtain ⟨b9, hb10, hf⟩ := e_bd hf
      replace hf := (e_if hf).2
      rcases e_or hf with hf | hf
      · exact rf_oW hf f0
      · obtain ⟨b12, hb13, hf⟩ := e_bd hf
        replace hf := (e_if hf).2
        obtain ⟨b15, hb16, hf⟩ := e_bd hf
        replace hf := (e_if hf).2
        exact rf_oW hf (rf_sL f0 )
theorem g_X10_chair {L : eL} {h0 h : eH} {v0 : Nat} {v1 : Int32} {r : eH × Int32} (f0 : rf h0 h) (hf : f_X10_chair L h v0 v1 = some r) : rf h0 r.1 := by
  unfold f_X10_chair at hf
  replace hf := (e_if hf).2
  obtain ⟨b1, hb2, hf⟩ := e_bd hf
  obtain ⟨b4, hb5, hf⟩ := e_bd hf
  replace hf := (e_if hf).2
  obtain ⟨r7, hr8, hf⟩ := e_bd hf
  have f9 := g_X6_copyFrom   f0 hr8
  obtain ⟨r10, hr11, hf⟩ := e_bd hf
  have f12 := g_X10_moveChair  f9 hr11
  obtain ⟨r13, hr14, hf⟩ := e_bd hf
  have f15 := g_X10_remembered  f12 hr14
  exact rf_oW hf f15
theorem g_X10_carry {L : eL} {h0 h : eH} {v0 : Nat} {v1 : Int32} {v2 : Int32} {r : eH × Int32} (f0 : rf h0 h) (hf : f_X10_carry L h v0 v1 v2 = some r) : rf h0 r.1 := by
  unfold f_X10_carry at hf
  replace hf := (e_if hf).2
  obtain ⟨b1, hb2, hf⟩ := e_bd hf
  replace hf := (e_if hf).2
  obtain ⟨r4, hr5, hf⟩ := e_bd hf
  rcases e_or hf with hf | hf
  · exact rf_oW hf f0
  · rcases e_or hf with hf | hf
    · exact rf_oW hf f0
    · rcases e_or hf with hf | hf
      · obtain ⟨r6, hr7, hf⟩ := e_bd hf
        rcases e_or hf with hf | hf
        · exact rf_oW hf f0
        · obtain ⟨b8, hb9, hf⟩ := e_bd hf
          obtain ⟨b11, hb12, hf⟩ := e_bd hf
          replace hf := (e_if hf).2
          obtain ⟨r14, hr15, hf⟩ := e_bd hf
          have f16 := g_X6_copyFrom   f0 hr15
          obtain ⟨b17, hb18, hf⟩ := e_bd hf
          replace hf := (e_if hf).2
          obtain ⟨b20, hb21, hf⟩ := e_bd hf
          replace hf := (e_if hf).2
          obtain ⟨b23, hb24, hf⟩ := e_bd hf
          replace hf := (e_if hf).2
          obtain ⟨r26, hr27, hf⟩ := e_bd hf
          have f28 := g_X10_remembered  (rf_sI (rf_sI f16 ) ) hr27
          exact rf_oW hf f28
      · exact rf_oW hf f0
theorem g_X10_loadUp {L : eL} {h0 h : eH} {v0 : Nat} {v1 : Int32} {r : eH × Int32} (f0 : rf h0 h) (hf : f_X10_loadUp L h v0 v1 = some r) : rf h0 r.1 := by
  unfold f_X10_loadUp at hf
  rcases e_or hf with hf | hf
  · exact rf_oW hf f0
  · rcases e_or hf with hf | hf
    · replace hf := (e_if hf).2
      obtain ⟨b1, hb2, hf⟩ := e_bd hf
      replace hf := (e_if hf).2
      obtain ⟨b4, hb5, hf⟩ := e_bd hf
      replace hf := (e_if hf).2
      rcases e_or hf with hf | hf
      · obtain ⟨b7, hb8, hf⟩ := e_bd hf
        replace hf := (e_if hf).2
        obtain ⟨b10, hb11, hf⟩ := e_bd hf
        replace hf := (e_if hf).2
        obtain ⟨b13, hb14, hf⟩ := e_bd hf
        replace hf := (e_if hf).2
        exact rf_oW hf (rf_sI (rf_sI f0 ) )
      · exact rf_oW hf f0
    · exact rf_oW hf f0
theorem g_X10_load {L : eL} {h0 h : eH} {v0 : Nat} {v1 : Int32} {r : eH × Int32} (f0 : rf h0 h) (hf : f_X10_load L h v0 v1 = some r) : rf h0 r.1 := by
  unfold f_X10_load at hf
  replace hf := (e_if hf).2
  obtain ⟨b1, hb2, hf⟩ := e_bd hf
  obtain ⟨b4, hb5, hf⟩ := e_bd hf
  replace hf := (e_if hf).2
  obtain ⟨r7, hr8, hf⟩ := e_bd hf
  have f9 := g_X6_copyFrom   f0 hr8
  obtain ⟨r10, hr11, hf⟩ := e_bd hf
  have f12 := g_X10_loadUp  f9 hr11
  obtain ⟨r13, hr14, hf⟩ := e_bd hf
  have f15 := g_X10_remembered  f12 hr14
  exact rf_oW hf f15
theorem g_X10_actOfRun {L : eL} {h0 h : eH} {v0 : Nat} {v1 : Int32} {r : eH × Int32} (f0 : rf h0 h) (hf : f_X10_actOfRun L h v0 v1 = some r) : rf h0 r.1 := by
  unfold f_X10_actOfRun at hf
  replace hf := (e_if hf).2
  obtain ⟨b1, hb2, hf⟩ := e_bd hf
  replace hf := (e_if hf).2
  obtain ⟨r4, hr5, hf⟩ := e_bd hf
  obtain ⟨b6, hb7, hf⟩ := e_bd hf
  replace hf := (e_if hf).2
  obtain ⟨r9, hr10, hf⟩ := e_bd hf
  obtain ⟨b11, hb12, hf⟩ := e_bd hf
  replace hf := (e_if hf).2
  obtain ⟨r14, hr15, hf⟩ := e_bd hf
  rcases e_or hf with hf | hf
  · obtain ⟨r16, hr17, hf⟩ := e_bd hf
    have f18 := g_X10_moveChair  f0 hr17
    rcases e_or hf with hf | hf
    · exact rf_oW hf f18
    · exact rf_oW hf f18
  rcases e_or hf with hf | hf
  · obtain ⟨r19, hr20, hf⟩ := e_bd hf
    have f21 := g_X10_passDays  f0 hr20
    rcases e_or hf with hf | hf
    · exact rf_oW hf f21
    · exact rf_oW hf f21
  rcases e_or hf with hf | hf
  · obtain ⟨r22, hr23, hf⟩ := e_bd hf
    have f24 := g_X10_loadUp  f0 hr23
    rcases e_or hf with hf | hf
    · exact rf_oW hf f24
    · exact rf_oW hf f24
  rcases e_or hf with hf | hf
  · obtain ⟨r25, hr26, hf⟩ := e_bd hf
    have f27 := g_X10_takeSteps  f0 hr26
    rcases e_or hf with hf | hf
    · exact rf_oW hf f27
    · rcases e_or hf with hf | hf
      · exact rf_oW hf f27
      · exact rf_oW hf f27
  rcases e_or hf with hf | hf
  · obtain ⟨r28, hr29, hf⟩ := e_bd hf
    have f30 := g_X10_turnRight  f0 hr29
    rcases e_or hf with hf | hf
    · exact rf_oW hf f30
    · exact rf_oW hf f30
  · exact rf_oW hf f0
theorem g_X10_run_J93 {L : eL} {h0 : eH} {r : eH × Int32} {k44 : eH → Nat → Int32 → Int32 → Int32 → Int32 → Option (eH × Int32)} {k117 : eH → Nat → Int32 → Int32 → Option (eH × Int32)} (hk44 : ∀ (h : eH) (v0 : Nat) (v2 : Int32) (v3 : Int32) (v4 : Int32) (v5 : Int32), rf h0 h → k44 h v0 v2 v3 v4 v5 = some r → rf h0 r.1) (hk117 : ∀ (h : eH) (v0 : Nat) (v3 : Int32) (v4 : Int32), rf h0 h → k117 h v0 v3 v4 = some r → rf h0 r.1) : ∀ (h : eH) (v0 : Nat) (v2 : Int32) (v4 : Int32) (v5 : Int32) (s0 : Int32) (s1 : Int32), rf h0 h → f_X10_run_J93 L k44 k117 h v0 v2 v4 v5 s0 s1 = some r → rf h0 r.1 := by
  intro h v0 v2 v4 v5 s0 s1 f0 hf
  unfold f_X10_run_J93 at hf
  replace hf := (e_if hf).2
  obtain ⟨b20, hb21, hf⟩ := e_bd hf
  replace hf := (e_if hf).2
  obtain ⟨r23, hr24, hf⟩ := e_bd hf
  exact hk44 _ _ _ _ _ _  f0 hf
theorem g_X10_run_L44 {L : eL} {h0 : eH} {r : eH × Int32} {k117 : eH → Nat → Int32 → Int32 → Option (eH × Int32)} (hk117 : ∀ (h : eH) (v0 : Nat) (v3 : Int32) (v4 : Int32), rf h0 h → k117 h v0 v3 v4 = some r → rf h0 r.1) : ∀ (n : Nat) (h : eH) (v0 : Nat) (v2 : Int32) (v3 : Int32) (v4 : Int32) (v5 : Int32), rf h0 h → f_X10_run_L44 L n k117 h v0 v2 v3 v4 v5 = some r → rf h0 r.1 := by
  intro n
  induction n with
  | zero => intro h v0 v2 v3 v4 v5 f0 hf; exact absurd hf (by simp [f_X10_run_L44])
  | succ n ih =>
    intro h v0 v2 v3 v4 v5 f0 hf
    unfold f_X10_run_L44 at hf
    rcases e_or hf with hf | hf
    · exact hk117 _ _ _ _  f0 hf
    · replace hf := (e_if hf).2
      obtain ⟨b12, hb13, hf⟩ := e_bd hf
      replace hf := (e_if hf).2
      obtain ⟨r15, hr16, hf⟩ := e_bd hf
      rcases e_or hf with hf | hf
      · exact hk117 _ _ _ _  f0 hf
      · rcases e_or hf with hf | hf
        · obtain ⟨r17, hr18, hf⟩ := e_bd hf
          have f19 := g_X10_actOfRun  f0 hr18
          rcases e_or hf with hf | hf
          · exact g_X10_run_J93 ih hk117 _ _ _ _ _ _ _  f19 hf
          · exact g_X10_run_J93 ih hk117 _ _ _ _ _ _ _  f19 hf
        · exact hk117 _ _ _ _  f0 hf
theorem g_X10_run_J141 {L : eL} {h0 : eH} {r : eH × Int32}  : ∀ (h : eH) (v0 : Nat) (v3 : Int32) (v4 : Int32), rf h0 h → f_X10_run_J141 L h v0 v3 v4 = some r → rf h0 r.1 := by
  intro h v0 v3 v4 f0 hf
  unfold f_X10_run_J141 at hf
  replace hf := (e_if hf).2
  obtain ⟨b36, hb37, hf⟩ := e_bd hf
  replace hf := (e_if hf).2
  obtain ⟨r39, hr40, hf⟩ := e_bd hf
  have f41 := g_X3_begin  f0 hr40
  obtain ⟨b42, hb43, hf⟩ := e_bd hf
  replace hf := (e_if hf).2
  obtain ⟨r45, hr46, hf⟩ := e_bd hf
  have f47 := g_X3_add  f41 hr46
  obtain ⟨b48, hb49, hf⟩ := e_bd hf
  obtain ⟨b51, hb52, hf⟩ := e_bd hf
  replace hf := (e_if hf).2
  replace hf := (e_if hf).2
  obtain ⟨r54, hr55, hf⟩ := e_bd hf
  have f56 := g_X3_add  f47 hr55
  exact rf_oW hf f56
theorem g_X10_run_J117 {L : eL} {h0 : eH} {r : eH × Int32}  : ∀ (h : eH) (v0 : Nat) (v3 : Int32) (v4 : Int32), rf h0 h → f_X10_run_J117 L h v0 v3 v4 = some r → rf h0 r.1 := by
  intro h v0 v3 v4 f0 hf
  unfold f_X10_run_J117 at hf
  replace hf := (e_if hf).2
  obtain ⟨b30, hb31, hf⟩ := e_bd hf
  replace hf := (e_if hf).2
  obtain ⟨r33, hr34, hf⟩ := e_bd hf
  have f35 := g_X8_cut  f0 hr34
  rcases e_or hf with hf | hf
  · exact g_X10_run_J141 _ _ _ _  f35 hf
  · obtain ⟨b57, hb58, hf⟩ := e_bd hf
    obtain ⟨b60, hb61, hf⟩ := e_bd hf
    replace hf := (e_if hf).2
    obtain ⟨r63, hr64, hf⟩ := e_bd hf
    have f65 := g_X1_push   f35 hr64
    exact g_X10_run_J141 _ _ _ _  f65 hf
theorem g_X10_run {L : eL} {h0 h : eH} {v0 : Nat} {r : eH × Int32} (f0 : rf h0 h) (hf : f_X10_run L h v0 = some r) : rf h0 r.1 := by
  unfold f_X10_run at hf
  replace hf := (e_if hf).2
  obtain ⟨r1, hr2, hf⟩ := e_bd hf
  rcases e_or hf with hf | hf
  · obtain ⟨b3, hb4, hf⟩ := e_bd hf
    obtain ⟨b6, hb7, hf⟩ := e_bd hf
    replace hf := (e_if hf).2
    obtain ⟨r9, hr10, hf⟩ := e_bd hf
    have f11 := g_X6_copyFrom   f0 hr10
    refine g_X10_run_L44 ?_ e_fu _ _ _ _ _ _  f11 hf
    · intro h25 w0_26 w3_27 w4_28 f29 hf
      exact g_X10_run_J117 _ _ _ _  f29 hf
  · obtain ⟨b66, hb67, hf⟩ := e_bd hf
    replace hf := (e_if hf).2
    obtain ⟨r69, hr70, hf⟩ := e_bd hf
    have f71 := g_X8_cut  f0 hr70
    exact rf_oW hf f71
theorem g_X1_pop_J28 {L : eL} {h0 : eH} {r : eH × Int32}  : ∀ (h : eH) (v0 : Nat) (v1 : Nat) (s0 : Nat) (s1 : Int32), rf h0 h → f_X1_pop_J28 L h v0 v1 s0 s1 = some r → rf h0 r.1 := by
  intro h v0 v1 s0 s1 f0 hf
  unfold f_X1_pop_J28 at hf
  replace hf := (e_if hf).2
  replace hf := (e_if hf).2
  obtain ⟨h1, hh2, hf⟩ := e_bd hf
  have f3 := rf_oV hh2 (rf_sI (rf_sI f0 ) )
  rcases e_or hf with hf | hf
  · exact rf_oW hf f3
  · obtain ⟨b4, hb5, hf⟩ := e_bd hf
    replace hf := (e_if hf).2
    obtain ⟨b7, hb8, hf⟩ := e_bd hf
    replace hf := (e_if hf).2
    obtain ⟨r10, hr11, hf⟩ := e_bd hf
    have f12 := g_X6_copyFrom   f3 hr11
    exact rf_oW hf f12
theorem g_X1_pop {L : eL} {h0 h : eH} {v0 : Nat} {v1 : Nat} {r : eH × Int32} (f0 : rf h0 h) (hf : f_X1_pop L h v0 v1 = some r) : rf h0 r.1 := by
  unfold f_X1_pop at hf
  replace hf := (e_if hf).2
  rcases e_or hf with hf | hf
  · rcases e_or hf with hf | hf
    · exact g_X1_pop_J28 _ _ _ _ _    f0 hf
    · exact g_X1_pop_J28 _ _ _ _ _    f0 hf
  · exact rf_oW hf f0
theorem g_X10_undo {L : eL} {h0 h : eH} {v0 : Nat} {r : eH × Int32} (f0 : rf h0 h) (hf : f_X10_undo L h v0 = some r) : rf h0 r.1 := by
  unfold f_X10_undo at hf
  replace hf := (e_if hf).2
  obtain ⟨b1, hb2, hf⟩ := e_bd hf
  obtain ⟨b4, hb5, hf⟩ := e_bd hf
  replace hf := (e_if hf).2
  obtain ⟨r7, hr8, hf⟩ := e_bd hf
  have f9 := g_X1_pop   f0 hr8
  rcases e_or hf with hf | hf
  · exact rf_oW hf f9
  · obtain ⟨b10, hb11, hf⟩ := e_bd hf
    replace hf := (e_if hf).2
    obtain ⟨r13, hr14, hf⟩ := e_bd hf
    exact rf_oW hf f9
theorem g_X10_been_L38 {L : eL} {h0 : eH} {r : eH × Int32} {k76 : eH → Nat → Int64 → Option (eH × Int32)} (hk76 : ∀ (h : eH) (v0 : Nat) (v2 : Int64), rf h0 h → k76 h v0 v2 = some r → rf h0 r.1) : ∀ (n : Nat) (h : eH) (v0 : Nat) (v1 : Int32) (v2 : Int64) (v4 : Int32), rf h0 h → f_X10_been_L38 L n k76 h v0 v1 v2 v4 = some r → rf h0 r.1 := by
  intro n
  induction n with
  | zero => intro h v0 v1 v2 v4 f0 hf; exact absurd hf (by simp [f_X10_been_L38])
  | succ n ih =>
    intro h v0 v1 v2 v4 f0 hf
    unfold f_X10_been_L38 at hf
    rcases e_or hf with hf | hf
    · exact hk76 _ _ _  f0 hf
    · replace hf := (e_if hf).2
      obtain ⟨b13, hb14, hf⟩ := e_bd hf
      obtain ⟨r16, hr17, hf⟩ := e_bd hf
      have f18 := g_X10_goOn   f0 hr17
      rcases e_or hf with hf | hf
      · exact hk76 _ _ _  f18 hf
      · obtain ⟨b19, hb20, hf⟩ := e_bd hf
        replace hf := (e_if hf).2
        exact ih _ _ _ _ _  f18 hf
theorem g_X10_been_J76 {L : eL} {h0 : eH} {r : eH × Int32}  : ∀ (h : eH) (v0 : Nat) (v2 : Int64), rf h0 h → f_X10_been_J76 L h v0 v2 = some r → rf h0 r.1 := by
  intro h v0 v2 f0 hf
  unfold f_X10_been_J76 at hf
  replace hf := (e_if hf).2
  obtain ⟨b26, hb27, hf⟩ := e_bd hf
  replace hf := (e_if hf).2
  obtain ⟨r29, hr30, hf⟩ := e_bd hf
  have f31 := g_X3_begin  f0 hr30
  obtain ⟨b32, hb33, hf⟩ := e_bd hf
  replace hf := (e_if hf).2
  obtain ⟨r35, hr36, hf⟩ := e_bd hf
  have f37 := g_X3_add  f31 hr36
  obtain ⟨b38, hb39, hf⟩ := e_bd hf
  obtain ⟨b41, hb42, hf⟩ := e_bd hf
  replace hf := (e_if hf).2
  replace hf := (e_if hf).2
  obtain ⟨r44, hr45, hf⟩ := e_bd hf
  have f46 := g_X3_add  f37 hr45
  obtain ⟨b47, hb48, hf⟩ := e_bd hf
  obtain ⟨b50, hb51, hf⟩ := e_bd hf
  replace hf := (e_if hf).2
  replace hf := (e_if hf).2
  obtain ⟨r53, hr54, hf⟩ := e_bd hf
  have f55 := g_X3_add  f46 hr54
  exact rf_oW hf f55
theorem g_X10_been {L : eL} {h0 h : eH} {v0 : Nat} {v1 : Int32} {r : eH × Int32} (f0 : rf h0 h) (hf : f_X10_been L h v0 v1 = some r) : rf h0 r.1 := by
  unfold f_X10_been at hf
  rcases e_or hf with hf | hf
  · exact rf_oW hf f0
  · rcases e_or hf with hf | hf
    · replace hf := (e_if hf).2
      obtain ⟨b1, hb2, hf⟩ := e_bd hf
      obtain ⟨b4, hb5, hf⟩ := e_bd hf
      replace hf := (e_if hf).2
      obtain ⟨r7, hr8, hf⟩ := e_bd hf
      have f9 := g_X6_copyFrom   f0 hr8
      obtain ⟨b10, hb11, hf⟩ := e_bd hf
      replace hf := (e_if hf).2
      refine g_X10_been_L38 ?_ e_fu _ _ _ _ _  f9 hf
      · intro h22 w0_23 w2_24 f25 hf
        exact g_X10_been_J76 _ _ _  f25 hf
    · exact rf_oW hf f0
theorem g_X10_stepsToSee_L32 {L : eL} {h0 : eH} {r : eH × Int32} {k83 : eH → Int64 → Int32 → Option (eH × Int32)} (hk83 : ∀ (h : eH) (v4 : Int64) (v6 : Int32), rf h0 h → k83 h v4 v6 = some r → rf h0 r.1) : ∀ (n : Nat) (h : eH) (v0 : Nat) (v3 : Int32) (v4 : Int64) (v6 : Int32), rf h0 h → f_X10_stepsToSee_L32 L n k83 h v0 v3 v4 v6 = some r → rf h0 r.1 := by
  intro n
  induction n with
  | zero => intro h v0 v3 v4 v6 f0 hf; exact absurd hf (by simp [f_X10_stepsToSee_L32])
  | succ n ih =>
    intro h v0 v3 v4 v6 f0 hf
    unfold f_X10_stepsToSee_L32 at hf
    rcases e_or hf with hf | hf
    · exact hk83 _ _ _ f0 hf
    · rcases e_or hf with hf | hf
      · exact hk83 _ _ _ f0 hf
      · replace hf := (e_if hf).2
        obtain ⟨b13, hb14, hf⟩ := e_bd hf
        obtain ⟨r16, hr17, hf⟩ := e_bd hf
        have f18 := g_X10_goOn   f0 hr17
        obtain ⟨b19, hb20, hf⟩ := e_bd hf
        replace hf := (e_if hf).2
        exact ih _ _ _ _ _  f18 hf
theorem g_X10_stepsToSee {L : eL} {h0 h : eH} {v0 : Nat} {v1 : Int64} {v3 : Int32} {r : eH × Int32} (f0 : rf h0 h) (hf : f_X10_stepsToSee L h v0 v1 v3 = some r) : rf h0 r.1 := by
  unfold f_X10_stepsToSee at hf
  replace hf := (e_if hf).2
  obtain ⟨b1, hb2, hf⟩ := e_bd hf
  obtain ⟨b4, hb5, hf⟩ := e_bd hf
  replace hf := (e_if hf).2
  obtain ⟨r7, hr8, hf⟩ := e_bd hf
  have f9 := g_X6_copyFrom   f0 hr8
  obtain ⟨b10, hb11, hf⟩ := e_bd hf
  replace hf := (e_if hf).2
  refine g_X10_stepsToSee_L32 ?_ e_fu _ _ _ _ _  f9 hf
  · intro h22 w4_23 w6_24 f25 hf
    rcases e_or hf with hf | hf
    · exact rf_oW hf f25
    · exact rf_oW hf f25
theorem g_X10_all {L : eL} {h0 h : eH} {v0 : Nat} {r : eH × Int32} (f0 : rf h0 h) (hf : f_X10_all L h v0 = some r) : rf h0 r.1 := by
  unfold f_X10_all at hf
  replace hf := (e_if hf).2
  obtain ⟨b1, hb2, hf⟩ := e_bd hf
  obtain ⟨r4, hr5, hf⟩ := e_bd hf
  obtain ⟨b6, hb7, hf⟩ := e_bd hf
  replace hf := (e_if hf).2
  replace hf := (e_if hf).2
  obtain ⟨r9, hr10, hf⟩ := e_bd hf
  obtain ⟨r11, hr12, hf⟩ := e_bd hf
  have f13 := g_X10_stepsToSee  f0 hr12
  rcases e_or hf with hf | hf
  · obtain ⟨b14, hb15, hf⟩ := e_bd hf
    replace hf := (e_if hf).2
    obtain ⟨r17, hr18, hf⟩ := e_bd hf
    have f19 := g_X3_begin  f13 hr18
    obtain ⟨b20, hb21, hf⟩ := e_bd hf
    replace hf := (e_if hf).2
    obtain ⟨r23, hr24, hf⟩ := e_bd hf
    have f25 := g_X3_add  f19 hr24
    exact rf_oW hf f25
  · exact rf_oW hf f13
theorem g_X10_never_L47 {L : eL} {h0 : eH} {r : eH × Int32} {k96 : eH → Nat → Int64 → Option (eH × Int32)} (hk96 : ∀ (h : eH) (v0 : Nat) (v1 : Int64), rf h0 h → k96 h v0 v1 = some r → rf h0 r.1) : ∀ (n : Nat) (h : eH) (v0 : Nat) (v1 : Int64) (v3 : Int32), rf h0 h → f_X10_never_L47 L n k96 h v0 v1 v3 = some r → rf h0 r.1 := by
  intro n
  induction n with
  | zero => intro h v0 v1 v3 f0 hf; exact absurd hf (by simp [f_X10_never_L47])
  | succ n ih =>
    intro h v0 v1 v3 f0 hf
    unfold f_X10_never_L47 at hf
    rcases e_or hf with hf | hf
    · exact hk96 _ _ _  f0 hf
    · rcases e_or hf with hf | hf
      · exact hk96 _ _ _  f0 hf
      · replace hf := (e_if hf).2
        obtain ⟨b23, hb24, hf⟩ := e_bd hf
        obtain ⟨r26, hr27, hf⟩ := e_bd hf
        have f28 := g_X10_goOn   f0 hr27
        rcases e_or hf with hf | hf
        · exact hk96 _ _ _  f28 hf
        · obtain ⟨b29, hb30, hf⟩ := e_bd hf
          replace hf := (e_if hf).2
          exact ih _ _ _ _  f28 hf
theorem g_X10_never_J96 {L : eL} {h0 : eH} {r : eH × Int32}  : ∀ (h : eH) (v0 : Nat) (v1 : Int64), rf h0 h → f_X10_never_J96 L h v0 v1 = some r → rf h0 r.1 := by
  intro h v0 v1 f0 hf
  unfold f_X10_never_J96 at hf
  replace hf := (e_if hf).2
  obtain ⟨b36, hb37, hf⟩ := e_bd hf
  replace hf := (e_if hf).2
  obtain ⟨r39, hr40, hf⟩ := e_bd hf
  have f41 := g_X3_begin  f0 hr40
  obtain ⟨b42, hb43, hf⟩ := e_bd hf
  replace hf := (e_if hf).2
  obtain ⟨r45, hr46, hf⟩ := e_bd hf
  have f47 := g_X3_add  f41 hr46
  exact rf_oW hf f47
theorem g_X10_never {L : eL} {h0 h : eH} {v0 : Nat} {r : eH × Int32} (f0 : rf h0 h) (hf : f_X10_never L h v0 = some r) : rf h0 r.1 := by
  unfold f_X10_never at hf
  replace hf := (e_if hf).2
  obtain ⟨b1, hb2, hf⟩ := e_bd hf
  obtain ⟨r4, hr5, hf⟩ := e_bd hf
  obtain ⟨b6, hb7, hf⟩ := e_bd hf
  replace hf := (e_if hf).2
  replace hf := (e_if hf).2
  obtain ⟨r9, hr10, hf⟩ := e_bd hf
  obtain ⟨b11, hb12, hf⟩ := e_bd hf
  replace hf := (e_if hf).2
  obtain ⟨b14, hb15, hf⟩ := e_bd hf
  obtain ⟨b17, hb18, hf⟩ := e_bd hf
  replace hf := (e_if hf).2
  obtain ⟨r20, hr21, hf⟩ := e_bd hf
  have f22 := g_X6_copyFrom   f0 hr21
  refine g_X10_never_L47 ?_ e_fu _ _ _ _  f22 hf
  · intro h32 w0_33 w1_34 f35 hf
    exact g_X10_never_J96 _ _ _  f35 hf
theorem g_X10_angle {L : eL} {h0 h : eH} {v0 : Nat} {r : eH × Int32} (f0 : rf h0 h) (hf : f_X10_angle L h v0 = some r) : rf h0 r.1 := by
  unfold f_X10_angle at hf
  replace hf := (e_if hf).2
  obtain ⟨b1, hb2, hf⟩ := e_bd hf
  obtain ⟨r4, hr5, hf⟩ := e_bd hf
  obtain ⟨b6, hb7, hf⟩ := e_bd hf
  replace hf := (e_if hf).2
  replace hf := (e_if hf).2
  obtain ⟨r9, hr10, hf⟩ := e_bd hf
  obtain ⟨r11, hr12, hf⟩ := e_bd hf
  have f13 := g_X10_stepsToSee  f0 hr12
  obtain ⟨r14, hr15, hf⟩ := e_bd hf
  have f16 := g_X10_stepsToSee  f13 hr15
  obtain ⟨r17, hr18, hf⟩ := e_bd hf
  have f19 := g_X10_stepsToSee  f16 hr18
  obtain ⟨b20, hb21, hf⟩ := e_bd hf
  replace hf := (e_if hf).2
  obtain ⟨r23, hr24, hf⟩ := e_bd hf
  have f25 := g_X3_begin  f19 hr24
  obtain ⟨b26, hb27, hf⟩ := e_bd hf
  replace hf := (e_if hf).2
  obtain ⟨r29, hr30, hf⟩ := e_bd hf
  have f31 := g_X3_add  f25 hr30
  obtain ⟨b32, hb33, hf⟩ := e_bd hf
  replace hf := (e_if hf).2
  obtain ⟨r35, hr36, hf⟩ := e_bd hf
  have f37 := g_X3_add  f31 hr36
  obtain ⟨b38, hb39, hf⟩ := e_bd hf
  replace hf := (e_if hf).2
  obtain ⟨r41, hr42, hf⟩ := e_bd hf
  have f43 := g_X3_add  f37 hr42
  obtain ⟨b44, hb45, hf⟩ := e_bd hf
  replace hf := (e_if hf).2
  obtain ⟨r47, hr48, hf⟩ := e_bd hf
  have f49 := g_X3_add  f43 hr48
  rcases e_or hf with hf | hf
  · exact rf_oW hf f49
  · rcases e_or hf with hf | hf
    · exact rf_oW hf f49
    · exact rf_oW hf f49
theorem g_X10_meets {L : eL} {h0 h : eH} {v0 : Nat} {r : eH × Int32} (f0 : rf h0 h) (hf : f_X10_meets L h v0 = some r) : rf h0 r.1 := by
  unfold f_X10_meets at hf
  replace hf := (e_if hf).2
  obtain ⟨b1, hb2, hf⟩ := e_bd hf
  replace hf := (e_if hf).2
  rcases e_or hf with hf | hf
  · exact rf_oW hf f0
  · obtain ⟨b4, hb5, hf⟩ := e_bd hf
    replace hf := (e_if hf).2
    obtain ⟨r7, hr8, hf⟩ := e_bd hf
    have f9 := g_X10_stepsToSee  f0 hr8
    rcases e_or hf with hf | hf
    · exact rf_oW hf f9
    · exact rf_oW hf f9
theorem g_X10_round_L13 {L : eL} {h0 : eH} {r : eH × Int32} {k67 : eH → Nat → Int32 → Option (eH × Int32)} {k105 : eH → Option (eH × Int32)} (hk67 : ∀ (h : eH) (v0 : Nat) (v1 : Int32), rf h0 h → k67 h v0 v1 = some r → rf h0 r.1) (hk105 : ∀ (h : eH), rf h0 h → k105 h = some r → rf h0 r.1) : ∀ (n : Nat) (h : eH) (v0 : Nat) (v1 : Int32), rf h0 h → f_X10_round_L13 L n k67 k105 h v0 v1 = some r → rf h0 r.1 := by
  intro n
  induction n with
  | zero => intro h v0 v1 f0 hf; exact absurd hf (by simp [f_X10_round_L13])
  | succ n ih =>
    intro h v0 v1 f0 hf
    unfold f_X10_round_L13 at hf
    rcases e_or hf with hf | hf
    · exact hk105 _ f0 hf
    · replace hf := (e_if hf).2
      obtain ⟨b10, hb11, hf⟩ := e_bd hf
      obtain ⟨r13, hr14, hf⟩ := e_bd hf
      have f15 := g_X10_goOn   f0 hr14
      rcases e_or hf with hf | hf
      · exact hk105 _ f15 hf
      · obtain ⟨b16, hb17, hf⟩ := e_bd hf
        replace hf := (e_if hf).2
        obtain ⟨b19, hb20, hf⟩ := e_bd hf
        replace hf := (e_if hf).2
        rcases e_or hf with hf | hf
        · obtain ⟨b22, hb23, hf⟩ := e_bd hf
          replace hf := (e_if hf).2
          obtain ⟨b25, hb26, hf⟩ := e_bd hf
          replace hf := (e_if hf).2
          rcases e_or hf with hf | hf
          · exact hk67 _ _ _  f15 hf
          · exact ih _ _ _  f15 hf
        · exact ih _ _ _  f15 hf
theorem g_X10_round {L : eL} {h0 h : eH} {v0 : Nat} {r : eH × Int32} (f0 : rf h0 h) (hf : f_X10_round L h v0 = some r) : rf h0 r.1 := by
  unfold f_X10_round at hf
  replace hf := (e_if hf).2
  obtain ⟨b1, hb2, hf⟩ := e_bd hf
  obtain ⟨b4, hb5, hf⟩ := e_bd hf
  replace hf := (e_if hf).2
  obtain ⟨r7, hr8, hf⟩ := e_bd hf
  have f9 := g_X6_copyFrom   f0 hr8
  refine g_X10_round_L13 ?_ ?_ e_fu _ _ _  f9 hf
  · intro h28 w0_29 w1_30 f31 hf
    replace hf := (e_if hf).2
    obtain ⟨b32, hb33, hf⟩ := e_bd hf
    replace hf := (e_if hf).2
    obtain ⟨r35, hr36, hf⟩ := e_bd hf
    have f37 := g_X3_begin  f31 hr36
    obtain ⟨b38, hb39, hf⟩ := e_bd hf
    obtain ⟨b41, hb42, hf⟩ := e_bd hf
    replace hf := (e_if hf).2
    obtain ⟨b44, hb45, hf⟩ := e_bd hf
    replace hf := (e_if hf).2
    replace hf := (e_if hf).2
    obtain ⟨r47, hr48, hf⟩ := e_bd hf
    have f49 := g_X3_add  f37 hr48
    exact rf_oW hf f49
  · intro h50 f51 hf
    exact rf_oW hf f51
theorem g_X10_corner_L35 {L : eL} {h0 : eH} {r : eH × Int32} {k97 : eH → Nat → Option (eH × Int32)} (hk97 : ∀ (h : eH) (v0 : Nat), rf h0 h → k97 h v0 = some r → rf h0 r.1) : ∀ (n : Nat) (h : eH) (v0 : Nat) (v1 : Int32) (v2 : Int32), rf h0 h → f_X10_corner_L35 L n k97 h v0 v1 v2 = some r → rf h0 r.1 := by
  intro n
  induction n with
  | zero => intro h v0 v1 v2 f0 hf; exact absurd hf (by simp [f_X10_corner_L35])
  | succ n ih =>
    intro h v0 v1 v2 f0 hf
    unfold f_X10_corner_L35 at hf
    rcases e_or hf with hf | hf
    · exact hk97 _ _  f0 hf
    · replace hf := (e_if hf).2
      obtain ⟨b16, hb17, hf⟩ := e_bd hf
      obtain ⟨r19, hr20, hf⟩ := e_bd hf
      have f21 := g_X10_goOn   f0 hr20
      rcases e_or hf with hf | hf
      · exact hk97 _ _  f21 hf
      · obtain ⟨b22, hb23, hf⟩ := e_bd hf
        replace hf := (e_if hf).2
        rcases e_or hf with hf | hf
        · exact ih _ _ _ _  f21 hf
        · obtain ⟨b25, hb26, hf⟩ := e_bd hf
          replace hf := (e_if hf).2
          rcases e_or hf with hf | hf
          · exact ih _ _ _ _  f21 hf
          · obtain ⟨b28, hb29, hf⟩ := e_bd hf
            obtain ⟨b31, hb32, hf⟩ := e_bd hf
            replace hf := (e_if hf).2
            replace hf := (e_if hf).2
            obtain ⟨h34, hh35, hf⟩ := e_bd hf
            have f36 := rf_oV hh35 (rf_sI f21 )
            exact ih _ _ _ _  f36 hf
theorem g_X10_corner_L101 {L : eL} {h0 : eH} {r : eH × Int32} {k130 : eH → Nat → Int32 → Option (eH × Int32)} (hk130 : ∀ (h : eH) (v0 : Nat) (v2 : Int32), rf h0 h → k130 h v0 v2 = some r → rf h0 r.1) : ∀ (n : Nat) (h : eH) (v0 : Nat) (v2 : Int32) (v3 : Int32), rf h0 h → f_X10_corner_L101 L n k130 h v0 v2 v3 = some r → rf h0 r.1 := by
  intro n
  induction n with
  | zero => intro h v0 v2 v3 f0 hf; exact absurd hf (by simp [f_X10_corner_L101])
  | succ n ih =>
    intro h v0 v2 v3 f0 hf
    unfold f_X10_corner_L101 at hf
    rcases e_or hf with hf | hf
    · exact hk130 _ _ _  f0 hf
    · replace hf := (e_if hf).2
      obtain ⟨b40, hb41, hf⟩ := e_bd hf
      replace hf := (e_if hf).2
      obtain ⟨b43, hb44, hf⟩ := e_bd hf
      replace hf := (e_if hf).2
      rcases e_or hf with hf | hf
      · exact ih _ _ _ _  f0 hf
      · exact ih _ _ _ _  f0 hf
theorem g_X10_corner {L : eL} {h0 h : eH} {v0 : Nat} {v1 : Int32} {r : eH × Int32} (f0 : rf h0 h) (hf : f_X10_corner L h v0 v1 = some r) : rf h0 r.1 := by
  unfold f_X10_corner at hf
  rcases e_or hf with hf | hf
  · exact rf_oW hf f0
  · rcases e_or hf with hf | hf
    · replace hf := (e_if hf).2
      obtain ⟨b1, hb2, hf⟩ := e_bd hf
      obtain ⟨r4, hr5, hf⟩ := e_bd hf
      have f6 := g_J7_fill_53178  f0 hr5
      obtain ⟨b7, hb8, hf⟩ := e_bd hf
      obtain ⟨b10, hb11, hf⟩ := e_bd hf
      replace hf := (e_if hf).2
      obtain ⟨r13, hr14, hf⟩ := e_bd hf
      have f15 := g_X6_copyFrom   f6 hr14
      refine g_X10_corner_L35 ?_ e_fu _ _ _ _  f15 hf
      · intro h37 w0_38 f39 hf
        refine g_X10_corner_L101 ?_ e_fu _ _ _ _  f39 hf
        · intro h46 w0_47 w2_48 f49 hf
          replace hf := (e_if hf).2
          obtain ⟨b50, hb51, hf⟩ := e_bd hf
          replace hf := (e_if hf).2
          obtain ⟨r53, hr54, hf⟩ := e_bd hf
          have f55 := g_X3_begin  f49 hr54
          obtain ⟨b56, hb57, hf⟩ := e_bd hf
          obtain ⟨b59, hb60, hf⟩ := e_bd hf
          replace hf := (e_if hf).2
          replace hf := (e_if hf).2
          obtain ⟨r62, hr63, hf⟩ := e_bd hf
          have f64 := g_X3_add  f55 hr63
          exact rf_oW hf f64
    · exact rf_oW hf f0
theorem g_J7_fill_d0a16_L6 {L : eL} {h0 : eH} {r : eH} {k22 : eH → Option eH} (hk22 : ∀ (h : eH), rf h0 h → k22 h = some r → rf h0 r) : ∀ (n : Nat) (h : eH) (v0 : Nat) (v1 : Int64) (v3 : Int32) (v4 : Int32), rf h0 h → f_J7_fill_d0a16_L6 L n k22 h v0 v1 v3 v4 = some r → rf h0 r := by
  intro n
  induction n with
  | zero => intro h v0 v1 v3 v4 f0 hf; exact absurd hf (by simp [f_J7_fill_d0a16_L6])
  | succ n ih =>
    intro h v0 v1 v3 v4 f0 hf
    unfold f_J7_fill_d0a16_L6 at hf
    rcases e_or hf with hf | hf
    · exact hk22 _ f0 hf
    · replace hf := (e_if hf).2
      exact ih _ _ _ _ _  (rf_sL f0 ) hf
theorem g_J7_fill_d0a16 {L : eL} {h0 h : eH} {v0 : Nat} {v1 : Int64} {r : eH} (f0 : rf h0 h) (hf : f_J7_fill_d0a16 L h v0 v1 = some r) : rf h0 r := by
  unfold f_J7_fill_d0a16 at hf
  replace hf := (e_if hf).2
  refine g_J7_fill_d0a16_L6 ?_ e_fu _ _ _ _ _  f0 hf
  · intro h1 f2 hf
    exact rf_oV hf f2
theorem g_X9_measure_L32 {L : eL} {h0 : eH} {r : eH} {k139 : eH → Option eH} (hk139 : ∀ (h : eH), rf h0 h → k139 h = some r → rf h0 r) : ∀ (n : Nat) (h : eH) (v0 : Nat) (v1 : Nat) (v2 : Int64) (v5 : Int32), rf h0 h → f_X9_measure_L32 L n k139 h v0 v1 v2 v5 = some r → rf h0 r := by
  intro n
  induction n with
  | zero => intro h v0 v1 v2 v5 f0 hf; exact absurd hf (by simp [f_X9_measure_L32])
  | succ n ih =>
    intro h v0 v1 v2 v5 f0 hf
    unfold f_X9_measure_L32 at hf
    rcases e_or hf with hf | hf
    · exact hk139 _ f0 hf
    · replace hf := (e_if hf).2
      obtain ⟨b13, hb14, hf⟩ := e_bd hf
      replace hf := (e_if hf).2
      rcases e_or hf with hf | hf
      · exact ih _ _ _ _ _   f0 hf
      · obtain ⟨b16, hb17, hf⟩ := e_bd hf
        replace hf := (e_if hf).2
        replace hf := (e_if hf).2
        obtain ⟨r19, hr20, hf⟩ := e_bd hf
        obtain ⟨h21, hh22, hf⟩ := e_bd hf
        have f23 := rf_oV hh22 (rf_sL f0 )
        obtain ⟨b24, hb25, hf⟩ := e_bd hf
        replace hf := (e_if hf).2
        obtain ⟨h27, hh28, hf⟩ := e_bd hf
        have f29 := rf_oV hh28 (rf_sL f23 )
        obtain ⟨b30, hb31, hf⟩ := e_bd hf
        replace hf := (e_if hf).2
        obtain ⟨h33, hh34, hf⟩ := e_bd hf
        have f35 := rf_oV hh34 (rf_sL f29 )
        exact ih _ _ _ _ _   f35 hf
theorem g_X9_measure {L : eL} {h0 h : eH} {v0 : Nat} {v1 : Nat} {v2 : Int64} {v4 : Int32} {r : eH} (f0 : rf h0 h) (hf : f_X9_measure L h v0 v1 v2 v4 = some r) : rf h0 r := by
  unfold f_X9_measure at hf
  replace hf := (e_if hf).2
  obtain ⟨b1, hb2, hf⟩ := e_bd hf
  obtain ⟨r4, hr5, hf⟩ := e_bd hf
  have f6 := g_J7_fill_d0a16  f0 hr5
  obtain ⟨b7, hb8, hf⟩ := e_bd hf
  replace hf := (e_if hf).2
  obtain ⟨h10, hh11, hf⟩ := e_bd hf
  have f12 := rf_oV hh11 (rf_sL (rf_sL f6 ) )
  refine g_X9_measure_L32 ?_ e_fu _ _ _ _ _   f12 hf
  · intro h36 f37 hf
    exact rf_oV hf f37
theorem g_X10_way_L108 {L : eL} {h0 : eH} {r : eH × Int32} {k174 : eH → Int32 → Option (eH × Int32)} (hk174 : ∀ (h : eH) (v5 : Int32), rf h0 h → k174 h v5 = some r → rf h0 r.1) : ∀ (n : Nat) (h : eH) (v0 : Nat) (v2 : Int32) (v5 : Int32) (v6 : Int32) (v7 : Int32) (v8 : Int32), rf h0 h → f_X10_way_L108 L n k174 h v0 v2 v5 v6 v7 v8 = some r → rf h0 r.1 := by
  intro n
  induction n with
  | zero => intro h v0 v2 v5 v6 v7 v8 f0 hf; exact absurd hf (by simp [f_X10_way_L108])
  | succ n ih =>
    intro h v0 v2 v5 v6 v7 v8 f0 hf
    unfold f_X10_way_L108 at hf
    rcases e_or hf with hf | hf
    · exact hk174 _ _ f0 hf
    · rcases e_or hf with hf | hf
      · exact hk174 _ _ f0 hf
      · replace hf := (e_if hf).2
        obtain ⟨b39, hb40, hf⟩ := e_bd hf
        replace hf := (e_if hf).2
        obtain ⟨r42, hr43, hf⟩ := e_bd hf
        obtain ⟨b44, hb45, hf⟩ := e_bd hf
        obtain ⟨b47, hb48, hf⟩ := e_bd hf
        replace hf := (e_if hf).2
        obtain ⟨r50, hr51, hf⟩ := e_bd hf
        replace hf := (e_if hf).2
        obtain ⟨r52, hr53, hf⟩ := e_bd hf
        obtain ⟨b54, hb55, hf⟩ := e_bd hf
        replace hf := (e_if hf).2
        obtain ⟨r57, hr58, hf⟩ := e_bd hf
        have f59 := g_X3_add  f0 hr58
        exact ih _ _ _ _ _ _ _  f59 hf
theorem g_X10_way {L : eL} {h0 h : eH} {v0 : Nat} {v1 : Int32} {v2 : Int32} {r : eH × Int32} (f0 : rf h0 h) (hf : f_X10_way L h v0 v1 v2 = some r) : rf h0 r.1 := by
  unfold f_X10_way at hf
  replace hf := (e_if hf).2
  obtain ⟨b1, hb2, hf⟩ := e_bd hf
  replace hf := (e_if hf).2
  obtain ⟨r4, hr5, hf⟩ := e_bd hf
  rcases e_or hf with hf | hf
  · exact rf_oW hf f0
  · obtain ⟨b6, hb7, hf⟩ := e_bd hf
    replace hf := (e_if hf).2
    obtain ⟨r9, hr10, hf⟩ := e_bd hf
    rcases e_or hf with hf | hf
    · exact rf_oW hf f0
    · obtain ⟨r11, hr12, hf⟩ := e_bd hf
      rcases e_or hf with hf | hf
      · exact rf_oW hf f0
      · rcases e_or hf with hf | hf
        · exact rf_oW hf f0
        · obtain ⟨b13, hb14, hf⟩ := e_bd hf
          obtain ⟨b16, hb17, hf⟩ := e_bd hf
          replace hf := (e_if hf).2
          obtain ⟨r19, hr20, hf⟩ := e_bd hf
          have f21 := g_X9_measure   f0 hr20
          obtain ⟨b22, hb23, hf⟩ := e_bd hf
          replace hf := (e_if hf).2
          obtain ⟨r25, hr26, hf⟩ := e_bd hf
          rcases e_or hf with hf | hf
          · exact rf_oW hf f21
          · obtain ⟨b27, hb28, hf⟩ := e_bd hf
            replace hf := (e_if hf).2
            obtain ⟨r30, hr31, hf⟩ := e_bd hf
            have f32 := g_X3_begin  f21 hr31
            obtain ⟨b33, hb34, hf⟩ := e_bd hf
            replace hf := (e_if hf).2
            obtain ⟨r36, hr37, hf⟩ := e_bd hf
            have f38 := g_X3_add  f32 hr37
            refine g_X10_way_L108 ?_ e_fu _ _ _ _ _ _ _  f38 hf
            · intro h60 w5_61 f62 hf
              exact rf_oW hf f62
theorem g_X10_back_J94 {L : eL} {h0 : eH} {r : eH × Int32} {k52 : eH → Nat → Int32 → Int32 → Option (eH × Int32)} {k107 : eH → Int32 → Option (eH × Int32)} {k116 : eH → Int32 → Option (eH × Int32)} (hk52 : ∀ (h : eH) (v0 : Nat) (v1 : Int32) (v2 : Int32), rf h0 h → k52 h v0 v1 v2 = some r → rf h0 r.1) (hk107 : ∀ (h : eH) (v1 : Int32), rf h0 h → k107 h v1 = some r → rf h0 r.1) (hk116 : ∀ (h : eH) (v1 : Int32), rf h0 h → k116 h v1 = some r → rf h0 r.1) : ∀ (h : eH) (v0 : Nat) (v1 : Int32) (v2 : Int32), rf h0 h → f_X10_back_J94 L k52 k107 k116 h v0 v1 v2 = some r → rf h0 r.1 := by
  intro h v0 v1 v2 f0 hf
  unfold f_X10_back_J94 at hf
  replace hf := (e_if hf).2
  obtain ⟨b35, hb36, hf⟩ := e_bd hf
  obtain ⟨r38, hr39, hf⟩ := e_bd hf
  have f40 := g_X10_goOn   f0 hr39
  rcases e_or hf with hf | hf
  · exact hk107 _ _ f40 hf
  · exact hk52 _ _ _ _  f40 hf
theorem g_X10_back_L52 {L : eL} {h0 : eH} {r : eH × Int32} {k107 : eH → Int32 → Option (eH × Int32)} {k116 : eH → Int32 → Option (eH × Int32)} (hk107 : ∀ (h : eH) (v1 : Int32), rf h0 h → k107 h v1 = some r → rf h0 r.1) (hk116 : ∀ (h : eH) (v1 : Int32), rf h0 h → k116 h v1 = some r → rf h0 r.1) : ∀ (n : Nat) (h : eH) (v0 : Nat) (v1 : Int32) (v2 : Int32), rf h0 h → f_X10_back_L52 L n k107 k116 h v0 v1 v2 = some r → rf h0 r.1 := by
  intro n
  induction n with
  | zero => intro h v0 v1 v2 f0 hf; exact absurd hf (by simp [f_X10_back_L52])
  | succ n ih =>
    intro h v0 v1 v2 f0 hf
    unfold f_X10_back_L52 at hf
    rcases e_or hf with hf | hf
    · exact hk116 _ _ f0 hf
    · replace hf := (e_if hf).2
      obtain ⟨b27, hb28, hf⟩ := e_bd hf
      obtain ⟨b30, hb31, hf⟩ := e_bd hf
      replace hf := (e_if hf).2
      replace hf := (e_if hf).2
      obtain ⟨r33, hr34, hf⟩ := e_bd hf
      rcases e_or hf with hf | hf
      · exact g_X10_back_J94 ih hk107 hk116 _ _ _ _  f0 hf
      · obtain ⟨b41, hb42, hf⟩ := e_bd hf
        replace hf := (e_if hf).2
        rcases e_or hf with hf | hf
        · exact g_X10_back_J94 ih hk107 hk116 _ _ _ _  f0 hf
        · exact g_X10_back_J94 ih hk107 hk116 _ _ _ _  f0 hf
theorem g_X10_back {L : eL} {h0 h : eH} {v0 : Nat} {r : eH × Int32} (f0 : rf h0 h) (hf : f_X10_back L h v0 = some r) : rf h0 r.1 := by
  unfold f_X10_back at hf
  replace hf := (e_if hf).2
  obtain ⟨b1, hb2, hf⟩ := e_bd hf
  replace hf := (e_if hf).2
  rcases e_or hf with hf | hf
  · exact rf_oW hf f0
  · obtain ⟨b4, hb5, hf⟩ := e_bd hf
    obtain ⟨b7, hb8, hf⟩ := e_bd hf
    obtain ⟨r10, hr11, hf⟩ := e_bd hf
    obtain ⟨b12, hb13, hf⟩ := e_bd hf
    replace hf := (e_if hf).2
    replace hf := (e_if hf).2
    obtain ⟨r15, hr16, hf⟩ := e_bd hf
    have f17 := g_X9_measure   f0 hr16
    obtain ⟨b18, hb19, hf⟩ := e_bd hf
    obtain ⟨b21, hb22, hf⟩ := e_bd hf
    replace hf := (e_if hf).2
    obtain ⟨r24, hr25, hf⟩ := e_bd hf
    have f26 := g_X6_copyFrom   f17 hr25
    refine g_X10_back_L52 ?_ ?_ e_fu _ _ _ _  f26 hf
    · intro h44 w1_45 f46 hf
      exact rf_oW hf f46
    · intro h47 w1_48 f49 hf
      exact rf_oW hf f49
theorem g_X10_plug_L15 {L : eL} {h0 : eH} {r : eH × Int32} {k78 : eH → Nat → Int32 → Int32 → Option (eH × Int32)} (hk78 : ∀ (h : eH) (v0 : Nat) (v3 : Int32) (v4 : Int32), rf h0 h → k78 h v0 v3 v4 = some r → rf h0 r.1) : ∀ (n : Nat) (h : eH) (v0 : Nat) (v1 : Int64) (v3 : Int32) (v4 : Int32) (v5 : Int32), rf h0 h → f_X10_plug_L15 L n k78 h v0 v1 v3 v4 v5 = some r → rf h0 r.1 := by
  intro n
  induction n with
  | zero => intro h v0 v1 v3 v4 v5 f0 hf; exact absurd hf (by simp [f_X10_plug_L15])
  | succ n ih =>
    intro h v0 v1 v3 v4 v5 f0 hf
    unfold f_X10_plug_L15 at hf
    rcases e_or hf with hf | hf
    · exact hk78 _ _ _ _  f0 hf
    · rcases e_or hf with hf | hf
      · exact ih _ _ _ _ _ _  f0 hf
      · replace hf := (e_if hf).2
        obtain ⟨b3, hb4, hf⟩ := e_bd hf
        obtain ⟨b6, hb7, hf⟩ := e_bd hf
        replace hf := (e_if hf).2
        obtain ⟨r9, hr10, hf⟩ := e_bd hf
        have f11 := g_X9_measure   f0 hr10
        obtain ⟨b12, hb13, hf⟩ := e_bd hf
        replace hf := (e_if hf).2
        obtain ⟨r15, hr16, hf⟩ := e_bd hf
        rcases e_or hf with hf | hf
        · exact ih _ _ _ _ _ _  f11 hf
        · exact ih _ _ _ _ _ _  f11 hf
theorem g_X10_plug {L : eL} {h0 h : eH} {v0 : Nat} {r : eH × Int32} (f0 : rf h0 h) (hf : f_X10_plug L h v0 = some r) : rf h0 r.1 := by
  unfold f_X10_plug at hf
  replace hf := (e_if hf).2
  obtain ⟨r1, hr2, hf⟩ := e_bd hf
  refine g_X10_plug_L15 ?_ e_fu _ _ _ _ _ _  f0 hf
  · intro h17 w0_18 w3_19 w4_20 f21 hf
    replace hf := (e_if hf).2
    obtain ⟨b22, hb23, hf⟩ := e_bd hf
    replace hf := (e_if hf).2
    obtain ⟨r25, hr26, hf⟩ := e_bd hf
    have f27 := g_X3_begin  f21 hr26
    obtain ⟨b28, hb29, hf⟩ := e_bd hf
    replace hf := (e_if hf).2
    obtain ⟨r31, hr32, hf⟩ := e_bd hf
    have f33 := g_X3_add  f27 hr32
    exact rf_oW hf f33
theorem g_X10_doors_L74 {L : eL} {h0 : eH} {r : eH × Int32} {k144 : eH → Nat → Int64 → Option (eH × Int32)} (hk144 : ∀ (h : eH) (v0 : Nat) (v5 : Int64), rf h0 h → k144 h v0 v5 = some r → rf h0 r.1) : ∀ (n : Nat) (h : eH) (v0 : Nat) (v1 : Int64) (v3 : Int64) (v5 : Int64) (v7 : Int32), rf h0 h → f_X10_doors_L74 L n k144 h v0 v1 v3 v5 v7 = some r → rf h0 r.1 := by
  intro n
  induction n with
  | zero => intro h v0 v1 v3 v5 v7 f0 hf; exact absurd hf (by simp [f_X10_doors_L74])
  | succ n ih =>
    intro h v0 v1 v3 v5 v7 f0 hf
    unfold f_X10_doors_L74 at hf
    rcases e_or hf with hf | hf
    · exact hk144 _ _ _  f0 hf
    · rcases e_or hf with hf | hf
      · exact ih _ _ _ _ _ _  f0 hf
      · replace hf := (e_if hf).2
        obtain ⟨b20, hb21, hf⟩ := e_bd hf
        obtain ⟨b23, hb24, hf⟩ := e_bd hf
        replace hf := (e_if hf).2
        replace hf := (e_if hf).2
        obtain ⟨r26, hr27, hf⟩ := e_bd hf
        obtain ⟨b28, hb29, hf⟩ := e_bd hf
        replace hf := (e_if hf).2
        rcases e_or hf with hf | hf
        · exact ih _ _ _ _ _ _  f0 hf
        · exact ih _ _ _ _ _ _  f0 hf
theorem g_X10_doors {L : eL} {h0 h : eH} {v0 : Nat} {r : eH × Int32} (f0 : rf h0 h) (hf : f_X10_doors L h v0 = some r) : rf h0 r.1 := by
  unfold f_X10_doors at hf
  replace hf := (e_if hf).2
  obtain ⟨r1, hr2, hf⟩ := e_bd hf
  obtain ⟨b3, hb4, hf⟩ := e_bd hf
  obtain ⟨b6, hb7, hf⟩ := e_bd hf
  replace hf := (e_if hf).2
  replace hf := (e_if hf).2
  obtain ⟨r9, hr10, hf⟩ := e_bd hf
  obtain ⟨b11, hb12, hf⟩ := e_bd hf
  replace hf := (e_if hf).2
  rcases e_or hf with hf | hf
  · exact rf_oW hf f0
  · obtain ⟨b14, hb15, hf⟩ := e_bd hf
    replace hf := (e_if hf).2
    obtain ⟨b17, hb18, hf⟩ := e_bd hf
    replace hf := (e_if hf).2
    refine g_X10_doors_L74 ?_ e_fu _ _ _ _ _ _  f0 hf
    · intro h31 w0_32 w5_33 f34 hf
      replace hf := (e_if hf).2
      obtain ⟨b35, hb36, hf⟩ := e_bd hf
      replace hf := (e_if hf).2
      obtain ⟨r38, hr39, hf⟩ := e_bd hf
      have f40 := g_X3_begin  f34 hr39
      obtain ⟨b41, hb42, hf⟩ := e_bd hf
      replace hf := (e_if hf).2
      obtain ⟨r44, hr45, hf⟩ := e_bd hf
      have f46 := g_X3_add  f40 hr45
      exact rf_oW hf f46
theorem g_X10_chairs_L48 {L : eL} {h0 : eH} {r : eH × Int32} {k122 : eH → Nat → Int32 → Int32 → Option (eH × Int32)} (hk122 : ∀ (h : eH) (v0 : Nat) (v4 : Int32) (v5 : Int32), rf h0 h → k122 h v0 v4 v5 = some r → rf h0 r.1) : ∀ (n : Nat) (h : eH) (v0 : Nat) (v1 : Int64) (v3 : Int32) (v4 : Int32) (v5 : Int32) (v6 : Int32), rf h0 h → f_X10_chairs_L48 L n k122 h v0 v1 v3 v4 v5 v6 = some r → rf h0 r.1 := by
  intro n
  induction n with
  | zero => intro h v0 v1 v3 v4 v5 v6 f0 hf; exact absurd hf (by simp [f_X10_chairs_L48])
  | succ n ih =>
    intro h v0 v1 v3 v4 v5 v6 f0 hf
    unfold f_X10_chairs_L48 at hf
    rcases e_or hf with hf | hf
    · exact hk122 _ _ _ _  f0 hf
    · replace hf := (e_if hf).2
      obtain ⟨b14, hb15, hf⟩ := e_bd hf
      replace hf := (e_if hf).2
      rcases e_or hf with hf | hf
      · exact ih _ _ _ _ _ _ _  f0 hf
      · obtain ⟨b17, hb18, hf⟩ := e_bd hf
        obtain ⟨b20, hb21, hf⟩ := e_bd hf
        replace hf := (e_if hf).2
        replace hf := (e_if hf).2
        obtain ⟨r23, hr24, hf⟩ := e_bd hf
        rcases e_or hf with hf | hf
        · exact ih _ _ _ _ _ _ _  f0 hf
        · exact ih _ _ _ _ _ _ _  f0 hf
theorem g_X10_chairs {L : eL} {h0 h : eH} {v0 : Nat} {r : eH × Int32} (f0 : rf h0 h) (hf : f_X10_chairs L h v0 = some r) : rf h0 r.1 := by
  unfold f_X10_chairs at hf
  replace hf := (e_if hf).2
  obtain ⟨b1, hb2, hf⟩ := e_bd hf
  replace hf := (e_if hf).2
  rcases e_or hf with hf | hf
  · exact rf_oW hf f0
  · obtain ⟨r4, hr5, hf⟩ := e_bd hf
    obtain ⟨b6, hb7, hf⟩ := e_bd hf
    obtain ⟨b9, hb10, hf⟩ := e_bd hf
    replace hf := (e_if hf).2
    replace hf := (e_if hf).2
    obtain ⟨r12, hr13, hf⟩ := e_bd hf
    refine g_X10_chairs_L48 ?_ e_fu _ _ _ _ _ _ _  f0 hf
    · intro h25 w0_26 w4_27 w5_28 f29 hf
      replace hf := (e_if hf).2
      obtain ⟨b30, hb31, hf⟩ := e_bd hf
      replace hf := (e_if hf).2
      obtain ⟨r33, hr34, hf⟩ := e_bd hf
      have f35 := g_X3_begin  f29 hr34
      obtain ⟨b36, hb37, hf⟩ := e_bd hf
      replace hf := (e_if hf).2
      obtain ⟨r39, hr40, hf⟩ := e_bd hf
      have f41 := g_X3_add  f35 hr40
      exact rf_oW hf f41
theorem g_X7_noteFound_L12 {L : eL} {h0 : eH} {r : eH} {k41 : eH → Option eH} (hk41 : ∀ (h : eH), rf h0 h → k41 h = some r → rf h0 r) : ∀ (n : Nat) (h : eH) (v0 : Nat) (v1 : Int32) (v3 : Int32), rf h0 h → f_X7_noteFound_L12 L n k41 h v0 v1 v3 = some r → rf h0 r := by
  intro n
  induction n with
  | zero => intro h v0 v1 v3 f0 hf; exact absurd hf (by simp [f_X7_noteFound_L12])
  | succ n ih =>
    intro h v0 v1 v3 f0 hf
    unfold f_X7_noteFound_L12 at hf
    rcases e_or hf with hf | hf
    · exact hk41 _ f0 hf
    · rcases e_or hf with hf | hf
      · exact hk41 _ f0 hf
      · replace hf := (e_if hf).2
        obtain ⟨b1, hb2, hf⟩ := e_bd hf
        obtain ⟨b4, hb5, hf⟩ := e_bd hf
        replace hf := (e_if hf).2
        replace hf := (e_if hf).2
        obtain ⟨h7, hh8, hf⟩ := e_bd hf
        have f9 := rf_oV hh8 (rf_sI f0 )
        exact ih _ _ _ _  f9 hf
theorem g_X7_noteFound {L : eL} {h0 h : eH} {v0 : Nat} {v1 : Int32} {v2 : Int32} {r : eH} (f0 : rf h0 h) (hf : f_X7_noteFound L h v0 v1 v2 = some r) : rf h0 r := by
  unfold f_X7_noteFound at hf
  replace hf := (e_if hf).2
  refine g_X7_noteFound_L12 ?_ e_fu _ _ _ _  (rf_sI (rf_sI f0 ) ) hf
  · intro h10 f11 hf
    exact rf_oV hf f11
theorem g_X7_goFarther_o_J144 {L : eL} {h0 : eH} {rec_X7_goFarther : eH → Nat → Int32 → Int32 → Int32 → Int64 → Option eH} {r : eH} {k76 : eH → Nat → Int32 → Int32 → Int32 → Int64 → Int32 → Option eH} {k173 : eH → Option eH} (grec_X7_goFarther : ∀ (h : eH) (a0 : Nat) (a1 : Int32) (a2 : Int32) (a3 : Int32) (a4 : Int64) {z : eH}, rf h0 h → rec_X7_goFarther h a0 a1 a2 a3 a4 = some z → rf h0 z) (hk76 : ∀ (h : eH) (v0 : Nat) (v1 : Int32) (v2 : Int32) (v3 : Int32) (v4 : Int64) (v6 : Int32), rf h0 h → k76 h v0 v1 v2 v3 v4 v6 = some r → rf h0 r) (hk173 : ∀ (h : eH), rf h0 h → k173 h = some r → rf h0 r) : ∀ (h : eH) (v0 : Nat) (v1 : Int32) (v2 : Int32) (v3 : Int32) (v4 : Int64) (v6 : Int32) (v7 : Int32) (s0 : Int32), rf h0 h → f_X7_goFarther_o_J144 L rec_X7_goFarther k76 k173 h v0 v1 v2 v3 v4 v6 v7 s0 = some r → rf h0 r := by
  intro h v0 v1 v2 v3 v4 v6 v7 s0 f0 hf
  unfold f_X7_goFarther_o_J144 at hf
  replace hf := (e_if hf).2
  obtain ⟨r25, hr26, hf⟩ := e_bd hf
  have f27 := grec_X7_goFarther _ _ _ _ _ _  f0 hr26
  exact hk76 _ _ _ _ _ _ _  f27 hf
theorem g_X7_goFarther_o_L76 {L : eL} {h0 : eH} {rec_X7_goFarther : eH → Nat → Int32 → Int32 → Int32 → Int64 → Option eH} {r : eH} {k173 : eH → Option eH} (grec_X7_goFarther : ∀ (h : eH) (a0 : Nat) (a1 : Int32) (a2 : Int32) (a3 : Int32) (a4 : Int64) {z : eH}, rf h0 h → rec_X7_goFarther h a0 a1 a2 a3 a4 = some z → rf h0 z) (hk173 : ∀ (h : eH), rf h0 h → k173 h = some r → rf h0 r) : ∀ (n : Nat) (h : eH) (v0 : Nat) (v1 : Int32) (v2 : Int32) (v3 : Int32) (v4 : Int64) (v6 : Int32), rf h0 h → f_X7_goFarther_o_L76 L rec_X7_goFarther n k173 h v0 v1 v2 v3 v4 v6 = some r → rf h0 r := by
  intro n
  induction n with
  | zero => intro h v0 v1 v2 v3 v4 v6 f0 hf; exact absurd hf (by simp [f_X7_goFarther_o_L76])
  | succ n ih =>
    intro h v0 v1 v2 v3 v4 v6 f0 hf
    unfold f_X7_goFarther_o_L76 at hf
    rcases e_or hf with hf | hf
    · exact hk173 _ f0 hf
    · replace hf := (e_if hf).2
      obtain ⟨b12, hb13, hf⟩ := e_bd hf
      replace hf := (e_if hf).2
      replace hf := (e_if hf).2
      obtain ⟨r15, hr16, hf⟩ := e_bd hf
      rcases e_or hf with hf | hf
      · exact ih _ _ _ _ _ _ _  f0 hf
      · obtain ⟨b17, hb18, hf⟩ := e_bd hf
        replace hf := (e_if hf).2
        rcases e_or hf with hf | hf
        · obtain ⟨b20, hb21, hf⟩ := e_bd hf
          replace hf := (e_if hf).2
          obtain ⟨r23, hr24, hf⟩ := e_bd hf
          exact g_X7_goFarther_o_J144 grec_X7_goFarther ih hk173 _ _ _ _ _ _ _ _ _  (rf_sI f0 ) hf
        · exact g_X7_goFarther_o_J144 grec_X7_goFarther ih hk173 _ _ _ _ _ _ _ _ _  (rf_sI f0 ) hf
theorem g_X7_goFarther_o_J30 {L : eL} {h0 : eH} {rec_X7_goFarther : eH → Nat → Int32 → Int32 → Int32 → Int64 → Option eH} {r : eH} (grec_X7_goFarther : ∀ (h : eH) (a0 : Nat) (a1 : Int32) (a2 : Int32) (a3 : Int32) (a4 : Int64) {z : eH}, rf h0 h → rec_X7_goFarther h a0 a1 a2 a3 a4 = some z → rf h0 z) : ∀ (h : eH) (v0 : Nat) (v1 : Int32) (v2 : Int32) (v3 : Int32) (v4 : Int64), rf h0 h → f_X7_goFarther_o_J30 L rec_X7_goFarther h v0 v1 v2 v3 v4 = some r → rf h0 r := by
  intro h v0 v1 v2 v3 v4 f0 hf
  unfold f_X7_goFarther_o_J30 at hf
  rcases e_or hf with hf | hf
  · exact rf_oV hf f0
  · replace hf := (e_if hf).2
    rcases e_or hf with hf | hf
    · exact rf_oV hf f0
    · rcases e_or hf with hf | hf
      · exact rf_oV hf f0
      · obtain ⟨r4, hr5, hf⟩ := e_bd hf
        rcases e_or hf with hf | hf
        · exact rf_oV hf f0
        · obtain ⟨b6, hb7, hf⟩ := e_bd hf
          obtain ⟨b9, hb10, hf⟩ := e_bd hf
          refine g_X7_goFarther_o_L76 grec_X7_goFarther ?_ e_fu _ _ _ _ _ _ _  f0 hf
          · intro h28 f29 hf
            exact rf_oV hf f29
theorem g_X7_goFarther_o {L : eL} {h0 h : eH} {rec_X7_goFarther : eH → Nat → Int32 → Int32 → Int32 → Int64 → Option eH} {v0 : Nat} {v1 : Int32} {v2 : Int32} {v3 : Int32} {v4 : Int64} {r : eH} (grec_X7_goFarther : ∀ (h : eH) (a0 : Nat) (a1 : Int32) (a2 : Int32) (a3 : Int32) (a4 : Int64) {z : eH}, rf h0 h → rec_X7_goFarther h a0 a1 a2 a3 a4 = some z → rf h0 z) (f0 : rf h0 h) (hf : f_X7_goFarther_o L rec_X7_goFarther h v0 v1 v2 v3 v4 = some r) : rf h0 r := by
  unfold f_X7_goFarther_o at hf
  replace hf := (e_if hf).2
  rcases e_or hf with hf | hf
  · obtain ⟨r1, hr2, hf⟩ := e_bd hf
    have f3 := g_X7_noteFound  f0 hr2
    exact g_X7_goFarther_o_J30 grec_X7_goFarther _ _ _ _ _ _  f3 hf
  · rcases e_or hf with hf | hf
    · rcases e_or hf with hf | hf
      · exact g_X7_goFarther_o_J30 grec_X7_goFarther _ _ _ _ _ _  f0 hf
      · obtain ⟨r30, hr31, hf⟩ := e_bd hf
        have f32 := g_X7_noteFound  f0 hr31
        exact g_X7_goFarther_o_J30 grec_X7_goFarther _ _ _ _ _ _  f32 hf
    · exact g_X7_goFarther_o_J30 grec_X7_goFarther _ _ _ _ _ _  f0 hf
theorem gg_X7_goFarther {L : eL} {h0 : eH} : ∀ (n t : Nat) (h : eH) (x0 : Nat) (x1 : Int32) (x2 : Int32) (x3 : Int32) (x4 : Int64) (r : eH), rf h0 h → fg_X7_goFarther L n t h x0 x1 x2 x3 x4 = some r → rf h0 r := by
  intro n
  induction n with
  | zero => intro t h x0 x1 x2 x3 x4 r f0 hf; exact absurd hf (by simp [fg_X7_goFarther])
  | succ n ih =>
    intro t h x0 x1 x2 x3 x4 r f0 hf
    unfold fg_X7_goFarther at hf
    exact g_X7_goFarther_o (fun hh a0 a1 a2 a3 a4 {z} ff hz => ih _ _ _ _ _ _ _ z ff hz) f0 hf
theorem g_X7_goFarther {L : eL} {h0 h : eH} {x0 : Nat} {x1 : Int32} {x2 : Int32} {x3 : Int32} {x4 : Int64} {r : eH} (f0 : rf h0 h) (hf : f_X7_goFarther L h x0 x1 x2 x3 x4 = some r) : rf h0 r := gg_X7_goFarther 100 0 h x0 x1 x2 x3 x4 r f0 hf
theorem g_X0_add {L : eL} {h0 h : eH} {v0 : Nat} {v1 : Int32} {r : eH × Int32} (f0 : rf h0 h) (hf : f_X0_add L h v0 v1 = some r) : rf h0 r.1 := by
  unfold f_X0_add at hf
  replace hf := (e_if hf).2
  rcases e_or hf with hf | hf
  · exact rf_oW hf f0
  · rcases e_or hf with hf | hf
    · obtain ⟨b1, hb2, hf⟩ := e_bd hf
      replace hf := (e_if hf).2
      obtain ⟨h4, hh5, hf⟩ := e_bd hf
      have f6 := rf_oV hh5 (rf_sI (rf_sI f0 ) )
      exact rf_oW hf f6
    · exact rf_oW hf f0
theorem g_X0_goOnAll_L3 {L : eL} {h0 : eH} {r : eH} {k37 : eH → Option eH} (hk37 : ∀ (h : eH), rf h0 h → k37 h = some r → rf h0 r) : ∀ (n : Nat) (h : eH) (v0 : Nat) (v1 : Nat) (v2 : Int64) (v4 : Int32), rf h0 h → f_X0_goOnAll_L3 L n k37 h v0 v1 v2 v4 = some r → rf h0 r := by
  intro n
  induction n with
  | zero => intro h v0 v1 v2 v4 f0 hf; exact absurd hf (by simp [f_X0_goOnAll_L3])
  | succ n ih =>
    intro h v0 v1 v2 v4 f0 hf
    unfold f_X0_goOnAll_L3 at hf
    rcases e_or hf with hf | hf
    · exact hk37 _ f0 hf
    · replace hf := (e_if hf).2
      obtain ⟨b1, hb2, hf⟩ := e_bd hf
      obtain ⟨b4, hb5, hf⟩ := e_bd hf
      replace hf := (e_if hf).2
      replace hf := (e_if hf).2
      obtain ⟨r7, hr8, hf⟩ := e_bd hf
      replace hf := (e_if hf).2
      exact ih _ _ _ _ _   (rf_sL f0 ) hf
theorem g_X0_goOnAll {L : eL} {h0 h : eH} {v0 : Nat} {v1 : Nat} {v2 : Int64} {r : eH} (f0 : rf h0 h) (hf : f_X0_goOnAll L h v0 v1 v2 = some r) : rf h0 r := by
  unfold f_X0_goOnAll at hf
  refine g_X0_goOnAll_L3 ?_ e_fu _ _ _ _ _   f0 hf
  · intro h9 f10 hf
    exact rf_oV hf f10
theorem g_X0_strikeAll_L3 {L : eL} {h0 : eH} {r : eH} {k36 : eH → Option eH} (hk36 : ∀ (h : eH), rf h0 h → k36 h = some r → rf h0 r) : ∀ (n : Nat) (h : eH) (v0 : Nat) (v1 : Nat) (v2 : Int64) (v4 : Int32), rf h0 h → f_X0_strikeAll_L3 L n k36 h v0 v1 v2 v4 = some r → rf h0 r := by
  intro n
  induction n with
  | zero => intro h v0 v1 v2 v4 f0 hf; exact absurd hf (by simp [f_X0_strikeAll_L3])
  | succ n ih =>
    intro h v0 v1 v2 v4 f0 hf
    unfold f_X0_strikeAll_L3 at hf
    rcases e_or hf with hf | hf
    · exact hk36 _ f0 hf
    · replace hf := (e_if hf).2
      obtain ⟨b1, hb2, hf⟩ := e_bd hf
      replace hf := (e_if hf).2
      obtain ⟨r4, hr5, hf⟩ := e_bd hf
      obtain ⟨h6, hh7, hf⟩ := e_bd hf
      have f8 := rf_oV hh7 (rf_sL f0 )
      exact ih _ _ _ _ _   f8 hf
theorem g_X0_strikeAll {L : eL} {h0 h : eH} {v0 : Nat} {v1 : Nat} {v2 : Int64} {r : eH} (f0 : rf h0 h) (hf : f_X0_strikeAll L h v0 v1 v2 = some r) : rf h0 r := by
  unfold f_X0_strikeAll at hf
  refine g_X0_strikeAll_L3 ?_ e_fu _ _ _ _ _   f0 hf
  · intro h9 f10 hf
    exact rf_oV hf f10
theorem g_X0_swingAll_L2 {L : eL} {h0 : eH} {r : eH} {k63 : eH → Option eH} (hk63 : ∀ (h : eH), rf h0 h → k63 h = some r → rf h0 r) : ∀ (n : Nat) (h : eH) (v0 : Nat) (v1 : Int32) (v2 : Int32), rf h0 h → f_X0_swingAll_L2 L n k63 h v0 v1 v2 = some r → rf h0 r := by
  intro n
  induction n with
  | zero => intro h v0 v1 v2 f0 hf; exact absurd hf (by simp [f_X0_swingAll_L2])
  | succ n ih =>
    intro h v0 v1 v2 f0 hf
    unfold f_X0_swingAll_L2 at hf
    rcases e_or hf with hf | hf
    · exact hk63 _ f0 hf
    · replace hf := (e_if hf).2
      obtain ⟨b1, hb2, hf⟩ := e_bd hf
      replace hf := (e_if hf).2
      obtain ⟨b4, hb5, hf⟩ := e_bd hf
      obtain ⟨b7, hb8, hf⟩ := e_bd hf
      replace hf := (e_if hf).2
      replace hf := (e_if hf).2
      obtain ⟨h10, hh11, hf⟩ := e_bd hf
      have f12 := rf_oV hh11 (rf_sL f0 )
      obtain ⟨b13, hb14, hf⟩ := e_bd hf
      obtain ⟨b16, hb17, hf⟩ := e_bd hf
      replace hf := (e_if hf).2
      replace hf := (e_if hf).2
      obtain ⟨h19, hh20, hf⟩ := e_bd hf
      have f21 := rf_oV hh20 (rf_sL f12 )
      obtain ⟨b22, hb23, hf⟩ := e_bd hf
      obtain ⟨b25, hb26, hf⟩ := e_bd hf
      replace hf := (e_if hf).2
      replace hf := (e_if hf).2
      obtain ⟨h28, hh29, hf⟩ := e_bd hf
      have f30 := rf_oV hh29 (rf_sL f21 )
      obtain ⟨b31, hb32, hf⟩ := e_bd hf
      replace hf := (e_if hf).2
      obtain ⟨h34, hh35, hf⟩ := e_bd hf
      have f36 := rf_oV hh35 (rf_sL f30 )
      exact ih _ _ _ _  f36 hf
theorem g_X0_swingAll {L : eL} {h0 h : eH} {v0 : Nat} {v1 : Int32} {r : eH} (f0 : rf h0 h) (hf : f_X0_swingAll L h v0 v1 = some r) : rf h0 r := by
  unfold f_X0_swingAll at hf
  refine g_X0_swingAll_L2 ?_ e_fu _ _ _ _  f0 hf
  · intro h37 f38 hf
    exact rf_oV hf f38
theorem g_X0_find_L11 {L : eL} {h0 : eH} {r : eH} {k83 : eH → Option eH} (hk83 : ∀ (h : eH), rf h0 h → k83 h = some r → rf h0 r) : ∀ (n : Nat) (h : eH) (v0 : Nat) (v1 : Nat) (v2 : Int64) (v4 : Int32), rf h0 h → f_X0_find_L11 L n k83 h v0 v1 v2 v4 = some r → rf h0 r := by
  intro n
  induction n with
  | zero => intro h v0 v1 v2 v4 f0 hf; exact absurd hf (by simp [f_X0_find_L11])
  | succ n ih =>
    intro h v0 v1 v2 v4 f0 hf
    unfold f_X0_find_L11 at hf
    replace hf := (e_if hf).2
    rcases e_or hf with hf | hf
    · exact hk83 _ f0 hf
    · rcases e_or hf with hf | hf
      · exact hk83 _ f0 hf
      · obtain ⟨b7, hb8, hf⟩ := e_bd hf
        replace hf := (e_if hf).2
        rcases e_or hf with hf | hf
        · obtain ⟨r22, hr23, hf⟩ := e_bd hf
          have f24 := g_X0_goOnAll   f0 hr23
          exact ih _ _ _ _ _   f24 hf
        · obtain ⟨b10, hb11, hf⟩ := e_bd hf
          replace hf := (e_if hf).2
          rcases e_or hf with hf | hf
          · obtain ⟨r19, hr20, hf⟩ := e_bd hf
            have f21 := g_X0_strikeAll   f0 hr20
            exact ih _ _ _ _ _   f21 hf
          · obtain ⟨b13, hb14, hf⟩ := e_bd hf
            replace hf := (e_if hf).2
            obtain ⟨r16, hr17, hf⟩ := e_bd hf
            have f18 := g_X0_swingAll  f0 hr17
            exact ih _ _ _ _ _   f18 hf
theorem g_X0_find {L : eL} {h0 h : eH} {v0 : Nat} {v1 : Nat} {v2 : Int64} {r : eH} (f0 : rf h0 h) (hf : f_X0_find L h v0 v1 v2 = some r) : rf h0 r := by
  unfold f_X0_find at hf
  replace hf := (e_if hf).2
  obtain ⟨b1, hb2, hf⟩ := e_bd hf
  obtain ⟨r4, hr5, hf⟩ := e_bd hf
  have f6 := g_J7_fill_d0a16  f0 hr5
  refine g_X0_find_L11 ?_ e_fu _ _ _ _ _   f6 hf
  · intro h25 f26 hf
    exact rf_oV hf f26
theorem g_X10_heardOf {L : eL} {h0 h : eH} {v0 : Nat} {v1 : Int32} {r : eH × Int32} (f0 : rf h0 h) (hf : f_X10_heardOf L h v0 v1 = some r) : rf h0 r.1 := by
  unfold f_X10_heardOf at hf
  replace hf := (e_if hf).2
  obtain ⟨b1, hb2, hf⟩ := e_bd hf
  replace hf := (e_if hf).2
  obtain ⟨r4, hr5, hf⟩ := e_bd hf
  have f6 := g_X0_add  f0 hr5
  rcases e_or hf with hf | hf
  · exact rf_oW hf f6
  · obtain ⟨b7, hb8, hf⟩ := e_bd hf
    obtain ⟨b10, hb11, hf⟩ := e_bd hf
    obtain ⟨r13, hr14, hf⟩ := e_bd hf
    replace hf := (e_if hf).2
    obtain ⟨r15, hr16, hf⟩ := e_bd hf
    have f17 := g_X0_find   f6 hr16
    obtain ⟨b18, hb19, hf⟩ := e_bd hf
    replace hf := (e_if hf).2
    obtain ⟨r21, hr22, hf⟩ := e_bd hf
    exact rf_oW hf f17
theorem g_X10_felt_J11 {L : eL} {h0 : eH} {r : eH × Int32}  : ∀ (h : eH) (v0 : Nat) (v1 : Int32), rf h0 h → f_X10_felt_J11 L h v0 v1 = some r → rf h0 r.1 := by
  intro h v0 v1 f0 hf
  unfold f_X10_felt_J11 at hf
  rcases e_or hf with hf | hf
  · replace hf := (e_if hf).2
    obtain ⟨r4, hr5, hf⟩ := e_bd hf
    have f6 := g_X10_heardOf  f0 hr5
    exact rf_oW hf f6
  · replace hf := (e_if hf).2
    obtain ⟨r1, hr2, hf⟩ := e_bd hf
    have f3 := g_X10_heardOf  f0 hr2
    exact rf_oW hf f3
theorem g_X10_felt {L : eL} {h0 h : eH} {v0 : Nat} {v1 : Int32} {r : eH × Int32} (f0 : rf h0 h) (hf : f_X10_felt L h v0 v1 = some r) : rf h0 r.1 := by
  unfold f_X10_felt at hf
  rcases e_or hf with hf | hf
  · exact g_X10_felt_J11 _ _ _  f0 hf
  · rcases e_or hf with hf | hf
    · exact g_X10_felt_J11 _ _ _  f0 hf
    · exact rf_oW hf f0
theorem g_X10_swung {L : eL} {h0 h : eH} {v0 : Nat} {v1 : Int32} {r : eH × Int32} (f0 : rf h0 h) (hf : f_X10_swung L h v0 v1 = some r) : rf h0 r.1 := by
  unfold f_X10_swung at hf
  rcases e_or hf with hf | hf
  · exact rf_oW hf f0
  · rcases e_or hf with hf | hf
    · replace hf := (e_if hf).2
      obtain ⟨r1, hr2, hf⟩ := e_bd hf
      have f3 := g_X10_heardOf  f0 hr2
      exact rf_oW hf f3
    · exact rf_oW hf f0
theorem g_X10_forget {L : eL} {h0 h : eH} {v0 : Nat} {r : eH × Int32} (f0 : rf h0 h) (hf : f_X10_forget L h v0 = some r) : rf h0 r.1 := by
  unfold f_X10_forget at hf
  replace hf := (e_if hf).2
  obtain ⟨b1, hb2, hf⟩ := e_bd hf
  replace hf := (e_if hf).2
  obtain ⟨r4, hr5, hf⟩ := e_bd hf
  obtain ⟨b6, hb7, hf⟩ := e_bd hf
  replace hf := (e_if hf).2
  obtain ⟨r9, hr10, hf⟩ := e_bd hf
  have f11 := g_X0_clear  f0 hr10
  exact rf_oW hf f11
theorem g_X10_held {L : eL} {h0 h : eH} {v0 : Nat} {r : eH × Int32} (f0 : rf h0 h) (hf : f_X10_held L h v0 = some r) : rf h0 r.1 := by
  unfold f_X10_held at hf
  replace hf := (e_if hf).2
  obtain ⟨b1, hb2, hf⟩ := e_bd hf
  obtain ⟨b4, hb5, hf⟩ := e_bd hf
  obtain ⟨r7, hr8, hf⟩ := e_bd hf
  replace hf := (e_if hf).2
  obtain ⟨r9, hr10, hf⟩ := e_bd hf
  have f11 := g_X0_find   f0 hr10
  obtain ⟨b12, hb13, hf⟩ := e_bd hf
  replace hf := (e_if hf).2
  obtain ⟨r15, hr16, hf⟩ := e_bd hf
  have f17 := g_X3_begin  f11 hr16
  obtain ⟨b18, hb19, hf⟩ := e_bd hf
  obtain ⟨b21, hb22, hf⟩ := e_bd hf
  replace hf := (e_if hf).2
  obtain ⟨r24, hr25, hf⟩ := e_bd hf
  replace hf := (e_if hf).2
  obtain ⟨r26, hr27, hf⟩ := e_bd hf
  have f28 := g_X3_add  f17 hr27
  obtain ⟨b29, hb30, hf⟩ := e_bd hf
  obtain ⟨b32, hb33, hf⟩ := e_bd hf
  replace hf := (e_if hf).2
  obtain ⟨r35, hr36, hf⟩ := e_bd hf
  replace hf := (e_if hf).2
  obtain ⟨r37, hr38, hf⟩ := e_bd hf
  have f39 := g_X3_add  f28 hr38
  obtain ⟨b40, hb41, hf⟩ := e_bd hf
  replace hf := (e_if hf).2
  obtain ⟨r43, hr44, hf⟩ := e_bd hf
  exact rf_oW hf f39
theorem g_X10_feel_L43 {L : eL} {h0 : eH} {r : eH × Int32} {k97 : eH → Nat → Int32 → Int32 → Option (eH × Int32)} (hk97 : ∀ (h : eH) (v0 : Nat) (v4 : Int32) (v5 : Int32), rf h0 h → k97 h v0 v4 v5 = some r → rf h0 r.1) : ∀ (n : Nat) (h : eH) (v0 : Nat) (v1 : Int64) (v3 : Int32) (v4 : Int32) (v5 : Int32) (v6 : Int32), rf h0 h → f_X10_feel_L43 L n k97 h v0 v1 v3 v4 v5 v6 = some r → rf h0 r.1 := by
  intro n
  induction n with
  | zero => intro h v0 v1 v3 v4 v5 v6 f0 hf; exact absurd hf (by simp [f_X10_feel_L43])
  | succ n ih =>
    intro h v0 v1 v3 v4 v5 v6 f0 hf
    unfold f_X10_feel_L43 at hf
    rcases e_or hf with hf | hf
    · exact hk97 _ _ _ _  f0 hf
    · replace hf := (e_if hf).2
      obtain ⟨b17, hb18, hf⟩ := e_bd hf
      obtain ⟨b20, hb21, hf⟩ := e_bd hf
      replace hf := (e_if hf).2
      obtain ⟨r23, hr24, hf⟩ := e_bd hf
      rcases e_or hf with hf | hf
      · exact ih _ _ _ _ _ _ _  f0 hf
      · exact ih _ _ _ _ _ _ _  f0 hf
theorem g_X10_feel {L : eL} {h0 h : eH} {v0 : Nat} {r : eH × Int32} (f0 : rf h0 h) (hf : f_X10_feel L h v0 = some r) : rf h0 r.1 := by
  unfold f_X10_feel at hf
  replace hf := (e_if hf).2
  obtain ⟨r1, hr2, hf⟩ := e_bd hf
  obtain ⟨b3, hb4, hf⟩ := e_bd hf
  obtain ⟨b6, hb7, hf⟩ := e_bd hf
  replace hf := (e_if hf).2
  obtain ⟨r9, hr10, hf⟩ := e_bd hf
  have f11 := g_X0_find   f0 hr10
  obtain ⟨b12, hb13, hf⟩ := e_bd hf
  replace hf := (e_if hf).2
  obtain ⟨r15, hr16, hf⟩ := e_bd hf
  rcases e_or hf with hf | hf
  · exact rf_oW hf f11
  · refine g_X10_feel_L43 ?_ e_fu _ _ _ _ _ _ _  f11 hf
    · intro h25 w0_26 w4_27 w5_28 f29 hf
      replace hf := (e_if hf).2
      obtain ⟨b30, hb31, hf⟩ := e_bd hf
      replace hf := (e_if hf).2
      obtain ⟨r33, hr34, hf⟩ := e_bd hf
      have f35 := g_X3_begin  f29 hr34
      obtain ⟨b36, hb37, hf⟩ := e_bd hf
      replace hf := (e_if hf).2
      obtain ⟨r39, hr40, hf⟩ := e_bd hf
      have f41 := g_X3_add  f35 hr40
      exact rf_oW hf f41
theorem g_X10_stray_J78 {L : eL} {h0 : eH} {r : eH} {k38 : eH → Nat → Int64 → Int32 → Int32 → Option eH} {k102 : eH → Nat → Int64 → Int32 → Option eH} (hk38 : ∀ (h : eH) (v0 : Nat) (v1 : Int64) (v3 : Int32) (v4 : Int32), rf h0 h → k38 h v0 v1 v3 v4 = some r → rf h0 r) (hk102 : ∀ (h : eH) (v0 : Nat) (v1 : Int64) (v3 : Int32), rf h0 h → k102 h v0 v1 v3 = some r → rf h0 r) : ∀ (h : eH) (v0 : Nat) (v1 : Int64) (v3 : Int32) (v4 : Int32) (s0 : Int32), rf h0 h → f_X10_stray_J78 L k38 k102 h v0 v1 v3 v4 s0 = some r → rf h0 r := by
  intro h v0 v1 v3 v4 s0 f0 hf
  unfold f_X10_stray_J78 at hf
  replace hf := (e_if hf).2
  obtain ⟨b17, hb18, hf⟩ := e_bd hf
  replace hf := (e_if hf).2
  obtain ⟨b20, hb21, hf⟩ := e_bd hf
  replace hf := (e_if hf).2
  obtain ⟨h23, hh24, hf⟩ := e_bd hf
  have f25 := rf_oV hh24 (rf_sL f0 )
  exact hk38 _ _ _ _ _  f25 hf
theorem g_X10_stray_L38 {L : eL} {h0 : eH} {r : eH} {k102 : eH → Nat → Int64 → Int32 → Option eH} (hk102 : ∀ (h : eH) (v0 : Nat) (v1 : Int64) (v3 : Int32), rf h0 h → k102 h v0 v1 v3 = some r → rf h0 r) : ∀ (n : Nat) (h : eH) (v0 : Nat) (v1 : Int64) (v3 : Int32) (v4 : Int32), rf h0 h → f_X10_stray_L38 L n k102 h v0 v1 v3 v4 = some r → rf h0 r := by
  intro n
  induction n with
  | zero => intro h v0 v1 v3 v4 f0 hf; exact absurd hf (by simp [f_X10_stray_L38])
  | succ n ih =>
    intro h v0 v1 v3 v4 f0 hf
    unfold f_X10_stray_L38 at hf
    rcases e_or hf with hf | hf
    · exact hk102 _ _ _ _  f0 hf
    · replace hf := (e_if hf).2
      obtain ⟨b12, hb13, hf⟩ := e_bd hf
      replace hf := (e_if hf).2
      obtain ⟨r15, hr16, hf⟩ := e_bd hf
      rcases e_or hf with hf | hf
      · exact g_X10_stray_J78 ih hk102 _ _ _ _ _ _  f0 hf
      · rcases e_or hf with hf | hf
        · exact g_X10_stray_J78 ih hk102 _ _ _ _ _ _  f0 hf
        · exact g_X10_stray_J78 ih hk102 _ _ _ _ _ _  f0 hf
theorem g_X10_stray_L15 {L : eL} {h0 : eH} {r : eH} {k108 : eH → Nat → Option eH} (hk108 : ∀ (h : eH) (v0 : Nat), rf h0 h → k108 h v0 = some r → rf h0 r) : ∀ (n : Nat) (h : eH) (v0 : Nat) (v1 : Int64) (v3 : Int32), rf h0 h → f_X10_stray_L15 L n k108 h v0 v1 v3 = some r → rf h0 r := by
  intro n
  induction n with
  | zero => intro h v0 v1 v3 f0 hf; exact absurd hf (by simp [f_X10_stray_L15])
  | succ n ih =>
    intro h v0 v1 v3 f0 hf
    unfold f_X10_stray_L15 at hf
    rcases e_or hf with hf | hf
    · exact hk108 _ _  f0 hf
    · replace hf := (e_if hf).2
      obtain ⟨b9, hb10, hf⟩ := e_bd hf
      replace hf := (e_if hf).2
      rcases e_or hf with hf | hf
      · exact ih _ _ _ _  f0 hf
      · refine g_X10_stray_L38 ?_ e_fu _ _ _ _ _  f0 hf
        · intro h26 w0_27 w1_28 w3_29 f30 hf
          exact ih _ _ _ _  f30 hf
theorem g_X10_stray {L : eL} {h0 h : eH} {v0 : Nat} {r : eH} (f0 : rf h0 h) (hf : f_X10_stray L h v0 = some r) : rf h0 r := by
  unfold f_X10_stray at hf
  replace hf := (e_if hf).2
  obtain ⟨r1, hr2, hf⟩ := e_bd hf
  obtain ⟨b3, hb4, hf⟩ := e_bd hf
  obtain ⟨r6, hr7, hf⟩ := e_bd hf
  have f8 := g_J7_fill_d0a16  f0 hr7
  refine g_X10_stray_L15 ?_ e_fu _ _ _ _  f8 hf
  · intro h31 w0_32 f33 hf
    replace hf := (e_if hf).2
    obtain ⟨b34, hb35, hf⟩ := e_bd hf
    obtain ⟨b37, hb38, hf⟩ := e_bd hf
    replace hf := (e_if hf).2
    exact rf_oV hf (rf_cpL f33 )
theorem g_X10_tellFraction_L9 {L : eL} {h0 : eH} {r : eH} {k45 : eH → Nat → Int64 → Int64 → Int64 → Option eH} (hk45 : ∀ (h : eH) (v0 : Nat) (v1 : Int64) (v3 : Int64) (v5 : Int64), rf h0 h → k45 h v0 v1 v3 v5 = some r → rf h0 r) : ∀ (n : Nat) (h : eH) (v0 : Nat) (v1 : Int64) (v3 : Int64) (v5 : Int64) (v7 : Int64) (v9 : Int32), rf h0 h → f_X10_tellFraction_L9 L n k45 h v0 v1 v3 v5 v7 v9 = some r → rf h0 r := by
  intro n
  induction n with
  | zero => intro h v0 v1 v3 v5 v7 v9 f0 hf; exact absurd hf (by simp [f_X10_tellFraction_L9])
  | succ n ih =>
    intro h v0 v1 v3 v5 v7 v9 f0 hf
    unfold f_X10_tellFraction_L9 at hf
    rcases e_or hf with hf | hf
    · exact hk45 _ _ _ _ _  f0 hf
    · rcases e_or hf with hf | hf
      · exact hk45 _ _ _ _ _  f0 hf
      · replace hf := (e_ifp hf).2
        exact ih _ _ _ _ _ _ _  f0 hf
theorem g_X10_tellFraction_J58 {L : eL} {h0 : eH} {r : eH}  : ∀ (h : eH) (v0 : Nat) (v1 : Int64) (v3 : Int64) (s0 : Int64), rf h0 h → f_X10_tellFraction_J58 L h v0 v1 v3 s0 = some r → rf h0 r := by
  intro h v0 v1 v3 s0 f0 hf
  unfold f_X10_tellFraction_J58 at hf
  replace hf := (e_if hf).2
  obtain ⟨b7, hb8, hf⟩ := e_bd hf
  replace hf := (e_if hf).2
  obtain ⟨r10, hr11, hf⟩ := e_bd hf
  have f12 := g_X3_begin  f0 hr11
  obtain ⟨b13, hb14, hf⟩ := e_bd hf
  replace hf := (e_ifp hf).2
  replace hf := (e_if hf).2
  obtain ⟨r16, hr17, hf⟩ := e_bd hf
  have f18 := g_X3_add  f12 hr17
  obtain ⟨b19, hb20, hf⟩ := e_bd hf
  replace hf := (e_ifp hf).2
  replace hf := (e_if hf).2
  obtain ⟨r22, hr23, hf⟩ := e_bd hf
  have f24 := g_X3_add  f18 hr23
  exact rf_oV hf f24
theorem g_X10_tellFraction {L : eL} {h0 h : eH} {v0 : Nat} {v1 : Int64} {v3 : Int64} {r : eH} (f0 : rf h0 h) (hf : f_X10_tellFraction L h v0 v1 v3 = some r) : rf h0 r := by
  unfold f_X10_tellFraction at hf
  refine g_X10_tellFraction_L9 ?_ e_fu _ _ _ _ _ _ _  f0 hf
  · intro h1 w0_2 w1_3 w3_4 w5_5 f6 hf
    rcases e_or hf with hf | hf
    · exact g_X10_tellFraction_J58 _ _ _ _ _  f6 hf
    · exact g_X10_tellFraction_J58 _ _ _ _ _  f6 hf
theorem g_X10_likely_L71 {L : eL} {h0 : eH} {r : eH × Int32} {k93 : eH → Nat → Int32 → Int64 → Option (eH × Int32)} (hk93 : ∀ (h : eH) (v0 : Nat) (v2 : Int32) (v3 : Int64), rf h0 h → k93 h v0 v2 v3 = some r → rf h0 r.1) : ∀ (n : Nat) (h : eH) (v0 : Nat) (v1 : Int32) (v2 : Int32) (v3 : Int64) (v5 : Int32), rf h0 h → f_X10_likely_L71 L n k93 h v0 v1 v2 v3 v5 = some r → rf h0 r.1 := by
  intro n
  induction n with
  | zero => intro h v0 v1 v2 v3 v5 f0 hf; exact absurd hf (by simp [f_X10_likely_L71])
  | succ n ih =>
    intro h v0 v1 v2 v3 v5 f0 hf
    unfold f_X10_likely_L71 at hf
    rcases e_or hf with hf | hf
    · exact hk93 _ _ _ _  f0 hf
    · replace hf := (e_if hf).2
      obtain ⟨r15, hr16, hf⟩ := e_bd hf
      have f17 := g_X10_stray  f0 hr16
      exact ih _ _ _ _ _ _  f17 hf
theorem g_X10_likely {L : eL} {h0 h : eH} {v0 : Nat} {v1 : Int32} {v2 : Int32} {r : eH × Int32} (f0 : rf h0 h) (hf : f_X10_likely L h v0 v1 v2 = some r) : rf h0 r.1 := by
  unfold f_X10_likely at hf
  rcases e_or hf with hf | hf
  · exact rf_oW hf f0
  · rcases e_or hf with hf | hf
    · exact rf_oW hf f0
    · replace hf := (e_if hf).2
      obtain ⟨b1, hb2, hf⟩ := e_bd hf
      replace hf := (e_if hf).2
      obtain ⟨r4, hr5, hf⟩ := e_bd hf
      rcases e_or hf with hf | hf
      · exact rf_oW hf f0
      · obtain ⟨b6, hb7, hf⟩ := e_bd hf
        obtain ⟨r9, hr10, hf⟩ := e_bd hf
        have f11 := g_J7_fill_d0a16  f0 hr10
        obtain ⟨b12, hb13, hf⟩ := e_bd hf
        replace hf := (e_if hf).2
        rcases e_or hf with hf | hf
        · refine g_X10_likely_L71 ?_ e_fu _ _ _ _ _ _  f11 hf
          · intro h18 w0_19 w2_20 w3_21 f22 hf
            replace hf := (e_if hf).2
            obtain ⟨b23, hb24, hf⟩ := e_bd hf
            replace hf := (e_if hf).2
            obtain ⟨r26, hr27, hf⟩ := e_bd hf
            have f28 := g_X10_tellFraction  f22 hr27
            exact rf_oW hf f28
        · obtain ⟨b29, hb30, hf⟩ := e_bd hf
          replace hf := (e_if hf).2
          rcases e_or hf with hf | hf
          · refine g_X10_likely_L71 ?_ e_fu _ _ _ _ _ _  f11 hf
            · intro h32 w0_33 w2_34 w3_35 f36 hf
              replace hf := (e_if hf).2
              obtain ⟨b37, hb38, hf⟩ := e_bd hf
              replace hf := (e_if hf).2
              obtain ⟨r40, hr41, hf⟩ := e_bd hf
              have f42 := g_X10_tellFraction  f36 hr41
              exact rf_oW hf f42
          · obtain ⟨b43, hb44, hf⟩ := e_bd hf
            obtain ⟨b46, hb47, hf⟩ := e_bd hf
            replace hf := (e_if hf).2
            replace hf := (e_if hf).2
            refine g_X10_likely_L71 ?_ e_fu _ _ _ _ _ _  (rf_sL f11 ) hf
            · intro h49 w0_50 w2_51 w3_52 f53 hf
              replace hf := (e_if hf).2
              obtain ⟨b54, hb55, hf⟩ := e_bd hf
              replace hf := (e_if hf).2
              obtain ⟨r57, hr58, hf⟩ := e_bd hf
              have f59 := g_X10_tellFraction  f53 hr58
              exact rf_oW hf f59
theorem g_X10_week_L31 {L : eL} {h0 : eH} {r : eH × Int32} {k84 : eH → Nat → Int32 → Int32 → Option (eH × Int32)} (hk84 : ∀ (h : eH) (v0 : Nat) (v3 : Int32) (v4 : Int32), rf h0 h → k84 h v0 v3 v4 = some r → rf h0 r.1) : ∀ (n : Nat) (h : eH) (v0 : Nat) (v1 : Int32) (v2 : Int32) (v3 : Int32) (v4 : Int32) (v5 : Int32), rf h0 h → f_X10_week_L31 L n k84 h v0 v1 v2 v3 v4 v5 = some r → rf h0 r.1 := by
  intro n
  induction n with
  | zero => intro h v0 v1 v2 v3 v4 v5 f0 hf; exact absurd hf (by simp [f_X10_week_L31])
  | succ n ih =>
    intro h v0 v1 v2 v3 v4 v5 f0 hf
    unfold f_X10_week_L31 at hf
    rcases e_or hf with hf | hf
    · exact hk84 _ _ _ _  f0 hf
    · rcases e_or hf with hf | hf
      · obtain ⟨r1, hr2, hf⟩ := e_bd hf
        rcases e_or hf with hf | hf
        · exact ih _ _ _ _ _ _ _  f0 hf
        · rcases e_or hf with hf | hf
          · exact ih _ _ _ _ _ _ _  f0 hf
          · exact ih _ _ _ _ _ _ _  f0 hf
      · exact ih _ _ _ _ _ _ _  f0 hf
theorem g_X10_week {L : eL} {h0 h : eH} {v0 : Nat} {v1 : Int32} {v2 : Int32} {r : eH × Int32} (f0 : rf h0 h) (hf : f_X10_week L h v0 v1 v2 = some r) : rf h0 r.1 := by
  unfold f_X10_week at hf
  rcases e_or hf with hf | hf
  · exact rf_oW hf f0
  · rcases e_or hf with hf | hf
    · exact rf_oW hf f0
    · rcases e_or hf with hf | hf
      · exact rf_oW hf f0
      · rcases e_or hf with hf | hf
        · refine g_X10_week_L31 ?_ e_fu _ _ _ _ _ _ _  f0 hf
          · intro h3 w0_4 w3_5 w4_6 f7 hf
            replace hf := (e_if hf).2
            obtain ⟨b8, hb9, hf⟩ := e_bd hf
            replace hf := (e_if hf).2
            obtain ⟨r11, hr12, hf⟩ := e_bd hf
            have f13 := g_X3_begin  f7 hr12
            obtain ⟨b14, hb15, hf⟩ := e_bd hf
            replace hf := (e_if hf).2
            obtain ⟨r17, hr18, hf⟩ := e_bd hf
            have f19 := g_X3_add  f13 hr18
            exact rf_oW hf f19
        · exact rf_oW hf f0
theorem g_X10_looks_L4 {L : eL} {h0 : eH} {r : eH × Int32} {k32 : eH → Nat → Int32 → Option (eH × Int32)} (hk32 : ∀ (h : eH) (v0 : Nat) (v1 : Int32), rf h0 h → k32 h v0 v1 = some r → rf h0 r.1) : ∀ (n : Nat) (h : eH) (v0 : Nat) (v1 : Int32) (v2 : Int32), rf h0 h → f_X10_looks_L4 L n k32 h v0 v1 v2 = some r → rf h0 r.1 := by
  intro n
  induction n with
  | zero => intro h v0 v1 v2 f0 hf; exact absurd hf (by simp [f_X10_looks_L4])
  | succ n ih =>
    intro h v0 v1 v2 f0 hf
    unfold f_X10_looks_L4 at hf
    rcases e_or hf with hf | hf
    · exact hk32 _ _ _  f0 hf
    · replace hf := (e_if hf).2
      obtain ⟨b1, hb2, hf⟩ := e_bd hf
      replace hf := (e_if hf).2
      obtain ⟨r4, hr5, hf⟩ := e_bd hf
      rcases e_or hf with hf | hf
      · exact ih _ _ _ _  f0 hf
      · exact ih _ _ _ _  f0 hf
theorem g_X10_looks {L : eL} {h0 h : eH} {v0 : Nat} {r : eH × Int32} (f0 : rf h0 h) (hf : f_X10_looks L h v0 = some r) : rf h0 r.1 := by
  unfold f_X10_looks at hf
  refine g_X10_looks_L4 ?_ e_fu _ _ _ _  f0 hf
  · intro h6 w0_7 w1_8 f9 hf
    replace hf := (e_if hf).2
    obtain ⟨b10, hb11, hf⟩ := e_bd hf
    replace hf := (e_if hf).2
    obtain ⟨r13, hr14, hf⟩ := e_bd hf
    have f15 := g_X3_begin  f9 hr14
    obtain ⟨b16, hb17, hf⟩ := e_bd hf
    replace hf := (e_if hf).2
    obtain ⟨r19, hr20, hf⟩ := e_bd hf
    have f21 := g_X3_add  f15 hr20
    obtain ⟨b22, hb23, hf⟩ := e_bd hf
    obtain ⟨b25, hb26, hf⟩ := e_bd hf
    replace hf := (e_if hf).2
    obtain ⟨r28, hr29, hf⟩ := e_bd hf
    replace hf := (e_if hf).2
    obtain ⟨r30, hr31, hf⟩ := e_bd hf
    have f32 := g_X3_add  f21 hr31
    exact rf_oW hf f32
theorem g_X10_countSums_L57 {L : eL} {h0 : eH} {r : eH} {k95 : eH → Nat → Int64 → Int32 → Int32 → Option eH} (hk95 : ∀ (h : eH) (v0 : Nat) (v1 : Int64) (v3 : Int32) (v4 : Int32), rf h0 h → k95 h v0 v1 v3 v4 = some r → rf h0 r) : ∀ (n : Nat) (h : eH) (v0 : Nat) (v1 : Int64) (v3 : Int32) (v4 : Int32) (v5 : Int32) (v6 : Int32), rf h0 h → f_X10_countSums_L57 L n k95 h v0 v1 v3 v4 v5 v6 = some r → rf h0 r := by
  intro n
  induction n with
  | zero => intro h v0 v1 v3 v4 v5 v6 f0 hf; exact absurd hf (by simp [f_X10_countSums_L57])
  | succ n ih =>
    intro h v0 v1 v3 v4 v5 v6 f0 hf
    unfold f_X10_countSums_L57 at hf
    rcases e_or hf with hf | hf
    · exact hk95 _ _ _ _ _  f0 hf
    · rcases e_or hf with hf | hf
      · exact hk95 _ _ _ _ _  f0 hf
      · replace hf := (e_if hf).2
        obtain ⟨b15, hb16, hf⟩ := e_bd hf
        replace hf := (e_if hf).2
        obtain ⟨b18, hb19, hf⟩ := e_bd hf
        replace hf := (e_if hf).2
        obtain ⟨h21, hh22, hf⟩ := e_bd hf
        have f23 := rf_oV hh22 (rf_sI f0 )
        exact ih _ _ _ _ _ _ _  f23 hf
theorem g_X10_countSums_L18 {L : eL} {h0 : eH} {r : eH} {k101 : eH → Option eH} (hk101 : ∀ (h : eH), rf h0 h → k101 h = some r → rf h0 r) : ∀ (n : Nat) (h : eH) (v0 : Nat) (v1 : Int64) (v3 : Int32) (v4 : Int32), rf h0 h → f_X10_countSums_L18 L n k101 h v0 v1 v3 v4 = some r → rf h0 r := by
  intro n
  induction n with
  | zero => intro h v0 v1 v3 v4 f0 hf; exact absurd hf (by simp [f_X10_countSums_L18])
  | succ n ih =>
    intro h v0 v1 v3 v4 f0 hf
    unfold f_X10_countSums_L18 at hf
    rcases e_or hf with hf | hf
    · exact hk101 _ f0 hf
    · rcases e_or hf with hf | hf
      · exact ih _ _ _ _ _  f0 hf
      · replace hf := (e_if hf).2
        obtain ⟨b10, hb11, hf⟩ := e_bd hf
        replace hf := (e_if hf).2
        obtain ⟨r13, hr14, hf⟩ := e_bd hf
        refine g_X10_countSums_L57 ?_ e_fu _ _ _ _ _ _ _  f0 hf
        · intro h24 w0_25 w1_26 w3_27 w4_28 f29 hf
          exact ih _ _ _ _ _  f29 hf
theorem g_X10_countSums {L : eL} {h0 h : eH} {v0 : Nat} {v1 : Int64} {v3 : Int32} {r : eH} (f0 : rf h0 h) (hf : f_X10_countSums L h v0 v1 v3 = some r) : rf h0 r := by
  unfold f_X10_countSums at hf
  replace hf := (e_if hf).2
  obtain ⟨b1, hb2, hf⟩ := e_bd hf
  obtain ⟨r4, hr5, hf⟩ := e_bd hf
  have f6 := g_J7_fill_53178  f0 hr5
  obtain ⟨b7, hb8, hf⟩ := e_bd hf
  replace hf := (e_if hf).2
  refine g_X10_countSums_L18 ?_ e_fu _ _ _ _ _  (rf_sI f6 ) hf
  · intro h30 f31 hf
    exact rf_oV hf f31
theorem g_X10_box_L45 {L : eL} {h0 : eH} {r : eH × Int32} {k103 : eH → Nat → Int32 → Int64 → Option (eH × Int32)} (hk103 : ∀ (h : eH) (v0 : Nat) (v1 : Int32) (v4 : Int64), rf h0 h → k103 h v0 v1 v4 = some r → rf h0 r.1) : ∀ (n : Nat) (h : eH) (v0 : Nat) (v1 : Int32) (v2 : Int64) (v4 : Int64) (v6 : Int32), rf h0 h → f_X10_box_L45 L n k103 h v0 v1 v2 v4 v6 = some r → rf h0 r.1 := by
  intro n
  induction n with
  | zero => intro h v0 v1 v2 v4 v6 f0 hf; exact absurd hf (by simp [f_X10_box_L45])
  | succ n ih =>
    intro h v0 v1 v2 v4 v6 f0 hf
    unfold f_X10_box_L45 at hf
    rcases e_or hf with hf | hf
    · exact hk103 _ _ _ _  f0 hf
    · replace hf := (e_if hf).2
      obtain ⟨b9, hb10, hf⟩ := e_bd hf
      replace hf := (e_if hf).2
      rcases e_or hf with hf | hf
      · exact hk103 _ _ _ _  f0 hf
      · rcases e_or hf with hf | hf
        · exact ih _ _ _ _ _ _  f0 hf
        · obtain ⟨b12, hb13, hf⟩ := e_bd hf
          replace hf := (e_if hf).2
          obtain ⟨r15, hr16, hf⟩ := e_bd hf
          obtain ⟨r17, hr18, hf⟩ := e_bd hf
          rcases e_or hf with hf | hf
          · exact ih _ _ _ _ _ _  f0 hf
          · exact ih _ _ _ _ _ _  f0 hf
theorem g_X10_box_J103 {L : eL} {h0 : eH} {r : eH × Int32}  : ∀ (h : eH) (v0 : Nat) (v1 : Int32) (v4 : Int64), rf h0 h → f_X10_box_J103 L h v0 v1 v4 = some r → rf h0 r.1 := by
  intro h v0 v1 v4 f0 hf
  unfold f_X10_box_J103 at hf
  replace hf := (e_if hf).2
  obtain ⟨b24, hb25, hf⟩ := e_bd hf
  replace hf := (e_if hf).2
  obtain ⟨r27, hr28, hf⟩ := e_bd hf
  have f29 := g_X3_begin  f0 hr28
  obtain ⟨b30, hb31, hf⟩ := e_bd hf
  replace hf := (e_if hf).2
  obtain ⟨r33, hr34, hf⟩ := e_bd hf
  have f35 := g_X3_add  f29 hr34
  obtain ⟨b36, hb37, hf⟩ := e_bd hf
  replace hf := (e_if hf).2
  exact rf_oW hf f35
theorem g_X10_box {L : eL} {h0 h : eH} {v0 : Nat} {v1 : Int32} {r : eH × Int32} (f0 : rf h0 h) (hf : f_X10_box L h v0 v1 = some r) : rf h0 r.1 := by
  unfold f_X10_box at hf
  rcases e_or hf with hf | hf
  · exact rf_oW hf f0
  · rcases e_or hf with hf | hf
    · replace hf := (e_if hf).2
      obtain ⟨b1, hb2, hf⟩ := e_bd hf
      replace hf := (e_if hf).2
      obtain ⟨r4, hr5, hf⟩ := e_bd hf
      rcases e_or hf with hf | hf
      · obtain ⟨r6, hr7, hf⟩ := e_bd hf
        have f8 := g_X10_countSums  f0 hr7
        refine g_X10_box_L45 ?_ e_fu _ _ _ _ _ _  f8 hf
        · intro h19 w0_20 w1_21 w4_22 f23 hf
          exact g_X10_box_J103 _ _ _ _  f23 hf
      · exact rf_oW hf f0
    · exact rf_oW hf f0
theorem g_X10_clean {L : eL} {h0 h : eH} {v0 : Nat} {v1 : Int32} {r : eH × Int32} (f0 : rf h0 h) (hf : f_X10_clean L h v0 v1 = some r) : rf h0 r.1 := by
  unfold f_X10_clean at hf
  replace hf := (e_if hf).2
  obtain ⟨b1, hb2, hf⟩ := e_bd hf
  replace hf := (e_if hf).2
  rcases e_or hf with hf | hf
  · exact rf_oW hf f0
  · rcases e_or hf with hf | hf
    · obtain ⟨b4, hb5, hf⟩ := e_bd hf
      replace hf := (e_if hf).2
      obtain ⟨r7, hr8, hf⟩ := e_bd hf
      obtain ⟨r9, hr10, hf⟩ := e_bd hf
      obtain ⟨r11, hr12, hf⟩ := e_bd hf
      obtain ⟨r13, hr14, hf⟩ := e_bd hf
      have f15 := g_X10_tellFraction  f0 hr14
      exact rf_oW hf f15
    · exact rf_oW hf f0
theorem g_X10_rests_L33 {L : eL} {h0 : eH} {r : eH × Int32} {k95 : eH → Nat → Int32 → Int32 → Int32 → Option (eH × Int32)} (hk95 : ∀ (h : eH) (v0 : Nat) (v1 : Int32) (v2 : Int32) (v3 : Int32), rf h0 h → k95 h v0 v1 v2 v3 = some r → rf h0 r.1) : ∀ (n : Nat) (h : eH) (v0 : Nat) (v1 : Int32) (v2 : Int32) (v3 : Int32) (v4 : Int32), rf h0 h → f_X10_rests_L33 L n k95 h v0 v1 v2 v3 v4 = some r → rf h0 r.1 := by
  intro n
  induction n with
  | zero => intro h v0 v1 v2 v3 v4 f0 hf; exact absurd hf (by simp [f_X10_rests_L33])
  | succ n ih =>
    intro h v0 v1 v2 v3 v4 f0 hf
    unfold f_X10_rests_L33 at hf
    rcases e_or hf with hf | hf
    · exact hk95 _ _ _ _ _  f0 hf
    · obtain ⟨r7, hr8, hf⟩ := e_bd hf
      rcases e_or hf with hf | hf
      · exact ih _ _ _ _ _ _  f0 hf
      · obtain ⟨r9, hr10, hf⟩ := e_bd hf
        rcases e_or hf with hf | hf
        · exact ih _ _ _ _ _ _  f0 hf
        · rcases e_or hf with hf | hf
          · replace hf := (e_if hf).2
            obtain ⟨b11, hb12, hf⟩ := e_bd hf
            replace hf := (e_if hf).2
            obtain ⟨r14, hr15, hf⟩ := e_bd hf
            have f16 := g_X3_add  f0 hr15
            obtain ⟨b17, hb18, hf⟩ := e_bd hf
            replace hf := (e_if hf).2
            obtain ⟨r20, hr21, hf⟩ := e_bd hf
            have f22 := g_X3_add  f16 hr21
            exact ih _ _ _ _ _ _  f22 hf
          · exact ih _ _ _ _ _ _  f0 hf
theorem g_X10_rests_L24 {L : eL} {h0 : eH} {r : eH × Int32} {k101 : eH → Int32 → Option (eH × Int32)} (hk101 : ∀ (h : eH) (v2 : Int32), rf h0 h → k101 h v2 = some r → rf h0 r.1) : ∀ (n : Nat) (h : eH) (v0 : Nat) (v1 : Int32) (v2 : Int32) (v3 : Int32), rf h0 h → f_X10_rests_L24 L n k101 h v0 v1 v2 v3 = some r → rf h0 r.1 := by
  intro n
  induction n with
  | zero => intro h v0 v1 v2 v3 f0 hf; exact absurd hf (by simp [f_X10_rests_L24])
  | succ n ih =>
    intro h v0 v1 v2 v3 f0 hf
    unfold f_X10_rests_L24 at hf
    rcases e_or hf with hf | hf
    · exact hk101 _ _ f0 hf
    · refine g_X10_rests_L33 ?_ e_fu _ _ _ _ _ _  f0 hf
      · intro h23 w0_24 w1_25 w2_26 w3_27 f28 hf
        exact ih _ _ _ _ _  f28 hf
theorem g_X10_rests {L : eL} {h0 h : eH} {v0 : Nat} {v1 : Int32} {r : eH × Int32} (f0 : rf h0 h) (hf : f_X10_rests L h v0 v1 = some r) : rf h0 r.1 := by
  unfold f_X10_rests at hf
  rcases e_or hf with hf | hf
  · exact rf_oW hf f0
  · rcases e_or hf with hf | hf
    · replace hf := (e_if hf).2
      obtain ⟨b1, hb2, hf⟩ := e_bd hf
      replace hf := (e_if hf).2
      obtain ⟨r4, hr5, hf⟩ := e_bd hf
      have f6 := g_X3_begin  f0 hr5
      refine g_X10_rests_L24 ?_ e_fu _ _ _ _ _  f6 hf
      · intro h29 w2_30 f31 hf
        exact rf_oW hf f31
    · exact rf_oW hf f0
theorem g_X10_weeks_L29 {L : eL} {h0 : eH} {r : eH × Int32} {k152 : eH → Nat → Option (eH × Int32)} (hk152 : ∀ (h : eH) (v0 : Nat), rf h0 h → k152 h v0 = some r → rf h0 r.1) : ∀ (n : Nat) (h : eH) (v0 : Nat) (v2 : Int32) (v3 : Int32) (v4 : Int32), rf h0 h → f_X10_weeks_L29 L n k152 h v0 v2 v3 v4 = some r → rf h0 r.1 := by
  intro n
  induction n with
  | zero => intro h v0 v2 v3 v4 f0 hf; exact absurd hf (by simp [f_X10_weeks_L29])
  | succ n ih =>
    intro h v0 v2 v3 v4 f0 hf
    unfold f_X10_weeks_L29 at hf
    rcases e_or hf with hf | hf
    · exact hk152 _ _  f0 hf
    · obtain ⟨r10, hr11, hf⟩ := e_bd hf
      rcases e_or hf with hf | hf
      · replace hf := (e_if hf).2
        obtain ⟨b41, hb42, hf⟩ := e_bd hf
        obtain ⟨b44, hb45, hf⟩ := e_bd hf
        replace hf := (e_if hf).2
        obtain ⟨r47, hr48, hf⟩ := e_bd hf
        have f49 := g_X6_dayFalls   f0 hr48
        exact ih _ _ _ _ _  f49 hf
      · rcases e_or hf with hf | hf
        · replace hf := (e_if hf).2
          obtain ⟨b35, hb36, hf⟩ := e_bd hf
          replace hf := (e_if hf).2
          obtain ⟨r38, hr39, hf⟩ := e_bd hf
          have f40 := g_X6_turnBy  f0 hr39
          exact ih _ _ _ _ _  f40 hf
        · replace hf := (e_if hf).2
          obtain ⟨b12, hb13, hf⟩ := e_bd hf
          obtain ⟨r15, hr16, hf⟩ := e_bd hf
          have f17 := g_X10_goOn   f0 hr16
          obtain ⟨b18, hb19, hf⟩ := e_bd hf
          replace hf := (e_if hf).2
          obtain ⟨b21, hb22, hf⟩ := e_bd hf
          replace hf := (e_if hf).2
          rcases e_or hf with hf | hf
          · exact ih _ _ _ _ _  f17 hf
          · obtain ⟨b24, hb25, hf⟩ := e_bd hf
            obtain ⟨r27, hr28, hf⟩ := e_bd hf
            rcases e_or hf with hf | hf
            · replace hf := (e_if hf).2
              obtain ⟨r32, hr33, hf⟩ := e_bd hf
              have f34 := g_X6_turnBy  f17 hr33
              exact ih _ _ _ _ _  f34 hf
            · replace hf := (e_if hf).2
              obtain ⟨r29, hr30, hf⟩ := e_bd hf
              have f31 := g_X6_turnBy  f17 hr30
              exact ih _ _ _ _ _  f31 hf
theorem g_X10_weeks {L : eL} {h0 h : eH} {v0 : Nat} {v1 : Int32} {v2 : Int32} {r : eH × Int32} (f0 : rf h0 h) (hf : f_X10_weeks L h v0 v1 v2 = some r) : rf h0 r.1 := by
  unfold f_X10_weeks at hf
  rcases e_or hf with hf | hf
  · exact rf_oW hf f0
  · rcases e_or hf with hf | hf
    · replace hf := (e_if hf).2
      obtain ⟨b1, hb2, hf⟩ := e_bd hf
      obtain ⟨b4, hb5, hf⟩ := e_bd hf
      replace hf := (e_if hf).2
      obtain ⟨r7, hr8, hf⟩ := e_bd hf
      have f9 := g_X6_copyFrom   f0 hr8
      refine g_X10_weeks_L29 ?_ e_fu _ _ _ _ _  f9 hf
      · intro h50 w0_51 f52 hf
        replace hf := (e_if hf).2
        obtain ⟨b53, hb54, hf⟩ := e_bd hf
        replace hf := (e_if hf).2
        obtain ⟨r56, hr57, hf⟩ := e_bd hf
        have f58 := g_X3_begin  f52 hr57
        obtain ⟨b59, hb60, hf⟩ := e_bd hf
        obtain ⟨b62, hb63, hf⟩ := e_bd hf
        replace hf := (e_if hf).2
        replace hf := (e_if hf).2
        obtain ⟨r65, hr66, hf⟩ := e_bd hf
        have f67 := g_X3_add  f58 hr66
        obtain ⟨b68, hb69, hf⟩ := e_bd hf
        obtain ⟨b71, hb72, hf⟩ := e_bd hf
        replace hf := (e_if hf).2
        obtain ⟨r74, hr75, hf⟩ := e_bd hf
        replace hf := (e_if hf).2
        obtain ⟨r76, hr77, hf⟩ := e_bd hf
        have f78 := g_X3_add  f67 hr77
        obtain ⟨b79, hb80, hf⟩ := e_bd hf
        replace hf := (e_if hf).2
        obtain ⟨b82, hb83, hf⟩ := e_bd hf
        replace hf := (e_if hf).2
        exact rf_oW hf f78
    · exact rf_oW hf f0
theorem g_X10_keep {L : eL} {h0 h : eH} {v0 : Nat} {v1 : Int32} {r : eH × Int32} (f0 : rf h0 h) (hf : f_X10_keep L h v0 v1 = some r) : rf h0 r.1 := by
  unfold f_X10_keep at hf
  rcases e_or hf with hf | hf
  · exact rf_oW hf f0
  · rcases e_or hf with hf | hf
    · replace hf := (e_if hf).2
      obtain ⟨b1, hb2, hf⟩ := e_bd hf
      replace hf := (e_if hf).2
      obtain ⟨b4, hb5, hf⟩ := e_bd hf
      obtain ⟨b7, hb8, hf⟩ := e_bd hf
      replace hf := (e_if hf).2
      obtain ⟨r10, hr11, hf⟩ := e_bd hf
      have f12 := g_X6_copyFrom   f0 hr11
      obtain ⟨h13, hh14, hf⟩ := e_bd hf
      have f15 := rf_oV hh14 (rf_sI f12 )
      exact rf_oW hf f15
    · exact rf_oW hf f0
theorem g_X10_again {L : eL} {h0 h : eH} {v0 : Nat} {v1 : Int32} {r : eH × Int32} (f0 : rf h0 h) (hf : f_X10_again L h v0 v1 = some r) : rf h0 r.1 := by
  unfold f_X10_again at hf
  rcases e_or hf with hf | hf
  · exact rf_oW hf f0
  · rcases e_or hf with hf | hf
    · exact rf_oW hf f0
    · replace hf := (e_if hf).2
      rcases e_or hf with hf | hf
      · exact rf_oW hf f0
      · obtain ⟨b1, hb2, hf⟩ := e_bd hf
        obtain ⟨b4, hb5, hf⟩ := e_bd hf
        replace hf := (e_if hf).2
        obtain ⟨b7, hb8, hf⟩ := e_bd hf
        replace hf := (e_if hf).2
        obtain ⟨r10, hr11, hf⟩ := e_bd hf
        have f12 := g_X6_copyFrom   f0 hr11
        obtain ⟨b13, hb14, hf⟩ := e_bd hf
        replace hf := (e_if hf).2
        obtain ⟨r16, hr17, hf⟩ := e_bd hf
        have f18 := g_X1_clear  f12 hr17
        exact rf_oW hf f18
theorem g_X10_machine {L : eL} {h0 h : eH} {v0 : Nat} {v1 : Int32} {r : eH × Int32} (f0 : rf h0 h) (hf : f_X10_machine L h v0 v1 = some r) : rf h0 r.1 := by
  unfold f_X10_machine at hf
  rcases e_or hf with hf | hf
  · replace hf := (e_if hf).2
    obtain ⟨b1, hb2, hf⟩ := e_bd hf
    replace hf := (e_if hf).2
    exact rf_oW hf f0
  rcases e_or hf with hf | hf
  · replace hf := (e_if hf).2
    obtain ⟨b4, hb5, hf⟩ := e_bd hf
    replace hf := (e_if hf).2
    exact rf_oW hf f0
  rcases e_or hf with hf | hf
  · replace hf := (e_if hf).2
    obtain ⟨b7, hb8, hf⟩ := e_bd hf
    replace hf := (e_if hf).2
    exact rf_oW hf f0
  rcases e_or hf with hf | hf
  · replace hf := (e_if hf).2
    obtain ⟨b10, hb11, hf⟩ := e_bd hf
    replace hf := (e_if hf).2
    exact rf_oW hf f0
  rcases e_or hf with hf | hf
  · replace hf := (e_if hf).2
    obtain ⟨b13, hb14, hf⟩ := e_bd hf
    replace hf := (e_if hf).2
    exact rf_oW hf f0
  rcases e_or hf with hf | hf
  · replace hf := (e_if hf).2
    obtain ⟨b16, hb17, hf⟩ := e_bd hf
    replace hf := (e_if hf).2
    exact rf_oW hf f0
  rcases e_or hf with hf | hf
  · replace hf := (e_if hf).2
    obtain ⟨b19, hb20, hf⟩ := e_bd hf
    obtain ⟨b22, hb23, hf⟩ := e_bd hf
    obtain ⟨b25, hb26, hf⟩ := e_bd hf
    replace hf := (e_if hf).2
    obtain ⟨r28, hr29, hf⟩ := e_bd hf
    have f30 := g_X4_turnOf    f0 hr29
    exact rf_oW hf f30
  rcases e_or hf with hf | hf
  · replace hf := (e_if hf).2
    obtain ⟨b31, hb32, hf⟩ := e_bd hf
    obtain ⟨b34, hb35, hf⟩ := e_bd hf
    replace hf := (e_if hf).2
    obtain ⟨b37, hb38, hf⟩ := e_bd hf
    replace hf := (e_if hf).2
    replace hf := (e_if hf).2
    obtain ⟨r40, hr41, hf⟩ := e_bd hf
    exact rf_oW hf f0
  · exact absurd hf (by simp)
theorem g_X11_sign_L18 {L : eL} {h0 : eH} {r : eH × Int32} {k53 : eH → Nat → Option (eH × Int32)} (hk53 : ∀ (h : eH) (v0 : Nat), rf h0 h → k53 h v0 = some r → rf h0 r.1) : ∀ (n : Nat) (h : eH) (v0 : Nat) (v1 : Int32) (v2 : Int32), rf h0 h → f_X11_sign_L18 L n k53 h v0 v1 v2 = some r → rf h0 r.1 := by
  intro n
  induction n with
  | zero => intro h v0 v1 v2 f0 hf; exact absurd hf (by simp [f_X11_sign_L18])
  | succ n ih =>
    intro h v0 v1 v2 f0 hf
    unfold f_X11_sign_L18 at hf
    rcases e_or hf with hf | hf
    · exact hk53 _ _  f0 hf
    · replace hf := (e_if hf).2
      obtain ⟨b1, hb2, hf⟩ := e_bd hf
      replace hf := (e_if hf).2
      obtain ⟨h4, hh5, hf⟩ := e_bd hf
      have f6 := rf_oV hh5 (rf_sI f0 )
      exact ih _ _ _ _  f6 hf
theorem g_X11_sign {L : eL} {h0 h : eH} {v0 : Nat} {v1 : Int32} {r : eH × Int32} (f0 : rf h0 h) (hf : f_X11_sign L h v0 v1 = some r) : rf h0 r.1 := by
  unfold f_X11_sign at hf
  replace hf := (e_if hf).2
  rcases e_or hf with hf | hf
  · refine g_X11_sign_L18 ?_ e_fu _ _ _ _  (rf_sI f0 ) hf
    · intro h7 w0_8 f9 hf
      replace hf := (e_if hf).2
      exact rf_oW hf (rf_sI f9 )
  · exact rf_oW hf (rf_sI f0 )
theorem g_X11_end {L : eL} {h0 h : eH} {v0 : Nat} {v1 : Int32} {r : eH × Int32} (f0 : rf h0 h) (hf : f_X11_end L h v0 v1 = some r) : rf h0 r.1 := by
  unfold f_X11_end at hf
  replace hf := (e_if hf).2
  rcases e_or hf with hf | hf
  · exact rf_oW hf (rf_sI f0 )
  · exact rf_oW hf (rf_sI (rf_sI f0 ) )
theorem g_X11_begins {L : eL} {h0 h : eH} {v0 : Nat} {v1 : Int32} {r : eH × Int32} (f0 : rf h0 h) (hf : f_X11_begins L h v0 v1 = some r) : rf h0 r.1 := by
  unfold f_X11_begins at hf
  replace hf := (e_if hf).2
  obtain ⟨h1, hh2, hf⟩ := e_bd hf
  have f3 := rf_oV hh2 (rf_sI (rf_sI (rf_sI (rf_sI f0 ) ) ) )
  exact rf_oW hf f3
theorem g_X11_readsRow_J131 {L : eL} {h0 : eH} {r : eH × Int32} {k36 : eH → Nat → Int32 → Int32 → Int32 → Int32 → Option (eH × Int32)} {k160 : eH → Nat → Int32 → Int32 → Option (eH × Int32)} (hk36 : ∀ (h : eH) (v0 : Nat) (v1 : Int32) (v2 : Int32) (v3 : Int32) (v4 : Int32), rf h0 h → k36 h v0 v1 v2 v3 v4 = some r → rf h0 r.1) (hk160 : ∀ (h : eH) (v0 : Nat) (v1 : Int32) (v3 : Int32), rf h0 h → k160 h v0 v1 v3 = some r → rf h0 r.1) : ∀ (h : eH) (v0 : Nat) (v1 : Int32) (v2 : Int32) (v3 : Int32) (s0 : Nat) (s1 : Int32), rf h0 h → f_X11_readsRow_J131 L k36 k160 h v0 v1 v2 v3 s0 s1 = some r → rf h0 r.1 := by
  intro h v0 v1 v2 v3 s0 s1 f0 hf
  unfold f_X11_readsRow_J131 at hf
  replace hf := (e_if hf).2
  replace hf := (e_if hf).2
  rcases e_or hf with hf | hf
  · obtain ⟨r6, hr7, hf⟩ := e_bd hf
    exact hk36 _ _ _ _ _ _  (rf_sI f0 ) hf
  · obtain ⟨r8, hr9, hf⟩ := e_bd hf
    exact hk36 _ _ _ _ _ _  (rf_sI f0 ) hf
theorem g_X11_readsRow_J114 {L : eL} {h0 : eH} {r : eH × Int32} {k36 : eH → Nat → Int32 → Int32 → Int32 → Int32 → Option (eH × Int32)} {k160 : eH → Nat → Int32 → Int32 → Option (eH × Int32)} (hk36 : ∀ (h : eH) (v0 : Nat) (v1 : Int32) (v2 : Int32) (v3 : Int32) (v4 : Int32), rf h0 h → k36 h v0 v1 v2 v3 v4 = some r → rf h0 r.1) (hk160 : ∀ (h : eH) (v0 : Nat) (v1 : Int32) (v3 : Int32), rf h0 h → k160 h v0 v1 v3 = some r → rf h0 r.1) : ∀ (h : eH) (v0 : Nat) (v1 : Int32) (v2 : Int32) (v3 : Int32) (v4 : Int32) (v5 : Int32) (s0 : Nat) (s1 : Int32) (s2 : Int32), rf h0 h → f_X11_readsRow_J114 L k36 k160 h v0 v1 v2 v3 v4 v5 s0 s1 s2 = some r → rf h0 r.1 := by
  intro h v0 v1 v2 v3 v4 v5 s0 s1 s2 f0 hf
  unfold f_X11_readsRow_J114 at hf
  replace hf := (e_if hf).2
  rcases e_or hf with hf | hf
  · replace hf := (e_if hf).2
    exact g_X11_readsRow_J131 hk36 hk160 _ _ _ _ _ _ _   (rf_sI f0 ) hf
  · exact g_X11_readsRow_J131 hk36 hk160 _ _ _ _ _ _ _   (rf_sI f0 ) hf
theorem g_X11_readsRow_J80 {L : eL} {h0 : eH} {r : eH × Int32} {k36 : eH → Nat → Int32 → Int32 → Int32 → Int32 → Option (eH × Int32)} {k160 : eH → Nat → Int32 → Int32 → Option (eH × Int32)} (hk36 : ∀ (h : eH) (v0 : Nat) (v1 : Int32) (v2 : Int32) (v3 : Int32) (v4 : Int32), rf h0 h → k36 h v0 v1 v2 v3 v4 = some r → rf h0 r.1) (hk160 : ∀ (h : eH) (v0 : Nat) (v1 : Int32) (v3 : Int32), rf h0 h → k160 h v0 v1 v3 = some r → rf h0 r.1) : ∀ (h : eH) (v0 : Nat) (v1 : Int32) (v2 : Int32) (v3 : Int32) (v4 : Int32) (s0 : Int32), rf h0 h → f_X11_readsRow_J80 L k36 k160 h v0 v1 v2 v3 v4 s0 = some r → rf h0 r.1 := by
  intro h v0 v1 v2 v3 v4 s0 f0 hf
  unfold f_X11_readsRow_J80 at hf
  replace hf := (e_if hf).2
  obtain ⟨b3, hb4, hf⟩ := e_bd hf
  rcases e_or hf with hf | hf
  · exact g_X11_readsRow_J114 hk36 hk160 _ _ _ _ _ _ _ _ _ _   f0 hf
  · rcases e_or hf with hf | hf
    · exact g_X11_readsRow_J114 hk36 hk160 _ _ _ _ _ _ _ _ _ _   f0 hf
    · rcases e_or hf with hf | hf
      · exact g_X11_readsRow_J114 hk36 hk160 _ _ _ _ _ _ _ _ _ _   f0 hf
      · exact g_X11_readsRow_J114 hk36 hk160 _ _ _ _ _ _ _ _ _ _   f0 hf
theorem g_X11_readsRow_L36 {L : eL} {h0 : eH} {r : eH × Int32} {k160 : eH → Nat → Int32 → Int32 → Option (eH × Int32)} (hk160 : ∀ (h : eH) (v0 : Nat) (v1 : Int32) (v3 : Int32), rf h0 h → k160 h v0 v1 v3 = some r → rf h0 r.1) : ∀ (n : Nat) (h : eH) (v0 : Nat) (v1 : Int32) (v2 : Int32) (v3 : Int32) (v4 : Int32), rf h0 h → f_X11_readsRow_L36 L n k160 h v0 v1 v2 v3 v4 = some r → rf h0 r.1 := by
  intro n
  induction n with
  | zero => intro h v0 v1 v2 v3 v4 f0 hf; exact absurd hf (by simp [f_X11_readsRow_L36])
  | succ n ih =>
    intro h v0 v1 v2 v3 v4 f0 hf
    unfold f_X11_readsRow_L36 at hf
    rcases e_or hf with hf | hf
    · exact hk160 _ _ _ _  f0 hf
    · rcases e_or hf with hf | hf
      · exact hk160 _ _ _ _  f0 hf
      · replace hf := (e_if hf).2
        rcases e_or hf with hf | hf
        · exact g_X11_readsRow_J80 ih hk160 _ _ _ _ _ _ _  (rf_sI f0 ) hf
        · rcases e_or hf with hf | hf
          · exact g_X11_readsRow_J80 ih hk160 _ _ _ _ _ _ _  (rf_sI f0 ) hf
          · exact g_X11_readsRow_J80 ih hk160 _ _ _ _ _ _ _  (rf_sI f0 ) hf
theorem g_X11_readsRow_J169 {L : eL} {h0 : eH} {r : eH × Int32}  : ∀ (h : eH) (v0 : Nat) (v3 : Int32), rf h0 h → f_X11_readsRow_J169 L h v0 v3 = some r → rf h0 r.1 := by
  intro h v0 v3 f0 hf
  unfold f_X11_readsRow_J169 at hf
  rcases e_or hf with hf | hf
  · exact rf_oW hf f0
  · replace hf := (e_if hf).2
    rcases e_or hf with hf | hf
    · exact rf_oW hf f0
    · exact rf_oW hf f0
theorem g_X11_readsRow_J13 {L : eL} {h0 : eH} {r : eH × Int32}  : ∀ (h : eH) (v0 : Nat) (v1 : Int32) (s0 : Int32), rf h0 h → f_X11_readsRow_J13 L h v0 v1 s0 = some r → rf h0 r.1 := by
  intro h v0 v1 s0 f0 hf
  unfold f_X11_readsRow_J13 at hf
  replace hf := (e_if hf).2
  rcases e_or hf with hf | hf
  · obtain ⟨r1, hr2, hf⟩ := e_bd hf
    refine g_X11_readsRow_L36 ?_ e_fu _ _ _ _ _ _  f0 hf
    · intro h10 w0_11 w1_12 w3_13 f14 hf
      rcases e_or hf with hf | hf
      · replace hf := (e_if hf).2
        exact g_X11_readsRow_J169 _ _ _  (rf_sI f14 ) hf
      · exact g_X11_readsRow_J169 _ _ _  f14 hf
  · obtain ⟨r15, hr16, hf⟩ := e_bd hf
    refine g_X11_readsRow_L36 ?_ e_fu _ _ _ _ _ _  f0 hf
    · intro h17 w0_18 w1_19 w3_20 f21 hf
      rcases e_or hf with hf | hf
      · replace hf := (e_if hf).2
        exact g_X11_readsRow_J169 _ _ _  (rf_sI f21 ) hf
      · exact g_X11_readsRow_J169 _ _ _  f21 hf
theorem g_X11_readsRow {L : eL} {h0 h : eH} {v0 : Nat} {v1 : Int32} {r : eH × Int32} (f0 : rf h0 h) (hf : f_X11_readsRow L h v0 v1 = some r) : rf h0 r.1 := by
  unfold f_X11_readsRow at hf
  rcases e_or hf with hf | hf
  · exact g_X11_readsRow_J13 _ _ _ _  f0 hf
  · replace hf := (e_if hf).2
    exact g_X11_readsRow_J13 _ _ _ _  f0 hf
theorem g_X11_takes_J29 {L : eL} {h0 : eH} {r : eH × Int32}  : ∀ (h : eH) (v0 : Nat) (s0 : Int32), rf h0 h → f_X11_takes_J29 L h v0 s0 = some r → rf h0 r.1 := by
  intro h v0 s0 f0 hf
  unfold f_X11_takes_J29 at hf
  replace hf := (e_if hf).2
  replace hf := (e_if hf).2
  exact rf_oW hf (rf_sI f0 )
theorem g_X11_takes {L : eL} {h0 h : eH} {v0 : Nat} {v1 : Int32} {r : eH × Int32} (f0 : rf h0 h) (hf : f_X11_takes L h v0 v1 = some r) : rf h0 r.1 := by
  unfold f_X11_takes at hf
  replace hf := (e_if hf).2
  rcases e_or hf with hf | hf
  · exact g_X11_takes_J29 _ _ _  f0 hf
  · obtain ⟨b1, hb2, hf⟩ := e_bd hf
    replace hf := (e_if hf).2
    rcases e_or hf with hf | hf
    · exact g_X11_takes_J29 _ _ _  f0 hf
    · exact g_X11_takes_J29 _ _ _  f0 hf
theorem g_X11_flat_L33 {L : eL} {h0 : eH} {r : eH × Int32} {k64 : eH → Nat → Int32 → Int32 → Option (eH × Int32)} (hk64 : ∀ (h : eH) (v0 : Nat) (v1 : Int32) (v2 : Int32), rf h0 h → k64 h v0 v1 v2 = some r → rf h0 r.1) : ∀ (n : Nat) (h : eH) (v0 : Nat) (v1 : Int32) (v2 : Int32), rf h0 h → f_X11_flat_L33 L n k64 h v0 v1 v2 = some r → rf h0 r.1 := by
  intro n
  induction n with
  | zero => intro h v0 v1 v2 f0 hf; exact absurd hf (by simp [f_X11_flat_L33])
  | succ n ih =>
    intro h v0 v1 v2 f0 hf
    unfold f_X11_flat_L33 at hf
    rcases e_or hf with hf | hf
    · exact hk64 _ _ _ _  f0 hf
    · rcases e_or hf with hf | hf
      · exact hk64 _ _ _ _  f0 hf
      · replace hf := (e_if hf).2
        obtain ⟨r7, hr8, hf⟩ := e_bd hf
        have f9 := g_X11_takes  f0 hr8
        rcases e_or hf with hf | hf
        · exact hk64 _ _ _ _  f9 hf
        · obtain ⟨r10, hr11, hf⟩ := e_bd hf
          have f12 := g_X11_readsRow  f9 hr11
          exact ih _ _ _ _  f12 hf
theorem g_X11_flat_J121 {L : eL} {h0 : eH} {r : eH × Int32} {k94 : eH → Nat → Int32 → Int32 → Int32 → Int32 → Option (eH × Int32)} {k156 : eH → Nat → Int32 → Int32 → Int32 → Option (eH × Int32)} (hk94 : ∀ (h : eH) (v0 : Nat) (v1 : Int32) (v3 : Int32) (v4 : Int32) (v5 : Int32), rf h0 h → k94 h v0 v1 v3 v4 v5 = some r → rf h0 r.1) (hk156 : ∀ (h : eH) (v0 : Nat) (v1 : Int32) (v3 : Int32) (v4 : Int32), rf h0 h → k156 h v0 v1 v3 v4 = some r → rf h0 r.1) : ∀ (h : eH) (v0 : Nat) (v1 : Int32) (v4 : Int32) (v5 : Int32) (s0 : Int32) (s1 : Int32), rf h0 h → f_X11_flat_J121 L k94 k156 h v0 v1 v4 v5 s0 s1 = some r → rf h0 r.1 := by
  intro h v0 v1 v4 v5 s0 s1 f0 hf
  unfold f_X11_flat_J121 at hf
  rcases e_or hf with hf | hf
  · exact hk94 _ _ _ _ _ _  f0 hf
  · replace hf := (e_if hf).2
    obtain ⟨b21, hb22, hf⟩ := e_bd hf
    replace hf := (e_if hf).2
    rcases e_or hf with hf | hf
    · exact hk94 _ _ _ _ _ _  f0 hf
    · exact hk94 _ _ _ _ _ _  f0 hf
theorem g_X11_flat_L94 {L : eL} {h0 : eH} {r : eH × Int32} {k156 : eH → Nat → Int32 → Int32 → Int32 → Option (eH × Int32)} (hk156 : ∀ (h : eH) (v0 : Nat) (v1 : Int32) (v3 : Int32) (v4 : Int32), rf h0 h → k156 h v0 v1 v3 v4 = some r → rf h0 r.1) : ∀ (n : Nat) (h : eH) (v0 : Nat) (v1 : Int32) (v3 : Int32) (v4 : Int32) (v5 : Int32), rf h0 h → f_X11_flat_L94 L n k156 h v0 v1 v3 v4 v5 = some r → rf h0 r.1 := by
  intro n
  induction n with
  | zero => intro h v0 v1 v3 v4 v5 f0 hf; exact absurd hf (by simp [f_X11_flat_L94])
  | succ n ih =>
    intro h v0 v1 v3 v4 v5 f0 hf
    unfold f_X11_flat_L94 at hf
    replace hf := (e_if hf).2
    rcases e_or hf with hf | hf
    · exact hk156 _ _ _ _ _  f0 hf
    · obtain ⟨b18, hb19, hf⟩ := e_bd hf
      replace hf := (e_if hf).2
      rcases e_or hf with hf | hf
      · exact g_X11_flat_J121 ih hk156 _ _ _ _ _ _ _  f0 hf
      · exact g_X11_flat_J121 ih hk156 _ _ _ _ _ _ _  f0 hf
theorem g_X11_flat_L187 {L : eL} {h0 : eH} {r : eH × Int32} {k232 : eH → Nat → Int32 → Int32 → Option (eH × Int32)} (hk232 : ∀ (h : eH) (v0 : Nat) (v3 : Int32) (v4 : Int32), rf h0 h → k232 h v0 v3 v4 = some r → rf h0 r.1) : ∀ (n : Nat) (h : eH) (v0 : Nat) (v3 : Int32) (v4 : Int32) (v5 : Int32), rf h0 h → f_X11_flat_L187 L n k232 h v0 v3 v4 v5 = some r → rf h0 r.1 := by
  intro n
  induction n with
  | zero => intro h v0 v3 v4 v5 f0 hf; exact absurd hf (by simp [f_X11_flat_L187])
  | succ n ih =>
    intro h v0 v3 v4 v5 f0 hf
    unfold f_X11_flat_L187 at hf
    rcases e_or hf with hf | hf
    · exact hk232 _ _ _ _  f0 hf
    · replace hf := (e_if hf).2
      obtain ⟨b33, hb34, hf⟩ := e_bd hf
      rcases e_or hf with hf | hf
      · replace hf := (e_if hf).2
        exact ih _ _ _ _ _  (rf_sI f0 ) hf
      · obtain ⟨b36, hb37, hf⟩ := e_bd hf
        replace hf := (e_if hf).2
        replace hf := (e_if hf).2
        obtain ⟨h39, hh40, hf⟩ := e_bd hf
        have f41 := rf_oV hh40 (rf_sI f0 )
        exact ih _ _ _ _ _  f41 hf
theorem g_X11_flat_L235 {L : eL} {h0 : eH} {r : eH × Int32} {k256 : eH → Nat → Int32 → Int32 → Option (eH × Int32)} (hk256 : ∀ (h : eH) (v0 : Nat) (v3 : Int32) (v4 : Int32), rf h0 h → k256 h v0 v3 v4 = some r → rf h0 r.1) : ∀ (n : Nat) (h : eH) (v0 : Nat) (v3 : Int32) (v4 : Int32) (v5 : Int32), rf h0 h → f_X11_flat_L235 L n k256 h v0 v3 v4 v5 = some r → rf h0 r.1 := by
  intro n
  induction n with
  | zero => intro h v0 v3 v4 v5 f0 hf; exact absurd hf (by simp [f_X11_flat_L235])
  | succ n ih =>
    intro h v0 v3 v4 v5 f0 hf
    unfold f_X11_flat_L235 at hf
    rcases e_or hf with hf | hf
    · exact hk256 _ _ _ _  f0 hf
    · replace hf := (e_if hf).2
      obtain ⟨b47, hb48, hf⟩ := e_bd hf
      replace hf := (e_if hf).2
      exact ih _ _ _ _ _  (rf_sI f0 ) hf
theorem g_X11_flat_L301 {L : eL} {h0 : eH} {r : eH × Int32} {k321 : eH → Int32 → Option (eH × Int32)} (hk321 : ∀ (h : eH) (v3 : Int32), rf h0 h → k321 h v3 = some r → rf h0 r.1) : ∀ (n : Nat) (h : eH) (v0 : Nat) (v3 : Int32) (v5 : Int32), rf h0 h → f_X11_flat_L301 L n k321 h v0 v3 v5 = some r → rf h0 r.1 := by
  intro n
  induction n with
  | zero => intro h v0 v3 v5 f0 hf; exact absurd hf (by simp [f_X11_flat_L301])
  | succ n ih =>
    intro h v0 v3 v5 f0 hf
    unfold f_X11_flat_L301 at hf
    rcases e_or hf with hf | hf
    · exact hk321 _ _ f0 hf
    · replace hf := (e_if hf).2
      obtain ⟨b64, hb65, hf⟩ := e_bd hf
      replace hf := (e_if hf).2
      obtain ⟨h67, hh68, hf⟩ := e_bd hf
      have f69 := rf_oV hh68 (rf_sI f0 )
      exact ih _ _ _ _  f69 hf
theorem g_X11_flat_J278 {L : eL} {h0 : eH} {r : eH × Int32}  : ∀ (h : eH) (v0 : Nat) (v3 : Int32) (s0 : Nat) (s1 : Int32) (s2 : Int32), rf h0 h → f_X11_flat_J278 L h v0 v3 s0 s1 s2 = some r → rf h0 r.1 := by
  intro h v0 v3 s0 s1 s2 f0 hf
  unfold f_X11_flat_J278 at hf
  replace hf := (e_if hf).2
  replace hf := (e_if hf).2
  obtain ⟨b58, hb59, hf⟩ := e_bd hf
  replace hf := (e_if hf).2
  obtain ⟨h61, hh62, hf⟩ := e_bd hf
  have f63 := rf_oV hh62 (rf_sI (rf_sI f0 ) )
  refine g_X11_flat_L301 ?_ e_fu _ _ _ _  (rf_sI (rf_sI f63 ) ) hf
  · intro h70 w3_71 f72 hf
    exact rf_oW hf f72
theorem g_X11_flat_J64 {L : eL} {h0 : eH} {r : eH × Int32}  : ∀ (h : eH) (v0 : Nat) (v1 : Int32) (v2 : Int32), rf h0 h → f_X11_flat_J64 L h v0 v1 v2 = some r → rf h0 r.1 := by
  intro h v0 v1 v2 f0 hf
  unfold f_X11_flat_J64 at hf
  rcases e_or hf with hf | hf
  · replace hf := (e_if hf).2
    exact rf_oW hf f0
  · replace hf := (e_if hf).2
    rcases e_or hf with hf | hf
    · refine g_X11_flat_L94 ?_ e_fu _ _ _ _ _ _  f0 hf
      · intro h24 w0_25 w1_26 w3_27 w4_28 f29 hf
        rcases e_or hf with hf | hf
        · exact rf_oW hf f29
        · replace hf := (e_if hf).2
          obtain ⟨h30, hh31, hf⟩ := e_bd hf
          have f32 := rf_oV hh31 (rf_sI (rf_sI f29 ) )
          refine g_X11_flat_L187 ?_ e_fu _ _ _ _ _  (rf_sI f32 ) hf
          · intro h42 w0_43 w3_44 w4_45 f46 hf
            refine g_X11_flat_L235 ?_ e_fu _ _ _ _ _  f46 hf
            · intro h50 w0_51 w3_52 w4_53 f54 hf
              replace hf := (e_if hf).2
              obtain ⟨b55, hb56, hf⟩ := e_bd hf
              rcases e_or hf with hf | hf
              · exact g_X11_flat_J278 _ _ _ _ _ _   f54 hf
              · exact g_X11_flat_J278 _ _ _ _ _ _   f54 hf
    · exact rf_oW hf f0
theorem g_X11_flat {L : eL} {h0 h : eH} {v0 : Nat} {r : eH × Int32} (f0 : rf h0 h) (hf : f_X11_flat L h v0 = some r) : rf h0 r.1 := by
  unfold f_X11_flat at hf
  replace hf := (e_if hf).2
  obtain ⟨r1, hr2, hf⟩ := e_bd hf
  have f3 := g_X11_begins  (rf_sI f0 ) hr2
  obtain ⟨r4, hr5, hf⟩ := e_bd hf
  have f6 := g_X11_readsRow  (rf_sI (rf_sI f3 ) ) hr5
  refine g_X11_flat_L33 ?_ e_fu _ _ _ _  f6 hf
  · intro h13 w0_14 w1_15 w2_16 f17 hf
    exact g_X11_flat_J64 _ _ _ _  f17 hf
theorem g_X11_codes {L : eL} {h0 h : eH} {v0 : Nat} {v1 : Int32} {r : eH} (f0 : rf h0 h) (hf : f_X11_codes L h v0 v1 = some r) : rf h0 r := by
  unfold f_X11_codes at hf
  replace hf := (e_if hf).2
  obtain ⟨b1, hb2, hf⟩ := e_bd hf
  replace hf := (e_if hf).2
  obtain ⟨h4, hh5, hf⟩ := e_bd hf
  have f6 := rf_oV hh5 (rf_sI (rf_sI f0 ) )
  exact rf_oV hf f6
theorem g_X11_number_L13 {L : eL} {h0 : eH} {r : eH × Int32} {k59 : eH → Int32 → Option (eH × Int32)} (hk59 : ∀ (h : eH) (v2 : Int32), rf h0 h → k59 h v2 = some r → rf h0 r.1) : ∀ (n : Nat) (h : eH) (v0 : Nat) (v1 : Int32) (v2 : Int32) (v3 : Int32), rf h0 h → f_X11_number_L13 L n k59 h v0 v1 v2 v3 = some r → rf h0 r.1 := by
  intro n
  induction n with
  | zero => intro h v0 v1 v2 v3 f0 hf; exact absurd hf (by simp [f_X11_number_L13])
  | succ n ih =>
    intro h v0 v1 v2 v3 f0 hf
    unfold f_X11_number_L13 at hf
    rcases e_or hf with hf | hf
    · exact hk59 _ _ f0 hf
    · replace hf := (e_if hf).2
      obtain ⟨r3, hr4, hf⟩ := e_bd hf
      rcases e_or hf with hf | hf
      · exact hk59 _ _ f0 hf
      · obtain ⟨b5, hb6, hf⟩ := e_bd hf
        replace hf := (e_if hf).2
        exact ih _ _ _ _ _  (rf_sI f0 ) hf
theorem g_X11_number {L : eL} {h0 h : eH} {v0 : Nat} {v1 : Int32} {r : eH × Int32} (f0 : rf h0 h) (hf : f_X11_number L h v0 v1 = some r) : rf h0 r.1 := by
  unfold f_X11_number at hf
  replace hf := (e_if hf).2
  obtain ⟨r1, hr2, hf⟩ := e_bd hf
  rcases e_or hf with hf | hf
  · exact rf_oW hf f0
  · refine g_X11_number_L13 ?_ e_fu _ _ _ _ _  f0 hf
    · intro h8 w2_9 f10 hf
      exact rf_oW hf f10
theorem g_X11_takesOf {L : eL} {h0 h : eH} {v0 : Nat} {v1 : Nat} {r : eH × Int32} (f0 : rf h0 h) (hf : f_X11_takesOf L h v0 v1 = some r) : rf h0 r.1 := by
  unfold f_X11_takesOf at hf
  replace hf := (e_if hf).2
  obtain ⟨r1, hr2, hf⟩ := e_bd hf
  rcases e_or hf with hf | hf
  · exact rf_oW hf (rf_sI f0 )
  · exact rf_oW hf (rf_sI f0 )
theorem g_X11_readsThing_o {L : eL} {h0 h : eH} {rec_X11_readsThing : eH → Nat → Option (eH × Int32)} {rec_X11_readsRank : eH → Nat → Int32 → Option (eH × Int32)} {v0 : Nat} {r : eH × Int32} (grec_X11_readsThing : ∀ (h : eH) (a0 : Nat) {z : eH × Int32}, rf h0 h → rec_X11_readsThing h a0 = some z → rf h0 z.1) (grec_X11_readsRank : ∀ (h : eH) (a0 : Nat) (a1 : Int32) {z : eH × Int32}, rf h0 h → rec_X11_readsRank h a0 a1 = some z → rf h0 z.1) (f0 : rf h0 h) (hf : f_X11_readsThing_o L rec_X11_readsThing rec_X11_readsRank h v0 = some r) : rf h0 r.1 := by
  unfold f_X11_readsThing_o at hf
  replace hf := (e_if hf).2
  obtain ⟨r1, hr2, hf⟩ := e_bd hf
  have f3 := g_X11_takes  f0 hr2
  rcases e_or hf with hf | hf
  · obtain ⟨r4, hr5, hf⟩ := e_bd hf
    rcases e_or hf with hf | hf
    · obtain ⟨r6, hr7, hf⟩ := e_bd hf
      have f8 := g_X11_takesOf   f3 hr7
      rcases e_or hf with hf | hf
      · rcases e_or hf with hf | hf
        · exact rf_oW hf f8
        · obtain ⟨r9, hr10, hf⟩ := e_bd hf
          have f11 := g_X11_takes  f8 hr10
          rcases e_or hf with hf | hf
          · exact rf_oW hf f11
          · obtain ⟨r12, hr13, hf⟩ := e_bd hf
            have f14 := grec_X11_readsRank _ _ _  (rf_sI f11 ) hr13
            rcases e_or hf with hf | hf
            · exact rf_oW hf f14
            · obtain ⟨r15, hr16, hf⟩ := e_bd hf
              have f17 := g_X11_takes  f14 hr16
              rcases e_or hf with hf | hf
              · exact rf_oW hf f17
              · exact rf_oW hf (rf_sI f17 )
      · obtain ⟨r18, hr19, hf⟩ := e_bd hf
        have f20 := g_X11_codes  f8 hr19
        exact rf_oW hf f20
    · obtain ⟨r21, hr22, hf⟩ := e_bd hf
      have f23 := g_X11_number  f3 hr22
      obtain ⟨r24, hr25, hf⟩ := e_bd hf
      have f26 := g_X11_codes  f23 hr25
      exact rf_oW hf f26
  · obtain ⟨r27, hr28, hf⟩ := e_bd hf
    have f29 := grec_X11_readsThing _ _  f3 hr28
    obtain ⟨r30, hr31, hf⟩ := e_bd hf
    have f32 := g_X11_codes  f29 hr31
    replace hf := (e_if hf).2
    exact rf_oW hf f32
theorem g_X11_readsRank_o_J96 {L : eL} {h0 : eH} {rec_X11_readsThing : eH → Nat → Option (eH × Int32)} {rec_X11_readsRank : eH → Nat → Int32 → Option (eH × Int32)} {r : eH × Int32} {k24 : eH → Nat → Int32 → Int32 → Option (eH × Int32)} {k58 : eH → Option (eH × Int32)} {k70 : eH → Option (eH × Int32)} {k113 : eH → Option (eH × Int32)} (grec_X11_readsThing : ∀ (h : eH) (a0 : Nat) {z : eH × Int32}, rf h0 h → rec_X11_readsThing h a0 = some z → rf h0 z.1) (grec_X11_readsRank : ∀ (h : eH) (a0 : Nat) (a1 : Int32) {z : eH × Int32}, rf h0 h → rec_X11_readsRank h a0 a1 = some z → rf h0 z.1) (hk24 : ∀ (h : eH) (v0 : Nat) (v1 : Int32) (v2 : Int32), rf h0 h → k24 h v0 v1 v2 = some r → rf h0 r.1) (hk58 : ∀ (h : eH), rf h0 h → k58 h = some r → rf h0 r.1) (hk70 : ∀ (h : eH), rf h0 h → k70 h = some r → rf h0 r.1) (hk113 : ∀ (h : eH), rf h0 h → k113 h = some r → rf h0 r.1) : ∀ (h : eH) (v0 : Nat) (v1 : Int32) (s0 : Nat) (s1 : Int32) (s2 : Int32), rf h0 h → f_X11_readsRank_o_J96 L rec_X11_readsThing rec_X11_readsRank k24 k58 k70 k113 h v0 v1 s0 s1 s2 = some r → rf h0 r.1 := by
  intro h v0 v1 s0 s1 s2 f0 hf
  unfold f_X11_readsRank_o_J96 at hf
  replace hf := (e_if hf).2
  obtain ⟨r10, hr11, hf⟩ := e_bd hf
  have f12 := g_X11_codes  f0 hr11
  rcases e_or hf with hf | hf
  · exact hk24 _ _ _ _  f12 hf
  · exact hk24 _ _ _ _  f12 hf
theorem g_X11_readsRank_o_J50 {L : eL} {h0 : eH} {rec_X11_readsThing : eH → Nat → Option (eH × Int32)} {rec_X11_readsRank : eH → Nat → Int32 → Option (eH × Int32)} {r : eH × Int32} {k24 : eH → Nat → Int32 → Int32 → Option (eH × Int32)} {k58 : eH → Option (eH × Int32)} {k70 : eH → Option (eH × Int32)} {k113 : eH → Option (eH × Int32)} (grec_X11_readsThing : ∀ (h : eH) (a0 : Nat) {z : eH × Int32}, rf h0 h → rec_X11_readsThing h a0 = some z → rf h0 z.1) (grec_X11_readsRank : ∀ (h : eH) (a0 : Nat) (a1 : Int32) {z : eH × Int32}, rf h0 h → rec_X11_readsRank h a0 a1 = some z → rf h0 z.1) (hk24 : ∀ (h : eH) (v0 : Nat) (v1 : Int32) (v2 : Int32), rf h0 h → k24 h v0 v1 v2 = some r → rf h0 r.1) (hk58 : ∀ (h : eH), rf h0 h → k58 h = some r → rf h0 r.1) (hk70 : ∀ (h : eH), rf h0 h → k70 h = some r → rf h0 r.1) (hk113 : ∀ (h : eH), rf h0 h → k113 h = some r → rf h0 r.1) : ∀ (h : eH) (v0 : Nat) (v1 : Int32) (s0 : Nat) (s1 : Nat), rf h0 h → f_X11_readsRank_o_J50 L rec_X11_readsThing rec_X11_readsRank k24 k58 k70 k113 h v0 v1 s0 s1 = some r → rf h0 r.1 := by
  intro h v0 v1 s0 s1 f0 hf
  unfold f_X11_readsRank_o_J50 at hf
  replace hf := (e_if hf).2
  obtain ⟨r4, hr5, hf⟩ := e_bd hf
  have f6 := g_X11_takesOf   f0 hr5
  rcases e_or hf with hf | hf
  · replace hf := (e_if hf).2
    obtain ⟨r7, hr8, hf⟩ := e_bd hf
    have f9 := grec_X11_readsRank _ _ _  f6 hr8
    rcases e_or hf with hf | hf
    · exact hk70 _ f9 hf
    · rcases e_or hf with hf | hf
      · exact g_X11_readsRank_o_J96 grec_X11_readsThing grec_X11_readsRank hk24 hk58 hk70 hk113 _ _ _ _ _ _   f9 hf
      · rcases e_or hf with hf | hf
        · exact g_X11_readsRank_o_J96 grec_X11_readsThing grec_X11_readsRank hk24 hk58 hk70 hk113 _ _ _ _ _ _   f9 hf
        · exact g_X11_readsRank_o_J96 grec_X11_readsThing grec_X11_readsRank hk24 hk58 hk70 hk113 _ _ _ _ _ _   f9 hf
  · exact hk58 _ f6 hf
theorem g_X11_readsRank_o_L24 {L : eL} {h0 : eH} {rec_X11_readsThing : eH → Nat → Option (eH × Int32)} {rec_X11_readsRank : eH → Nat → Int32 → Option (eH × Int32)} {r : eH × Int32} {k58 : eH → Option (eH × Int32)} {k70 : eH → Option (eH × Int32)} {k113 : eH → Option (eH × Int32)} (grec_X11_readsThing : ∀ (h : eH) (a0 : Nat) {z : eH × Int32}, rf h0 h → rec_X11_readsThing h a0 = some z → rf h0 z.1) (grec_X11_readsRank : ∀ (h : eH) (a0 : Nat) (a1 : Int32) {z : eH × Int32}, rf h0 h → rec_X11_readsRank h a0 a1 = some z → rf h0 z.1) (hk58 : ∀ (h : eH), rf h0 h → k58 h = some r → rf h0 r.1) (hk70 : ∀ (h : eH), rf h0 h → k70 h = some r → rf h0 r.1) (hk113 : ∀ (h : eH), rf h0 h → k113 h = some r → rf h0 r.1) : ∀ (n : Nat) (h : eH) (v0 : Nat) (v1 : Int32) (v2 : Int32), rf h0 h → f_X11_readsRank_o_L24 L rec_X11_readsThing rec_X11_readsRank n k58 k70 k113 h v0 v1 v2 = some r → rf h0 r.1 := by
  intro n
  induction n with
  | zero => intro h v0 v1 v2 f0 hf; exact absurd hf (by simp [f_X11_readsRank_o_L24])
  | succ n ih =>
    intro h v0 v1 v2 f0 hf
    unfold f_X11_readsRank_o_L24 at hf
    rcases e_or hf with hf | hf
    · exact hk113 _ f0 hf
    · rcases e_or hf with hf | hf
      · exact g_X11_readsRank_o_J50 grec_X11_readsThing grec_X11_readsRank ih hk58 hk70 hk113 _ _ _ _ _    f0 hf
      · rcases e_or hf with hf | hf
        · exact g_X11_readsRank_o_J50 grec_X11_readsThing grec_X11_readsRank ih hk58 hk70 hk113 _ _ _ _ _    f0 hf
        · exact g_X11_readsRank_o_J50 grec_X11_readsThing grec_X11_readsRank ih hk58 hk70 hk113 _ _ _ _ _    f0 hf
theorem g_X11_readsRank_o {L : eL} {h0 h : eH} {rec_X11_readsThing : eH → Nat → Option (eH × Int32)} {rec_X11_readsRank : eH → Nat → Int32 → Option (eH × Int32)} {v0 : Nat} {v1 : Int32} {r : eH × Int32} (grec_X11_readsThing : ∀ (h : eH) (a0 : Nat) {z : eH × Int32}, rf h0 h → rec_X11_readsThing h a0 = some z → rf h0 z.1) (grec_X11_readsRank : ∀ (h : eH) (a0 : Nat) (a1 : Int32) {z : eH × Int32}, rf h0 h → rec_X11_readsRank h a0 a1 = some z → rf h0 z.1) (f0 : rf h0 h) (hf : f_X11_readsRank_o L rec_X11_readsThing rec_X11_readsRank h v0 v1 = some r) : rf h0 r.1 := by
  unfold f_X11_readsRank_o at hf
  rcases e_or hf with hf | hf
  · replace hf := (e_if hf).2
    obtain ⟨r19, hr20, hf⟩ := e_bd hf
    have f21 := grec_X11_readsThing _ _  f0 hr20
    replace hf := (e_if hf).2
    exact rf_oW hf f21
  · replace hf := (e_if hf).2
    obtain ⟨r1, hr2, hf⟩ := e_bd hf
    have f3 := grec_X11_readsRank _ _ _  f0 hr2
    rcases e_or hf with hf | hf
    · exact rf_oW hf f3
    · refine g_X11_readsRank_o_L24 grec_X11_readsThing grec_X11_readsRank ?_ ?_ ?_ e_fu _ _ _ _  f3 hf
      · intro h13 f14 hf
        exact rf_oW hf f14
      · intro h15 f16 hf
        exact rf_oW hf f16
      · intro h17 f18 hf
        exact rf_oW hf f18
theorem gg_X11_readsRank {L : eL} {h0 : eH} : ∀ (n t : Nat) (h : eH) (x0 : Nat) (x1 : Int32) (r : eH × Int32), rf h0 h → fg_X11_readsRank L n t h x0 x1 = some r → rf h0 r.1 := by
  intro n
  induction n with
  | zero => intro t h x0 x1 r f0 hf; exact absurd hf (by simp [fg_X11_readsRank])
  | succ n ih =>
    intro t h x0 x1 r f0 hf
    unfold fg_X11_readsRank at hf
    rcases e_or hf with hf | hf
    · exact g_X11_readsRank_o (fun hh a0 {z} ff hz => ih _ _ _ _ z ff hz) (fun hh a0 a1 {z} ff hz => ih _ _ _ _ z ff hz) f0 hf
    · exact g_X11_readsThing_o (fun hh a0 {z} ff hz => ih _ _ _ _ z ff hz) (fun hh a0 a1 {z} ff hz => ih _ _ _ _ z ff hz) f0 hf
theorem g_X11_readsRank {L : eL} {h0 h : eH} {x0 : Nat} {x1 : Int32} {r : eH × Int32} (f0 : rf h0 h) (hf : f_X11_readsRank L h x0 x1 = some r) : rf h0 r.1 := gg_X11_readsRank 100 0 h x0 x1 r f0 hf
theorem g_X11_readsThing {L : eL} {h0 h : eH} {x0 : Nat} {r : eH × Int32} (f0 : rf h0 h) (hf : f_X11_readsThing L h x0 = some r) : rf h0 r.1 := gg_X11_readsRank 100 1 h x0 0 r f0 hf
theorem g_X11_rule_L61 {L : eL} {h0 : eH} {r : eH × Int32} {k90 : eH → Option (eH × Int32)} (hk90 : ∀ (h : eH), rf h0 h → k90 h = some r → rf h0 r.1) : ∀ (n : Nat) (h : eH) (v0 : Nat) (v4 : Int32), rf h0 h → f_X11_rule_L61 L n k90 h v0 v4 = some r → rf h0 r.1 := by
  intro n
  induction n with
  | zero => intro h v0 v4 f0 hf; exact absurd hf (by simp [f_X11_rule_L61])
  | succ n ih =>
    intro h v0 v4 f0 hf
    unfold f_X11_rule_L61 at hf
    replace hf := (e_if hf).2
    rcases e_or hf with hf | hf
    · exact hk90 _ f0 hf
    · obtain ⟨b6, hb7, hf⟩ := e_bd hf
      obtain ⟨b9, hb10, hf⟩ := e_bd hf
      replace hf := (e_if hf).2
      replace hf := (e_if hf).2
      obtain ⟨h12, hh13, hf⟩ := e_bd hf
      have f14 := rf_oV hh13 (rf_sI f0 )
      exact ih _ _ _  f14 hf
theorem g_X11_rule_J34 {L : eL} {h0 : eH} {r : eH × Int32}  : ∀ (h : eH) (v0 : Nat) (v1 : Int32) (s0 : Int32), rf h0 h → f_X11_rule_J34 L h v0 v1 s0 = some r → rf h0 r.1 := by
  intro h v0 v1 s0 f0 hf
  unfold f_X11_rule_J34 at hf
  replace hf := (e_if hf).2
  obtain ⟨r4, hr5, hf⟩ := e_bd hf
  rcases e_or hf with hf | hf
  · refine g_X11_rule_L61 ?_ e_fu _ _ _  (rf_sI f0 ) hf
    · intro h15 f16 hf
      exact rf_oW hf f16
  · exact rf_oW hf f0
theorem g_X11_rule {L : eL} {h0 h : eH} {v0 : Nat} {r : eH × Int32} (f0 : rf h0 h) (hf : f_X11_rule L h v0 = some r) : rf h0 r.1 := by
  unfold f_X11_rule at hf
  replace hf := (e_if hf).2
  obtain ⟨r1, hr2, hf⟩ := e_bd hf
  have f3 := g_X11_begins  (rf_sI f0 ) hr2
  rcases e_or hf with hf | hf
  · exact g_X11_rule_J34 _ _ _ _  (rf_sI f3 ) hf
  · obtain ⟨r17, hr18, hf⟩ := e_bd hf
    have f19 := g_X11_readsRank  (rf_sI f3 ) hr18
    rcases e_or hf with hf | hf
    · exact g_X11_rule_J34 _ _ _ _  f19 hf
    · exact g_X11_rule_J34 _ _ _ _  f19 hf
theorem g_X11_refuse {L : eL} {h0 h : eH} {v0 : Nat} {r : eH × Int32} (f0 : rf h0 h) (hf : f_X11_refuse L h v0 = some r) : rf h0 r.1 := by
  unfold f_X11_refuse at hf
  replace hf := (e_if hf).2
  exact rf_oW hf (rf_sI f0 )
theorem g_X11_spot {L : eL} {h0 h : eH} {v0 : Nat} {v1 : Int32} {v2 : Int32} {r : eH × Int32} (f0 : rf h0 h) (hf : f_X11_spot L h v0 v1 v2 = some r) : rf h0 r.1 := by
  unfold f_X11_spot at hf
  replace hf := (e_if hf).2
  obtain ⟨r1, hr2, hf⟩ := e_bd hf
  rcases e_or hf with hf | hf
  · obtain ⟨r3, hr4, hf⟩ := e_bd hf
    have f5 := g_X11_refuse  (rf_sI f0 ) hr4
    exact rf_oW hf f5
  · rcases e_or hf with hf | hf
    · obtain ⟨r23, hr24, hf⟩ := e_bd hf
      have f25 := g_X11_refuse  (rf_sI f0 ) hr24
      exact rf_oW hf f25
    · rcases e_or hf with hf | hf
      · obtain ⟨b6, hb7, hf⟩ := e_bd hf
        replace hf := (e_if hf).2
        exact rf_oW hf (rf_sI f0 )
      rcases e_or hf with hf | hf
      · obtain ⟨b9, hb10, hf⟩ := e_bd hf
        replace hf := (e_if hf).2
        exact rf_oW hf (rf_sI f0 )
      rcases e_or hf with hf | hf
      · obtain ⟨b12, hb13, hf⟩ := e_bd hf
        replace hf := (e_if hf).2
        exact rf_oW hf (rf_sI f0 )
      rcases e_or hf with hf | hf
      · rcases e_or hf with hf | hf
        · exact rf_oW hf (rf_sI f0 )
        · exact rf_oW hf (rf_sI f0 )
      rcases e_or hf with hf | hf
      · obtain ⟨b15, hb16, hf⟩ := e_bd hf
        replace hf := (e_if hf).2
        rcases e_or hf with hf | hf
        · exact rf_oW hf (rf_sI f0 )
        · exact rf_oW hf (rf_sI f0 )
      · obtain ⟨b18, hb19, hf⟩ := e_bd hf
        obtain ⟨r21, hr22, hf⟩ := e_bd hf
        exact rf_oW hf (rf_sI f0 )
theorem g_X11_ruled_L4 {L : eL} {h0 : eH} {r : eH × Int32} {k125 : eH → Nat → Option (eH × Int32)} (hk125 : ∀ (h : eH) (v0 : Nat), rf h0 h → k125 h v0 = some r → rf h0 r.1) : ∀ (n : Nat) (h : eH) (v0 : Nat) (v1 : Int32) (v2 : Int32), rf h0 h → f_X11_ruled_L4 L n k125 h v0 v1 v2 = some r → rf h0 r.1 := by
  intro n
  induction n with
  | zero => intro h v0 v1 v2 f0 hf; exact absurd hf (by simp [f_X11_ruled_L4])
  | succ n ih =>
    intro h v0 v1 v2 f0 hf
    unfold f_X11_ruled_L4 at hf
    replace hf := (e_if hf).2
    rcases e_or hf with hf | hf
    · exact hk125 _ _  f0 hf
    · obtain ⟨b1, hb2, hf⟩ := e_bd hf
      replace hf := (e_if hf).2
      rcases e_or hf with hf | hf
      · obtain ⟨b30, hb31, hf⟩ := e_bd hf
        obtain ⟨b33, hb34, hf⟩ := e_bd hf
        replace hf := (e_if hf).2
        replace hf := (e_if hf).2
        obtain ⟨h36, hh37, hf⟩ := e_bd hf
        have f38 := rf_oV hh37 (rf_sI f0 )
        exact ih _ _ _ _  f38 hf
      · rcases e_or hf with hf | hf
        · obtain ⟨b4, hb5, hf⟩ := e_bd hf
          rcases e_or hf with hf | hf
          · replace hf := (e_if hf).2
            obtain ⟨h7, hh8, hf⟩ := e_bd hf
            have f9 := rf_oV hh8 (rf_sI f0 )
            exact ih _ _ _ _  f9 hf
          · obtain ⟨b10, hb11, hf⟩ := e_bd hf
            replace hf := (e_if hf).2
            replace hf := (e_if hf).2
            obtain ⟨h13, hh14, hf⟩ := e_bd hf
            have f15 := rf_oV hh14 (rf_sI f0 )
            exact ih _ _ _ _  f15 hf
        · obtain ⟨b16, hb17, hf⟩ := e_bd hf
          obtain ⟨b19, hb20, hf⟩ := e_bd hf
          replace hf := (e_if hf).2
          obtain ⟨b22, hb23, hf⟩ := e_bd hf
          replace hf := (e_if hf).2
          obtain ⟨r25, hr26, hf⟩ := e_bd hf
          replace hf := (e_if hf).2
          obtain ⟨h27, hh28, hf⟩ := e_bd hf
          have f29 := rf_oV hh28 (rf_sI f0 )
          exact ih _ _ _ _  f29 hf
theorem g_X11_ruled {L : eL} {h0 h : eH} {v0 : Nat} {r : eH × Int32} (f0 : rf h0 h) (hf : f_X11_ruled L h v0 = some r) : rf h0 r.1 := by
  unfold f_X11_ruled at hf
  refine g_X11_ruled_L4 ?_ e_fu _ _ _ _  f0 hf
  · intro h39 w0_40 f41 hf
    replace hf := (e_if hf).2
    rcases e_or hf with hf | hf
    · exact rf_oW hf f41
    · obtain ⟨b42, hb43, hf⟩ := e_bd hf
      replace hf := (e_if hf).2
      exact rf_oW hf f41
theorem g_X11_turnOf_J67 {L : eL} {h0 : eH} {r : eH × Int32}  : ∀ (h : eH) (v0 : Nat) (v1 : Nat) (v2 : Int32) (s0 : Nat) (s1 : Int32) (s2 : Int32), rf h0 h → f_X11_turnOf_J67 L h v0 v1 v2 s0 s1 s2 = some r → rf h0 r.1 := by
  intro h v0 v1 v2 s0 s1 s2 f0 hf
  unfold f_X11_turnOf_J67 at hf
  replace hf := (e_if hf).2
  replace hf := (e_if hf).2
  obtain ⟨b25, hb26, hf⟩ := e_bd hf
  replace hf := (e_if hf).2
  replace hf := (e_if hf).2
  obtain ⟨h28, hh29, hf⟩ := e_bd hf
  have f30 := rf_oV hh29 (rf_sI (rf_sI f0 ) )
  obtain ⟨r31, hr32, hf⟩ := e_bd hf
  have f33 := g_X11_ruled  f30 hr32
  rcases e_or hf with hf | hf
  · exact rf_oW hf f33
  · exact rf_oW hf f33
theorem g_X11_turnOf {L : eL} {h0 h : eH} {v0 : Nat} {v1 : Nat} {r : eH × Int32} (f0 : rf h0 h) (hf : f_X11_turnOf L h v0 v1 = some r) : rf h0 r.1 := by
  unfold f_X11_turnOf at hf
  replace hf := (e_if hf).2
  rcases e_or hf with hf | hf
  · replace hf := (e_if hf).2
    obtain ⟨b1, hb2, hf⟩ := e_bd hf
    replace hf := (e_if hf).2
    replace hf := (e_if hf).2
    obtain ⟨h4, hh5, hf⟩ := e_bd hf
    have f6 := rf_oV hh5 (rf_sI f0 )
    obtain ⟨b7, hb8, hf⟩ := e_bd hf
    replace hf := (e_if hf).2
    replace hf := (e_if hf).2
    obtain ⟨h10, hh11, hf⟩ := e_bd hf
    have f12 := rf_oV hh11 (rf_sI f6 )
    obtain ⟨b13, hb14, hf⟩ := e_bd hf
    replace hf := (e_if hf).2
    obtain ⟨h16, hh17, hf⟩ := e_bd hf
    have f18 := rf_oV hh17 (rf_sI f12 )
    obtain ⟨b19, hb20, hf⟩ := e_bd hf
    obtain ⟨b22, hb23, hf⟩ := e_bd hf
    replace hf := (e_if hf).2
    rcases e_or hf with hf | hf
    · exact g_X11_turnOf_J67 _ _ _ _ _ _ _    f18 hf
    · exact g_X11_turnOf_J67 _ _ _ _ _ _ _    f18 hf
  · exact rf_oW hf f0
theorem g_X11_machine {L : eL} {h0 h : eH} {v0 : Nat} {v1 : Int32} {r : eH × Int32} (f0 : rf h0 h) (hf : f_X11_machine L h v0 v1 = some r) : rf h0 r.1 := by
  unfold f_X11_machine at hf
  replace hf := (e_if hf).2
  rcases e_or hf with hf | hf
  · obtain ⟨r18, hr19, hf⟩ := e_bd hf
    have f20 := g_X11_refuse  (rf_sI f0 ) hr19
    exact rf_oW hf f20
  · rcases e_or hf with hf | hf
    · rcases e_or hf with hf | hf
      · obtain ⟨b9, hb10, hf⟩ := e_bd hf
        obtain ⟨r12, hr13, hf⟩ := e_bd hf
        have f14 := g_X11_turnOf   (rf_sI f0 ) hr13
        exact rf_oW hf f14
      · obtain ⟨b1, hb2, hf⟩ := e_bd hf
        replace hf := (e_if hf).2
        obtain ⟨b4, hb5, hf⟩ := e_bd hf
        replace hf := (e_if hf).2
        obtain ⟨r7, hr8, hf⟩ := e_bd hf
        exact rf_oW hf (rf_sI f0 )
    · obtain ⟨b15, hb16, hf⟩ := e_bd hf
      replace hf := (e_if hf).2
      exact rf_oW hf (rf_sI f0 )
theorem g_X11_sheet_J122 {L : eL} {h0 : eH} {r : eH × Int32} {k46 : eH → Nat → Int32 → Int32 → Int32 → Int32 → Int32 → Int32 → Option (eH × Int32)} {k148 : eH → Int32 → Int32 → Option (eH × Int32)} (hk46 : ∀ (h : eH) (v0 : Nat) (v1 : Int32) (v2 : Int32) (v4 : Int32) (v5 : Int32) (v6 : Int32) (v7 : Int32), rf h0 h → k46 h v0 v1 v2 v4 v5 v6 v7 = some r → rf h0 r.1) (hk148 : ∀ (h : eH) (v1 : Int32) (v5 : Int32), rf h0 h → k148 h v1 v5 = some r → rf h0 r.1) : ∀ (h : eH) (v0 : Nat) (v1 : Int32) (v2 : Int32) (v4 : Int32) (v5 : Int32) (v6 : Int32) (v7 : Int32) (s0 : Nat) (s1 : Int32) (s2 : Int32), rf h0 h → f_X11_sheet_J122 L k46 k148 h v0 v1 v2 v4 v5 v6 v7 s0 s1 s2 = some r → rf h0 r.1 := by
  intro h v0 v1 v2 v4 v5 v6 v7 s0 s1 s2 f0 hf
  unfold f_X11_sheet_J122 at hf
  replace hf := (e_if hf).2
  replace hf := (e_if hf).2
  obtain ⟨b6, hb7, hf⟩ := e_bd hf
  replace hf := (e_if hf).2
  exact hk46 _ _ _ _ _ _ _ _  (rf_sI f0 ) hf
theorem g_X11_sheet_J78 {L : eL} {h0 : eH} {r : eH × Int32} {k46 : eH → Nat → Int32 → Int32 → Int32 → Int32 → Int32 → Int32 → Option (eH × Int32)} {k148 : eH → Int32 → Int32 → Option (eH × Int32)} (hk46 : ∀ (h : eH) (v0 : Nat) (v1 : Int32) (v2 : Int32) (v4 : Int32) (v5 : Int32) (v6 : Int32) (v7 : Int32), rf h0 h → k46 h v0 v1 v2 v4 v5 v6 v7 = some r → rf h0 r.1) (hk148 : ∀ (h : eH) (v1 : Int32) (v5 : Int32), rf h0 h → k148 h v1 v5 = some r → rf h0 r.1) : ∀ (h : eH) (v0 : Nat) (v1 : Int32) (v2 : Int32) (v4 : Int32) (v5 : Int32) (v6 : Int32) (v7 : Int32) (s0 : Int32), rf h0 h → f_X11_sheet_J78 L k46 k148 h v0 v1 v2 v4 v5 v6 v7 s0 = some r → rf h0 r.1 := by
  intro h v0 v1 v2 v4 v5 v6 v7 s0 f0 hf
  unfold f_X11_sheet_J78 at hf
  replace hf := (e_if hf).2
  obtain ⟨b3, hb4, hf⟩ := e_bd hf
  rcases e_or hf with hf | hf
  · exact g_X11_sheet_J122 hk46 hk148 _ _ _ _ _ _ _ _ _ _ _   f0 hf
  · rcases e_or hf with hf | hf
    · exact g_X11_sheet_J122 hk46 hk148 _ _ _ _ _ _ _ _ _ _ _   f0 hf
    · obtain ⟨b9, hb10, hf⟩ := e_bd hf
      replace hf := (e_if hf).2
      rcases e_or hf with hf | hf
      · exact g_X11_sheet_J122 hk46 hk148 _ _ _ _ _ _ _ _ _ _ _   f0 hf
      · exact g_X11_sheet_J122 hk46 hk148 _ _ _ _ _ _ _ _ _ _ _   f0 hf
theorem g_X11_sheet_L46 {L : eL} {h0 : eH} {r : eH × Int32} {k148 : eH → Int32 → Int32 → Option (eH × Int32)} (hk148 : ∀ (h : eH) (v1 : Int32) (v5 : Int32), rf h0 h → k148 h v1 v5 = some r → rf h0 r.1) : ∀ (n : Nat) (h : eH) (v0 : Nat) (v1 : Int32) (v2 : Int32) (v4 : Int32) (v5 : Int32) (v6 : Int32) (v7 : Int32), rf h0 h → f_X11_sheet_L46 L n k148 h v0 v1 v2 v4 v5 v6 v7 = some r → rf h0 r.1 := by
  intro n
  induction n with
  | zero => intro h v0 v1 v2 v4 v5 v6 v7 f0 hf; exact absurd hf (by simp [f_X11_sheet_L46])
  | succ n ih =>
    intro h v0 v1 v2 v4 v5 v6 v7 f0 hf
    unfold f_X11_sheet_L46 at hf
    replace hf := (e_if hf).2
    obtain ⟨r1, hr2, hf⟩ := e_bd hf
    rcases e_or hf with hf | hf
    · exact hk148 _ _ _ f0 hf
    · rcases e_or hf with hf | hf
      · exact g_X11_sheet_J78 ih hk148 _ _ _ _ _ _ _ _ _  f0 hf
      · rcases e_or hf with hf | hf
        · exact g_X11_sheet_J78 ih hk148 _ _ _ _ _ _ _ _ _  f0 hf
        · exact g_X11_sheet_J78 ih hk148 _ _ _ _ _ _ _ _ _  f0 hf
theorem g_X11_sheet {L : eL} {h0 h : eH} {v0 : Nat} {v1 : Int32} {v2 : Int32} {v3 : Int32} {v4 : Int32} {r : eH × Int32} (f0 : rf h0 h) (hf : f_X11_sheet L h v0 v1 v2 v3 v4 = some r) : rf h0 r.1 := by
  unfold f_X11_sheet at hf
  replace hf := (e_if hf).2
  rcases e_or hf with hf | hf
  · exact rf_oW hf (rf_sI f0 )
  · rcases e_or hf with hf | hf
    · rcases e_or hf with hf | hf
      · refine g_X11_sheet_L46 ?_ e_fu _ _ _ _ _ _ _ _  (rf_sI f0 ) hf
        · intro h12 w1_13 w5_14 f15 hf
          rcases e_or hf with hf | hf
          · exact rf_oW hf f15
          · exact rf_oW hf f15
      · rcases e_or hf with hf | hf
        · refine g_X11_sheet_L46 ?_ e_fu _ _ _ _ _ _ _ _  (rf_sI f0 ) hf
          · intro h16 w1_17 w5_18 f19 hf
            rcases e_or hf with hf | hf
            · exact rf_oW hf f19
            · exact rf_oW hf f19
        · exact rf_oW hf (rf_sI f0 )
    · exact rf_oW hf (rf_sI f0 )
theorem g_X11_undo_L26 {L : eL} {h0 : eH} {r : eH × Int32} {k58 : eH → Nat → Option (eH × Int32)} (hk58 : ∀ (h : eH) (v0 : Nat), rf h0 h → k58 h v0 = some r → rf h0 r.1) : ∀ (n : Nat) (h : eH) (v0 : Nat) (v1 : Int32), rf h0 h → f_X11_undo_L26 L n k58 h v0 v1 = some r → rf h0 r.1 := by
  intro n
  induction n with
  | zero => intro h v0 v1 f0 hf; exact absurd hf (by simp [f_X11_undo_L26])
  | succ n ih =>
    intro h v0 v1 f0 hf
    unfold f_X11_undo_L26 at hf
    rcases e_or hf with hf | hf
    · exact hk58 _ _  f0 hf
    · replace hf := (e_if hf).2
      obtain ⟨b4, hb5, hf⟩ := e_bd hf
      obtain ⟨b7, hb8, hf⟩ := e_bd hf
      replace hf := (e_if hf).2
      replace hf := (e_if hf).2
      obtain ⟨h10, hh11, hf⟩ := e_bd hf
      have f12 := rf_oV hh11 (rf_sI f0 )
      exact ih _ _ _  f12 hf
theorem g_X11_undo {L : eL} {h0 h : eH} {v0 : Nat} {r : eH × Int32} (f0 : rf h0 h) (hf : f_X11_undo L h v0 = some r) : rf h0 r.1 := by
  unfold f_X11_undo at hf
  replace hf := (e_if hf).2
  rcases e_or hf with hf | hf
  · exact rf_oW hf (rf_sI f0 )
  · obtain ⟨h1, hh2, hf⟩ := e_bd hf
    have f3 := rf_oV hh2 (rf_sI (rf_sI f0 ) )
    refine g_X11_undo_L26 ?_ e_fu _ _ _  f3 hf
    · intro h13 w0_14 f15 hf
      replace hf := (e_if hf).2
      exact rf_oW hf f15
theorem g_X11_putsBy_L2 {L : eL} {h0 : eH} {r : eH} {k34 : eH → Option eH} (hk34 : ∀ (h : eH), rf h0 h → k34 h = some r → rf h0 r) : ∀ (n : Nat) (h : eH) (v0 : Nat) (v1 : Int32), rf h0 h → f_X11_putsBy_L2 L n k34 h v0 v1 = some r → rf h0 r := by
  intro n
  induction n with
  | zero => intro h v0 v1 f0 hf; exact absurd hf (by simp [f_X11_putsBy_L2])
  | succ n ih =>
    intro h v0 v1 f0 hf
    unfold f_X11_putsBy_L2 at hf
    rcases e_or hf with hf | hf
    · exact hk34 _ f0 hf
    · replace hf := (e_if hf).2
      obtain ⟨b1, hb2, hf⟩ := e_bd hf
      obtain ⟨b4, hb5, hf⟩ := e_bd hf
      replace hf := (e_if hf).2
      replace hf := (e_if hf).2
      obtain ⟨h7, hh8, hf⟩ := e_bd hf
      have f9 := rf_oV hh8 (rf_sI f0 )
      exact ih _ _ _  f9 hf
theorem g_X11_putsBy {L : eL} {h0 h : eH} {v0 : Nat} {r : eH} (f0 : rf h0 h) (hf : f_X11_putsBy L h v0 = some r) : rf h0 r := by
  unfold f_X11_putsBy at hf
  refine g_X11_putsBy_L2 ?_ e_fu _ _ _  f0 hf
  · intro h10 f11 hf
    exact rf_oV hf f11
theorem g_X11_stepGoes {L : eL} {h0 h : eH} {v0 : Nat} {v1 : Nat} {v2 : Int32} {r : eH × Int32} (f0 : rf h0 h) (hf : f_X11_stepGoes L h v0 v1 v2 = some r) : rf h0 r.1 := by
  unfold f_X11_stepGoes at hf
  replace hf := (e_if hf).2
  rcases e_or hf with hf | hf
  · obtain ⟨h1, hh2, hf⟩ := e_bd hf
    have f3 := rf_oV hh2 (rf_sI f0 )
    replace hf := (e_if hf).2
    obtain ⟨h4, hh5, hf⟩ := e_bd hf
    have f6 := rf_oV hh5 (rf_sI f3 )
    replace hf := (e_if hf).2
    replace hf := (e_if hf).2
    replace hf := (e_if hf).2
    obtain ⟨r7, hr8, hf⟩ := e_bd hf
    obtain ⟨r9, hr10, hf⟩ := e_bd hf
    rcases e_or hf with hf | hf
    · obtain ⟨r11, hr12, hf⟩ := e_bd hf
      have f13 := g_X11_turnOf   f6 hr12
      obtain ⟨h14, hh15, hf⟩ := e_bd hf
      have f16 := rf_oV hh15 (rf_sI f13 )
      replace hf := (e_if hf).2
      obtain ⟨h17, hh18, hf⟩ := e_bd hf
      have f19 := rf_oV hh18 (rf_sI f16 )
      exact rf_oW hf f19
    · replace hf := (e_if hf).2
      replace hf := (e_if hf).2
      obtain ⟨h20, hh21, hf⟩ := e_bd hf
      have f22 := rf_oV hh21 (rf_sI (rf_sI f6 ) )
      exact rf_oW hf (rf_sI f22 )
  · exact rf_oW hf f0
theorem g_X11_goesOn_L2 {L : eL} {h0 : eH} {r : eH × Int32} {k23 : eH → Int32 → Option (eH × Int32)} {k31 : eH → Int32 → Option (eH × Int32)} (hk23 : ∀ (h : eH) (v3 : Int32), rf h0 h → k23 h v3 = some r → rf h0 r.1) (hk31 : ∀ (h : eH) (v2 : Int32), rf h0 h → k31 h v2 = some r → rf h0 r.1) : ∀ (n : Nat) (h : eH) (v0 : Nat) (v1 : Nat) (v2 : Int32) (v3 : Int32), rf h0 h → f_X11_goesOn_L2 L n k23 k31 h v0 v1 v2 v3 = some r → rf h0 r.1 := by
  intro n
  induction n with
  | zero => intro h v0 v1 v2 v3 f0 hf; exact absurd hf (by simp [f_X11_goesOn_L2])
  | succ n ih =>
    intro h v0 v1 v2 v3 f0 hf
    unfold f_X11_goesOn_L2 at hf
    rcases e_or hf with hf | hf
    · exact hk31 _ _ f0 hf
    · replace hf := (e_if hf).2
      replace hf := (e_if hf).2
      obtain ⟨r1, hr2, hf⟩ := e_bd hf
      obtain ⟨r3, hr4, hf⟩ := e_bd hf
      have f5 := g_X11_stepGoes   f0 hr4
      rcases e_or hf with hf | hf
      · exact hk23 _ _ f5 hf
      · exact ih _ _ _ _ _   f5 hf
theorem g_X11_goesOn {L : eL} {h0 h : eH} {v0 : Nat} {v1 : Nat} {v2 : Int32} {r : eH × Int32} (f0 : rf h0 h) (hf : f_X11_goesOn L h v0 v1 v2 = some r) : rf h0 r.1 := by
  unfold f_X11_goesOn at hf
  refine g_X11_goesOn_L2 ?_ ?_ e_fu _ _ _ _ _   f0 hf
  · intro h6 w3_7 f8 hf
    exact rf_oW hf f8
  · intro h9 w2_10 f11 hf
    exact rf_oW hf f11
theorem g_X11_enters {L : eL} {h0 h : eH} {v0 : Nat} {v1 : Int64} {r : eH} (f0 : rf h0 h) (hf : f_X11_enters L h v0 v1 = some r) : rf h0 r := by
  unfold f_X11_enters at hf
  replace hf := (e_if hf).2
  obtain ⟨b1, hb2, hf⟩ := e_bd hf
  replace hf := (e_if hf).2
  obtain ⟨h4, hh5, hf⟩ := e_bd hf
  have f6 := rf_oV hh5 (rf_sI (rf_sL f0 ) )
  exact rf_oV hf f6
theorem g_X11_adds_L21 {L : eL} {h0 : eH} {r : eH × Int32} {k49 : eH → Nat → Int32 → Option (eH × Int32)} (hk49 : ∀ (h : eH) (v0 : Nat) (v1 : Int32), rf h0 h → k49 h v0 v1 = some r → rf h0 r.1) : ∀ (n : Nat) (h : eH) (v0 : Nat) (v1 : Int32) (v2 : Int32), rf h0 h → f_X11_adds_L21 L n k49 h v0 v1 v2 = some r → rf h0 r.1 := by
  intro n
  induction n with
  | zero => intro h v0 v1 v2 f0 hf; exact absurd hf (by simp [f_X11_adds_L21])
  | succ n ih =>
    intro h v0 v1 v2 f0 hf
    unfold f_X11_adds_L21 at hf
    rcases e_or hf with hf | hf
    · exact hk49 _ _ _  f0 hf
    · replace hf := (e_if hf).2
      obtain ⟨b1, hb2, hf⟩ := e_bd hf
      obtain ⟨b4, hb5, hf⟩ := e_bd hf
      replace hf := (e_if hf).2
      replace hf := (e_if hf).2
      obtain ⟨h7, hh8, hf⟩ := e_bd hf
      have f9 := rf_oV hh8 (rf_sI f0 )
      exact ih _ _ _ _  f9 hf
theorem g_X11_adds {L : eL} {h0 h : eH} {v0 : Nat} {v1 : Int32} {r : eH × Int32} (f0 : rf h0 h) (hf : f_X11_adds L h v0 v1 = some r) : rf h0 r.1 := by
  unfold f_X11_adds at hf
  replace hf := (e_if hf).2
  rcases e_or hf with hf | hf
  · exact rf_oW hf (rf_sI f0 )
  · refine g_X11_adds_L21 ?_ e_fu _ _ _ _  (rf_sI f0 ) hf
    · intro h10 w0_11 w1_12 f13 hf
      replace hf := (e_if hf).2
      exact rf_oW hf (rf_sI f13 )
theorem g_X11_steps {L : eL} {h0 h : eH} {v0 : Nat} {v1 : Int32} {r : eH × Int32} (f0 : rf h0 h) (hf : f_X11_steps L h v0 v1 = some r) : rf h0 r.1 := by
  unfold f_X11_steps at hf
  replace hf := (e_if hf).2
  rcases e_or hf with hf | hf
  · exact rf_oW hf (rf_sI f0 )
  · obtain ⟨r1, hr2, hf⟩ := e_bd hf
    have f3 := g_X11_putsBy  (rf_sI f0 ) hr2
    obtain ⟨b4, hb5, hf⟩ := e_bd hf
    replace hf := (e_if hf).2
    obtain ⟨b7, hb8, hf⟩ := e_bd hf
    replace hf := (e_if hf).2
    obtain ⟨b10, hb11, hf⟩ := e_bd hf
    obtain ⟨r13, hr14, hf⟩ := e_bd hf
    have f15 := g_X11_goesOn   f3 hr14
    obtain ⟨b16, hb17, hf⟩ := e_bd hf
    replace hf := (e_if hf).2
    obtain ⟨r19, hr20, hf⟩ := e_bd hf
    have f21 := g_X11_enters  (rf_sI f15 ) hr20
    obtain ⟨b22, hb23, hf⟩ := e_bd hf
    replace hf := (e_if hf).2
    obtain ⟨r25, hr26, hf⟩ := e_bd hf
    have f27 := g_X11_enters  f21 hr26
    obtain ⟨r28, hr29, hf⟩ := e_bd hf
    have f30 := g_X11_adds  f27 hr29
    exact rf_oW hf f30
theorem g_X11_turn {L : eL} {h0 h : eH} {v0 : Nat} {v1 : Int32} {r : eH × Int32} (f0 : rf h0 h) (hf : f_X11_turn L h v0 v1 = some r) : rf h0 r.1 := by
  unfold f_X11_turn at hf
  replace hf := (e_if hf).2
  rcases e_or hf with hf | hf
  · exact rf_oW hf (rf_sI f0 )
  · obtain ⟨r1, hr2, hf⟩ := e_bd hf
    have f3 := g_X11_putsBy  (rf_sI f0 ) hr2
    obtain ⟨b4, hb5, hf⟩ := e_bd hf
    obtain ⟨b7, hb8, hf⟩ := e_bd hf
    replace hf := (e_if hf).2
    replace hf := (e_if hf).2
    obtain ⟨h10, hh11, hf⟩ := e_bd hf
    have f12 := rf_oV hh11 (rf_sI f3 )
    obtain ⟨b13, hb14, hf⟩ := e_bd hf
    replace hf := (e_if hf).2
    obtain ⟨r16, hr17, hf⟩ := e_bd hf
    have f18 := g_X11_adds  f12 hr17
    exact rf_oW hf f18
theorem g_X11_dayGoes_L2 {L : eL} {h0 : eH} {r : eH} {k34 : eH → Nat → Option eH} (hk34 : ∀ (h : eH) (v1 : Nat), rf h0 h → k34 h v1 = some r → rf h0 r) : ∀ (n : Nat) (h : eH) (v0 : Nat) (v1 : Nat) (v2 : Int32), rf h0 h → f_X11_dayGoes_L2 L n k34 h v0 v1 v2 = some r → rf h0 r := by
  intro n
  induction n with
  | zero => intro h v0 v1 v2 f0 hf; exact absurd hf (by simp [f_X11_dayGoes_L2])
  | succ n ih =>
    intro h v0 v1 v2 f0 hf
    unfold f_X11_dayGoes_L2 at hf
    replace hf := (e_if hf).2
    obtain ⟨r1, hr2, hf⟩ := e_bd hf
    rcases e_or hf with hf | hf
    · exact hk34 _ _  f0 hf
    · replace hf := (e_if hf).2
      obtain ⟨b3, hb4, hf⟩ := e_bd hf
      replace hf := (e_if hf).2
      obtain ⟨h6, hh7, hf⟩ := e_bd hf
      have f8 := rf_oV hh7 (rf_sI f0 )
      exact ih _ _ _ _   f8 hf
theorem g_X11_dayGoes {L : eL} {h0 h : eH} {v0 : Nat} {v1 : Nat} {r : eH} (f0 : rf h0 h) (hf : f_X11_dayGoes L h v0 v1 = some r) : rf h0 r := by
  unfold f_X11_dayGoes at hf
  refine g_X11_dayGoes_L2 ?_ e_fu _ _ _ _   f0 hf
  · intro h9 w1_10 f11 hf
    replace hf := (e_if hf).2
    obtain ⟨h12, hh13, hf⟩ := e_bd hf
    have f14 := rf_oV hh13 (rf_sI f11 )
    exact rf_oV hf f14
theorem g_X11_daysGo_L16 {L : eL} {h0 : eH} {r : eH × Int32} {k35 : eH → Nat → Option (eH × Int32)} (hk35 : ∀ (h : eH) (v0 : Nat), rf h0 h → k35 h v0 = some r → rf h0 r.1) : ∀ (n : Nat) (h : eH) (v0 : Nat) (v1 : Int32) (v2 : Int32), rf h0 h → f_X11_daysGo_L16 L n k35 h v0 v1 v2 = some r → rf h0 r.1 := by
  intro n
  induction n with
  | zero => intro h v0 v1 v2 f0 hf; exact absurd hf (by simp [f_X11_daysGo_L16])
  | succ n ih =>
    intro h v0 v1 v2 f0 hf
    unfold f_X11_daysGo_L16 at hf
    rcases e_or hf with hf | hf
    · exact hk35 _ _  f0 hf
    · replace hf := (e_if hf).2
      obtain ⟨b1, hb2, hf⟩ := e_bd hf
      obtain ⟨r4, hr5, hf⟩ := e_bd hf
      have f6 := g_X11_dayGoes   f0 hr5
      exact ih _ _ _ _  f6 hf
theorem g_X11_daysGo {L : eL} {h0 h : eH} {v0 : Nat} {v1 : Int32} {r : eH × Int32} (f0 : rf h0 h) (hf : f_X11_daysGo L h v0 v1 = some r) : rf h0 r.1 := by
  unfold f_X11_daysGo at hf
  rcases e_or hf with hf | hf
  · exact rf_oW hf f0
  · refine g_X11_daysGo_L16 ?_ e_fu _ _ _ _  f0 hf
    · intro h7 w0_8 f9 hf
      replace hf := (e_if hf).2
      obtain ⟨b10, hb11, hf⟩ := e_bd hf
      obtain ⟨r13, hr14, hf⟩ := e_bd hf
      exact rf_oW hf f9
theorem g_X11_counts {L : eL} {h0 h : eH} {v0 : Nat} {v1 : Int32} {r : eH × Int32} (f0 : rf h0 h) (hf : f_X11_counts L h v0 v1 = some r) : rf h0 r.1 := by
  unfold f_X11_counts at hf
  rcases e_or hf with hf | hf
  · replace hf := (e_if hf).2
    obtain ⟨r1, hr2, hf⟩ := e_bd hf
    have f3 := g_X11_adds  f0 hr2
    exact rf_oW hf f3
  · exact rf_oW hf f0
theorem g_X11_days {L : eL} {h0 h : eH} {v0 : Nat} {v1 : Int32} {r : eH × Int32} (f0 : rf h0 h) (hf : f_X11_days L h v0 v1 = some r) : rf h0 r.1 := by
  unfold f_X11_days at hf
  replace hf := (e_if hf).2
  obtain ⟨r1, hr2, hf⟩ := e_bd hf
  have f3 := g_X11_putsBy  (rf_sI f0 ) hr2
  obtain ⟨r4, hr5, hf⟩ := e_bd hf
  have f6 := g_X11_daysGo  f3 hr5
  obtain ⟨r7, hr8, hf⟩ := e_bd hf
  have f9 := g_X11_counts  f6 hr8
  exact rf_oW hf f9
theorem g_X11_chairsAt {L : eL} {h0 h : eH} {v0 : Nat} {v1 : Int32} {r : eH × Int32} (f0 : rf h0 h) (hf : f_X11_chairsAt L h v0 v1 = some r) : rf h0 r.1 := by
  unfold f_X11_chairsAt at hf
  replace hf := (e_if hf).2
  obtain ⟨r1, hr2, hf⟩ := e_bd hf
  rcases e_or hf with hf | hf
  · exact rf_oW hf f0
  · obtain ⟨b3, hb4, hf⟩ := e_bd hf
    replace hf := (e_if hf).2
    rcases e_or hf with hf | hf
    · exact rf_oW hf f0
    · obtain ⟨b6, hb7, hf⟩ := e_bd hf
      replace hf := (e_if hf).2
      rcases e_or hf with hf | hf
      · exact rf_oW hf f0
      · obtain ⟨b9, hb10, hf⟩ := e_bd hf
        obtain ⟨b12, hb13, hf⟩ := e_bd hf
        replace hf := (e_if hf).2
        replace hf := (e_if hf).2
        obtain ⟨h15, hh16, hf⟩ := e_bd hf
        have f17 := rf_oV hh16 (rf_sI f0 )
        obtain ⟨b18, hb19, hf⟩ := e_bd hf
        obtain ⟨r21, hr22, hf⟩ := e_bd hf
        exact rf_oW hf f17
theorem g_X11_chair {L : eL} {h0 h : eH} {v0 : Nat} {v1 : Int32} {r : eH × Int32} (f0 : rf h0 h) (hf : f_X11_chair L h v0 v1 = some r) : rf h0 r.1 := by
  unfold f_X11_chair at hf
  replace hf := (e_if hf).2
  obtain ⟨r1, hr2, hf⟩ := e_bd hf
  have f3 := g_X11_putsBy  (rf_sI f0 ) hr2
  obtain ⟨r4, hr5, hf⟩ := e_bd hf
  have f6 := g_X11_chairsAt  f3 hr5
  obtain ⟨r7, hr8, hf⟩ := e_bd hf
  have f9 := g_X11_counts  f6 hr8
  exact rf_oW hf f9
theorem g_X11_carry {L : eL} {h0 h : eH} {v0 : Nat} {v1 : Int32} {v2 : Int32} {r : eH × Int32} (f0 : rf h0 h) (hf : f_X11_carry L h v0 v1 v2 = some r) : rf h0 r.1 := by
  unfold f_X11_carry at hf
  replace hf := (e_if hf).2
  obtain ⟨r1, hr2, hf⟩ := e_bd hf
  rcases e_or hf with hf | hf
  · exact rf_oW hf (rf_sI f0 )
  · rcases e_or hf with hf | hf
    · exact rf_oW hf (rf_sI f0 )
    · obtain ⟨b3, hb4, hf⟩ := e_bd hf
      obtain ⟨r6, hr7, hf⟩ := e_bd hf
      rcases e_or hf with hf | hf
      · exact rf_oW hf (rf_sI f0 )
      · obtain ⟨r8, hr9, hf⟩ := e_bd hf
        have f10 := g_X11_putsBy  (rf_sI f0 ) hr9
        obtain ⟨b11, hb12, hf⟩ := e_bd hf
        replace hf := (e_if hf).2
        obtain ⟨b14, hb15, hf⟩ := e_bd hf
        replace hf := (e_if hf).2
        obtain ⟨b17, hb18, hf⟩ := e_bd hf
        replace hf := (e_if hf).2
        obtain ⟨h20, hh21, hf⟩ := e_bd hf
        have f22 := rf_oV hh21 (rf_sI (rf_sI f10 ) )
        obtain ⟨r23, hr24, hf⟩ := e_bd hf
        have f25 := g_X11_adds  f22 hr24
        exact rf_oW hf f25
theorem g_X11_loads {L : eL} {h0 h : eH} {v0 : Nat} {v1 : Int32} {r : eH × Int32} (f0 : rf h0 h) (hf : f_X11_loads L h v0 v1 = some r) : rf h0 r.1 := by
  unfold f_X11_loads at hf
  rcases e_or hf with hf | hf
  · exact rf_oW hf f0
  · replace hf := (e_if hf).2
    rcases e_or hf with hf | hf
    · exact rf_oW hf f0
    · obtain ⟨b1, hb2, hf⟩ := e_bd hf
      replace hf := (e_if hf).2
      rcases e_or hf with hf | hf
      · obtain ⟨b4, hb5, hf⟩ := e_bd hf
        replace hf := (e_if hf).2
        obtain ⟨b7, hb8, hf⟩ := e_bd hf
        replace hf := (e_if hf).2
        obtain ⟨b10, hb11, hf⟩ := e_bd hf
        replace hf := (e_if hf).2
        obtain ⟨h13, hh14, hf⟩ := e_bd hf
        have f15 := rf_oV hh14 (rf_sI (rf_sI f0 ) )
        exact rf_oW hf f15
      · exact rf_oW hf f0
theorem g_X11_load {L : eL} {h0 h : eH} {v0 : Nat} {v1 : Int32} {r : eH × Int32} (f0 : rf h0 h) (hf : f_X11_load L h v0 v1 = some r) : rf h0 r.1 := by
  unfold f_X11_load at hf
  replace hf := (e_if hf).2
  obtain ⟨r1, hr2, hf⟩ := e_bd hf
  have f3 := g_X11_putsBy  (rf_sI f0 ) hr2
  obtain ⟨r4, hr5, hf⟩ := e_bd hf
  have f6 := g_X11_loads  f3 hr5
  obtain ⟨r7, hr8, hf⟩ := e_bd hf
  have f9 := g_X11_counts  f6 hr8
  exact rf_oW hf f9
theorem g_X11_signIn {L : eL} {h0 h : eH} {v0 : Nat} {v1 : Int32} {v2 : Int32} {v3 : Int32} {r : eH × Int32} (f0 : rf h0 h) (hf : f_X11_signIn L h v0 v1 v2 v3 = some r) : rf h0 r.1 := by
  unfold f_X11_signIn at hf
  replace hf := (e_if hf).2
  rcases e_or hf with hf | hf
  · exact rf_oW hf f0
  · obtain ⟨b1, hb2, hf⟩ := e_bd hf
    replace hf := (e_if hf).2
    rcases e_or hf with hf | hf
    · exact rf_oW hf f0
    · obtain ⟨b4, hb5, hf⟩ := e_bd hf
      replace hf := (e_if hf).2
      exact rf_oW hf (rf_sI f0 )
theorem g_X11_readsAct_J133 {L : eL} {h0 : eH} {r : eH × Int32}  : ∀ (h : eH) (v0 : Nat) (v1 : Int32) (v2 : Int32) (s0 : Int32), rf h0 h → f_X11_readsAct_J133 L h v0 v1 v2 s0 = some r → rf h0 r.1 := by
  intro h v0 v1 v2 s0 f0 hf
  unfold f_X11_readsAct_J133 at hf
  replace hf := (e_if hf).2
  obtain ⟨b22, hb23, hf⟩ := e_bd hf
  replace hf := (e_if hf).2
  rcases e_or hf with hf | hf
  · exact rf_oW hf (rf_sI f0 )
  · exact rf_oW hf (rf_sI f0 )
theorem g_X11_readsAct_J98 {L : eL} {h0 : eH} {r : eH × Int32}  : ∀ (h : eH) (v0 : Nat) (v1 : Int32) (s0 : Nat) (s1 : Int32) (s2 : Int32), rf h0 h → f_X11_readsAct_J98 L h v0 v1 s0 s1 s2 = some r → rf h0 r.1 := by
  intro h v0 v1 s0 s1 s2 f0 hf
  unfold f_X11_readsAct_J98 at hf
  replace hf := (e_if hf).2
  replace hf := (e_if hf).2
  obtain ⟨b37, hb38, hf⟩ := e_bd hf
  replace hf := (e_if hf).2
  rcases e_or hf with hf | hf
  · exact rf_oW hf (rf_sI f0 )
  · exact rf_oW hf (rf_sI f0 )
theorem g_X11_readsAct {L : eL} {h0 h : eH} {v0 : Nat} {r : eH × Int32} (f0 : rf h0 h) (hf : f_X11_readsAct L h v0 = some r) : rf h0 r.1 := by
  unfold f_X11_readsAct at hf
  replace hf := (e_if hf).2
  obtain ⟨b1, hb2, hf⟩ := e_bd hf
  obtain ⟨r4, hr5, hf⟩ := e_bd hf
  have f6 := g_X11_takesOf   f0 hr5
  replace hf := (e_if hf).2
  obtain ⟨h7, hh8, hf⟩ := e_bd hf
  have f9 := rf_oV hh8 (rf_sI (rf_sI f6 ) )
  obtain ⟨b10, hb11, hf⟩ := e_bd hf
  replace hf := (e_if hf).2
  rcases e_or hf with hf | hf
  · obtain ⟨b13, hb14, hf⟩ := e_bd hf
    replace hf := (e_if hf).2
    rcases e_or hf with hf | hf
    · obtain ⟨r16, hr17, hf⟩ := e_bd hf
      have f18 := g_X11_number  f9 hr17
      rcases e_or hf with hf | hf
      · obtain ⟨r19, hr20, hf⟩ := e_bd hf
        have f21 := g_X11_number  f18 hr20
        exact g_X11_readsAct_J133 _ _ _ _ _  f21 hf
      · exact g_X11_readsAct_J133 _ _ _ _ _  f18 hf
    · obtain ⟨b25, hb26, hf⟩ := e_bd hf
      obtain ⟨b28, hb29, hf⟩ := e_bd hf
      replace hf := (e_if hf).2
      rcases e_or hf with hf | hf
      · obtain ⟨r43, hr44, hf⟩ := e_bd hf
        have f45 := g_X11_signIn  f9 hr44
        exact g_X11_readsAct_J98 _ _ _ _ _ _   f45 hf
      · obtain ⟨b31, hb32, hf⟩ := e_bd hf
        replace hf := (e_if hf).2
        rcases e_or hf with hf | hf
        · obtain ⟨r40, hr41, hf⟩ := e_bd hf
          have f42 := g_X11_signIn  f9 hr41
          exact g_X11_readsAct_J98 _ _ _ _ _ _   f42 hf
        · obtain ⟨r34, hr35, hf⟩ := e_bd hf
          have f36 := g_X11_signIn  f9 hr35
          exact g_X11_readsAct_J98 _ _ _ _ _ _   f36 hf
  · exact rf_oW hf f9
theorem g_X11_does {L : eL} {h0 h : eH} {v0 : Nat} {v1 : Int32} {r : eH × Int32} (f0 : rf h0 h) (hf : f_X11_does L h v0 v1 = some r) : rf h0 r.1 := by
  unfold f_X11_does at hf
  replace hf := (e_if hf).2
  obtain ⟨b1, hb2, hf⟩ := e_bd hf
  replace hf := (e_if hf).2
  obtain ⟨b4, hb5, hf⟩ := e_bd hf
  replace hf := (e_if hf).2
  rcases e_or hf with hf | hf
  · obtain ⟨b7, hb8, hf⟩ := e_bd hf
    obtain ⟨r10, hr11, hf⟩ := e_bd hf
    have f12 := g_X11_goesOn   f0 hr11
    rcases e_or hf with hf | hf
    · exact rf_oW hf f12
    · rcases e_or hf with hf | hf
      · exact rf_oW hf f12
      · exact rf_oW hf f12
  rcases e_or hf with hf | hf
  · obtain ⟨b13, hb14, hf⟩ := e_bd hf
    obtain ⟨b16, hb17, hf⟩ := e_bd hf
    replace hf := (e_if hf).2
    replace hf := (e_if hf).2
    obtain ⟨h19, hh20, hf⟩ := e_bd hf
    have f21 := rf_oV hh20 (rf_sI f0 )
    exact rf_oW hf f21
  rcases e_or hf with hf | hf
  · obtain ⟨r22, hr23, hf⟩ := e_bd hf
    have f24 := g_X11_daysGo  f0 hr23
    rcases e_or hf with hf | hf
    · exact rf_oW hf f24
    · exact rf_oW hf f24
  rcases e_or hf with hf | hf
  · obtain ⟨r25, hr26, hf⟩ := e_bd hf
    have f27 := g_X11_chairsAt  f0 hr26
    rcases e_or hf with hf | hf
    · exact rf_oW hf f27
    · exact rf_oW hf f27
  · obtain ⟨r28, hr29, hf⟩ := e_bd hf
    have f30 := g_X11_loads  f0 hr29
    rcases e_or hf with hf | hf
    · exact rf_oW hf f30
    · exact rf_oW hf f30
theorem g_X11_run_L19 {L : eL} {h0 : eH} {r : eH × Int32} {k42 : eH → Nat → Int32 → Int32 → Option (eH × Int32)} (hk42 : ∀ (h : eH) (v0 : Nat) (v1 : Int32) (v2 : Int32), rf h0 h → k42 h v0 v1 v2 = some r → rf h0 r.1) : ∀ (n : Nat) (h : eH) (v0 : Nat) (v1 : Int32) (v2 : Int32), rf h0 h → f_X11_run_L19 L n k42 h v0 v1 v2 = some r → rf h0 r.1 := by
  intro n
  induction n with
  | zero => intro h v0 v1 v2 f0 hf; exact absurd hf (by simp [f_X11_run_L19])
  | succ n ih =>
    intro h v0 v1 v2 f0 hf
    unfold f_X11_run_L19 at hf
    rcases e_or hf with hf | hf
    · exact hk42 _ _ _ _  f0 hf
    · replace hf := (e_if hf).2
      rcases e_or hf with hf | hf
      · exact hk42 _ _ _ _  f0 hf
      · obtain ⟨r4, hr5, hf⟩ := e_bd hf
        have f6 := g_X11_readsAct  f0 hr5
        exact ih _ _ _ _  f6 hf
theorem g_X11_run_L64 {L : eL} {h0 : eH} {r : eH × Int32} {k88 : eH → Nat → Int32 → Option (eH × Int32)} (hk88 : ∀ (h : eH) (v0 : Nat) (v4 : Int32), rf h0 h → k88 h v0 v4 = some r → rf h0 r.1) : ∀ (n : Nat) (h : eH) (v0 : Nat) (v4 : Int32), rf h0 h → f_X11_run_L64 L n k88 h v0 v4 = some r → rf h0 r.1 := by
  intro n
  induction n with
  | zero => intro h v0 v4 f0 hf; exact absurd hf (by simp [f_X11_run_L64])
  | succ n ih =>
    intro h v0 v4 f0 hf
    unfold f_X11_run_L64 at hf
    replace hf := (e_if hf).2
    rcases e_or hf with hf | hf
    · exact hk88 _ _ _  f0 hf
    · obtain ⟨r17, hr18, hf⟩ := e_bd hf
      have f19 := g_X11_does  f0 hr18
      rcases e_or hf with hf | hf
      · exact hk88 _ _ _  f19 hf
      · exact ih _ _ _  f19 hf
theorem g_X11_run_J108 {L : eL} {h0 : eH} {r : eH × Int32}  : ∀ (h : eH) (v0 : Nat) (v4 : Int32) (s0 : Nat) (s1 : Int32), rf h0 h → f_X11_run_J108 L h v0 v4 s0 s1 = some r → rf h0 r.1 := by
  intro h v0 v4 s0 s1 f0 hf
  unfold f_X11_run_J108 at hf
  replace hf := (e_if hf).2
  obtain ⟨r24, hr25, hf⟩ := e_bd hf
  have f26 := g_X11_enters  f0 hr25
  replace hf := (e_if hf).2
  obtain ⟨b27, hb28, hf⟩ := e_bd hf
  replace hf := (e_if hf).2
  obtain ⟨r30, hr31, hf⟩ := e_bd hf
  have f32 := g_X11_enters  f26 hr31
  rcases e_or hf with hf | hf
  · exact rf_oW hf f32
  · obtain ⟨r33, hr34, hf⟩ := e_bd hf
    have f35 := g_X11_adds  f32 hr34
    exact rf_oW hf f35
theorem g_X11_run_J88 {L : eL} {h0 : eH} {r : eH × Int32}  : ∀ (h : eH) (v0 : Nat) (v4 : Int32), rf h0 h → f_X11_run_J88 L h v0 v4 = some r → rf h0 r.1 := by
  intro h v0 v4 f0 hf
  unfold f_X11_run_J88 at hf
  replace hf := (e_if hf).2
  rcases e_or hf with hf | hf
  · exact g_X11_run_J108 _ _ _ _ _   (rf_sI f0 ) hf
  · exact g_X11_run_J108 _ _ _ _ _   (rf_sI f0 ) hf
theorem g_X11_run_J42 {L : eL} {h0 : eH} {r : eH × Int32}  : ∀ (h : eH) (v0 : Nat) (v1 : Int32) (v2 : Int32), rf h0 h → f_X11_run_J42 L h v0 v1 v2 = some r → rf h0 r.1 := by
  intro h v0 v1 v2 f0 hf
  unfold f_X11_run_J42 at hf
  replace hf := (e_if hf).2
  obtain ⟨r12, hr13, hf⟩ := e_bd hf
  rcases e_or hf with hf | hf
  · obtain ⟨r14, hr15, hf⟩ := e_bd hf
    have f16 := g_X11_putsBy  f0 hr15
    refine g_X11_run_L64 ?_ e_fu _ _ _  f16 hf
    · intro h20 w0_21 w4_22 f23 hf
      exact g_X11_run_J88 _ _ _  f23 hf
  · exact rf_oW hf f0
theorem g_X11_run {L : eL} {h0 h : eH} {v0 : Nat} {r : eH × Int32} (f0 : rf h0 h) (hf : f_X11_run L h v0 = some r) : rf h0 r.1 := by
  unfold f_X11_run at hf
  replace hf := (e_if hf).2
  obtain ⟨r1, hr2, hf⟩ := e_bd hf
  have f3 := g_X11_begins  (rf_sI f0 ) hr2
  refine g_X11_run_L19 ?_ e_fu _ _ _ _  (rf_sI f3 ) hf
  · intro h7 w0_8 w1_9 w2_10 f11 hf
    exact g_X11_run_J42 _ _ _ _  f11 hf
theorem g_X11_puts_L2 {L : eL} {h0 : eH} {r : eH} {k26 : eH → Option eH} (hk26 : ∀ (h : eH), rf h0 h → k26 h = some r → rf h0 r) : ∀ (n : Nat) (h : eH) (v0 : Nat) (v1 : Int32), rf h0 h → f_X11_puts_L2 L n k26 h v0 v1 = some r → rf h0 r := by
  intro n
  induction n with
  | zero => intro h v0 v1 f0 hf; exact absurd hf (by simp [f_X11_puts_L2])
  | succ n ih =>
    intro h v0 v1 f0 hf
    unfold f_X11_puts_L2 at hf
    rcases e_or hf with hf | hf
    · exact hk26 _ f0 hf
    · replace hf := (e_if hf).2
      obtain ⟨b1, hb2, hf⟩ := e_bd hf
      obtain ⟨b4, hb5, hf⟩ := e_bd hf
      replace hf := (e_if hf).2
      replace hf := (e_if hf).2
      obtain ⟨h7, hh8, hf⟩ := e_bd hf
      have f9 := rf_oV hh8 (rf_sI f0 )
      exact ih _ _ _  f9 hf
theorem g_X11_puts {L : eL} {h0 h : eH} {v0 : Nat} {r : eH} (f0 : rf h0 h) (hf : f_X11_puts L h v0 = some r) : rf h0 r := by
  unfold f_X11_puts at hf
  refine g_X11_puts_L2 ?_ e_fu _ _ _  f0 hf
  · intro h10 f11 hf
    exact rf_oV hf f11
theorem g_X11_been_L36 {L : eL} {h0 : eH} {r : eH × Int32} {k82 : eH → Nat → Int64 → Option (eH × Int32)} (hk82 : ∀ (h : eH) (v0 : Nat) (v2 : Int64), rf h0 h → k82 h v0 v2 = some r → rf h0 r.1) : ∀ (n : Nat) (h : eH) (v0 : Nat) (v1 : Int32) (v2 : Int64) (v4 : Int32), rf h0 h → f_X11_been_L36 L n k82 h v0 v1 v2 v4 = some r → rf h0 r.1 := by
  intro n
  induction n with
  | zero => intro h v0 v1 v2 v4 f0 hf; exact absurd hf (by simp [f_X11_been_L36])
  | succ n ih =>
    intro h v0 v1 v2 v4 f0 hf
    unfold f_X11_been_L36 at hf
    rcases e_or hf with hf | hf
    · exact hk82 _ _ _  f0 hf
    · replace hf := (e_if hf).2
      obtain ⟨b7, hb8, hf⟩ := e_bd hf
      obtain ⟨b10, hb11, hf⟩ := e_bd hf
      replace hf := (e_if hf).2
      obtain ⟨r13, hr14, hf⟩ := e_bd hf
      obtain ⟨r15, hr16, hf⟩ := e_bd hf
      have f17 := g_X11_stepGoes   f0 hr16
      rcases e_or hf with hf | hf
      · exact hk82 _ _ _  f17 hf
      · obtain ⟨b18, hb19, hf⟩ := e_bd hf
        replace hf := (e_if hf).2
        exact ih _ _ _ _ _  f17 hf
theorem g_X11_been_J82 {L : eL} {h0 : eH} {r : eH × Int32}  : ∀ (h : eH) (v0 : Nat) (v2 : Int64), rf h0 h → f_X11_been_J82 L h v0 v2 = some r → rf h0 r.1 := by
  intro h v0 v2 f0 hf
  unfold f_X11_been_J82 at hf
  replace hf := (e_if hf).2
  obtain ⟨r25, hr26, hf⟩ := e_bd hf
  have f27 := g_X11_enters  (rf_sI f0 ) hr26
  obtain ⟨b28, hb29, hf⟩ := e_bd hf
  replace hf := (e_if hf).2
  obtain ⟨r31, hr32, hf⟩ := e_bd hf
  have f33 := g_X11_enters  f27 hr32
  obtain ⟨b34, hb35, hf⟩ := e_bd hf
  replace hf := (e_if hf).2
  obtain ⟨r37, hr38, hf⟩ := e_bd hf
  have f39 := g_X11_enters  f33 hr38
  exact rf_oW hf f39
theorem g_X11_been {L : eL} {h0 h : eH} {v0 : Nat} {v1 : Int32} {r : eH × Int32} (f0 : rf h0 h) (hf : f_X11_been L h v0 v1 = some r) : rf h0 r.1 := by
  unfold f_X11_been at hf
  replace hf := (e_if hf).2
  rcases e_or hf with hf | hf
  · exact rf_oW hf (rf_sI f0 )
  · obtain ⟨r1, hr2, hf⟩ := e_bd hf
    have f3 := g_X11_puts  (rf_sI f0 ) hr2
    obtain ⟨b4, hb5, hf⟩ := e_bd hf
    replace hf := (e_if hf).2
    refine g_X11_been_L36 ?_ e_fu _ _ _ _ _  f3 hf
    · intro h21 w0_22 w2_23 f24 hf
      exact g_X11_been_J82 _ _ _  f24 hf
theorem g_X11_sweeps_L25 {L : eL} {h0 : eH} {r : eH × Int32} {k41 : eH → Int32 → Option (eH × Int32)} {k88 : eH → Option (eH × Int32)} (hk41 : ∀ (h : eH) (v3 : Int32), rf h0 h → k41 h v3 = some r → rf h0 r.1) (hk88 : ∀ (h : eH), rf h0 h → k88 h = some r → rf h0 r.1) : ∀ (n : Nat) (h : eH) (v0 : Nat) (v3 : Int32), rf h0 h → f_X11_sweeps_L25 L n k41 k88 h v0 v3 = some r → rf h0 r.1 := by
  intro n
  induction n with
  | zero => intro h v0 v3 f0 hf; exact absurd hf (by simp [f_X11_sweeps_L25])
  | succ n ih =>
    intro h v0 v3 f0 hf
    unfold f_X11_sweeps_L25 at hf
    rcases e_or hf with hf | hf
    · exact hk88 _ f0 hf
    · replace hf := (e_if hf).2
      rcases e_or hf with hf | hf
      · exact hk41 _ _ f0 hf
      · rcases e_or hf with hf | hf
        · exact ih _ _ _  f0 hf
        · obtain ⟨b10, hb11, hf⟩ := e_bd hf
          obtain ⟨r13, hr14, hf⟩ := e_bd hf
          have f15 := g_X11_stepGoes   f0 hr14
          obtain ⟨b16, hb17, hf⟩ := e_bd hf
          replace hf := (e_if hf).2
          obtain ⟨h19, hh20, hf⟩ := e_bd hf
          have f21 := rf_oV hh20 (rf_sL f15 )
          exact ih _ _ _  f21 hf
theorem g_X11_sweeps {L : eL} {h0 h : eH} {v0 : Nat} {v1 : Int64} {r : eH × Int32} (f0 : rf h0 h) (hf : f_X11_sweeps L h v0 v1 = some r) : rf h0 r.1 := by
  unfold f_X11_sweeps at hf
  replace hf := (e_if hf).2
  obtain ⟨r1, hr2, hf⟩ := e_bd hf
  have f3 := g_X11_puts  f0 hr2
  obtain ⟨b4, hb5, hf⟩ := e_bd hf
  replace hf := (e_if hf).2
  obtain ⟨h7, hh8, hf⟩ := e_bd hf
  have f9 := rf_oV hh8 (rf_sL f3 )
  refine g_X11_sweeps_L25 ?_ ?_ e_fu _ _ _  f9 hf
  · intro h22 w3_23 f24 hf
    exact rf_oW hf f24
  · intro h25 f26 hf
    exact rf_oW hf f26
theorem g_X11_all {L : eL} {h0 h : eH} {v0 : Nat} {r : eH × Int32} (f0 : rf h0 h) (hf : f_X11_all L h v0 = some r) : rf h0 r.1 := by
  unfold f_X11_all at hf
  replace hf := (e_if hf).2
  obtain ⟨b1, hb2, hf⟩ := e_bd hf
  obtain ⟨b4, hb5, hf⟩ := e_bd hf
  replace hf := (e_if hf).2
  obtain ⟨r7, hr8, hf⟩ := e_bd hf
  obtain ⟨r9, hr10, hf⟩ := e_bd hf
  have f11 := g_X11_sweeps  (rf_sI f0 ) hr10
  rcases e_or hf with hf | hf
  · obtain ⟨r12, hr13, hf⟩ := e_bd hf
    have f14 := g_X11_enters  (rf_sI f11 ) hr13
    exact rf_oW hf f14
  · exact rf_oW hf f11
theorem g_X11_never {L : eL} {h0 h : eH} {v0 : Nat} {r : eH × Int32} (f0 : rf h0 h) (hf : f_X11_never L h v0 = some r) : rf h0 r.1 := by
  unfold f_X11_never at hf
  replace hf := (e_if hf).2
  obtain ⟨b1, hb2, hf⟩ := e_bd hf
  obtain ⟨b4, hb5, hf⟩ := e_bd hf
  replace hf := (e_if hf).2
  obtain ⟨r7, hr8, hf⟩ := e_bd hf
  obtain ⟨r9, hr10, hf⟩ := e_bd hf
  have f11 := g_X11_sweeps  (rf_sI f0 ) hr10
  obtain ⟨r12, hr13, hf⟩ := e_bd hf
  have f14 := g_X11_enters  (rf_sI f11 ) hr13
  exact rf_oW hf f14
theorem g_X11_angle_L37 {L : eL} {h0 : eH} {r : eH × Int32} {k92 : eH → Nat → Int32 → Int32 → Option (eH × Int32)} (hk92 : ∀ (h : eH) (v0 : Nat) (v3 : Int32) (v4 : Int32), rf h0 h → k92 h v0 v3 v4 = some r → rf h0 r.1) : ∀ (n : Nat) (h : eH) (v0 : Nat) (v1 : Int64) (v3 : Int32) (v4 : Int32) (v5 : Int32), rf h0 h → f_X11_angle_L37 L n k92 h v0 v1 v3 v4 v5 = some r → rf h0 r.1 := by
  intro n
  induction n with
  | zero => intro h v0 v1 v3 v4 v5 f0 hf; exact absurd hf (by simp [f_X11_angle_L37])
  | succ n ih =>
    intro h v0 v1 v3 v4 v5 f0 hf
    unfold f_X11_angle_L37 at hf
    rcases e_or hf with hf | hf
    · exact hk92 _ _ _ _  f0 hf
    · replace hf := (e_if hf).2
      obtain ⟨r9, hr10, hf⟩ := e_bd hf
      have f11 := g_X11_sweeps  (rf_sI f0 ) hr10
      obtain ⟨r12, hr13, hf⟩ := e_bd hf
      have f14 := g_X11_enters  f11 hr13
      rcases e_or hf with hf | hf
      · exact ih _ _ _ _ _ _  f14 hf
      · exact ih _ _ _ _ _ _  f14 hf
theorem g_X11_angle {L : eL} {h0 h : eH} {v0 : Nat} {r : eH × Int32} (f0 : rf h0 h) (hf : f_X11_angle L h v0 = some r) : rf h0 r.1 := by
  unfold f_X11_angle at hf
  replace hf := (e_if hf).2
  obtain ⟨b1, hb2, hf⟩ := e_bd hf
  obtain ⟨b4, hb5, hf⟩ := e_bd hf
  replace hf := (e_if hf).2
  obtain ⟨r7, hr8, hf⟩ := e_bd hf
  refine g_X11_angle_L37 ?_ e_fu _ _ _ _ _ _  (rf_sI (rf_sI f0 ) ) hf
  · intro h15 w0_16 w3_17 w4_18 f19 hf
    replace hf := (e_if hf).2
    obtain ⟨b20, hb21, hf⟩ := e_bd hf
    replace hf := (e_if hf).2
    obtain ⟨h23, hh24, hf⟩ := e_bd hf
    have f25 := rf_oV hh24 (rf_sL (rf_sI f19 ) )
    exact rf_oW hf f25
theorem g_X11_meets_L11 {L : eL} {h0 : eH} {r : eH × Int32} {k39 : eH → Int32 → Option (eH × Int32)} {k57 : eH → Option (eH × Int32)} (hk39 : ∀ (h : eH) (v1 : Int32), rf h0 h → k39 h v1 = some r → rf h0 r.1) (hk57 : ∀ (h : eH), rf h0 h → k57 h = some r → rf h0 r.1) : ∀ (n : Nat) (h : eH) (v0 : Nat) (v1 : Int32), rf h0 h → f_X11_meets_L11 L n k39 k57 h v0 v1 = some r → rf h0 r.1 := by
  intro n
  induction n with
  | zero => intro h v0 v1 f0 hf; exact absurd hf (by simp [f_X11_meets_L11])
  | succ n ih =>
    intro h v0 v1 f0 hf
    unfold f_X11_meets_L11 at hf
    rcases e_or hf with hf | hf
    · exact hk57 _ f0 hf
    · replace hf := (e_if hf).2
      rcases e_or hf with hf | hf
      · exact hk57 _ f0 hf
      · obtain ⟨b4, hb5, hf⟩ := e_bd hf
        replace hf := (e_if hf).2
        rcases e_or hf with hf | hf
        · exact hk39 _ _ f0 hf
        · obtain ⟨b7, hb8, hf⟩ := e_bd hf
          obtain ⟨r10, hr11, hf⟩ := e_bd hf
          have f12 := g_X11_stepGoes   f0 hr11
          exact ih _ _ _  f12 hf
theorem g_X11_meets {L : eL} {h0 h : eH} {v0 : Nat} {r : eH × Int32} (f0 : rf h0 h) (hf : f_X11_meets L h v0 = some r) : rf h0 r.1 := by
  unfold f_X11_meets at hf
  replace hf := (e_if hf).2
  obtain ⟨r1, hr2, hf⟩ := e_bd hf
  have f3 := g_X11_puts  (rf_sI f0 ) hr2
  refine g_X11_meets_L11 ?_ ?_ e_fu _ _ _  f3 hf
  · intro h13 w1_14 f15 hf
    exact rf_oW hf f15
  · intro h16 f17 hf
    exact rf_oW hf f17
theorem g_X11_round_L11 {L : eL} {h0 : eH} {r : eH × Int32} {k62 : eH → Nat → Int32 → Option (eH × Int32)} {k95 : eH → Option (eH × Int32)} (hk62 : ∀ (h : eH) (v0 : Nat) (v1 : Int32), rf h0 h → k62 h v0 v1 = some r → rf h0 r.1) (hk95 : ∀ (h : eH), rf h0 h → k95 h = some r → rf h0 r.1) : ∀ (n : Nat) (h : eH) (v0 : Nat) (v1 : Int32), rf h0 h → f_X11_round_L11 L n k62 k95 h v0 v1 = some r → rf h0 r.1 := by
  intro n
  induction n with
  | zero => intro h v0 v1 f0 hf; exact absurd hf (by simp [f_X11_round_L11])
  | succ n ih =>
    intro h v0 v1 f0 hf
    unfold f_X11_round_L11 at hf
    rcases e_or hf with hf | hf
    · exact hk95 _ f0 hf
    · replace hf := (e_if hf).2
      obtain ⟨b4, hb5, hf⟩ := e_bd hf
      obtain ⟨r7, hr8, hf⟩ := e_bd hf
      have f9 := g_X11_stepGoes   f0 hr8
      obtain ⟨b10, hb11, hf⟩ := e_bd hf
      replace hf := (e_if hf).2
      obtain ⟨b13, hb14, hf⟩ := e_bd hf
      replace hf := (e_if hf).2
      rcases e_or hf with hf | hf
      · obtain ⟨b16, hb17, hf⟩ := e_bd hf
        replace hf := (e_if hf).2
        obtain ⟨b19, hb20, hf⟩ := e_bd hf
        replace hf := (e_if hf).2
        rcases e_or hf with hf | hf
        · exact hk62 _ _ _  f9 hf
        · exact ih _ _ _  f9 hf
      · exact ih _ _ _  f9 hf
theorem g_X11_round {L : eL} {h0 h : eH} {v0 : Nat} {r : eH × Int32} (f0 : rf h0 h) (hf : f_X11_round L h v0 = some r) : rf h0 r.1 := by
  unfold f_X11_round at hf
  replace hf := (e_if hf).2
  obtain ⟨r1, hr2, hf⟩ := e_bd hf
  have f3 := g_X11_puts  (rf_sI f0 ) hr2
  refine g_X11_round_L11 ?_ ?_ e_fu _ _ _  f3 hf
  · intro h22 w0_23 w1_24 f25 hf
    replace hf := (e_if hf).2
    obtain ⟨b26, hb27, hf⟩ := e_bd hf
    replace hf := (e_if hf).2
    obtain ⟨b29, hb30, hf⟩ := e_bd hf
    replace hf := (e_if hf).2
    obtain ⟨r32, hr33, hf⟩ := e_bd hf
    have f34 := g_X11_enters  (rf_sI f25 ) hr33
    exact rf_oW hf f34
  · intro h35 f36 hf
    exact rf_oW hf f36
theorem g_X11_corner_L25 {L : eL} {h0 : eH} {r : eH × Int32} {k44 : eH → Nat → Int32 → Option (eH × Int32)} (hk44 : ∀ (h : eH) (v0 : Nat) (v1 : Int32), rf h0 h → k44 h v0 v1 = some r → rf h0 r.1) : ∀ (n : Nat) (h : eH) (v0 : Nat) (v1 : Int32) (v2 : Int32), rf h0 h → f_X11_corner_L25 L n k44 h v0 v1 v2 = some r → rf h0 r.1 := by
  intro n
  induction n with
  | zero => intro h v0 v1 v2 f0 hf; exact absurd hf (by simp [f_X11_corner_L25])
  | succ n ih =>
    intro h v0 v1 v2 f0 hf
    unfold f_X11_corner_L25 at hf
    rcases e_or hf with hf | hf
    · exact hk44 _ _ _  f0 hf
    · replace hf := (e_if hf).2
      obtain ⟨b4, hb5, hf⟩ := e_bd hf
      replace hf := (e_if hf).2
      exact ih _ _ _ _  (rf_sI f0 ) hf
theorem g_X11_corner_L46 {L : eL} {h0 : eH} {r : eH × Int32} {k83 : eH → Nat → Option (eH × Int32)} (hk83 : ∀ (h : eH) (v0 : Nat), rf h0 h → k83 h v0 = some r → rf h0 r.1) : ∀ (n : Nat) (h : eH) (v0 : Nat) (v1 : Int32) (v2 : Int32), rf h0 h → f_X11_corner_L46 L n k83 h v0 v1 v2 = some r → rf h0 r.1 := by
  intro n
  induction n with
  | zero => intro h v0 v1 v2 f0 hf; exact absurd hf (by simp [f_X11_corner_L46])
  | succ n ih =>
    intro h v0 v1 v2 f0 hf
    unfold f_X11_corner_L46 at hf
    rcases e_or hf with hf | hf
    · exact hk83 _ _  f0 hf
    · replace hf := (e_if hf).2
      obtain ⟨b11, hb12, hf⟩ := e_bd hf
      obtain ⟨r14, hr15, hf⟩ := e_bd hf
      have f16 := g_X11_stepGoes   f0 hr15
      obtain ⟨b17, hb18, hf⟩ := e_bd hf
      obtain ⟨b20, hb21, hf⟩ := e_bd hf
      replace hf := (e_if hf).2
      replace hf := (e_if hf).2
      obtain ⟨h23, hh24, hf⟩ := e_bd hf
      have f25 := rf_oV hh24 (rf_sI f16 )
      exact ih _ _ _ _  f25 hf
theorem g_X11_corner_L87 {L : eL} {h0 : eH} {r : eH × Int32} {k120 : eH → Nat → Int32 → Option (eH × Int32)} (hk120 : ∀ (h : eH) (v0 : Nat) (v2 : Int32), rf h0 h → k120 h v0 v2 = some r → rf h0 r.1) : ∀ (n : Nat) (h : eH) (v0 : Nat) (v2 : Int32) (v3 : Int32), rf h0 h → f_X11_corner_L87 L n k120 h v0 v2 v3 = some r → rf h0 r.1 := by
  intro n
  induction n with
  | zero => intro h v0 v2 v3 f0 hf; exact absurd hf (by simp [f_X11_corner_L87])
  | succ n ih =>
    intro h v0 v2 v3 f0 hf
    unfold f_X11_corner_L87 at hf
    rcases e_or hf with hf | hf
    · exact hk120 _ _ _  f0 hf
    · replace hf := (e_if hf).2
      obtain ⟨b29, hb30, hf⟩ := e_bd hf
      replace hf := (e_if hf).2
      obtain ⟨b32, hb33, hf⟩ := e_bd hf
      replace hf := (e_if hf).2
      rcases e_or hf with hf | hf
      · exact ih _ _ _ _  f0 hf
      · exact ih _ _ _ _  f0 hf
theorem g_X11_corner {L : eL} {h0 h : eH} {v0 : Nat} {v1 : Int32} {r : eH × Int32} (f0 : rf h0 h) (hf : f_X11_corner L h v0 v1 = some r) : rf h0 r.1 := by
  unfold f_X11_corner at hf
  replace hf := (e_if hf).2
  rcases e_or hf with hf | hf
  · exact rf_oW hf (rf_sI f0 )
  · obtain ⟨r1, hr2, hf⟩ := e_bd hf
    have f3 := g_X11_puts  (rf_sI f0 ) hr2
    refine g_X11_corner_L25 ?_ e_fu _ _ _ _  f3 hf
    · intro h7 w0_8 w1_9 f10 hf
      refine g_X11_corner_L46 ?_ e_fu _ _ _ _  f10 hf
      · intro h26 w0_27 f28 hf
        refine g_X11_corner_L87 ?_ e_fu _ _ _ _  f28 hf
        · intro h35 w0_36 w2_37 f38 hf
          replace hf := (e_if hf).2
          obtain ⟨b39, hb40, hf⟩ := e_bd hf
          replace hf := (e_if hf).2
          obtain ⟨r42, hr43, hf⟩ := e_bd hf
          have f44 := g_X11_enters  (rf_sI f38 ) hr43
          exact rf_oW hf f44
theorem g_X11_laysFar_L2 {L : eL} {h0 : eH} {r : eH} {k41 : eH → Nat → Nat → Option eH} (hk41 : ∀ (h : eH) (v0 : Nat) (v1 : Nat), rf h0 h → k41 h v0 v1 = some r → rf h0 r) : ∀ (n : Nat) (h : eH) (v0 : Nat) (v1 : Nat) (v2 : Int32) (v3 : Int32), rf h0 h → f_X11_laysFar_L2 L n k41 h v0 v1 v2 v3 = some r → rf h0 r := by
  intro n
  induction n with
  | zero => intro h v0 v1 v2 v3 f0 hf; exact absurd hf (by simp [f_X11_laysFar_L2])
  | succ n ih =>
    intro h v0 v1 v2 v3 f0 hf
    unfold f_X11_laysFar_L2 at hf
    rcases e_or hf with hf | hf
    · exact hk41 _ _ _   f0 hf
    · replace hf := (e_if hf).2
      obtain ⟨b1, hb2, hf⟩ := e_bd hf
      rcases e_or hf with hf | hf
      · obtain ⟨r4, hr5, hf⟩ := e_bd hf
        rcases e_or hf with hf | hf
        · replace hf := (e_if hf).2
          exact ih _ _ _ _ _   (rf_sI f0 ) hf
        · replace hf := (e_if hf).2
          exact ih _ _ _ _ _   (rf_sI f0 ) hf
      · replace hf := (e_if hf).2
        exact ih _ _ _ _ _   (rf_sI f0 ) hf
theorem g_X11_laysFar_L64 {L : eL} {h0 : eH} {r : eH} {k148 : eH → Nat → Nat → Int32 → Int32 → Option eH} (hk148 : ∀ (h : eH) (v0 : Nat) (v1 : Nat) (v3 : Int32) (v4 : Int32), rf h0 h → k148 h v0 v1 v3 v4 = some r → rf h0 r) : ∀ (n : Nat) (h : eH) (v0 : Nat) (v1 : Nat) (v3 : Int32) (v4 : Int32) (v5 : Int32), rf h0 h → f_X11_laysFar_L64 L n k148 h v0 v1 v3 v4 v5 = some r → rf h0 r := by
  intro n
  induction n with
  | zero => intro h v0 v1 v3 v4 v5 f0 hf; exact absurd hf (by simp [f_X11_laysFar_L64])
  | succ n ih =>
    intro h v0 v1 v3 v4 v5 f0 hf
    unfold f_X11_laysFar_L64 at hf
    rcases e_or hf with hf | hf
    · exact hk148 _ _ _ _ _   f0 hf
    · replace hf := (e_if hf).2
      obtain ⟨r12, hr13, hf⟩ := e_bd hf
      rcases e_or hf with hf | hf
      · exact hk148 _ _ _ _ _   f0 hf
      · obtain ⟨r14, hr15, hf⟩ := e_bd hf
        rcases e_or hf with hf | hf
        · exact ih _ _ _ _ _ _   f0 hf
        · obtain ⟨b16, hb17, hf⟩ := e_bd hf
          replace hf := (e_if hf).2
          obtain ⟨r19, hr20, hf⟩ := e_bd hf
          obtain ⟨b21, hb22, hf⟩ := e_bd hf
          replace hf := (e_if hf).2
          rcases e_or hf with hf | hf
          · exact ih _ _ _ _ _ _   f0 hf
          · obtain ⟨b24, hb25, hf⟩ := e_bd hf
            obtain ⟨b27, hb28, hf⟩ := e_bd hf
            replace hf := (e_if hf).2
            obtain ⟨r30, hr31, hf⟩ := e_bd hf
            replace hf := (e_if hf).2
            obtain ⟨h32, hh33, hf⟩ := e_bd hf
            have f34 := rf_oV hh33 (rf_sI f0 )
            exact ih _ _ _ _ _ _   f34 hf
theorem g_X11_laysFar_L52 {L : eL} {h0 : eH} {r : eH} {k154 : eH → Nat → Nat → Int32 → Option eH} (hk154 : ∀ (h : eH) (v0 : Nat) (v1 : Nat) (v3 : Int32), rf h0 h → k154 h v0 v1 v3 = some r → rf h0 r) : ∀ (n : Nat) (h : eH) (v0 : Nat) (v1 : Nat) (v3 : Int32) (v4 : Int32), rf h0 h → f_X11_laysFar_L52 L n k154 h v0 v1 v3 v4 = some r → rf h0 r := by
  intro n
  induction n with
  | zero => intro h v0 v1 v3 v4 f0 hf; exact absurd hf (by simp [f_X11_laysFar_L52])
  | succ n ih =>
    intro h v0 v1 v3 v4 f0 hf
    unfold f_X11_laysFar_L52 at hf
    replace hf := (e_if hf).2
    obtain ⟨r10, hr11, hf⟩ := e_bd hf
    rcases e_or hf with hf | hf
    · exact hk154 _ _ _ _   f0 hf
    · refine g_X11_laysFar_L64 ?_ e_fu _ _ _ _ _ _   f0 hf
      · intro h35 w0_36 w1_37 w3_38 w4_39 f40 hf
        exact ih _ _ _ _ _   f40 hf
theorem g_X11_laysFar_L43 {L : eL} {h0 : eH} {r : eH} {k157 : eH → Option eH} (hk157 : ∀ (h : eH), rf h0 h → k157 h = some r → rf h0 r) : ∀ (n : Nat) (h : eH) (v0 : Nat) (v1 : Nat) (v3 : Int32), rf h0 h → f_X11_laysFar_L43 L n k157 h v0 v1 v3 = some r → rf h0 r := by
  intro n
  induction n with
  | zero => intro h v0 v1 v3 f0 hf; exact absurd hf (by simp [f_X11_laysFar_L43])
  | succ n ih =>
    intro h v0 v1 v3 f0 hf
    unfold f_X11_laysFar_L43 at hf
    rcases e_or hf with hf | hf
    · exact hk157 _ f0 hf
    · refine g_X11_laysFar_L52 ?_ e_fu _ _ _ _ _   f0 hf
      · intro h41 w0_42 w1_43 w3_44 f45 hf
        exact ih _ _ _ _   f45 hf
theorem g_X11_laysFar {L : eL} {h0 h : eH} {v0 : Nat} {v1 : Nat} {v2 : Int32} {r : eH} (f0 : rf h0 h) (hf : f_X11_laysFar L h v0 v1 v2 = some r) : rf h0 r := by
  unfold f_X11_laysFar at hf
  refine g_X11_laysFar_L2 ?_ e_fu _ _ _ _ _   f0 hf
  · intro h6 w0_7 w1_8 f9 hf
    refine g_X11_laysFar_L43 ?_ e_fu _ _ _ _   f9 hf
    · intro h46 f47 hf
      exact rf_oV hf f47
theorem g_X11_way_L84 {L : eL} {h0 : eH} {r : eH × Int32} {k146 : eH → Nat → Int32 → Int32 → Int32 → Option (eH × Int32)} (hk146 : ∀ (h : eH) (v0 : Nat) (v1 : Int32) (v2 : Int32) (v4 : Int32), rf h0 h → k146 h v0 v1 v2 v4 = some r → rf h0 r.1) : ∀ (n : Nat) (h : eH) (v0 : Nat) (v1 : Int32) (v2 : Int32) (v3 : Int32) (v4 : Int32) (v5 : Int32), rf h0 h → f_X11_way_L84 L n k146 h v0 v1 v2 v3 v4 v5 = some r → rf h0 r.1 := by
  intro n
  induction n with
  | zero => intro h v0 v1 v2 v3 v4 v5 f0 hf; exact absurd hf (by simp [f_X11_way_L84])
  | succ n ih =>
    intro h v0 v1 v2 v3 v4 v5 f0 hf
    unfold f_X11_way_L84 at hf
    rcases e_or hf with hf | hf
    · exact hk146 _ _ _ _ _  f0 hf
    · replace hf := (e_if hf).2
      obtain ⟨r22, hr23, hf⟩ := e_bd hf
      rcases e_or hf with hf | hf
      · exact ih _ _ _ _ _ _ _  f0 hf
      · obtain ⟨b24, hb25, hf⟩ := e_bd hf
        replace hf := (e_if hf).2
        obtain ⟨r27, hr28, hf⟩ := e_bd hf
        obtain ⟨b29, hb30, hf⟩ := e_bd hf
        replace hf := (e_if hf).2
        rcases e_or hf with hf | hf
        · exact ih _ _ _ _ _ _ _  f0 hf
        · exact ih _ _ _ _ _ _ _  f0 hf
theorem g_X11_way_L72 {L : eL} {h0 : eH} {r : eH × Int32} {k158 : eH → Nat → Int32 → Option (eH × Int32)} (hk158 : ∀ (h : eH) (v0 : Nat) (v1 : Int32), rf h0 h → k158 h v0 v1 = some r → rf h0 r.1) : ∀ (n : Nat) (h : eH) (v0 : Nat) (v1 : Int32) (v2 : Int32) (v3 : Int32), rf h0 h → f_X11_way_L72 L n k158 h v0 v1 v2 v3 = some r → rf h0 r.1 := by
  intro n
  induction n with
  | zero => intro h v0 v1 v2 v3 f0 hf; exact absurd hf (by simp [f_X11_way_L72])
  | succ n ih =>
    intro h v0 v1 v2 v3 f0 hf
    unfold f_X11_way_L72 at hf
    rcases e_or hf with hf | hf
    · exact hk158 _ _ _  f0 hf
    · refine g_X11_way_L84 ?_ e_fu _ _ _ _ _ _ _  f0 hf
      · intro h32 w0_33 w1_34 w2_35 w4_36 f37 hf
        replace hf := (e_if hf).2
        obtain ⟨r38, hr39, hf⟩ := e_bd hf
        have f40 := g_X11_enters  f37 hr39
        exact ih _ _ _ _ _  f40 hf
theorem g_X11_way {L : eL} {h0 h : eH} {v0 : Nat} {v1 : Int32} {v2 : Int32} {r : eH × Int32} (f0 : rf h0 h) (hf : f_X11_way L h v0 v1 v2 = some r) : rf h0 r.1 := by
  unfold f_X11_way at hf
  replace hf := (e_if hf).2
  obtain ⟨r1, hr2, hf⟩ := e_bd hf
  rcases e_or hf with hf | hf
  · exact rf_oW hf (rf_sI f0 )
  · obtain ⟨r3, hr4, hf⟩ := e_bd hf
    rcases e_or hf with hf | hf
    · exact rf_oW hf (rf_sI f0 )
    · obtain ⟨b5, hb6, hf⟩ := e_bd hf
      obtain ⟨r8, hr9, hf⟩ := e_bd hf
      have f10 := g_X11_laysFar   (rf_sI f0 ) hr9
      obtain ⟨b11, hb12, hf⟩ := e_bd hf
      obtain ⟨r14, hr15, hf⟩ := e_bd hf
      rcases e_or hf with hf | hf
      · exact rf_oW hf f10
      · obtain ⟨b16, hb17, hf⟩ := e_bd hf
        replace hf := (e_if hf).2
        rcases e_or hf with hf | hf
        · obtain ⟨r19, hr20, hf⟩ := e_bd hf
          have f21 := g_X11_enters  (rf_sI f10 ) hr20
          refine g_X11_way_L72 ?_ e_fu _ _ _ _ _  f21 hf
          · intro h41 w0_42 w1_43 f44 hf
            replace hf := (e_if hf).2
            obtain ⟨b45, hb46, hf⟩ := e_bd hf
            replace hf := (e_if hf).2
            exact rf_oW hf f44
        · exact rf_oW hf f10
theorem g_X11_back_J76 {L : eL} {h0 : eH} {r : eH × Int32} {k38 : eH → Nat → Int32 → Int32 → Int32 → Option (eH × Int32)} {k103 : eH → Int32 → Option (eH × Int32)} (hk38 : ∀ (h : eH) (v0 : Nat) (v1 : Int32) (v2 : Int32) (v3 : Int32), rf h0 h → k38 h v0 v1 v2 v3 = some r → rf h0 r.1) (hk103 : ∀ (h : eH) (v1 : Int32), rf h0 h → k103 h v1 = some r → rf h0 r.1) : ∀ (h : eH) (v0 : Nat) (v3 : Int32) (s0 : Int32), rf h0 h → f_X11_back_J76 L k38 k103 h v0 v3 s0 = some r → rf h0 r.1 := by
  intro h v0 v3 s0 f0 hf
  unfold f_X11_back_J76 at hf
  replace hf := (e_if hf).2
  obtain ⟨b19, hb20, hf⟩ := e_bd hf
  obtain ⟨b22, hb23, hf⟩ := e_bd hf
  replace hf := (e_if hf).2
  obtain ⟨r25, hr26, hf⟩ := e_bd hf
  obtain ⟨r27, hr28, hf⟩ := e_bd hf
  have f29 := g_X11_stepGoes   f0 hr28
  exact hk38 _ _ _ _ _  f29 hf
theorem g_X11_back_L38 {L : eL} {h0 : eH} {r : eH × Int32} {k103 : eH → Int32 → Option (eH × Int32)} (hk103 : ∀ (h : eH) (v1 : Int32), rf h0 h → k103 h v1 = some r → rf h0 r.1) : ∀ (n : Nat) (h : eH) (v0 : Nat) (v1 : Int32) (v2 : Int32) (v3 : Int32), rf h0 h → f_X11_back_L38 L n k103 h v0 v1 v2 v3 = some r → rf h0 r.1 := by
  intro n
  induction n with
  | zero => intro h v0 v1 v2 v3 f0 hf; exact absurd hf (by simp [f_X11_back_L38])
  | succ n ih =>
    intro h v0 v1 v2 v3 f0 hf
    unfold f_X11_back_L38 at hf
    rcases e_or hf with hf | hf
    · exact hk103 _ _ f0 hf
    · rcases e_or hf with hf | hf
      · exact hk103 _ _ f0 hf
      · replace hf := (e_if hf).2
        obtain ⟨b10, hb11, hf⟩ := e_bd hf
        replace hf := (e_if hf).2
        obtain ⟨b13, hb14, hf⟩ := e_bd hf
        obtain ⟨b16, hb17, hf⟩ := e_bd hf
        replace hf := (e_if hf).2
        replace hf := (e_if hf).2
        rcases e_or hf with hf | hf
        · exact g_X11_back_J76 ih hk103 _ _ _ _  f0 hf
        · exact g_X11_back_J76 ih hk103 _ _ _ _  f0 hf
theorem g_X11_back {L : eL} {h0 h : eH} {v0 : Nat} {r : eH × Int32} (f0 : rf h0 h) (hf : f_X11_back L h v0 = some r) : rf h0 r.1 := by
  unfold f_X11_back at hf
  replace hf := (e_if hf).2
  rcases e_or hf with hf | hf
  · obtain ⟨b1, hb2, hf⟩ := e_bd hf
    obtain ⟨r4, hr5, hf⟩ := e_bd hf
    have f6 := g_X11_laysFar   (rf_sI f0 ) hr5
    obtain ⟨r7, hr8, hf⟩ := e_bd hf
    have f9 := g_X11_puts  f6 hr8
    refine g_X11_back_L38 ?_ e_fu _ _ _ _ _  f9 hf
    · intro h30 w1_31 f32 hf
      exact rf_oW hf f32
  · exact rf_oW hf (rf_sI f0 )
theorem g_X11_plug_L48 {L : eL} {h0 : eH} {r : eH × Int32} {k101 : eH → Nat → Int32 → Int32 → Int32 → Int32 → Option (eH × Int32)} (hk101 : ∀ (h : eH) (v0 : Nat) (v1 : Int32) (v2 : Int32) (v3 : Int32) (v4 : Int32), rf h0 h → k101 h v0 v1 v2 v3 v4 = some r → rf h0 r.1) : ∀ (n : Nat) (h : eH) (v0 : Nat) (v1 : Int32) (v2 : Int32) (v3 : Int32) (v4 : Int32) (v5 : Int32), rf h0 h → f_X11_plug_L48 L n k101 h v0 v1 v2 v3 v4 v5 = some r → rf h0 r.1 := by
  intro n
  induction n with
  | zero => intro h v0 v1 v2 v3 v4 v5 f0 hf; exact absurd hf (by simp [f_X11_plug_L48])
  | succ n ih =>
    intro h v0 v1 v2 v3 v4 v5 f0 hf
    unfold f_X11_plug_L48 at hf
    replace hf := (e_if hf).2
    obtain ⟨r14, hr15, hf⟩ := e_bd hf
    rcases e_or hf with hf | hf
    · exact hk101 _ _ _ _ _ _  f0 hf
    · obtain ⟨b16, hb17, hf⟩ := e_bd hf
      obtain ⟨r19, hr20, hf⟩ := e_bd hf
      rcases e_or hf with hf | hf
      · exact ih _ _ _ _ _ _ _  f0 hf
      · obtain ⟨b21, hb22, hf⟩ := e_bd hf
        replace hf := (e_if hf).2
        exact ih _ _ _ _ _ _ _  f0 hf
theorem g_X11_plug_L13 {L : eL} {h0 : eH} {r : eH × Int32} {k126 : eH → Nat → Int32 → Int32 → Option (eH × Int32)} (hk126 : ∀ (h : eH) (v0 : Nat) (v1 : Int32) (v2 : Int32), rf h0 h → k126 h v0 v1 v2 = some r → rf h0 r.1) : ∀ (n : Nat) (h : eH) (v0 : Nat) (v1 : Int32) (v2 : Int32) (v3 : Int32), rf h0 h → f_X11_plug_L13 L n k126 h v0 v1 v2 v3 = some r → rf h0 r.1 := by
  intro n
  induction n with
  | zero => intro h v0 v1 v2 v3 f0 hf; exact absurd hf (by simp [f_X11_plug_L13])
  | succ n ih =>
    intro h v0 v1 v2 v3 f0 hf
    unfold f_X11_plug_L13 at hf
    replace hf := (e_if hf).2
    obtain ⟨r1, hr2, hf⟩ := e_bd hf
    rcases e_or hf with hf | hf
    · exact hk126 _ _ _ _  f0 hf
    · obtain ⟨b3, hb4, hf⟩ := e_bd hf
      obtain ⟨r6, hr7, hf⟩ := e_bd hf
      rcases e_or hf with hf | hf
      · exact ih _ _ _ _ _  f0 hf
      · obtain ⟨b8, hb9, hf⟩ := e_bd hf
        obtain ⟨r11, hr12, hf⟩ := e_bd hf
        have f13 := g_X11_laysFar   f0 hr12
        refine g_X11_plug_L48 ?_ e_fu _ _ _ _ _ _ _  f13 hf
        · intro h24 w0_25 w1_26 w2_27 w3_28 w4_29 f30 hf
          rcases e_or hf with hf | hf
          · exact ih _ _ _ _ _  f30 hf
          · exact ih _ _ _ _ _  f30 hf
theorem g_X11_plug {L : eL} {h0 h : eH} {v0 : Nat} {r : eH × Int32} (f0 : rf h0 h) (hf : f_X11_plug L h v0 = some r) : rf h0 r.1 := by
  unfold f_X11_plug at hf
  replace hf := (e_if hf).2
  refine g_X11_plug_L13 ?_ e_fu _ _ _ _ _  (rf_sI f0 ) hf
  · intro h31 w0_32 w1_33 w2_34 f35 hf
    replace hf := (e_if hf).2
    obtain ⟨r36, hr37, hf⟩ := e_bd hf
    have f38 := g_X11_enters  (rf_sI f35 ) hr37
    exact rf_oW hf f38
theorem g_X11_doors_L27 {L : eL} {h0 : eH} {r : eH × Int32} {k90 : eH → Nat → Int64 → Option (eH × Int32)} (hk90 : ∀ (h : eH) (v0 : Nat) (v1 : Int64), rf h0 h → k90 h v0 v1 = some r → rf h0 r.1) : ∀ (n : Nat) (h : eH) (v0 : Nat) (v1 : Int64) (v3 : Int32), rf h0 h → f_X11_doors_L27 L n k90 h v0 v1 v3 = some r → rf h0 r.1 := by
  intro n
  induction n with
  | zero => intro h v0 v1 v3 f0 hf; exact absurd hf (by simp [f_X11_doors_L27])
  | succ n ih =>
    intro h v0 v1 v3 f0 hf
    unfold f_X11_doors_L27 at hf
    replace hf := (e_if hf).2
    obtain ⟨r3, hr4, hf⟩ := e_bd hf
    rcases e_or hf with hf | hf
    · exact hk90 _ _ _  f0 hf
    · rcases e_or hf with hf | hf
      · exact ih _ _ _ _  f0 hf
      · obtain ⟨b5, hb6, hf⟩ := e_bd hf
        replace hf := (e_if hf).2
        rcases e_or hf with hf | hf
        · exact ih _ _ _ _  f0 hf
        · obtain ⟨b8, hb9, hf⟩ := e_bd hf
          obtain ⟨r11, hr12, hf⟩ := e_bd hf
          rcases e_or hf with hf | hf
          · exact ih _ _ _ _  f0 hf
          · obtain ⟨r13, hr14, hf⟩ := e_bd hf
            rcases e_or hf with hf | hf
            · exact ih _ _ _ _  f0 hf
            · exact ih _ _ _ _  f0 hf
theorem g_X11_doors {L : eL} {h0 h : eH} {v0 : Nat} {r : eH × Int32} (f0 : rf h0 h) (hf : f_X11_doors L h v0 = some r) : rf h0 r.1 := by
  unfold f_X11_doors at hf
  replace hf := (e_if hf).2
  rcases e_or hf with hf | hf
  · exact rf_oW hf (rf_sI f0 )
  · obtain ⟨r1, hr2, hf⟩ := e_bd hf
    rcases e_or hf with hf | hf
    · exact rf_oW hf (rf_sI f0 )
    · refine g_X11_doors_L27 ?_ e_fu _ _ _ _  (rf_sI f0 ) hf
      · intro h15 w0_16 w1_17 f18 hf
        replace hf := (e_if hf).2
        obtain ⟨r19, hr20, hf⟩ := e_bd hf
        have f21 := g_X11_enters  (rf_sI f18 ) hr20
        exact rf_oW hf f21
theorem g_X11_chairs_L37 {L : eL} {h0 : eH} {r : eH × Int32} {k131 : eH → Nat → Int32 → Int32 → Option (eH × Int32)} (hk131 : ∀ (h : eH) (v0 : Nat) (v2 : Int32) (v3 : Int32), rf h0 h → k131 h v0 v2 v3 = some r → rf h0 r.1) : ∀ (n : Nat) (h : eH) (v0 : Nat) (v1 : Int32) (v2 : Int32) (v3 : Int32) (v4 : Int32), rf h0 h → f_X11_chairs_L37 L n k131 h v0 v1 v2 v3 v4 = some r → rf h0 r.1 := by
  intro n
  induction n with
  | zero => intro h v0 v1 v2 v3 v4 f0 hf; exact absurd hf (by simp [f_X11_chairs_L37])
  | succ n ih =>
    intro h v0 v1 v2 v3 v4 f0 hf
    unfold f_X11_chairs_L37 at hf
    replace hf := (e_if hf).2
    obtain ⟨r12, hr13, hf⟩ := e_bd hf
    rcases e_or hf with hf | hf
    · exact hk131 _ _ _ _  f0 hf
    · obtain ⟨b14, hb15, hf⟩ := e_bd hf
      replace hf := (e_if hf).2
      rcases e_or hf with hf | hf
      · obtain ⟨b17, hb18, hf⟩ := e_bd hf
        replace hf := (e_if hf).2
        obtain ⟨b20, hb21, hf⟩ := e_bd hf
        obtain ⟨b23, hb24, hf⟩ := e_bd hf
        replace hf := (e_if hf).2
        obtain ⟨r26, hr27, hf⟩ := e_bd hf
        obtain ⟨b28, hb29, hf⟩ := e_bd hf
        replace hf := (e_if hf).2
        obtain ⟨h31, hh32, hf⟩ := e_bd hf
        have f33 := rf_oV hh32 (rf_sI (rf_sI f0 ) )
        rcases e_or hf with hf | hf
        · exact ih _ _ _ _ _ _  f33 hf
        · exact ih _ _ _ _ _ _  f33 hf
      · exact ih _ _ _ _ _ _  f0 hf
theorem g_X11_chairs {L : eL} {h0 h : eH} {v0 : Nat} {r : eH × Int32} (f0 : rf h0 h) (hf : f_X11_chairs L h v0 = some r) : rf h0 r.1 := by
  unfold f_X11_chairs at hf
  replace hf := (e_if hf).2
  obtain ⟨b1, hb2, hf⟩ := e_bd hf
  obtain ⟨b4, hb5, hf⟩ := e_bd hf
  replace hf := (e_if hf).2
  obtain ⟨r7, hr8, hf⟩ := e_bd hf
  obtain ⟨r9, hr10, hf⟩ := e_bd hf
  have f11 := g_X11_puts  (rf_sI f0 ) hr10
  refine g_X11_chairs_L37 ?_ e_fu _ _ _ _ _ _  f11 hf
  · intro h34 w0_35 w2_36 w3_37 f38 hf
    rcases e_or hf with hf | hf
    · exact rf_oW hf f38
    · replace hf := (e_if hf).2
      obtain ⟨r39, hr40, hf⟩ := e_bd hf
      have f41 := g_X11_enters  (rf_sI f38 ) hr40
      exact rf_oW hf f41
theorem g_X11_gathers_o_L40 {L : eL} {h0 : eH} {rec_X11_gathers : eH → Nat → Int32 → Int32 → Int32 → Int64 → Int32 → Option eH} {r : eH} {k66 : eH → Nat → Int32 → Int32 → Int32 → Int64 → Int32 → Option eH} (grec_X11_gathers : ∀ (h : eH) (a0 : Nat) (a1 : Int32) (a2 : Int32) (a3 : Int32) (a4 : Int64) (a5 : Int32) {z : eH}, rf h0 h → rec_X11_gathers h a0 a1 a2 a3 a4 a5 = some z → rf h0 z) (hk66 : ∀ (h : eH) (v0 : Nat) (v1 : Int32) (v2 : Int32) (v3 : Int32) (v4 : Int64) (v6 : Int32), rf h0 h → k66 h v0 v1 v2 v3 v4 v6 = some r → rf h0 r) : ∀ (n : Nat) (h : eH) (v0 : Nat) (v1 : Int32) (v2 : Int32) (v3 : Int32) (v4 : Int64) (v6 : Int32) (v7 : Int32), rf h0 h → f_X11_gathers_o_L40 L rec_X11_gathers n k66 h v0 v1 v2 v3 v4 v6 v7 = some r → rf h0 r := by
  intro n
  induction n with
  | zero => intro h v0 v1 v2 v3 v4 v6 v7 f0 hf; exact absurd hf (by simp [f_X11_gathers_o_L40])
  | succ n ih =>
    intro h v0 v1 v2 v3 v4 v6 v7 f0 hf
    unfold f_X11_gathers_o_L40 at hf
    rcases e_or hf with hf | hf
    · exact hk66 _ _ _ _ _ _ _  f0 hf
    · replace hf := (e_if hf).2
      obtain ⟨b1, hb2, hf⟩ := e_bd hf
      obtain ⟨b4, hb5, hf⟩ := e_bd hf
      replace hf := (e_if hf).2
      replace hf := (e_if hf).2
      obtain ⟨h7, hh8, hf⟩ := e_bd hf
      have f9 := rf_oV hh8 (rf_sI f0 )
      exact ih _ _ _ _ _ _ _ _  f9 hf
theorem g_X11_gathers_o_J132 {L : eL} {h0 : eH} {rec_X11_gathers : eH → Nat → Int32 → Int32 → Int32 → Int64 → Int32 → Option eH} {r : eH} {k74 : eH → Nat → Int32 → Int32 → Int32 → Int64 → Int32 → Int32 → Option eH} {k209 : eH → Option eH} (grec_X11_gathers : ∀ (h : eH) (a0 : Nat) (a1 : Int32) (a2 : Int32) (a3 : Int32) (a4 : Int64) (a5 : Int32) {z : eH}, rf h0 h → rec_X11_gathers h a0 a1 a2 a3 a4 a5 = some z → rf h0 z) (hk74 : ∀ (h : eH) (v0 : Nat) (v1 : Int32) (v2 : Int32) (v3 : Int32) (v4 : Int64) (v6 : Int32) (v7 : Int32), rf h0 h → k74 h v0 v1 v2 v3 v4 v6 v7 = some r → rf h0 r) (hk209 : ∀ (h : eH), rf h0 h → k209 h = some r → rf h0 r) : ∀ (h : eH) (v0 : Nat) (v1 : Int32) (v2 : Int32) (v3 : Int32) (v4 : Int64) (v6 : Int32) (v7 : Int32) (s0 : Int32), rf h0 h → f_X11_gathers_o_J132 L rec_X11_gathers k74 k209 h v0 v1 v2 v3 v4 v6 v7 s0 = some r → rf h0 r := by
  intro h v0 v1 v2 v3 v4 v6 v7 s0 f0 hf
  unfold f_X11_gathers_o_J132 at hf
  rcases e_or hf with hf | hf
  · exact hk74 _ _ _ _ _ _ _ _  f0 hf
  · replace hf := (e_if hf).2
    obtain ⟨b22, hb23, hf⟩ := e_bd hf
    obtain ⟨r25, hr26, hf⟩ := e_bd hf
    rcases e_or hf with hf | hf
    · exact hk74 _ _ _ _ _ _ _ _  f0 hf
    · obtain ⟨b27, hb28, hf⟩ := e_bd hf
      replace hf := (e_if hf).2
      rcases e_or hf with hf | hf
      · obtain ⟨r36, hr37, hf⟩ := e_bd hf
        have f38 := grec_X11_gathers _ _ _ _ _ _ _  (rf_sI f0 ) hr37
        exact hk74 _ _ _ _ _ _ _ _  f38 hf
      · obtain ⟨b30, hb31, hf⟩ := e_bd hf
        replace hf := (e_if hf).2
        obtain ⟨r33, hr34, hf⟩ := e_bd hf
        have f35 := grec_X11_gathers _ _ _ _ _ _ _  (rf_sI f0 ) hr34
        exact hk74 _ _ _ _ _ _ _ _  f35 hf
theorem g_X11_gathers_o_L74 {L : eL} {h0 : eH} {rec_X11_gathers : eH → Nat → Int32 → Int32 → Int32 → Int64 → Int32 → Option eH} {r : eH} {k209 : eH → Option eH} (grec_X11_gathers : ∀ (h : eH) (a0 : Nat) (a1 : Int32) (a2 : Int32) (a3 : Int32) (a4 : Int64) (a5 : Int32) {z : eH}, rf h0 h → rec_X11_gathers h a0 a1 a2 a3 a4 a5 = some z → rf h0 z) (hk209 : ∀ (h : eH), rf h0 h → k209 h = some r → rf h0 r) : ∀ (n : Nat) (h : eH) (v0 : Nat) (v1 : Int32) (v2 : Int32) (v3 : Int32) (v4 : Int64) (v6 : Int32) (v7 : Int32), rf h0 h → f_X11_gathers_o_L74 L rec_X11_gathers n k209 h v0 v1 v2 v3 v4 v6 v7 = some r → rf h0 r := by
  intro n
  induction n with
  | zero => intro h v0 v1 v2 v3 v4 v6 v7 f0 hf; exact absurd hf (by simp [f_X11_gathers_o_L74])
  | succ n ih =>
    intro h v0 v1 v2 v3 v4 v6 v7 f0 hf
    unfold f_X11_gathers_o_L74 at hf
    replace hf := (e_if hf).2
    obtain ⟨r18, hr19, hf⟩ := e_bd hf
    rcases e_or hf with hf | hf
    · exact hk209 _ f0 hf
    · obtain ⟨r20, hr21, hf⟩ := e_bd hf
      rcases e_or hf with hf | hf
      · exact g_X11_gathers_o_J132 grec_X11_gathers ih hk209 _ _ _ _ _ _ _ _ _  f0 hf
      · obtain ⟨r39, hr40, hf⟩ := e_bd hf
        rcases e_or hf with hf | hf
        · exact g_X11_gathers_o_J132 grec_X11_gathers ih hk209 _ _ _ _ _ _ _ _ _  f0 hf
        · obtain ⟨r41, hr42, hf⟩ := e_bd hf
          rcases e_or hf with hf | hf
          · exact g_X11_gathers_o_J132 grec_X11_gathers ih hk209 _ _ _ _ _ _ _ _ _  f0 hf
          · obtain ⟨r43, hr44, hf⟩ := e_bd hf
            rcases e_or hf with hf | hf
            · exact g_X11_gathers_o_J132 grec_X11_gathers ih hk209 _ _ _ _ _ _ _ _ _  f0 hf
            · exact g_X11_gathers_o_J132 grec_X11_gathers ih hk209 _ _ _ _ _ _ _ _ _  f0 hf
theorem g_X11_gathers_o {L : eL} {h0 h : eH} {rec_X11_gathers : eH → Nat → Int32 → Int32 → Int32 → Int64 → Int32 → Option eH} {v0 : Nat} {v1 : Int32} {v2 : Int32} {v3 : Int32} {v4 : Int64} {v6 : Int32} {r : eH} (grec_X11_gathers : ∀ (h : eH) (a0 : Nat) (a1 : Int32) (a2 : Int32) (a3 : Int32) (a4 : Int64) (a5 : Int32) {z : eH}, rf h0 h → rec_X11_gathers h a0 a1 a2 a3 a4 a5 = some z → rf h0 z) (f0 : rf h0 h) (hf : f_X11_gathers_o L rec_X11_gathers h v0 v1 v2 v3 v4 v6 = some r) : rf h0 r := by
  unfold f_X11_gathers_o at hf
  replace hf := (e_if hf).2
  rcases e_or hf with hf | hf
  · refine g_X11_gathers_o_L40 grec_X11_gathers ?_ e_fu _ _ _ _ _ _ _ _  (rf_sI (rf_sI f0 ) ) hf
    · intro h10 w0_11 w1_12 w2_13 w3_14 w4_15 w6_16 f17 hf
      rcases e_or hf with hf | hf
      · exact rf_oV hf f17
      · refine g_X11_gathers_o_L74 grec_X11_gathers ?_ e_fu _ _ _ _ _ _ _ _  f17 hf
        · intro h45 f46 hf
          exact rf_oV hf f46
  · rcases e_or hf with hf | hf
    · rcases e_or hf with hf | hf
      · rcases e_or hf with hf | hf
        · exact rf_oV hf f0
        · refine g_X11_gathers_o_L74 grec_X11_gathers ?_ e_fu _ _ _ _ _ _ _ _  f0 hf
          · intro h49 f50 hf
            exact rf_oV hf f50
      · refine g_X11_gathers_o_L40 grec_X11_gathers ?_ e_fu _ _ _ _ _ _ _ _  (rf_sI (rf_sI f0 ) ) hf
        · intro h51 w0_52 w1_53 w2_54 w3_55 w4_56 w6_57 f58 hf
          rcases e_or hf with hf | hf
          · exact rf_oV hf f58
          · refine g_X11_gathers_o_L74 grec_X11_gathers ?_ e_fu _ _ _ _ _ _ _ _  f58 hf
            · intro h59 f60 hf
              exact rf_oV hf f60
    · rcases e_or hf with hf | hf
      · exact rf_oV hf f0
      · refine g_X11_gathers_o_L74 grec_X11_gathers ?_ e_fu _ _ _ _ _ _ _ _  f0 hf
        · intro h47 f48 hf
          exact rf_oV hf f48
theorem gg_X11_gathers {L : eL} {h0 : eH} : ∀ (n t : Nat) (h : eH) (x0 : Nat) (x1 : Int32) (x2 : Int32) (x3 : Int32) (x4 : Int64) (x5 : Int32) (r : eH), rf h0 h → fg_X11_gathers L n t h x0 x1 x2 x3 x4 x5 = some r → rf h0 r := by
  intro n
  induction n with
  | zero => intro t h x0 x1 x2 x3 x4 x5 r f0 hf; exact absurd hf (by simp [fg_X11_gathers])
  | succ n ih =>
    intro t h x0 x1 x2 x3 x4 x5 r f0 hf
    unfold fg_X11_gathers at hf
    exact g_X11_gathers_o (fun hh a0 a1 a2 a3 a4 a5 {z} ff hz => ih _ _ _ _ _ _ _ _ z ff hz) f0 hf
theorem g_X11_gathers {L : eL} {h0 h : eH} {x0 : Nat} {x1 : Int32} {x2 : Int32} {x3 : Int32} {x4 : Int64} {x5 : Int32} {r : eH} (f0 : rf h0 h) (hf : f_X11_gathers L h x0 x1 x2 x3 x4 x5 = some r) : rf h0 r := gg_X11_gathers 100 0 h x0 x1 x2 x3 x4 x5 r f0 hf
theorem g_X11_best_L59 {L : eL} {h0 : eH} {r : eH × Int32} {k84 : eH → Nat → Option (eH × Int32)} (hk84 : ∀ (h : eH) (v0 : Nat), rf h0 h → k84 h v0 = some r → rf h0 r.1) : ∀ (n : Nat) (h : eH) (v0 : Nat) (v2 : Int32), rf h0 h → f_X11_best_L59 L n k84 h v0 v2 = some r → rf h0 r.1 := by
  intro n
  induction n with
  | zero => intro h v0 v2 f0 hf; exact absurd hf (by simp [f_X11_best_L59])
  | succ n ih =>
    intro h v0 v2 f0 hf
    unfold f_X11_best_L59 at hf
    replace hf := (e_if hf).2
    rcases e_or hf with hf | hf
    · exact hk84 _ _  f0 hf
    · obtain ⟨b10, hb11, hf⟩ := e_bd hf
      replace hf := (e_if hf).2
      obtain ⟨r13, hr14, hf⟩ := e_bd hf
      have f15 := g_X11_enters  f0 hr14
      exact ih _ _ _  f15 hf
theorem g_X11_best {L : eL} {h0 h : eH} {v0 : Nat} {v1 : Int32} {r : eH × Int32} (f0 : rf h0 h) (hf : f_X11_best L h v0 v1 = some r) : rf h0 r.1 := by
  unfold f_X11_best at hf
  replace hf := (e_if hf).2
  rcases e_or hf with hf | hf
  · exact rf_oW hf (rf_sI f0 )
  · obtain ⟨b1, hb2, hf⟩ := e_bd hf
    replace hf := (e_if hf).2
    obtain ⟨b4, hb5, hf⟩ := e_bd hf
    replace hf := (e_if hf).2
    obtain ⟨r7, hr8, hf⟩ := e_bd hf
    have f9 := g_X11_gathers  (rf_sI (rf_sI (rf_sI f0 ) ) ) hr8
    refine g_X11_best_L59 ?_ e_fu _ _ _  (rf_sI f9 ) hf
    · intro h16 w0_17 f18 hf
      replace hf := (e_if hf).2
      exact rf_oW hf f18
theorem g_X11_goesBy_J69 {L : eL} {h0 : eH} {r : eH}  : ∀ (h : eH) (v0 : Nat) (v1 : Int32) (v2 : Int32) (v3 : Int32) (v4 : Int32), rf h0 h → f_X11_goesBy_J69 L h v0 v1 v2 v3 v4 = some r → rf h0 r := by
  intro h v0 v1 v2 v3 v4 f0 hf
  unfold f_X11_goesBy_J69 at hf
  rcases e_or hf with hf | hf
  · rcases e_or hf with hf | hf
    · exact rf_oV hf f0
    · replace hf := (e_if hf).2
      obtain ⟨b8, hb9, hf⟩ := e_bd hf
      replace hf := (e_if hf).2
      obtain ⟨h11, hh12, hf⟩ := e_bd hf
      have f13 := rf_oV hh12 (rf_sI f0 )
      exact rf_oV hf f13
  · exact rf_oV hf f0
theorem g_X11_goesBy {L : eL} {h0 h : eH} {v0 : Nat} {v1 : Int32} {v2 : Int32} {r : eH} (f0 : rf h0 h) (hf : f_X11_goesBy L h v0 v1 v2 = some r) : rf h0 r := by
  unfold f_X11_goesBy at hf
  replace hf := (e_if hf).2
  obtain ⟨r1, hr2, hf⟩ := e_bd hf
  obtain ⟨b3, hb4, hf⟩ := e_bd hf
  obtain ⟨r6, hr7, hf⟩ := e_bd hf
  rcases e_or hf with hf | hf
  · rcases e_or hf with hf | hf
    · rcases e_or hf with hf | hf
      · obtain ⟨b14, hb15, hf⟩ := e_bd hf
        replace hf := (e_if hf).2
        obtain ⟨h17, hh18, hf⟩ := e_bd hf
        have f19 := rf_oV hh18 (rf_sI f0 )
        exact rf_oV hf f19
      · exact g_X11_goesBy_J69 _ _ _ _ _ _  f0 hf
    · exact g_X11_goesBy_J69 _ _ _ _ _ _  f0 hf
  · obtain ⟨b20, hb21, hf⟩ := e_bd hf
    replace hf := (e_if hf).2
    obtain ⟨h23, hh24, hf⟩ := e_bd hf
    have f25 := rf_oV hh24 (rf_sI f0 )
    exact rf_oV hf f25
theorem g_X11_laysPlaces_L2 {L : eL} {h0 : eH} {r : eH} {k32 : eH → Nat → Option eH} (hk32 : ∀ (h : eH) (v0 : Nat), rf h0 h → k32 h v0 = some r → rf h0 r) : ∀ (n : Nat) (h : eH) (v0 : Nat) (v1 : Int32), rf h0 h → f_X11_laysPlaces_L2 L n k32 h v0 v1 = some r → rf h0 r := by
  intro n
  induction n with
  | zero => intro h v0 v1 f0 hf; exact absurd hf (by simp [f_X11_laysPlaces_L2])
  | succ n ih =>
    intro h v0 v1 f0 hf
    unfold f_X11_laysPlaces_L2 at hf
    rcases e_or hf with hf | hf
    · exact hk32 _ _  f0 hf
    · replace hf := (e_if hf).2
      obtain ⟨b1, hb2, hf⟩ := e_bd hf
      obtain ⟨b4, hb5, hf⟩ := e_bd hf
      obtain ⟨r7, hr8, hf⟩ := e_bd hf
      replace hf := (e_if hf).2
      obtain ⟨h9, hh10, hf⟩ := e_bd hf
      have f11 := rf_oV hh10 (rf_sI f0 )
      exact ih _ _ _  f11 hf
theorem g_X11_laysPlaces_L44 {L : eL} {h0 : eH} {r : eH} {k64 : eH → Nat → Int32 → Option eH} (hk64 : ∀ (h : eH) (v0 : Nat) (v1 : Int32), rf h0 h → k64 h v0 v1 = some r → rf h0 r) : ∀ (n : Nat) (h : eH) (v0 : Nat) (v1 : Int32) (v2 : Int32), rf h0 h → f_X11_laysPlaces_L44 L n k64 h v0 v1 v2 = some r → rf h0 r := by
  intro n
  induction n with
  | zero => intro h v0 v1 v2 f0 hf; exact absurd hf (by simp [f_X11_laysPlaces_L44])
  | succ n ih =>
    intro h v0 v1 v2 f0 hf
    unfold f_X11_laysPlaces_L44 at hf
    rcases e_or hf with hf | hf
    · exact hk64 _ _ _  f0 hf
    · replace hf := (e_if hf).2
      obtain ⟨b15, hb16, hf⟩ := e_bd hf
      replace hf := (e_if hf).2
      obtain ⟨h18, hh19, hf⟩ := e_bd hf
      have f20 := rf_oV hh19 (rf_sI f0 )
      exact ih _ _ _ _  f20 hf
theorem g_X11_laysPlaces_L66 {L : eL} {h0 : eH} {r : eH} {k99 : eH → Nat → Int32 → Option eH} (hk99 : ∀ (h : eH) (v0 : Nat) (v1 : Int32), rf h0 h → k99 h v0 v1 = some r → rf h0 r) : ∀ (n : Nat) (h : eH) (v0 : Nat) (v1 : Int32) (v2 : Int32), rf h0 h → f_X11_laysPlaces_L66 L n k99 h v0 v1 v2 = some r → rf h0 r := by
  intro n
  induction n with
  | zero => intro h v0 v1 v2 f0 hf; exact absurd hf (by simp [f_X11_laysPlaces_L66])
  | succ n ih =>
    intro h v0 v1 v2 f0 hf
    unfold f_X11_laysPlaces_L66 at hf
    rcases e_or hf with hf | hf
    · exact hk99 _ _ _  f0 hf
    · replace hf := (e_if hf).2
      obtain ⟨b25, hb26, hf⟩ := e_bd hf
      replace hf := (e_if hf).2
      rcases e_or hf with hf | hf
      · exact ih _ _ _ _  f0 hf
      · obtain ⟨b28, hb29, hf⟩ := e_bd hf
        replace hf := (e_if hf).2
        obtain ⟨r31, hr32, hf⟩ := e_bd hf
        have f33 := g_X11_goesBy  f0 hr32
        exact ih _ _ _ _  f33 hf
theorem g_X11_laysPlaces_L101 {L : eL} {h0 : eH} {r : eH} {k126 : eH → Nat → Int32 → Option eH} (hk126 : ∀ (h : eH) (v0 : Nat) (v1 : Int32), rf h0 h → k126 h v0 v1 = some r → rf h0 r) : ∀ (n : Nat) (h : eH) (v0 : Nat) (v1 : Int32) (v2 : Int32), rf h0 h → f_X11_laysPlaces_L101 L n k126 h v0 v1 v2 = some r → rf h0 r := by
  intro n
  induction n with
  | zero => intro h v0 v1 v2 f0 hf; exact absurd hf (by simp [f_X11_laysPlaces_L101])
  | succ n ih =>
    intro h v0 v1 v2 f0 hf
    unfold f_X11_laysPlaces_L101 at hf
    rcases e_or hf with hf | hf
    · exact hk126 _ _ _  f0 hf
    · replace hf := (e_if hf).2
      obtain ⟨b38, hb39, hf⟩ := e_bd hf
      obtain ⟨b41, hb42, hf⟩ := e_bd hf
      replace hf := (e_if hf).2
      replace hf := (e_if hf).2
      obtain ⟨h44, hh45, hf⟩ := e_bd hf
      have f46 := rf_oV hh45 (rf_sI f0 )
      exact ih _ _ _ _  f46 hf
theorem g_X11_laysPlaces_L34 {L : eL} {h0 : eH} {r : eH} {k132 : eH → Option eH} (hk132 : ∀ (h : eH), rf h0 h → k132 h = some r → rf h0 r) : ∀ (n : Nat) (h : eH) (v0 : Nat) (v1 : Int32), rf h0 h → f_X11_laysPlaces_L34 L n k132 h v0 v1 = some r → rf h0 r := by
  intro n
  induction n with
  | zero => intro h v0 v1 f0 hf; exact absurd hf (by simp [f_X11_laysPlaces_L34])
  | succ n ih =>
    intro h v0 v1 f0 hf
    unfold f_X11_laysPlaces_L34 at hf
    replace hf := (e_if hf).2
    rcases e_or hf with hf | hf
    · exact hk132 _ f0 hf
    · refine g_X11_laysPlaces_L44 ?_ e_fu _ _ _ _  f0 hf
      · intro h21 w0_22 w1_23 f24 hf
        refine g_X11_laysPlaces_L66 ?_ e_fu _ _ _ _  f24 hf
        · intro h34 w0_35 w1_36 f37 hf
          refine g_X11_laysPlaces_L101 ?_ e_fu _ _ _ _  f37 hf
          · intro h47 w0_48 w1_49 f50 hf
            exact ih _ _ _  f50 hf
theorem g_X11_laysPlaces {L : eL} {h0 h : eH} {v0 : Nat} {r : eH} (f0 : rf h0 h) (hf : f_X11_laysPlaces L h v0 = some r) : rf h0 r := by
  unfold f_X11_laysPlaces at hf
  refine g_X11_laysPlaces_L2 ?_ e_fu _ _ _  f0 hf
  · intro h12 w0_13 f14 hf
    refine g_X11_laysPlaces_L34 ?_ e_fu _ _ _  f14 hf
    · intro h51 f52 hf
      exact rf_oV hf f52
theorem g_X11_feels {L : eL} {h0 h : eH} {v0 : Nat} {v1 : Int32} {r : eH × Int32} (f0 : rf h0 h) (hf : f_X11_feels L h v0 v1 = some r) : rf h0 r.1 := by
  unfold f_X11_feels at hf
  replace hf := (e_if hf).2
  obtain ⟨b1, hb2, hf⟩ := e_bd hf
  replace hf := (e_if hf).2
  obtain ⟨h4, hh5, hf⟩ := e_bd hf
  have f6 := rf_oV hh5 (rf_sI (rf_sI f0 ) )
  obtain ⟨r7, hr8, hf⟩ := e_bd hf
  have f9 := g_X11_laysPlaces  f6 hr8
  obtain ⟨r10, hr11, hf⟩ := e_bd hf
  exact rf_oW hf f9
theorem g_X11_felt {L : eL} {h0 h : eH} {v0 : Nat} {v1 : Int32} {r : eH × Int32} (f0 : rf h0 h) (hf : f_X11_felt L h v0 v1 = some r) : rf h0 r.1 := by
  unfold f_X11_felt at hf
  replace hf := (e_if hf).2
  rcases e_or hf with hf | hf
  · exact rf_oW hf (rf_sI f0 )
  · rcases e_or hf with hf | hf
    · exact rf_oW hf (rf_sI f0 )
    · obtain ⟨r1, hr2, hf⟩ := e_bd hf
      have f3 := g_X11_feels  (rf_sI f0 ) hr2
      exact rf_oW hf f3
theorem g_X11_swung {L : eL} {h0 h : eH} {v0 : Nat} {v1 : Int32} {r : eH × Int32} (f0 : rf h0 h) (hf : f_X11_swung L h v0 v1 = some r) : rf h0 r.1 := by
  unfold f_X11_swung at hf
  replace hf := (e_if hf).2
  rcases e_or hf with hf | hf
  · exact rf_oW hf (rf_sI f0 )
  · rcases e_or hf with hf | hf
    · exact rf_oW hf (rf_sI f0 )
    · obtain ⟨r1, hr2, hf⟩ := e_bd hf
      have f3 := g_X11_feels  (rf_sI f0 ) hr2
      exact rf_oW hf f3
theorem g_X11_forget {L : eL} {h0 h : eH} {v0 : Nat} {r : eH × Int32} (f0 : rf h0 h) (hf : f_X11_forget L h v0 = some r) : rf h0 r.1 := by
  unfold f_X11_forget at hf
  replace hf := (e_if hf).2
  exact rf_oW hf (rf_sI (rf_sI f0 ) )
theorem g_X11_held_L13 {L : eL} {h0 : eH} {r : eH × Int32} {k47 : eH → Nat → Int64 → Option (eH × Int32)} (hk47 : ∀ (h : eH) (v0 : Nat) (v1 : Int64), rf h0 h → k47 h v0 v1 = some r → rf h0 r.1) : ∀ (n : Nat) (h : eH) (v0 : Nat) (v1 : Int64) (v3 : Int32), rf h0 h → f_X11_held_L13 L n k47 h v0 v1 v3 = some r → rf h0 r.1 := by
  intro n
  induction n with
  | zero => intro h v0 v1 v3 f0 hf; exact absurd hf (by simp [f_X11_held_L13])
  | succ n ih =>
    intro h v0 v1 v3 f0 hf
    unfold f_X11_held_L13 at hf
    rcases e_or hf with hf | hf
    · exact hk47 _ _ _  f0 hf
    · replace hf := (e_if hf).2
      obtain ⟨b4, hb5, hf⟩ := e_bd hf
      replace hf := (e_if hf).2
      rcases e_or hf with hf | hf
      · exact ih _ _ _ _  f0 hf
      · exact ih _ _ _ _  f0 hf
theorem g_X11_held {L : eL} {h0 h : eH} {v0 : Nat} {r : eH × Int32} (f0 : rf h0 h) (hf : f_X11_held L h v0 = some r) : rf h0 r.1 := by
  unfold f_X11_held at hf
  replace hf := (e_if hf).2
  obtain ⟨r1, hr2, hf⟩ := e_bd hf
  have f3 := g_X11_laysPlaces  (rf_sI f0 ) hr2
  refine g_X11_held_L13 ?_ e_fu _ _ _ _  f3 hf
  · intro h7 w0_8 w1_9 f10 hf
    replace hf := (e_if hf).2
    obtain ⟨r11, hr12, hf⟩ := e_bd hf
    have f13 := g_X11_enters  (rf_sI f10 ) hr12
    obtain ⟨r14, hr15, hf⟩ := e_bd hf
    obtain ⟨r16, hr17, hf⟩ := e_bd hf
    have f18 := g_X11_enters  f13 hr17
    exact rf_oW hf f18
theorem g_X11_feel_L38 {L : eL} {h0 : eH} {r : eH × Int32} {k100 : eH → Nat → Int32 → Int32 → Int32 → Int32 → Option (eH × Int32)} (hk100 : ∀ (h : eH) (v0 : Nat) (v1 : Int32) (v2 : Int32) (v3 : Int32) (v4 : Int32), rf h0 h → k100 h v0 v1 v2 v3 v4 = some r → rf h0 r.1) : ∀ (n : Nat) (h : eH) (v0 : Nat) (v1 : Int32) (v2 : Int32) (v3 : Int32) (v4 : Int32) (v5 : Int32), rf h0 h → f_X11_feel_L38 L n k100 h v0 v1 v2 v3 v4 v5 = some r → rf h0 r.1 := by
  intro n
  induction n with
  | zero => intro h v0 v1 v2 v3 v4 v5 f0 hf; exact absurd hf (by simp [f_X11_feel_L38])
  | succ n ih =>
    intro h v0 v1 v2 v3 v4 v5 f0 hf
    unfold f_X11_feel_L38 at hf
    rcases e_or hf with hf | hf
    · exact hk100 _ _ _ _ _ _  f0 hf
    · replace hf := (e_if hf).2
      obtain ⟨b6, hb7, hf⟩ := e_bd hf
      replace hf := (e_if hf).2
      rcases e_or hf with hf | hf
      · exact ih _ _ _ _ _ _ _  f0 hf
      · obtain ⟨b9, hb10, hf⟩ := e_bd hf
        obtain ⟨r12, hr13, hf⟩ := e_bd hf
        obtain ⟨r14, hr15, hf⟩ := e_bd hf
        rcases e_or hf with hf | hf
        · exact ih _ _ _ _ _ _ _  f0 hf
        · exact ih _ _ _ _ _ _ _  f0 hf
theorem g_X11_feel_L27 {L : eL} {h0 : eH} {r : eH × Int32} {k139 : eH → Nat → Int32 → Int32 → Option (eH × Int32)} (hk139 : ∀ (h : eH) (v0 : Nat) (v1 : Int32) (v2 : Int32), rf h0 h → k139 h v0 v1 v2 = some r → rf h0 r.1) : ∀ (n : Nat) (h : eH) (v0 : Nat) (v1 : Int32) (v2 : Int32) (v3 : Int32), rf h0 h → f_X11_feel_L27 L n k139 h v0 v1 v2 v3 = some r → rf h0 r.1 := by
  intro n
  induction n with
  | zero => intro h v0 v1 v2 v3 f0 hf; exact absurd hf (by simp [f_X11_feel_L27])
  | succ n ih =>
    intro h v0 v1 v2 v3 f0 hf
    unfold f_X11_feel_L27 at hf
    rcases e_or hf with hf | hf
    · exact hk139 _ _ _ _  f0 hf
    · refine g_X11_feel_L38 ?_ e_fu _ _ _ _ _ _ _  f0 hf
      · intro h16 w0_17 w1_18 w2_19 w3_20 w4_21 f22 hf
        replace hf := (e_if hf).2
        obtain ⟨r23, hr24, hf⟩ := e_bd hf
        rcases e_or hf with hf | hf
        · exact ih _ _ _ _ _  f22 hf
        · exact ih _ _ _ _ _  f22 hf
theorem g_X11_feel {L : eL} {h0 h : eH} {v0 : Nat} {r : eH × Int32} (f0 : rf h0 h) (hf : f_X11_feel L h v0 = some r) : rf h0 r.1 := by
  unfold f_X11_feel at hf
  replace hf := (e_if hf).2
  obtain ⟨r1, hr2, hf⟩ := e_bd hf
  have f3 := g_X11_laysPlaces  (rf_sI f0 ) hr2
  obtain ⟨r4, hr5, hf⟩ := e_bd hf
  rcases e_or hf with hf | hf
  · exact rf_oW hf f3
  · refine g_X11_feel_L27 ?_ e_fu _ _ _ _ _  f3 hf
    · intro h25 w0_26 w1_27 w2_28 f29 hf
      replace hf := (e_if hf).2
      obtain ⟨r30, hr31, hf⟩ := e_bd hf
      have f32 := g_X11_enters  (rf_sI f29 ) hr31
      exact rf_oW hf f32
theorem g_X11_tellsFraction {L : eL} {h0 h : eH} {v0 : Nat} {v1 : Int64} {v3 : Int64} {r : eH} (f0 : rf h0 h) (hf : f_X11_tellsFraction L h v0 v1 v3 = some r) : rf h0 r := by
  unfold f_X11_tellsFraction at hf
  obtain ⟨r1, hr2, hf⟩ := e_bd hf
  replace hf := (e_if hf).2
  replace hf := (e_ifp hf).2
  obtain ⟨r3, hr4, hf⟩ := e_bd hf
  have f5 := g_X11_enters  (rf_sI f0 ) hr4
  replace hf := (e_ifp hf).2
  obtain ⟨r6, hr7, hf⟩ := e_bd hf
  have f8 := g_X11_enters  f5 hr7
  exact rf_oV hf f8
theorem g_X11_likely_L29 {L : eL} {h0 : eH} {r : eH × Int32} {k67 : eH → Nat → Int32 → Int32 → Option (eH × Int32)} (hk67 : ∀ (h : eH) (v0 : Nat) (v1 : Int32) (v2 : Int32), rf h0 h → k67 h v0 v1 v2 = some r → rf h0 r.1) : ∀ (n : Nat) (h : eH) (v0 : Nat) (v1 : Int32) (v2 : Int32) (v3 : Int32), rf h0 h → f_X11_likely_L29 L n k67 h v0 v1 v2 v3 = some r → rf h0 r.1 := by
  intro n
  induction n with
  | zero => intro h v0 v1 v2 v3 f0 hf; exact absurd hf (by simp [f_X11_likely_L29])
  | succ n ih =>
    intro h v0 v1 v2 v3 f0 hf
    unfold f_X11_likely_L29 at hf
    rcases e_or hf with hf | hf
    · exact hk67 _ _ _ _  f0 hf
    · replace hf := (e_if hf).2
      obtain ⟨b3, hb4, hf⟩ := e_bd hf
      obtain ⟨b6, hb7, hf⟩ := e_bd hf
      replace hf := (e_if hf).2
      rcases e_or hf with hf | hf
      · replace hf := (e_if hf).2
        obtain ⟨h12, hh13, hf⟩ := e_bd hf
        have f14 := rf_oV hh13 (rf_sL f0 )
        exact ih _ _ _ _ _  f14 hf
      · replace hf := (e_if hf).2
        obtain ⟨h9, hh10, hf⟩ := e_bd hf
        have f11 := rf_oV hh10 (rf_sL f0 )
        exact ih _ _ _ _ _  f11 hf
theorem g_X11_likely_L81 {L : eL} {h0 : eH} {r : eH × Int32} {k102 : eH → Nat → Int32 → Int32 → Int64 → Int32 → Option (eH × Int32)} (hk102 : ∀ (h : eH) (v0 : Nat) (v1 : Int32) (v2 : Int32) (v3 : Int64) (v5 : Int32), rf h0 h → k102 h v0 v1 v2 v3 v5 = some r → rf h0 r.1) : ∀ (n : Nat) (h : eH) (v0 : Nat) (v1 : Int32) (v2 : Int32) (v3 : Int64) (v5 : Int32) (v6 : Int32), rf h0 h → f_X11_likely_L81 L n k102 h v0 v1 v2 v3 v5 v6 = some r → rf h0 r.1 := by
  intro n
  induction n with
  | zero => intro h v0 v1 v2 v3 v5 v6 f0 hf; exact absurd hf (by simp [f_X11_likely_L81])
  | succ n ih =>
    intro h v0 v1 v2 v3 v5 v6 f0 hf
    unfold f_X11_likely_L81 at hf
    rcases e_or hf with hf | hf
    · exact hk102 _ _ _ _ _ _  f0 hf
    · replace hf := (e_if hf).2
      obtain ⟨b20, hb21, hf⟩ := e_bd hf
      replace hf := (e_if hf).2
      exact ih _ _ _ _ _ _ _  (rf_sL f0 ) hf
theorem g_X11_likely_J157 {L : eL} {h0 : eH} {r : eH × Int32} {k117 : eH → Nat → Int32 → Int32 → Int64 → Int32 → Int32 → Int32 → Option (eH × Int32)} {k174 : eH → Nat → Int32 → Int32 → Int64 → Int32 → Int32 → Option (eH × Int32)} (hk117 : ∀ (h : eH) (v0 : Nat) (v1 : Int32) (v2 : Int32) (v3 : Int64) (v5 : Int32) (v6 : Int32) (v7 : Int32), rf h0 h → k117 h v0 v1 v2 v3 v5 v6 v7 = some r → rf h0 r.1) (hk174 : ∀ (h : eH) (v0 : Nat) (v1 : Int32) (v2 : Int32) (v3 : Int64) (v5 : Int32) (v6 : Int32), rf h0 h → k174 h v0 v1 v2 v3 v5 v6 = some r → rf h0 r.1) : ∀ (h : eH) (v0 : Nat) (v1 : Int32) (v2 : Int32) (v3 : Int64) (v5 : Int32) (v6 : Int32) (v7 : Int32) (s0 : Nat) (s1 : Int32), rf h0 h → f_X11_likely_J157 L k117 k174 h v0 v1 v2 v3 v5 v6 v7 s0 s1 = some r → rf h0 r.1 := by
  intro h v0 v1 v2 v3 v5 v6 v7 s0 s1 f0 hf
  unfold f_X11_likely_J157 at hf
  replace hf := (e_if hf).2
  replace hf := (e_if hf).2
  obtain ⟨b42, hb43, hf⟩ := e_bd hf
  replace hf := (e_if hf).2
  obtain ⟨h45, hh46, hf⟩ := e_bd hf
  have f47 := rf_oV hh46 (rf_sL f0 )
  exact hk117 _ _ _ _ _ _ _ _  f47 hf
theorem g_X11_likely_L117 {L : eL} {h0 : eH} {r : eH × Int32} {k174 : eH → Nat → Int32 → Int32 → Int64 → Int32 → Int32 → Option (eH × Int32)} (hk174 : ∀ (h : eH) (v0 : Nat) (v1 : Int32) (v2 : Int32) (v3 : Int64) (v5 : Int32) (v6 : Int32), rf h0 h → k174 h v0 v1 v2 v3 v5 v6 = some r → rf h0 r.1) : ∀ (n : Nat) (h : eH) (v0 : Nat) (v1 : Int32) (v2 : Int32) (v3 : Int64) (v5 : Int32) (v6 : Int32) (v7 : Int32), rf h0 h → f_X11_likely_L117 L n k174 h v0 v1 v2 v3 v5 v6 v7 = some r → rf h0 r.1 := by
  intro n
  induction n with
  | zero => intro h v0 v1 v2 v3 v5 v6 v7 f0 hf; exact absurd hf (by simp [f_X11_likely_L117])
  | succ n ih =>
    intro h v0 v1 v2 v3 v5 v6 v7 f0 hf
    unfold f_X11_likely_L117 at hf
    rcases e_or hf with hf | hf
    · exact hk174 _ _ _ _ _ _ _  f0 hf
    · replace hf := (e_if hf).2
      obtain ⟨r32, hr33, hf⟩ := e_bd hf
      obtain ⟨b34, hb35, hf⟩ := e_bd hf
      obtain ⟨b37, hb38, hf⟩ := e_bd hf
      obtain ⟨r40, hr41, hf⟩ := e_bd hf
      rcases e_or hf with hf | hf
      · exact g_X11_likely_J157 ih hk174 _ _ _ _ _ _ _ _ _ _   f0 hf
      · exact g_X11_likely_J157 ih hk174 _ _ _ _ _ _ _ _ _ _   f0 hf
theorem g_X11_likely_L105 {L : eL} {h0 : eH} {r : eH × Int32} {k180 : eH → Nat → Int32 → Int32 → Int64 → Int32 → Option (eH × Int32)} (hk180 : ∀ (h : eH) (v0 : Nat) (v1 : Int32) (v2 : Int32) (v3 : Int64) (v5 : Int32), rf h0 h → k180 h v0 v1 v2 v3 v5 = some r → rf h0 r.1) : ∀ (n : Nat) (h : eH) (v0 : Nat) (v1 : Int32) (v2 : Int32) (v3 : Int64) (v5 : Int32) (v6 : Int32), rf h0 h → f_X11_likely_L105 L n k180 h v0 v1 v2 v3 v5 v6 = some r → rf h0 r.1 := by
  intro n
  induction n with
  | zero => intro h v0 v1 v2 v3 v5 v6 f0 hf; exact absurd hf (by simp [f_X11_likely_L105])
  | succ n ih =>
    intro h v0 v1 v2 v3 v5 v6 f0 hf
    unfold f_X11_likely_L105 at hf
    replace hf := (e_if hf).2
    obtain ⟨r30, hr31, hf⟩ := e_bd hf
    rcases e_or hf with hf | hf
    · exact hk180 _ _ _ _ _ _  f0 hf
    · refine g_X11_likely_L117 ?_ e_fu _ _ _ _ _ _ _ _  f0 hf
      · intro h48 w0_49 w1_50 w2_51 w3_52 w5_53 w6_54 f55 hf
        exact ih _ _ _ _ _ _ _  f55 hf
theorem g_X11_likely_L183 {L : eL} {h0 : eH} {r : eH × Int32} {k210 : eH → Nat → Int32 → Int32 → Int64 → Int32 → Option (eH × Int32)} (hk210 : ∀ (h : eH) (v0 : Nat) (v1 : Int32) (v2 : Int32) (v3 : Int64) (v5 : Int32), rf h0 h → k210 h v0 v1 v2 v3 v5 = some r → rf h0 r.1) : ∀ (n : Nat) (h : eH) (v0 : Nat) (v1 : Int32) (v2 : Int32) (v3 : Int64) (v5 : Int32) (v6 : Int32), rf h0 h → f_X11_likely_L183 L n k210 h v0 v1 v2 v3 v5 v6 = some r → rf h0 r.1 := by
  intro n
  induction n with
  | zero => intro h v0 v1 v2 v3 v5 v6 f0 hf; exact absurd hf (by simp [f_X11_likely_L183])
  | succ n ih =>
    intro h v0 v1 v2 v3 v5 v6 f0 hf
    unfold f_X11_likely_L183 at hf
    rcases e_or hf with hf | hf
    · exact hk210 _ _ _ _ _ _  f0 hf
    · replace hf := (e_if hf).2
      obtain ⟨b63, hb64, hf⟩ := e_bd hf
      obtain ⟨b66, hb67, hf⟩ := e_bd hf
      replace hf := (e_if hf).2
      replace hf := (e_if hf).2
      obtain ⟨h69, hh70, hf⟩ := e_bd hf
      have f71 := rf_oV hh70 (rf_sL f0 )
      exact ih _ _ _ _ _ _ _  f71 hf
theorem g_X11_likely_L72 {L : eL} {h0 : eH} {r : eH × Int32} {k222 : eH → Nat → Int32 → Int64 → Option (eH × Int32)} (hk222 : ∀ (h : eH) (v0 : Nat) (v2 : Int32) (v3 : Int64), rf h0 h → k222 h v0 v2 v3 = some r → rf h0 r.1) : ∀ (n : Nat) (h : eH) (v0 : Nat) (v1 : Int32) (v2 : Int32) (v3 : Int64) (v5 : Int32), rf h0 h → f_X11_likely_L72 L n k222 h v0 v1 v2 v3 v5 = some r → rf h0 r.1 := by
  intro n
  induction n with
  | zero => intro h v0 v1 v2 v3 v5 f0 hf; exact absurd hf (by simp [f_X11_likely_L72])
  | succ n ih =>
    intro h v0 v1 v2 v3 v5 f0 hf
    unfold f_X11_likely_L72 at hf
    rcases e_or hf with hf | hf
    · exact hk222 _ _ _ _  f0 hf
    · refine g_X11_likely_L81 ?_ e_fu _ _ _ _ _ _ _  f0 hf
      · intro h23 w0_24 w1_25 w2_26 w3_27 w5_28 f29 hf
        refine g_X11_likely_L105 ?_ e_fu _ _ _ _ _ _ _  f29 hf
        · intro h56 w0_57 w1_58 w2_59 w3_60 w5_61 f62 hf
          refine g_X11_likely_L183 ?_ e_fu _ _ _ _ _ _ _  f62 hf
          · intro h72 w0_73 w1_74 w2_75 w3_76 w5_77 f78 hf
            exact ih _ _ _ _ _ _  f78 hf
theorem g_X11_likely {L : eL} {h0 h : eH} {v0 : Nat} {v1 : Int32} {v2 : Int32} {r : eH × Int32} (f0 : rf h0 h) (hf : f_X11_likely L h v0 v1 v2 = some r) : rf h0 r.1 := by
  unfold f_X11_likely at hf
  replace hf := (e_if hf).2
  rcases e_or hf with hf | hf
  · exact rf_oW hf (rf_sI f0 )
  · obtain ⟨r1, hr2, hf⟩ := e_bd hf
    rcases e_or hf with hf | hf
    · exact rf_oW hf (rf_sI f0 )
    · refine g_X11_likely_L29 ?_ e_fu _ _ _ _ _  (rf_sI f0 ) hf
      · intro h15 w0_16 w1_17 w2_18 f19 hf
        refine g_X11_likely_L72 ?_ e_fu _ _ _ _ _ _  f19 hf
        · intro h79 w0_80 w2_81 w3_82 f83 hf
          replace hf := (e_if hf).2
          obtain ⟨b84, hb85, hf⟩ := e_bd hf
          replace hf := (e_if hf).2
          obtain ⟨r87, hr88, hf⟩ := e_bd hf
          have f89 := g_X11_tellsFraction  f83 hr88
          exact rf_oW hf f89
theorem g_X11_week_L58 {L : eL} {h0 : eH} {r : eH × Int32} {k99 : eH → Nat → Int32 → Int32 → Int32 → Int32 → Int32 → Int32 → Option (eH × Int32)} (hk99 : ∀ (h : eH) (v0 : Nat) (v1 : Int32) (v2 : Int32) (v3 : Int32) (v4 : Int32) (v5 : Int32) (v7 : Int32), rf h0 h → k99 h v0 v1 v2 v3 v4 v5 v7 = some r → rf h0 r.1) : ∀ (n : Nat) (h : eH) (v0 : Nat) (v1 : Int32) (v2 : Int32) (v3 : Int32) (v4 : Int32) (v5 : Int32) (v6 : Int32) (v7 : Int32) (v8 : Int32), rf h0 h → f_X11_week_L58 L n k99 h v0 v1 v2 v3 v4 v5 v6 v7 v8 = some r → rf h0 r.1 := by
  intro n
  induction n with
  | zero => intro h v0 v1 v2 v3 v4 v5 v6 v7 v8 f0 hf; exact absurd hf (by simp [f_X11_week_L58])
  | succ n ih =>
    intro h v0 v1 v2 v3 v4 v5 v6 v7 v8 f0 hf
    unfold f_X11_week_L58 at hf
    rcases e_or hf with hf | hf
    · exact hk99 _ _ _ _ _ _ _ _  f0 hf
    · rcases e_or hf with hf | hf
      · exact ih _ _ _ _ _ _ _ _ _ _  f0 hf
      · exact ih _ _ _ _ _ _ _ _ _ _  f0 hf
theorem g_X11_week_J133 {L : eL} {h0 : eH} {r : eH × Int32} {k41 : eH → Nat → Int32 → Int32 → Int32 → Int32 → Int32 → Option (eH × Int32)} {k154 : eH → Nat → Int32 → Int32 → Option (eH × Int32)} (hk41 : ∀ (h : eH) (v0 : Nat) (v1 : Int32) (v2 : Int32) (v3 : Int32) (v4 : Int32) (v5 : Int32), rf h0 h → k41 h v0 v1 v2 v3 v4 v5 = some r → rf h0 r.1) (hk154 : ∀ (h : eH) (v0 : Nat) (v3 : Int32) (v4 : Int32), rf h0 h → k154 h v0 v3 v4 = some r → rf h0 r.1) : ∀ (h : eH) (v0 : Nat) (v1 : Int32) (v2 : Int32) (v4 : Int32) (v5 : Int32) (v7 : Int32) (v8 : Int32) (s0 : Int32), rf h0 h → f_X11_week_J133 L k41 k154 h v0 v1 v2 v4 v5 v7 v8 s0 = some r → rf h0 r.1 := by
  intro h v0 v1 v2 v4 v5 v7 v8 s0 f0 hf
  unfold f_X11_week_J133 at hf
  rcases e_or hf with hf | hf
  · exact hk41 _ _ _ _ _ _ _  f0 hf
  · exact hk41 _ _ _ _ _ _ _  f0 hf
theorem g_X11_week_L41 {L : eL} {h0 : eH} {r : eH × Int32} {k154 : eH → Nat → Int32 → Int32 → Option (eH × Int32)} (hk154 : ∀ (h : eH) (v0 : Nat) (v3 : Int32) (v4 : Int32), rf h0 h → k154 h v0 v3 v4 = some r → rf h0 r.1) : ∀ (n : Nat) (h : eH) (v0 : Nat) (v1 : Int32) (v2 : Int32) (v3 : Int32) (v4 : Int32) (v5 : Int32), rf h0 h → f_X11_week_L41 L n k154 h v0 v1 v2 v3 v4 v5 = some r → rf h0 r.1 := by
  intro n
  induction n with
  | zero => intro h v0 v1 v2 v3 v4 v5 f0 hf; exact absurd hf (by simp [f_X11_week_L41])
  | succ n ih =>
    intro h v0 v1 v2 v3 v4 v5 f0 hf
    unfold f_X11_week_L41 at hf
    rcases e_or hf with hf | hf
    · exact hk154 _ _ _ _  f0 hf
    · refine g_X11_week_L58 ?_ e_fu _ _ _ _ _ _ _ _ _ _  f0 hf
      · intro h1 w0_2 w1_3 w2_4 w3_5 w4_6 w5_7 w7_8 f9 hf
        rcases e_or hf with hf | hf
        · rcases e_or hf with hf | hf
          · exact g_X11_week_J133 ih hk154 _ _ _ _ _ _ _ _ _  f9 hf
          · exact g_X11_week_J133 ih hk154 _ _ _ _ _ _ _ _ _  f9 hf
        · exact g_X11_week_J133 ih hk154 _ _ _ _ _ _ _ _ _  f9 hf
theorem g_X11_week {L : eL} {h0 h : eH} {v0 : Nat} {v1 : Int32} {v2 : Int32} {r : eH × Int32} (f0 : rf h0 h) (hf : f_X11_week L h v0 v1 v2 = some r) : rf h0 r.1 := by
  unfold f_X11_week at hf
  replace hf := (e_if hf).2
  rcases e_or hf with hf | hf
  · exact rf_oW hf (rf_sI f0 )
  · rcases e_or hf with hf | hf
    · exact rf_oW hf (rf_sI f0 )
    · refine g_X11_week_L41 ?_ e_fu _ _ _ _ _ _ _  (rf_sI f0 ) hf
      · intro h10 w0_11 w3_12 w4_13 f14 hf
        replace hf := (e_if hf).2
        obtain ⟨r15, hr16, hf⟩ := e_bd hf
        have f17 := g_X11_enters  (rf_sI f14 ) hr16
        exact rf_oW hf f17
theorem g_X11_looks_L9 {L : eL} {h0 : eH} {r : eH × Int32} {k38 : eH → Nat → Int32 → Option (eH × Int32)} (hk38 : ∀ (h : eH) (v0 : Nat) (v1 : Int32), rf h0 h → k38 h v0 v1 = some r → rf h0 r.1) : ∀ (n : Nat) (h : eH) (v0 : Nat) (v1 : Int32) (v2 : Int32), rf h0 h → f_X11_looks_L9 L n k38 h v0 v1 v2 = some r → rf h0 r.1 := by
  intro n
  induction n with
  | zero => intro h v0 v1 v2 f0 hf; exact absurd hf (by simp [f_X11_looks_L9])
  | succ n ih =>
    intro h v0 v1 v2 f0 hf
    unfold f_X11_looks_L9 at hf
    rcases e_or hf with hf | hf
    · exact hk38 _ _ _  f0 hf
    · replace hf := (e_if hf).2
      obtain ⟨r1, hr2, hf⟩ := e_bd hf
      rcases e_or hf with hf | hf
      · exact ih _ _ _ _  f0 hf
      · exact ih _ _ _ _  f0 hf
theorem g_X11_looks {L : eL} {h0 h : eH} {v0 : Nat} {r : eH × Int32} (f0 : rf h0 h) (hf : f_X11_looks L h v0 = some r) : rf h0 r.1 := by
  unfold f_X11_looks at hf
  replace hf := (e_if hf).2
  refine g_X11_looks_L9 ?_ e_fu _ _ _ _  (rf_sI f0 ) hf
  · intro h3 w0_4 w1_5 f6 hf
    replace hf := (e_if hf).2
    obtain ⟨r7, hr8, hf⟩ := e_bd hf
    have f9 := g_X11_enters  (rf_sI f6 ) hr8
    obtain ⟨r10, hr11, hf⟩ := e_bd hf
    obtain ⟨r12, hr13, hf⟩ := e_bd hf
    have f14 := g_X11_enters  f9 hr13
    exact rf_oW hf f14
theorem g_X11_waysTo_L2 {L : eL} {h0 : eH} {r : eH × Int32} {k31 : eH → Nat → Int32 → Int32 → Option (eH × Int32)} (hk31 : ∀ (h : eH) (v0 : Nat) (v1 : Int32) (v2 : Int32), rf h0 h → k31 h v0 v1 v2 = some r → rf h0 r.1) : ∀ (n : Nat) (h : eH) (v0 : Nat) (v1 : Int32) (v2 : Int32) (v3 : Int32), rf h0 h → f_X11_waysTo_L2 L n k31 h v0 v1 v2 v3 = some r → rf h0 r.1 := by
  intro n
  induction n with
  | zero => intro h v0 v1 v2 v3 f0 hf; exact absurd hf (by simp [f_X11_waysTo_L2])
  | succ n ih =>
    intro h v0 v1 v2 v3 f0 hf
    unfold f_X11_waysTo_L2 at hf
    rcases e_or hf with hf | hf
    · exact hk31 _ _ _ _  f0 hf
    · replace hf := (e_if hf).2
      obtain ⟨b1, hb2, hf⟩ := e_bd hf
      rcases e_or hf with hf | hf
      · replace hf := (e_if hf).2
        exact ih _ _ _ _ _  (rf_sI f0 ) hf
      · replace hf := (e_if hf).2
        exact ih _ _ _ _ _  (rf_sI f0 ) hf
theorem g_X11_waysTo_L44 {L : eL} {h0 : eH} {r : eH × Int32} {k99 : eH → Nat → Int32 → Int32 → Int32 → Option (eH × Int32)} (hk99 : ∀ (h : eH) (v0 : Nat) (v1 : Int32) (v2 : Int32) (v3 : Int32), rf h0 h → k99 h v0 v1 v2 v3 = some r → rf h0 r.1) : ∀ (n : Nat) (h : eH) (v0 : Nat) (v1 : Int32) (v2 : Int32) (v3 : Int32) (v4 : Int32), rf h0 h → f_X11_waysTo_L44 L n k99 h v0 v1 v2 v3 v4 = some r → rf h0 r.1 := by
  intro n
  induction n with
  | zero => intro h v0 v1 v2 v3 v4 f0 hf; exact absurd hf (by simp [f_X11_waysTo_L44])
  | succ n ih =>
    intro h v0 v1 v2 v3 v4 f0 hf
    unfold f_X11_waysTo_L44 at hf
    replace hf := (e_if hf).2
    obtain ⟨b11, hb12, hf⟩ := e_bd hf
    replace hf := (e_if hf).2
    rcases e_or hf with hf | hf
    · exact hk99 _ _ _ _ _  f0 hf
    · obtain ⟨b14, hb15, hf⟩ := e_bd hf
      replace hf := (e_if hf).2
      rcases e_or hf with hf | hf
      · exact hk99 _ _ _ _ _  f0 hf
      · rcases e_or hf with hf | hf
        · exact hk99 _ _ _ _ _  f0 hf
        · obtain ⟨b17, hb18, hf⟩ := e_bd hf
          replace hf := (e_if hf).2
          obtain ⟨b20, hb21, hf⟩ := e_bd hf
          obtain ⟨b23, hb24, hf⟩ := e_bd hf
          replace hf := (e_if hf).2
          replace hf := (e_if hf).2
          obtain ⟨h26, hh27, hf⟩ := e_bd hf
          have f28 := rf_oV hh27 (rf_sI f0 )
          exact ih _ _ _ _ _ _  f28 hf
theorem g_X11_waysTo_L33 {L : eL} {h0 : eH} {r : eH × Int32} {k105 : eH → Nat → Int32 → Option (eH × Int32)} (hk105 : ∀ (h : eH) (v0 : Nat) (v1 : Int32), rf h0 h → k105 h v0 v1 = some r → rf h0 r.1) : ∀ (n : Nat) (h : eH) (v0 : Nat) (v1 : Int32) (v2 : Int32) (v3 : Int32), rf h0 h → f_X11_waysTo_L33 L n k105 h v0 v1 v2 v3 = some r → rf h0 r.1 := by
  intro n
  induction n with
  | zero => intro h v0 v1 v2 v3 f0 hf; exact absurd hf (by simp [f_X11_waysTo_L33])
  | succ n ih =>
    intro h v0 v1 v2 v3 f0 hf
    unfold f_X11_waysTo_L33 at hf
    replace hf := (e_if hf).2
    obtain ⟨r9, hr10, hf⟩ := e_bd hf
    rcases e_or hf with hf | hf
    · exact hk105 _ _ _  f0 hf
    · refine g_X11_waysTo_L44 ?_ e_fu _ _ _ _ _ _  f0 hf
      · intro h29 w0_30 w1_31 w2_32 w3_33 f34 hf
        exact ih _ _ _ _ _  f34 hf
theorem g_X11_waysTo {L : eL} {h0 h : eH} {v0 : Nat} {v1 : Int32} {v2 : Int32} {r : eH × Int32} (f0 : rf h0 h) (hf : f_X11_waysTo L h v0 v1 v2 = some r) : rf h0 r.1 := by
  unfold f_X11_waysTo at hf
  refine g_X11_waysTo_L2 ?_ e_fu _ _ _ _ _  f0 hf
  · intro h4 w0_5 w1_6 w2_7 f8 hf
    refine g_X11_waysTo_L33 ?_ e_fu _ _ _ _ _  f8 hf
    · intro h35 w0_36 w1_37 f38 hf
      replace hf := (e_if hf).2
      obtain ⟨b39, hb40, hf⟩ := e_bd hf
      replace hf := (e_if hf).2
      exact rf_oW hf f38
theorem g_X11_box_L43 {L : eL} {h0 : eH} {r : eH × Int32} {k93 : eH → Nat → Int32 → Int64 → Option (eH × Int32)} (hk93 : ∀ (h : eH) (v0 : Nat) (v2 : Int32) (v3 : Int64), rf h0 h → k93 h v0 v2 v3 = some r → rf h0 r.1) : ∀ (n : Nat) (h : eH) (v0 : Nat) (v1 : Int32) (v2 : Int32) (v3 : Int64) (v5 : Int32), rf h0 h → f_X11_box_L43 L n k93 h v0 v1 v2 v3 v5 = some r → rf h0 r.1 := by
  intro n
  induction n with
  | zero => intro h v0 v1 v2 v3 v5 f0 hf; exact absurd hf (by simp [f_X11_box_L43])
  | succ n ih =>
    intro h v0 v1 v2 v3 v5 f0 hf
    unfold f_X11_box_L43 at hf
    replace hf := (e_if hf).2
    obtain ⟨r6, hr7, hf⟩ := e_bd hf
    rcases e_or hf with hf | hf
    · exact hk93 _ _ _ _  f0 hf
    · rcases e_or hf with hf | hf
      · exact hk93 _ _ _ _  f0 hf
      · obtain ⟨b8, hb9, hf⟩ := e_bd hf
        replace hf := (e_if hf).2
        rcases e_or hf with hf | hf
        · exact ih _ _ _ _ _ _  f0 hf
        · obtain ⟨r11, hr12, hf⟩ := e_bd hf
          have f13 := g_X11_waysTo  f0 hr12
          rcases e_or hf with hf | hf
          · exact ih _ _ _ _ _ _  f13 hf
          · exact ih _ _ _ _ _ _  f13 hf
theorem g_X11_box {L : eL} {h0 h : eH} {v0 : Nat} {v1 : Int32} {r : eH × Int32} (f0 : rf h0 h) (hf : f_X11_box L h v0 v1 = some r) : rf h0 r.1 := by
  unfold f_X11_box at hf
  replace hf := (e_if hf).2
  rcases e_or hf with hf | hf
  · exact rf_oW hf (rf_sI f0 )
  · obtain ⟨r1, hr2, hf⟩ := e_bd hf
    rcases e_or hf with hf | hf
    · obtain ⟨r3, hr4, hf⟩ := e_bd hf
      have f5 := g_X11_waysTo  (rf_sI f0 ) hr4
      refine g_X11_box_L43 ?_ e_fu _ _ _ _ _ _  f5 hf
      · intro h14 w0_15 w2_16 w3_17 f18 hf
        replace hf := (e_if hf).2
        obtain ⟨r19, hr20, hf⟩ := e_bd hf
        have f21 := g_X11_enters  (rf_sI f18 ) hr20
        exact rf_oW hf f21
    · exact rf_oW hf (rf_sI f0 )
theorem g_X11_clean_L39 {L : eL} {h0 : eH} {r : eH × Int32} {k98 : eH → Nat → Int64 → Int64 → Option (eH × Int32)} (hk98 : ∀ (h : eH) (v0 : Nat) (v4 : Int64) (v6 : Int64), rf h0 h → k98 h v0 v4 v6 = some r → rf h0 r.1) : ∀ (n : Nat) (h : eH) (v0 : Nat) (v1 : Int32) (v2 : Int32) (v3 : Int32) (v4 : Int64) (v6 : Int64) (v8 : Int32), rf h0 h → f_X11_clean_L39 L n k98 h v0 v1 v2 v3 v4 v6 v8 = some r → rf h0 r.1 := by
  intro n
  induction n with
  | zero => intro h v0 v1 v2 v3 v4 v6 v8 f0 hf; exact absurd hf (by simp [f_X11_clean_L39])
  | succ n ih =>
    intro h v0 v1 v2 v3 v4 v6 v8 f0 hf
    unfold f_X11_clean_L39 at hf
    rcases e_or hf with hf | hf
    · exact hk98 _ _ _ _  f0 hf
    · obtain ⟨r5, hr6, hf⟩ := e_bd hf
      replace hf := (e_ifp hf).2
      replace hf := (e_ifp hf).2
      exact ih _ _ _ _ _ _ _ _  f0 hf
theorem g_X11_clean {L : eL} {h0 h : eH} {v0 : Nat} {v1 : Int32} {r : eH × Int32} (f0 : rf h0 h) (hf : f_X11_clean L h v0 v1 = some r) : rf h0 r.1 := by
  unfold f_X11_clean at hf
  replace hf := (e_if hf).2
  obtain ⟨r1, hr2, hf⟩ := e_bd hf
  rcases e_or hf with hf | hf
  · exact rf_oW hf (rf_sI f0 )
  · obtain ⟨r3, hr4, hf⟩ := e_bd hf
    refine g_X11_clean_L39 ?_ e_fu _ _ _ _ _ _ _ _  (rf_sI f0 ) hf
    · intro h7 w0_8 w4_9 w6_10 f11 hf
      replace hf := (e_if hf).2
      obtain ⟨r12, hr13, hf⟩ := e_bd hf
      have f14 := g_X11_tellsFraction  f11 hr13
      exact rf_oW hf f14
theorem g_X11_rests_L37 {L : eL} {h0 : eH} {r : eH × Int32} {k90 : eH → Nat → Int32 → Int32 → Int32 → Option (eH × Int32)} (hk90 : ∀ (h : eH) (v0 : Nat) (v1 : Int32) (v2 : Int32) (v3 : Int32), rf h0 h → k90 h v0 v1 v2 v3 = some r → rf h0 r.1) : ∀ (n : Nat) (h : eH) (v0 : Nat) (v1 : Int32) (v2 : Int32) (v3 : Int32) (v4 : Int32), rf h0 h → f_X11_rests_L37 L n k90 h v0 v1 v2 v3 v4 = some r → rf h0 r.1 := by
  intro n
  induction n with
  | zero => intro h v0 v1 v2 v3 v4 f0 hf; exact absurd hf (by simp [f_X11_rests_L37])
  | succ n ih =>
    intro h v0 v1 v2 v3 v4 f0 hf
    unfold f_X11_rests_L37 at hf
    rcases e_or hf with hf | hf
    · exact hk90 _ _ _ _ _  f0 hf
    · obtain ⟨r1, hr2, hf⟩ := e_bd hf
      rcases e_or hf with hf | hf
      · exact ih _ _ _ _ _ _  f0 hf
      · obtain ⟨r3, hr4, hf⟩ := e_bd hf
        rcases e_or hf with hf | hf
        · exact ih _ _ _ _ _ _  f0 hf
        · rcases e_or hf with hf | hf
          · replace hf := (e_if hf).2
            obtain ⟨r5, hr6, hf⟩ := e_bd hf
            have f7 := g_X11_enters  f0 hr6
            obtain ⟨r8, hr9, hf⟩ := e_bd hf
            have f10 := g_X11_enters  f7 hr9
            exact ih _ _ _ _ _ _  f10 hf
          · exact ih _ _ _ _ _ _  f0 hf
theorem g_X11_rests_L28 {L : eL} {h0 : eH} {r : eH × Int32} {k96 : eH → Int32 → Option (eH × Int32)} (hk96 : ∀ (h : eH) (v2 : Int32), rf h0 h → k96 h v2 = some r → rf h0 r.1) : ∀ (n : Nat) (h : eH) (v0 : Nat) (v1 : Int32) (v2 : Int32) (v3 : Int32), rf h0 h → f_X11_rests_L28 L n k96 h v0 v1 v2 v3 = some r → rf h0 r.1 := by
  intro n
  induction n with
  | zero => intro h v0 v1 v2 v3 f0 hf; exact absurd hf (by simp [f_X11_rests_L28])
  | succ n ih =>
    intro h v0 v1 v2 v3 f0 hf
    unfold f_X11_rests_L28 at hf
    rcases e_or hf with hf | hf
    · exact hk96 _ _ f0 hf
    · refine g_X11_rests_L37 ?_ e_fu _ _ _ _ _ _  f0 hf
      · intro h11 w0_12 w1_13 w2_14 w3_15 f16 hf
        exact ih _ _ _ _ _  f16 hf
theorem g_X11_rests {L : eL} {h0 h : eH} {v0 : Nat} {v1 : Int32} {r : eH × Int32} (f0 : rf h0 h) (hf : f_X11_rests L h v0 v1 = some r) : rf h0 r.1 := by
  unfold f_X11_rests at hf
  replace hf := (e_if hf).2
  rcases e_or hf with hf | hf
  · exact rf_oW hf (rf_sI f0 )
  · refine g_X11_rests_L28 ?_ e_fu _ _ _ _ _  (rf_sI (rf_sI f0 ) ) hf
    · intro h17 w2_18 f19 hf
      exact rf_oW hf f19
theorem g_X11_draws {L : eL} {h0 h : eH} {v0 : Nat} {v1 : Int32} {r : eH × Int32} (f0 : rf h0 h) (hf : f_X11_draws L h v0 v1 = some r) : rf h0 r.1 := by
  unfold f_X11_draws at hf
  replace hf := (e_if hf).2
  obtain ⟨h1, hh2, hf⟩ := e_bd hf
  have f3 := rf_oV hh2 (rf_sI f0 )
  replace hf := (e_ifp hf).2
  exact rf_oW hf f3
theorem g_X11_weeks_J103 {L : eL} {h0 : eH} {r : eH × Int32} {k30 : eH → Nat → Int32 → Int32 → Option (eH × Int32)} {k148 : eH → Nat → Option (eH × Int32)} (hk30 : ∀ (h : eH) (v0 : Nat) (v2 : Int32) (v3 : Int32), rf h0 h → k30 h v0 v2 v3 = some r → rf h0 r.1) (hk148 : ∀ (h : eH) (v0 : Nat), rf h0 h → k148 h v0 = some r → rf h0 r.1) : ∀ (h : eH) (v0 : Nat) (v2 : Int32) (v3 : Int32) (v4 : Int32) (s0 : Int32), rf h0 h → f_X11_weeks_J103 L k30 k148 h v0 v2 v3 v4 s0 = some r → rf h0 r.1 := by
  intro h v0 v2 v3 v4 s0 f0 hf
  unfold f_X11_weeks_J103 at hf
  replace hf := (e_if hf).2
  obtain ⟨b7, hb8, hf⟩ := e_bd hf
  obtain ⟨b10, hb11, hf⟩ := e_bd hf
  replace hf := (e_if hf).2
  replace hf := (e_if hf).2
  obtain ⟨h13, hh14, hf⟩ := e_bd hf
  have f15 := rf_oV hh14 (rf_sI f0 )
  rcases e_or hf with hf | hf
  · obtain ⟨b16, hb17, hf⟩ := e_bd hf
    obtain ⟨r19, hr20, hf⟩ := e_bd hf
    have f21 := g_X11_dayGoes   f15 hr20
    exact hk30 _ _ _ _  f21 hf
  · exact hk30 _ _ _ _  f15 hf
theorem g_X11_weeks_J60 {L : eL} {h0 : eH} {r : eH × Int32} {k30 : eH → Nat → Int32 → Int32 → Option (eH × Int32)} {k148 : eH → Nat → Option (eH × Int32)} (hk30 : ∀ (h : eH) (v0 : Nat) (v2 : Int32) (v3 : Int32), rf h0 h → k30 h v0 v2 v3 = some r → rf h0 r.1) (hk148 : ∀ (h : eH) (v0 : Nat), rf h0 h → k148 h v0 = some r → rf h0 r.1) : ∀ (h : eH) (v0 : Nat) (v2 : Int32) (v3 : Int32) (v4 : Int32), rf h0 h → f_X11_weeks_J60 L k30 k148 h v0 v2 v3 v4 = some r → rf h0 r.1 := by
  intro h v0 v2 v3 v4 f0 hf
  unfold f_X11_weeks_J60 at hf
  rcases e_or hf with hf | hf
  · exact g_X11_weeks_J103 hk30 hk148 _ _ _ _ _ _  f0 hf
  · rcases e_or hf with hf | hf
    · exact g_X11_weeks_J103 hk30 hk148 _ _ _ _ _ _  f0 hf
    · replace hf := (e_if hf).2
      obtain ⟨b22, hb23, hf⟩ := e_bd hf
      obtain ⟨b25, hb26, hf⟩ := e_bd hf
      replace hf := (e_if hf).2
      replace hf := (e_if hf).2
      rcases e_or hf with hf | hf
      · obtain ⟨r28, hr29, hf⟩ := e_bd hf
        have f30 := g_X11_draws  f0 hr29
        rcases e_or hf with hf | hf
        · exact g_X11_weeks_J103 hk30 hk148 _ _ _ _ _ _  f30 hf
        · exact g_X11_weeks_J103 hk30 hk148 _ _ _ _ _ _  f30 hf
      · exact g_X11_weeks_J103 hk30 hk148 _ _ _ _ _ _  f0 hf
theorem g_X11_weeks_L30 {L : eL} {h0 : eH} {r : eH × Int32} {k148 : eH → Nat → Option (eH × Int32)} (hk148 : ∀ (h : eH) (v0 : Nat), rf h0 h → k148 h v0 = some r → rf h0 r.1) : ∀ (n : Nat) (h : eH) (v0 : Nat) (v2 : Int32) (v3 : Int32), rf h0 h → f_X11_weeks_L30 L n k148 h v0 v2 v3 = some r → rf h0 r.1 := by
  intro n
  induction n with
  | zero => intro h v0 v2 v3 f0 hf; exact absurd hf (by simp [f_X11_weeks_L30])
  | succ n ih =>
    intro h v0 v2 v3 f0 hf
    unfold f_X11_weeks_L30 at hf
    rcases e_or hf with hf | hf
    · exact hk148 _ _  f0 hf
    · replace hf := (e_if hf).2
      obtain ⟨r4, hr5, hf⟩ := e_bd hf
      have f6 := g_X11_draws  f0 hr5
      rcases e_or hf with hf | hf
      · exact g_X11_weeks_J60 ih hk148 _ _ _ _ _  f6 hf
      · obtain ⟨b31, hb32, hf⟩ := e_bd hf
        obtain ⟨r34, hr35, hf⟩ := e_bd hf
        have f36 := g_X11_stepGoes   f6 hr35
        exact g_X11_weeks_J60 ih hk148 _ _ _ _ _  f36 hf
theorem g_X11_weeks {L : eL} {h0 h : eH} {v0 : Nat} {v1 : Int32} {v2 : Int32} {r : eH × Int32} (f0 : rf h0 h) (hf : f_X11_weeks L h v0 v1 v2 = some r) : rf h0 r.1 := by
  unfold f_X11_weeks at hf
  replace hf := (e_if hf).2
  rcases e_or hf with hf | hf
  · exact rf_oW hf (rf_sI f0 )
  · obtain ⟨r1, hr2, hf⟩ := e_bd hf
    have f3 := g_X11_puts  (rf_sI (rf_sI f0 ) ) hr2
    refine g_X11_weeks_L30 ?_ e_fu _ _ _ _  f3 hf
    · intro h37 w0_38 f39 hf
      replace hf := (e_if hf).2
      obtain ⟨b40, hb41, hf⟩ := e_bd hf
      replace hf := (e_if hf).2
      obtain ⟨r43, hr44, hf⟩ := e_bd hf
      have f45 := g_X11_enters  (rf_sI f39 ) hr44
      obtain ⟨b46, hb47, hf⟩ := e_bd hf
      obtain ⟨r49, hr50, hf⟩ := e_bd hf
      obtain ⟨r51, hr52, hf⟩ := e_bd hf
      have f53 := g_X11_enters  f45 hr52
      obtain ⟨b54, hb55, hf⟩ := e_bd hf
      replace hf := (e_if hf).2
      obtain ⟨b57, hb58, hf⟩ := e_bd hf
      replace hf := (e_if hf).2
      exact rf_oW hf f53
theorem g_X11_keep_L28 {L : eL} {h0 : eH} {r : eH × Int32} {k57 : eH → Option (eH × Int32)} (hk57 : ∀ (h : eH), rf h0 h → k57 h = some r → rf h0 r.1) : ∀ (n : Nat) (h : eH) (v0 : Nat) (v1 : Int32) (v2 : Int32), rf h0 h → f_X11_keep_L28 L n k57 h v0 v1 v2 = some r → rf h0 r.1 := by
  intro n
  induction n with
  | zero => intro h v0 v1 v2 f0 hf; exact absurd hf (by simp [f_X11_keep_L28])
  | succ n ih =>
    intro h v0 v1 v2 f0 hf
    unfold f_X11_keep_L28 at hf
    rcases e_or hf with hf | hf
    · exact hk57 _ f0 hf
    · replace hf := (e_if hf).2
      obtain ⟨b7, hb8, hf⟩ := e_bd hf
      obtain ⟨b10, hb11, hf⟩ := e_bd hf
      replace hf := (e_if hf).2
      replace hf := (e_if hf).2
      obtain ⟨h13, hh14, hf⟩ := e_bd hf
      have f15 := rf_oV hh14 (rf_sI f0 )
      exact ih _ _ _ _  f15 hf
theorem g_X11_keep {L : eL} {h0 h : eH} {v0 : Nat} {v1 : Int32} {r : eH × Int32} (f0 : rf h0 h) (hf : f_X11_keep L h v0 v1 = some r) : rf h0 r.1 := by
  unfold f_X11_keep at hf
  replace hf := (e_if hf).2
  rcases e_or hf with hf | hf
  · exact rf_oW hf (rf_sI f0 )
  · obtain ⟨b1, hb2, hf⟩ := e_bd hf
    replace hf := (e_if hf).2
    obtain ⟨h4, hh5, hf⟩ := e_bd hf
    have f6 := rf_oV hh5 (rf_sI (rf_sI f0 ) )
    refine g_X11_keep_L28 ?_ e_fu _ _ _ _  f6 hf
    · intro h16 f17 hf
      exact rf_oW hf f17
theorem g_X11_again_L30 {L : eL} {h0 : eH} {r : eH × Int32} {k59 : eH → Nat → Option (eH × Int32)} (hk59 : ∀ (h : eH) (v0 : Nat), rf h0 h → k59 h v0 = some r → rf h0 r.1) : ∀ (n : Nat) (h : eH) (v0 : Nat) (v1 : Int32) (v2 : Int32), rf h0 h → f_X11_again_L30 L n k59 h v0 v1 v2 = some r → rf h0 r.1 := by
  intro n
  induction n with
  | zero => intro h v0 v1 v2 f0 hf; exact absurd hf (by simp [f_X11_again_L30])
  | succ n ih =>
    intro h v0 v1 v2 f0 hf
    unfold f_X11_again_L30 at hf
    rcases e_or hf with hf | hf
    · exact hk59 _ _  f0 hf
    · replace hf := (e_if hf).2
      obtain ⟨b4, hb5, hf⟩ := e_bd hf
      obtain ⟨b7, hb8, hf⟩ := e_bd hf
      replace hf := (e_if hf).2
      replace hf := (e_if hf).2
      obtain ⟨h10, hh11, hf⟩ := e_bd hf
      have f12 := rf_oV hh11 (rf_sI f0 )
      exact ih _ _ _ _  f12 hf
theorem g_X11_again {L : eL} {h0 h : eH} {v0 : Nat} {v1 : Int32} {r : eH × Int32} (f0 : rf h0 h) (hf : f_X11_again L h v0 v1 = some r) : rf h0 r.1 := by
  unfold f_X11_again at hf
  replace hf := (e_if hf).2
  rcases e_or hf with hf | hf
  · exact rf_oW hf (rf_sI f0 )
  · obtain ⟨b1, hb2, hf⟩ := e_bd hf
    replace hf := (e_if hf).2
    rcases e_or hf with hf | hf
    · exact rf_oW hf (rf_sI f0 )
    · refine g_X11_again_L30 ?_ e_fu _ _ _ _  (rf_sI f0 ) hf
      · intro h13 w0_14 f15 hf
        replace hf := (e_if hf).2
        exact rf_oW hf (rf_sI f15 )
theorem g_X11_count {L : eL} {h0 h : eH} {v0 : Nat} {v1 : Int32} {r : eH × Int32} (f0 : rf h0 h) (hf : f_X11_count L h v0 v1 = some r) : rf h0 r.1 := by
  unfold f_X11_count at hf
  replace hf := (e_if hf).2
  rcases e_or hf with hf | hf
  · exact rf_oW hf (rf_sI f0 )
  rcases e_or hf with hf | hf
  · exact rf_oW hf (rf_sI f0 )
  rcases e_or hf with hf | hf
  · obtain ⟨r1, hr2, hf⟩ := e_bd hf
    exact rf_oW hf (rf_sI f0 )
  rcases e_or hf with hf | hf
  · obtain ⟨b3, hb4, hf⟩ := e_bd hf
    obtain ⟨r6, hr7, hf⟩ := e_bd hf
    exact rf_oW hf (rf_sI f0 )
  rcases e_or hf with hf | hf
  · obtain ⟨b8, hb9, hf⟩ := e_bd hf
    obtain ⟨r11, hr12, hf⟩ := e_bd hf
    exact rf_oW hf (rf_sI f0 )
  rcases e_or hf with hf | hf
  · exact rf_oW hf (rf_sI f0 )
  rcases e_or hf with hf | hf
  · obtain ⟨b13, hb14, hf⟩ := e_bd hf
    replace hf := (e_if hf).2
    exact rf_oW hf (rf_sI f0 )
  rcases e_or hf with hf | hf
  · exact rf_oW hf (rf_sI f0 )
  rcases e_or hf with hf | hf
  · exact rf_oW hf (rf_sI f0 )
  rcases e_or hf with hf | hf
  · exact rf_oW hf (rf_sI f0 )
  rcases e_or hf with hf | hf
  · exact rf_oW hf (rf_sI f0 )
  · exact rf_oW hf (rf_sI f0 )
theorem g_X11_row {L : eL} {h0 h : eH} {v0 : Nat} {v1 : Int32} {r : eH × Int64} (f0 : rf h0 h) (hf : f_X11_row L h v0 v1 = some r) : rf h0 r.1 := by
  unfold f_X11_row at hf
  replace hf := (e_if hf).2
  rcases e_or hf with hf | hf
  · exact rf_oL hf (rf_sI (rf_sI f0 ) )
  · obtain ⟨b1, hb2, hf⟩ := e_bd hf
    replace hf := (e_if hf).2
    exact rf_oL hf (rf_sI f0 )

def f_X10_count (L : eL) (h : eH) (v0 : Nat) (v1 : Int32) : Option Int32 :=
  if v1 = 0 then
    if isO L v0 10 = true then
    (gR h v0 15).bind fun b2 =>
    if isO L b2 2 = true then
    some (gI h b2 1)
    else none
    else none
  else if v1 = 1 then
    if isO L v0 10 = true then
    (gR h v0 15).bind fun b6 =>
    if isO L b6 2 = true then
    some (gI h b6 2)
    else none
    else none
  else if v1 = 2 then
    if isO L v0 10 = true then
    (gR h v0 15).bind fun b10 =>
    if isO L b10 2 = true then
    some (f_J13_bitCount_95d88 (gL h b10 4))
    else none
    else none
  else if v1 = 3 then
    if isO L v0 10 = true then
    (gR h v0 7).bind fun b14 =>
    if isO L b14 6 = true then
    some (f_J13_bitCount_95d88 (gL h b14 8))
    else none
    else none
  else if v1 = 4 then
    if isO L v0 10 = true then
    (gR h v0 7).bind fun b18 =>
    if isO L b18 6 = true then
    (f_X6_dustOfAll L h b18).bind fun r21 =>
    some r21
    else none
    else none
  else if v1 = 5 then
    if isO L v0 10 = true then
    (gR h v0 15).bind fun b24 =>
    if isO L b24 2 = true then
    some (gI h b24 3)
    else none
    else none
  else if v1 = 6 then
    if isO L v0 10 = true then
    (gR h v0 7).bind fun b28 =>
    if isO L b28 6 = true then
    some (gI h b28 7)
    else none
    else none
  else if v1 = 7 then
    if isO L v0 10 = true then
    (gR h v0 5).bind fun b32 =>
    if isO L b32 0 = true then
    (f_X0_size L h b32).bind fun r35 =>
    some r35
    else none
    else none
  else if v1 = 8 then
    if isO L v0 10 = true then
    (gR h v0 3).bind fun b38 =>
    if isO L b38 1 = true then
    (f_X1_size L h b38).bind fun r41 =>
    some r41
    else none
    else none
  else if v1 = 9 then
    if isO L v0 10 = true then
    (gR h v0 1).bind fun b44 =>
    if isO L b44 3 = true then
    (f_X3_size L h b44).bind fun r47 =>
    some r47
    else none
    else none
  else if v1 = 10 then
    if isO L v0 10 = true then
    (gR h v0 0).bind fun b50 =>
    if isO L b50 8 = true then
    (f_X8_size L h b50).bind fun r53 =>
    some r53
    else none
    else none
  else
    some (-100)
set_option maxRecDepth 100000 in
set_option maxHeartbeats 4000000 in
theorem m_X10_count {l : Launch} {d : Nat} {L : eL} {h : eH} {v0 : Nat} {v1 : Int32} {r : Int32} (hd : 2 ≤ d) (hf : f_X10_count L h v0 v1 = some r) : e_Met l yX10_count cX10_count 2 (some .int) d 0 0 true L h [.ref v0, .int v1] (Qx (some (.int r)) L h) := by
  refine e_metl (by decide) (Nat.le_of_ble_eq_true rfl) (lv := [(0, .ref v0), (1, .int v1)]) rfl ?_
  unfold f_X10_count at hf
  refine e_iload_n 1 dX10_count_0 rfl rfl ?_
  by_cases c0 : v1 = 0
  · replace hf := e_it c0 hf
    refine e_tabIn (t := 60) dX10_count_1 (by rw [c0]; decide) (by rw [c0]; decide) (by first | (rw [c0]; done) | (rw [c0]; rfl)) (by decide) ?_
    refine e_aload_n 0 dX10_count_60 rfl rfl ?_
    obtain ⟨hO1, hf⟩ := e_if hf
    obtain ⟨b2, hb3, hf⟩ := e_bd hf
    refine e_getR hO1 fc_10_15 lk_RX10_92 dX10_count_61 hb3 ?_
    obtain ⟨hO4, hf⟩ := e_if hf
    refine e_getIN hO4 fc_2_1 lk_RX10_443 dX10_count_64 ?_
    exact e_iret rfl dX10_count_67 (qP hf)
  replace hf := e_ie c0 hf
  by_cases c1 : v1 = 1
  · replace hf := e_it c1 hf
    refine e_tabIn (t := 68) dX10_count_1 (by rw [c1]; decide) (by rw [c1]; decide) (by first | (rw [c1]; done) | (rw [c1]; rfl)) (by decide) ?_
    refine e_aload_n 0 dX10_count_68 rfl rfl ?_
    obtain ⟨hO5, hf⟩ := e_if hf
    obtain ⟨b6, hb7, hf⟩ := e_bd hf
    refine e_getR hO5 fc_10_15 lk_RX10_92 dX10_count_69 hb7 ?_
    obtain ⟨hO8, hf⟩ := e_if hf
    refine e_getIN hO8 fc_2_2 lk_RX10_446 dX10_count_72 ?_
    exact e_iret rfl dX10_count_75 (qP hf)
  replace hf := e_ie c1 hf
  by_cases c2 : v1 = 2
  · replace hf := e_it c2 hf
    refine e_tabIn (t := 76) dX10_count_1 (by rw [c2]; decide) (by rw [c2]; decide) (by first | (rw [c2]; done) | (rw [c2]; rfl)) (by decide) ?_
    refine e_aload_n 0 dX10_count_76 rfl rfl ?_
    obtain ⟨hO9, hf⟩ := e_if hf
    obtain ⟨b10, hb11, hf⟩ := e_bd hf
    refine e_getR hO9 fc_10_15 lk_RX10_92 dX10_count_77 hb11 ?_
    obtain ⟨hO12, hf⟩ := e_if hf
    refine e_getLN hO12 fc_2_4 lk_RX10_128 dX10_count_80 ?_
    refine e_callS (st := []) ml_RX10_143 k_J13_bitCount_95d88 (m_J13_bitCount_95d88 (d := d - 1) (by omega) rfl) rfl rfl (Nat.le_of_ble_eq_true rfl) ⟨by omega, by decide⟩ ⟨Nat.le_refl _, Nat.le_refl _⟩ dX10_count_83 ?_
    exact e_iret rfl dX10_count_86 (qP hf)
  replace hf := e_ie c2 hf
  by_cases c3 : v1 = 3
  · replace hf := e_it c3 hf
    refine e_tabIn (t := 87) dX10_count_1 (by rw [c3]; decide) (by rw [c3]; decide) (by first | (rw [c3]; done) | (rw [c3]; rfl)) (by decide) ?_
    refine e_aload_n 0 dX10_count_87 rfl rfl ?_
    obtain ⟨hO13, hf⟩ := e_if hf
    obtain ⟨b14, hb15, hf⟩ := e_bd hf
    refine e_getR hO13 fc_10_7 lk_RX10_61 dX10_count_88 hb15 ?_
    obtain ⟨hO16, hf⟩ := e_if hf
    refine e_getLN hO16 fc_6_8 lk_RX10_166 dX10_count_91 ?_
    refine e_callS (st := []) ml_RX10_143 k_J13_bitCount_95d88 (m_J13_bitCount_95d88 (d := d - 1) (by omega) rfl) rfl rfl (Nat.le_of_ble_eq_true rfl) ⟨by omega, by decide⟩ ⟨Nat.le_refl _, Nat.le_refl _⟩ dX10_count_94 ?_
    exact e_iret rfl dX10_count_97 (qP hf)
  replace hf := e_ie c3 hf
  by_cases c4 : v1 = 4
  · replace hf := e_it c4 hf
    refine e_tabIn (t := 98) dX10_count_1 (by rw [c4]; decide) (by rw [c4]; decide) (by first | (rw [c4]; done) | (rw [c4]; rfl)) (by decide) ?_
    refine e_aload_n 0 dX10_count_98 rfl rfl ?_
    obtain ⟨hO17, hf⟩ := e_if hf
    obtain ⟨b18, hb19, hf⟩ := e_bd hf
    refine e_getR hO17 fc_10_7 lk_RX10_61 dX10_count_99 hb19 ?_
    obtain ⟨hO20, hf⟩ := e_if hf
    obtain ⟨r21, hr22, hf⟩ := e_bd hf
    refine e_callV (st := []) ml_RX10_227 k_X6_dustOfAll (m_X6_dustOfAll (d := d - 1) (by omega) hr22) hO20 ⟨by decide, rfl⟩ rfl rfl (Nat.le_of_ble_eq_true rfl) ⟨by omega, by decide⟩ ⟨Nat.le_refl _, Nat.le_refl _⟩ dX10_count_102 ?_
    exact e_iret rfl dX10_count_105 (qP hf)
  replace hf := e_ie c4 hf
  by_cases c5 : v1 = 5
  · replace hf := e_it c5 hf
    refine e_tabIn (t := 106) dX10_count_1 (by rw [c5]; decide) (by rw [c5]; decide) (by first | (rw [c5]; done) | (rw [c5]; rfl)) (by decide) ?_
    refine e_aload_n 0 dX10_count_106 rfl rfl ?_
    obtain ⟨hO23, hf⟩ := e_if hf
    obtain ⟨b24, hb25, hf⟩ := e_bd hf
    refine e_getR hO23 fc_10_15 lk_RX10_92 dX10_count_107 hb25 ?_
    obtain ⟨hO26, hf⟩ := e_if hf
    refine e_getIN hO26 fc_2_3 lk_RX10_180 dX10_count_110 ?_
    exact e_iret rfl dX10_count_113 (qP hf)
  replace hf := e_ie c5 hf
  by_cases c6 : v1 = 6
  · replace hf := e_it c6 hf
    refine e_tabIn (t := 114) dX10_count_1 (by rw [c6]; decide) (by rw [c6]; decide) (by first | (rw [c6]; done) | (rw [c6]; rfl)) (by decide) ?_
    refine e_aload_n 0 dX10_count_114 rfl rfl ?_
    obtain ⟨hO27, hf⟩ := e_if hf
    obtain ⟨b28, hb29, hf⟩ := e_bd hf
    refine e_getR hO27 fc_10_7 lk_RX10_61 dX10_count_115 hb29 ?_
    obtain ⟨hO30, hf⟩ := e_if hf
    refine e_getIN hO30 fc_6_7 lk_RX10_449 dX10_count_118 ?_
    exact e_iret rfl dX10_count_121 (qP hf)
  replace hf := e_ie c6 hf
  by_cases c7 : v1 = 7
  · replace hf := e_it c7 hf
    refine e_tabIn (t := 122) dX10_count_1 (by rw [c7]; decide) (by rw [c7]; decide) (by first | (rw [c7]; done) | (rw [c7]; rfl)) (by decide) ?_
    refine e_aload_n 0 dX10_count_122 rfl rfl ?_
    obtain ⟨hO31, hf⟩ := e_if hf
    obtain ⟨b32, hb33, hf⟩ := e_bd hf
    refine e_getR hO31 fc_10_5 lk_RX10_47 dX10_count_123 hb33 ?_
    obtain ⟨hO34, hf⟩ := e_if hf
    obtain ⟨r35, hr36, hf⟩ := e_bd hf
    refine e_callV (st := []) ml_RX10_359 k_X0_size (m_X0_size (d := d - 1) (by omega) hr36) hO34 ⟨by decide, rfl⟩ rfl rfl (Nat.le_of_ble_eq_true rfl) ⟨by omega, by decide⟩ ⟨Nat.le_refl _, Nat.le_refl _⟩ dX10_count_126 ?_
    exact e_iret rfl dX10_count_129 (qP hf)
  replace hf := e_ie c7 hf
  by_cases c8 : v1 = 8
  · replace hf := e_it c8 hf
    refine e_tabIn (t := 130) dX10_count_1 (by rw [c8]; decide) (by rw [c8]; decide) (by first | (rw [c8]; done) | (rw [c8]; rfl)) (by decide) ?_
    refine e_aload_n 0 dX10_count_130 rfl rfl ?_
    obtain ⟨hO37, hf⟩ := e_if hf
    obtain ⟨b38, hb39, hf⟩ := e_bd hf
    refine e_getR hO37 fc_10_3 lk_RX10_33 dX10_count_131 hb39 ?_
    obtain ⟨hO40, hf⟩ := e_if hf
    obtain ⟨r41, hr42, hf⟩ := e_bd hf
    refine e_callV (st := []) ml_RX10_277 k_X1_size (m_X1_size (d := d - 1) (by omega) hr42) hO40 ⟨by decide, rfl⟩ rfl rfl (Nat.le_of_ble_eq_true rfl) ⟨by omega, by decide⟩ ⟨Nat.le_refl _, Nat.le_refl _⟩ dX10_count_134 ?_
    exact e_iret rfl dX10_count_137 (qP hf)
  replace hf := e_ie c8 hf
  by_cases c9 : v1 = 9
  · replace hf := e_it c9 hf
    refine e_tabIn (t := 138) dX10_count_1 (by rw [c9]; decide) (by rw [c9]; decide) (by first | (rw [c9]; done) | (rw [c9]; rfl)) (by decide) ?_
    refine e_aload_n 0 dX10_count_138 rfl rfl ?_
    obtain ⟨hO43, hf⟩ := e_if hf
    obtain ⟨b44, hb45, hf⟩ := e_bd hf
    refine e_getR hO43 fc_10_1 lk_RX10_19 dX10_count_139 hb45 ?_
    obtain ⟨hO46, hf⟩ := e_if hf
    obtain ⟨r47, hr48, hf⟩ := e_bd hf
    refine e_callV (st := []) ml_RX10_452 k_X3_size (m_X3_size (d := d - 1) (by omega) hr48) hO46 ⟨by decide, rfl⟩ rfl rfl (Nat.le_of_ble_eq_true rfl) ⟨by omega, by decide⟩ ⟨Nat.le_refl _, Nat.le_refl _⟩ dX10_count_142 ?_
    exact e_iret rfl dX10_count_145 (qP hf)
  replace hf := e_ie c9 hf
  by_cases c10 : v1 = 10
  · replace hf := e_it c10 hf
    refine e_tabIn (t := 146) dX10_count_1 (by rw [c10]; decide) (by rw [c10]; decide) (by first | (rw [c10]; done) | (rw [c10]; rfl)) (by decide) ?_
    refine e_aload_n 0 dX10_count_146 rfl rfl ?_
    obtain ⟨hO49, hf⟩ := e_if hf
    obtain ⟨b50, hb51, hf⟩ := e_bd hf
    refine e_getR hO49 fc_10_0 lk_RX10_12 dX10_count_147 hb51 ?_
    obtain ⟨hO52, hf⟩ := e_if hf
    obtain ⟨r53, hr54, hf⟩ := e_bd hf
    refine e_callV (st := []) ml_RX10_117 k_X8_size (m_X8_size (d := d - 1) (by omega) hr54) hO52 ⟨by decide, rfl⟩ rfl rfl (Nat.le_of_ble_eq_true rfl) ⟨by omega, by decide⟩ ⟨Nat.le_refl _, Nat.le_refl _⟩ dX10_count_150 ?_
    exact e_iret rfl dX10_count_153 (qP hf)
  replace hf := e_ie c10 hf
  refine e_tabOut (t := 154) dX10_count_1 (e_out (fun j j1 j2 => by
      have j3 : j = 0 ∨ j = 1 ∨ j = 2 ∨ j = 3 ∨ j = 4 ∨ j = 5 ∨ j = 6 ∨ j = 7 ∨ j = 8 ∨ j = 9 ∨ j = 10 := by omega
      rcases j3 with rfl | rfl | rfl | rfl | rfl | rfl | rfl | rfl | rfl | rfl | rfl <;> assumption)) (by decide) ?_
  refine e_bipush (v := (-100)) dX10_count_154 (by decide) ?_
  exact e_iret rfl dX10_count_156 (qP hf)
def f_X3_at (L : eL) (h : eH) (v0 : Nat) (v1 : Int32) : Option Int64 :=
  if v1 < 0 then
    some 0
  else
    if isO L v0 3 = true then
    if (gI h v0 1) ≤ v1 then
      some 0
    else
      if 37 ≤ v1 then
        some 0
      else
        (gR h v0 0).bind fun b2 =>
        if inA L b2 1 v1 = true then
        some (gL h b2 v1.toNatClampNeg)
        else none
    else none
set_option maxRecDepth 100000 in
set_option maxHeartbeats 4000000 in
theorem m_X3_at {l : Launch} {d : Nat} {L : eL} {h : eH} {v0 : Nat} {v1 : Int32} {r : Int64} (hd : 1 ≤ d) (hf : f_X3_at L h v0 v1 = some r) : e_Met l yX3_at cX3_at 2 (some .long) d 0 0 true L h [.ref v0, .int v1] (Qx (some (.long r)) L h) := by
  refine e_metl (by decide) (Nat.le_of_ble_eq_true rfl) (lv := [(0, .ref v0), (1, .int v1)]) rfl ?_
  unfold f_X3_at at hf
  refine e_iload_n 1 dX3_at_0 rfl rfl ?_
  refine e_if_lt (t := 27) dX3_at_1 (by decide) (fun c => ?_) (fun c => ?_)
  · replace hf := e_it c hf
    refine e_lconst (v := 0) dX3_at_27 (by decide) ?_
    exact e_lret rfl dX3_at_28 (qPL hf)
  · replace hf := e_ie c hf
    refine e_iload_n 1 dX3_at_4 rfl rfl ?_
    refine e_aload_n 0 dX3_at_5 rfl rfl ?_
    obtain ⟨hO1, hf⟩ := e_if hf
    refine e_getI hO1 fc_3_1 lk_RX3_15 dX3_at_6 ?_
    refine e_icmp_ge (t := 27) dX3_at_9 (by decide) (fun c => ?_) (fun c => ?_)
    · replace hf := e_it c hf
      refine e_lconst (v := 0) dX3_at_27 (by decide) ?_
      exact e_lret rfl dX3_at_28 (qPL hf)
    · replace hf := e_ie c hf
      refine e_iload_n 1 dX3_at_12 rfl rfl ?_
      refine e_bipush (v := 37) dX3_at_13 (by decide) ?_
      refine e_icmp_ge (t := 27) dX3_at_15 (by decide) (fun c => ?_) (fun c => ?_)
      · replace hf := e_it c hf
        refine e_lconst (v := 0) dX3_at_27 (by decide) ?_
        exact e_lret rfl dX3_at_28 (qPL hf)
      · replace hf := e_ie c hf
        refine e_aload_n 0 dX3_at_18 rfl rfl ?_
        obtain ⟨b2, hb3, hf⟩ := e_bd hf
        refine e_getR hO1 fc_3_0 lk_RX3_11 dX3_at_19 hb3 ?_
        refine e_iload_n 1 dX3_at_22 rfl rfl ?_
        obtain ⟨hI4, hf⟩ := e_if hf
        refine e_lald hI4 dX3_at_23 ?_
        refine e_goto (t := 28) dX3_at_24 (by decide) ?_
        exact e_lret rfl dX3_at_28 (qPL hf)
def f_X11_thrown (L : eL) (h : eH) (v0 : Nat) : Option Int32 :=
  if isO L v0 11 = true then
  some (gI h v0 0)
  else none
set_option maxRecDepth 100000 in
set_option maxHeartbeats 4000000 in
theorem m_X11_thrown {l : Launch} {d : Nat} {L : eL} {h : eH} {v0 : Nat} {r : Int32} (hd : 1 ≤ d) (hf : f_X11_thrown L h v0 = some r) : e_Met l yX11_thrown cX11_thrown 1 (some .int) d 0 0 true L h [.ref v0] (Qx (some (.int r)) L h) := by
  refine e_metl (by decide) (Nat.le_of_ble_eq_true rfl) (lv := [(0, .ref v0)]) rfl ?_
  unfold f_X11_thrown at hf
  refine e_aload_n 0 dX11_thrown_0 rfl rfl ?_
  obtain ⟨hO1, hf⟩ := e_if hf
  refine e_getI hO1 fc_11_0 lk_RX11_3 dX11_thrown_1 ?_
  exact e_iret rfl dX11_thrown_4 (qP hf)
def f_X11_sign_L18 (L : eL) : Nat → (eH → Nat → Option (eH × Int32)) → eH → Nat → Int32 → Int32 → Option (eH × Int32)
  | 0, _, _, _, _, _ => none
  | n + 1, k53, h, v0, v1, v2 =>
    if 4 ≤ v2 then
      k53 h v0
    else
      if isO L v0 11 = true then
      (gR h v0 9).bind fun b3 =>
      if inA L b3 0 ((gI h v0 10) + v2) = true then
      (some (sI h b3 ((gI h v0 10) + v2).toNatClampNeg ((v1 >>> ((24 - (8 * v2)) &&& 31)) &&& 255))).bind fun h6 =>
      f_X11_sign_L18 L n k53 h6 v0 v1 (v2 + Int32.ofInt 1)
      else none
      else none
set_option maxRecDepth 100000 in
set_option maxHeartbeats 4000000 in
theorem m_X11_sign_L18 {l : Launch} {d : Nat} {L : eL}  {r : eH × Int32} {k53 : eH → Nat → Option (eH × Int32)} (hd : 1 ≤ d) (hk53 : ∀ (h : eH) (v0 : Nat), k53 h v0 = some r → E l yX11_sign cX11_sign 3 (some .int) (e_rm d 0 0) 0 0 true L (Qx (some (.int r.2)) L r.1) L h 0 0 53 [(0, .ref v0)] []) : ∀ (n : Nat) (h : eH) (v0 : Nat) (v1 : Int32) (v2 : Int32), f_X11_sign_L18 L n k53 h v0 v1 v2 = some r → E l yX11_sign cX11_sign 3 (some .int) (e_rm d 0 0) 0 0 true L (Qx (some (.int r.2)) L r.1) L h 0 0 18 [(0, .ref v0), (1, .int v1), (2, .int v2)] [] := by
  intro n
  induction n with
  | zero => intro h v0 v1 v2 hf; exact absurd hf (by simp [f_X11_sign_L18])
  | succ n ih =>
    intro h v0 v1 v2 hf
    unfold f_X11_sign_L18 at hf
    refine e_iload_n 2 dX11_sign_18 rfl rfl ?_
    refine e_iconst (v := 4) dX11_sign_19 (by decide) ?_
    refine e_icmp_ge (t := 53) dX11_sign_20 (by decide) (fun c => ?_) (fun c => ?_)
    · replace hf := e_it c hf
      refine e_sub [0] rfl ?_
      exact hk53 _ _ hf
    · replace hf := e_ie c hf
      refine e_aload_n 0 dX11_sign_23 rfl rfl ?_
      obtain ⟨hO2, hf⟩ := e_if hf
      obtain ⟨b3, hb4, hf⟩ := e_bd hf
      refine e_getR hO2 fc_11_9 lk_RX11_47 dX11_sign_24 hb4 ?_
      refine e_aload_n 0 dX11_sign_27 rfl rfl ?_
      refine e_getI hO2 fc_11_10 lk_RX11_126 dX11_sign_28 ?_
      refine e_iload_n 2 dX11_sign_31 rfl rfl ?_
      refine e_iadd dX11_sign_32 ?_
      refine e_iload_n 1 dX11_sign_33 rfl rfl ?_
      refine e_bipush (v := 24) dX11_sign_34 (by decide) ?_
      refine e_bipush (v := 8) dX11_sign_36 (by decide) ?_
      refine e_iload_n 2 dX11_sign_38 rfl rfl ?_
      refine e_imul dX11_sign_39 ?_
      refine e_isub dX11_sign_40 ?_
      refine e_ishr dX11_sign_41 ?_
      refine e_sipush (v := 255) dX11_sign_42 (by decide) ?_
      refine e_iand dX11_sign_45 ?_
      obtain ⟨hI5, hf⟩ := e_if hf
      refine e_iast hI5 dX11_sign_46 ?_
      obtain ⟨h6, hh7, hf⟩ := e_bd hf
      refine e_hn hh7 ?_
      refine e_iinc (lv' := [(2, .int _), (0, .ref _), (1, .int _)]) 2 dX11_sign_47 rfl (by decide) rfl ?_
      refine e_goto (t := 18) dX11_sign_50 (by decide) ?_
      refine e_sub [1, 2, 0] rfl ?_
      exact ih _ _ _ _ hf
def f_X11_sign (L : eL) (h : eH) (v0 : Nat) (v1 : Int32) : Option (eH × Int32) :=
  if isO L v0 11 = true then
  if (gI (sI h v0 0 0) v0 10) ≤ 76 then
    f_X11_sign_L18 L e_fu (fun (h8 : eH) (w0_9 : Nat) =>
      if isO L w0_9 11 = true then
      some (sI h8 w0_9 10 ((gI h8 w0_9 10) + 4), gI (sI h8 w0_9 10 ((gI h8 w0_9 10) + 4)) w0_9 10)
      else none) (sI h v0 0 0) v0 v1 0
  else
    some (sI h v0 0 0, (-1))
  else none
set_option maxRecDepth 100000 in
set_option maxHeartbeats 4000000 in
theorem m_X11_sign {l : Launch} {d : Nat} {L : eL} {h : eH} {v0 : Nat} {v1 : Int32} {r : eH × Int32} (hd : 1 ≤ d) (hf : f_X11_sign L h v0 v1 = some r) : e_Met l yX11_sign cX11_sign 3 (some .int) d 0 0 true L h [.ref v0, .int v1] (Qx (some (.int r.2)) L r.1) := by
  refine e_metl (by decide) (Nat.le_of_ble_eq_true rfl) (lv := [(0, .ref v0), (1, .int v1)]) rfl ?_
  unfold f_X11_sign at hf
  refine e_aload_n 0 dX11_sign_0 rfl rfl ?_
  refine e_iconst (v := 0) dX11_sign_1 (by decide) ?_
  obtain ⟨hO1, hf⟩ := e_if hf
  refine e_putI hO1 fc_11_0 rfl lk_RX11_3 dX11_sign_2 ?_
  refine e_aload_n 0 dX11_sign_5 rfl rfl ?_
  refine e_getI hO1 fc_11_10 lk_RX11_126 dX11_sign_6 ?_
  refine e_bipush (v := 76) dX11_sign_9 (by decide) ?_
  refine e_icmp_le (t := 16) dX11_sign_11 (by decide) (fun c => ?_) (fun c => ?_)
  · replace hf := e_it c hf
    refine e_iconst (v := 0) dX11_sign_16 (by decide) ?_
    refine e_istore_n (lv' := [(2, .int _), (0, .ref _), (1, .int _)]) dX11_sign_17 rfl (by decide) rfl ?_
    refine e_sub [1, 2, 0] rfl ?_
    refine m_X11_sign_L18 hd ?_ e_fu _ _ _ _ hf
    · intro h8 w0_9 hf
      refine e_aload_n 0 dX11_sign_53 rfl rfl ?_
      refine e_dupR dX11_sign_54 ?_
      obtain ⟨hO10, hf⟩ := e_if hf
      refine e_getI hO10 fc_11_10 lk_RX11_126 dX11_sign_55 ?_
      refine e_iconst (v := 4) dX11_sign_58 (by decide) ?_
      refine e_iadd dX11_sign_59 ?_
      refine e_putI hO10 fc_11_10 rfl lk_RX11_126 dX11_sign_60 ?_
      refine e_aload_n 0 dX11_sign_63 rfl rfl ?_
      refine e_getI hO10 fc_11_10 lk_RX11_126 dX11_sign_64 ?_
      exact e_iret rfl dX11_sign_67 (qW hf)
  · replace hf := e_ie c hf
    refine e_iconst (v := (-1)) dX11_sign_14 (by decide) ?_
    exact e_iret rfl dX11_sign_15 (qW hf)
def f_X11_in (v0 : Int64) (v2 : Int64) (v4 : Int64) : Int32 :=
  if (lg_cmp v0 v2) < 0 then
    0
  else
    if 0 < (lg_cmp v0 v4) then
      0
    else
      1
set_option maxRecDepth 100000 in
set_option maxHeartbeats 4000000 in
theorem m_X11_in {l : Launch} {d : Nat} {L : eL} {h : eH} {v0 : Int64} {v2 : Int64} {v4 : Int64} {r : Int32} (hd : 1 ≤ d) (hf : f_X11_in v0 v2 v4 = r) : e_Met l yX11_in cX11_in 6 (some .boolean) d 0 0 true L h [.long v0, .long v2, .long v4] (Qx (some (.int r)) L h) := by
  refine e_metl (by decide) (Nat.le_of_ble_eq_true rfl) (lv := [(0, .long v0), (2, .long v2), (4, .long v4)]) rfl ?_
  unfold f_X11_in at hf
  refine e_lload_n 0 dX11_in_0 rfl rfl ?_
  refine e_lload_n 1 dX11_in_1 rfl rfl ?_
  refine e_lcmp dX11_in_2 ?_
  refine e_if_lt (t := 17) dX11_in_3 (by decide) (fun c => ?_) (fun c => ?_)
  · replace hf := e_it c hf
    refine e_iconst (v := 0) dX11_in_17 (by decide) ?_
    exact e_zret (ty := .boolean) rfl rfl dX11_in_18 (qT hf)
  · replace hf := e_ie c hf
    refine e_lload_n 0 dX11_in_6 rfl rfl ?_
    refine e_lload 2 dX11_in_7 rfl ?_
    refine e_lcmp dX11_in_9 ?_
    refine e_if_gt (t := 17) dX11_in_10 (by decide) (fun c => ?_) (fun c => ?_)
    · replace hf := e_it c hf
      refine e_iconst (v := 0) dX11_in_17 (by decide) ?_
      exact e_zret (ty := .boolean) rfl rfl dX11_in_18 (qT hf)
    · replace hf := e_ie c hf
      refine e_iconst (v := 1) dX11_in_13 (by decide) ?_
      refine e_goto (t := 18) dX11_in_14 (by decide) ?_
      exact e_zret (ty := .boolean) rfl rfl dX11_in_18 (qT hf)
def f_X11_end (L : eL) (h : eH) (v0 : Nat) (v1 : Int32) : Option (eH × Int32) :=
  if isO L v0 11 = true then
  if (f_X11_in v1.toInt64 0 ((gI (sI h v0 0 0) v0 10).toInt64)) = 0 then
    some (sI h v0 0 0, 0)
  else
    some (sI (sI h v0 0 0) v0 10 v1, 1)
  else none
set_option maxRecDepth 100000 in
set_option maxHeartbeats 4000000 in
theorem m_X11_end {l : Launch} {d : Nat} {L : eL} {h : eH} {v0 : Nat} {v1 : Int32} {r : eH × Int32} (hd : 2 ≤ d) (hf : f_X11_end L h v0 v1 = some r) : e_Met l yX11_end cX11_end 2 (some .boolean) d 0 0 true L h [.ref v0, .int v1] (Qx (some (.int r.2)) L r.1) := by
  refine e_metl (by decide) (Nat.le_of_ble_eq_true rfl) (lv := [(0, .ref v0), (1, .int v1)]) rfl ?_
  unfold f_X11_end at hf
  refine e_aload_n 0 dX11_end_0 rfl rfl ?_
  refine e_iconst (v := 0) dX11_end_1 (by decide) ?_
  obtain ⟨hO1, hf⟩ := e_if hf
  refine e_putI hO1 fc_11_0 rfl lk_RX11_3 dX11_end_2 ?_
  refine e_iload_n 1 dX11_end_5 rfl rfl ?_
  refine e_i2l dX11_end_6 ?_
  refine e_lconst (v := 0) dX11_end_7 (by decide) ?_
  refine e_aload_n 0 dX11_end_8 rfl rfl ?_
  refine e_getI hO1 fc_11_10 lk_RX11_126 dX11_end_9 ?_
  refine e_i2l dX11_end_12 ?_
  refine e_callS (st := []) ml_RX11_118 k_X11_in (m_X11_in (d := d - 1) (by omega) rfl) rfl rfl (Nat.le_of_ble_eq_true rfl) ⟨by omega, by decide⟩ ⟨Nat.le_refl _, Nat.le_refl _⟩ dX11_end_13 ?_
  refine e_if_ne (t := 21) dX11_end_16 (by decide) (fun c => ?_) (fun c => ?_)
  · replace hf := e_ie c hf
    refine e_aload_n 0 dX11_end_21 rfl rfl ?_
    refine e_iload_n 1 dX11_end_22 rfl rfl ?_
    refine e_putI hO1 fc_11_10 rfl lk_RX11_126 dX11_end_23 ?_
    refine e_iconst (v := 1) dX11_end_26 (by decide) ?_
    exact e_zret (ty := .boolean) rfl rfl dX11_end_27 (qW hf)
  · replace hf := e_it c hf
    refine e_iconst (v := 0) dX11_end_19 (by decide) ?_
    exact e_zret (ty := .boolean) rfl rfl dX11_end_20 (qW hf)
def f_X11_begins (L : eL) (h : eH) (v0 : Nat) (v1 : Int32) : Option (eH × Int32) :=
  if isO L v0 11 = true then
  (some (sI (sI (sI (sI h v0 10 0) v0 11 0) v0 13 0) v0 12 (mnI (gI h v0 10) v1))).bind fun h2 =>
  some (h2, gI h v0 10)
  else none
set_option maxRecDepth 100000 in
set_option maxHeartbeats 4000000 in
theorem m_X11_begins {l : Launch} {d : Nat} {L : eL} {h : eH} {v0 : Nat} {v1 : Int32} {r : eH × Int32} (hd : 2 ≤ d) (hf : f_X11_begins L h v0 v1 = some r) : e_Met l yX11_begins cX11_begins 3 (some .int) d 0 0 true L h [.ref v0, .int v1] (Qx (some (.int r.2)) L r.1) := by
  refine e_metl (by decide) (Nat.le_of_ble_eq_true rfl) (lv := [(0, .ref v0), (1, .int v1)]) rfl ?_
  unfold f_X11_begins at hf
  refine e_aload_n 0 dX11_begins_0 rfl rfl ?_
  obtain ⟨hO1, hf⟩ := e_if hf
  refine e_getI hO1 fc_11_10 lk_RX11_126 dX11_begins_1 ?_
  refine e_istore_n (lv' := [(2, .int _), (0, .ref _), (1, .int _)]) dX11_begins_4 rfl (by decide) rfl ?_
  refine e_aload_n 1 dX11_begins_5 rfl rfl ?_
  refine e_iconst (v := 0) dX11_begins_6 (by decide) ?_
  refine e_putI hO1 fc_11_10 rfl lk_RX11_126 dX11_begins_7 ?_
  refine e_aload_n 1 dX11_begins_10 rfl rfl ?_
  refine e_iconst (v := 0) dX11_begins_11 (by decide) ?_
  refine e_putI hO1 fc_11_11 rfl lk_RX11_129 dX11_begins_12 ?_
  refine e_aload_n 1 dX11_begins_15 rfl rfl ?_
  refine e_iconst (v := 0) dX11_begins_16 (by decide) ?_
  refine e_putI hO1 fc_11_13 rfl lk_RX11_132 dX11_begins_17 ?_
  refine e_aload_n 1 dX11_begins_20 rfl rfl ?_
  refine e_iload_n 0 dX11_begins_21 rfl rfl ?_
  refine e_iload_n 2 dX11_begins_22 rfl rfl ?_
  refine e_mn ml_RX11_135 (by omega) (Nat.le_of_ble_eq_true rfl) ⟨Nat.le_refl _, Nat.le_refl _⟩ dX11_begins_23 ?_
  refine e_putI hO1 fc_11_12 rfl lk_RX11_141 dX11_begins_26 ?_
  obtain ⟨h2, hh3, hf⟩ := e_bd hf
  refine e_hn hh3 ?_
  refine e_iload_n 0 dX11_begins_29 rfl rfl ?_
  exact e_iret rfl dX11_begins_30 (qW hf)
def f_X11_flag (v0 : Int32) : Int32 :=
  if v0 = 0 then
    0
  else
    1
set_option maxRecDepth 100000 in
set_option maxHeartbeats 4000000 in
theorem m_X11_flag {l : Launch} {d : Nat} {L : eL} {h : eH} {v0 : Int32} {r : Int32} (hd : 1 ≤ d) (hf : f_X11_flag v0 = r) : e_Met l yX11_flag cX11_flag 1 (some .int) d 0 0 true L h [.int v0] (Qx (some (.int r)) L h) := by
  refine e_metl (by decide) (Nat.le_of_ble_eq_true rfl) (lv := [(0, .int v0)]) rfl ?_
  unfold f_X11_flag at hf
  refine e_iload_n 0 dX11_flag_0 rfl rfl ?_
  refine e_if_eq (t := 8) dX11_flag_1 (by decide) (fun c => ?_) (fun c => ?_)
  · replace hf := e_it c hf
    refine e_iconst (v := 0) dX11_flag_8 (by decide) ?_
    exact e_iret rfl dX11_flag_9 (qT hf)
  · replace hf := e_ie c hf
    refine e_iconst (v := 1) dX11_flag_4 (by decide) ?_
    refine e_goto (t := 9) dX11_flag_5 (by decide) ?_
    exact e_iret rfl dX11_flag_9 (qT hf)
def f_X11_takes_J29 (L : eL) (h : eH) (v0 : Nat) (s0 : Int32) : Option (eH × Int32) :=
  if isO L v0 11 = true then
  if isB s0 = true then
  some (sI h v0 11 ((gI h v0 11) + (f_X11_flag s0)), s0)
  else none
  else none
set_option maxRecDepth 100000 in
set_option maxHeartbeats 4000000 in
theorem m_X11_takes_J29 {l : Launch} {d : Nat} {L : eL}  {r : eH × Int32} (hd : 2 ≤ d)  : ∀ (h : eH) (v0 : Nat) (s0 : Int32), f_X11_takes_J29 L h v0 s0 = some r → E l yX11_takes cX11_takes 3 (some .boolean) (e_rm d 0 0) 0 0 true L (Qx (some (.int r.2)) L r.1) L h 0 0 29 [(0, .ref v0)] [.int s0] := by
  intro h v0 s0 hf
  unfold f_X11_takes_J29 at hf
  refine e_istore_n (lv' := [(2, .int _), (0, .ref _)]) dX11_takes_29 rfl (by decide) rfl ?_
  refine e_aload_n 1 dX11_takes_30 rfl rfl ?_
  refine e_dupR dX11_takes_31 ?_
  obtain ⟨hO2, hf⟩ := e_if hf
  refine e_getI hO2 fc_11_11 lk_RX11_129 dX11_takes_32 ?_
  refine e_iload_n 0 dX11_takes_35 rfl rfl ?_
  refine e_callS (st := [.int _, .ref _]) ml_RX11_122 k_X11_flag (m_X11_flag (d := d - 1) (by omega) rfl) rfl rfl (Nat.le_of_ble_eq_true rfl) ⟨by omega, by decide⟩ ⟨Nat.le_refl _, Nat.le_refl _⟩ dX11_takes_36 ?_
  refine e_iadd dX11_takes_39 ?_
  refine e_putI hO2 fc_11_11 rfl lk_RX11_129 dX11_takes_40 ?_
  refine e_iload_n 0 dX11_takes_43 rfl rfl ?_
  obtain ⟨hB3, hf⟩ := e_if hf
  exact e_zret (ty := .boolean) rfl (isB_n hB3) dX11_takes_44 (qW hf)
def f_X11_takes (L : eL) (h : eH) (v0 : Nat) (v1 : Int32) : Option (eH × Int32) :=
  if isO L v0 11 = true then
  if (gI h v0 12) ≤ (gI h v0 11) then
    f_X11_takes_J29 L h v0 0
  else
    (gR h v0 9).bind fun b4 =>
    if inA L b4 0 (gI h v0 11) = true then
    if (gI h b4 (gI h v0 11).toNatClampNeg) = v1 then
      f_X11_takes_J29 L h v0 1
    else
      f_X11_takes_J29 L h v0 0
    else none
  else none
set_option maxRecDepth 100000 in
set_option maxHeartbeats 4000000 in
theorem m_X11_takes {l : Launch} {d : Nat} {L : eL} {h : eH} {v0 : Nat} {v1 : Int32} {r : eH × Int32} (hd : 2 ≤ d) (hf : f_X11_takes L h v0 v1 = some r) : e_Met l yX11_takes cX11_takes 3 (some .boolean) d 0 0 true L h [.ref v0, .int v1] (Qx (some (.int r.2)) L r.1) := by
  refine e_metl (by decide) (Nat.le_of_ble_eq_true rfl) (lv := [(0, .ref v0), (1, .int v1)]) rfl ?_
  unfold f_X11_takes at hf
  refine e_aload_n 0 dX11_takes_0 rfl rfl ?_
  obtain ⟨hO1, hf⟩ := e_if hf
  refine e_getI hO1 fc_11_11 lk_RX11_129 dX11_takes_1 ?_
  refine e_aload_n 0 dX11_takes_4 rfl rfl ?_
  refine e_getI hO1 fc_11_12 lk_RX11_141 dX11_takes_5 ?_
  refine e_icmp_ge (t := 28) dX11_takes_8 (by decide) (fun c => ?_) (fun c => ?_)
  · replace hf := e_it c hf
    refine e_iconst (v := 0) dX11_takes_28 (by decide) ?_
    refine e_sub [0] rfl ?_
    exact m_X11_takes_J29 hd _ _ _ hf
  · replace hf := e_ie c hf
    refine e_aload_n 0 dX11_takes_11 rfl rfl ?_
    obtain ⟨b4, hb5, hf⟩ := e_bd hf
    refine e_getR hO1 fc_11_9 lk_RX11_47 dX11_takes_12 hb5 ?_
    refine e_aload_n 0 dX11_takes_15 rfl rfl ?_
    refine e_getI hO1 fc_11_11 lk_RX11_129 dX11_takes_16 ?_
    obtain ⟨hI6, hf⟩ := e_if hf
    refine e_iald hI6 dX11_takes_19 ?_
    refine e_iload_n 1 dX11_takes_20 rfl rfl ?_
    refine e_icmp_ne (t := 28) dX11_takes_21 (by decide) (fun c => ?_) (fun c => ?_)
    · replace hf := e_ie c hf
      refine e_iconst (v := 0) dX11_takes_28 (by decide) ?_
      refine e_sub [0] rfl ?_
      exact m_X11_takes_J29 hd _ _ _ hf
    · replace hf := e_it c hf
      refine e_iconst (v := 1) dX11_takes_24 (by decide) ?_
      refine e_goto (t := 29) dX11_takes_25 (by decide) ?_
      refine e_sub [0] rfl ?_
      exact m_X11_takes_J29 hd _ _ _ hf
def f_J2_length_9d52b (L : eL) (h : eH) (v0 : Nat) : Option Int32 :=
  if isArr L v0 = true then
  some ((alen L v0) >>> (1 &&& 31))
  else none
set_option maxRecDepth 100000 in
set_option maxHeartbeats 4000000 in
theorem m_J2_length_9d52b {l : Launch} {d : Nat} {L : eL} {h : eH} {v0 : Nat} {r : Int32} (hd : 1 ≤ d) (hf : f_J2_length_9d52b L h v0 = some r) : e_Met l yJ2_length_9d52b cJ2_length_9d52b 1 (some .int) d 0 0 true L h [.ref v0] (Qx (some (.int r)) L h) := by
  refine e_metl (by decide) (Nat.le_of_ble_eq_true rfl) (lv := [(0, .ref v0)]) rfl ?_
  unfold f_J2_length_9d52b at hf
  refine e_aload_n 0 dJ2_length_9d52b_0 rfl rfl ?_
  obtain ⟨hA1, hf⟩ := e_if hf
  refine e_len hA1 dJ2_length_9d52b_1 ?_
  refine e_iconst (v := 1) dJ2_length_9d52b_2 (by decide) ?_
  refine e_ishr dJ2_length_9d52b_3 ?_
  exact e_iret rfl dJ2_length_9d52b_4 (qP hf)
def f_X11_codes (L : eL) (h : eH) (v0 : Nat) (v1 : Int32) : Option eH :=
  if isO L v0 11 = true then
  (gR h v0 18).bind fun b2 =>
  if inA L b2 0 (gI h v0 20) = true then
  (some (sI (sI h b2 (gI h v0 20).toNatClampNeg v1) v0 20 ((gI (sI h b2 (gI h v0 20).toNatClampNeg v1) v0 20) + 1))).bind fun h5 =>
  some h5
  else none
  else none
set_option maxRecDepth 100000 in
set_option maxHeartbeats 4000000 in
theorem m_X11_codes {l : Launch} {d : Nat} {L : eL} {h : eH} {v0 : Nat} {v1 : Int32} {r : eH} (hd : 1 ≤ d) (hf : f_X11_codes L h v0 v1 = some r) : e_Met l yX11_codes cX11_codes 2 none d 0 0 true L h [.ref v0, .int v1] (Qx none L r) := by
  refine e_metl (by decide) (Nat.le_of_ble_eq_true rfl) (lv := [(0, .ref v0), (1, .int v1)]) rfl ?_
  unfold f_X11_codes at hf
  refine e_aload_n 0 dX11_codes_0 rfl rfl ?_
  obtain ⟨hO1, hf⟩ := e_if hf
  obtain ⟨b2, hb3, hf⟩ := e_bd hf
  refine e_getR hO1 fc_11_18 lk_RX11_56 dX11_codes_1 hb3 ?_
  refine e_aload_n 0 dX11_codes_4 rfl rfl ?_
  refine e_getI hO1 fc_11_20 lk_RX11_192 dX11_codes_5 ?_
  refine e_iload_n 1 dX11_codes_8 rfl rfl ?_
  obtain ⟨hI4, hf⟩ := e_if hf
  refine e_iast hI4 dX11_codes_9 ?_
  refine e_aload_n 0 dX11_codes_10 rfl rfl ?_
  refine e_dupR dX11_codes_11 ?_
  refine e_getI hO1 fc_11_20 lk_RX11_192 dX11_codes_12 ?_
  refine e_iconst (v := 1) dX11_codes_15 (by decide) ?_
  refine e_iadd dX11_codes_16 ?_
  refine e_putI hO1 fc_11_20 rfl lk_RX11_192 dX11_codes_17 ?_
  obtain ⟨h5, hh6, hf⟩ := e_bd hf
  refine e_hn hh6 ?_
  exact e_vret rfl dX11_codes_20 (qV hf)
def f_X11_isDigit (L : eL) (h : eH) (v0 : Nat) : Option Int32 :=
  if isO L v0 11 = true then
  if (gI h v0 12) ≤ (gI h v0 11) then
    some 0
  else
    (gR h v0 9).bind fun b2 =>
    if inA L b2 0 (gI h v0 11) = true then
    if (f_X11_in ((gI h b2 (gI h v0 11).toNatClampNeg).toInt64) 48 57) = 0 then
      some 0
    else
      some 1
    else none
  else none
set_option maxRecDepth 100000 in
set_option maxHeartbeats 4000000 in
theorem m_X11_isDigit {l : Launch} {d : Nat} {L : eL} {h : eH} {v0 : Nat} {r : Int32} (hd : 2 ≤ d) (hf : f_X11_isDigit L h v0 = some r) : e_Met l yX11_isDigit cX11_isDigit 1 (some .boolean) d 0 0 true L h [.ref v0] (Qx (some (.int r)) L h) := by
  refine e_metl (by decide) (Nat.le_of_ble_eq_true rfl) (lv := [(0, .ref v0)]) rfl ?_
  unfold f_X11_isDigit at hf
  refine e_aload_n 0 dX11_isDigit_0 rfl rfl ?_
  obtain ⟨hO1, hf⟩ := e_if hf
  refine e_getI hO1 fc_11_11 lk_RX11_129 dX11_isDigit_1 ?_
  refine e_aload_n 0 dX11_isDigit_4 rfl rfl ?_
  refine e_getI hO1 fc_11_12 lk_RX11_141 dX11_isDigit_5 ?_
  refine e_icmp_ge (t := 37) dX11_isDigit_8 (by decide) (fun c => ?_) (fun c => ?_)
  · replace hf := e_it c hf
    refine e_iconst (v := 0) dX11_isDigit_37 (by decide) ?_
    exact e_zret (ty := .boolean) rfl rfl dX11_isDigit_38 (qP hf)
  · replace hf := e_ie c hf
    refine e_aload_n 0 dX11_isDigit_11 rfl rfl ?_
    obtain ⟨b2, hb3, hf⟩ := e_bd hf
    refine e_getR hO1 fc_11_9 lk_RX11_47 dX11_isDigit_12 hb3 ?_
    refine e_aload_n 0 dX11_isDigit_15 rfl rfl ?_
    refine e_getI hO1 fc_11_11 lk_RX11_129 dX11_isDigit_16 ?_
    obtain ⟨hI4, hf⟩ := e_if hf
    refine e_iald hI4 dX11_isDigit_19 ?_
    refine e_i2l dX11_isDigit_20 ?_
    refine e_ldc2 kc_RX11_144 dX11_isDigit_21 ?_
    refine e_ldc2 kc_RX11_146 dX11_isDigit_24 ?_
    refine e_callS (st := []) ml_RX11_118 k_X11_in (m_X11_in (d := d - 1) (by omega) rfl) rfl rfl (Nat.le_of_ble_eq_true rfl) ⟨by omega, by decide⟩ ⟨Nat.le_refl _, Nat.le_refl _⟩ dX11_isDigit_27 ?_
    refine e_if_eq (t := 37) dX11_isDigit_30 (by decide) (fun c => ?_) (fun c => ?_)
    · replace hf := e_it c hf
      refine e_iconst (v := 0) dX11_isDigit_37 (by decide) ?_
      exact e_zret (ty := .boolean) rfl rfl dX11_isDigit_38 (qP hf)
    · replace hf := e_ie c hf
      refine e_iconst (v := 1) dX11_isDigit_33 (by decide) ?_
      refine e_goto (t := 38) dX11_isDigit_34 (by decide) ?_
      exact e_zret (ty := .boolean) rfl rfl dX11_isDigit_38 (qP hf)
def f_X11_number_L13 (L : eL) : Nat → (eH → Int32 → Option (eH × Int32)) → eH → Nat → Int32 → Int32 → Int32 → Option (eH × Int32)
  | 0, _, _, _, _, _, _ => none
  | n + 1, k59, h, v0, v1, v2, v3 =>
    if v1 ≤ v3 then
      k59 h v2
    else
      if isO L v0 11 = true then
      (f_X11_isDigit L h v0).bind fun r5 =>
      if r5 = 0 then
        k59 h v2
      else
        (gR h v0 9).bind fun b7 =>
        if inA L b7 0 (gI h v0 11) = true then
        f_X11_number_L13 L n k59 (sI h v0 11 ((gI h v0 11) + 1)) v0 v1 (((10 * v2) + (gI h b7 (gI h v0 11).toNatClampNeg)) - 48) (v3 + Int32.ofInt 1)
        else none
      else none
set_option maxRecDepth 100000 in
set_option maxHeartbeats 4000000 in
theorem m_X11_number_L13 {l : Launch} {d : Nat} {L : eL}  {r : eH × Int32} {k59 : eH → Int32 → Option (eH × Int32)} (hd : 3 ≤ d) (hk59 : ∀ (h : eH) (v2 : Int32), k59 h v2 = some r → E l yX11_number cX11_number 4 (some .int) (e_rm d 0 0) 0 0 true L (Qx (some (.int r.2)) L r.1) L h 0 0 59 [(2, .int v2)] []) : ∀ (n : Nat) (h : eH) (v0 : Nat) (v1 : Int32) (v2 : Int32) (v3 : Int32), f_X11_number_L13 L n k59 h v0 v1 v2 v3 = some r → E l yX11_number cX11_number 4 (some .int) (e_rm d 0 0) 0 0 true L (Qx (some (.int r.2)) L r.1) L h 0 0 13 [(0, .ref v0), (1, .int v1), (2, .int v2), (3, .int v3)] [] := by
  intro n
  induction n with
  | zero => intro h v0 v1 v2 v3 hf; exact absurd hf (by simp [f_X11_number_L13])
  | succ n ih =>
    intro h v0 v1 v2 v3 hf
    unfold f_X11_number_L13 at hf
    refine e_iload_n 3 dX11_number_13 rfl rfl ?_
    refine e_iload_n 1 dX11_number_14 rfl rfl ?_
    refine e_icmp_ge (t := 59) dX11_number_15 (by decide) (fun c => ?_) (fun c => ?_)
    · replace hf := e_it c hf
      refine e_sub [2] rfl ?_
      exact hk59 _ _ hf
    · replace hf := e_ie c hf
      refine e_aload_n 0 dX11_number_18 rfl rfl ?_
      obtain ⟨hO4, hf⟩ := e_if hf
      obtain ⟨r5, hr6, hf⟩ := e_bd hf
      refine e_callV (st := []) ml_RX11_161 k_X11_isDigit (m_X11_isDigit (d := d - 1) (by omega) hr6) hO4 ⟨by decide, rfl⟩ rfl rfl (Nat.le_of_ble_eq_true rfl) ⟨by omega, by decide⟩ ⟨Nat.le_refl _, Nat.le_refl _⟩ dX11_number_19 ?_
      refine e_if_eq (t := 59) dX11_number_22 (by decide) (fun c => ?_) (fun c => ?_)
      · replace hf := e_it c hf
        refine e_sub [2] rfl ?_
        exact hk59 _ _ hf
      · replace hf := e_ie c hf
        refine e_bipush (v := 10) dX11_number_25 (by decide) ?_
        refine e_iload_n 2 dX11_number_27 rfl rfl ?_
        refine e_imul dX11_number_28 ?_
        refine e_aload_n 0 dX11_number_29 rfl rfl ?_
        obtain ⟨b7, hb8, hf⟩ := e_bd hf
        refine e_getR hO4 fc_11_9 lk_RX11_47 dX11_number_30 hb8 ?_
        refine e_aload_n 0 dX11_number_33 rfl rfl ?_
        refine e_getI hO4 fc_11_11 lk_RX11_129 dX11_number_34 ?_
        obtain ⟨hI9, hf⟩ := e_if hf
        refine e_iald hI9 dX11_number_37 ?_
        refine e_iadd dX11_number_38 ?_
        refine e_bipush (v := 48) dX11_number_39 (by decide) ?_
        refine e_isub dX11_number_41 ?_
        refine e_istore_n (lv' := [(2, .int _), (0, .ref _), (1, .int _), (3, .int _)]) dX11_number_42 rfl (by decide) rfl ?_
        refine e_aload_n 1 dX11_number_43 rfl rfl ?_
        refine e_dupR dX11_number_44 ?_
        refine e_getI hO4 fc_11_11 lk_RX11_129 dX11_number_45 ?_
        refine e_iconst (v := 1) dX11_number_48 (by decide) ?_
        refine e_iadd dX11_number_49 ?_
        refine e_putI hO4 fc_11_11 rfl lk_RX11_129 dX11_number_50 ?_
        refine e_iinc (lv' := [(3, .int _), (2, .int _), (0, .ref _), (1, .int _)]) 3 dX11_number_53 rfl (by decide) rfl ?_
        refine e_goto (t := 13) dX11_number_56 (by decide) ?_
        refine e_sub [2, 3, 1, 0] rfl ?_
        exact ih _ _ _ _ _ hf
def f_X11_number (L : eL) (h : eH) (v0 : Nat) (v1 : Int32) : Option (eH × Int32) :=
  if isO L v0 11 = true then
  (f_X11_isDigit L h v0).bind fun r2 =>
  if r2 = 0 then
    some (h, (-1))
  else
    f_X11_number_L13 L e_fu (fun (h10 : eH) (w2_11 : Int32) =>
      some (h10, w2_11)) h v0 v1 0 0
  else none
set_option maxRecDepth 100000 in
set_option maxHeartbeats 4000000 in
theorem m_X11_number {l : Launch} {d : Nat} {L : eL} {h : eH} {v0 : Nat} {v1 : Int32} {r : eH × Int32} (hd : 3 ≤ d) (hf : f_X11_number L h v0 v1 = some r) : e_Met l yX11_number cX11_number 4 (some .int) d 0 0 true L h [.ref v0, .int v1] (Qx (some (.int r.2)) L r.1) := by
  refine e_metl (by decide) (Nat.le_of_ble_eq_true rfl) (lv := [(0, .ref v0), (1, .int v1)]) rfl ?_
  unfold f_X11_number at hf
  refine e_aload_n 0 dX11_number_0 rfl rfl ?_
  obtain ⟨hO1, hf⟩ := e_if hf
  obtain ⟨r2, hr3, hf⟩ := e_bd hf
  refine e_callV (st := []) ml_RX11_161 k_X11_isDigit (m_X11_isDigit (d := d - 1) (by omega) hr3) hO1 ⟨by decide, rfl⟩ rfl rfl (Nat.le_of_ble_eq_true rfl) ⟨by omega, by decide⟩ ⟨Nat.le_refl _, Nat.le_refl _⟩ dX11_number_1 ?_
  refine e_if_ne (t := 9) dX11_number_4 (by decide) (fun c => ?_) (fun c => ?_)
  · replace hf := e_ie c hf
    refine e_iconst (v := 0) dX11_number_9 (by decide) ?_
    refine e_istore_n (lv' := [(2, .int _), (0, .ref _), (1, .int _)]) dX11_number_10 rfl (by decide) rfl ?_
    refine e_iconst (v := 0) dX11_number_11 (by decide) ?_
    refine e_istore_n (lv' := [(3, .int _), (2, .int _), (0, .ref _), (1, .int _)]) dX11_number_12 rfl (by decide) rfl ?_
    refine e_sub [2, 3, 1, 0] rfl ?_
    refine m_X11_number_L13 hd ?_ e_fu _ _ _ _ _ hf
    · intro h10 w2_11 hf
      refine e_iload_n 0 dX11_number_59 rfl rfl ?_
      exact e_iret rfl dX11_number_60 (qW hf)
  · replace hf := e_it c hf
    refine e_iconst (v := (-1)) dX11_number_7 (by decide) ?_
    exact e_iret rfl dX11_number_8 (qW hf)
def f_X11_faultOf_J44 (L : eL) (h : eH) (v0 : Nat) (v4 : Int32) : Option Int32 :=
  if v4 = 0 then
    if isO L v0 11 = true then
    some ((-1) - (gI h v0 11))
    else none
  else
    some 0
set_option maxRecDepth 100000 in
set_option maxHeartbeats 4000000 in
theorem m_X11_faultOf_J44 {l : Launch} {d : Nat} {L : eL} {h : eH} {r : Int32} (hd : 1 ≤ d)  : ∀ (v0 : Nat) (v4 : Int32), f_X11_faultOf_J44 L h v0 v4 = some r → E l yX11_faultOf cX11_faultOf 5 (some .int) (e_rm d 0 0) 0 0 true L (Qx (some (.int r)) L h) L h 0 0 44 [(0, .ref v0), (4, .int v4)] [] := by
  intro v0 v4 hf
  unfold f_X11_faultOf_J44 at hf
  refine e_iload 1 dX11_faultOf_44 rfl ?_
  refine e_if_eq (t := 53) dX11_faultOf_46 (by decide) (fun c => ?_) (fun c => ?_)
  · replace hf := e_it c hf
    refine e_iconst (v := (-1)) dX11_faultOf_53 (by decide) ?_
    refine e_aload_n 0 dX11_faultOf_54 rfl rfl ?_
    obtain ⟨hO1, hf⟩ := e_if hf
    refine e_getI hO1 fc_11_11 lk_RX11_129 dX11_faultOf_55 ?_
    refine e_isub dX11_faultOf_58 ?_
    exact e_iret rfl dX11_faultOf_59 (qP hf)
  · replace hf := e_ie c hf
    refine e_iconst (v := 0) dX11_faultOf_49 (by decide) ?_
    refine e_goto (t := 59) dX11_faultOf_50 (by decide) ?_
    exact e_iret rfl dX11_faultOf_59 (qP hf)
def f_X11_faultOf_J20 (L : eL) (h : eH) (v0 : Nat) (v1 : Int32) (v2 : Int32) (s0 : Int32) : Option Int32 :=
  if v1 ≤ v2 then
    f_X11_faultOf_J44 L h v0 s0
  else
    if s0 = 0 then
      if isO L v0 11 = true then
      if (gI h v0 11) < v2 then
        f_X11_faultOf_J44 L h v0 s0
      else
        some ((-1) - v2)
      else none
    else
      some ((-1) - v2)
set_option maxRecDepth 100000 in
set_option maxHeartbeats 4000000 in
theorem m_X11_faultOf_J20 {l : Launch} {d : Nat} {L : eL} {h : eH} {r : Int32} (hd : 1 ≤ d)  : ∀ (v0 : Nat) (v1 : Int32) (v2 : Int32) (s0 : Int32), f_X11_faultOf_J20 L h v0 v1 v2 s0 = some r → E l yX11_faultOf cX11_faultOf 5 (some .int) (e_rm d 0 0) 0 0 true L (Qx (some (.int r)) L h) L h 0 0 20 [(0, .ref v0), (1, .int v1), (2, .int v2)] [.int s0] := by
  intro v0 v1 v2 s0 hf
  unfold f_X11_faultOf_J20 at hf
  refine e_istore (lv' := [(4, .int _), (0, .ref _), (1, .int _), (2, .int _)]) dX11_faultOf_20 (by decide) rfl ?_
  refine e_iload_n 2 dX11_faultOf_22 rfl rfl ?_
  refine e_iload_n 3 dX11_faultOf_23 rfl rfl ?_
  refine e_icmp_le (t := 44) dX11_faultOf_24 (by decide) (fun c => ?_) (fun c => ?_)
  · replace hf := e_it c hf
    refine e_sub [1, 0] rfl ?_
    exact m_X11_faultOf_J44 hd _ _ hf
  · replace hf := e_ie c hf
    refine e_iload 0 dX11_faultOf_27 rfl ?_
    refine e_if_ne (t := 40) dX11_faultOf_29 (by decide) (fun c => ?_) (fun c => ?_)
    · replace hf := e_ie c hf
      refine e_iconst (v := (-1)) dX11_faultOf_40 (by decide) ?_
      refine e_iload_n 3 dX11_faultOf_41 rfl rfl ?_
      refine e_isub dX11_faultOf_42 ?_
      exact e_iret rfl dX11_faultOf_43 (qP hf)
    · replace hf := e_it c hf
      refine e_aload_n 1 dX11_faultOf_32 rfl rfl ?_
      obtain ⟨hO2, hf⟩ := e_if hf
      refine e_getI hO2 fc_11_11 lk_RX11_129 dX11_faultOf_33 ?_
      refine e_iload_n 3 dX11_faultOf_36 rfl rfl ?_
      refine e_icmp_lt (t := 44) dX11_faultOf_37 (by decide) (fun c => ?_) (fun c => ?_)
      · replace hf := e_it c hf
        refine e_sub [1, 0] rfl ?_
        exact m_X11_faultOf_J44 hd _ _ hf
      · replace hf := e_ie c hf
        refine e_iconst (v := (-1)) dX11_faultOf_40 (by decide) ?_
        refine e_iload_n 3 dX11_faultOf_41 rfl rfl ?_
        refine e_isub dX11_faultOf_42 ?_
        exact e_iret rfl dX11_faultOf_43 (qP hf)
def f_X11_faultOf (L : eL) (h : eH) (v0 : Nat) (v1 : Int32) (v2 : Int32) (v3 : Int32) : Option Int32 :=
  if v3 = 0 then
    f_X11_faultOf_J20 L h v0 v1 v2 0
  else
    if isO L v0 11 = true then
    if (gI h v0 11) = (gI h v0 12) then
      f_X11_faultOf_J20 L h v0 v1 v2 1
    else
      f_X11_faultOf_J20 L h v0 v1 v2 0
    else none
set_option maxRecDepth 100000 in
set_option maxHeartbeats 4000000 in
theorem m_X11_faultOf {l : Launch} {d : Nat} {L : eL} {h : eH} {v0 : Nat} {v1 : Int32} {v2 : Int32} {v3 : Int32} {r : Int32} (hd : 1 ≤ d) (hf : f_X11_faultOf L h v0 v1 v2 v3 = some r) : e_Met l yX11_faultOf cX11_faultOf 5 (some .int) d 0 0 true L h [.ref v0, .int v1, .int v2, .int v3] (Qx (some (.int r)) L h) := by
  refine e_metl (by decide) (Nat.le_of_ble_eq_true rfl) (lv := [(0, .ref v0), (1, .int v1), (2, .int v2), (3, .int v3)]) rfl ?_
  unfold f_X11_faultOf at hf
  refine e_iload_n 3 dX11_faultOf_0 rfl rfl ?_
  refine e_if_eq (t := 19) dX11_faultOf_1 (by decide) (fun c => ?_) (fun c => ?_)
  · replace hf := e_it c hf
    refine e_iconst (v := 0) dX11_faultOf_19 (by decide) ?_
    refine e_sub [0, 1, 2] rfl ?_
    exact m_X11_faultOf_J20 hd _ _ _ _ hf
  · replace hf := e_ie c hf
    refine e_aload_n 0 dX11_faultOf_4 rfl rfl ?_
    obtain ⟨hO3, hf⟩ := e_if hf
    refine e_getI hO3 fc_11_11 lk_RX11_129 dX11_faultOf_5 ?_
    refine e_aload_n 0 dX11_faultOf_8 rfl rfl ?_
    refine e_getI hO3 fc_11_12 lk_RX11_141 dX11_faultOf_9 ?_
    refine e_icmp_ne (t := 19) dX11_faultOf_12 (by decide) (fun c => ?_) (fun c => ?_)
    · replace hf := e_ie c hf
      refine e_iconst (v := 0) dX11_faultOf_19 (by decide) ?_
      refine e_sub [0, 1, 2] rfl ?_
      exact m_X11_faultOf_J20 hd _ _ _ _ hf
    · replace hf := e_it c hf
      refine e_iconst (v := 1) dX11_faultOf_15 (by decide) ?_
      refine e_goto (t := 20) dX11_faultOf_16 (by decide) ?_
      refine e_sub [0, 1, 2] rfl ?_
      exact m_X11_faultOf_J20 hd _ _ _ _ hf
def f_X11_spots (L : eL) (h : eH) (v0 : Nat) : Option Int32 :=
  if isO L v0 11 = true then
  some ((gI h v0 3) * (gI h v0 4))
  else none
set_option maxRecDepth 100000 in
set_option maxHeartbeats 4000000 in
theorem m_X11_spots {l : Launch} {d : Nat} {L : eL} {h : eH} {v0 : Nat} {r : Int32} (hd : 1 ≤ d) (hf : f_X11_spots L h v0 = some r) : e_Met l yX11_spots cX11_spots 1 (some .int) d 0 0 true L h [.ref v0] (Qx (some (.int r)) L h) := by
  refine e_metl (by decide) (Nat.le_of_ble_eq_true rfl) (lv := [(0, .ref v0)]) rfl ?_
  unfold f_X11_spots at hf
  refine e_aload_n 0 dX11_spots_0 rfl rfl ?_
  obtain ⟨hO1, hf⟩ := e_if hf
  refine e_getI hO1 fc_11_3 lk_RX11_28 dX11_spots_1 ?_
  refine e_aload_n 0 dX11_spots_4 rfl rfl ?_
  refine e_getI hO1 fc_11_4 lk_RX11_31 dX11_spots_5 ?_
  refine e_imul dX11_spots_8 ?_
  exact e_iret rfl dX11_spots_9 (qP hf)
def f_X11_isSpot (L : eL) (h : eH) (v0 : Nat) (v1 : Int32) : Option Int32 :=
  if isO L v0 11 = true then
  (f_X11_spots L h v0).bind fun r2 =>
  if isB (f_X11_in v1.toInt64 0 ((r2 - 1).toInt64)) = true then
  some (f_X11_in v1.toInt64 0 ((r2 - 1).toInt64))
  else none
  else none
set_option maxRecDepth 100000 in
set_option maxHeartbeats 4000000 in
theorem m_X11_isSpot {l : Launch} {d : Nat} {L : eL} {h : eH} {v0 : Nat} {v1 : Int32} {r : Int32} (hd : 2 ≤ d) (hf : f_X11_isSpot L h v0 v1 = some r) : e_Met l yX11_isSpot cX11_isSpot 2 (some .boolean) d 0 0 true L h [.ref v0, .int v1] (Qx (some (.int r)) L h) := by
  refine e_metl (by decide) (Nat.le_of_ble_eq_true rfl) (lv := [(0, .ref v0), (1, .int v1)]) rfl ?_
  unfold f_X11_isSpot at hf
  refine e_iload_n 1 dX11_isSpot_0 rfl rfl ?_
  refine e_i2l dX11_isSpot_1 ?_
  refine e_lconst (v := 0) dX11_isSpot_2 (by decide) ?_
  refine e_aload_n 0 dX11_isSpot_3 rfl rfl ?_
  obtain ⟨hO1, hf⟩ := e_if hf
  obtain ⟨r2, hr3, hf⟩ := e_bd hf
  refine e_callV (st := [.long _, .long _]) ml_RX11_114 k_X11_spots (m_X11_spots (d := d - 1) (by omega) hr3) hO1 ⟨by decide, rfl⟩ rfl rfl (Nat.le_of_ble_eq_true rfl) ⟨by omega, by decide⟩ ⟨Nat.le_refl _, Nat.le_refl _⟩ dX11_isSpot_4 ?_
  refine e_iconst (v := 1) dX11_isSpot_7 (by decide) ?_
  refine e_isub dX11_isSpot_8 ?_
  refine e_i2l dX11_isSpot_9 ?_
  refine e_callS (st := []) ml_RX11_118 k_X11_in (m_X11_in (d := d - 1) (by omega) rfl) rfl rfl (Nat.le_of_ble_eq_true rfl) ⟨by omega, by decide⟩ ⟨Nat.le_refl _, Nat.le_refl _⟩ dX11_isSpot_10 ?_
  obtain ⟨hB4, hf⟩ := e_if hf
  exact e_zret (ty := .boolean) rfl (isB_n hB4) dX11_isSpot_13 (qP hf)
def f_X11_refuse (L : eL) (h : eH) (v0 : Nat) : Option (eH × Int32) :=
  if isO L v0 11 = true then
  some (sI h v0 0 1, 0)
  else none
set_option maxRecDepth 100000 in
set_option maxHeartbeats 4000000 in
theorem m_X11_refuse {l : Launch} {d : Nat} {L : eL} {h : eH} {v0 : Nat} {r : eH × Int32} (hd : 1 ≤ d) (hf : f_X11_refuse L h v0 = some r) : e_Met l yX11_refuse cX11_refuse 1 (some .int) d 0 0 true L h [.ref v0] (Qx (some (.int r.2)) L r.1) := by
  refine e_metl (by decide) (Nat.le_of_ble_eq_true rfl) (lv := [(0, .ref v0)]) rfl ?_
  unfold f_X11_refuse at hf
  refine e_aload_n 0 dX11_refuse_0 rfl rfl ?_
  refine e_iconst (v := 1) dX11_refuse_1 (by decide) ?_
  obtain ⟨hO1, hf⟩ := e_if hf
  refine e_putI hO1 fc_11_0 rfl lk_RX11_3 dX11_refuse_2 ?_
  refine e_iconst (v := 0) dX11_refuse_5 (by decide) ?_
  exact e_iret rfl dX11_refuse_6 (qW hf)
def f_X11_isFree (L : eL) (h : eH) (v0 : Nat) (v1 : Nat) (v2 : Int32) : Option Int32 :=
  if v2 < 0 then
    some 0
  else
    if isO L v0 11 = true then
    (gR h v0 6).bind fun b2 =>
    if inA L b2 0 v2 = true then
    if (gI h b2 v2.toNatClampNeg) = 0 then
      some 0
    else
      if inA L v1 0 (36 + v2) = true then
      if (gI h v1 (36 + v2).toNatClampNeg) = 0 then
        some 1
      else
        some 0
      else none
    else none
    else none
set_option maxRecDepth 100000 in
set_option maxHeartbeats 4000000 in
theorem m_X11_isFree {l : Launch} {d : Nat} {L : eL} {h : eH} {v0 : Nat} {v1 : Nat} {v2 : Int32} {r : Int32} (hd : 1 ≤ d) (hf : f_X11_isFree L h v0 v1 v2 = some r) : e_Met l yX11_isFree cX11_isFree 3 (some .boolean) d 0 0 true L h [.ref v0, .ref v1, .int v2] (Qx (some (.int r)) L h) := by
  refine e_metl (by decide) (Nat.le_of_ble_eq_true rfl) (lv := [(0, .ref v0), (1, .ref v1), (2, .int v2)]) rfl ?_
  unfold f_X11_isFree at hf
  refine e_iload_n 2 dX11_isFree_0 rfl rfl ?_
  refine e_if_lt (t := 26) dX11_isFree_1 (by decide) (fun c => ?_) (fun c => ?_)
  · replace hf := e_it c hf
    refine e_iconst (v := 0) dX11_isFree_26 (by decide) ?_
    exact e_zret (ty := .boolean) rfl rfl dX11_isFree_27 (qP hf)
  · replace hf := e_ie c hf
    refine e_aload_n 0 dX11_isFree_4 rfl rfl ?_
    obtain ⟨hO1, hf⟩ := e_if hf
    obtain ⟨b2, hb3, hf⟩ := e_bd hf
    refine e_getR hO1 fc_11_6 lk_RX11_37 dX11_isFree_5 hb3 ?_
    refine e_iload_n 2 dX11_isFree_8 rfl rfl ?_
    obtain ⟨hI4, hf⟩ := e_if hf
    refine e_iald hI4 dX11_isFree_9 ?_
    refine e_if_eq (t := 26) dX11_isFree_10 (by decide) (fun c => ?_) (fun c => ?_)
    · replace hf := e_it c hf
      refine e_iconst (v := 0) dX11_isFree_26 (by decide) ?_
      exact e_zret (ty := .boolean) rfl rfl dX11_isFree_27 (qP hf)
    · replace hf := e_ie c hf
      refine e_aload_n 1 dX11_isFree_13 rfl rfl ?_
      refine e_bipush (v := 36) dX11_isFree_14 (by decide) ?_
      refine e_iload_n 2 dX11_isFree_16 rfl rfl ?_
      refine e_iadd dX11_isFree_17 ?_
      obtain ⟨hI5, hf⟩ := e_if hf
      refine e_iald hI5 dX11_isFree_18 ?_
      refine e_if_ne (t := 26) dX11_isFree_19 (by decide) (fun c => ?_) (fun c => ?_)
      · replace hf := e_ie c hf
        refine e_iconst (v := 0) dX11_isFree_26 (by decide) ?_
        exact e_zret (ty := .boolean) rfl rfl dX11_isFree_27 (qP hf)
      · replace hf := e_it c hf
        refine e_iconst (v := 1) dX11_isFree_22 (by decide) ?_
        refine e_goto (t := 27) dX11_isFree_23 (by decide) ?_
        exact e_zret (ty := .boolean) rfl rfl dX11_isFree_27 (qP hf)
def f_X11_spot (L : eL) (h : eH) (v0 : Nat) (v1 : Int32) (v2 : Int32) : Option (eH × Int32) :=
  if isO L v0 11 = true then
  (f_X11_isSpot L (sI h v0 0 0) v0 v1).bind fun r2 =>
  if r2 = 0 then
    (f_X11_refuse L (sI h v0 0 0) v0).bind fun r4 =>
    some (r4.1, r4.2)
  else
    if (f_X11_in v2.toInt64 0 5) = 0 then
      (f_X11_refuse L (sI h v0 0 0) v0).bind fun r22 =>
      some (r22.1, r22.2)
    else
      if v2 = 0 then
        (gR (sI h v0 0 0) v0 6).bind fun b6 =>
        if inA L b6 0 v1 = true then
        some (sI h v0 0 0, gI (sI h v0 0 0) b6 v1.toNatClampNeg)
        else none
      else if v2 = 1 then
        (gR (sI h v0 0 0) v0 7).bind fun b9 =>
        if inA L b9 0 (36 + v1) = true then
        some (sI h v0 0 0, gI (sI h v0 0 0) b9 (36 + v1).toNatClampNeg)
        else none
      else if v2 = 2 then
        (gR (sI h v0 0 0) v0 7).bind fun b12 =>
        if inA L b12 0 v1 = true then
        some (sI h v0 0 0, gI (sI h v0 0 0) b12 v1.toNatClampNeg)
        else none
      else if v2 = 3 then
        if (gI (sI h v0 0 0) v0 5) = v1 then
          some (sI h v0 0 0, f_X11_flag 1)
        else
          some (sI h v0 0 0, f_X11_flag 0)
      else if v2 = 4 then
        (gR (sI h v0 0 0) v0 7).bind fun b15 =>
        if inA L b15 0 72 = true then
        if (gI (sI h v0 0 0) b15 (72 : Int32).toNatClampNeg) = v1 then
          some (sI h v0 0 0, f_X11_flag 1)
        else
          some (sI h v0 0 0, f_X11_flag 0)
        else none
      else
        (gR (sI h v0 0 0) v0 7).bind fun b18 =>
        (f_X11_isFree L (sI h v0 0 0) v0 b18 v1).bind fun r20 =>
        some (sI h v0 0 0, f_X11_flag r20)
  else none
set_option maxRecDepth 100000 in
set_option maxHeartbeats 4000000 in
theorem m_X11_spot {l : Launch} {d : Nat} {L : eL} {h : eH} {v0 : Nat} {v1 : Int32} {v2 : Int32} {r : eH × Int32} (hd : 3 ≤ d) (hf : f_X11_spot L h v0 v1 v2 = some r) : e_Met l yX11_spot cX11_spot 3 (some .int) d 0 0 true L h [.ref v0, .int v1, .int v2] (Qx (some (.int r.2)) L r.1) := by
  refine e_metl (by decide) (Nat.le_of_ble_eq_true rfl) (lv := [(0, .ref v0), (1, .int v1), (2, .int v2)]) rfl ?_
  unfold f_X11_spot at hf
  refine e_aload_n 0 dX11_spot_0 rfl rfl ?_
  refine e_iconst (v := 0) dX11_spot_1 (by decide) ?_
  obtain ⟨hO1, hf⟩ := e_if hf
  refine e_putI hO1 fc_11_0 rfl lk_RX11_3 dX11_spot_2 ?_
  refine e_aload_n 0 dX11_spot_5 rfl rfl ?_
  refine e_iload_n 1 dX11_spot_6 rfl rfl ?_
  obtain ⟨r2, hr3, hf⟩ := e_bd hf
  refine e_callV (st := []) ml_RX11_233 k_X11_isSpot (m_X11_isSpot (d := d - 1) (by omega) hr3) hO1 ⟨by decide, rfl⟩ rfl rfl (Nat.le_of_ble_eq_true rfl) ⟨by omega, by decide⟩ ⟨Nat.le_refl _, Nat.le_refl _⟩ dX11_spot_7 ?_
  refine e_if_eq (t := 25) dX11_spot_10 (by decide) (fun c => ?_) (fun c => ?_)
  · replace hf := e_it c hf
    refine e_aload_n 0 dX11_spot_25 rfl rfl ?_
    obtain ⟨r4, hr5, hf⟩ := e_bd hf
    refine e_callV (st := []) ml_RX11_238 k_X11_refuse (m_X11_refuse (d := d - 1) (by omega) hr5) hO1 ⟨by decide, rfl⟩ rfl rfl (Nat.le_of_ble_eq_true rfl) ⟨by omega, by decide⟩ ⟨Nat.le_refl _, Nat.le_refl _⟩ dX11_spot_26 ?_
    exact e_iret rfl dX11_spot_29 (qW hf)
  · replace hf := e_ie c hf
    refine e_iload_n 2 dX11_spot_13 rfl rfl ?_
    refine e_i2l dX11_spot_14 ?_
    refine e_lconst (v := 0) dX11_spot_15 (by decide) ?_
    refine e_ldc2 kc_RX11_236 dX11_spot_16 ?_
    refine e_callS (st := []) ml_RX11_118 k_X11_in (m_X11_in (d := d - 1) (by omega) rfl) rfl rfl (Nat.le_of_ble_eq_true rfl) ⟨by omega, by decide⟩ ⟨Nat.le_refl _, Nat.le_refl _⟩ dX11_spot_19 ?_
    refine e_if_ne (t := 30) dX11_spot_22 (by decide) (fun c => ?_) (fun c => ?_)
    · replace hf := e_ie c hf
      refine e_iload_n 2 dX11_spot_30 rfl rfl ?_
      by_cases c0 : v2 = 0
      · replace hf := e_it c0 hf
        refine e_tabIn (t := 64) dX11_spot_31 (by rw [c0]; decide) (by rw [c0]; decide) (by first | (rw [c0]; done) | (rw [c0]; rfl)) (by decide) ?_
        refine e_aload_n 0 dX11_spot_64 rfl rfl ?_
        obtain ⟨b6, hb7, hf⟩ := e_bd hf
        refine e_getR hO1 fc_11_6 lk_RX11_37 dX11_spot_65 hb7 ?_
        refine e_iload_n 1 dX11_spot_68 rfl rfl ?_
        obtain ⟨hI8, hf⟩ := e_if hf
        refine e_iald hI8 dX11_spot_69 ?_
        exact e_iret rfl dX11_spot_70 (qW hf)
      replace hf := e_ie c0 hf
      by_cases c1 : v2 = 1
      · replace hf := e_it c1 hf
        refine e_tabIn (t := 71) dX11_spot_31 (by rw [c1]; decide) (by rw [c1]; decide) (by first | (rw [c1]; done) | (rw [c1]; rfl)) (by decide) ?_
        refine e_aload_n 0 dX11_spot_71 rfl rfl ?_
        obtain ⟨b9, hb10, hf⟩ := e_bd hf
        refine e_getR hO1 fc_11_7 lk_RX11_41 dX11_spot_72 hb10 ?_
        refine e_bipush (v := 36) dX11_spot_75 (by decide) ?_
        refine e_iload_n 1 dX11_spot_77 rfl rfl ?_
        refine e_iadd dX11_spot_78 ?_
        obtain ⟨hI11, hf⟩ := e_if hf
        refine e_iald hI11 dX11_spot_79 ?_
        exact e_iret rfl dX11_spot_80 (qW hf)
      replace hf := e_ie c1 hf
      by_cases c2 : v2 = 2
      · replace hf := e_it c2 hf
        refine e_tabIn (t := 81) dX11_spot_31 (by rw [c2]; decide) (by rw [c2]; decide) (by first | (rw [c2]; done) | (rw [c2]; rfl)) (by decide) ?_
        refine e_aload_n 0 dX11_spot_81 rfl rfl ?_
        obtain ⟨b12, hb13, hf⟩ := e_bd hf
        refine e_getR hO1 fc_11_7 lk_RX11_41 dX11_spot_82 hb13 ?_
        refine e_iload_n 1 dX11_spot_85 rfl rfl ?_
        obtain ⟨hI14, hf⟩ := e_if hf
        refine e_iald hI14 dX11_spot_86 ?_
        exact e_iret rfl dX11_spot_87 (qW hf)
      replace hf := e_ie c2 hf
      by_cases c3 : v2 = 3
      · replace hf := e_it c3 hf
        refine e_tabIn (t := 88) dX11_spot_31 (by rw [c3]; decide) (by rw [c3]; decide) (by first | (rw [c3]; done) | (rw [c3]; rfl)) (by decide) ?_
        refine e_aload_n 0 dX11_spot_88 rfl rfl ?_
        refine e_getI hO1 fc_11_5 lk_RX11_34 dX11_spot_89 ?_
        refine e_iload_n 1 dX11_spot_92 rfl rfl ?_
        refine e_icmp_ne (t := 100) dX11_spot_93 (by decide) (fun c => ?_) (fun c => ?_)
        · replace hf := e_ie c hf
          refine e_iconst (v := 0) dX11_spot_100 (by decide) ?_
          refine e_callS (st := []) ml_RX11_122 k_X11_flag (m_X11_flag (d := d - 1) (by omega) rfl) rfl rfl (Nat.le_of_ble_eq_true rfl) ⟨by omega, by decide⟩ ⟨Nat.le_refl _, Nat.le_refl _⟩ dX11_spot_101 ?_
          exact e_iret rfl dX11_spot_104 (qW hf)
        · replace hf := e_it c hf
          refine e_iconst (v := 1) dX11_spot_96 (by decide) ?_
          refine e_goto (t := 101) dX11_spot_97 (by decide) ?_
          refine e_callS (st := []) ml_RX11_122 k_X11_flag (m_X11_flag (d := d - 1) (by omega) rfl) rfl rfl (Nat.le_of_ble_eq_true rfl) ⟨by omega, by decide⟩ ⟨Nat.le_refl _, Nat.le_refl _⟩ dX11_spot_101 ?_
          exact e_iret rfl dX11_spot_104 (qW hf)
      replace hf := e_ie c3 hf
      by_cases c4 : v2 = 4
      · replace hf := e_it c4 hf
        refine e_tabIn (t := 105) dX11_spot_31 (by rw [c4]; decide) (by rw [c4]; decide) (by first | (rw [c4]; done) | (rw [c4]; rfl)) (by decide) ?_
        refine e_aload_n 0 dX11_spot_105 rfl rfl ?_
        obtain ⟨b15, hb16, hf⟩ := e_bd hf
        refine e_getR hO1 fc_11_7 lk_RX11_41 dX11_spot_106 hb16 ?_
        refine e_bipush (v := 72) dX11_spot_109 (by decide) ?_
        obtain ⟨hI17, hf⟩ := e_if hf
        refine e_iald hI17 dX11_spot_111 ?_
        refine e_iload_n 1 dX11_spot_112 rfl rfl ?_
        refine e_icmp_ne (t := 120) dX11_spot_113 (by decide) (fun c => ?_) (fun c => ?_)
        · replace hf := e_ie c hf
          refine e_iconst (v := 0) dX11_spot_120 (by decide) ?_
          refine e_callS (st := []) ml_RX11_122 k_X11_flag (m_X11_flag (d := d - 1) (by omega) rfl) rfl rfl (Nat.le_of_ble_eq_true rfl) ⟨by omega, by decide⟩ ⟨Nat.le_refl _, Nat.le_refl _⟩ dX11_spot_121 ?_
          exact e_iret rfl dX11_spot_124 (qW hf)
        · replace hf := e_it c hf
          refine e_iconst (v := 1) dX11_spot_116 (by decide) ?_
          refine e_goto (t := 121) dX11_spot_117 (by decide) ?_
          refine e_callS (st := []) ml_RX11_122 k_X11_flag (m_X11_flag (d := d - 1) (by omega) rfl) rfl rfl (Nat.le_of_ble_eq_true rfl) ⟨by omega, by decide⟩ ⟨Nat.le_refl _, Nat.le_refl _⟩ dX11_spot_121 ?_
          exact e_iret rfl dX11_spot_124 (qW hf)
      replace hf := e_ie c4 hf
      refine e_tabOut (t := 125) dX11_spot_31 (e_out (fun j j1 j2 => by
          have j3 : j = 0 ∨ j = 1 ∨ j = 2 ∨ j = 3 ∨ j = 4 := by omega
          rcases j3 with rfl | rfl | rfl | rfl | rfl <;> assumption)) (by decide) ?_
      refine e_aload_n 0 dX11_spot_125 rfl rfl ?_
      refine e_aload_n 0 dX11_spot_126 rfl rfl ?_
      obtain ⟨b18, hb19, hf⟩ := e_bd hf
      refine e_getR hO1 fc_11_7 lk_RX11_41 dX11_spot_127 hb19 ?_
      refine e_iload_n 1 dX11_spot_130 rfl rfl ?_
      obtain ⟨r20, hr21, hf⟩ := e_bd hf
      refine e_callV (st := []) ml_RX11_241 k_X11_isFree (m_X11_isFree (d := d - 1) (by omega) hr21) hO1 ⟨by decide, rfl⟩ rfl rfl (Nat.le_of_ble_eq_true rfl) ⟨by omega, by decide⟩ ⟨Nat.le_refl _, Nat.le_refl _⟩ dX11_spot_131 ?_
      refine e_callS (st := []) ml_RX11_122 k_X11_flag (m_X11_flag (d := d - 1) (by omega) rfl) rfl rfl (Nat.le_of_ble_eq_true rfl) ⟨by omega, by decide⟩ ⟨Nat.le_refl _, Nat.le_refl _⟩ dX11_spot_134 ?_
      exact e_iret rfl dX11_spot_137 (qW hf)
    · replace hf := e_it c hf
      refine e_aload_n 0 dX11_spot_25 rfl rfl ?_
      obtain ⟨r22, hr23, hf⟩ := e_bd hf
      refine e_callV (st := []) ml_RX11_238 k_X11_refuse (m_X11_refuse (d := d - 1) (by omega) hr23) hO1 ⟨by decide, rfl⟩ rfl rfl (Nat.le_of_ble_eq_true rfl) ⟨by omega, by decide⟩ ⟨Nat.le_refl _, Nat.le_refl _⟩ dX11_spot_26 ?_
      exact e_iret rfl dX11_spot_29 (qW hf)
def f_X11_worked (v0 : Int32) (v1 : Int32) (v2 : Int32) : Option Int32 :=
  if v0 = 0 then
    if v2 ≤ v1 then
      some (f_X11_flag 0)
    else
      some (f_X11_flag 1)
  else if v0 = 1 then
    if v1 ≤ v2 then
      some (f_X11_flag 0)
    else
      some (f_X11_flag 1)
  else if v0 = 2 then
    if v1 = v2 then
      some (f_X11_flag 1)
    else
      some (f_X11_flag 0)
  else if v0 = 3 then
    some (v1 + v2)
  else if v0 = 4 then
    some (v1 - v2)
  else if v0 = 5 then
    some (v1 * v2)
  else
    if v2 = 0 then
      some 0
    else
      if v2 = 0 then none else
      some (v1 / v2)
set_option maxRecDepth 100000 in
set_option maxHeartbeats 4000000 in
theorem m_X11_worked {l : Launch} {d : Nat} {L : eL} {h : eH} {v0 : Int32} {v1 : Int32} {v2 : Int32} {r : Int32} (hd : 2 ≤ d) (hf : f_X11_worked v0 v1 v2 = some r) : e_Met l yX11_worked cX11_worked 3 (some .int) d 0 0 true L h [.int v0, .int v1, .int v2] (Qx (some (.int r)) L h) := by
  refine e_metl (by decide) (Nat.le_of_ble_eq_true rfl) (lv := [(0, .int v0), (1, .int v1), (2, .int v2)]) rfl ?_
  unfold f_X11_worked at hf
  refine e_iload_n 0 dX11_worked_0 rfl rfl ?_
  by_cases c0 : v0 = 0
  · replace hf := e_it c0 hf
    refine e_tabIn (t := 40) dX11_worked_1 (by rw [c0]; decide) (by rw [c0]; decide) (by first | (rw [c0]; done) | (rw [c0]; rfl)) (by decide) ?_
    refine e_iload_n 1 dX11_worked_40 rfl rfl ?_
    refine e_iload_n 2 dX11_worked_41 rfl rfl ?_
    refine e_icmp_ge (t := 49) dX11_worked_42 (by decide) (fun c => ?_) (fun c => ?_)
    · replace hf := e_it c hf
      refine e_iconst (v := 0) dX11_worked_49 (by decide) ?_
      refine e_callS (st := []) ml_RX11_122 k_X11_flag (m_X11_flag (d := d - 1) (by omega) rfl) rfl rfl (Nat.le_of_ble_eq_true rfl) ⟨by omega, by decide⟩ ⟨Nat.le_refl _, Nat.le_refl _⟩ dX11_worked_50 ?_
      exact e_iret rfl dX11_worked_53 (qP hf)
    · replace hf := e_ie c hf
      refine e_iconst (v := 1) dX11_worked_45 (by decide) ?_
      refine e_goto (t := 50) dX11_worked_46 (by decide) ?_
      refine e_callS (st := []) ml_RX11_122 k_X11_flag (m_X11_flag (d := d - 1) (by omega) rfl) rfl rfl (Nat.le_of_ble_eq_true rfl) ⟨by omega, by decide⟩ ⟨Nat.le_refl _, Nat.le_refl _⟩ dX11_worked_50 ?_
      exact e_iret rfl dX11_worked_53 (qP hf)
  replace hf := e_ie c0 hf
  by_cases c1 : v0 = 1
  · replace hf := e_it c1 hf
    refine e_tabIn (t := 54) dX11_worked_1 (by rw [c1]; decide) (by rw [c1]; decide) (by first | (rw [c1]; done) | (rw [c1]; rfl)) (by decide) ?_
    refine e_iload_n 1 dX11_worked_54 rfl rfl ?_
    refine e_iload_n 2 dX11_worked_55 rfl rfl ?_
    refine e_icmp_le (t := 63) dX11_worked_56 (by decide) (fun c => ?_) (fun c => ?_)
    · replace hf := e_it c hf
      refine e_iconst (v := 0) dX11_worked_63 (by decide) ?_
      refine e_callS (st := []) ml_RX11_122 k_X11_flag (m_X11_flag (d := d - 1) (by omega) rfl) rfl rfl (Nat.le_of_ble_eq_true rfl) ⟨by omega, by decide⟩ ⟨Nat.le_refl _, Nat.le_refl _⟩ dX11_worked_64 ?_
      exact e_iret rfl dX11_worked_67 (qP hf)
    · replace hf := e_ie c hf
      refine e_iconst (v := 1) dX11_worked_59 (by decide) ?_
      refine e_goto (t := 64) dX11_worked_60 (by decide) ?_
      refine e_callS (st := []) ml_RX11_122 k_X11_flag (m_X11_flag (d := d - 1) (by omega) rfl) rfl rfl (Nat.le_of_ble_eq_true rfl) ⟨by omega, by decide⟩ ⟨Nat.le_refl _, Nat.le_refl _⟩ dX11_worked_64 ?_
      exact e_iret rfl dX11_worked_67 (qP hf)
  replace hf := e_ie c1 hf
  by_cases c2 : v0 = 2
  · replace hf := e_it c2 hf
    refine e_tabIn (t := 68) dX11_worked_1 (by rw [c2]; decide) (by rw [c2]; decide) (by first | (rw [c2]; done) | (rw [c2]; rfl)) (by decide) ?_
    refine e_iload_n 1 dX11_worked_68 rfl rfl ?_
    refine e_iload_n 2 dX11_worked_69 rfl rfl ?_
    refine e_icmp_ne (t := 77) dX11_worked_70 (by decide) (fun c => ?_) (fun c => ?_)
    · replace hf := e_ie c hf
      refine e_iconst (v := 0) dX11_worked_77 (by decide) ?_
      refine e_callS (st := []) ml_RX11_122 k_X11_flag (m_X11_flag (d := d - 1) (by omega) rfl) rfl rfl (Nat.le_of_ble_eq_true rfl) ⟨by omega, by decide⟩ ⟨Nat.le_refl _, Nat.le_refl _⟩ dX11_worked_78 ?_
      exact e_iret rfl dX11_worked_81 (qP hf)
    · replace hf := e_it c hf
      refine e_iconst (v := 1) dX11_worked_73 (by decide) ?_
      refine e_goto (t := 78) dX11_worked_74 (by decide) ?_
      refine e_callS (st := []) ml_RX11_122 k_X11_flag (m_X11_flag (d := d - 1) (by omega) rfl) rfl rfl (Nat.le_of_ble_eq_true rfl) ⟨by omega, by decide⟩ ⟨Nat.le_refl _, Nat.le_refl _⟩ dX11_worked_78 ?_
      exact e_iret rfl dX11_worked_81 (qP hf)
  replace hf := e_ie c2 hf
  by_cases c3 : v0 = 3
  · replace hf := e_it c3 hf
    refine e_tabIn (t := 82) dX11_worked_1 (by rw [c3]; decide) (by rw [c3]; decide) (by first | (rw [c3]; done) | (rw [c3]; rfl)) (by decide) ?_
    refine e_iload_n 1 dX11_worked_82 rfl rfl ?_
    refine e_iload_n 2 dX11_worked_83 rfl rfl ?_
    refine e_iadd dX11_worked_84 ?_
    exact e_iret rfl dX11_worked_85 (qP hf)
  replace hf := e_ie c3 hf
  by_cases c4 : v0 = 4
  · replace hf := e_it c4 hf
    refine e_tabIn (t := 86) dX11_worked_1 (by rw [c4]; decide) (by rw [c4]; decide) (by first | (rw [c4]; done) | (rw [c4]; rfl)) (by decide) ?_
    refine e_iload_n 1 dX11_worked_86 rfl rfl ?_
    refine e_iload_n 2 dX11_worked_87 rfl rfl ?_
    refine e_isub dX11_worked_88 ?_
    exact e_iret rfl dX11_worked_89 (qP hf)
  replace hf := e_ie c4 hf
  by_cases c5 : v0 = 5
  · replace hf := e_it c5 hf
    refine e_tabIn (t := 90) dX11_worked_1 (by rw [c5]; decide) (by rw [c5]; decide) (by first | (rw [c5]; done) | (rw [c5]; rfl)) (by decide) ?_
    refine e_iload_n 1 dX11_worked_90 rfl rfl ?_
    refine e_iload_n 2 dX11_worked_91 rfl rfl ?_
    refine e_imul dX11_worked_92 ?_
    exact e_iret rfl dX11_worked_93 (qP hf)
  replace hf := e_ie c5 hf
  refine e_tabOut (t := 94) dX11_worked_1 (e_out (fun j j1 j2 => by
      have j3 : j = 0 ∨ j = 1 ∨ j = 2 ∨ j = 3 ∨ j = 4 ∨ j = 5 := by omega
      rcases j3 with rfl | rfl | rfl | rfl | rfl | rfl <;> assumption)) (by decide) ?_
  refine e_iload_n 2 dX11_worked_94 rfl rfl ?_
  refine e_if_ne (t := 102) dX11_worked_95 (by decide) (fun c => ?_) (fun c => ?_)
  · replace hf := e_ie c hf
    refine e_iload_n 1 dX11_worked_102 rfl rfl ?_
    refine e_iload_n 2 dX11_worked_103 rfl rfl ?_
    obtain ⟨hz1, hf⟩ := e_ifp hf
    refine e_idiv dX11_worked_104 hz1 ?_
    exact e_iret rfl dX11_worked_105 (qP hf)
  · replace hf := e_it c hf
    refine e_iconst (v := 0) dX11_worked_98 (by decide) ?_
    refine e_goto (t := 105) dX11_worked_99 (by decide) ?_
    exact e_iret rfl dX11_worked_105 (qP hf)
def f_X11_ruled_L4 (L : eL) : Nat → (eH → Nat → Option (eH × Int32)) → eH → Nat → Int32 → Int32 → Option (eH × Int32)
  | 0, _, _, _, _, _ => none
  | n + 1, k125, h, v0, v1, v2 =>
    if isO L v0 11 = true then
    if (gI h v0 19) ≤ v2 then
      k125 h v0
    else
      (gR h v0 17).bind fun b2 =>
      if inA L b2 0 v2 = true then
      if (gI h b2 v2.toNatClampNeg) = 3000 then
        (gR h v0 21).bind fun b29 =>
        (gR h v0 21).bind fun b31 =>
        if inA L b31 0 (v1 - 1) = true then
        if inA L b29 0 (v1 - 1) = true then
        (some (sI h b29 (v1 - 1).toNatClampNeg (-(gI h b31 (v1 - 1).toNatClampNeg)))).bind fun h35 =>
        f_X11_ruled_L4 L n k125 h35 v0 v1 (v2 + Int32.ofInt 1)
        else none
        else none
      else
        if (gI h b2 v2.toNatClampNeg) < 2000 then
          (gR h v0 21).bind fun b5 =>
          if (gI h b2 v2.toNatClampNeg) < 1000 then
            if inA L b5 0 v1 = true then
            (some (sI h b5 v1.toNatClampNeg (gI h b2 v2.toNatClampNeg))).bind fun h8 =>
            f_X11_ruled_L4 L n k125 h8 v0 (v1 + Int32.ofInt 1) (v2 + Int32.ofInt 1)
            else none
          else
            (gR h v0 22).bind fun b10 =>
            if inA L b10 0 ((gI h b2 v2.toNatClampNeg) - 1000) = true then
            if inA L b5 0 v1 = true then
            (some (sI h b5 v1.toNatClampNeg (gI h b10 ((gI h b2 v2.toNatClampNeg) - 1000).toNatClampNeg))).bind fun h14 =>
            f_X11_ruled_L4 L n k125 h14 v0 (v1 + Int32.ofInt 1) (v2 + Int32.ofInt 1)
            else none
            else none
        else
          (gR h v0 21).bind fun b16 =>
          (gR h v0 21).bind fun b18 =>
          if inA L b18 0 ((v1 + Int32.ofInt (-1)) - 1) = true then
          (gR h v0 21).bind fun b21 =>
          if inA L b21 0 (v1 + Int32.ofInt (-1)) = true then
          (f_X11_worked ((gI h b2 v2.toNatClampNeg) - 2000) (gI h b18 ((v1 + Int32.ofInt (-1)) - 1).toNatClampNeg) (gI h b21 (v1 + Int32.ofInt (-1)).toNatClampNeg)).bind fun r24 =>
          if inA L b16 0 ((v1 + Int32.ofInt (-1)) - 1) = true then
          (some (sI h b16 ((v1 + Int32.ofInt (-1)) - 1).toNatClampNeg r24)).bind fun h27 =>
          f_X11_ruled_L4 L n k125 h27 v0 (v1 + Int32.ofInt (-1)) (v2 + Int32.ofInt 1)
          else none
          else none
          else none
      else none
    else none
set_option maxRecDepth 100000 in
set_option maxHeartbeats 4000000 in
theorem m_X11_ruled_L4 {l : Launch} {d : Nat} {L : eL}  {r : eH × Int32} {k125 : eH → Nat → Option (eH × Int32)} (hd : 3 ≤ d) (hk125 : ∀ (h : eH) (v0 : Nat), k125 h v0 = some r → E l yX11_ruled cX11_ruled 4 (some .int) (e_rm d 0 0) 0 0 true L (Qx (some (.int r.2)) L r.1) L h 0 0 125 [(0, .ref v0)] []) : ∀ (n : Nat) (h : eH) (v0 : Nat) (v1 : Int32) (v2 : Int32), f_X11_ruled_L4 L n k125 h v0 v1 v2 = some r → E l yX11_ruled cX11_ruled 4 (some .int) (e_rm d 0 0) 0 0 true L (Qx (some (.int r.2)) L r.1) L h 0 0 4 [(0, .ref v0), (1, .int v1), (2, .int v2)] [] := by
  intro n
  induction n with
  | zero => intro h v0 v1 v2 hf; exact absurd hf (by simp [f_X11_ruled_L4])
  | succ n ih =>
    intro h v0 v1 v2 hf
    unfold f_X11_ruled_L4 at hf
    refine e_iload_n 2 dX11_ruled_4 rfl rfl ?_
    refine e_aload_n 0 dX11_ruled_5 rfl rfl ?_
    obtain ⟨hO1, hf⟩ := e_if hf
    refine e_getI hO1 fc_11_19 lk_RX11_223 dX11_ruled_6 ?_
    refine e_icmp_ge (t := 125) dX11_ruled_9 (by decide) (fun c => ?_) (fun c => ?_)
    · replace hf := e_it c hf
      refine e_sub [0] rfl ?_
      exact hk125 _ _ hf
    · replace hf := e_ie c hf
      refine e_aload_n 0 dX11_ruled_12 rfl rfl ?_
      obtain ⟨b2, hb3, hf⟩ := e_bd hf
      refine e_getR hO1 fc_11_17 lk_RX11_53 dX11_ruled_13 hb3 ?_
      refine e_iload_n 2 dX11_ruled_16 rfl rfl ?_
      obtain ⟨hI4, hf⟩ := e_if hf
      refine e_iald hI4 dX11_ruled_17 ?_
      refine e_istore_n (lv' := [(3, .int _), (0, .ref _), (1, .int _), (2, .int _)]) dX11_ruled_18 rfl (by decide) rfl ?_
      refine e_iload_n 0 dX11_ruled_19 rfl rfl ?_
      refine e_sipush (v := 3000) dX11_ruled_20 (by decide) ?_
      refine e_icmp_ne (t := 46) dX11_ruled_23 (by decide) (fun c => ?_) (fun c => ?_)
      · replace hf := e_ie c hf
        refine e_iload_n 0 dX11_ruled_46 rfl rfl ?_
        refine e_sipush (v := 2000) dX11_ruled_47 (by decide) ?_
        refine e_icmp_lt (t := 89) dX11_ruled_50 (by decide) (fun c => ?_) (fun c => ?_)
        · replace hf := e_it c hf
          refine e_aload_n 1 dX11_ruled_89 rfl rfl ?_
          obtain ⟨b5, hb6, hf⟩ := e_bd hf
          refine e_getR hO1 fc_11_21 lk_RX11_59 dX11_ruled_90 hb6 ?_
          refine e_iload_n 2 dX11_ruled_93 rfl rfl ?_
          refine e_iload_n 0 dX11_ruled_94 rfl rfl ?_
          refine e_sipush (v := 1000) dX11_ruled_95 (by decide) ?_
          refine e_icmp_lt (t := 114) dX11_ruled_98 (by decide) (fun c => ?_) (fun c => ?_)
          · replace hf := e_it c hf
            refine e_iload_n 0 dX11_ruled_114 rfl rfl ?_
            obtain ⟨hI7, hf⟩ := e_if hf
            refine e_iast hI7 dX11_ruled_115 ?_
            obtain ⟨h8, hh9, hf⟩ := e_bd hf
            refine e_hn hh9 ?_
            refine e_iinc (lv' := [(1, .int _), (3, .int _), (0, .ref _), (2, .int _)]) 2 dX11_ruled_116 rfl (by decide) rfl ?_
            refine e_iinc (lv' := [(2, .int _), (1, .int _), (3, .int _), (0, .ref _)]) 3 dX11_ruled_119 rfl (by decide) rfl ?_
            refine e_goto (t := 4) dX11_ruled_122 (by decide) ?_
            refine e_sub [3, 1, 0] rfl ?_
            exact ih _ _ _ _ hf
          · replace hf := e_ie c hf
            refine e_aload_n 1 dX11_ruled_101 rfl rfl ?_
            obtain ⟨b10, hb11, hf⟩ := e_bd hf
            refine e_getR hO1 fc_11_22 lk_RX11_62 dX11_ruled_102 hb11 ?_
            refine e_iload_n 0 dX11_ruled_105 rfl rfl ?_
            refine e_sipush (v := 1000) dX11_ruled_106 (by decide) ?_
            refine e_isub dX11_ruled_109 ?_
            obtain ⟨hI12, hf⟩ := e_if hf
            refine e_iald hI12 dX11_ruled_110 ?_
            refine e_goto (t := 115) dX11_ruled_111 (by decide) ?_
            obtain ⟨hI13, hf⟩ := e_if hf
            refine e_iast hI13 dX11_ruled_115 ?_
            obtain ⟨h14, hh15, hf⟩ := e_bd hf
            refine e_hn hh15 ?_
            refine e_iinc (lv' := [(1, .int _), (3, .int _), (0, .ref _), (2, .int _)]) 2 dX11_ruled_116 rfl (by decide) rfl ?_
            refine e_iinc (lv' := [(2, .int _), (1, .int _), (3, .int _), (0, .ref _)]) 3 dX11_ruled_119 rfl (by decide) rfl ?_
            refine e_goto (t := 4) dX11_ruled_122 (by decide) ?_
            refine e_sub [3, 1, 0] rfl ?_
            exact ih _ _ _ _ hf
        · replace hf := e_ie c hf
          refine e_iinc (lv' := [(1, .int _), (3, .int _), (0, .ref _), (2, .int _)]) 2 dX11_ruled_53 rfl (by decide) rfl ?_
          refine e_aload_n 2 dX11_ruled_56 rfl rfl ?_
          obtain ⟨b16, hb17, hf⟩ := e_bd hf
          refine e_getR hO1 fc_11_21 lk_RX11_59 dX11_ruled_57 hb17 ?_
          refine e_iload_n 0 dX11_ruled_60 rfl rfl ?_
          refine e_iconst (v := 1) dX11_ruled_61 (by decide) ?_
          refine e_isub dX11_ruled_62 ?_
          refine e_iload_n 1 dX11_ruled_63 rfl rfl ?_
          refine e_sipush (v := 2000) dX11_ruled_64 (by decide) ?_
          refine e_isub dX11_ruled_67 ?_
          refine e_aload_n 2 dX11_ruled_68 rfl rfl ?_
          obtain ⟨b18, hb19, hf⟩ := e_bd hf
          refine e_getR hO1 fc_11_21 lk_RX11_59 dX11_ruled_69 hb19 ?_
          refine e_iload_n 0 dX11_ruled_72 rfl rfl ?_
          refine e_iconst (v := 1) dX11_ruled_73 (by decide) ?_
          refine e_isub dX11_ruled_74 ?_
          obtain ⟨hI20, hf⟩ := e_if hf
          refine e_iald hI20 dX11_ruled_75 ?_
          refine e_aload_n 2 dX11_ruled_76 rfl rfl ?_
          obtain ⟨b21, hb22, hf⟩ := e_bd hf
          refine e_getR hO1 fc_11_21 lk_RX11_59 dX11_ruled_77 hb22 ?_
          refine e_iload_n 0 dX11_ruled_80 rfl rfl ?_
          obtain ⟨hI23, hf⟩ := e_if hf
          refine e_iald hI23 dX11_ruled_81 ?_
          obtain ⟨r24, hr25, hf⟩ := e_bd hf
          refine e_callS (st := [.int _, .ref _]) ml_RX11_226 k_X11_worked (m_X11_worked (d := d - 1) (by omega) hr25) rfl rfl (Nat.le_of_ble_eq_true rfl) ⟨by omega, by decide⟩ ⟨Nat.le_refl _, Nat.le_refl _⟩ dX11_ruled_82 ?_
          obtain ⟨hI26, hf⟩ := e_if hf
          refine e_iast hI26 dX11_ruled_85 ?_
          obtain ⟨h27, hh28, hf⟩ := e_bd hf
          refine e_hn hh28 ?_
          refine e_goto (t := 119) dX11_ruled_86 (by decide) ?_
          refine e_iinc (lv' := [(2, .int _), (1, .int _), (3, .int _), (0, .ref _)]) 3 dX11_ruled_119 rfl (by decide) rfl ?_
          refine e_goto (t := 4) dX11_ruled_122 (by decide) ?_
          refine e_sub [3, 1, 0] rfl ?_
          exact ih _ _ _ _ hf
      · replace hf := e_it c hf
        refine e_aload_n 1 dX11_ruled_26 rfl rfl ?_
        obtain ⟨b29, hb30, hf⟩ := e_bd hf
        refine e_getR hO1 fc_11_21 lk_RX11_59 dX11_ruled_27 hb30 ?_
        refine e_iload_n 2 dX11_ruled_30 rfl rfl ?_
        refine e_iconst (v := 1) dX11_ruled_31 (by decide) ?_
        refine e_isub dX11_ruled_32 ?_
        refine e_aload_n 1 dX11_ruled_33 rfl rfl ?_
        obtain ⟨b31, hb32, hf⟩ := e_bd hf
        refine e_getR hO1 fc_11_21 lk_RX11_59 dX11_ruled_34 hb32 ?_
        refine e_iload_n 2 dX11_ruled_37 rfl rfl ?_
        refine e_iconst (v := 1) dX11_ruled_38 (by decide) ?_
        refine e_isub dX11_ruled_39 ?_
        obtain ⟨hI33, hf⟩ := e_if hf
        refine e_iald hI33 dX11_ruled_40 ?_
        refine e_ineg dX11_ruled_41 ?_
        obtain ⟨hI34, hf⟩ := e_if hf
        refine e_iast hI34 dX11_ruled_42 ?_
        obtain ⟨h35, hh36, hf⟩ := e_bd hf
        refine e_hn hh36 ?_
        refine e_goto (t := 119) dX11_ruled_43 (by decide) ?_
        refine e_iinc (lv' := [(2, .int _), (3, .int _), (0, .ref _), (1, .int _)]) 3 dX11_ruled_119 rfl (by decide) rfl ?_
        refine e_goto (t := 4) dX11_ruled_122 (by decide) ?_
        refine e_sub [2, 3, 0] rfl ?_
        exact ih _ _ _ _ hf
def f_X11_ruled (L : eL) (h : eH) (v0 : Nat) : Option (eH × Int32) :=
  f_X11_ruled_L4 L e_fu (fun (h37 : eH) (w0_38 : Nat) =>
    if isO L w0_38 11 = true then
    if (gI h37 w0_38 19) = 0 then
      some (h37, 1)
    else
      (gR h37 w0_38 21).bind fun b40 =>
      if inA L b40 0 0 = true then
      some (h37, gI h37 b40 (0 : Int32).toNatClampNeg)
      else none
    else none) h v0 0 0
set_option maxRecDepth 100000 in
set_option maxHeartbeats 4000000 in
theorem m_X11_ruled {l : Launch} {d : Nat} {L : eL} {h : eH} {v0 : Nat} {r : eH × Int32} (hd : 3 ≤ d) (hf : f_X11_ruled L h v0 = some r) : e_Met l yX11_ruled cX11_ruled 4 (some .int) d 0 0 true L h [.ref v0] (Qx (some (.int r.2)) L r.1) := by
  refine e_metl (by decide) (Nat.le_of_ble_eq_true rfl) (lv := [(0, .ref v0)]) rfl ?_
  unfold f_X11_ruled at hf
  refine e_iconst (v := 0) dX11_ruled_0 (by decide) ?_
  refine e_istore_n (lv' := [(1, .int _), (0, .ref _)]) dX11_ruled_1 rfl (by decide) rfl ?_
  refine e_iconst (v := 0) dX11_ruled_2 (by decide) ?_
  refine e_istore_n (lv' := [(2, .int _), (1, .int _), (0, .ref _)]) dX11_ruled_3 rfl (by decide) rfl ?_
  refine e_sub [2, 1, 0] rfl ?_
  refine m_X11_ruled_L4 hd ?_ e_fu _ _ _ _ hf
  · intro h37 w0_38 hf
    refine e_aload_n 0 dX11_ruled_125 rfl rfl ?_
    obtain ⟨hO39, hf⟩ := e_if hf
    refine e_getI hO39 fc_11_19 lk_RX11_223 dX11_ruled_126 ?_
    refine e_if_ne (t := 136) dX11_ruled_129 (by decide) (fun c => ?_) (fun c => ?_)
    · replace hf := e_ie c hf
      refine e_aload_n 0 dX11_ruled_136 rfl rfl ?_
      obtain ⟨b40, hb41, hf⟩ := e_bd hf
      refine e_getR hO39 fc_11_21 lk_RX11_59 dX11_ruled_137 hb41 ?_
      refine e_iconst (v := 0) dX11_ruled_140 (by decide) ?_
      obtain ⟨hI42, hf⟩ := e_if hf
      refine e_iald hI42 dX11_ruled_141 ?_
      exact e_iret rfl dX11_ruled_142 (qW hf)
    · replace hf := e_it c hf
      refine e_iconst (v := 1) dX11_ruled_132 (by decide) ?_
      refine e_goto (t := 142) dX11_ruled_133 (by decide) ?_
      exact e_iret rfl dX11_ruled_142 (qW hf)
def f_X11_turnOf_J67 (L : eL) (h : eH) (v0 : Nat) (v1 : Nat) (v2 : Int32) (s0 : Nat) (s1 : Int32) (s2 : Int32) : Option (eH × Int32) :=
  if inA L s0 0 s1 = true then
  if isO L v0 11 = true then
  (gR (sI h s0 s1.toNatClampNeg (f_X11_flag s2)) v0 22).bind fun b27 =>
  if inA L v1 0 v2 = true then
  if inA L b27 0 4 = true then
  (some (sI (sI h s0 s1.toNatClampNeg (f_X11_flag s2)) b27 (4 : Int32).toNatClampNeg (gI (sI h s0 s1.toNatClampNeg (f_X11_flag s2)) v1 v2.toNatClampNeg))).bind fun h31 =>
  (f_X11_ruled L h31 v0).bind fun r33 =>
  if 0 ≤ (r33.2 - r33.2 / 4 * 4) then
    some (r33.1, r33.2 - r33.2 / 4 * 4)
  else
    some (r33.1, (r33.2 - r33.2 / 4 * 4) + 4)
  else none
  else none
  else none
  else none
set_option maxRecDepth 100000 in
set_option maxHeartbeats 4000000 in
theorem m_X11_turnOf_J67 {l : Launch} {d : Nat} {L : eL}  {r : eH × Int32} (hd : 4 ≤ d)  : ∀ (h : eH) (v0 : Nat) (v1 : Nat) (v2 : Int32) (s0 : Nat) (s1 : Int32) (s2 : Int32), f_X11_turnOf_J67 L h v0 v1 v2 s0 s1 s2 = some r → E l yX11_turnOf cX11_turnOf 4 (some .int) (e_rm d 0 0) 0 0 true L (Qx (some (.int r.2)) L r.1) L h 0 0 67 [(0, .ref v0), (1, .ref v1), (2, .int v2)] [.int s2, .int s1, .ref s0] := by
  intro h v0 v1 v2 s0 s1 s2 hf
  unfold f_X11_turnOf_J67 at hf
  refine e_callS (st := [.int _, .ref _]) ml_RX11_122 k_X11_flag (m_X11_flag (d := d - 1) (by omega) rfl) rfl rfl (Nat.le_of_ble_eq_true rfl) ⟨by omega, by decide⟩ ⟨Nat.le_refl _, Nat.le_refl _⟩ dX11_turnOf_67 ?_
  obtain ⟨hI25, hf⟩ := e_if hf
  refine e_iast hI25 dX11_turnOf_70 ?_
  refine e_aload_n 0 dX11_turnOf_71 rfl rfl ?_
  obtain ⟨hO26, hf⟩ := e_if hf
  obtain ⟨b27, hb28, hf⟩ := e_bd hf
  refine e_getR hO26 fc_11_22 lk_RX11_62 dX11_turnOf_72 hb28 ?_
  refine e_iconst (v := 4) dX11_turnOf_75 (by decide) ?_
  refine e_aload_n 1 dX11_turnOf_76 rfl rfl ?_
  refine e_iload_n 2 dX11_turnOf_77 rfl rfl ?_
  obtain ⟨hI29, hf⟩ := e_if hf
  refine e_iald hI29 dX11_turnOf_78 ?_
  obtain ⟨hI30, hf⟩ := e_if hf
  refine e_iast hI30 dX11_turnOf_79 ?_
  obtain ⟨h31, hh32, hf⟩ := e_bd hf
  refine e_hn hh32 ?_
  refine e_aload_n 0 dX11_turnOf_80 rfl rfl ?_
  obtain ⟨r33, hr34, hf⟩ := e_bd hf
  refine e_callV (st := []) ml_RX11_230 k_X11_ruled (m_X11_ruled (d := d - 1) (by omega) hr34) hO26 ⟨by decide, rfl⟩ rfl rfl (Nat.le_of_ble_eq_true rfl) ⟨by omega, by decide⟩ ⟨Nat.le_refl _, Nat.le_refl _⟩ dX11_turnOf_81 ?_
  refine e_iconst (v := 4) dX11_turnOf_84 (by decide) ?_
  refine e_irem dX11_turnOf_85 (by decide) ?_
  refine e_istore_n (lv' := [(3, .int _), (0, .ref _), (1, .ref _), (2, .int _)]) dX11_turnOf_86 rfl (by decide) rfl ?_
  refine e_iload_n 0 dX11_turnOf_87 rfl rfl ?_
  refine e_if_ge (t := 97) dX11_turnOf_88 (by decide) (fun c => ?_) (fun c => ?_)
  · replace hf := e_it c hf
    refine e_iload_n 0 dX11_turnOf_97 rfl rfl ?_
    exact e_iret rfl dX11_turnOf_98 (qW hf)
  · replace hf := e_ie c hf
    refine e_iload_n 0 dX11_turnOf_91 rfl rfl ?_
    refine e_iconst (v := 4) dX11_turnOf_92 (by decide) ?_
    refine e_iadd dX11_turnOf_93 ?_
    refine e_goto (t := 98) dX11_turnOf_94 (by decide) ?_
    exact e_iret rfl dX11_turnOf_98 (qW hf)
def f_X11_turnOf (L : eL) (h : eH) (v0 : Nat) (v1 : Nat) : Option (eH × Int32) :=
  if isO L v0 11 = true then
  if (gI h v0 23) < 0 then
    if inA L v1 0 72 = true then
    (gR h v0 22).bind fun b3 =>
    if inA L v1 0 77 = true then
    if inA L b3 0 0 = true then
    (some (sI h b3 (0 : Int32).toNatClampNeg ((gI h v1 (77 : Int32).toNatClampNeg) - (gI h v1 (77 : Int32).toNatClampNeg) / 8 * 8))).bind fun h7 =>
    (gR h7 v0 22).bind fun b9 =>
    if inA L v1 0 73 = true then
    if inA L b9 0 1 = true then
    (some (sI h7 b9 (1 : Int32).toNatClampNeg (gI h7 v1 (73 : Int32).toNatClampNeg))).bind fun h13 =>
    (gR h13 v0 22).bind fun b15 =>
    if inA L b15 0 2 = true then
    (some (sI h13 b15 (2 : Int32).toNatClampNeg (gI h v1 (72 : Int32).toNatClampNeg))).bind fun h18 =>
    (gR h18 v0 22).bind fun b20 =>
    (gR h18 v0 6).bind fun b22 =>
    if inA L b22 0 (gI h v1 (72 : Int32).toNatClampNeg) = true then
    if (gI h18 b22 (gI h v1 (72 : Int32).toNatClampNeg).toNatClampNeg) = 2 then
      f_X11_turnOf_J67 L h18 v0 v1 (gI h v1 (72 : Int32).toNatClampNeg) b20 3 1
    else
      f_X11_turnOf_J67 L h18 v0 v1 (gI h v1 (72 : Int32).toNatClampNeg) b20 3 0
    else none
    else none
    else none
    else none
    else none
    else none
    else none
  else
    some (h, gI h v0 23)
  else none
set_option maxRecDepth 100000 in
set_option maxHeartbeats 4000000 in
theorem m_X11_turnOf {l : Launch} {d : Nat} {L : eL} {h : eH} {v0 : Nat} {v1 : Nat} {r : eH × Int32} (hd : 4 ≤ d) (hf : f_X11_turnOf L h v0 v1 = some r) : e_Met l yX11_turnOf cX11_turnOf 4 (some .int) d 0 0 true L h [.ref v0, .ref v1] (Qx (some (.int r.2)) L r.1) := by
  refine e_metl (by decide) (Nat.le_of_ble_eq_true rfl) (lv := [(0, .ref v0), (1, .ref v1)]) rfl ?_
  unfold f_X11_turnOf at hf
  refine e_aload_n 0 dX11_turnOf_0 rfl rfl ?_
  obtain ⟨hO1, hf⟩ := e_if hf
  refine e_getI hO1 fc_11_23 lk_RX11_65 dX11_turnOf_1 ?_
  refine e_if_lt (t := 12) dX11_turnOf_4 (by decide) (fun c => ?_) (fun c => ?_)
  · replace hf := e_it c hf
    refine e_aload_n 1 dX11_turnOf_12 rfl rfl ?_
    refine e_bipush (v := 72) dX11_turnOf_13 (by decide) ?_
    obtain ⟨hI2, hf⟩ := e_if hf
    refine e_iald hI2 dX11_turnOf_15 ?_
    refine e_istore_n (lv' := [(2, .int _), (0, .ref _), (1, .ref _)]) dX11_turnOf_16 rfl (by decide) rfl ?_
    refine e_aload_n 1 dX11_turnOf_17 rfl rfl ?_
    obtain ⟨b3, hb4, hf⟩ := e_bd hf
    refine e_getR hO1 fc_11_22 lk_RX11_62 dX11_turnOf_18 hb4 ?_
    refine e_iconst (v := 0) dX11_turnOf_21 (by decide) ?_
    refine e_aload_n 2 dX11_turnOf_22 rfl rfl ?_
    refine e_bipush (v := 77) dX11_turnOf_23 (by decide) ?_
    obtain ⟨hI5, hf⟩ := e_if hf
    refine e_iald hI5 dX11_turnOf_25 ?_
    refine e_bipush (v := 8) dX11_turnOf_26 (by decide) ?_
    refine e_irem dX11_turnOf_28 (by decide) ?_
    obtain ⟨hI6, hf⟩ := e_if hf
    refine e_iast hI6 dX11_turnOf_29 ?_
    obtain ⟨h7, hh8, hf⟩ := e_bd hf
    refine e_hn hh8 ?_
    refine e_aload_n 1 dX11_turnOf_30 rfl rfl ?_
    obtain ⟨b9, hb10, hf⟩ := e_bd hf
    refine e_getR hO1 fc_11_22 lk_RX11_62 dX11_turnOf_31 hb10 ?_
    refine e_iconst (v := 1) dX11_turnOf_34 (by decide) ?_
    refine e_aload_n 2 dX11_turnOf_35 rfl rfl ?_
    refine e_bipush (v := 73) dX11_turnOf_36 (by decide) ?_
    obtain ⟨hI11, hf⟩ := e_if hf
    refine e_iald hI11 dX11_turnOf_38 ?_
    obtain ⟨hI12, hf⟩ := e_if hf
    refine e_iast hI12 dX11_turnOf_39 ?_
    obtain ⟨h13, hh14, hf⟩ := e_bd hf
    refine e_hn hh14 ?_
    refine e_aload_n 1 dX11_turnOf_40 rfl rfl ?_
    obtain ⟨b15, hb16, hf⟩ := e_bd hf
    refine e_getR hO1 fc_11_22 lk_RX11_62 dX11_turnOf_41 hb16 ?_
    refine e_iconst (v := 2) dX11_turnOf_44 (by decide) ?_
    refine e_iload_n 0 dX11_turnOf_45 rfl rfl ?_
    obtain ⟨hI17, hf⟩ := e_if hf
    refine e_iast hI17 dX11_turnOf_46 ?_
    obtain ⟨h18, hh19, hf⟩ := e_bd hf
    refine e_hn hh19 ?_
    refine e_aload_n 1 dX11_turnOf_47 rfl rfl ?_
    obtain ⟨b20, hb21, hf⟩ := e_bd hf
    refine e_getR hO1 fc_11_22 lk_RX11_62 dX11_turnOf_48 hb21 ?_
    refine e_iconst (v := 3) dX11_turnOf_51 (by decide) ?_
    refine e_aload_n 1 dX11_turnOf_52 rfl rfl ?_
    obtain ⟨b22, hb23, hf⟩ := e_bd hf
    refine e_getR hO1 fc_11_6 lk_RX11_37 dX11_turnOf_53 hb23 ?_
    refine e_iload_n 0 dX11_turnOf_56 rfl rfl ?_
    obtain ⟨hI24, hf⟩ := e_if hf
    refine e_iald hI24 dX11_turnOf_57 ?_
    refine e_iconst (v := 2) dX11_turnOf_58 (by decide) ?_
    refine e_icmp_ne (t := 66) dX11_turnOf_59 (by decide) (fun c => ?_) (fun c => ?_)
    · replace hf := e_ie c hf
      refine e_iconst (v := 0) dX11_turnOf_66 (by decide) ?_
      refine e_sub [1, 2, 0] rfl ?_
      exact m_X11_turnOf_J67 hd _ _ _ _ _ _ _ hf
    · replace hf := e_it c hf
      refine e_iconst (v := 1) dX11_turnOf_62 (by decide) ?_
      refine e_goto (t := 67) dX11_turnOf_63 (by decide) ?_
      refine e_sub [1, 2, 0] rfl ?_
      exact m_X11_turnOf_J67 hd _ _ _ _ _ _ _ hf
  · replace hf := e_ie c hf
    refine e_aload_n 0 dX11_turnOf_7 rfl rfl ?_
    refine e_getI hO1 fc_11_23 lk_RX11_65 dX11_turnOf_8 ?_
    exact e_iret rfl dX11_turnOf_11 (qW hf)
def f_X11_beside_J51 (L : eL) (h : eH) (v0 : Nat) (v3 : Int32) (s0 : Int32) (s1 : Int32) : Option Int32 :=
  if isO L v0 11 = true then
  if (f_X11_in v3.toInt64 0 (((gI h v0 3) - 1).toInt64)) = 0 then
    some (-1)
  else
    if (f_X11_in ((s0 + s1).toInt64) 0 (((gI h v0 4) - 1).toInt64)) = 0 then
      some (-1)
    else
      some (((gI h v0 4) * v3) + (s0 + s1))
  else none
set_option maxRecDepth 100000 in
set_option maxHeartbeats 4000000 in
theorem m_X11_beside_J51 {l : Launch} {d : Nat} {L : eL} {h : eH} {r : Int32} (hd : 2 ≤ d)  : ∀ (v0 : Nat) (v3 : Int32) (s0 : Int32) (s1 : Int32), f_X11_beside_J51 L h v0 v3 s0 s1 = some r → E l yX11_beside cX11_beside 5 (some .int) (e_rm d 0 0) 0 0 true L (Qx (some (.int r)) L h) L h 0 0 51 [(0, .ref v0), (3, .int v3)] [.int s1, .int s0] := by
  intro v0 v3 s0 s1 hf
  unfold f_X11_beside_J51 at hf
  refine e_iadd dX11_beside_51 ?_
  refine e_istore (lv' := [(4, .int _), (0, .ref _), (3, .int _)]) dX11_beside_52 (by decide) rfl ?_
  refine e_iload_n 2 dX11_beside_54 rfl rfl ?_
  refine e_i2l dX11_beside_55 ?_
  refine e_lconst (v := 0) dX11_beside_56 (by decide) ?_
  refine e_aload_n 1 dX11_beside_57 rfl rfl ?_
  obtain ⟨hO5, hf⟩ := e_if hf
  refine e_getI hO5 fc_11_3 lk_RX11_28 dX11_beside_58 ?_
  refine e_iconst (v := 1) dX11_beside_61 (by decide) ?_
  refine e_isub dX11_beside_62 ?_
  refine e_i2l dX11_beside_63 ?_
  refine e_callS (st := []) ml_RX11_118 k_X11_in (m_X11_in (d := d - 1) (by omega) rfl) rfl rfl (Nat.le_of_ble_eq_true rfl) ⟨by omega, by decide⟩ ⟨Nat.le_refl _, Nat.le_refl _⟩ dX11_beside_64 ?_
  refine e_if_eq (t := 99) dX11_beside_67 (by decide) (fun c => ?_) (fun c => ?_)
  · replace hf := e_it c hf
    refine e_iconst (v := (-1)) dX11_beside_99 (by decide) ?_
    exact e_iret rfl dX11_beside_100 (qP hf)
  · replace hf := e_ie c hf
    refine e_iload 0 dX11_beside_70 rfl ?_
    refine e_i2l dX11_beside_72 ?_
    refine e_lconst (v := 0) dX11_beside_73 (by decide) ?_
    refine e_aload_n 1 dX11_beside_74 rfl rfl ?_
    refine e_getI hO5 fc_11_4 lk_RX11_31 dX11_beside_75 ?_
    refine e_iconst (v := 1) dX11_beside_78 (by decide) ?_
    refine e_isub dX11_beside_79 ?_
    refine e_i2l dX11_beside_80 ?_
    refine e_callS (st := []) ml_RX11_118 k_X11_in (m_X11_in (d := d - 1) (by omega) rfl) rfl rfl (Nat.le_of_ble_eq_true rfl) ⟨by omega, by decide⟩ ⟨Nat.le_refl _, Nat.le_refl _⟩ dX11_beside_81 ?_
    refine e_if_eq (t := 99) dX11_beside_84 (by decide) (fun c => ?_) (fun c => ?_)
    · replace hf := e_it c hf
      refine e_iconst (v := (-1)) dX11_beside_99 (by decide) ?_
      exact e_iret rfl dX11_beside_100 (qP hf)
    · replace hf := e_ie c hf
      refine e_aload_n 1 dX11_beside_87 rfl rfl ?_
      refine e_getI hO5 fc_11_4 lk_RX11_31 dX11_beside_88 ?_
      refine e_iload_n 2 dX11_beside_91 rfl rfl ?_
      refine e_imul dX11_beside_92 ?_
      refine e_iload 0 dX11_beside_93 rfl ?_
      refine e_iadd dX11_beside_95 ?_
      refine e_goto (t := 100) dX11_beside_96 (by decide) ?_
      exact e_iret rfl dX11_beside_100 (qP hf)
def f_X11_beside_J24 (L : eL) (h : eH) (v0 : Nat) (v1 : Int32) (v2 : Int32) (s0 : Int32) (s1 : Int32) : Option Int32 :=
  if isO L v0 11 = true then
  if (gI h v0 4) = 0 then none else
  if v2 = 1 then
    f_X11_beside_J51 L h v0 (s0 + s1) (v1 - v1 / (gI h v0 4) * (gI h v0 4)) 1
  else
    if v2 = 3 then
      f_X11_beside_J51 L h v0 (s0 + s1) (v1 - v1 / (gI h v0 4) * (gI h v0 4)) (-1)
    else
      f_X11_beside_J51 L h v0 (s0 + s1) (v1 - v1 / (gI h v0 4) * (gI h v0 4)) 0
  else none
set_option maxRecDepth 100000 in
set_option maxHeartbeats 4000000 in
theorem m_X11_beside_J24 {l : Launch} {d : Nat} {L : eL} {h : eH} {r : Int32} (hd : 2 ≤ d)  : ∀ (v0 : Nat) (v1 : Int32) (v2 : Int32) (s0 : Int32) (s1 : Int32), f_X11_beside_J24 L h v0 v1 v2 s0 s1 = some r → E l yX11_beside cX11_beside 5 (some .int) (e_rm d 0 0) 0 0 true L (Qx (some (.int r)) L h) L h 0 0 24 [(0, .ref v0), (1, .int v1), (2, .int v2)] [.int s1, .int s0] := by
  intro v0 v1 v2 s0 s1 hf
  unfold f_X11_beside_J24 at hf
  refine e_iadd dX11_beside_24 ?_
  refine e_istore_n (lv' := [(3, .int _), (0, .ref _), (1, .int _), (2, .int _)]) dX11_beside_25 rfl (by decide) rfl ?_
  refine e_iload_n 2 dX11_beside_26 rfl rfl ?_
  refine e_aload_n 1 dX11_beside_27 rfl rfl ?_
  obtain ⟨hO3, hf⟩ := e_if hf
  refine e_getI hO3 fc_11_4 lk_RX11_31 dX11_beside_28 ?_
  obtain ⟨hz4, hf⟩ := e_ifp hf
  refine e_irem dX11_beside_31 hz4 ?_
  refine e_iload_n 3 dX11_beside_32 rfl rfl ?_
  refine e_iconst (v := 1) dX11_beside_33 (by decide) ?_
  refine e_icmp_ne (t := 41) dX11_beside_34 (by decide) (fun c => ?_) (fun c => ?_)
  · replace hf := e_ie c hf
    refine e_iload_n 3 dX11_beside_41 rfl rfl ?_
    refine e_iconst (v := 3) dX11_beside_42 (by decide) ?_
    refine e_icmp_ne (t := 50) dX11_beside_43 (by decide) (fun c => ?_) (fun c => ?_)
    · replace hf := e_ie c hf
      refine e_iconst (v := 0) dX11_beside_50 (by decide) ?_
      refine e_sub [1, 0] rfl ?_
      exact m_X11_beside_J51 hd _ _ _ _ hf
    · replace hf := e_it c hf
      refine e_iconst (v := (-1)) dX11_beside_46 (by decide) ?_
      refine e_goto (t := 51) dX11_beside_47 (by decide) ?_
      refine e_sub [1, 0] rfl ?_
      exact m_X11_beside_J51 hd _ _ _ _ hf
  · replace hf := e_it c hf
    refine e_iconst (v := 1) dX11_beside_37 (by decide) ?_
    refine e_goto (t := 51) dX11_beside_38 (by decide) ?_
    refine e_sub [1, 0] rfl ?_
    exact m_X11_beside_J51 hd _ _ _ _ hf
def f_X11_beside (L : eL) (h : eH) (v0 : Nat) (v1 : Int32) (v2 : Int32) : Option Int32 :=
  if isO L v0 11 = true then
  if (gI h v0 4) = 0 then none else
  if v2 = 2 then
    f_X11_beside_J24 L h v0 v1 v2 (v1 / (gI h v0 4)) 1
  else
    if v2 = 0 then
      f_X11_beside_J24 L h v0 v1 v2 (v1 / (gI h v0 4)) (-1)
    else
      f_X11_beside_J24 L h v0 v1 v2 (v1 / (gI h v0 4)) 0
  else none
set_option maxRecDepth 100000 in
set_option maxHeartbeats 4000000 in
theorem m_X11_beside {l : Launch} {d : Nat} {L : eL} {h : eH} {v0 : Nat} {v1 : Int32} {v2 : Int32} {r : Int32} (hd : 2 ≤ d) (hf : f_X11_beside L h v0 v1 v2 = some r) : e_Met l yX11_beside cX11_beside 5 (some .int) d 0 0 true L h [.ref v0, .int v1, .int v2] (Qx (some (.int r)) L h) := by
  refine e_metl (by decide) (Nat.le_of_ble_eq_true rfl) (lv := [(0, .ref v0), (1, .int v1), (2, .int v2)]) rfl ?_
  unfold f_X11_beside at hf
  refine e_iload_n 1 dX11_beside_0 rfl rfl ?_
  refine e_aload_n 0 dX11_beside_1 rfl rfl ?_
  obtain ⟨hO1, hf⟩ := e_if hf
  refine e_getI hO1 fc_11_4 lk_RX11_31 dX11_beside_2 ?_
  obtain ⟨hz2, hf⟩ := e_ifp hf
  refine e_idiv dX11_beside_5 hz2 ?_
  refine e_iload_n 2 dX11_beside_6 rfl rfl ?_
  refine e_iconst (v := 2) dX11_beside_7 (by decide) ?_
  refine e_icmp_ne (t := 15) dX11_beside_8 (by decide) (fun c => ?_) (fun c => ?_)
  · replace hf := e_ie c hf
    refine e_iload_n 2 dX11_beside_15 rfl rfl ?_
    refine e_if_ne (t := 23) dX11_beside_16 (by decide) (fun c => ?_) (fun c => ?_)
    · replace hf := e_ie c hf
      refine e_iconst (v := 0) dX11_beside_23 (by decide) ?_
      exact m_X11_beside_J24 hd _ _ _ _ _ hf
    · replace hf := e_it c hf
      refine e_iconst (v := (-1)) dX11_beside_19 (by decide) ?_
      refine e_goto (t := 24) dX11_beside_20 (by decide) ?_
      exact m_X11_beside_J24 hd _ _ _ _ _ hf
  · replace hf := e_it c hf
    refine e_iconst (v := 1) dX11_beside_11 (by decide) ?_
    refine e_goto (t := 24) dX11_beside_12 (by decide) ?_
    exact m_X11_beside_J24 hd _ _ _ _ _ hf
def f_X11_machine (L : eL) (h : eH) (v0 : Nat) (v1 : Int32) : Option (eH × Int32) :=
  if isO L v0 11 = true then
  if (f_X11_in v1.toInt64 0 7) = 0 then
    (f_X11_refuse L (sI h v0 0 0) v0).bind fun r17 =>
    some (r17.1, r17.2)
  else
    if 6 ≤ v1 then
      if v1 = 6 then
        (gR (sI h v0 0 0) v0 7).bind fun b10 =>
        (f_X11_turnOf L (sI h v0 0 0) v0 b10).bind fun r12 =>
        some (r12.1, r12.2)
      else
        (gR (sI h v0 0 0) v0 7).bind fun b2 =>
        if inA L b2 0 72 = true then
        (gR (sI h v0 0 0) v0 7).bind fun b5 =>
        if inA L b5 0 73 = true then
        (f_X11_beside L (sI h v0 0 0) v0 (gI (sI h v0 0 0) b2 (72 : Int32).toNatClampNeg) (gI (sI h v0 0 0) b5 (73 : Int32).toNatClampNeg)).bind fun r8 =>
        some (sI h v0 0 0, r8)
        else none
        else none
    else
      (gR (sI h v0 0 0) v0 7).bind fun b14 =>
      if inA L b14 0 (72 + v1) = true then
      some (sI h v0 0 0, gI (sI h v0 0 0) b14 (72 + v1).toNatClampNeg)
      else none
  else none
set_option maxRecDepth 100000 in
set_option maxHeartbeats 4000000 in
theorem m_X11_machine {l : Launch} {d : Nat} {L : eL} {h : eH} {v0 : Nat} {v1 : Int32} {r : eH × Int32} (hd : 5 ≤ d) (hf : f_X11_machine L h v0 v1 = some r) : e_Met l yX11_machine cX11_machine 2 (some .int) d 0 0 true L h [.ref v0, .int v1] (Qx (some (.int r.2)) L r.1) := by
  refine e_metl (by decide) (Nat.le_of_ble_eq_true rfl) (lv := [(0, .ref v0), (1, .int v1)]) rfl ?_
  unfold f_X11_machine at hf
  refine e_aload_n 0 dX11_machine_0 rfl rfl ?_
  refine e_iconst (v := 0) dX11_machine_1 (by decide) ?_
  obtain ⟨hO1, hf⟩ := e_if hf
  refine e_putI hO1 fc_11_0 rfl lk_RX11_3 dX11_machine_2 ?_
  refine e_iload_n 1 dX11_machine_5 rfl rfl ?_
  refine e_i2l dX11_machine_6 ?_
  refine e_lconst (v := 0) dX11_machine_7 (by decide) ?_
  refine e_ldc2 kc_RX11_245 dX11_machine_8 ?_
  refine e_callS (st := []) ml_RX11_118 k_X11_in (m_X11_in (d := d - 1) (by omega) rfl) rfl rfl (Nat.le_of_ble_eq_true rfl) ⟨by omega, by decide⟩ ⟨Nat.le_refl _, Nat.le_refl _⟩ dX11_machine_11 ?_
  refine e_if_ne (t := 22) dX11_machine_14 (by decide) (fun c => ?_) (fun c => ?_)
  · replace hf := e_ie c hf
    refine e_iload_n 1 dX11_machine_22 rfl rfl ?_
    refine e_bipush (v := 6) dX11_machine_23 (by decide) ?_
    refine e_icmp_ge (t := 40) dX11_machine_25 (by decide) (fun c => ?_) (fun c => ?_)
    · replace hf := e_it c hf
      refine e_iload_n 1 dX11_machine_40 rfl rfl ?_
      refine e_bipush (v := 6) dX11_machine_41 (by decide) ?_
      refine e_icmp_ne (t := 57) dX11_machine_43 (by decide) (fun c => ?_) (fun c => ?_)
      · replace hf := e_ie c hf
        refine e_aload_n 0 dX11_machine_57 rfl rfl ?_
        refine e_aload_n 0 dX11_machine_58 rfl rfl ?_
        obtain ⟨b2, hb3, hf⟩ := e_bd hf
        refine e_getR hO1 fc_11_7 lk_RX11_41 dX11_machine_59 hb3 ?_
        refine e_bipush (v := 72) dX11_machine_62 (by decide) ?_
        obtain ⟨hI4, hf⟩ := e_if hf
        refine e_iald hI4 dX11_machine_64 ?_
        refine e_aload_n 0 dX11_machine_65 rfl rfl ?_
        obtain ⟨b5, hb6, hf⟩ := e_bd hf
        refine e_getR hO1 fc_11_7 lk_RX11_41 dX11_machine_66 hb6 ?_
        refine e_bipush (v := 73) dX11_machine_69 (by decide) ?_
        obtain ⟨hI7, hf⟩ := e_if hf
        refine e_iald hI7 dX11_machine_71 ?_
        obtain ⟨r8, hr9, hf⟩ := e_bd hf
        refine e_callV (st := []) ml_RX11_251 k_X11_beside (m_X11_beside (d := d - 1) (by omega) hr9) hO1 ⟨by decide, rfl⟩ rfl rfl (Nat.le_of_ble_eq_true rfl) ⟨by omega, by decide⟩ ⟨Nat.le_refl _, Nat.le_refl _⟩ dX11_machine_72 ?_
        exact e_iret rfl dX11_machine_75 (qW hf)
      · replace hf := e_it c hf
        refine e_aload_n 0 dX11_machine_46 rfl rfl ?_
        refine e_aload_n 0 dX11_machine_47 rfl rfl ?_
        obtain ⟨b10, hb11, hf⟩ := e_bd hf
        refine e_getR hO1 fc_11_7 lk_RX11_41 dX11_machine_48 hb11 ?_
        obtain ⟨r12, hr13, hf⟩ := e_bd hf
        refine e_callV (st := []) ml_RX11_247 k_X11_turnOf (m_X11_turnOf (d := d - 1) (by omega) hr13) hO1 ⟨by decide, rfl⟩ rfl rfl (Nat.le_of_ble_eq_true rfl) ⟨by omega, by decide⟩ ⟨Nat.le_refl _, Nat.le_refl _⟩ dX11_machine_51 ?_
        refine e_goto (t := 75) dX11_machine_54 (by decide) ?_
        exact e_iret rfl dX11_machine_75 (qW hf)
    · replace hf := e_ie c hf
      refine e_aload_n 0 dX11_machine_28 rfl rfl ?_
      obtain ⟨b14, hb15, hf⟩ := e_bd hf
      refine e_getR hO1 fc_11_7 lk_RX11_41 dX11_machine_29 hb15 ?_
      refine e_bipush (v := 72) dX11_machine_32 (by decide) ?_
      refine e_iload_n 1 dX11_machine_34 rfl rfl ?_
      refine e_iadd dX11_machine_35 ?_
      obtain ⟨hI16, hf⟩ := e_if hf
      refine e_iald hI16 dX11_machine_36 ?_
      refine e_goto (t := 75) dX11_machine_37 (by decide) ?_
      exact e_iret rfl dX11_machine_75 (qW hf)
  · replace hf := e_it c hf
    refine e_aload_n 0 dX11_machine_17 rfl rfl ?_
    obtain ⟨r17, hr18, hf⟩ := e_bd hf
    refine e_callV (st := []) ml_RX11_238 k_X11_refuse (m_X11_refuse (d := d - 1) (by omega) hr18) hO1 ⟨by decide, rfl⟩ rfl rfl (Nat.le_of_ble_eq_true rfl) ⟨by omega, by decide⟩ ⟨Nat.le_refl _, Nat.le_refl _⟩ dX11_machine_18 ?_
    exact e_iret rfl dX11_machine_21 (qW hf)
def f_X11_sheet_J122 (L : eL) (k46 : eH → Nat → Int32 → Int32 → Int32 → Int32 → Int32 → Int32 → Option (eH × Int32)) (k148 : eH → Int32 → Int32 → Option (eH × Int32)) (h : eH) (v0 : Nat) (v1 : Int32) (v2 : Int32) (v4 : Int32) (v5 : Int32) (v6 : Int32) (v7 : Int32) (s0 : Nat) (s1 : Int32) (s2 : Int32) : Option (eH × Int32) :=
  if inA L s0 0 s1 = true then
  if isO L v0 11 = true then
  (gR (sI h s0 s1.toNatClampNeg s2) v0 7).bind fun b10 =>
  if inA L b10 0 v7 = true then
  k46 (sI h s0 s1.toNatClampNeg s2) v0 v1 v2 v4 (v5 + (gI (sI h s0 s1.toNatClampNeg s2) b10 v7.toNatClampNeg)) (v6 + v4) (v7 + Int32.ofInt 1)
  else none
  else none
  else none
set_option maxRecDepth 100000 in
set_option maxHeartbeats 4000000 in
theorem m_X11_sheet_J122 {l : Launch} {d : Nat} {L : eL}  {r : eH × Int32} {k46 : eH → Nat → Int32 → Int32 → Int32 → Int32 → Int32 → Int32 → Option (eH × Int32)} {k148 : eH → Int32 → Int32 → Option (eH × Int32)} (hd : 3 ≤ d) (hk46 : ∀ (h : eH) (v0 : Nat) (v1 : Int32) (v2 : Int32) (v4 : Int32) (v5 : Int32) (v6 : Int32) (v7 : Int32), k46 h v0 v1 v2 v4 v5 v6 v7 = some r → E l yX11_sheet cX11_sheet 9 (some .int) (e_rm d 0 0) 0 0 true L (Qx (some (.int r.2)) L r.1) L h 0 0 46 [(0, .ref v0), (1, .int v1), (2, .int v2), (4, .int v4), (5, .int v5), (6, .int v6), (7, .int v7)] []) (hk148 : ∀ (h : eH) (v1 : Int32) (v5 : Int32), k148 h v1 v5 = some r → E l yX11_sheet cX11_sheet 9 (some .int) (e_rm d 0 0) 0 0 true L (Qx (some (.int r.2)) L r.1) L h 0 0 148 [(1, .int v1), (5, .int v5)] []) : ∀ (h : eH) (v0 : Nat) (v1 : Int32) (v2 : Int32) (v4 : Int32) (v5 : Int32) (v6 : Int32) (v7 : Int32) (s0 : Nat) (s1 : Int32) (s2 : Int32), f_X11_sheet_J122 L k46 k148 h v0 v1 v2 v4 v5 v6 v7 s0 s1 s2 = some r → E l yX11_sheet cX11_sheet 9 (some .int) (e_rm d 0 0) 0 0 true L (Qx (some (.int r.2)) L r.1) L h 0 0 122 [(0, .ref v0), (1, .int v1), (2, .int v2), (4, .int v4), (5, .int v5), (6, .int v6), (7, .int v7)] [.int s2, .int s1, .ref s0] := by
  intro h v0 v1 v2 v4 v5 v6 v7 s0 s1 s2 hf
  unfold f_X11_sheet_J122 at hf
  obtain ⟨hI8, hf⟩ := e_if hf
  refine e_iast hI8 dX11_sheet_122 ?_
  refine e_iload 4 dX11_sheet_123 rfl ?_
  refine e_aload_n 0 dX11_sheet_125 rfl rfl ?_
  obtain ⟨hO9, hf⟩ := e_if hf
  obtain ⟨b10, hb11, hf⟩ := e_bd hf
  refine e_getR hO9 fc_11_7 lk_RX11_41 dX11_sheet_126 hb11 ?_
  refine e_iload 6 dX11_sheet_129 rfl ?_
  obtain ⟨hI12, hf⟩ := e_if hf
  refine e_iald hI12 dX11_sheet_131 ?_
  refine e_iadd dX11_sheet_132 ?_
  refine e_istore (lv' := [(5, .int _), (0, .ref _), (1, .int _), (2, .int _), (4, .int _), (6, .int _), (7, .int _)]) dX11_sheet_133 (by decide) rfl ?_
  refine e_iload 5 dX11_sheet_135 rfl ?_
  refine e_iload 4 dX11_sheet_137 rfl ?_
  refine e_iadd dX11_sheet_139 ?_
  refine e_istore (lv' := [(6, .int _), (5, .int _), (0, .ref _), (1, .int _), (2, .int _), (4, .int _), (7, .int _)]) dX11_sheet_140 (by decide) rfl ?_
  refine e_iinc (lv' := [(7, .int _), (6, .int _), (5, .int _), (0, .ref _), (1, .int _), (2, .int _), (4, .int _)]) 6 dX11_sheet_142 rfl (by decide) rfl ?_
  refine e_goto (t := 46) dX11_sheet_145 (by decide) ?_
  refine e_sub [3, 4, 5, 6, 2, 1, 0] rfl ?_
  exact hk46 _ _ _ _ _ _ _ _ hf
def f_X11_sheet_J78 (L : eL) (k46 : eH → Nat → Int32 → Int32 → Int32 → Int32 → Int32 → Int32 → Option (eH × Int32)) (k148 : eH → Int32 → Int32 → Option (eH × Int32)) (h : eH) (v0 : Nat) (v1 : Int32) (v2 : Int32) (v4 : Int32) (v5 : Int32) (v6 : Int32) (v7 : Int32) (s0 : Int32) : Option (eH × Int32) :=
  if isO L v0 11 = true then
  (gR h v0 7).bind fun b6 =>
  if v1 = 3 then
    f_X11_sheet_J122 L k46 k148 h v0 v1 v2 v4 v5 v6 v7 b6 v7 0
  else
    if v2 ≤ v7 then
      f_X11_sheet_J122 L k46 k148 h v0 v1 v2 v4 v5 v6 v7 b6 v7 0
    else
      (gR h v0 6).bind fun b13 =>
      if inA L b13 0 v7 = true then
      if (gI h b13 v7.toNatClampNeg) = 0 then
        f_X11_sheet_J122 L k46 k148 h v0 v1 v2 v4 v5 v6 v7 b6 v7 0
      else
        f_X11_sheet_J122 L k46 k148 h v0 v1 v2 v4 v5 v6 v7 b6 v7 (mxI 0 (mnI 99 s0))
      else none
  else none
set_option maxRecDepth 100000 in
set_option maxHeartbeats 4000000 in
theorem m_X11_sheet_J78 {l : Launch} {d : Nat} {L : eL}  {r : eH × Int32} {k46 : eH → Nat → Int32 → Int32 → Int32 → Int32 → Int32 → Int32 → Option (eH × Int32)} {k148 : eH → Int32 → Int32 → Option (eH × Int32)} (hd : 3 ≤ d) (hk46 : ∀ (h : eH) (v0 : Nat) (v1 : Int32) (v2 : Int32) (v4 : Int32) (v5 : Int32) (v6 : Int32) (v7 : Int32), k46 h v0 v1 v2 v4 v5 v6 v7 = some r → E l yX11_sheet cX11_sheet 9 (some .int) (e_rm d 0 0) 0 0 true L (Qx (some (.int r.2)) L r.1) L h 0 0 46 [(0, .ref v0), (1, .int v1), (2, .int v2), (4, .int v4), (5, .int v5), (6, .int v6), (7, .int v7)] []) (hk148 : ∀ (h : eH) (v1 : Int32) (v5 : Int32), k148 h v1 v5 = some r → E l yX11_sheet cX11_sheet 9 (some .int) (e_rm d 0 0) 0 0 true L (Qx (some (.int r.2)) L r.1) L h 0 0 148 [(1, .int v1), (5, .int v5)] []) : ∀ (h : eH) (v0 : Nat) (v1 : Int32) (v2 : Int32) (v4 : Int32) (v5 : Int32) (v6 : Int32) (v7 : Int32) (s0 : Int32), f_X11_sheet_J78 L k46 k148 h v0 v1 v2 v4 v5 v6 v7 s0 = some r → E l yX11_sheet cX11_sheet 9 (some .int) (e_rm d 0 0) 0 0 true L (Qx (some (.int r.2)) L r.1) L h 0 0 78 [(0, .ref v0), (1, .int v1), (2, .int v2), (4, .int v4), (5, .int v5), (6, .int v6), (7, .int v7)] [.int s0] := by
  intro h v0 v1 v2 v4 v5 v6 v7 s0 hf
  unfold f_X11_sheet_J78 at hf
  refine e_istore (lv' := [(8, .int _), (0, .ref _), (1, .int _), (2, .int _), (4, .int _), (5, .int _), (6, .int _), (7, .int _)]) dX11_sheet_78 (by decide) rfl ?_
  refine e_aload_n 1 dX11_sheet_80 rfl rfl ?_
  obtain ⟨hO5, hf⟩ := e_if hf
  obtain ⟨b6, hb7, hf⟩ := e_bd hf
  refine e_getR hO5 fc_11_7 lk_RX11_41 dX11_sheet_81 hb7 ?_
  refine e_iload 7 dX11_sheet_84 rfl ?_
  refine e_iload_n 2 dX11_sheet_86 rfl rfl ?_
  refine e_iconst (v := 3) dX11_sheet_87 (by decide) ?_
  refine e_icmp_eq (t := 107) dX11_sheet_88 (by decide) (fun c => ?_) (fun c => ?_)
  · replace hf := e_it c hf
    refine e_iconst (v := 0) dX11_sheet_107 (by decide) ?_
    refine e_goto (t := 122) dX11_sheet_108 (by decide) ?_
    refine e_sub [1, 2, 3, 4, 5, 6, 7] rfl ?_
    exact m_X11_sheet_J122 hd hk46 hk148 _ _ _ _ _ _ _ _ _ _ _ hf
  · replace hf := e_ie c hf
    refine e_iload 7 dX11_sheet_91 rfl ?_
    refine e_iload_n 3 dX11_sheet_93 rfl rfl ?_
    refine e_icmp_ge (t := 107) dX11_sheet_94 (by decide) (fun c => ?_) (fun c => ?_)
    · replace hf := e_it c hf
      refine e_iconst (v := 0) dX11_sheet_107 (by decide) ?_
      refine e_goto (t := 122) dX11_sheet_108 (by decide) ?_
      refine e_sub [1, 2, 3, 4, 5, 6, 7] rfl ?_
      exact m_X11_sheet_J122 hd hk46 hk148 _ _ _ _ _ _ _ _ _ _ _ hf
    · replace hf := e_ie c hf
      refine e_aload_n 1 dX11_sheet_97 rfl rfl ?_
      obtain ⟨b13, hb14, hf⟩ := e_bd hf
      refine e_getR hO5 fc_11_6 lk_RX11_37 dX11_sheet_98 hb14 ?_
      refine e_iload 7 dX11_sheet_101 rfl ?_
      obtain ⟨hI15, hf⟩ := e_if hf
      refine e_iald hI15 dX11_sheet_103 ?_
      refine e_if_ne (t := 111) dX11_sheet_104 (by decide) (fun c => ?_) (fun c => ?_)
      · replace hf := e_ie c hf
        refine e_iconst (v := 0) dX11_sheet_111 (by decide) ?_
        refine e_bipush (v := 99) dX11_sheet_112 (by decide) ?_
        refine e_iload 0 dX11_sheet_114 rfl ?_
        refine e_mn ml_RX11_135 (by omega) (Nat.le_of_ble_eq_true rfl) ⟨Nat.le_refl _, Nat.le_refl _⟩ dX11_sheet_116 ?_
        refine e_mx ml_RX11_256 (by omega) (Nat.le_of_ble_eq_true rfl) ⟨Nat.le_refl _, Nat.le_refl _⟩ dX11_sheet_119 ?_
        refine e_sub [1, 2, 3, 4, 5, 6, 7] rfl ?_
        exact m_X11_sheet_J122 hd hk46 hk148 _ _ _ _ _ _ _ _ _ _ _ hf
      · replace hf := e_it c hf
        refine e_iconst (v := 0) dX11_sheet_107 (by decide) ?_
        refine e_goto (t := 122) dX11_sheet_108 (by decide) ?_
        refine e_sub [1, 2, 3, 4, 5, 6, 7] rfl ?_
        exact m_X11_sheet_J122 hd hk46 hk148 _ _ _ _ _ _ _ _ _ _ _ hf
def f_X11_sheet_L46 (L : eL) : Nat → (eH → Int32 → Int32 → Option (eH × Int32)) → eH → Nat → Int32 → Int32 → Int32 → Int32 → Int32 → Int32 → Option (eH × Int32)
  | 0, _, _, _, _, _, _, _, _, _ => none
  | n + 1, k148, h, v0, v1, v2, v4, v5, v6, v7 =>
    if isO L v0 11 = true then
    (f_X11_spots L h v0).bind fun r3 =>
    if r3 ≤ v7 then
      k148 h v1 v5
    else
      if v1 = 0 then
        f_X11_sheet_J78 L (f_X11_sheet_L46 L n k148) k148 h v0 v1 v2 v4 v5 v6 v7 v6.toInt8.toInt32
      else
        if v1 = 1 then
          f_X11_sheet_J78 L (f_X11_sheet_L46 L n k148) k148 h v0 v1 v2 v4 v5 v6 v7 v6.toInt16.toInt32
        else
          f_X11_sheet_J78 L (f_X11_sheet_L46 L n k148) k148 h v0 v1 v2 v4 v5 v6 v7 v6
    else none
set_option maxRecDepth 100000 in
set_option maxHeartbeats 4000000 in
theorem m_X11_sheet_L46 {l : Launch} {d : Nat} {L : eL}  {r : eH × Int32} {k148 : eH → Int32 → Int32 → Option (eH × Int32)} (hd : 3 ≤ d) (hk148 : ∀ (h : eH) (v1 : Int32) (v5 : Int32), k148 h v1 v5 = some r → E l yX11_sheet cX11_sheet 9 (some .int) (e_rm d 0 0) 0 0 true L (Qx (some (.int r.2)) L r.1) L h 0 0 148 [(1, .int v1), (5, .int v5)] []) : ∀ (n : Nat) (h : eH) (v0 : Nat) (v1 : Int32) (v2 : Int32) (v4 : Int32) (v5 : Int32) (v6 : Int32) (v7 : Int32), f_X11_sheet_L46 L n k148 h v0 v1 v2 v4 v5 v6 v7 = some r → E l yX11_sheet cX11_sheet 9 (some .int) (e_rm d 0 0) 0 0 true L (Qx (some (.int r.2)) L r.1) L h 0 0 46 [(0, .ref v0), (1, .int v1), (2, .int v2), (4, .int v4), (5, .int v5), (6, .int v6), (7, .int v7)] [] := by
  intro n
  induction n with
  | zero => intro h v0 v1 v2 v4 v5 v6 v7 hf; exact absurd hf (by simp [f_X11_sheet_L46])
  | succ n ih =>
    intro h v0 v1 v2 v4 v5 v6 v7 hf
    unfold f_X11_sheet_L46 at hf
    refine e_iload 6 dX11_sheet_46 rfl ?_
    refine e_aload_n 0 dX11_sheet_48 rfl rfl ?_
    obtain ⟨hO2, hf⟩ := e_if hf
    obtain ⟨r3, hr4, hf⟩ := e_bd hf
    refine e_callV (st := [.int _]) ml_RX11_114 k_X11_spots (m_X11_spots (d := d - 1) (by omega) hr4) hO2 ⟨by decide, rfl⟩ rfl rfl (Nat.le_of_ble_eq_true rfl) ⟨by omega, by decide⟩ ⟨Nat.le_refl _, Nat.le_refl _⟩ dX11_sheet_49 ?_
    refine e_icmp_ge (t := 148) dX11_sheet_52 (by decide) (fun c => ?_) (fun c => ?_)
    · replace hf := e_it c hf
      refine e_sub [1, 4] rfl ?_
      exact hk148 _ _ _ hf
    · replace hf := e_ie c hf
      refine e_iload_n 1 dX11_sheet_55 rfl rfl ?_
      refine e_if_ne (t := 65) dX11_sheet_56 (by decide) (fun c => ?_) (fun c => ?_)
      · replace hf := e_ie c hf
        refine e_iload_n 1 dX11_sheet_65 rfl rfl ?_
        refine e_iconst (v := 1) dX11_sheet_66 (by decide) ?_
        refine e_icmp_ne (t := 76) dX11_sheet_67 (by decide) (fun c => ?_) (fun c => ?_)
        · replace hf := e_ie c hf
          refine e_iload 5 dX11_sheet_76 rfl ?_
          exact m_X11_sheet_J78 hd ih hk148 _ _ _ _ _ _ _ _ _ hf
        · replace hf := e_it c hf
          refine e_iload 5 dX11_sheet_70 rfl ?_
          refine e_i2s dX11_sheet_72 ?_
          refine e_goto (t := 78) dX11_sheet_73 (by decide) ?_
          exact m_X11_sheet_J78 hd ih hk148 _ _ _ _ _ _ _ _ _ hf
      · replace hf := e_it c hf
        refine e_iload 5 dX11_sheet_59 rfl ?_
        refine e_i2b dX11_sheet_61 ?_
        refine e_goto (t := 78) dX11_sheet_62 (by decide) ?_
        exact m_X11_sheet_J78 hd ih hk148 _ _ _ _ _ _ _ _ _ hf
def f_X11_sheet (L : eL) (h : eH) (v0 : Nat) (v1 : Int32) (v2 : Int32) (v3 : Int32) (v4 : Int32) : Option (eH × Int32) :=
  if isO L v0 11 = true then
  if (f_X11_in v1.toInt64 0 3) = 0 then
    some (sI h v0 0 0, (-1))
  else
    if v2 ≤ 36 then
      if v1 = 3 then
        f_X11_sheet_L46 L e_fu (fun (h16 : eH) (w1_17 : Int32) (w5_18 : Int32) =>
          if w1_17 = 3 then
            some (h16, (-3))
          else
            some (h16, w5_18)) (sI h v0 0 0) v0 v1 v2 v4 0 v3 0
      else
        if 0 ≤ v2 then
          f_X11_sheet_L46 L e_fu (fun (h19 : eH) (w1_20 : Int32) (w5_21 : Int32) =>
            if w1_20 = 3 then
              some (h19, (-3))
            else
              some (h19, w5_21)) (sI h v0 0 0) v0 v1 v2 v4 0 v3 0
        else
          some (sI h v0 0 0, (-2))
    else
      some (sI h v0 0 0, (-1))
  else none
set_option maxRecDepth 100000 in
set_option maxHeartbeats 4000000 in
theorem m_X11_sheet {l : Launch} {d : Nat} {L : eL} {h : eH} {v0 : Nat} {v1 : Int32} {v2 : Int32} {v3 : Int32} {v4 : Int32} {r : eH × Int32} (hd : 3 ≤ d) (hf : f_X11_sheet L h v0 v1 v2 v3 v4 = some r) : e_Met l yX11_sheet cX11_sheet 9 (some .int) d 0 0 true L h [.ref v0, .int v1, .int v2, .int v3, .int v4] (Qx (some (.int r.2)) L r.1) := by
  refine e_metl (by decide) (Nat.le_of_ble_eq_true rfl) (lv := [(0, .ref v0), (1, .int v1), (2, .int v2), (3, .int v3), (4, .int v4)]) rfl ?_
  unfold f_X11_sheet at hf
  refine e_aload_n 0 dX11_sheet_0 rfl rfl ?_
  refine e_iconst (v := 0) dX11_sheet_1 (by decide) ?_
  obtain ⟨hO1, hf⟩ := e_if hf
  refine e_putI hO1 fc_11_0 rfl lk_RX11_3 dX11_sheet_2 ?_
  refine e_iload_n 1 dX11_sheet_5 rfl rfl ?_
  refine e_i2l dX11_sheet_6 ?_
  refine e_lconst (v := 0) dX11_sheet_7 (by decide) ?_
  refine e_ldc2 kc_RX11_254 dX11_sheet_8 ?_
  refine e_callS (st := []) ml_RX11_118 k_X11_in (m_X11_in (d := d - 1) (by omega) rfl) rfl rfl (Nat.le_of_ble_eq_true rfl) ⟨by omega, by decide⟩ ⟨Nat.le_refl _, Nat.le_refl _⟩ dX11_sheet_11 ?_
  refine e_if_eq (t := 23) dX11_sheet_14 (by decide) (fun c => ?_) (fun c => ?_)
  · replace hf := e_it c hf
    refine e_iconst (v := (-1)) dX11_sheet_23 (by decide) ?_
    exact e_iret rfl dX11_sheet_24 (qW hf)
  · replace hf := e_ie c hf
    refine e_iload_n 2 dX11_sheet_17 rfl rfl ?_
    refine e_bipush (v := 36) dX11_sheet_18 (by decide) ?_
    refine e_icmp_le (t := 25) dX11_sheet_20 (by decide) (fun c => ?_) (fun c => ?_)
    · replace hf := e_it c hf
      refine e_iload_n 1 dX11_sheet_25 rfl rfl ?_
      refine e_iconst (v := 3) dX11_sheet_26 (by decide) ?_
      refine e_icmp_eq (t := 37) dX11_sheet_27 (by decide) (fun c => ?_) (fun c => ?_)
      · replace hf := e_it c hf
        refine e_iconst (v := 0) dX11_sheet_37 (by decide) ?_
        refine e_istore (lv' := [(5, .int _), (0, .ref _), (1, .int _), (2, .int _), (3, .int _), (4, .int _)]) dX11_sheet_38 (by decide) rfl ?_
        refine e_iload_n 4 dX11_sheet_40 rfl rfl ?_
        refine e_istore (lv' := [(6, .int _), (5, .int _), (0, .ref _), (1, .int _), (2, .int _), (3, .int _), (4, .int _)]) dX11_sheet_41 (by decide) rfl ?_
        refine e_iconst (v := 0) dX11_sheet_43 (by decide) ?_
        refine e_istore (lv' := [(7, .int _), (6, .int _), (5, .int _), (0, .ref _), (1, .int _), (2, .int _), (3, .int _), (4, .int _)]) dX11_sheet_44 (by decide) rfl ?_
        refine e_sub [3, 4, 5, 7, 2, 1, 0] rfl ?_
        refine m_X11_sheet_L46 hd ?_ e_fu _ _ _ _ _ _ _ _ hf
        · intro h16 w1_17 w5_18 hf
          refine e_iload_n 0 dX11_sheet_148 rfl rfl ?_
          refine e_iconst (v := 3) dX11_sheet_149 (by decide) ?_
          refine e_icmp_ne (t := 158) dX11_sheet_150 (by decide) (fun c => ?_) (fun c => ?_)
          · replace hf := e_ie c hf
            refine e_iload 1 dX11_sheet_158 rfl ?_
            exact e_iret rfl dX11_sheet_160 (qW hf)
          · replace hf := e_it c hf
            refine e_bipush (v := (-3)) dX11_sheet_153 (by decide) ?_
            refine e_goto (t := 160) dX11_sheet_155 (by decide) ?_
            exact e_iret rfl dX11_sheet_160 (qW hf)
      · replace hf := e_ie c hf
        refine e_iload_n 2 dX11_sheet_30 rfl rfl ?_
        refine e_if_ge (t := 37) dX11_sheet_31 (by decide) (fun c => ?_) (fun c => ?_)
        · replace hf := e_it c hf
          refine e_iconst (v := 0) dX11_sheet_37 (by decide) ?_
          refine e_istore (lv' := [(5, .int _), (0, .ref _), (1, .int _), (2, .int _), (3, .int _), (4, .int _)]) dX11_sheet_38 (by decide) rfl ?_
          refine e_iload_n 4 dX11_sheet_40 rfl rfl ?_
          refine e_istore (lv' := [(6, .int _), (5, .int _), (0, .ref _), (1, .int _), (2, .int _), (3, .int _), (4, .int _)]) dX11_sheet_41 (by decide) rfl ?_
          refine e_iconst (v := 0) dX11_sheet_43 (by decide) ?_
          refine e_istore (lv' := [(7, .int _), (6, .int _), (5, .int _), (0, .ref _), (1, .int _), (2, .int _), (3, .int _), (4, .int _)]) dX11_sheet_44 (by decide) rfl ?_
          refine e_sub [3, 4, 5, 7, 2, 1, 0] rfl ?_
          refine m_X11_sheet_L46 hd ?_ e_fu _ _ _ _ _ _ _ _ hf
          · intro h19 w1_20 w5_21 hf
            refine e_iload_n 0 dX11_sheet_148 rfl rfl ?_
            refine e_iconst (v := 3) dX11_sheet_149 (by decide) ?_
            refine e_icmp_ne (t := 158) dX11_sheet_150 (by decide) (fun c => ?_) (fun c => ?_)
            · replace hf := e_ie c hf
              refine e_iload 1 dX11_sheet_158 rfl ?_
              exact e_iret rfl dX11_sheet_160 (qW hf)
            · replace hf := e_it c hf
              refine e_bipush (v := (-3)) dX11_sheet_153 (by decide) ?_
              refine e_goto (t := 160) dX11_sheet_155 (by decide) ?_
              exact e_iret rfl dX11_sheet_160 (qW hf)
        · replace hf := e_ie c hf
          refine e_bipush (v := (-2)) dX11_sheet_34 (by decide) ?_
          exact e_iret rfl dX11_sheet_36 (qW hf)
    · replace hf := e_ie c hf
      refine e_iconst (v := (-1)) dX11_sheet_23 (by decide) ?_
      exact e_iret rfl dX11_sheet_24 (qW hf)
def f_X11_undo_L26 (L : eL) : Nat → (eH → Nat → Option (eH × Int32)) → eH → Nat → Int32 → Option (eH × Int32)
  | 0, _, _, _, _ => none
  | n + 1, k58, h, v0, v1 =>
    if 79 ≤ v1 then
      k58 h v0
    else
      if isO L v0 11 = true then
      (gR h v0 7).bind fun b5 =>
      (gR h v0 25).bind fun b7 =>
      if inA L b7 0 ((79 * (gI h v0 24)) + v1) = true then
      if inA L b5 0 v1 = true then
      (some (sI h b5 v1.toNatClampNeg (gI h b7 ((79 * (gI h v0 24)) + v1).toNatClampNeg))).bind fun h11 =>
      f_X11_undo_L26 L n k58 h11 v0 (v1 + Int32.ofInt 1)
      else none
      else none
      else none
set_option maxRecDepth 100000 in
set_option maxHeartbeats 4000000 in
theorem m_X11_undo_L26 {l : Launch} {d : Nat} {L : eL}  {r : eH × Int32} {k58 : eH → Nat → Option (eH × Int32)} (hd : 1 ≤ d) (hk58 : ∀ (h : eH) (v0 : Nat), k58 h v0 = some r → E l yX11_undo cX11_undo 2 (some .int) (e_rm d 0 0) 0 0 true L (Qx (some (.int r.2)) L r.1) L h 0 0 58 [(0, .ref v0)] []) : ∀ (n : Nat) (h : eH) (v0 : Nat) (v1 : Int32), f_X11_undo_L26 L n k58 h v0 v1 = some r → E l yX11_undo cX11_undo 2 (some .int) (e_rm d 0 0) 0 0 true L (Qx (some (.int r.2)) L r.1) L h 0 0 26 [(0, .ref v0), (1, .int v1)] [] := by
  intro n
  induction n with
  | zero => intro h v0 v1 hf; exact absurd hf (by simp [f_X11_undo_L26])
  | succ n ih =>
    intro h v0 v1 hf
    unfold f_X11_undo_L26 at hf
    refine e_iload_n 1 dX11_undo_26 rfl rfl ?_
    refine e_bipush (v := 79) dX11_undo_27 (by decide) ?_
    refine e_icmp_ge (t := 58) dX11_undo_29 (by decide) (fun c => ?_) (fun c => ?_)
    · replace hf := e_it c hf
      refine e_sub [0] rfl ?_
      exact hk58 _ _ hf
    · replace hf := e_ie c hf
      refine e_aload_n 0 dX11_undo_32 rfl rfl ?_
      obtain ⟨hO4, hf⟩ := e_if hf
      obtain ⟨b5, hb6, hf⟩ := e_bd hf
      refine e_getR hO4 fc_11_7 lk_RX11_41 dX11_undo_33 hb6 ?_
      refine e_iload_n 1 dX11_undo_36 rfl rfl ?_
      refine e_aload_n 0 dX11_undo_37 rfl rfl ?_
      obtain ⟨b7, hb8, hf⟩ := e_bd hf
      refine e_getR hO4 fc_11_25 lk_RX11_68 dX11_undo_38 hb8 ?_
      refine e_bipush (v := 79) dX11_undo_41 (by decide) ?_
      refine e_aload_n 0 dX11_undo_43 rfl rfl ?_
      refine e_getI hO4 fc_11_24 lk_RX11_189 dX11_undo_44 ?_
      refine e_imul dX11_undo_47 ?_
      refine e_iload_n 1 dX11_undo_48 rfl rfl ?_
      refine e_iadd dX11_undo_49 ?_
      obtain ⟨hI9, hf⟩ := e_if hf
      refine e_iald hI9 dX11_undo_50 ?_
      obtain ⟨hI10, hf⟩ := e_if hf
      refine e_iast hI10 dX11_undo_51 ?_
      obtain ⟨h11, hh12, hf⟩ := e_bd hf
      refine e_hn hh12 ?_
      refine e_iinc (lv' := [(1, .int _), (0, .ref _)]) 1 dX11_undo_52 rfl (by decide) rfl ?_
      refine e_goto (t := 26) dX11_undo_55 (by decide) ?_
      refine e_sub [1, 0] rfl ?_
      exact ih _ _ _ hf
def f_X11_undo (L : eL) (h : eH) (v0 : Nat) : Option (eH × Int32) :=
  if isO L v0 11 = true then
  if (gI (sI h v0 0 0) v0 24) = 0 then
    some (sI h v0 0 0, (-1))
  else
    (some (sI (sI h v0 0 0) v0 24 ((gI (sI h v0 0 0) v0 24) - 1))).bind fun h2 =>
    f_X11_undo_L26 L e_fu (fun (h13 : eH) (w0_14 : Nat) =>
      if isO L w0_14 11 = true then
      some (h13, gI h13 w0_14 24)
      else none) h2 v0 0
  else none
set_option maxRecDepth 100000 in
set_option maxHeartbeats 4000000 in
theorem m_X11_undo {l : Launch} {d : Nat} {L : eL} {h : eH} {v0 : Nat} {r : eH × Int32} (hd : 1 ≤ d) (hf : f_X11_undo L h v0 = some r) : e_Met l yX11_undo cX11_undo 2 (some .int) d 0 0 true L h [.ref v0] (Qx (some (.int r.2)) L r.1) := by
  refine e_metl (by decide) (Nat.le_of_ble_eq_true rfl) (lv := [(0, .ref v0)]) rfl ?_
  unfold f_X11_undo at hf
  refine e_aload_n 0 dX11_undo_0 rfl rfl ?_
  refine e_iconst (v := 0) dX11_undo_1 (by decide) ?_
  obtain ⟨hO1, hf⟩ := e_if hf
  refine e_putI hO1 fc_11_0 rfl lk_RX11_3 dX11_undo_2 ?_
  refine e_aload_n 0 dX11_undo_5 rfl rfl ?_
  refine e_getI hO1 fc_11_24 lk_RX11_189 dX11_undo_6 ?_
  refine e_if_ne (t := 14) dX11_undo_9 (by decide) (fun c => ?_) (fun c => ?_)
  · replace hf := e_ie c hf
    refine e_aload_n 0 dX11_undo_14 rfl rfl ?_
    refine e_dupR dX11_undo_15 ?_
    refine e_getI hO1 fc_11_24 lk_RX11_189 dX11_undo_16 ?_
    refine e_iconst (v := 1) dX11_undo_19 (by decide) ?_
    refine e_isub dX11_undo_20 ?_
    refine e_putI hO1 fc_11_24 rfl lk_RX11_189 dX11_undo_21 ?_
    obtain ⟨h2, hh3, hf⟩ := e_bd hf
    refine e_hn hh3 ?_
    refine e_iconst (v := 0) dX11_undo_24 (by decide) ?_
    refine e_istore_n (lv' := [(1, .int _), (0, .ref _)]) dX11_undo_25 rfl (by decide) rfl ?_
    refine e_sub [1, 0] rfl ?_
    refine m_X11_undo_L26 hd ?_ e_fu _ _ _ hf
    · intro h13 w0_14 hf
      refine e_aload_n 0 dX11_undo_58 rfl rfl ?_
      obtain ⟨hO15, hf⟩ := e_if hf
      refine e_getI hO15 fc_11_24 lk_RX11_189 dX11_undo_59 ?_
      exact e_iret rfl dX11_undo_62 (qW hf)
  · replace hf := e_it c hf
    refine e_iconst (v := (-1)) dX11_undo_12 (by decide) ?_
    exact e_iret rfl dX11_undo_13 (qW hf)
def f_X11_putsBy_L2 (L : eL) : Nat → (eH → Option eH) → eH → Nat → Int32 → Option eH
  | 0, _, _, _, _ => none
  | n + 1, k34, h, v0, v1 =>
    if 79 ≤ v1 then
      k34 h
    else
      if isO L v0 11 = true then
      (gR h v0 25).bind fun b2 =>
      (gR h v0 7).bind fun b4 =>
      if inA L b4 0 v1 = true then
      if inA L b2 0 ((79 * (gI h v0 24)) + v1) = true then
      (some (sI h b2 ((79 * (gI h v0 24)) + v1).toNatClampNeg (gI h b4 v1.toNatClampNeg))).bind fun h8 =>
      f_X11_putsBy_L2 L n k34 h8 v0 (v1 + Int32.ofInt 1)
      else none
      else none
      else none
set_option maxRecDepth 100000 in
set_option maxHeartbeats 4000000 in
theorem m_X11_putsBy_L2 {l : Launch} {d : Nat} {L : eL}  {r : eH} {k34 : eH → Option eH} (hd : 1 ≤ d) (hk34 : ∀ (h : eH), k34 h = some r → E l yX11_putsBy cX11_putsBy 2 none (e_rm d 0 0) 0 0 true L (Qx none L r) L h 0 0 34 [] []) : ∀ (n : Nat) (h : eH) (v0 : Nat) (v1 : Int32), f_X11_putsBy_L2 L n k34 h v0 v1 = some r → E l yX11_putsBy cX11_putsBy 2 none (e_rm d 0 0) 0 0 true L (Qx none L r) L h 0 0 2 [(0, .ref v0), (1, .int v1)] [] := by
  intro n
  induction n with
  | zero => intro h v0 v1 hf; exact absurd hf (by simp [f_X11_putsBy_L2])
  | succ n ih =>
    intro h v0 v1 hf
    unfold f_X11_putsBy_L2 at hf
    refine e_iload_n 1 dX11_putsBy_2 rfl rfl ?_
    refine e_bipush (v := 79) dX11_putsBy_3 (by decide) ?_
    refine e_icmp_ge (t := 34) dX11_putsBy_5 (by decide) (fun c => ?_) (fun c => ?_)
    · replace hf := e_it c hf
      refine e_sub [] rfl ?_
      exact hk34 _ hf
    · replace hf := e_ie c hf
      refine e_aload_n 0 dX11_putsBy_8 rfl rfl ?_
      obtain ⟨hO1, hf⟩ := e_if hf
      obtain ⟨b2, hb3, hf⟩ := e_bd hf
      refine e_getR hO1 fc_11_25 lk_RX11_68 dX11_putsBy_9 hb3 ?_
      refine e_bipush (v := 79) dX11_putsBy_12 (by decide) ?_
      refine e_aload_n 0 dX11_putsBy_14 rfl rfl ?_
      refine e_getI hO1 fc_11_24 lk_RX11_189 dX11_putsBy_15 ?_
      refine e_imul dX11_putsBy_18 ?_
      refine e_iload_n 1 dX11_putsBy_19 rfl rfl ?_
      refine e_iadd dX11_putsBy_20 ?_
      refine e_aload_n 0 dX11_putsBy_21 rfl rfl ?_
      obtain ⟨b4, hb5, hf⟩ := e_bd hf
      refine e_getR hO1 fc_11_7 lk_RX11_41 dX11_putsBy_22 hb5 ?_
      refine e_iload_n 1 dX11_putsBy_25 rfl rfl ?_
      obtain ⟨hI6, hf⟩ := e_if hf
      refine e_iald hI6 dX11_putsBy_26 ?_
      obtain ⟨hI7, hf⟩ := e_if hf
      refine e_iast hI7 dX11_putsBy_27 ?_
      obtain ⟨h8, hh9, hf⟩ := e_bd hf
      refine e_hn hh9 ?_
      refine e_iinc (lv' := [(1, .int _), (0, .ref _)]) 1 dX11_putsBy_28 rfl (by decide) rfl ?_
      refine e_goto (t := 2) dX11_putsBy_31 (by decide) ?_
      refine e_sub [1, 0] rfl ?_
      exact ih _ _ _ hf
def f_X11_putsBy (L : eL) (h : eH) (v0 : Nat) : Option eH :=
  f_X11_putsBy_L2 L e_fu (fun (h10 : eH) =>
    some h10) h v0 0
set_option maxRecDepth 100000 in
set_option maxHeartbeats 4000000 in
theorem m_X11_putsBy {l : Launch} {d : Nat} {L : eL} {h : eH} {v0 : Nat} {r : eH} (hd : 1 ≤ d) (hf : f_X11_putsBy L h v0 = some r) : e_Met l yX11_putsBy cX11_putsBy 2 none d 0 0 true L h [.ref v0] (Qx none L r) := by
  refine e_metl (by decide) (Nat.le_of_ble_eq_true rfl) (lv := [(0, .ref v0)]) rfl ?_
  unfold f_X11_putsBy at hf
  refine e_iconst (v := 0) dX11_putsBy_0 (by decide) ?_
  refine e_istore_n (lv' := [(1, .int _), (0, .ref _)]) dX11_putsBy_1 rfl (by decide) rfl ?_
  refine e_sub [1, 0] rfl ?_
  refine m_X11_putsBy_L2 hd ?_ e_fu _ _ _ hf
  · intro h10 hf
    exact e_vret rfl dX11_putsBy_34 (qV hf)
def f_X11_costOf (L : eL) (h : eH) (v0 : Nat) (v1 : Int32) : Option Int32 :=
  if isO L v0 11 = true then
  (gR h v0 6).bind fun b2 =>
  if inA L b2 0 v1 = true then
  if (gI h b2 v1.toNatClampNeg) = 2 then
    some 2
  else
    some 1
  else none
  else none
set_option maxRecDepth 100000 in
set_option maxHeartbeats 4000000 in
theorem m_X11_costOf {l : Launch} {d : Nat} {L : eL} {h : eH} {v0 : Nat} {v1 : Int32} {r : Int32} (hd : 1 ≤ d) (hf : f_X11_costOf L h v0 v1 = some r) : e_Met l yX11_costOf cX11_costOf 2 (some .int) d 0 0 true L h [.ref v0, .int v1] (Qx (some (.int r)) L h) := by
  refine e_metl (by decide) (Nat.le_of_ble_eq_true rfl) (lv := [(0, .ref v0), (1, .int v1)]) rfl ?_
  unfold f_X11_costOf at hf
  refine e_aload_n 0 dX11_costOf_0 rfl rfl ?_
  obtain ⟨hO1, hf⟩ := e_if hf
  obtain ⟨b2, hb3, hf⟩ := e_bd hf
  refine e_getR hO1 fc_11_6 lk_RX11_37 dX11_costOf_1 hb3 ?_
  refine e_iload_n 1 dX11_costOf_4 rfl rfl ?_
  obtain ⟨hI4, hf⟩ := e_if hf
  refine e_iald hI4 dX11_costOf_5 ?_
  refine e_iconst (v := 2) dX11_costOf_6 (by decide) ?_
  refine e_icmp_ne (t := 14) dX11_costOf_7 (by decide) (fun c => ?_) (fun c => ?_)
  · replace hf := e_ie c hf
    refine e_iconst (v := 1) dX11_costOf_14 (by decide) ?_
    exact e_iret rfl dX11_costOf_15 (qP hf)
  · replace hf := e_it c hf
    refine e_iconst (v := 2) dX11_costOf_10 (by decide) ?_
    refine e_goto (t := 15) dX11_costOf_11 (by decide) ?_
    exact e_iret rfl dX11_costOf_15 (qP hf)
def f_X11_stepGoes (L : eL) (h : eH) (v0 : Nat) (v1 : Nat) (v2 : Int32) : Option (eH × Int32) :=
  if inA L v1 0 74 = true then
  if v2 ≤ (gI h v1 (74 : Int32).toNatClampNeg) then
    (some (sI h v1 (74 : Int32).toNatClampNeg ((gI h v1 (74 : Int32).toNatClampNeg) - v2))).bind fun h2 =>
    if inA L v1 0 76 = true then
    (some (sI h2 v1 (76 : Int32).toNatClampNeg ((gI h2 v1 (76 : Int32).toNatClampNeg) + 1))).bind fun h5 =>
    if inA L v1 0 72 = true then
    if inA L v1 0 73 = true then
    if isO L v0 11 = true then
    (f_X11_beside L h5 v0 (gI h5 v1 (72 : Int32).toNatClampNeg) (gI h5 v1 (73 : Int32).toNatClampNeg)).bind fun r10 =>
    (f_X11_isFree L h5 v0 v1 r10).bind fun r12 =>
    if r12 = 0 then
      (f_X11_turnOf L h5 v0 v1).bind fun r14 =>
      (some (sI r14.1 v1 (73 : Int32).toNatClampNeg (((gI h5 v1 (73 : Int32).toNatClampNeg) + r14.2) - ((gI h5 v1 (73 : Int32).toNatClampNeg) + r14.2) / 4 * 4))).bind fun h16 =>
      if inA L v1 0 77 = true then
      (some (sI h16 v1 (77 : Int32).toNatClampNeg ((gI h16 v1 (77 : Int32).toNatClampNeg) + 1))).bind fun h19 =>
      some (h19, 1)
      else none
    else
      if inA L v1 0 75 = true then
      if inA L v1 0 r10 = true then
      (some (sI (sI h5 v1 (72 : Int32).toNatClampNeg r10) v1 (75 : Int32).toNatClampNeg ((gI (sI h5 v1 (72 : Int32).toNatClampNeg r10) v1 (75 : Int32).toNatClampNeg) + (gI (sI h5 v1 (72 : Int32).toNatClampNeg r10) v1 r10.toNatClampNeg)))).bind fun h23 =>
      some (sI h23 v1 r10.toNatClampNeg 0, 1)
      else none
      else none
    else none
    else none
    else none
    else none
  else
    some (h, 0)
  else none
set_option maxRecDepth 100000 in
set_option maxHeartbeats 4000000 in
theorem m_X11_stepGoes {l : Launch} {d : Nat} {L : eL} {h : eH} {v0 : Nat} {v1 : Nat} {v2 : Int32} {r : eH × Int32} (hd : 5 ≤ d) (hf : f_X11_stepGoes L h v0 v1 v2 = some r) : e_Met l yX11_stepGoes cX11_stepGoes 4 (some .boolean) d 0 0 true L h [.ref v0, .ref v1, .int v2] (Qx (some (.int r.2)) L r.1) := by
  refine e_metl (by decide) (Nat.le_of_ble_eq_true rfl) (lv := [(0, .ref v0), (1, .ref v1), (2, .int v2)]) rfl ?_
  unfold f_X11_stepGoes at hf
  refine e_aload_n 1 dX11_stepGoes_0 rfl rfl ?_
  refine e_bipush (v := 74) dX11_stepGoes_1 (by decide) ?_
  obtain ⟨hI1, hf⟩ := e_if hf
  refine e_iald hI1 dX11_stepGoes_3 ?_
  refine e_iload_n 2 dX11_stepGoes_4 rfl rfl ?_
  refine e_icmp_ge (t := 10) dX11_stepGoes_5 (by decide) (fun c => ?_) (fun c => ?_)
  · replace hf := e_it c hf
    refine e_aload_n 1 dX11_stepGoes_10 rfl rfl ?_
    refine e_bipush (v := 74) dX11_stepGoes_11 (by decide) ?_
    refine e_dup2 dX11_stepGoes_13 ?_
    refine e_iald hI1 dX11_stepGoes_14 ?_
    refine e_iload_n 2 dX11_stepGoes_15 rfl rfl ?_
    refine e_isub dX11_stepGoes_16 ?_
    refine e_iast hI1 dX11_stepGoes_17 ?_
    obtain ⟨h2, hh3, hf⟩ := e_bd hf
    refine e_hn hh3 ?_
    refine e_aload_n 1 dX11_stepGoes_18 rfl rfl ?_
    refine e_bipush (v := 76) dX11_stepGoes_19 (by decide) ?_
    refine e_dup2 dX11_stepGoes_21 ?_
    obtain ⟨hI4, hf⟩ := e_if hf
    refine e_iald hI4 dX11_stepGoes_22 ?_
    refine e_iconst (v := 1) dX11_stepGoes_23 (by decide) ?_
    refine e_iadd dX11_stepGoes_24 ?_
    refine e_iast hI4 dX11_stepGoes_25 ?_
    obtain ⟨h5, hh6, hf⟩ := e_bd hf
    refine e_hn hh6 ?_
    refine e_aload_n 0 dX11_stepGoes_26 rfl rfl ?_
    refine e_aload_n 1 dX11_stepGoes_27 rfl rfl ?_
    refine e_bipush (v := 72) dX11_stepGoes_28 (by decide) ?_
    obtain ⟨hI7, hf⟩ := e_if hf
    refine e_iald hI7 dX11_stepGoes_30 ?_
    refine e_aload_n 1 dX11_stepGoes_31 rfl rfl ?_
    refine e_bipush (v := 73) dX11_stepGoes_32 (by decide) ?_
    obtain ⟨hI8, hf⟩ := e_if hf
    refine e_iald hI8 dX11_stepGoes_34 ?_
    obtain ⟨hO9, hf⟩ := e_if hf
    obtain ⟨r10, hr11, hf⟩ := e_bd hf
    refine e_callV (st := []) ml_RX11_251 k_X11_beside (m_X11_beside (d := d - 1) (by omega) hr11) hO9 ⟨by decide, rfl⟩ rfl rfl (Nat.le_of_ble_eq_true rfl) ⟨by omega, by decide⟩ ⟨Nat.le_refl _, Nat.le_refl _⟩ dX11_stepGoes_35 ?_
    refine e_istore_n (lv' := [(3, .int _), (0, .ref _), (1, .ref _), (2, .int _)]) dX11_stepGoes_38 rfl (by decide) rfl ?_
    refine e_aload_n 1 dX11_stepGoes_39 rfl rfl ?_
    refine e_aload_n 2 dX11_stepGoes_40 rfl rfl ?_
    refine e_iload_n 0 dX11_stepGoes_41 rfl rfl ?_
    obtain ⟨r12, hr13, hf⟩ := e_bd hf
    refine e_callV (st := []) ml_RX11_241 k_X11_isFree (m_X11_isFree (d := d - 1) (by omega) hr13) hO9 ⟨by decide, rfl⟩ rfl rfl (Nat.le_of_ble_eq_true rfl) ⟨by omega, by decide⟩ ⟨Nat.le_refl _, Nat.le_refl _⟩ dX11_stepGoes_42 ?_
    refine e_if_eq (t := 70) dX11_stepGoes_45 (by decide) (fun c => ?_) (fun c => ?_)
    · replace hf := e_it c hf
      refine e_aload_n 2 dX11_stepGoes_70 rfl rfl ?_
      refine e_bipush (v := 73) dX11_stepGoes_71 (by decide) ?_
      refine e_aload_n 2 dX11_stepGoes_73 rfl rfl ?_
      refine e_bipush (v := 73) dX11_stepGoes_74 (by decide) ?_
      refine e_iald hI8 dX11_stepGoes_76 ?_
      refine e_aload_n 1 dX11_stepGoes_77 rfl rfl ?_
      refine e_aload_n 2 dX11_stepGoes_78 rfl rfl ?_
      obtain ⟨r14, hr15, hf⟩ := e_bd hf
      refine e_callV (st := [.int _, .int _, .ref _]) ml_RX11_247 k_X11_turnOf (m_X11_turnOf (d := d - 1) (by omega) hr15) hO9 ⟨by decide, rfl⟩ rfl rfl (Nat.le_of_ble_eq_true rfl) ⟨by omega, by decide⟩ ⟨Nat.le_refl _, Nat.le_refl _⟩ dX11_stepGoes_79 ?_
      refine e_iadd dX11_stepGoes_82 ?_
      refine e_iconst (v := 4) dX11_stepGoes_83 (by decide) ?_
      refine e_irem dX11_stepGoes_84 (by decide) ?_
      refine e_iast hI8 dX11_stepGoes_85 ?_
      obtain ⟨h16, hh17, hf⟩ := e_bd hf
      refine e_hn hh17 ?_
      refine e_aload_n 2 dX11_stepGoes_86 rfl rfl ?_
      refine e_bipush (v := 77) dX11_stepGoes_87 (by decide) ?_
      refine e_dup2 dX11_stepGoes_89 ?_
      obtain ⟨hI18, hf⟩ := e_if hf
      refine e_iald hI18 dX11_stepGoes_90 ?_
      refine e_iconst (v := 1) dX11_stepGoes_91 (by decide) ?_
      refine e_iadd dX11_stepGoes_92 ?_
      refine e_iast hI18 dX11_stepGoes_93 ?_
      obtain ⟨h19, hh20, hf⟩ := e_bd hf
      refine e_hn hh20 ?_
      refine e_iconst (v := 1) dX11_stepGoes_94 (by decide) ?_
      exact e_zret (ty := .boolean) rfl rfl dX11_stepGoes_95 (qW hf)
    · replace hf := e_ie c hf
      refine e_aload_n 2 dX11_stepGoes_48 rfl rfl ?_
      refine e_bipush (v := 72) dX11_stepGoes_49 (by decide) ?_
      refine e_iload_n 0 dX11_stepGoes_51 rfl rfl ?_
      refine e_iast hI7 dX11_stepGoes_52 ?_
      refine e_aload_n 2 dX11_stepGoes_53 rfl rfl ?_
      refine e_bipush (v := 75) dX11_stepGoes_54 (by decide) ?_
      refine e_dup2 dX11_stepGoes_56 ?_
      obtain ⟨hI21, hf⟩ := e_if hf
      refine e_iald hI21 dX11_stepGoes_57 ?_
      refine e_aload_n 2 dX11_stepGoes_58 rfl rfl ?_
      refine e_iload_n 0 dX11_stepGoes_59 rfl rfl ?_
      obtain ⟨hI22, hf⟩ := e_if hf
      refine e_iald hI22 dX11_stepGoes_60 ?_
      refine e_iadd dX11_stepGoes_61 ?_
      refine e_iast hI21 dX11_stepGoes_62 ?_
      obtain ⟨h23, hh24, hf⟩ := e_bd hf
      refine e_hn hh24 ?_
      refine e_aload_n 2 dX11_stepGoes_63 rfl rfl ?_
      refine e_iload_n 0 dX11_stepGoes_64 rfl rfl ?_
      refine e_iconst (v := 0) dX11_stepGoes_65 (by decide) ?_
      refine e_iast hI22 dX11_stepGoes_66 ?_
      refine e_goto (t := 94) dX11_stepGoes_67 (by decide) ?_
      refine e_iconst (v := 1) dX11_stepGoes_94 (by decide) ?_
      exact e_zret (ty := .boolean) rfl rfl dX11_stepGoes_95 (qW hf)
  · replace hf := e_ie c hf
    refine e_iconst (v := 0) dX11_stepGoes_8 (by decide) ?_
    exact e_zret (ty := .boolean) rfl rfl dX11_stepGoes_9 (qW hf)
def f_X11_goesOn_L2 (L : eL) : Nat → (eH → Int32 → Option (eH × Int32)) → (eH → Int32 → Option (eH × Int32)) → eH → Nat → Nat → Int32 → Int32 → Option (eH × Int32)
  | 0, _, _, _, _, _, _, _ => none
  | n + 1, k23, k31, h, v0, v1, v2, v3 =>
    if v2 ≤ v3 then
      k31 h v2
    else
      if inA L v1 0 72 = true then
      if isO L v0 11 = true then
      (f_X11_costOf L h v0 (gI h v1 (72 : Int32).toNatClampNeg)).bind fun r3 =>
      (f_X11_stepGoes L h v0 v1 r3).bind fun r5 =>
      if r5.2 = 0 then
        k23 r5.1 v3
      else
        f_X11_goesOn_L2 L n k23 k31 r5.1 v0 v1 v2 (v3 + Int32.ofInt 1)
      else none
      else none
set_option maxRecDepth 100000 in
set_option maxHeartbeats 4000000 in
theorem m_X11_goesOn_L2 {l : Launch} {d : Nat} {L : eL}  {r : eH × Int32} {k23 : eH → Int32 → Option (eH × Int32)} {k31 : eH → Int32 → Option (eH × Int32)} (hd : 6 ≤ d) (hk23 : ∀ (h : eH) (v3 : Int32), k23 h v3 = some r → E l yX11_goesOn cX11_goesOn 4 (some .int) (e_rm d 0 0) 0 0 true L (Qx (some (.int r.2)) L r.1) L h 0 0 23 [(3, .int v3)] []) (hk31 : ∀ (h : eH) (v2 : Int32), k31 h v2 = some r → E l yX11_goesOn cX11_goesOn 4 (some .int) (e_rm d 0 0) 0 0 true L (Qx (some (.int r.2)) L r.1) L h 0 0 31 [(2, .int v2)] []) : ∀ (n : Nat) (h : eH) (v0 : Nat) (v1 : Nat) (v2 : Int32) (v3 : Int32), f_X11_goesOn_L2 L n k23 k31 h v0 v1 v2 v3 = some r → E l yX11_goesOn cX11_goesOn 4 (some .int) (e_rm d 0 0) 0 0 true L (Qx (some (.int r.2)) L r.1) L h 0 0 2 [(0, .ref v0), (1, .ref v1), (2, .int v2), (3, .int v3)] [] := by
  intro n
  induction n with
  | zero => intro h v0 v1 v2 v3 hf; exact absurd hf (by simp [f_X11_goesOn_L2])
  | succ n ih =>
    intro h v0 v1 v2 v3 hf
    unfold f_X11_goesOn_L2 at hf
    refine e_iload_n 3 dX11_goesOn_2 rfl rfl ?_
    refine e_iload_n 2 dX11_goesOn_3 rfl rfl ?_
    refine e_icmp_ge (t := 31) dX11_goesOn_4 (by decide) (fun c => ?_) (fun c => ?_)
    · replace hf := e_it c hf
      refine e_sub [2] rfl ?_
      exact hk31 _ _ hf
    · replace hf := e_ie c hf
      refine e_aload_n 0 dX11_goesOn_7 rfl rfl ?_
      refine e_aload_n 1 dX11_goesOn_8 rfl rfl ?_
      refine e_aload_n 0 dX11_goesOn_9 rfl rfl ?_
      refine e_aload_n 1 dX11_goesOn_10 rfl rfl ?_
      refine e_bipush (v := 72) dX11_goesOn_11 (by decide) ?_
      obtain ⟨hI1, hf⟩ := e_if hf
      refine e_iald hI1 dX11_goesOn_13 ?_
      obtain ⟨hO2, hf⟩ := e_if hf
      obtain ⟨r3, hr4, hf⟩ := e_bd hf
      refine e_callV (st := [.ref _, .ref _]) ml_RX11_262 k_X11_costOf (m_X11_costOf (d := d - 1) (by omega) hr4) hO2 ⟨by decide, rfl⟩ rfl rfl (Nat.le_of_ble_eq_true rfl) ⟨by omega, by decide⟩ ⟨Nat.le_refl _, Nat.le_refl _⟩ dX11_goesOn_14 ?_
      obtain ⟨r5, hr6, hf⟩ := e_bd hf
      refine e_callV (st := []) ml_RX11_265 k_X11_stepGoes (m_X11_stepGoes (d := d - 1) (by omega) hr6) hO2 ⟨by decide, rfl⟩ rfl rfl (Nat.le_of_ble_eq_true rfl) ⟨by omega, by decide⟩ ⟨Nat.le_refl _, Nat.le_refl _⟩ dX11_goesOn_17 ?_
      refine e_if_ne (t := 25) dX11_goesOn_20 (by decide) (fun c => ?_) (fun c => ?_)
      · replace hf := e_ie c hf
        refine e_iinc (lv' := [(3, .int _), (0, .ref _), (1, .ref _), (2, .int _)]) 3 dX11_goesOn_25 rfl (by decide) rfl ?_
        refine e_goto (t := 2) dX11_goesOn_28 (by decide) ?_
        refine e_sub [1, 2, 3, 0] rfl ?_
        exact ih _ _ _ _ _ hf
      · replace hf := e_it c hf
        refine e_sub [3] rfl ?_
        exact hk23 _ _ hf
def f_X11_goesOn (L : eL) (h : eH) (v0 : Nat) (v1 : Nat) (v2 : Int32) : Option (eH × Int32) :=
  f_X11_goesOn_L2 L e_fu (fun (h7 : eH) (w3_8 : Int32) =>
    some (h7, w3_8)) (fun (h9 : eH) (w2_10 : Int32) =>
    some (h9, w2_10)) h v0 v1 v2 0
set_option maxRecDepth 100000 in
set_option maxHeartbeats 4000000 in
theorem m_X11_goesOn {l : Launch} {d : Nat} {L : eL} {h : eH} {v0 : Nat} {v1 : Nat} {v2 : Int32} {r : eH × Int32} (hd : 6 ≤ d) (hf : f_X11_goesOn L h v0 v1 v2 = some r) : e_Met l yX11_goesOn cX11_goesOn 4 (some .int) d 0 0 true L h [.ref v0, .ref v1, .int v2] (Qx (some (.int r.2)) L r.1) := by
  refine e_metl (by decide) (Nat.le_of_ble_eq_true rfl) (lv := [(0, .ref v0), (1, .ref v1), (2, .int v2)]) rfl ?_
  unfold f_X11_goesOn at hf
  refine e_iconst (v := 0) dX11_goesOn_0 (by decide) ?_
  refine e_istore_n (lv' := [(3, .int _), (0, .ref _), (1, .ref _), (2, .int _)]) dX11_goesOn_1 rfl (by decide) rfl ?_
  refine e_sub [1, 2, 3, 0] rfl ?_
  refine m_X11_goesOn_L2 hd ?_ ?_ e_fu _ _ _ _ _ hf
  · intro h7 w3_8 hf
    refine e_iload_n 0 dX11_goesOn_23 rfl rfl ?_
    exact e_iret rfl dX11_goesOn_24 (qW hf)
  · intro h9 w2_10 hf
    refine e_iload_n 0 dX11_goesOn_31 rfl rfl ?_
    exact e_iret rfl dX11_goesOn_32 (qW hf)
def f_X11_enters (L : eL) (h : eH) (v0 : Nat) (v1 : Int64) : Option eH :=
  if isO L v0 11 = true then
  (gR h v0 2).bind fun b2 =>
  if inA L b2 1 (gI h v0 1) = true then
  (some (sI (sL h b2 (gI h v0 1).toNatClampNeg v1) v0 1 ((gI (sL h b2 (gI h v0 1).toNatClampNeg v1) v0 1) + 1))).bind fun h5 =>
  some h5
  else none
  else none
set_option maxRecDepth 100000 in
set_option maxHeartbeats 4000000 in
theorem m_X11_enters {l : Launch} {d : Nat} {L : eL} {h : eH} {v0 : Nat} {v1 : Int64} {r : eH} (hd : 1 ≤ d) (hf : f_X11_enters L h v0 v1 = some r) : e_Met l yX11_enters cX11_enters 3 none d 0 0 true L h [.ref v0, .long v1] (Qx none L r) := by
  refine e_metl (by decide) (Nat.le_of_ble_eq_true rfl) (lv := [(0, .ref v0), (1, .long v1)]) rfl ?_
  unfold f_X11_enters at hf
  refine e_aload_n 0 dX11_enters_0 rfl rfl ?_
  obtain ⟨hO1, hf⟩ := e_if hf
  obtain ⟨b2, hb3, hf⟩ := e_bd hf
  refine e_getR hO1 fc_11_2 lk_RX11_11 dX11_enters_1 hb3 ?_
  refine e_aload_n 0 dX11_enters_4 rfl rfl ?_
  refine e_getI hO1 fc_11_1 lk_RX11_15 dX11_enters_5 ?_
  refine e_lload_n 1 dX11_enters_8 rfl rfl ?_
  obtain ⟨hI4, hf⟩ := e_if hf
  refine e_last hI4 dX11_enters_9 ?_
  refine e_aload_n 0 dX11_enters_10 rfl rfl ?_
  refine e_dupR dX11_enters_11 ?_
  refine e_getI hO1 fc_11_1 lk_RX11_15 dX11_enters_12 ?_
  refine e_iconst (v := 1) dX11_enters_15 (by decide) ?_
  refine e_iadd dX11_enters_16 ?_
  refine e_putI hO1 fc_11_1 rfl lk_RX11_15 dX11_enters_17 ?_
  obtain ⟨h5, hh6, hf⟩ := e_bd hf
  refine e_hn hh6 ?_
  exact e_vret rfl dX11_enters_20 (qV hf)
def f_X11_adds_L21 (L : eL) : Nat → (eH → Nat → Int32 → Option (eH × Int32)) → eH → Nat → Int32 → Int32 → Option (eH × Int32)
  | 0, _, _, _, _, _ => none
  | n + 1, k49, h, v0, v1, v2 =>
    if 1185 ≤ v2 then
      k49 h v0 v1
    else
      if isO L v0 11 = true then
      (gR h v0 25).bind fun b3 =>
      (gR h v0 25).bind fun b5 =>
      if inA L b5 0 (v2 + 79) = true then
      if inA L b3 0 v2 = true then
      (some (sI h b3 v2.toNatClampNeg (gI h b5 (v2 + 79).toNatClampNeg))).bind fun h9 =>
      f_X11_adds_L21 L n k49 h9 v0 v1 (v2 + Int32.ofInt 1)
      else none
      else none
      else none
set_option maxRecDepth 100000 in
set_option maxHeartbeats 4000000 in
theorem m_X11_adds_L21 {l : Launch} {d : Nat} {L : eL}  {r : eH × Int32} {k49 : eH → Nat → Int32 → Option (eH × Int32)} (hd : 1 ≤ d) (hk49 : ∀ (h : eH) (v0 : Nat) (v1 : Int32), k49 h v0 v1 = some r → E l yX11_adds cX11_adds 3 (some .int) (e_rm d 0 0) 0 0 true L (Qx (some (.int r.2)) L r.1) L h 0 0 49 [(0, .ref v0), (1, .int v1)] []) : ∀ (n : Nat) (h : eH) (v0 : Nat) (v1 : Int32) (v2 : Int32), f_X11_adds_L21 L n k49 h v0 v1 v2 = some r → E l yX11_adds cX11_adds 3 (some .int) (e_rm d 0 0) 0 0 true L (Qx (some (.int r.2)) L r.1) L h 0 0 21 [(0, .ref v0), (1, .int v1), (2, .int v2)] [] := by
  intro n
  induction n with
  | zero => intro h v0 v1 v2 hf; exact absurd hf (by simp [f_X11_adds_L21])
  | succ n ih =>
    intro h v0 v1 v2 hf
    unfold f_X11_adds_L21 at hf
    refine e_iload_n 2 dX11_adds_21 rfl rfl ?_
    refine e_sipush (v := 1185) dX11_adds_22 (by decide) ?_
    refine e_icmp_ge (t := 49) dX11_adds_25 (by decide) (fun c => ?_) (fun c => ?_)
    · replace hf := e_it c hf
      refine e_sub [0, 1] rfl ?_
      exact hk49 _ _ _ hf
    · replace hf := e_ie c hf
      refine e_aload_n 0 dX11_adds_28 rfl rfl ?_
      obtain ⟨hO2, hf⟩ := e_if hf
      obtain ⟨b3, hb4, hf⟩ := e_bd hf
      refine e_getR hO2 fc_11_25 lk_RX11_68 dX11_adds_29 hb4 ?_
      refine e_iload_n 2 dX11_adds_32 rfl rfl ?_
      refine e_aload_n 0 dX11_adds_33 rfl rfl ?_
      obtain ⟨b5, hb6, hf⟩ := e_bd hf
      refine e_getR hO2 fc_11_25 lk_RX11_68 dX11_adds_34 hb6 ?_
      refine e_iload_n 2 dX11_adds_37 rfl rfl ?_
      refine e_bipush (v := 79) dX11_adds_38 (by decide) ?_
      refine e_iadd dX11_adds_40 ?_
      obtain ⟨hI7, hf⟩ := e_if hf
      refine e_iald hI7 dX11_adds_41 ?_
      obtain ⟨hI8, hf⟩ := e_if hf
      refine e_iast hI8 dX11_adds_42 ?_
      obtain ⟨h9, hh10, hf⟩ := e_bd hf
      refine e_hn hh10 ?_
      refine e_iinc (lv' := [(2, .int _), (0, .ref _), (1, .int _)]) 2 dX11_adds_43 rfl (by decide) rfl ?_
      refine e_goto (t := 21) dX11_adds_46 (by decide) ?_
      refine e_sub [1, 2, 0] rfl ?_
      exact ih _ _ _ _ hf
def f_X11_adds (L : eL) (h : eH) (v0 : Nat) (v1 : Int32) : Option (eH × Int32) :=
  if isO L v0 11 = true then
  if (gI (sI h v0 24 ((gI h v0 24) + 1)) v0 24) ≤ 15 then
    some (sI h v0 24 ((gI h v0 24) + 1), v1)
  else
    f_X11_adds_L21 L e_fu (fun (h11 : eH) (w0_12 : Nat) (w1_13 : Int32) =>
      if isO L w0_12 11 = true then
      some (sI h11 w0_12 24 ((gI h11 w0_12 24) - 1), w1_13)
      else none) (sI h v0 24 ((gI h v0 24) + 1)) v0 v1 0
  else none
set_option maxRecDepth 100000 in
set_option maxHeartbeats 4000000 in
theorem m_X11_adds {l : Launch} {d : Nat} {L : eL} {h : eH} {v0 : Nat} {v1 : Int32} {r : eH × Int32} (hd : 1 ≤ d) (hf : f_X11_adds L h v0 v1 = some r) : e_Met l yX11_adds cX11_adds 3 (some .int) d 0 0 true L h [.ref v0, .int v1] (Qx (some (.int r.2)) L r.1) := by
  refine e_metl (by decide) (Nat.le_of_ble_eq_true rfl) (lv := [(0, .ref v0), (1, .int v1)]) rfl ?_
  unfold f_X11_adds at hf
  refine e_aload_n 0 dX11_adds_0 rfl rfl ?_
  refine e_dupR dX11_adds_1 ?_
  obtain ⟨hO1, hf⟩ := e_if hf
  refine e_getI hO1 fc_11_24 lk_RX11_189 dX11_adds_2 ?_
  refine e_iconst (v := 1) dX11_adds_5 (by decide) ?_
  refine e_iadd dX11_adds_6 ?_
  refine e_putI hO1 fc_11_24 rfl lk_RX11_189 dX11_adds_7 ?_
  refine e_aload_n 0 dX11_adds_10 rfl rfl ?_
  refine e_getI hO1 fc_11_24 lk_RX11_189 dX11_adds_11 ?_
  refine e_bipush (v := 15) dX11_adds_14 (by decide) ?_
  refine e_icmp_le (t := 59) dX11_adds_16 (by decide) (fun c => ?_) (fun c => ?_)
  · replace hf := e_it c hf
    refine e_iload_n 1 dX11_adds_59 rfl rfl ?_
    exact e_iret rfl dX11_adds_60 (qW hf)
  · replace hf := e_ie c hf
    refine e_iconst (v := 0) dX11_adds_19 (by decide) ?_
    refine e_istore_n (lv' := [(2, .int _), (0, .ref _), (1, .int _)]) dX11_adds_20 rfl (by decide) rfl ?_
    refine e_sub [1, 2, 0] rfl ?_
    refine m_X11_adds_L21 hd ?_ e_fu _ _ _ _ hf
    · intro h11 w0_12 w1_13 hf
      refine e_aload_n 0 dX11_adds_49 rfl rfl ?_
      refine e_dupR dX11_adds_50 ?_
      obtain ⟨hO14, hf⟩ := e_if hf
      refine e_getI hO14 fc_11_24 lk_RX11_189 dX11_adds_51 ?_
      refine e_iconst (v := 1) dX11_adds_54 (by decide) ?_
      refine e_isub dX11_adds_55 ?_
      refine e_putI hO14 fc_11_24 rfl lk_RX11_189 dX11_adds_56 ?_
      refine e_iload_n 1 dX11_adds_59 rfl rfl ?_
      exact e_iret rfl dX11_adds_60 (qW hf)
def f_X11_steps (L : eL) (h : eH) (v0 : Nat) (v1 : Int32) : Option (eH × Int32) :=
  if isO L v0 11 = true then
  if (f_X11_in v1.toInt64 0 200) = 0 then
    some (sI h v0 0 0, (-1))
  else
    (f_X11_putsBy L (sI h v0 0 0) v0).bind fun r2 =>
    (gR r2 v0 7).bind fun b4 =>
    if inA L b4 0 75 = true then
    (gR r2 v0 7).bind fun b7 =>
    if inA L b7 0 77 = true then
    (gR r2 v0 7).bind fun b10 =>
    (f_X11_goesOn L r2 v0 b10 v1).bind fun r12 =>
    (gR (sI r12.1 v0 1 0) v0 7).bind fun b14 =>
    if inA L b14 0 75 = true then
    (f_X11_enters L (sI r12.1 v0 1 0) v0 (((gI (sI r12.1 v0 1 0) b14 (75 : Int32).toNatClampNeg) - (gI r2 b4 (75 : Int32).toNatClampNeg)).toInt64)).bind fun r17 =>
    (gR r17 v0 7).bind fun b19 =>
    if inA L b19 0 77 = true then
    (f_X11_enters L r17 v0 (((gI r17 b19 (77 : Int32).toNatClampNeg) - (gI r2 b7 (77 : Int32).toNatClampNeg)).toInt64)).bind fun r22 =>
    (f_X11_adds L r22 v0 r12.2).bind fun r24 =>
    some (r24.1, r24.2)
    else none
    else none
    else none
    else none
  else none
set_option maxRecDepth 100000 in
set_option maxHeartbeats 4000000 in
theorem m_X11_steps {l : Launch} {d : Nat} {L : eL} {h : eH} {v0 : Nat} {v1 : Int32} {r : eH × Int32} (hd : 7 ≤ d) (hf : f_X11_steps L h v0 v1 = some r) : e_Met l yX11_steps cX11_steps 5 (some .int) d 0 0 true L h [.ref v0, .int v1] (Qx (some (.int r.2)) L r.1) := by
  refine e_metl (by decide) (Nat.le_of_ble_eq_true rfl) (lv := [(0, .ref v0), (1, .int v1)]) rfl ?_
  unfold f_X11_steps at hf
  refine e_aload_n 0 dX11_steps_0 rfl rfl ?_
  refine e_iconst (v := 0) dX11_steps_1 (by decide) ?_
  obtain ⟨hO1, hf⟩ := e_if hf
  refine e_putI hO1 fc_11_0 rfl lk_RX11_3 dX11_steps_2 ?_
  refine e_iload_n 1 dX11_steps_5 rfl rfl ?_
  refine e_i2l dX11_steps_6 ?_
  refine e_lconst (v := 0) dX11_steps_7 (by decide) ?_
  refine e_ldc2 kc_RX11_282 dX11_steps_8 ?_
  refine e_callS (st := []) ml_RX11_118 k_X11_in (m_X11_in (d := d - 1) (by omega) rfl) rfl rfl (Nat.le_of_ble_eq_true rfl) ⟨by omega, by decide⟩ ⟨Nat.le_refl _, Nat.le_refl _⟩ dX11_steps_11 ?_
  refine e_if_ne (t := 19) dX11_steps_14 (by decide) (fun c => ?_) (fun c => ?_)
  · replace hf := e_ie c hf
    refine e_aload_n 0 dX11_steps_19 rfl rfl ?_
    obtain ⟨r2, hr3, hf⟩ := e_bd hf
    refine e_callV (st := []) ml_RX11_284 k_X11_putsBy (m_X11_putsBy (d := d - 1) (by omega) hr3) hO1 ⟨by decide, rfl⟩ rfl rfl (Nat.le_of_ble_eq_true rfl) ⟨by omega, by decide⟩ ⟨Nat.le_refl _, Nat.le_refl _⟩ dX11_steps_20 ?_
    refine e_aload_n 0 dX11_steps_23 rfl rfl ?_
    obtain ⟨b4, hb5, hf⟩ := e_bd hf
    refine e_getR hO1 fc_11_7 lk_RX11_41 dX11_steps_24 hb5 ?_
    refine e_bipush (v := 75) dX11_steps_27 (by decide) ?_
    obtain ⟨hI6, hf⟩ := e_if hf
    refine e_iald hI6 dX11_steps_29 ?_
    refine e_istore_n (lv' := [(2, .int _), (0, .ref _), (1, .int _)]) dX11_steps_30 rfl (by decide) rfl ?_
    refine e_aload_n 1 dX11_steps_31 rfl rfl ?_
    obtain ⟨b7, hb8, hf⟩ := e_bd hf
    refine e_getR hO1 fc_11_7 lk_RX11_41 dX11_steps_32 hb8 ?_
    refine e_bipush (v := 77) dX11_steps_35 (by decide) ?_
    obtain ⟨hI9, hf⟩ := e_if hf
    refine e_iald hI9 dX11_steps_37 ?_
    refine e_istore_n (lv' := [(3, .int _), (2, .int _), (0, .ref _), (1, .int _)]) dX11_steps_38 rfl (by decide) rfl ?_
    refine e_aload_n 2 dX11_steps_39 rfl rfl ?_
    refine e_aload_n 2 dX11_steps_40 rfl rfl ?_
    obtain ⟨b10, hb11, hf⟩ := e_bd hf
    refine e_getR hO1 fc_11_7 lk_RX11_41 dX11_steps_41 hb11 ?_
    refine e_iload_n 3 dX11_steps_44 rfl rfl ?_
    obtain ⟨r12, hr13, hf⟩ := e_bd hf
    refine e_callV (st := []) ml_RX11_287 k_X11_goesOn (m_X11_goesOn (d := d - 1) (by omega) hr13) hO1 ⟨by decide, rfl⟩ rfl rfl (Nat.le_of_ble_eq_true rfl) ⟨by omega, by decide⟩ ⟨Nat.le_refl _, Nat.le_refl _⟩ dX11_steps_45 ?_
    refine e_istore (lv' := [(4, .int _), (3, .int _), (2, .int _), (0, .ref _), (1, .int _)]) dX11_steps_48 (by decide) rfl ?_
    refine e_aload_n 3 dX11_steps_50 rfl rfl ?_
    refine e_iconst (v := 0) dX11_steps_51 (by decide) ?_
    refine e_putI hO1 fc_11_1 rfl lk_RX11_15 dX11_steps_52 ?_
    refine e_aload_n 3 dX11_steps_55 rfl rfl ?_
    refine e_aload_n 3 dX11_steps_56 rfl rfl ?_
    obtain ⟨b14, hb15, hf⟩ := e_bd hf
    refine e_getR hO1 fc_11_7 lk_RX11_41 dX11_steps_57 hb15 ?_
    refine e_bipush (v := 75) dX11_steps_60 (by decide) ?_
    obtain ⟨hI16, hf⟩ := e_if hf
    refine e_iald hI16 dX11_steps_62 ?_
    refine e_iload_n 2 dX11_steps_63 rfl rfl ?_
    refine e_isub dX11_steps_64 ?_
    refine e_i2l dX11_steps_65 ?_
    obtain ⟨r17, hr18, hf⟩ := e_bd hf
    refine e_callV (st := []) ml_RX11_18 k_X11_enters (m_X11_enters (d := d - 1) (by omega) hr18) hO1 ⟨by decide, rfl⟩ rfl rfl (Nat.le_of_ble_eq_true rfl) ⟨by omega, by decide⟩ ⟨Nat.le_refl _, Nat.le_refl _⟩ dX11_steps_66 ?_
    refine e_aload_n 3 dX11_steps_69 rfl rfl ?_
    refine e_aload_n 3 dX11_steps_70 rfl rfl ?_
    obtain ⟨b19, hb20, hf⟩ := e_bd hf
    refine e_getR hO1 fc_11_7 lk_RX11_41 dX11_steps_71 hb20 ?_
    refine e_bipush (v := 77) dX11_steps_74 (by decide) ?_
    obtain ⟨hI21, hf⟩ := e_if hf
    refine e_iald hI21 dX11_steps_76 ?_
    refine e_iload_n 1 dX11_steps_77 rfl rfl ?_
    refine e_isub dX11_steps_78 ?_
    refine e_i2l dX11_steps_79 ?_
    obtain ⟨r22, hr23, hf⟩ := e_bd hf
    refine e_callV (st := []) ml_RX11_18 k_X11_enters (m_X11_enters (d := d - 1) (by omega) hr23) hO1 ⟨by decide, rfl⟩ rfl rfl (Nat.le_of_ble_eq_true rfl) ⟨by omega, by decide⟩ ⟨Nat.le_refl _, Nat.le_refl _⟩ dX11_steps_80 ?_
    refine e_aload_n 3 dX11_steps_83 rfl rfl ?_
    refine e_iload 0 dX11_steps_84 rfl ?_
    obtain ⟨r24, hr25, hf⟩ := e_bd hf
    refine e_callV (st := []) ml_RX11_259 k_X11_adds (m_X11_adds (d := d - 1) (by omega) hr25) hO1 ⟨by decide, rfl⟩ rfl rfl (Nat.le_of_ble_eq_true rfl) ⟨by omega, by decide⟩ ⟨Nat.le_refl _, Nat.le_refl _⟩ dX11_steps_86 ?_
    exact e_iret rfl dX11_steps_89 (qW hf)
  · replace hf := e_it c hf
    refine e_iconst (v := (-1)) dX11_steps_17 (by decide) ?_
    exact e_iret rfl dX11_steps_18 (qW hf)
def f_X11_turn (L : eL) (h : eH) (v0 : Nat) (v1 : Int32) : Option (eH × Int32) :=
  if isO L v0 11 = true then
  if (f_X11_in v1.toInt64 0 3) = 0 then
    some (sI h v0 0 0, (-1))
  else
    (f_X11_putsBy L (sI h v0 0 0) v0).bind fun r2 =>
    (gR r2 v0 7).bind fun b4 =>
    (gR r2 v0 7).bind fun b6 =>
    if inA L b6 0 73 = true then
    if inA L b4 0 73 = true then
    (some (sI r2 b4 (73 : Int32).toNatClampNeg (((gI r2 b6 (73 : Int32).toNatClampNeg) + v1) - ((gI r2 b6 (73 : Int32).toNatClampNeg) + v1) / 4 * 4))).bind fun h10 =>
    (gR h10 v0 7).bind fun b12 =>
    if inA L b12 0 73 = true then
    (f_X11_adds L h10 v0 (gI h10 b12 (73 : Int32).toNatClampNeg)).bind fun r15 =>
    some (r15.1, r15.2)
    else none
    else none
    else none
  else none
set_option maxRecDepth 100000 in
set_option maxHeartbeats 4000000 in
theorem m_X11_turn {l : Launch} {d : Nat} {L : eL} {h : eH} {v0 : Nat} {v1 : Int32} {r : eH × Int32} (hd : 2 ≤ d) (hf : f_X11_turn L h v0 v1 = some r) : e_Met l yX11_turn cX11_turn 2 (some .int) d 0 0 true L h [.ref v0, .int v1] (Qx (some (.int r.2)) L r.1) := by
  refine e_metl (by decide) (Nat.le_of_ble_eq_true rfl) (lv := [(0, .ref v0), (1, .int v1)]) rfl ?_
  unfold f_X11_turn at hf
  refine e_aload_n 0 dX11_turn_0 rfl rfl ?_
  refine e_iconst (v := 0) dX11_turn_1 (by decide) ?_
  obtain ⟨hO1, hf⟩ := e_if hf
  refine e_putI hO1 fc_11_0 rfl lk_RX11_3 dX11_turn_2 ?_
  refine e_iload_n 1 dX11_turn_5 rfl rfl ?_
  refine e_i2l dX11_turn_6 ?_
  refine e_lconst (v := 0) dX11_turn_7 (by decide) ?_
  refine e_ldc2 kc_RX11_254 dX11_turn_8 ?_
  refine e_callS (st := []) ml_RX11_118 k_X11_in (m_X11_in (d := d - 1) (by omega) rfl) rfl rfl (Nat.le_of_ble_eq_true rfl) ⟨by omega, by decide⟩ ⟨Nat.le_refl _, Nat.le_refl _⟩ dX11_turn_11 ?_
  refine e_if_ne (t := 19) dX11_turn_14 (by decide) (fun c => ?_) (fun c => ?_)
  · replace hf := e_ie c hf
    refine e_aload_n 0 dX11_turn_19 rfl rfl ?_
    obtain ⟨r2, hr3, hf⟩ := e_bd hf
    refine e_callV (st := []) ml_RX11_284 k_X11_putsBy (m_X11_putsBy (d := d - 1) (by omega) hr3) hO1 ⟨by decide, rfl⟩ rfl rfl (Nat.le_of_ble_eq_true rfl) ⟨by omega, by decide⟩ ⟨Nat.le_refl _, Nat.le_refl _⟩ dX11_turn_20 ?_
    refine e_aload_n 0 dX11_turn_23 rfl rfl ?_
    obtain ⟨b4, hb5, hf⟩ := e_bd hf
    refine e_getR hO1 fc_11_7 lk_RX11_41 dX11_turn_24 hb5 ?_
    refine e_bipush (v := 73) dX11_turn_27 (by decide) ?_
    refine e_aload_n 0 dX11_turn_29 rfl rfl ?_
    obtain ⟨b6, hb7, hf⟩ := e_bd hf
    refine e_getR hO1 fc_11_7 lk_RX11_41 dX11_turn_30 hb7 ?_
    refine e_bipush (v := 73) dX11_turn_33 (by decide) ?_
    obtain ⟨hI8, hf⟩ := e_if hf
    refine e_iald hI8 dX11_turn_35 ?_
    refine e_iload_n 1 dX11_turn_36 rfl rfl ?_
    refine e_iadd dX11_turn_37 ?_
    refine e_iconst (v := 4) dX11_turn_38 (by decide) ?_
    refine e_irem dX11_turn_39 (by decide) ?_
    obtain ⟨hI9, hf⟩ := e_if hf
    refine e_iast hI9 dX11_turn_40 ?_
    obtain ⟨h10, hh11, hf⟩ := e_bd hf
    refine e_hn hh11 ?_
    refine e_aload_n 0 dX11_turn_41 rfl rfl ?_
    refine e_aload_n 0 dX11_turn_42 rfl rfl ?_
    obtain ⟨b12, hb13, hf⟩ := e_bd hf
    refine e_getR hO1 fc_11_7 lk_RX11_41 dX11_turn_43 hb13 ?_
    refine e_bipush (v := 73) dX11_turn_46 (by decide) ?_
    obtain ⟨hI14, hf⟩ := e_if hf
    refine e_iald hI14 dX11_turn_48 ?_
    obtain ⟨r15, hr16, hf⟩ := e_bd hf
    refine e_callV (st := []) ml_RX11_259 k_X11_adds (m_X11_adds (d := d - 1) (by omega) hr16) hO1 ⟨by decide, rfl⟩ rfl rfl (Nat.le_of_ble_eq_true rfl) ⟨by omega, by decide⟩ ⟨Nat.le_refl _, Nat.le_refl _⟩ dX11_turn_49 ?_
    exact e_iret rfl dX11_turn_52 (qW hf)
  · replace hf := e_it c hf
    refine e_iconst (v := (-1)) dX11_turn_17 (by decide) ?_
    exact e_iret rfl dX11_turn_18 (qW hf)
def f_X11_dayGoes_L2 (L : eL) : Nat → (eH → Nat → Option eH) → eH → Nat → Nat → Int32 → Option eH
  | 0, _, _, _, _, _ => none
  | n + 1, k34, h, v0, v1, v2 =>
    if isO L v0 11 = true then
    (f_X11_spots L h v0).bind fun r2 =>
    if r2 ≤ v2 then
      k34 h v1
    else
      if inA L v1 0 v2 = true then
      (gR h v0 6).bind fun b5 =>
      if inA L b5 0 v2 = true then
      (some (sI h v1 v2.toNatClampNeg (mnI 99 ((gI h v1 v2.toNatClampNeg) + (gI h b5 v2.toNatClampNeg))))).bind fun h8 =>
      f_X11_dayGoes_L2 L n k34 h8 v0 v1 (v2 + Int32.ofInt 1)
      else none
      else none
    else none
set_option maxRecDepth 100000 in
set_option maxHeartbeats 4000000 in
theorem m_X11_dayGoes_L2 {l : Launch} {d : Nat} {L : eL}  {r : eH} {k34 : eH → Nat → Option eH} (hd : 3 ≤ d) (hk34 : ∀ (h : eH) (v1 : Nat), k34 h v1 = some r → E l yX11_dayGoes cX11_dayGoes 3 none (e_rm d 0 0) 0 0 true L (Qx none L r) L h 0 0 34 [(1, .ref v1)] []) : ∀ (n : Nat) (h : eH) (v0 : Nat) (v1 : Nat) (v2 : Int32), f_X11_dayGoes_L2 L n k34 h v0 v1 v2 = some r → E l yX11_dayGoes cX11_dayGoes 3 none (e_rm d 0 0) 0 0 true L (Qx none L r) L h 0 0 2 [(0, .ref v0), (1, .ref v1), (2, .int v2)] [] := by
  intro n
  induction n with
  | zero => intro h v0 v1 v2 hf; exact absurd hf (by simp [f_X11_dayGoes_L2])
  | succ n ih =>
    intro h v0 v1 v2 hf
    unfold f_X11_dayGoes_L2 at hf
    refine e_iload_n 2 dX11_dayGoes_2 rfl rfl ?_
    refine e_aload_n 0 dX11_dayGoes_3 rfl rfl ?_
    obtain ⟨hO1, hf⟩ := e_if hf
    obtain ⟨r2, hr3, hf⟩ := e_bd hf
    refine e_callV (st := [.int _]) ml_RX11_114 k_X11_spots (m_X11_spots (d := d - 1) (by omega) hr3) hO1 ⟨by decide, rfl⟩ rfl rfl (Nat.le_of_ble_eq_true rfl) ⟨by omega, by decide⟩ ⟨Nat.le_refl _, Nat.le_refl _⟩ dX11_dayGoes_4 ?_
    refine e_icmp_ge (t := 34) dX11_dayGoes_7 (by decide) (fun c => ?_) (fun c => ?_)
    · replace hf := e_it c hf
      refine e_sub [1] rfl ?_
      exact hk34 _ _ hf
    · replace hf := e_ie c hf
      refine e_aload_n 1 dX11_dayGoes_10 rfl rfl ?_
      refine e_iload_n 2 dX11_dayGoes_11 rfl rfl ?_
      refine e_bipush (v := 99) dX11_dayGoes_12 (by decide) ?_
      refine e_aload_n 1 dX11_dayGoes_14 rfl rfl ?_
      refine e_iload_n 2 dX11_dayGoes_15 rfl rfl ?_
      obtain ⟨hI4, hf⟩ := e_if hf
      refine e_iald hI4 dX11_dayGoes_16 ?_
      refine e_aload_n 0 dX11_dayGoes_17 rfl rfl ?_
      obtain ⟨b5, hb6, hf⟩ := e_bd hf
      refine e_getR hO1 fc_11_6 lk_RX11_37 dX11_dayGoes_18 hb6 ?_
      refine e_iload_n 2 dX11_dayGoes_21 rfl rfl ?_
      obtain ⟨hI7, hf⟩ := e_if hf
      refine e_iald hI7 dX11_dayGoes_22 ?_
      refine e_iadd dX11_dayGoes_23 ?_
      refine e_mn ml_RX11_135 (by omega) (Nat.le_of_ble_eq_true rfl) ⟨Nat.le_refl _, Nat.le_refl _⟩ dX11_dayGoes_24 ?_
      refine e_iast hI4 dX11_dayGoes_27 ?_
      obtain ⟨h8, hh9, hf⟩ := e_bd hf
      refine e_hn hh9 ?_
      refine e_iinc (lv' := [(2, .int _), (0, .ref _), (1, .ref _)]) 2 dX11_dayGoes_28 rfl (by decide) rfl ?_
      refine e_goto (t := 2) dX11_dayGoes_31 (by decide) ?_
      refine e_sub [1, 2, 0] rfl ?_
      exact ih _ _ _ _ hf
def f_X11_dayGoes (L : eL) (h : eH) (v0 : Nat) (v1 : Nat) : Option eH :=
  f_X11_dayGoes_L2 L e_fu (fun (h10 : eH) (w1_11 : Nat) =>
    if inA L w1_11 0 78 = true then
    (some (sI h10 w1_11 (78 : Int32).toNatClampNeg ((gI h10 w1_11 (78 : Int32).toNatClampNeg) + 1))).bind fun h13 =>
    some h13
    else none) h v0 v1 0
set_option maxRecDepth 100000 in
set_option maxHeartbeats 4000000 in
theorem m_X11_dayGoes {l : Launch} {d : Nat} {L : eL} {h : eH} {v0 : Nat} {v1 : Nat} {r : eH} (hd : 3 ≤ d) (hf : f_X11_dayGoes L h v0 v1 = some r) : e_Met l yX11_dayGoes cX11_dayGoes 3 none d 0 0 true L h [.ref v0, .ref v1] (Qx none L r) := by
  refine e_metl (by decide) (Nat.le_of_ble_eq_true rfl) (lv := [(0, .ref v0), (1, .ref v1)]) rfl ?_
  unfold f_X11_dayGoes at hf
  refine e_iconst (v := 0) dX11_dayGoes_0 (by decide) ?_
  refine e_istore_n (lv' := [(2, .int _), (0, .ref _), (1, .ref _)]) dX11_dayGoes_1 rfl (by decide) rfl ?_
  refine e_sub [1, 2, 0] rfl ?_
  refine m_X11_dayGoes_L2 hd ?_ e_fu _ _ _ _ hf
  · intro h10 w1_11 hf
    refine e_aload_n 0 dX11_dayGoes_34 rfl rfl ?_
    refine e_bipush (v := 78) dX11_dayGoes_35 (by decide) ?_
    refine e_dup2 dX11_dayGoes_37 ?_
    obtain ⟨hI12, hf⟩ := e_if hf
    refine e_iald hI12 dX11_dayGoes_38 ?_
    refine e_iconst (v := 1) dX11_dayGoes_39 (by decide) ?_
    refine e_iadd dX11_dayGoes_40 ?_
    refine e_iast hI12 dX11_dayGoes_41 ?_
    obtain ⟨h13, hh14, hf⟩ := e_bd hf
    refine e_hn hh14 ?_
    exact e_vret rfl dX11_dayGoes_42 (qV hf)
def f_X11_dustAll_L4 (L : eL) (h : eH) : Nat → (Int32 → Option Int32) → Nat → Int32 → Int32 → Option Int32
  | 0, _, _, _, _ => none
  | n + 1, k22, v1, v2, v3 =>
    if 36 ≤ v3 then
      k22 v2
    else
      if inA L v1 0 v3 = true then
      f_X11_dustAll_L4 L h n k22 v1 (v2 + (gI h v1 v3.toNatClampNeg)) (v3 + Int32.ofInt 1)
      else none
set_option maxRecDepth 100000 in
set_option maxHeartbeats 4000000 in
theorem m_X11_dustAll_L4 {l : Launch} {d : Nat} {L : eL} {h : eH} {r : Int32} {k22 : Int32 → Option Int32} (hd : 1 ≤ d) (hk22 : ∀ (v2 : Int32), k22 v2 = some r → E l yX11_dustAll cX11_dustAll 4 (some .int) (e_rm d 0 0) 0 0 true L (Qx (some (.int r)) L h) L h 0 0 22 [(2, .int v2)] []) : ∀ (n : Nat) (v1 : Nat) (v2 : Int32) (v3 : Int32), f_X11_dustAll_L4 L h n k22 v1 v2 v3 = some r → E l yX11_dustAll cX11_dustAll 4 (some .int) (e_rm d 0 0) 0 0 true L (Qx (some (.int r)) L h) L h 0 0 4 [(1, .ref v1), (2, .int v2), (3, .int v3)] [] := by
  intro n
  induction n with
  | zero => intro v1 v2 v3 hf; exact absurd hf (by simp [f_X11_dustAll_L4])
  | succ n ih =>
    intro v1 v2 v3 hf
    unfold f_X11_dustAll_L4 at hf
    refine e_iload_n 2 dX11_dustAll_4 rfl rfl ?_
    refine e_bipush (v := 36) dX11_dustAll_5 (by decide) ?_
    refine e_icmp_ge (t := 22) dX11_dustAll_7 (by decide) (fun c => ?_) (fun c => ?_)
    · replace hf := e_it c hf
      refine e_sub [1] rfl ?_
      exact hk22 _ hf
    · replace hf := e_ie c hf
      refine e_iload_n 1 dX11_dustAll_10 rfl rfl ?_
      refine e_aload_n 0 dX11_dustAll_11 rfl rfl ?_
      refine e_iload_n 2 dX11_dustAll_12 rfl rfl ?_
      obtain ⟨hI1, hf⟩ := e_if hf
      refine e_iald hI1 dX11_dustAll_13 ?_
      refine e_iadd dX11_dustAll_14 ?_
      refine e_istore_n (lv' := [(2, .int _), (1, .ref _), (3, .int _)]) dX11_dustAll_15 rfl (by decide) rfl ?_
      refine e_iinc (lv' := [(3, .int _), (2, .int _), (1, .ref _)]) 2 dX11_dustAll_16 rfl (by decide) rfl ?_
      refine e_goto (t := 4) dX11_dustAll_19 (by decide) ?_
      refine e_sub [2, 1, 0] rfl ?_
      exact ih _ _ _ hf
def f_X11_dustAll (L : eL) (h : eH) (v0 : Nat) (v1 : Nat) : Option Int32 :=
  f_X11_dustAll_L4 L h e_fu (fun (w2_2 : Int32) =>
    some w2_2) v1 0 0
set_option maxRecDepth 100000 in
set_option maxHeartbeats 4000000 in
theorem m_X11_dustAll {l : Launch} {d : Nat} {L : eL} {h : eH} {v0 : Nat} {v1 : Nat} {r : Int32} (hd : 1 ≤ d) (hf : f_X11_dustAll L h v0 v1 = some r) : e_Met l yX11_dustAll cX11_dustAll 4 (some .int) d 0 0 true L h [.ref v0, .ref v1] (Qx (some (.int r)) L h) := by
  refine e_metl (by decide) (Nat.le_of_ble_eq_true rfl) (lv := [(0, .ref v0), (1, .ref v1)]) rfl ?_
  unfold f_X11_dustAll at hf
  refine e_iconst (v := 0) dX11_dustAll_0 (by decide) ?_
  refine e_istore_n (lv' := [(2, .int _), (0, .ref _), (1, .ref _)]) dX11_dustAll_1 rfl (by decide) rfl ?_
  refine e_iconst (v := 0) dX11_dustAll_2 (by decide) ?_
  refine e_istore_n (lv' := [(3, .int _), (2, .int _), (0, .ref _), (1, .ref _)]) dX11_dustAll_3 rfl (by decide) rfl ?_
  refine e_sub [3, 1, 0] rfl ?_
  refine m_X11_dustAll_L4 hd ?_ e_fu _ _ _ hf
  · intro w2_2 hf
    refine e_iload_n 0 dX11_dustAll_22 rfl rfl ?_
    exact e_iret rfl dX11_dustAll_23 (qP hf)
def f_X11_daysGo_L16 (L : eL) : Nat → (eH → Nat → Option (eH × Int32)) → eH → Nat → Int32 → Int32 → Option (eH × Int32)
  | 0, _, _, _, _, _ => none
  | n + 1, k35, h, v0, v1, v2 =>
    if v1 ≤ v2 then
      k35 h v0
    else
      if isO L v0 11 = true then
      (gR h v0 7).bind fun b2 =>
      (f_X11_dayGoes L h v0 b2).bind fun r4 =>
      f_X11_daysGo_L16 L n k35 r4 v0 v1 (v2 + Int32.ofInt 1)
      else none
set_option maxRecDepth 100000 in
set_option maxHeartbeats 4000000 in
theorem m_X11_daysGo_L16 {l : Launch} {d : Nat} {L : eL}  {r : eH × Int32} {k35 : eH → Nat → Option (eH × Int32)} (hd : 4 ≤ d) (hk35 : ∀ (h : eH) (v0 : Nat), k35 h v0 = some r → E l yX11_daysGo cX11_daysGo 3 (some .int) (e_rm d 0 0) 0 0 true L (Qx (some (.int r.2)) L r.1) L h 0 0 35 [(0, .ref v0)] []) : ∀ (n : Nat) (h : eH) (v0 : Nat) (v1 : Int32) (v2 : Int32), f_X11_daysGo_L16 L n k35 h v0 v1 v2 = some r → E l yX11_daysGo cX11_daysGo 3 (some .int) (e_rm d 0 0) 0 0 true L (Qx (some (.int r.2)) L r.1) L h 0 0 16 [(0, .ref v0), (1, .int v1), (2, .int v2)] [] := by
  intro n
  induction n with
  | zero => intro h v0 v1 v2 hf; exact absurd hf (by simp [f_X11_daysGo_L16])
  | succ n ih =>
    intro h v0 v1 v2 hf
    unfold f_X11_daysGo_L16 at hf
    refine e_iload_n 2 dX11_daysGo_16 rfl rfl ?_
    refine e_iload_n 1 dX11_daysGo_17 rfl rfl ?_
    refine e_icmp_ge (t := 35) dX11_daysGo_18 (by decide) (fun c => ?_) (fun c => ?_)
    · replace hf := e_it c hf
      refine e_sub [0] rfl ?_
      exact hk35 _ _ hf
    · replace hf := e_ie c hf
      refine e_aload_n 0 dX11_daysGo_21 rfl rfl ?_
      refine e_aload_n 0 dX11_daysGo_22 rfl rfl ?_
      obtain ⟨hO1, hf⟩ := e_if hf
      obtain ⟨b2, hb3, hf⟩ := e_bd hf
      refine e_getR hO1 fc_11_7 lk_RX11_41 dX11_daysGo_23 hb3 ?_
      obtain ⟨r4, hr5, hf⟩ := e_bd hf
      refine e_callV (st := []) ml_RX11_275 k_X11_dayGoes (m_X11_dayGoes (d := d - 1) (by omega) hr5) hO1 ⟨by decide, rfl⟩ rfl rfl (Nat.le_of_ble_eq_true rfl) ⟨by omega, by decide⟩ ⟨Nat.le_refl _, Nat.le_refl _⟩ dX11_daysGo_26 ?_
      refine e_iinc (lv' := [(2, .int _), (0, .ref _), (1, .int _)]) 2 dX11_daysGo_29 rfl (by decide) rfl ?_
      refine e_goto (t := 16) dX11_daysGo_32 (by decide) ?_
      refine e_sub [1, 2, 0] rfl ?_
      exact ih _ _ _ _ hf
def f_X11_daysGo (L : eL) (h : eH) (v0 : Nat) (v1 : Int32) : Option (eH × Int32) :=
  if (f_X11_in v1.toInt64 1 30) = 0 then
    some (h, (-1))
  else
    f_X11_daysGo_L16 L e_fu (fun (h6 : eH) (w0_7 : Nat) =>
      if isO L w0_7 11 = true then
      (gR h6 w0_7 7).bind fun b9 =>
      (f_X11_dustAll L h6 w0_7 b9).bind fun r11 =>
      some (h6, r11)
      else none) h v0 v1 0
set_option maxRecDepth 100000 in
set_option maxHeartbeats 4000000 in
theorem m_X11_daysGo {l : Launch} {d : Nat} {L : eL} {h : eH} {v0 : Nat} {v1 : Int32} {r : eH × Int32} (hd : 4 ≤ d) (hf : f_X11_daysGo L h v0 v1 = some r) : e_Met l yX11_daysGo cX11_daysGo 3 (some .int) d 0 0 true L h [.ref v0, .int v1] (Qx (some (.int r.2)) L r.1) := by
  refine e_metl (by decide) (Nat.le_of_ble_eq_true rfl) (lv := [(0, .ref v0), (1, .int v1)]) rfl ?_
  unfold f_X11_daysGo at hf
  refine e_iload_n 1 dX11_daysGo_0 rfl rfl ?_
  refine e_i2l dX11_daysGo_1 ?_
  refine e_lconst (v := 1) dX11_daysGo_2 (by decide) ?_
  refine e_ldc2 kc_RX11_273 dX11_daysGo_3 ?_
  refine e_callS (st := []) ml_RX11_118 k_X11_in (m_X11_in (d := d - 1) (by omega) rfl) rfl rfl (Nat.le_of_ble_eq_true rfl) ⟨by omega, by decide⟩ ⟨Nat.le_refl _, Nat.le_refl _⟩ dX11_daysGo_6 ?_
  refine e_if_ne (t := 14) dX11_daysGo_9 (by decide) (fun c => ?_) (fun c => ?_)
  · replace hf := e_ie c hf
    refine e_iconst (v := 0) dX11_daysGo_14 (by decide) ?_
    refine e_istore_n (lv' := [(2, .int _), (0, .ref _), (1, .int _)]) dX11_daysGo_15 rfl (by decide) rfl ?_
    refine e_sub [1, 2, 0] rfl ?_
    refine m_X11_daysGo_L16 hd ?_ e_fu _ _ _ _ hf
    · intro h6 w0_7 hf
      refine e_aload_n 0 dX11_daysGo_35 rfl rfl ?_
      refine e_aload_n 0 dX11_daysGo_36 rfl rfl ?_
      obtain ⟨hO8, hf⟩ := e_if hf
      obtain ⟨b9, hb10, hf⟩ := e_bd hf
      refine e_getR hO8 fc_11_7 lk_RX11_41 dX11_daysGo_37 hb10 ?_
      obtain ⟨r11, hr12, hf⟩ := e_bd hf
      refine e_callV (st := []) ml_RX11_279 k_X11_dustAll (m_X11_dustAll (d := d - 1) (by omega) hr12) hO8 ⟨by decide, rfl⟩ rfl rfl (Nat.le_of_ble_eq_true rfl) ⟨by omega, by decide⟩ ⟨Nat.le_refl _, Nat.le_refl _⟩ dX11_daysGo_40 ?_
      exact e_iret rfl dX11_daysGo_43 (qW hf)
  · replace hf := e_it c hf
    refine e_iconst (v := (-1)) dX11_daysGo_12 (by decide) ?_
    exact e_iret rfl dX11_daysGo_13 (qW hf)
def f_X11_counts (L : eL) (h : eH) (v0 : Nat) (v1 : Int32) : Option (eH × Int32) :=
  if 0 ≤ v1 then
    if isO L v0 11 = true then
    (f_X11_adds L h v0 v1).bind fun r2 =>
    some (r2.1, r2.2)
    else none
  else
    some (h, v1)
set_option maxRecDepth 100000 in
set_option maxHeartbeats 4000000 in
theorem m_X11_counts {l : Launch} {d : Nat} {L : eL} {h : eH} {v0 : Nat} {v1 : Int32} {r : eH × Int32} (hd : 2 ≤ d) (hf : f_X11_counts L h v0 v1 = some r) : e_Met l yX11_counts cX11_counts 2 (some .int) d 0 0 true L h [.ref v0, .int v1] (Qx (some (.int r.2)) L r.1) := by
  refine e_metl (by decide) (Nat.le_of_ble_eq_true rfl) (lv := [(0, .ref v0), (1, .int v1)]) rfl ?_
  unfold f_X11_counts at hf
  refine e_iload_n 1 dX11_counts_0 rfl rfl ?_
  refine e_if_ge (t := 8) dX11_counts_1 (by decide) (fun c => ?_) (fun c => ?_)
  · replace hf := e_it c hf
    refine e_aload_n 0 dX11_counts_8 rfl rfl ?_
    refine e_iload_n 1 dX11_counts_9 rfl rfl ?_
    obtain ⟨hO1, hf⟩ := e_if hf
    obtain ⟨r2, hr3, hf⟩ := e_bd hf
    refine e_callV (st := []) ml_RX11_259 k_X11_adds (m_X11_adds (d := d - 1) (by omega) hr3) hO1 ⟨by decide, rfl⟩ rfl rfl (Nat.le_of_ble_eq_true rfl) ⟨by omega, by decide⟩ ⟨Nat.le_refl _, Nat.le_refl _⟩ dX11_counts_10 ?_
    exact e_iret rfl dX11_counts_13 (qW hf)
  · replace hf := e_ie c hf
    refine e_iload_n 1 dX11_counts_4 rfl rfl ?_
    refine e_goto (t := 13) dX11_counts_5 (by decide) ?_
    exact e_iret rfl dX11_counts_13 (qW hf)
def f_X11_days (L : eL) (h : eH) (v0 : Nat) (v1 : Int32) : Option (eH × Int32) :=
  if isO L v0 11 = true then
  (f_X11_putsBy L (sI h v0 0 0) v0).bind fun r2 =>
  (f_X11_daysGo L r2 v0 v1).bind fun r4 =>
  (f_X11_counts L r4.1 v0 r4.2).bind fun r6 =>
  some (r6.1, r6.2)
  else none
set_option maxRecDepth 100000 in
set_option maxHeartbeats 4000000 in
theorem m_X11_days {l : Launch} {d : Nat} {L : eL} {h : eH} {v0 : Nat} {v1 : Int32} {r : eH × Int32} (hd : 5 ≤ d) (hf : f_X11_days L h v0 v1 = some r) : e_Met l yX11_days cX11_days 2 (some .int) d 0 0 true L h [.ref v0, .int v1] (Qx (some (.int r.2)) L r.1) := by
  refine e_metl (by decide) (Nat.le_of_ble_eq_true rfl) (lv := [(0, .ref v0), (1, .int v1)]) rfl ?_
  unfold f_X11_days at hf
  refine e_aload_n 0 dX11_days_0 rfl rfl ?_
  refine e_iconst (v := 0) dX11_days_1 (by decide) ?_
  obtain ⟨hO1, hf⟩ := e_if hf
  refine e_putI hO1 fc_11_0 rfl lk_RX11_3 dX11_days_2 ?_
  refine e_aload_n 0 dX11_days_5 rfl rfl ?_
  obtain ⟨r2, hr3, hf⟩ := e_bd hf
  refine e_callV (st := []) ml_RX11_284 k_X11_putsBy (m_X11_putsBy (d := d - 1) (by omega) hr3) hO1 ⟨by decide, rfl⟩ rfl rfl (Nat.le_of_ble_eq_true rfl) ⟨by omega, by decide⟩ ⟨Nat.le_refl _, Nat.le_refl _⟩ dX11_days_6 ?_
  refine e_aload_n 0 dX11_days_9 rfl rfl ?_
  refine e_aload_n 0 dX11_days_10 rfl rfl ?_
  refine e_iload_n 1 dX11_days_11 rfl rfl ?_
  obtain ⟨r4, hr5, hf⟩ := e_bd hf
  refine e_callV (st := [.ref _]) ml_RX11_291 k_X11_daysGo (m_X11_daysGo (d := d - 1) (by omega) hr5) hO1 ⟨by decide, rfl⟩ rfl rfl (Nat.le_of_ble_eq_true rfl) ⟨by omega, by decide⟩ ⟨Nat.le_refl _, Nat.le_refl _⟩ dX11_days_12 ?_
  obtain ⟨r6, hr7, hf⟩ := e_bd hf
  refine e_callV (st := []) ml_RX11_294 k_X11_counts (m_X11_counts (d := d - 1) (by omega) hr7) hO1 ⟨by decide, rfl⟩ rfl rfl (Nat.le_of_ble_eq_true rfl) ⟨by omega, by decide⟩ ⟨Nat.le_refl _, Nat.le_refl _⟩ dX11_days_15 ?_
  exact e_iret rfl dX11_days_18 (qW hf)
def f_X11_chairMany_L4 (L : eL) (h : eH) : Nat → (Int32 → Option Int32) → Nat → Int32 → Int32 → Option Int32
  | 0, _, _, _, _ => none
  | n + 1, k25, v1, v2, v3 =>
    if 36 ≤ v3 then
      k25 v2
    else
      if inA L v1 0 (36 + v3) = true then
      f_X11_chairMany_L4 L h n k25 v1 (v2 + (gI h v1 (36 + v3).toNatClampNeg)) (v3 + Int32.ofInt 1)
      else none
set_option maxRecDepth 100000 in
set_option maxHeartbeats 4000000 in
theorem m_X11_chairMany_L4 {l : Launch} {d : Nat} {L : eL} {h : eH} {r : Int32} {k25 : Int32 → Option Int32} (hd : 1 ≤ d) (hk25 : ∀ (v2 : Int32), k25 v2 = some r → E l yX11_chairMany cX11_chairMany 4 (some .int) (e_rm d 0 0) 0 0 true L (Qx (some (.int r)) L h) L h 0 0 25 [(2, .int v2)] []) : ∀ (n : Nat) (v1 : Nat) (v2 : Int32) (v3 : Int32), f_X11_chairMany_L4 L h n k25 v1 v2 v3 = some r → E l yX11_chairMany cX11_chairMany 4 (some .int) (e_rm d 0 0) 0 0 true L (Qx (some (.int r)) L h) L h 0 0 4 [(1, .ref v1), (2, .int v2), (3, .int v3)] [] := by
  intro n
  induction n with
  | zero => intro v1 v2 v3 hf; exact absurd hf (by simp [f_X11_chairMany_L4])
  | succ n ih =>
    intro v1 v2 v3 hf
    unfold f_X11_chairMany_L4 at hf
    refine e_iload_n 2 dX11_chairMany_4 rfl rfl ?_
    refine e_bipush (v := 36) dX11_chairMany_5 (by decide) ?_
    refine e_icmp_ge (t := 25) dX11_chairMany_7 (by decide) (fun c => ?_) (fun c => ?_)
    · replace hf := e_it c hf
      refine e_sub [1] rfl ?_
      exact hk25 _ hf
    · replace hf := e_ie c hf
      refine e_iload_n 1 dX11_chairMany_10 rfl rfl ?_
      refine e_aload_n 0 dX11_chairMany_11 rfl rfl ?_
      refine e_bipush (v := 36) dX11_chairMany_12 (by decide) ?_
      refine e_iload_n 2 dX11_chairMany_14 rfl rfl ?_
      refine e_iadd dX11_chairMany_15 ?_
      obtain ⟨hI1, hf⟩ := e_if hf
      refine e_iald hI1 dX11_chairMany_16 ?_
      refine e_iadd dX11_chairMany_17 ?_
      refine e_istore_n (lv' := [(2, .int _), (1, .ref _), (3, .int _)]) dX11_chairMany_18 rfl (by decide) rfl ?_
      refine e_iinc (lv' := [(3, .int _), (2, .int _), (1, .ref _)]) 2 dX11_chairMany_19 rfl (by decide) rfl ?_
      refine e_goto (t := 4) dX11_chairMany_22 (by decide) ?_
      refine e_sub [2, 1, 0] rfl ?_
      exact ih _ _ _ hf
def f_X11_chairMany (L : eL) (h : eH) (v0 : Nat) (v1 : Nat) : Option Int32 :=
  f_X11_chairMany_L4 L h e_fu (fun (w2_2 : Int32) =>
    some w2_2) v1 0 0
set_option maxRecDepth 100000 in
set_option maxHeartbeats 4000000 in
theorem m_X11_chairMany {l : Launch} {d : Nat} {L : eL} {h : eH} {v0 : Nat} {v1 : Nat} {r : Int32} (hd : 1 ≤ d) (hf : f_X11_chairMany L h v0 v1 = some r) : e_Met l yX11_chairMany cX11_chairMany 4 (some .int) d 0 0 true L h [.ref v0, .ref v1] (Qx (some (.int r)) L h) := by
  refine e_metl (by decide) (Nat.le_of_ble_eq_true rfl) (lv := [(0, .ref v0), (1, .ref v1)]) rfl ?_
  unfold f_X11_chairMany at hf
  refine e_iconst (v := 0) dX11_chairMany_0 (by decide) ?_
  refine e_istore_n (lv' := [(2, .int _), (0, .ref _), (1, .ref _)]) dX11_chairMany_1 rfl (by decide) rfl ?_
  refine e_iconst (v := 0) dX11_chairMany_2 (by decide) ?_
  refine e_istore_n (lv' := [(3, .int _), (2, .int _), (0, .ref _), (1, .ref _)]) dX11_chairMany_3 rfl (by decide) rfl ?_
  refine e_sub [3, 1, 0] rfl ?_
  refine m_X11_chairMany_L4 hd ?_ e_fu _ _ _ hf
  · intro w2_2 hf
    refine e_iload_n 0 dX11_chairMany_25 rfl rfl ?_
    exact e_iret rfl dX11_chairMany_26 (qP hf)
def f_X11_chairsAt (L : eL) (h : eH) (v0 : Nat) (v1 : Int32) : Option (eH × Int32) :=
  if isO L v0 11 = true then
  (f_X11_isSpot L h v0 v1).bind fun r2 =>
  if r2 = 0 then
    some (h, (-1))
  else
    (gR h v0 6).bind fun b4 =>
    if inA L b4 0 v1 = true then
    if (gI h b4 v1.toNatClampNeg) = 0 then
      some (h, (-2))
    else
      (gR h v0 7).bind fun b7 =>
      if inA L b7 0 72 = true then
      if (gI h b7 (72 : Int32).toNatClampNeg) = v1 then
        some (h, (-2))
      else
        (gR h v0 7).bind fun b10 =>
        (gR h v0 7).bind fun b12 =>
        if inA L b12 0 (36 + v1) = true then
        if inA L b10 0 (36 + v1) = true then
        (some (sI h b10 (36 + v1).toNatClampNeg (1 - (gI h b12 (36 + v1).toNatClampNeg)))).bind fun h16 =>
        (gR h16 v0 7).bind fun b18 =>
        (f_X11_chairMany L h16 v0 b18).bind fun r20 =>
        some (h16, r20)
        else none
        else none
      else none
    else none
  else none
set_option maxRecDepth 100000 in
set_option maxHeartbeats 4000000 in
theorem m_X11_chairsAt {l : Launch} {d : Nat} {L : eL} {h : eH} {v0 : Nat} {v1 : Int32} {r : eH × Int32} (hd : 3 ≤ d) (hf : f_X11_chairsAt L h v0 v1 = some r) : e_Met l yX11_chairsAt cX11_chairsAt 2 (some .int) d 0 0 true L h [.ref v0, .int v1] (Qx (some (.int r.2)) L r.1) := by
  refine e_metl (by decide) (Nat.le_of_ble_eq_true rfl) (lv := [(0, .ref v0), (1, .int v1)]) rfl ?_
  unfold f_X11_chairsAt at hf
  refine e_aload_n 0 dX11_chairsAt_0 rfl rfl ?_
  refine e_iload_n 1 dX11_chairsAt_1 rfl rfl ?_
  obtain ⟨hO1, hf⟩ := e_if hf
  obtain ⟨r2, hr3, hf⟩ := e_bd hf
  refine e_callV (st := []) ml_RX11_233 k_X11_isSpot (m_X11_isSpot (d := d - 1) (by omega) hr3) hO1 ⟨by decide, rfl⟩ rfl rfl (Nat.le_of_ble_eq_true rfl) ⟨by omega, by decide⟩ ⟨Nat.le_refl _, Nat.le_refl _⟩ dX11_chairsAt_2 ?_
  refine e_if_ne (t := 10) dX11_chairsAt_5 (by decide) (fun c => ?_) (fun c => ?_)
  · replace hf := e_ie c hf
    refine e_aload_n 0 dX11_chairsAt_10 rfl rfl ?_
    obtain ⟨b4, hb5, hf⟩ := e_bd hf
    refine e_getR hO1 fc_11_6 lk_RX11_37 dX11_chairsAt_11 hb5 ?_
    refine e_iload_n 1 dX11_chairsAt_14 rfl rfl ?_
    obtain ⟨hI6, hf⟩ := e_if hf
    refine e_iald hI6 dX11_chairsAt_15 ?_
    refine e_if_eq (t := 30) dX11_chairsAt_16 (by decide) (fun c => ?_) (fun c => ?_)
    · replace hf := e_it c hf
      refine e_bipush (v := (-2)) dX11_chairsAt_30 (by decide) ?_
      exact e_iret rfl dX11_chairsAt_32 (qW hf)
    · replace hf := e_ie c hf
      refine e_aload_n 0 dX11_chairsAt_19 rfl rfl ?_
      obtain ⟨b7, hb8, hf⟩ := e_bd hf
      refine e_getR hO1 fc_11_7 lk_RX11_41 dX11_chairsAt_20 hb8 ?_
      refine e_bipush (v := 72) dX11_chairsAt_23 (by decide) ?_
      obtain ⟨hI9, hf⟩ := e_if hf
      refine e_iald hI9 dX11_chairsAt_25 ?_
      refine e_iload_n 1 dX11_chairsAt_26 rfl rfl ?_
      refine e_icmp_ne (t := 33) dX11_chairsAt_27 (by decide) (fun c => ?_) (fun c => ?_)
      · replace hf := e_ie c hf
        refine e_aload_n 0 dX11_chairsAt_33 rfl rfl ?_
        obtain ⟨b10, hb11, hf⟩ := e_bd hf
        refine e_getR hO1 fc_11_7 lk_RX11_41 dX11_chairsAt_34 hb11 ?_
        refine e_bipush (v := 36) dX11_chairsAt_37 (by decide) ?_
        refine e_iload_n 1 dX11_chairsAt_39 rfl rfl ?_
        refine e_iadd dX11_chairsAt_40 ?_
        refine e_iconst (v := 1) dX11_chairsAt_41 (by decide) ?_
        refine e_aload_n 0 dX11_chairsAt_42 rfl rfl ?_
        obtain ⟨b12, hb13, hf⟩ := e_bd hf
        refine e_getR hO1 fc_11_7 lk_RX11_41 dX11_chairsAt_43 hb13 ?_
        refine e_bipush (v := 36) dX11_chairsAt_46 (by decide) ?_
        refine e_iload_n 1 dX11_chairsAt_48 rfl rfl ?_
        refine e_iadd dX11_chairsAt_49 ?_
        obtain ⟨hI14, hf⟩ := e_if hf
        refine e_iald hI14 dX11_chairsAt_50 ?_
        refine e_isub dX11_chairsAt_51 ?_
        obtain ⟨hI15, hf⟩ := e_if hf
        refine e_iast hI15 dX11_chairsAt_52 ?_
        obtain ⟨h16, hh17, hf⟩ := e_bd hf
        refine e_hn hh17 ?_
        refine e_aload_n 0 dX11_chairsAt_53 rfl rfl ?_
        refine e_aload_n 0 dX11_chairsAt_54 rfl rfl ?_
        obtain ⟨b18, hb19, hf⟩ := e_bd hf
        refine e_getR hO1 fc_11_7 lk_RX11_41 dX11_chairsAt_55 hb19 ?_
        obtain ⟨r20, hr21, hf⟩ := e_bd hf
        refine e_callV (st := []) ml_RX11_268 k_X11_chairMany (m_X11_chairMany (d := d - 1) (by omega) hr21) hO1 ⟨by decide, rfl⟩ rfl rfl (Nat.le_of_ble_eq_true rfl) ⟨by omega, by decide⟩ ⟨Nat.le_refl _, Nat.le_refl _⟩ dX11_chairsAt_58 ?_
        exact e_iret rfl dX11_chairsAt_61 (qW hf)
      · replace hf := e_it c hf
        refine e_bipush (v := (-2)) dX11_chairsAt_30 (by decide) ?_
        exact e_iret rfl dX11_chairsAt_32 (qW hf)
  · replace hf := e_it c hf
    refine e_iconst (v := (-1)) dX11_chairsAt_8 (by decide) ?_
    exact e_iret rfl dX11_chairsAt_9 (qW hf)
def f_X11_chair (L : eL) (h : eH) (v0 : Nat) (v1 : Int32) : Option (eH × Int32) :=
  if isO L v0 11 = true then
  (f_X11_putsBy L (sI h v0 0 0) v0).bind fun r2 =>
  (f_X11_chairsAt L r2 v0 v1).bind fun r4 =>
  (f_X11_counts L r4.1 v0 r4.2).bind fun r6 =>
  some (r6.1, r6.2)
  else none
set_option maxRecDepth 100000 in
set_option maxHeartbeats 4000000 in
theorem m_X11_chair {l : Launch} {d : Nat} {L : eL} {h : eH} {v0 : Nat} {v1 : Int32} {r : eH × Int32} (hd : 4 ≤ d) (hf : f_X11_chair L h v0 v1 = some r) : e_Met l yX11_chair cX11_chair 2 (some .int) d 0 0 true L h [.ref v0, .int v1] (Qx (some (.int r.2)) L r.1) := by
  refine e_metl (by decide) (Nat.le_of_ble_eq_true rfl) (lv := [(0, .ref v0), (1, .int v1)]) rfl ?_
  unfold f_X11_chair at hf
  refine e_aload_n 0 dX11_chair_0 rfl rfl ?_
  refine e_iconst (v := 0) dX11_chair_1 (by decide) ?_
  obtain ⟨hO1, hf⟩ := e_if hf
  refine e_putI hO1 fc_11_0 rfl lk_RX11_3 dX11_chair_2 ?_
  refine e_aload_n 0 dX11_chair_5 rfl rfl ?_
  obtain ⟨r2, hr3, hf⟩ := e_bd hf
  refine e_callV (st := []) ml_RX11_284 k_X11_putsBy (m_X11_putsBy (d := d - 1) (by omega) hr3) hO1 ⟨by decide, rfl⟩ rfl rfl (Nat.le_of_ble_eq_true rfl) ⟨by omega, by decide⟩ ⟨Nat.le_refl _, Nat.le_refl _⟩ dX11_chair_6 ?_
  refine e_aload_n 0 dX11_chair_9 rfl rfl ?_
  refine e_aload_n 0 dX11_chair_10 rfl rfl ?_
  refine e_iload_n 1 dX11_chair_11 rfl rfl ?_
  obtain ⟨r4, hr5, hf⟩ := e_bd hf
  refine e_callV (st := [.ref _]) ml_RX11_297 k_X11_chairsAt (m_X11_chairsAt (d := d - 1) (by omega) hr5) hO1 ⟨by decide, rfl⟩ rfl rfl (Nat.le_of_ble_eq_true rfl) ⟨by omega, by decide⟩ ⟨Nat.le_refl _, Nat.le_refl _⟩ dX11_chair_12 ?_
  obtain ⟨r6, hr7, hf⟩ := e_bd hf
  refine e_callV (st := []) ml_RX11_294 k_X11_counts (m_X11_counts (d := d - 1) (by omega) hr7) hO1 ⟨by decide, rfl⟩ rfl rfl (Nat.le_of_ble_eq_true rfl) ⟨by omega, by decide⟩ ⟨Nat.le_refl _, Nat.le_refl _⟩ dX11_chair_15 ?_
  exact e_iret rfl dX11_chair_18 (qW hf)
def f_X11_carry (L : eL) (h : eH) (v0 : Nat) (v1 : Int32) (v2 : Int32) : Option (eH × Int32) :=
  if isO L v0 11 = true then
  (f_X11_isSpot L (sI h v0 0 0) v0 v1).bind fun r2 =>
  if r2 = 0 then
    some (sI h v0 0 0, (-1))
  else
    if (f_X11_in v2.toInt64 0 3) = 0 then
      some (sI h v0 0 0, (-1))
    else
      (gR (sI h v0 0 0) v0 7).bind fun b4 =>
      (f_X11_isFree L (sI h v0 0 0) v0 b4 v1).bind fun r6 =>
      if r6 = 0 then
        some (sI h v0 0 0, (-2))
      else
        (f_X11_putsBy L (sI h v0 0 0) v0).bind fun r8 =>
        (gR r8 v0 7).bind fun b10 =>
        if inA L b10 0 72 = true then
        (gR r8 v0 7).bind fun b13 =>
        if inA L b13 0 72 = true then
        (gR (sI r8 b13 (72 : Int32).toNatClampNeg v1) v0 7).bind fun b16 =>
        if inA L b16 0 73 = true then
        (some (sI (sI r8 b13 (72 : Int32).toNatClampNeg v1) b16 (73 : Int32).toNatClampNeg v2)).bind fun h19 =>
        (f_X11_adds L h19 v0 (gI r8 b10 (72 : Int32).toNatClampNeg)).bind fun r21 =>
        some (r21.1, r21.2)
        else none
        else none
        else none
  else none
set_option maxRecDepth 100000 in
set_option maxHeartbeats 4000000 in
theorem m_X11_carry {l : Launch} {d : Nat} {L : eL} {h : eH} {v0 : Nat} {v1 : Int32} {v2 : Int32} {r : eH × Int32} (hd : 3 ≤ d) (hf : f_X11_carry L h v0 v1 v2 = some r) : e_Met l yX11_carry cX11_carry 4 (some .int) d 0 0 true L h [.ref v0, .int v1, .int v2] (Qx (some (.int r.2)) L r.1) := by
  refine e_metl (by decide) (Nat.le_of_ble_eq_true rfl) (lv := [(0, .ref v0), (1, .int v1), (2, .int v2)]) rfl ?_
  unfold f_X11_carry at hf
  refine e_aload_n 0 dX11_carry_0 rfl rfl ?_
  refine e_iconst (v := 0) dX11_carry_1 (by decide) ?_
  obtain ⟨hO1, hf⟩ := e_if hf
  refine e_putI hO1 fc_11_0 rfl lk_RX11_3 dX11_carry_2 ?_
  refine e_aload_n 0 dX11_carry_5 rfl rfl ?_
  refine e_iload_n 1 dX11_carry_6 rfl rfl ?_
  obtain ⟨r2, hr3, hf⟩ := e_bd hf
  refine e_callV (st := []) ml_RX11_233 k_X11_isSpot (m_X11_isSpot (d := d - 1) (by omega) hr3) hO1 ⟨by decide, rfl⟩ rfl rfl (Nat.le_of_ble_eq_true rfl) ⟨by omega, by decide⟩ ⟨Nat.le_refl _, Nat.le_refl _⟩ dX11_carry_7 ?_
  refine e_if_eq (t := 25) dX11_carry_10 (by decide) (fun c => ?_) (fun c => ?_)
  · replace hf := e_it c hf
    refine e_iconst (v := (-1)) dX11_carry_25 (by decide) ?_
    exact e_iret rfl dX11_carry_26 (qW hf)
  · replace hf := e_ie c hf
    refine e_iload_n 2 dX11_carry_13 rfl rfl ?_
    refine e_i2l dX11_carry_14 ?_
    refine e_lconst (v := 0) dX11_carry_15 (by decide) ?_
    refine e_ldc2 kc_RX11_254 dX11_carry_16 ?_
    refine e_callS (st := []) ml_RX11_118 k_X11_in (m_X11_in (d := d - 1) (by omega) rfl) rfl rfl (Nat.le_of_ble_eq_true rfl) ⟨by omega, by decide⟩ ⟨Nat.le_refl _, Nat.le_refl _⟩ dX11_carry_19 ?_
    refine e_if_ne (t := 27) dX11_carry_22 (by decide) (fun c => ?_) (fun c => ?_)
    · replace hf := e_ie c hf
      refine e_aload_n 0 dX11_carry_27 rfl rfl ?_
      refine e_aload_n 0 dX11_carry_28 rfl rfl ?_
      obtain ⟨b4, hb5, hf⟩ := e_bd hf
      refine e_getR hO1 fc_11_7 lk_RX11_41 dX11_carry_29 hb5 ?_
      refine e_iload_n 1 dX11_carry_32 rfl rfl ?_
      obtain ⟨r6, hr7, hf⟩ := e_bd hf
      refine e_callV (st := []) ml_RX11_241 k_X11_isFree (m_X11_isFree (d := d - 1) (by omega) hr7) hO1 ⟨by decide, rfl⟩ rfl rfl (Nat.le_of_ble_eq_true rfl) ⟨by omega, by decide⟩ ⟨Nat.le_refl _, Nat.le_refl _⟩ dX11_carry_33 ?_
      refine e_if_ne (t := 42) dX11_carry_36 (by decide) (fun c => ?_) (fun c => ?_)
      · replace hf := e_ie c hf
        refine e_aload_n 0 dX11_carry_42 rfl rfl ?_
        obtain ⟨r8, hr9, hf⟩ := e_bd hf
        refine e_callV (st := []) ml_RX11_284 k_X11_putsBy (m_X11_putsBy (d := d - 1) (by omega) hr9) hO1 ⟨by decide, rfl⟩ rfl rfl (Nat.le_of_ble_eq_true rfl) ⟨by omega, by decide⟩ ⟨Nat.le_refl _, Nat.le_refl _⟩ dX11_carry_43 ?_
        refine e_aload_n 0 dX11_carry_46 rfl rfl ?_
        obtain ⟨b10, hb11, hf⟩ := e_bd hf
        refine e_getR hO1 fc_11_7 lk_RX11_41 dX11_carry_47 hb11 ?_
        refine e_bipush (v := 72) dX11_carry_50 (by decide) ?_
        obtain ⟨hI12, hf⟩ := e_if hf
        refine e_iald hI12 dX11_carry_52 ?_
        refine e_istore_n (lv' := [(3, .int _), (0, .ref _), (1, .int _), (2, .int _)]) dX11_carry_53 rfl (by decide) rfl ?_
        refine e_aload_n 1 dX11_carry_54 rfl rfl ?_
        obtain ⟨b13, hb14, hf⟩ := e_bd hf
        refine e_getR hO1 fc_11_7 lk_RX11_41 dX11_carry_55 hb14 ?_
        refine e_bipush (v := 72) dX11_carry_58 (by decide) ?_
        refine e_iload_n 2 dX11_carry_60 rfl rfl ?_
        obtain ⟨hI15, hf⟩ := e_if hf
        refine e_iast hI15 dX11_carry_61 ?_
        refine e_aload_n 1 dX11_carry_62 rfl rfl ?_
        obtain ⟨b16, hb17, hf⟩ := e_bd hf
        refine e_getR hO1 fc_11_7 lk_RX11_41 dX11_carry_63 hb17 ?_
        refine e_bipush (v := 73) dX11_carry_66 (by decide) ?_
        refine e_iload_n 3 dX11_carry_68 rfl rfl ?_
        obtain ⟨hI18, hf⟩ := e_if hf
        refine e_iast hI18 dX11_carry_69 ?_
        obtain ⟨h19, hh20, hf⟩ := e_bd hf
        refine e_hn hh20 ?_
        refine e_aload_n 1 dX11_carry_70 rfl rfl ?_
        refine e_iload_n 0 dX11_carry_71 rfl rfl ?_
        obtain ⟨r21, hr22, hf⟩ := e_bd hf
        refine e_callV (st := []) ml_RX11_259 k_X11_adds (m_X11_adds (d := d - 1) (by omega) hr22) hO1 ⟨by decide, rfl⟩ rfl rfl (Nat.le_of_ble_eq_true rfl) ⟨by omega, by decide⟩ ⟨Nat.le_refl _, Nat.le_refl _⟩ dX11_carry_72 ?_
        exact e_iret rfl dX11_carry_75 (qW hf)
      · replace hf := e_it c hf
        refine e_bipush (v := (-2)) dX11_carry_39 (by decide) ?_
        exact e_iret rfl dX11_carry_41 (qW hf)
    · replace hf := e_it c hf
      refine e_iconst (v := (-1)) dX11_carry_25 (by decide) ?_
      exact e_iret rfl dX11_carry_26 (qW hf)
def f_X11_loads (L : eL) (h : eH) (v0 : Nat) (v1 : Int32) : Option (eH × Int32) :=
  if (f_X11_in v1.toInt64 1 999) = 0 then
    some (h, (-1))
  else
    if isO L v0 11 = true then
    if (gI h v0 5) < 0 then
      some (h, (-2))
    else
      (gR h v0 7).bind fun b2 =>
      if inA L b2 0 72 = true then
      if (gI h b2 (72 : Int32).toNatClampNeg) = (gI h v0 5) then
        (gR h v0 7).bind fun b5 =>
        if inA L b5 0 75 = true then
        (gR h v0 7).bind fun b8 =>
        if inA L b8 0 75 = true then
        (gR (sI h b8 (75 : Int32).toNatClampNeg 0) v0 7).bind fun b11 =>
        if inA L b11 0 74 = true then
        (some (sI (sI h b8 (75 : Int32).toNatClampNeg 0) b11 (74 : Int32).toNatClampNeg v1)).bind fun h14 =>
        some (h14, gI h b5 (75 : Int32).toNatClampNeg)
        else none
        else none
        else none
      else
        some (h, (-2))
      else none
    else none
set_option maxRecDepth 100000 in
set_option maxHeartbeats 4000000 in
theorem m_X11_loads {l : Launch} {d : Nat} {L : eL} {h : eH} {v0 : Nat} {v1 : Int32} {r : eH × Int32} (hd : 2 ≤ d) (hf : f_X11_loads L h v0 v1 = some r) : e_Met l yX11_loads cX11_loads 3 (some .int) d 0 0 true L h [.ref v0, .int v1] (Qx (some (.int r.2)) L r.1) := by
  refine e_metl (by decide) (Nat.le_of_ble_eq_true rfl) (lv := [(0, .ref v0), (1, .int v1)]) rfl ?_
  unfold f_X11_loads at hf
  refine e_iload_n 1 dX11_loads_0 rfl rfl ?_
  refine e_i2l dX11_loads_1 ?_
  refine e_lconst (v := 1) dX11_loads_2 (by decide) ?_
  refine e_ldc2 kc_RX11_271 dX11_loads_3 ?_
  refine e_callS (st := []) ml_RX11_118 k_X11_in (m_X11_in (d := d - 1) (by omega) rfl) rfl rfl (Nat.le_of_ble_eq_true rfl) ⟨by omega, by decide⟩ ⟨Nat.le_refl _, Nat.le_refl _⟩ dX11_loads_6 ?_
  refine e_if_ne (t := 14) dX11_loads_9 (by decide) (fun c => ?_) (fun c => ?_)
  · replace hf := e_ie c hf
    refine e_aload_n 0 dX11_loads_14 rfl rfl ?_
    obtain ⟨hO1, hf⟩ := e_if hf
    refine e_getI hO1 fc_11_5 lk_RX11_34 dX11_loads_15 ?_
    refine e_if_lt (t := 35) dX11_loads_18 (by decide) (fun c => ?_) (fun c => ?_)
    · replace hf := e_it c hf
      refine e_bipush (v := (-2)) dX11_loads_35 (by decide) ?_
      exact e_iret rfl dX11_loads_37 (qW hf)
    · replace hf := e_ie c hf
      refine e_aload_n 0 dX11_loads_21 rfl rfl ?_
      obtain ⟨b2, hb3, hf⟩ := e_bd hf
      refine e_getR hO1 fc_11_7 lk_RX11_41 dX11_loads_22 hb3 ?_
      refine e_bipush (v := 72) dX11_loads_25 (by decide) ?_
      obtain ⟨hI4, hf⟩ := e_if hf
      refine e_iald hI4 dX11_loads_27 ?_
      refine e_aload_n 0 dX11_loads_28 rfl rfl ?_
      refine e_getI hO1 fc_11_5 lk_RX11_34 dX11_loads_29 ?_
      refine e_icmp_eq (t := 38) dX11_loads_32 (by decide) (fun c => ?_) (fun c => ?_)
      · replace hf := e_it c hf
        refine e_aload_n 0 dX11_loads_38 rfl rfl ?_
        obtain ⟨b5, hb6, hf⟩ := e_bd hf
        refine e_getR hO1 fc_11_7 lk_RX11_41 dX11_loads_39 hb6 ?_
        refine e_bipush (v := 75) dX11_loads_42 (by decide) ?_
        obtain ⟨hI7, hf⟩ := e_if hf
        refine e_iald hI7 dX11_loads_44 ?_
        refine e_istore_n (lv' := [(2, .int _), (0, .ref _), (1, .int _)]) dX11_loads_45 rfl (by decide) rfl ?_
        refine e_aload_n 1 dX11_loads_46 rfl rfl ?_
        obtain ⟨b8, hb9, hf⟩ := e_bd hf
        refine e_getR hO1 fc_11_7 lk_RX11_41 dX11_loads_47 hb9 ?_
        refine e_bipush (v := 75) dX11_loads_50 (by decide) ?_
        refine e_iconst (v := 0) dX11_loads_52 (by decide) ?_
        obtain ⟨hI10, hf⟩ := e_if hf
        refine e_iast hI10 dX11_loads_53 ?_
        refine e_aload_n 1 dX11_loads_54 rfl rfl ?_
        obtain ⟨b11, hb12, hf⟩ := e_bd hf
        refine e_getR hO1 fc_11_7 lk_RX11_41 dX11_loads_55 hb12 ?_
        refine e_bipush (v := 74) dX11_loads_58 (by decide) ?_
        refine e_iload_n 2 dX11_loads_60 rfl rfl ?_
        obtain ⟨hI13, hf⟩ := e_if hf
        refine e_iast hI13 dX11_loads_61 ?_
        obtain ⟨h14, hh15, hf⟩ := e_bd hf
        refine e_hn hh15 ?_
        refine e_iload_n 0 dX11_loads_62 rfl rfl ?_
        exact e_iret rfl dX11_loads_63 (qW hf)
      · replace hf := e_ie c hf
        refine e_bipush (v := (-2)) dX11_loads_35 (by decide) ?_
        exact e_iret rfl dX11_loads_37 (qW hf)
  · replace hf := e_it c hf
    refine e_iconst (v := (-1)) dX11_loads_12 (by decide) ?_
    exact e_iret rfl dX11_loads_13 (qW hf)
def f_X11_load (L : eL) (h : eH) (v0 : Nat) (v1 : Int32) : Option (eH × Int32) :=
  if isO L v0 11 = true then
  (f_X11_putsBy L (sI h v0 0 0) v0).bind fun r2 =>
  (f_X11_loads L r2 v0 v1).bind fun r4 =>
  (f_X11_counts L r4.1 v0 r4.2).bind fun r6 =>
  some (r6.1, r6.2)
  else none
set_option maxRecDepth 100000 in
set_option maxHeartbeats 4000000 in
theorem m_X11_load {l : Launch} {d : Nat} {L : eL} {h : eH} {v0 : Nat} {v1 : Int32} {r : eH × Int32} (hd : 3 ≤ d) (hf : f_X11_load L h v0 v1 = some r) : e_Met l yX11_load cX11_load 2 (some .int) d 0 0 true L h [.ref v0, .int v1] (Qx (some (.int r.2)) L r.1) := by
  refine e_metl (by decide) (Nat.le_of_ble_eq_true rfl) (lv := [(0, .ref v0), (1, .int v1)]) rfl ?_
  unfold f_X11_load at hf
  refine e_aload_n 0 dX11_load_0 rfl rfl ?_
  refine e_iconst (v := 0) dX11_load_1 (by decide) ?_
  obtain ⟨hO1, hf⟩ := e_if hf
  refine e_putI hO1 fc_11_0 rfl lk_RX11_3 dX11_load_2 ?_
  refine e_aload_n 0 dX11_load_5 rfl rfl ?_
  obtain ⟨r2, hr3, hf⟩ := e_bd hf
  refine e_callV (st := []) ml_RX11_284 k_X11_putsBy (m_X11_putsBy (d := d - 1) (by omega) hr3) hO1 ⟨by decide, rfl⟩ rfl rfl (Nat.le_of_ble_eq_true rfl) ⟨by omega, by decide⟩ ⟨Nat.le_refl _, Nat.le_refl _⟩ dX11_load_6 ?_
  refine e_aload_n 0 dX11_load_9 rfl rfl ?_
  refine e_aload_n 0 dX11_load_10 rfl rfl ?_
  refine e_iload_n 1 dX11_load_11 rfl rfl ?_
  obtain ⟨r4, hr5, hf⟩ := e_bd hf
  refine e_callV (st := [.ref _]) ml_RX11_300 k_X11_loads (m_X11_loads (d := d - 1) (by omega) hr5) hO1 ⟨by decide, rfl⟩ rfl rfl (Nat.le_of_ble_eq_true rfl) ⟨by omega, by decide⟩ ⟨Nat.le_refl _, Nat.le_refl _⟩ dX11_load_12 ?_
  obtain ⟨r6, hr7, hf⟩ := e_bd hf
  refine e_callV (st := []) ml_RX11_294 k_X11_counts (m_X11_counts (d := d - 1) (by omega) hr7) hO1 ⟨by decide, rfl⟩ rfl rfl (Nat.le_of_ble_eq_true rfl) ⟨by omega, by decide⟩ ⟨Nat.le_refl _, Nat.le_refl _⟩ dX11_load_15 ?_
  exact e_iret rfl dX11_load_18 (qW hf)
def f_X11_signIn (L : eL) (h : eH) (v0 : Nat) (v1 : Int32) (v2 : Int32) (v3 : Int32) : Option (eH × Int32) :=
  if isO L v0 11 = true then
  if (gI h v0 12) ≤ (gI h v0 11) then
    some (h, (-1))
  else
    (gR h v0 9).bind fun b2 =>
    if inA L b2 0 (gI h v0 11) = true then
    if (f_X11_in (((gI h b2 (gI h v0 11).toNatClampNeg) - v1).toInt64) v2.toInt64 v3.toInt64) = 0 then
      some (h, (-1))
    else
      (gR (sI h v0 11 ((gI h v0 11) + 1)) v0 9).bind fun b5 =>
      if inA L b5 0 ((gI (sI h v0 11 ((gI h v0 11) + 1)) v0 11) - 1) = true then
      some (sI h v0 11 ((gI h v0 11) + 1), (gI (sI h v0 11 ((gI h v0 11) + 1)) b5 ((gI (sI h v0 11 ((gI h v0 11) + 1)) v0 11) - 1).toNatClampNeg) - v1)
      else none
    else none
  else none
set_option maxRecDepth 100000 in
set_option maxHeartbeats 4000000 in
theorem m_X11_signIn {l : Launch} {d : Nat} {L : eL} {h : eH} {v0 : Nat} {v1 : Int32} {v2 : Int32} {v3 : Int32} {r : eH × Int32} (hd : 2 ≤ d) (hf : f_X11_signIn L h v0 v1 v2 v3 = some r) : e_Met l yX11_signIn cX11_signIn 4 (some .int) d 0 0 true L h [.ref v0, .int v1, .int v2, .int v3] (Qx (some (.int r.2)) L r.1) := by
  refine e_metl (by decide) (Nat.le_of_ble_eq_true rfl) (lv := [(0, .ref v0), (1, .int v1), (2, .int v2), (3, .int v3)]) rfl ?_
  unfold f_X11_signIn at hf
  refine e_aload_n 0 dX11_signIn_0 rfl rfl ?_
  obtain ⟨hO1, hf⟩ := e_if hf
  refine e_getI hO1 fc_11_11 lk_RX11_129 dX11_signIn_1 ?_
  refine e_aload_n 0 dX11_signIn_4 rfl rfl ?_
  refine e_getI hO1 fc_11_12 lk_RX11_141 dX11_signIn_5 ?_
  refine e_icmp_ge (t := 33) dX11_signIn_8 (by decide) (fun c => ?_) (fun c => ?_)
  · replace hf := e_it c hf
    refine e_iconst (v := (-1)) dX11_signIn_33 (by decide) ?_
    exact e_iret rfl dX11_signIn_34 (qW hf)
  · replace hf := e_ie c hf
    refine e_aload_n 0 dX11_signIn_11 rfl rfl ?_
    obtain ⟨b2, hb3, hf⟩ := e_bd hf
    refine e_getR hO1 fc_11_9 lk_RX11_47 dX11_signIn_12 hb3 ?_
    refine e_aload_n 0 dX11_signIn_15 rfl rfl ?_
    refine e_getI hO1 fc_11_11 lk_RX11_129 dX11_signIn_16 ?_
    obtain ⟨hI4, hf⟩ := e_if hf
    refine e_iald hI4 dX11_signIn_19 ?_
    refine e_iload_n 1 dX11_signIn_20 rfl rfl ?_
    refine e_isub dX11_signIn_21 ?_
    refine e_i2l dX11_signIn_22 ?_
    refine e_iload_n 2 dX11_signIn_23 rfl rfl ?_
    refine e_i2l dX11_signIn_24 ?_
    refine e_iload_n 3 dX11_signIn_25 rfl rfl ?_
    refine e_i2l dX11_signIn_26 ?_
    refine e_callS (st := []) ml_RX11_118 k_X11_in (m_X11_in (d := d - 1) (by omega) rfl) rfl rfl (Nat.le_of_ble_eq_true rfl) ⟨by omega, by decide⟩ ⟨Nat.le_refl _, Nat.le_refl _⟩ dX11_signIn_27 ?_
    refine e_if_ne (t := 35) dX11_signIn_30 (by decide) (fun c => ?_) (fun c => ?_)
    · replace hf := e_ie c hf
      refine e_aload_n 0 dX11_signIn_35 rfl rfl ?_
      refine e_dupR dX11_signIn_36 ?_
      refine e_getI hO1 fc_11_11 lk_RX11_129 dX11_signIn_37 ?_
      refine e_iconst (v := 1) dX11_signIn_40 (by decide) ?_
      refine e_iadd dX11_signIn_41 ?_
      refine e_putI hO1 fc_11_11 rfl lk_RX11_129 dX11_signIn_42 ?_
      refine e_aload_n 0 dX11_signIn_45 rfl rfl ?_
      obtain ⟨b5, hb6, hf⟩ := e_bd hf
      refine e_getR hO1 fc_11_9 lk_RX11_47 dX11_signIn_46 hb6 ?_
      refine e_aload_n 0 dX11_signIn_49 rfl rfl ?_
      refine e_getI hO1 fc_11_11 lk_RX11_129 dX11_signIn_50 ?_
      refine e_iconst (v := 1) dX11_signIn_53 (by decide) ?_
      refine e_isub dX11_signIn_54 ?_
      obtain ⟨hI7, hf⟩ := e_if hf
      refine e_iald hI7 dX11_signIn_55 ?_
      refine e_iload_n 1 dX11_signIn_56 rfl rfl ?_
      refine e_isub dX11_signIn_57 ?_
      exact e_iret rfl dX11_signIn_58 (qW hf)
    · replace hf := e_it c hf
      refine e_iconst (v := (-1)) dX11_signIn_33 (by decide) ?_
      exact e_iret rfl dX11_signIn_34 (qW hf)
def f_X11_does (L : eL) (h : eH) (v0 : Nat) (v1 : Int32) : Option (eH × Int32) :=
  if isO L v0 11 = true then
  (gR h v0 27).bind fun b2 =>
  if inA L b2 0 v1 = true then
  (gR h v0 26).bind fun b5 =>
  if inA L b5 0 v1 = true then
  if (gI h b5 v1.toNatClampNeg) = 0 then
    (gR h v0 7).bind fun b8 =>
    (f_X11_goesOn L h v0 b8 (gI h b2 v1.toNatClampNeg)).bind fun r10 =>
    if 0 < r10.2 then
      some (r10.1, 1)
    else
      if (gI h b2 v1.toNatClampNeg) = 0 then
        some (r10.1, 1)
      else
        some (r10.1, 0)
  else if (gI h b5 v1.toNatClampNeg) = 1 then
    (gR h v0 7).bind fun b12 =>
    (gR h v0 7).bind fun b14 =>
    if inA L b14 0 73 = true then
    if inA L b12 0 73 = true then
    (some (sI h b12 (73 : Int32).toNatClampNeg (((gI h b14 (73 : Int32).toNatClampNeg) + (gI h b2 v1.toNatClampNeg)) - ((gI h b14 (73 : Int32).toNatClampNeg) + (gI h b2 v1.toNatClampNeg)) / 4 * 4))).bind fun h18 =>
    some (h18, 1)
    else none
    else none
  else if (gI h b5 v1.toNatClampNeg) = 2 then
    (f_X11_daysGo L h v0 (gI h b2 v1.toNatClampNeg)).bind fun r20 =>
    if r20.2 < 0 then
      some (r20.1, 0)
    else
      some (r20.1, 1)
  else if (gI h b5 v1.toNatClampNeg) = 3 then
    (f_X11_chairsAt L h v0 (gI h b2 v1.toNatClampNeg)).bind fun r22 =>
    if r22.2 < 0 then
      some (r22.1, 0)
    else
      some (r22.1, 1)
  else
    (f_X11_loads L h v0 (10 * (gI h b2 v1.toNatClampNeg))).bind fun r24 =>
    if r24.2 < 0 then
      some (r24.1, 0)
    else
      some (r24.1, 1)
  else none
  else none
  else none
set_option maxRecDepth 100000 in
set_option maxHeartbeats 4000000 in
theorem m_X11_does {l : Launch} {d : Nat} {L : eL} {h : eH} {v0 : Nat} {v1 : Int32} {r : eH × Int32} (hd : 7 ≤ d) (hf : f_X11_does L h v0 v1 = some r) : e_Met l yX11_does cX11_does 3 (some .boolean) d 0 0 true L h [.ref v0, .int v1] (Qx (some (.int r.2)) L r.1) := by
  refine e_metl (by decide) (Nat.le_of_ble_eq_true rfl) (lv := [(0, .ref v0), (1, .int v1)]) rfl ?_
  unfold f_X11_does at hf
  refine e_aload_n 0 dX11_does_0 rfl rfl ?_
  obtain ⟨hO1, hf⟩ := e_if hf
  obtain ⟨b2, hb3, hf⟩ := e_bd hf
  refine e_getR hO1 fc_11_27 lk_RX11_74 dX11_does_1 hb3 ?_
  refine e_iload_n 1 dX11_does_4 rfl rfl ?_
  obtain ⟨hI4, hf⟩ := e_if hf
  refine e_iald hI4 dX11_does_5 ?_
  refine e_istore_n (lv' := [(2, .int _), (0, .ref _), (1, .int _)]) dX11_does_6 rfl (by decide) rfl ?_
  refine e_aload_n 1 dX11_does_7 rfl rfl ?_
  obtain ⟨b5, hb6, hf⟩ := e_bd hf
  refine e_getR hO1 fc_11_26 lk_RX11_71 dX11_does_8 hb6 ?_
  refine e_iload_n 2 dX11_does_11 rfl rfl ?_
  obtain ⟨hI7, hf⟩ := e_if hf
  refine e_iald hI7 dX11_does_12 ?_
  by_cases c0 : (gI h b5 v1.toNatClampNeg) = 0
  · replace hf := e_it c0 hf
    refine e_tabIn (t := 44) dX11_does_13 (by rw [c0]; decide) (by rw [c0]; decide) (by first | (rw [c0]; done) | (rw [c0]; rfl)) (by decide) ?_
    refine e_aload_n 1 dX11_does_44 rfl rfl ?_
    refine e_aload_n 1 dX11_does_45 rfl rfl ?_
    obtain ⟨b8, hb9, hf⟩ := e_bd hf
    refine e_getR hO1 fc_11_7 lk_RX11_41 dX11_does_46 hb9 ?_
    refine e_iload_n 0 dX11_does_49 rfl rfl ?_
    obtain ⟨r10, hr11, hf⟩ := e_bd hf
    refine e_callV (st := []) ml_RX11_287 k_X11_goesOn (m_X11_goesOn (d := d - 1) (by omega) hr11) hO1 ⟨by decide, rfl⟩ rfl rfl (Nat.le_of_ble_eq_true rfl) ⟨by omega, by decide⟩ ⟨Nat.le_refl _, Nat.le_refl _⟩ dX11_does_50 ?_
    refine e_if_gt (t := 60) dX11_does_53 (by decide) (fun c => ?_) (fun c => ?_)
    · replace hf := e_it c hf
      refine e_iconst (v := 1) dX11_does_60 (by decide) ?_
      refine e_goto (t := 65) dX11_does_61 (by decide) ?_
      exact e_zret (ty := .boolean) rfl rfl dX11_does_65 (qW hf)
    · replace hf := e_ie c hf
      refine e_iload_n 0 dX11_does_56 rfl rfl ?_
      refine e_if_ne (t := 64) dX11_does_57 (by decide) (fun c => ?_) (fun c => ?_)
      · replace hf := e_ie c hf
        refine e_iconst (v := 0) dX11_does_64 (by decide) ?_
        exact e_zret (ty := .boolean) rfl rfl dX11_does_65 (qW hf)
      · replace hf := e_it c hf
        refine e_iconst (v := 1) dX11_does_60 (by decide) ?_
        refine e_goto (t := 65) dX11_does_61 (by decide) ?_
        exact e_zret (ty := .boolean) rfl rfl dX11_does_65 (qW hf)
  replace hf := e_ie c0 hf
  by_cases c1 : (gI h b5 v1.toNatClampNeg) = 1
  · replace hf := e_it c1 hf
    refine e_tabIn (t := 66) dX11_does_13 (by rw [c1]; decide) (by rw [c1]; decide) (by first | (rw [c1]; done) | (rw [c1]; rfl)) (by decide) ?_
    refine e_aload_n 1 dX11_does_66 rfl rfl ?_
    obtain ⟨b12, hb13, hf⟩ := e_bd hf
    refine e_getR hO1 fc_11_7 lk_RX11_41 dX11_does_67 hb13 ?_
    refine e_bipush (v := 73) dX11_does_70 (by decide) ?_
    refine e_aload_n 1 dX11_does_72 rfl rfl ?_
    obtain ⟨b14, hb15, hf⟩ := e_bd hf
    refine e_getR hO1 fc_11_7 lk_RX11_41 dX11_does_73 hb15 ?_
    refine e_bipush (v := 73) dX11_does_76 (by decide) ?_
    obtain ⟨hI16, hf⟩ := e_if hf
    refine e_iald hI16 dX11_does_78 ?_
    refine e_iload_n 0 dX11_does_79 rfl rfl ?_
    refine e_iadd dX11_does_80 ?_
    refine e_iconst (v := 4) dX11_does_81 (by decide) ?_
    refine e_irem dX11_does_82 (by decide) ?_
    obtain ⟨hI17, hf⟩ := e_if hf
    refine e_iast hI17 dX11_does_83 ?_
    obtain ⟨h18, hh19, hf⟩ := e_bd hf
    refine e_hn hh19 ?_
    refine e_iconst (v := 1) dX11_does_84 (by decide) ?_
    exact e_zret (ty := .boolean) rfl rfl dX11_does_85 (qW hf)
  replace hf := e_ie c1 hf
  by_cases c2 : (gI h b5 v1.toNatClampNeg) = 2
  · replace hf := e_it c2 hf
    refine e_tabIn (t := 86) dX11_does_13 (by rw [c2]; decide) (by rw [c2]; decide) (by first | (rw [c2]; done) | (rw [c2]; rfl)) (by decide) ?_
    refine e_aload_n 1 dX11_does_86 rfl rfl ?_
    refine e_iload_n 0 dX11_does_87 rfl rfl ?_
    obtain ⟨r20, hr21, hf⟩ := e_bd hf
    refine e_callV (st := []) ml_RX11_291 k_X11_daysGo (m_X11_daysGo (d := d - 1) (by omega) hr21) hO1 ⟨by decide, rfl⟩ rfl rfl (Nat.le_of_ble_eq_true rfl) ⟨by omega, by decide⟩ ⟨Nat.le_refl _, Nat.le_refl _⟩ dX11_does_88 ?_
    refine e_if_lt (t := 98) dX11_does_91 (by decide) (fun c => ?_) (fun c => ?_)
    · replace hf := e_it c hf
      refine e_iconst (v := 0) dX11_does_98 (by decide) ?_
      exact e_zret (ty := .boolean) rfl rfl dX11_does_99 (qW hf)
    · replace hf := e_ie c hf
      refine e_iconst (v := 1) dX11_does_94 (by decide) ?_
      refine e_goto (t := 99) dX11_does_95 (by decide) ?_
      exact e_zret (ty := .boolean) rfl rfl dX11_does_99 (qW hf)
  replace hf := e_ie c2 hf
  by_cases c3 : (gI h b5 v1.toNatClampNeg) = 3
  · replace hf := e_it c3 hf
    refine e_tabIn (t := 100) dX11_does_13 (by rw [c3]; decide) (by rw [c3]; decide) (by first | (rw [c3]; done) | (rw [c3]; rfl)) (by decide) ?_
    refine e_aload_n 1 dX11_does_100 rfl rfl ?_
    refine e_iload_n 0 dX11_does_101 rfl rfl ?_
    obtain ⟨r22, hr23, hf⟩ := e_bd hf
    refine e_callV (st := []) ml_RX11_297 k_X11_chairsAt (m_X11_chairsAt (d := d - 1) (by omega) hr23) hO1 ⟨by decide, rfl⟩ rfl rfl (Nat.le_of_ble_eq_true rfl) ⟨by omega, by decide⟩ ⟨Nat.le_refl _, Nat.le_refl _⟩ dX11_does_102 ?_
    refine e_if_lt (t := 112) dX11_does_105 (by decide) (fun c => ?_) (fun c => ?_)
    · replace hf := e_it c hf
      refine e_iconst (v := 0) dX11_does_112 (by decide) ?_
      exact e_zret (ty := .boolean) rfl rfl dX11_does_113 (qW hf)
    · replace hf := e_ie c hf
      refine e_iconst (v := 1) dX11_does_108 (by decide) ?_
      refine e_goto (t := 113) dX11_does_109 (by decide) ?_
      exact e_zret (ty := .boolean) rfl rfl dX11_does_113 (qW hf)
  replace hf := e_ie c3 hf
  refine e_tabOut (t := 114) dX11_does_13 (e_out (fun j j1 j2 => by
      have j3 : j = 0 ∨ j = 1 ∨ j = 2 ∨ j = 3 := by omega
      rcases j3 with rfl | rfl | rfl | rfl <;> assumption)) (by decide) ?_
  refine e_aload_n 1 dX11_does_114 rfl rfl ?_
  refine e_bipush (v := 10) dX11_does_115 (by decide) ?_
  refine e_iload_n 0 dX11_does_117 rfl rfl ?_
  refine e_imul dX11_does_118 ?_
  obtain ⟨r24, hr25, hf⟩ := e_bd hf
  refine e_callV (st := []) ml_RX11_300 k_X11_loads (m_X11_loads (d := d - 1) (by omega) hr25) hO1 ⟨by decide, rfl⟩ rfl rfl (Nat.le_of_ble_eq_true rfl) ⟨by omega, by decide⟩ ⟨Nat.le_refl _, Nat.le_refl _⟩ dX11_does_119 ?_
  refine e_if_lt (t := 129) dX11_does_122 (by decide) (fun c => ?_) (fun c => ?_)
  · replace hf := e_it c hf
    refine e_iconst (v := 0) dX11_does_129 (by decide) ?_
    exact e_zret (ty := .boolean) rfl rfl dX11_does_130 (qW hf)
  · replace hf := e_ie c hf
    refine e_iconst (v := 1) dX11_does_125 (by decide) ?_
    refine e_goto (t := 130) dX11_does_126 (by decide) ?_
    exact e_zret (ty := .boolean) rfl rfl dX11_does_130 (qW hf)
def f_X11_puts_L2 (L : eL) : Nat → (eH → Option eH) → eH → Nat → Int32 → Option eH
  | 0, _, _, _, _ => none
  | n + 1, k26, h, v0, v1 =>
    if 79 ≤ v1 then
      k26 h
    else
      if isO L v0 11 = true then
      (gR h v0 8).bind fun b2 =>
      (gR h v0 7).bind fun b4 =>
      if inA L b4 0 v1 = true then
      if inA L b2 0 v1 = true then
      (some (sI h b2 v1.toNatClampNeg (gI h b4 v1.toNatClampNeg))).bind fun h8 =>
      f_X11_puts_L2 L n k26 h8 v0 (v1 + Int32.ofInt 1)
      else none
      else none
      else none
set_option maxRecDepth 100000 in
set_option maxHeartbeats 4000000 in
theorem m_X11_puts_L2 {l : Launch} {d : Nat} {L : eL}  {r : eH} {k26 : eH → Option eH} (hd : 1 ≤ d) (hk26 : ∀ (h : eH), k26 h = some r → E l yX11_puts cX11_puts 2 none (e_rm d 0 0) 0 0 true L (Qx none L r) L h 0 0 26 [] []) : ∀ (n : Nat) (h : eH) (v0 : Nat) (v1 : Int32), f_X11_puts_L2 L n k26 h v0 v1 = some r → E l yX11_puts cX11_puts 2 none (e_rm d 0 0) 0 0 true L (Qx none L r) L h 0 0 2 [(0, .ref v0), (1, .int v1)] [] := by
  intro n
  induction n with
  | zero => intro h v0 v1 hf; exact absurd hf (by simp [f_X11_puts_L2])
  | succ n ih =>
    intro h v0 v1 hf
    unfold f_X11_puts_L2 at hf
    refine e_iload_n 1 dX11_puts_2 rfl rfl ?_
    refine e_bipush (v := 79) dX11_puts_3 (by decide) ?_
    refine e_icmp_ge (t := 26) dX11_puts_5 (by decide) (fun c => ?_) (fun c => ?_)
    · replace hf := e_it c hf
      refine e_sub [] rfl ?_
      exact hk26 _ hf
    · replace hf := e_ie c hf
      refine e_aload_n 0 dX11_puts_8 rfl rfl ?_
      obtain ⟨hO1, hf⟩ := e_if hf
      obtain ⟨b2, hb3, hf⟩ := e_bd hf
      refine e_getR hO1 fc_11_8 lk_RX11_44 dX11_puts_9 hb3 ?_
      refine e_iload_n 1 dX11_puts_12 rfl rfl ?_
      refine e_aload_n 0 dX11_puts_13 rfl rfl ?_
      obtain ⟨b4, hb5, hf⟩ := e_bd hf
      refine e_getR hO1 fc_11_7 lk_RX11_41 dX11_puts_14 hb5 ?_
      refine e_iload_n 1 dX11_puts_17 rfl rfl ?_
      obtain ⟨hI6, hf⟩ := e_if hf
      refine e_iald hI6 dX11_puts_18 ?_
      obtain ⟨hI7, hf⟩ := e_if hf
      refine e_iast hI7 dX11_puts_19 ?_
      obtain ⟨h8, hh9, hf⟩ := e_bd hf
      refine e_hn hh9 ?_
      refine e_iinc (lv' := [(1, .int _), (0, .ref _)]) 1 dX11_puts_20 rfl (by decide) rfl ?_
      refine e_goto (t := 2) dX11_puts_23 (by decide) ?_
      refine e_sub [1, 0] rfl ?_
      exact ih _ _ _ hf
def f_X11_puts (L : eL) (h : eH) (v0 : Nat) : Option eH :=
  f_X11_puts_L2 L e_fu (fun (h10 : eH) =>
    some h10) h v0 0
set_option maxRecDepth 100000 in
set_option maxHeartbeats 4000000 in
theorem m_X11_puts {l : Launch} {d : Nat} {L : eL} {h : eH} {v0 : Nat} {r : eH} (hd : 1 ≤ d) (hf : f_X11_puts L h v0 = some r) : e_Met l yX11_puts cX11_puts 2 none d 0 0 true L h [.ref v0] (Qx none L r) := by
  refine e_metl (by decide) (Nat.le_of_ble_eq_true rfl) (lv := [(0, .ref v0)]) rfl ?_
  unfold f_X11_puts at hf
  refine e_iconst (v := 0) dX11_puts_0 (by decide) ?_
  refine e_istore_n (lv' := [(1, .int _), (0, .ref _)]) dX11_puts_1 rfl (by decide) rfl ?_
  refine e_sub [1, 0] rfl ?_
  refine m_X11_puts_L2 hd ?_ e_fu _ _ _ hf
  · intro h10 hf
    exact e_vret rfl dX11_puts_26 (qV hf)
def f_X11_been_L36 (L : eL) : Nat → (eH → Nat → Int64 → Option (eH × Int32)) → eH → Nat → Int32 → Int64 → Int32 → Option (eH × Int32)
  | 0, _, _, _, _, _, _ => none
  | n + 1, k82, h, v0, v1, v2, v4 =>
    if v1 ≤ v4 then
      k82 h v0 v2
    else
      if isO L v0 11 = true then
      (gR h v0 8).bind fun b8 =>
      (gR h v0 8).bind fun b10 =>
      if inA L b10 0 72 = true then
      (f_X11_costOf L h v0 (gI h b10 (72 : Int32).toNatClampNeg)).bind fun r13 =>
      (f_X11_stepGoes L h v0 b8 r13).bind fun r15 =>
      if r15.2 = 0 then
        k82 r15.1 v0 v2
      else
        (gR r15.1 v0 8).bind fun b17 =>
        if inA L b17 0 72 = true then
        f_X11_been_L36 L n k82 r15.1 v0 v1 (v2 ||| ((1 : Int64) <<< ((gI r15.1 b17 (72 : Int32).toNatClampNeg).toInt64 &&& 63))) (v4 + Int32.ofInt 1)
        else none
      else none
      else none
set_option maxRecDepth 100000 in
set_option maxHeartbeats 4000000 in
theorem m_X11_been_L36 {l : Launch} {d : Nat} {L : eL}  {r : eH × Int32} {k82 : eH → Nat → Int64 → Option (eH × Int32)} (hd : 6 ≤ d) (hk82 : ∀ (h : eH) (v0 : Nat) (v2 : Int64), k82 h v0 v2 = some r → E l yX11_been cX11_been 5 (some .int) (e_rm d 0 0) 0 0 true L (Qx (some (.int r.2)) L r.1) L h 0 0 82 [(0, .ref v0), (2, .long v2)] []) : ∀ (n : Nat) (h : eH) (v0 : Nat) (v1 : Int32) (v2 : Int64) (v4 : Int32), f_X11_been_L36 L n k82 h v0 v1 v2 v4 = some r → E l yX11_been cX11_been 5 (some .int) (e_rm d 0 0) 0 0 true L (Qx (some (.int r.2)) L r.1) L h 0 0 36 [(0, .ref v0), (1, .int v1), (2, .long v2), (4, .int v4)] [] := by
  intro n
  induction n with
  | zero => intro h v0 v1 v2 v4 hf; exact absurd hf (by simp [f_X11_been_L36])
  | succ n ih =>
    intro h v0 v1 v2 v4 hf
    unfold f_X11_been_L36 at hf
    refine e_iload 3 dX11_been_36 rfl ?_
    refine e_iload_n 1 dX11_been_38 rfl rfl ?_
    refine e_icmp_ge (t := 82) dX11_been_39 (by decide) (fun c => ?_) (fun c => ?_)
    · replace hf := e_it c hf
      refine e_sub [0, 2] rfl ?_
      exact hk82 _ _ _ hf
    · replace hf := e_ie c hf
      refine e_aload_n 0 dX11_been_42 rfl rfl ?_
      refine e_aload_n 0 dX11_been_43 rfl rfl ?_
      obtain ⟨hO7, hf⟩ := e_if hf
      obtain ⟨b8, hb9, hf⟩ := e_bd hf
      refine e_getR hO7 fc_11_8 lk_RX11_44 dX11_been_44 hb9 ?_
      refine e_aload_n 0 dX11_been_47 rfl rfl ?_
      refine e_aload_n 0 dX11_been_48 rfl rfl ?_
      obtain ⟨b10, hb11, hf⟩ := e_bd hf
      refine e_getR hO7 fc_11_8 lk_RX11_44 dX11_been_49 hb11 ?_
      refine e_bipush (v := 72) dX11_been_52 (by decide) ?_
      obtain ⟨hI12, hf⟩ := e_if hf
      refine e_iald hI12 dX11_been_54 ?_
      obtain ⟨r13, hr14, hf⟩ := e_bd hf
      refine e_callV (st := [.ref _, .ref _]) ml_RX11_262 k_X11_costOf (m_X11_costOf (d := d - 1) (by omega) hr14) hO7 ⟨by decide, rfl⟩ rfl rfl (Nat.le_of_ble_eq_true rfl) ⟨by omega, by decide⟩ ⟨Nat.le_refl _, Nat.le_refl _⟩ dX11_been_55 ?_
      obtain ⟨r15, hr16, hf⟩ := e_bd hf
      refine e_callV (st := []) ml_RX11_265 k_X11_stepGoes (m_X11_stepGoes (d := d - 1) (by omega) hr16) hO7 ⟨by decide, rfl⟩ rfl rfl (Nat.le_of_ble_eq_true rfl) ⟨by omega, by decide⟩ ⟨Nat.le_refl _, Nat.le_refl _⟩ dX11_been_58 ?_
      refine e_if_eq (t := 82) dX11_been_61 (by decide) (fun c => ?_) (fun c => ?_)
      · replace hf := e_it c hf
        refine e_sub [0, 2] rfl ?_
        exact hk82 _ _ _ hf
      · replace hf := e_ie c hf
        refine e_lload_n 2 dX11_been_64 rfl rfl ?_
        refine e_lconst (v := 1) dX11_been_65 (by decide) ?_
        refine e_aload_n 0 dX11_been_66 rfl rfl ?_
        obtain ⟨b17, hb18, hf⟩ := e_bd hf
        refine e_getR hO7 fc_11_8 lk_RX11_44 dX11_been_67 hb18 ?_
        refine e_bipush (v := 72) dX11_been_70 (by decide) ?_
        obtain ⟨hI19, hf⟩ := e_if hf
        refine e_iald hI19 dX11_been_72 ?_
        refine e_lshl dX11_been_73 ?_
        refine e_lor dX11_been_74 ?_
        refine e_lstore_n (lv' := [(2, .long _), (0, .ref _), (1, .int _), (4, .int _)]) dX11_been_75 rfl (by decide) rfl ?_
        refine e_iinc (lv' := [(4, .int _), (2, .long _), (0, .ref _), (1, .int _)]) 3 dX11_been_76 rfl (by decide) rfl ?_
        refine e_goto (t := 36) dX11_been_79 (by decide) ?_
        refine e_sub [2, 3, 1, 0] rfl ?_
        exact ih _ _ _ _ _ hf
def f_X11_been_J82 (L : eL) (h : eH) (v0 : Nat) (v2 : Int64) : Option (eH × Int32) :=
  if isO L v0 11 = true then
  (f_X11_enters L (sI h v0 1 0) v0 v2).bind fun r24 =>
  (gR r24 v0 8).bind fun b26 =>
  if inA L b26 0 72 = true then
  (f_X11_enters L r24 v0 ((gI r24 b26 (72 : Int32).toNatClampNeg).toInt64)).bind fun r29 =>
  (gR r29 v0 8).bind fun b31 =>
  if inA L b31 0 74 = true then
  (f_X11_enters L r29 v0 ((gI r29 b31 (74 : Int32).toNatClampNeg).toInt64)).bind fun r34 =>
  some (r34, f_J13_bitCount_95d88 v2)
  else none
  else none
  else none
set_option maxRecDepth 100000 in
set_option maxHeartbeats 4000000 in
theorem m_X11_been_J82 {l : Launch} {d : Nat} {L : eL}  {r : eH × Int32} (hd : 6 ≤ d)  : ∀ (h : eH) (v0 : Nat) (v2 : Int64), f_X11_been_J82 L h v0 v2 = some r → E l yX11_been cX11_been 5 (some .int) (e_rm d 0 0) 0 0 true L (Qx (some (.int r.2)) L r.1) L h 0 0 82 [(0, .ref v0), (2, .long v2)] [] := by
  intro h v0 v2 hf
  unfold f_X11_been_J82 at hf
  refine e_aload_n 0 dX11_been_82 rfl rfl ?_
  refine e_iconst (v := 0) dX11_been_83 (by decide) ?_
  obtain ⟨hO23, hf⟩ := e_if hf
  refine e_putI hO23 fc_11_1 rfl lk_RX11_15 dX11_been_84 ?_
  refine e_aload_n 0 dX11_been_87 rfl rfl ?_
  refine e_lload_n 1 dX11_been_88 rfl rfl ?_
  obtain ⟨r24, hr25, hf⟩ := e_bd hf
  refine e_callV (st := []) ml_RX11_18 k_X11_enters (m_X11_enters (d := d - 1) (by omega) hr25) hO23 ⟨by decide, rfl⟩ rfl rfl (Nat.le_of_ble_eq_true rfl) ⟨by omega, by decide⟩ ⟨Nat.le_refl _, Nat.le_refl _⟩ dX11_been_89 ?_
  refine e_aload_n 0 dX11_been_92 rfl rfl ?_
  refine e_aload_n 0 dX11_been_93 rfl rfl ?_
  obtain ⟨b26, hb27, hf⟩ := e_bd hf
  refine e_getR hO23 fc_11_8 lk_RX11_44 dX11_been_94 hb27 ?_
  refine e_bipush (v := 72) dX11_been_97 (by decide) ?_
  obtain ⟨hI28, hf⟩ := e_if hf
  refine e_iald hI28 dX11_been_99 ?_
  refine e_i2l dX11_been_100 ?_
  obtain ⟨r29, hr30, hf⟩ := e_bd hf
  refine e_callV (st := []) ml_RX11_18 k_X11_enters (m_X11_enters (d := d - 1) (by omega) hr30) hO23 ⟨by decide, rfl⟩ rfl rfl (Nat.le_of_ble_eq_true rfl) ⟨by omega, by decide⟩ ⟨Nat.le_refl _, Nat.le_refl _⟩ dX11_been_101 ?_
  refine e_aload_n 0 dX11_been_104 rfl rfl ?_
  refine e_aload_n 0 dX11_been_105 rfl rfl ?_
  obtain ⟨b31, hb32, hf⟩ := e_bd hf
  refine e_getR hO23 fc_11_8 lk_RX11_44 dX11_been_106 hb32 ?_
  refine e_bipush (v := 74) dX11_been_109 (by decide) ?_
  obtain ⟨hI33, hf⟩ := e_if hf
  refine e_iald hI33 dX11_been_111 ?_
  refine e_i2l dX11_been_112 ?_
  obtain ⟨r34, hr35, hf⟩ := e_bd hf
  refine e_callV (st := []) ml_RX11_18 k_X11_enters (m_X11_enters (d := d - 1) (by omega) hr35) hO23 ⟨by decide, rfl⟩ rfl rfl (Nat.le_of_ble_eq_true rfl) ⟨by omega, by decide⟩ ⟨Nat.le_refl _, Nat.le_refl _⟩ dX11_been_113 ?_
  refine e_lload_n 1 dX11_been_116 rfl rfl ?_
  refine e_callS (st := []) ml_RX11_320 k_J13_bitCount_95d88 (m_J13_bitCount_95d88 (d := d - 1) (by omega) rfl) rfl rfl (Nat.le_of_ble_eq_true rfl) ⟨by omega, by decide⟩ ⟨Nat.le_refl _, Nat.le_refl _⟩ dX11_been_117 ?_
  exact e_iret rfl dX11_been_120 (qW hf)
def f_X11_been (L : eL) (h : eH) (v0 : Nat) (v1 : Int32) : Option (eH × Int32) :=
  if isO L v0 11 = true then
  if (f_X11_in v1.toInt64 0 200) = 0 then
    some (sI h v0 0 0, (-1))
  else
    (f_X11_puts L (sI h v0 0 0) v0).bind fun r2 =>
    (gR r2 v0 8).bind fun b4 =>
    if inA L b4 0 72 = true then
    f_X11_been_L36 L e_fu (fun (h20 : eH) (w0_21 : Nat) (w2_22 : Int64) =>
      f_X11_been_J82 L h20 w0_21 w2_22) r2 v0 v1 ((1 : Int64) <<< ((gI r2 b4 (72 : Int32).toNatClampNeg).toInt64 &&& 63)) 0
    else none
  else none
set_option maxRecDepth 100000 in
set_option maxHeartbeats 4000000 in
theorem m_X11_been {l : Launch} {d : Nat} {L : eL} {h : eH} {v0 : Nat} {v1 : Int32} {r : eH × Int32} (hd : 6 ≤ d) (hf : f_X11_been L h v0 v1 = some r) : e_Met l yX11_been cX11_been 5 (some .int) d 0 0 true L h [.ref v0, .int v1] (Qx (some (.int r.2)) L r.1) := by
  refine e_metl (by decide) (Nat.le_of_ble_eq_true rfl) (lv := [(0, .ref v0), (1, .int v1)]) rfl ?_
  unfold f_X11_been at hf
  refine e_aload_n 0 dX11_been_0 rfl rfl ?_
  refine e_iconst (v := 0) dX11_been_1 (by decide) ?_
  obtain ⟨hO1, hf⟩ := e_if hf
  refine e_putI hO1 fc_11_0 rfl lk_RX11_3 dX11_been_2 ?_
  refine e_iload_n 1 dX11_been_5 rfl rfl ?_
  refine e_i2l dX11_been_6 ?_
  refine e_lconst (v := 0) dX11_been_7 (by decide) ?_
  refine e_ldc2 kc_RX11_282 dX11_been_8 ?_
  refine e_callS (st := []) ml_RX11_118 k_X11_in (m_X11_in (d := d - 1) (by omega) rfl) rfl rfl (Nat.le_of_ble_eq_true rfl) ⟨by omega, by decide⟩ ⟨Nat.le_refl _, Nat.le_refl _⟩ dX11_been_11 ?_
  refine e_if_ne (t := 19) dX11_been_14 (by decide) (fun c => ?_) (fun c => ?_)
  · replace hf := e_ie c hf
    refine e_aload_n 0 dX11_been_19 rfl rfl ?_
    obtain ⟨r2, hr3, hf⟩ := e_bd hf
    refine e_callV (st := []) ml_RX11_317 k_X11_puts (m_X11_puts (d := d - 1) (by omega) hr3) hO1 ⟨by decide, rfl⟩ rfl rfl (Nat.le_of_ble_eq_true rfl) ⟨by omega, by decide⟩ ⟨Nat.le_refl _, Nat.le_refl _⟩ dX11_been_20 ?_
    refine e_lconst (v := 1) dX11_been_23 (by decide) ?_
    refine e_aload_n 0 dX11_been_24 rfl rfl ?_
    obtain ⟨b4, hb5, hf⟩ := e_bd hf
    refine e_getR hO1 fc_11_8 lk_RX11_44 dX11_been_25 hb5 ?_
    refine e_bipush (v := 72) dX11_been_28 (by decide) ?_
    obtain ⟨hI6, hf⟩ := e_if hf
    refine e_iald hI6 dX11_been_30 ?_
    refine e_lshl dX11_been_31 ?_
    refine e_lstore_n (lv' := [(2, .long _), (0, .ref _), (1, .int _)]) dX11_been_32 rfl (by decide) rfl ?_
    refine e_iconst (v := 0) dX11_been_33 (by decide) ?_
    refine e_istore (lv' := [(4, .int _), (2, .long _), (0, .ref _), (1, .int _)]) dX11_been_34 (by decide) rfl ?_
    refine e_sub [2, 3, 1, 0] rfl ?_
    refine m_X11_been_L36 hd ?_ e_fu _ _ _ _ _ hf
    · intro h20 w0_21 w2_22 hf
      exact m_X11_been_J82 hd _ _ _ hf
  · replace hf := e_it c hf
    refine e_iconst (v := (-1)) dX11_been_17 (by decide) ?_
    exact e_iret rfl dX11_been_18 (qW hf)
def f_X11_reachedFrom_L32 (L : eL) (h : eH) : Nat → (Nat → Nat → Int32 → Int64 → Int64 → Int32 → Option Int64) → Nat → Nat → Int32 → Int64 → Int64 → Int32 → Int32 → Option Int64
  | 0, _, _, _, _, _, _, _, _ => none
  | n + 1, k95, v0, v1, v3, v4, v7, v9, v10 =>
    if 4 ≤ v10 then
      k95 v0 v1 v3 v4 v7 v9
    else
      if (lg_cmp ((v4 >>> (v9.toInt64 &&& 63)) &&& 1) 1) = 0 then
        if isO L v0 11 = true then
        (f_X11_beside L h v0 v9 v10).bind fun r5 =>
        if r5 = v3 then
          f_X11_reachedFrom_L32 L h n k95 v0 v1 v3 (v4 ||| 0) v7 v9 (v10 + Int32.ofInt 1)
        else
          (f_X11_isFree L h v0 v1 r5).bind fun r7 =>
          if r7 = 0 then
            f_X11_reachedFrom_L32 L h n k95 v0 v1 v3 (v4 ||| 0) v7 v9 (v10 + Int32.ofInt 1)
          else
            f_X11_reachedFrom_L32 L h n k95 v0 v1 v3 (v4 ||| ((1 : Int64) <<< (r5.toInt64 &&& 63))) v7 v9 (v10 + Int32.ofInt 1)
        else none
      else
        k95 v0 v1 v3 v4 v7 v9
set_option maxRecDepth 100000 in
set_option maxHeartbeats 4000000 in
theorem m_X11_reachedFrom_L32 {l : Launch} {d : Nat} {L : eL} {h : eH} {r : Int64} {k95 : Nat → Nat → Int32 → Int64 → Int64 → Int32 → Option Int64} (hd : 3 ≤ d) (hk95 : ∀ (v0 : Nat) (v1 : Nat) (v3 : Int32) (v4 : Int64) (v7 : Int64) (v9 : Int32), k95 v0 v1 v3 v4 v7 v9 = some r → E l yX11_reachedFrom cX11_reachedFrom 12 (some .long) (e_rm d 0 0) 0 0 true L (Qx (some (.long r)) L h) L h 0 0 95 [(0, .ref v0), (1, .ref v1), (3, .int v3), (4, .long v4), (7, .long v7), (9, .int v9)] []) : ∀ (n : Nat) (v0 : Nat) (v1 : Nat) (v3 : Int32) (v4 : Int64) (v7 : Int64) (v9 : Int32) (v10 : Int32), f_X11_reachedFrom_L32 L h n k95 v0 v1 v3 v4 v7 v9 v10 = some r → E l yX11_reachedFrom cX11_reachedFrom 12 (some .long) (e_rm d 0 0) 0 0 true L (Qx (some (.long r)) L h) L h 0 0 32 [(0, .ref v0), (1, .ref v1), (3, .int v3), (4, .long v4), (7, .long v7), (9, .int v9), (10, .int v10)] [] := by
  intro n
  induction n with
  | zero => intro v0 v1 v3 v4 v7 v9 v10 hf; exact absurd hf (by simp [f_X11_reachedFrom_L32])
  | succ n ih =>
    intro v0 v1 v3 v4 v7 v9 v10 hf
    unfold f_X11_reachedFrom_L32 at hf
    refine e_iload 6 dX11_reachedFrom_32 rfl ?_
    refine e_iconst (v := 4) dX11_reachedFrom_34 (by decide) ?_
    refine e_icmp_ge (t := 95) dX11_reachedFrom_35 (by decide) (fun c => ?_) (fun c => ?_)
    · replace hf := e_it c hf
      refine e_sub [0, 1, 2, 3, 4, 5] rfl ?_
      exact hk95 _ _ _ _ _ _ hf
    · replace hf := e_ie c hf
      refine e_lload 3 dX11_reachedFrom_38 rfl ?_
      refine e_iload 5 dX11_reachedFrom_40 rfl ?_
      refine e_lshr dX11_reachedFrom_42 ?_
      refine e_lconst (v := 1) dX11_reachedFrom_43 (by decide) ?_
      refine e_land dX11_reachedFrom_44 ?_
      refine e_lconst (v := 1) dX11_reachedFrom_45 (by decide) ?_
      refine e_lcmp dX11_reachedFrom_46 ?_
      refine e_if_ne (t := 95) dX11_reachedFrom_47 (by decide) (fun c => ?_) (fun c => ?_)
      · replace hf := e_ie c hf
        refine e_sub [0, 1, 2, 3, 4, 5] rfl ?_
        exact hk95 _ _ _ _ _ _ hf
      · replace hf := e_it c hf
        refine e_aload_n 0 dX11_reachedFrom_50 rfl rfl ?_
        refine e_iload 5 dX11_reachedFrom_51 rfl ?_
        refine e_iload 6 dX11_reachedFrom_53 rfl ?_
        obtain ⟨hO4, hf⟩ := e_if hf
        obtain ⟨r5, hr6, hf⟩ := e_bd hf
        refine e_callV (st := []) ml_RX11_251 k_X11_beside (m_X11_beside (d := d - 1) (by omega) hr6) hO4 ⟨by decide, rfl⟩ rfl rfl (Nat.le_of_ble_eq_true rfl) ⟨by omega, by decide⟩ ⟨Nat.le_refl _, Nat.le_refl _⟩ dX11_reachedFrom_55 ?_
        refine e_istore (lv' := [(11, .int _), (0, .ref _), (1, .ref _), (3, .int _), (4, .long _), (7, .long _), (9, .int _), (10, .int _)]) dX11_reachedFrom_58 (by decide) rfl ?_
        refine e_lload 4 dX11_reachedFrom_60 rfl ?_
        refine e_iload 0 dX11_reachedFrom_62 rfl ?_
        refine e_iload_n 3 dX11_reachedFrom_64 rfl rfl ?_
        refine e_icmp_eq (t := 85) dX11_reachedFrom_65 (by decide) (fun c => ?_) (fun c => ?_)
        · replace hf := e_it c hf
          refine e_lconst (v := 0) dX11_reachedFrom_85 (by decide) ?_
          refine e_lor dX11_reachedFrom_86 ?_
          refine e_lstore (lv' := [(4, .long _), (11, .int _), (0, .ref _), (1, .ref _), (3, .int _), (7, .long _), (9, .int _), (10, .int _)]) dX11_reachedFrom_87 (by decide) rfl ?_
          refine e_iinc (lv' := [(10, .int _), (4, .long _), (11, .int _), (0, .ref _), (1, .ref _), (3, .int _), (7, .long _), (9, .int _)]) 7 dX11_reachedFrom_89 rfl (by decide) rfl ?_
          refine e_goto (t := 32) dX11_reachedFrom_92 (by decide) ?_
          refine e_sub [3, 4, 5, 1, 6, 7, 0] rfl ?_
          exact ih _ _ _ _ _ _ _ hf
        · replace hf := e_ie c hf
          refine e_aload_n 1 dX11_reachedFrom_68 rfl rfl ?_
          refine e_aload_n 2 dX11_reachedFrom_69 rfl rfl ?_
          refine e_iload 0 dX11_reachedFrom_70 rfl ?_
          obtain ⟨r7, hr8, hf⟩ := e_bd hf
          refine e_callV (st := [.long _]) ml_RX11_241 k_X11_isFree (m_X11_isFree (d := d - 1) (by omega) hr8) hO4 ⟨by decide, rfl⟩ rfl rfl (Nat.le_of_ble_eq_true rfl) ⟨by omega, by decide⟩ ⟨Nat.le_refl _, Nat.le_refl _⟩ dX11_reachedFrom_72 ?_
          refine e_if_eq (t := 85) dX11_reachedFrom_75 (by decide) (fun c => ?_) (fun c => ?_)
          · replace hf := e_it c hf
            refine e_lconst (v := 0) dX11_reachedFrom_85 (by decide) ?_
            refine e_lor dX11_reachedFrom_86 ?_
            refine e_lstore (lv' := [(4, .long _), (11, .int _), (0, .ref _), (1, .ref _), (3, .int _), (7, .long _), (9, .int _), (10, .int _)]) dX11_reachedFrom_87 (by decide) rfl ?_
            refine e_iinc (lv' := [(10, .int _), (4, .long _), (11, .int _), (0, .ref _), (1, .ref _), (3, .int _), (7, .long _), (9, .int _)]) 7 dX11_reachedFrom_89 rfl (by decide) rfl ?_
            refine e_goto (t := 32) dX11_reachedFrom_92 (by decide) ?_
            refine e_sub [3, 4, 5, 1, 6, 7, 0] rfl ?_
            exact ih _ _ _ _ _ _ _ hf
          · replace hf := e_ie c hf
            refine e_lconst (v := 1) dX11_reachedFrom_78 (by decide) ?_
            refine e_iload 0 dX11_reachedFrom_79 rfl ?_
            refine e_lshl dX11_reachedFrom_81 ?_
            refine e_goto (t := 86) dX11_reachedFrom_82 (by decide) ?_
            refine e_lor dX11_reachedFrom_86 ?_
            refine e_lstore (lv' := [(4, .long _), (11, .int _), (0, .ref _), (1, .ref _), (3, .int _), (7, .long _), (9, .int _), (10, .int _)]) dX11_reachedFrom_87 (by decide) rfl ?_
            refine e_iinc (lv' := [(10, .int _), (4, .long _), (11, .int _), (0, .ref _), (1, .ref _), (3, .int _), (7, .long _), (9, .int _)]) 7 dX11_reachedFrom_89 rfl (by decide) rfl ?_
            refine e_goto (t := 32) dX11_reachedFrom_92 (by decide) ?_
            refine e_sub [3, 4, 5, 1, 6, 7, 0] rfl ?_
            exact ih _ _ _ _ _ _ _ hf
def f_X11_reachedFrom_L20 (L : eL) (h : eH) : Nat → (Nat → Nat → Int32 → Int64 → Int64 → Option Int64) → Nat → Nat → Int32 → Int64 → Int64 → Int32 → Option Int64
  | 0, _, _, _, _, _, _, _ => none
  | n + 1, k101, v0, v1, v3, v4, v7, v9 =>
    if isO L v0 11 = true then
    (f_X11_spots L h v0).bind fun r2 =>
    if r2 ≤ v9 then
      k101 v0 v1 v3 v4 v7
    else
      f_X11_reachedFrom_L32 L h e_fu (fun (w0_9 : Nat) (w1_10 : Nat) (w3_11 : Int32) (w4_12 : Int64) (w7_13 : Int64) (w9_14 : Int32) =>
        f_X11_reachedFrom_L20 L h n k101 w0_9 w1_10 w3_11 w4_12 w7_13 (w9_14 + Int32.ofInt 1)) v0 v1 v3 v4 v7 v9 0
    else none
set_option maxRecDepth 100000 in
set_option maxHeartbeats 4000000 in
theorem m_X11_reachedFrom_L20 {l : Launch} {d : Nat} {L : eL} {h : eH} {r : Int64} {k101 : Nat → Nat → Int32 → Int64 → Int64 → Option Int64} (hd : 3 ≤ d) (hk101 : ∀ (v0 : Nat) (v1 : Nat) (v3 : Int32) (v4 : Int64) (v7 : Int64), k101 v0 v1 v3 v4 v7 = some r → E l yX11_reachedFrom cX11_reachedFrom 12 (some .long) (e_rm d 0 0) 0 0 true L (Qx (some (.long r)) L h) L h 0 0 101 [(0, .ref v0), (1, .ref v1), (3, .int v3), (4, .long v4), (7, .long v7)] []) : ∀ (n : Nat) (v0 : Nat) (v1 : Nat) (v3 : Int32) (v4 : Int64) (v7 : Int64) (v9 : Int32), f_X11_reachedFrom_L20 L h n k101 v0 v1 v3 v4 v7 v9 = some r → E l yX11_reachedFrom cX11_reachedFrom 12 (some .long) (e_rm d 0 0) 0 0 true L (Qx (some (.long r)) L h) L h 0 0 20 [(0, .ref v0), (1, .ref v1), (3, .int v3), (4, .long v4), (7, .long v7), (9, .int v9)] [] := by
  intro n
  induction n with
  | zero => intro v0 v1 v3 v4 v7 v9 hf; exact absurd hf (by simp [f_X11_reachedFrom_L20])
  | succ n ih =>
    intro v0 v1 v3 v4 v7 v9 hf
    unfold f_X11_reachedFrom_L20 at hf
    refine e_iload 5 dX11_reachedFrom_20 rfl ?_
    refine e_aload_n 0 dX11_reachedFrom_22 rfl rfl ?_
    obtain ⟨hO1, hf⟩ := e_if hf
    obtain ⟨r2, hr3, hf⟩ := e_bd hf
    refine e_callV (st := [.int _]) ml_RX11_114 k_X11_spots (m_X11_spots (d := d - 1) (by omega) hr3) hO1 ⟨by decide, rfl⟩ rfl rfl (Nat.le_of_ble_eq_true rfl) ⟨by omega, by decide⟩ ⟨Nat.le_refl _, Nat.le_refl _⟩ dX11_reachedFrom_23 ?_
    refine e_icmp_ge (t := 101) dX11_reachedFrom_26 (by decide) (fun c => ?_) (fun c => ?_)
    · replace hf := e_it c hf
      refine e_sub [0, 1, 2, 3, 4] rfl ?_
      exact hk101 _ _ _ _ _ hf
    · replace hf := e_ie c hf
      refine e_iconst (v := 0) dX11_reachedFrom_29 (by decide) ?_
      refine e_istore (lv' := [(10, .int _), (0, .ref _), (1, .ref _), (3, .int _), (4, .long _), (7, .long _), (9, .int _)]) dX11_reachedFrom_30 (by decide) rfl ?_
      refine e_sub [1, 2, 3, 4, 5, 6, 0] rfl ?_
      refine m_X11_reachedFrom_L32 hd ?_ e_fu _ _ _ _ _ _ _ hf
      · intro w0_9 w1_10 w3_11 w4_12 w7_13 w9_14 hf
        refine e_iinc (lv' := [(9, .int _), (0, .ref _), (1, .ref _), (3, .int _), (4, .long _), (7, .long _)]) 5 dX11_reachedFrom_95 rfl (by decide) rfl ?_
        refine e_goto (t := 20) dX11_reachedFrom_98 (by decide) ?_
        refine e_sub [1, 2, 3, 4, 5, 0] rfl ?_
        exact ih _ _ _ _ _ _ hf
def f_X11_reachedFrom_L8 (L : eL) (h : eH) : Nat → (Int64 → Option Int64) → Nat → Nat → Int32 → Int64 → Int32 → Option Int64
  | 0, _, _, _, _, _, _ => none
  | n + 1, k119, v0, v1, v3, v4, v6 =>
    if v6 = 0 then
      k119 v4
    else
      f_X11_reachedFrom_L20 L h e_fu (fun (w0_15 : Nat) (w1_16 : Nat) (w3_17 : Int32) (w4_18 : Int64) (w7_19 : Int64) =>
        if (lg_cmp w4_18 w7_19) = 0 then
          f_X11_reachedFrom_L8 L h n k119 w0_15 w1_16 w3_17 w4_18 0
        else
          f_X11_reachedFrom_L8 L h n k119 w0_15 w1_16 w3_17 w4_18 1) v0 v1 v3 v4 v4 0
set_option maxRecDepth 100000 in
set_option maxHeartbeats 4000000 in
theorem m_X11_reachedFrom_L8 {l : Launch} {d : Nat} {L : eL} {h : eH} {r : Int64} {k119 : Int64 → Option Int64} (hd : 3 ≤ d) (hk119 : ∀ (v4 : Int64), k119 v4 = some r → E l yX11_reachedFrom cX11_reachedFrom 12 (some .long) (e_rm d 0 0) 0 0 true L (Qx (some (.long r)) L h) L h 0 0 119 [(4, .long v4)] []) : ∀ (n : Nat) (v0 : Nat) (v1 : Nat) (v3 : Int32) (v4 : Int64) (v6 : Int32), f_X11_reachedFrom_L8 L h n k119 v0 v1 v3 v4 v6 = some r → E l yX11_reachedFrom cX11_reachedFrom 12 (some .long) (e_rm d 0 0) 0 0 true L (Qx (some (.long r)) L h) L h 0 0 8 [(0, .ref v0), (1, .ref v1), (3, .int v3), (4, .long v4), (6, .int v6)] [] := by
  intro n
  induction n with
  | zero => intro v0 v1 v3 v4 v6 hf; exact absurd hf (by simp [f_X11_reachedFrom_L8])
  | succ n ih =>
    intro v0 v1 v3 v4 v6 hf
    unfold f_X11_reachedFrom_L8 at hf
    refine e_iload 4 dX11_reachedFrom_8 rfl ?_
    refine e_if_eq (t := 119) dX11_reachedFrom_10 (by decide) (fun c => ?_) (fun c => ?_)
    · replace hf := e_it c hf
      refine e_sub [3] rfl ?_
      exact hk119 _ hf
    · replace hf := e_ie c hf
      refine e_lload 3 dX11_reachedFrom_13 rfl ?_
      refine e_lstore (lv' := [(7, .long _), (0, .ref _), (1, .ref _), (3, .int _), (4, .long _), (6, .int _)]) dX11_reachedFrom_15 (by decide) rfl ?_
      refine e_iconst (v := 0) dX11_reachedFrom_17 (by decide) ?_
      refine e_istore (lv' := [(9, .int _), (7, .long _), (0, .ref _), (1, .ref _), (3, .int _), (4, .long _), (6, .int _)]) dX11_reachedFrom_18 (by decide) rfl ?_
      refine e_sub [2, 3, 4, 5, 1, 0] rfl ?_
      refine m_X11_reachedFrom_L20 hd ?_ e_fu _ _ _ _ _ _ hf
      · intro w0_15 w1_16 w3_17 w4_18 w7_19 hf
        refine e_lload 3 dX11_reachedFrom_101 rfl ?_
        refine e_lload 4 dX11_reachedFrom_103 rfl ?_
        refine e_lcmp dX11_reachedFrom_105 ?_
        refine e_if_eq (t := 113) dX11_reachedFrom_106 (by decide) (fun c => ?_) (fun c => ?_)
        · replace hf := e_it c hf
          refine e_iconst (v := 0) dX11_reachedFrom_113 (by decide) ?_
          refine e_istore (lv' := [(6, .int _), (0, .ref _), (1, .ref _), (3, .int _), (4, .long _), (7, .long _)]) dX11_reachedFrom_114 (by decide) rfl ?_
          refine e_goto (t := 8) dX11_reachedFrom_116 (by decide) ?_
          refine e_sub [1, 2, 3, 4, 0] rfl ?_
          exact ih _ _ _ _ _ hf
        · replace hf := e_ie c hf
          refine e_iconst (v := 1) dX11_reachedFrom_109 (by decide) ?_
          refine e_goto (t := 114) dX11_reachedFrom_110 (by decide) ?_
          refine e_istore (lv' := [(6, .int _), (0, .ref _), (1, .ref _), (3, .int _), (4, .long _), (7, .long _)]) dX11_reachedFrom_114 (by decide) rfl ?_
          refine e_goto (t := 8) dX11_reachedFrom_116 (by decide) ?_
          refine e_sub [1, 2, 3, 4, 0] rfl ?_
          exact ih _ _ _ _ _ hf
def f_X11_reachedFrom (L : eL) (h : eH) (v0 : Nat) (v1 : Nat) (v2 : Int32) (v3 : Int32) : Option Int64 :=
  f_X11_reachedFrom_L8 L h e_fu (fun (w4_20 : Int64) =>
    some w4_20) v0 v1 v3 ((1 : Int64) <<< (v2.toInt64 &&& 63)) 1
set_option maxRecDepth 100000 in
set_option maxHeartbeats 4000000 in
theorem m_X11_reachedFrom {l : Launch} {d : Nat} {L : eL} {h : eH} {v0 : Nat} {v1 : Nat} {v2 : Int32} {v3 : Int32} {r : Int64} (hd : 3 ≤ d) (hf : f_X11_reachedFrom L h v0 v1 v2 v3 = some r) : e_Met l yX11_reachedFrom cX11_reachedFrom 12 (some .long) d 0 0 true L h [.ref v0, .ref v1, .int v2, .int v3] (Qx (some (.long r)) L h) := by
  refine e_metl (by decide) (Nat.le_of_ble_eq_true rfl) (lv := [(0, .ref v0), (1, .ref v1), (2, .int v2), (3, .int v3)]) rfl ?_
  unfold f_X11_reachedFrom at hf
  refine e_lconst (v := 1) dX11_reachedFrom_0 (by decide) ?_
  refine e_iload_n 2 dX11_reachedFrom_1 rfl rfl ?_
  refine e_lshl dX11_reachedFrom_2 ?_
  refine e_lstore (lv' := [(4, .long _), (0, .ref _), (1, .ref _), (2, .int _), (3, .int _)]) dX11_reachedFrom_3 (by decide) rfl ?_
  refine e_iconst (v := 1) dX11_reachedFrom_5 (by decide) ?_
  refine e_istore (lv' := [(6, .int _), (4, .long _), (0, .ref _), (1, .ref _), (2, .int _), (3, .int _)]) dX11_reachedFrom_6 (by decide) rfl ?_
  refine e_sub [2, 3, 5, 1, 0] rfl ?_
  refine m_X11_reachedFrom_L8 hd ?_ e_fu _ _ _ _ _ hf
  · intro w4_20 hf
    refine e_lload 0 dX11_reachedFrom_119 rfl ?_
    exact e_lret rfl dX11_reachedFrom_121 (qPL hf)
def f_X11_sweeps_L25 (L : eL) : Nat → (eH → Int32 → Option (eH × Int32)) → (eH → Option (eH × Int32)) → eH → Nat → Int32 → Option (eH × Int32)
  | 0, _, _, _, _, _ => none
  | n + 1, k41, k88, h, v0, v3 =>
    if 999 < v3 then
      k88 h
    else
      if isO L v0 11 = true then
      if (lg_cmp (gL h v0 29) 0) = 0 then
        k41 h v3
      else
        if 999 ≤ v3 then
          f_X11_sweeps_L25 L n k41 k88 h v0 (v3 + Int32.ofInt 1)
        else
          (gR h v0 8).bind fun b10 =>
          (f_X11_stepGoes L h v0 b10 0).bind fun r12 =>
          (gR r12.1 v0 8).bind fun b14 =>
          if inA L b14 0 72 = true then
          (some (sL r12.1 v0 29 ((gL r12.1 v0 29) &&& (((1 : Int64) <<< ((gI r12.1 b14 (72 : Int32).toNatClampNeg).toInt64 &&& 63)) ^^^ (-1))))).bind fun h17 =>
          f_X11_sweeps_L25 L n k41 k88 h17 v0 (v3 + Int32.ofInt 1)
          else none
      else none
set_option maxRecDepth 100000 in
set_option maxHeartbeats 4000000 in
theorem m_X11_sweeps_L25 {l : Launch} {d : Nat} {L : eL}  {r : eH × Int32} {k41 : eH → Int32 → Option (eH × Int32)} {k88 : eH → Option (eH × Int32)} (hd : 6 ≤ d) (hk41 : ∀ (h : eH) (v3 : Int32), k41 h v3 = some r → E l yX11_sweeps cX11_sweeps 4 (some .int) (e_rm d 0 0) 0 0 true L (Qx (some (.int r.2)) L r.1) L h 0 0 41 [(3, .int v3)] []) (hk88 : ∀ (h : eH), k88 h = some r → E l yX11_sweeps cX11_sweeps 4 (some .int) (e_rm d 0 0) 0 0 true L (Qx (some (.int r.2)) L r.1) L h 0 0 88 [] []) : ∀ (n : Nat) (h : eH) (v0 : Nat) (v3 : Int32), f_X11_sweeps_L25 L n k41 k88 h v0 v3 = some r → E l yX11_sweeps cX11_sweeps 4 (some .int) (e_rm d 0 0) 0 0 true L (Qx (some (.int r.2)) L r.1) L h 0 0 25 [(0, .ref v0), (3, .int v3)] [] := by
  intro n
  induction n with
  | zero => intro h v0 v3 hf; exact absurd hf (by simp [f_X11_sweeps_L25])
  | succ n ih =>
    intro h v0 v3 hf
    unfold f_X11_sweeps_L25 at hf
    refine e_iload_n 1 dX11_sweeps_25 rfl rfl ?_
    refine e_sipush (v := 999) dX11_sweeps_26 (by decide) ?_
    refine e_icmp_gt (t := 88) dX11_sweeps_29 (by decide) (fun c => ?_) (fun c => ?_)
    · replace hf := e_it c hf
      refine e_sub [] rfl ?_
      exact hk88 _ hf
    · replace hf := e_ie c hf
      refine e_aload_n 0 dX11_sweeps_32 rfl rfl ?_
      obtain ⟨hO9, hf⟩ := e_if hf
      refine e_getL hO9 fc_11_29 lk_RX11_328 dX11_sweeps_33 ?_
      refine e_lconst (v := 0) dX11_sweeps_36 (by decide) ?_
      refine e_lcmp dX11_sweeps_37 ?_
      refine e_if_ne (t := 43) dX11_sweeps_38 (by decide) (fun c => ?_) (fun c => ?_)
      · replace hf := e_ie c hf
        refine e_iload_n 1 dX11_sweeps_43 rfl rfl ?_
        refine e_sipush (v := 999) dX11_sweeps_44 (by decide) ?_
        refine e_icmp_ge (t := 82) dX11_sweeps_47 (by decide) (fun c => ?_) (fun c => ?_)
        · replace hf := e_it c hf
          refine e_iinc (lv' := [(3, .int _), (0, .ref _)]) 1 dX11_sweeps_82 rfl (by decide) rfl ?_
          refine e_goto (t := 25) dX11_sweeps_85 (by decide) ?_
          refine e_sub [1, 0] rfl ?_
          exact ih _ _ _ hf
        · replace hf := e_ie c hf
          refine e_aload_n 0 dX11_sweeps_50 rfl rfl ?_
          refine e_aload_n 0 dX11_sweeps_51 rfl rfl ?_
          obtain ⟨b10, hb11, hf⟩ := e_bd hf
          refine e_getR hO9 fc_11_8 lk_RX11_44 dX11_sweeps_52 hb11 ?_
          refine e_iconst (v := 0) dX11_sweeps_55 (by decide) ?_
          obtain ⟨r12, hr13, hf⟩ := e_bd hf
          refine e_callV (st := []) ml_RX11_265 k_X11_stepGoes (m_X11_stepGoes (d := d - 1) (by omega) hr13) hO9 ⟨by decide, rfl⟩ rfl rfl (Nat.le_of_ble_eq_true rfl) ⟨by omega, by decide⟩ ⟨Nat.le_refl _, Nat.le_refl _⟩ dX11_sweeps_56 ?_
          refine e_popI dX11_sweeps_59 ?_
          refine e_aload_n 0 dX11_sweeps_60 rfl rfl ?_
          refine e_dupR dX11_sweeps_61 ?_
          refine e_getL hO9 fc_11_29 lk_RX11_328 dX11_sweeps_62 ?_
          refine e_lconst (v := 1) dX11_sweeps_65 (by decide) ?_
          refine e_aload_n 0 dX11_sweeps_66 rfl rfl ?_
          obtain ⟨b14, hb15, hf⟩ := e_bd hf
          refine e_getR hO9 fc_11_8 lk_RX11_44 dX11_sweeps_67 hb15 ?_
          refine e_bipush (v := 72) dX11_sweeps_70 (by decide) ?_
          obtain ⟨hI16, hf⟩ := e_if hf
          refine e_iald hI16 dX11_sweeps_72 ?_
          refine e_lshl dX11_sweeps_73 ?_
          refine e_ldc2 kc_RX11_326 dX11_sweeps_74 ?_
          refine e_lxor dX11_sweeps_77 ?_
          refine e_land dX11_sweeps_78 ?_
          refine e_putL hO9 fc_11_29 rfl lk_RX11_328 dX11_sweeps_79 ?_
          obtain ⟨h17, hh18, hf⟩ := e_bd hf
          refine e_hn hh18 ?_
          refine e_iinc (lv' := [(3, .int _), (0, .ref _)]) 1 dX11_sweeps_82 rfl (by decide) rfl ?_
          refine e_goto (t := 25) dX11_sweeps_85 (by decide) ?_
          refine e_sub [1, 0] rfl ?_
          exact ih _ _ _ hf
      · replace hf := e_it c hf
        refine e_sub [1] rfl ?_
        exact hk41 _ _ hf
def f_X11_sweeps (L : eL) (h : eH) (v0 : Nat) (v1 : Int64) : Option (eH × Int32) :=
  if isO L v0 11 = true then
  (f_X11_puts L h v0).bind fun r2 =>
  (gR r2 v0 8).bind fun b4 =>
  if inA L b4 0 72 = true then
  (some (sL r2 v0 29 (v1 &&& (((1 : Int64) <<< ((gI r2 b4 (72 : Int32).toNatClampNeg).toInt64 &&& 63)) ^^^ (-1))))).bind fun h7 =>
  f_X11_sweeps_L25 L e_fu (fun (h19 : eH) (w3_20 : Int32) =>
    some (h19, w3_20)) (fun (h21 : eH) =>
    some (h21, 1000)) h7 v0 0
  else none
  else none
set_option maxRecDepth 100000 in
set_option maxHeartbeats 4000000 in
theorem m_X11_sweeps {l : Launch} {d : Nat} {L : eL} {h : eH} {v0 : Nat} {v1 : Int64} {r : eH × Int32} (hd : 6 ≤ d) (hf : f_X11_sweeps L h v0 v1 = some r) : e_Met l yX11_sweeps cX11_sweeps 4 (some .int) d 0 0 true L h [.ref v0, .long v1] (Qx (some (.int r.2)) L r.1) := by
  refine e_metl (by decide) (Nat.le_of_ble_eq_true rfl) (lv := [(0, .ref v0), (1, .long v1)]) rfl ?_
  unfold f_X11_sweeps at hf
  refine e_aload_n 0 dX11_sweeps_0 rfl rfl ?_
  obtain ⟨hO1, hf⟩ := e_if hf
  obtain ⟨r2, hr3, hf⟩ := e_bd hf
  refine e_callV (st := []) ml_RX11_317 k_X11_puts (m_X11_puts (d := d - 1) (by omega) hr3) hO1 ⟨by decide, rfl⟩ rfl rfl (Nat.le_of_ble_eq_true rfl) ⟨by omega, by decide⟩ ⟨Nat.le_refl _, Nat.le_refl _⟩ dX11_sweeps_1 ?_
  refine e_aload_n 0 dX11_sweeps_4 rfl rfl ?_
  refine e_lload_n 1 dX11_sweeps_5 rfl rfl ?_
  refine e_lconst (v := 1) dX11_sweeps_6 (by decide) ?_
  refine e_aload_n 0 dX11_sweeps_7 rfl rfl ?_
  obtain ⟨b4, hb5, hf⟩ := e_bd hf
  refine e_getR hO1 fc_11_8 lk_RX11_44 dX11_sweeps_8 hb5 ?_
  refine e_bipush (v := 72) dX11_sweeps_11 (by decide) ?_
  obtain ⟨hI6, hf⟩ := e_if hf
  refine e_iald hI6 dX11_sweeps_13 ?_
  refine e_lshl dX11_sweeps_14 ?_
  refine e_ldc2 kc_RX11_326 dX11_sweeps_15 ?_
  refine e_lxor dX11_sweeps_18 ?_
  refine e_land dX11_sweeps_19 ?_
  refine e_putL hO1 fc_11_29 rfl lk_RX11_328 dX11_sweeps_20 ?_
  obtain ⟨h7, hh8, hf⟩ := e_bd hf
  refine e_hn hh8 ?_
  refine e_iconst (v := 0) dX11_sweeps_23 (by decide) ?_
  refine e_istore_n (lv' := [(3, .int _), (0, .ref _), (1, .long _)]) dX11_sweeps_24 rfl (by decide) rfl ?_
  refine e_sub [1, 0] rfl ?_
  refine m_X11_sweeps_L25 hd ?_ ?_ e_fu _ _ _ hf
  · intro h19 w3_20 hf
    refine e_iload_n 0 dX11_sweeps_41 rfl rfl ?_
    exact e_iret rfl dX11_sweeps_42 (qW hf)
  · intro h21 hf
    refine e_sipush (v := 1000) dX11_sweeps_88 (by decide) ?_
    exact e_iret rfl dX11_sweeps_91 (qW hf)
def f_X11_all (L : eL) (h : eH) (v0 : Nat) : Option (eH × Int32) :=
  if isO L v0 11 = true then
  (gR (sI h v0 0 0) v0 7).bind fun b2 =>
  (gR (sI h v0 0 0) v0 7).bind fun b4 =>
  if inA L b4 0 72 = true then
  (f_X11_reachedFrom L (sI h v0 0 0) v0 b2 (gI (sI h v0 0 0) b4 (72 : Int32).toNatClampNeg) (-1)).bind fun r7 =>
  (f_X11_sweeps L (sI h v0 0 0) v0 r7).bind fun r9 =>
  if r9.2 ≤ 999 then
    (f_X11_enters L (sI r9.1 v0 1 0) v0 ((f_J13_bitCount_95d88 r7).toInt64)).bind fun r11 =>
    some (r11, r9.2)
  else
    some (r9.1, (-2))
  else none
  else none
set_option maxRecDepth 100000 in
set_option maxHeartbeats 4000000 in
theorem m_X11_all {l : Launch} {d : Nat} {L : eL} {h : eH} {v0 : Nat} {r : eH × Int32} (hd : 7 ≤ d) (hf : f_X11_all L h v0 = some r) : e_Met l yX11_all cX11_all 4 (some .int) d 0 0 true L h [.ref v0] (Qx (some (.int r.2)) L r.1) := by
  refine e_metl (by decide) (Nat.le_of_ble_eq_true rfl) (lv := [(0, .ref v0)]) rfl ?_
  unfold f_X11_all at hf
  refine e_aload_n 0 dX11_all_0 rfl rfl ?_
  refine e_iconst (v := 0) dX11_all_1 (by decide) ?_
  obtain ⟨hO1, hf⟩ := e_if hf
  refine e_putI hO1 fc_11_0 rfl lk_RX11_3 dX11_all_2 ?_
  refine e_aload_n 0 dX11_all_5 rfl rfl ?_
  refine e_aload_n 0 dX11_all_6 rfl rfl ?_
  obtain ⟨b2, hb3, hf⟩ := e_bd hf
  refine e_getR hO1 fc_11_7 lk_RX11_41 dX11_all_7 hb3 ?_
  refine e_aload_n 0 dX11_all_10 rfl rfl ?_
  obtain ⟨b4, hb5, hf⟩ := e_bd hf
  refine e_getR hO1 fc_11_7 lk_RX11_41 dX11_all_11 hb5 ?_
  refine e_bipush (v := 72) dX11_all_14 (by decide) ?_
  obtain ⟨hI6, hf⟩ := e_if hf
  refine e_iald hI6 dX11_all_16 ?_
  refine e_iconst (v := (-1)) dX11_all_17 (by decide) ?_
  obtain ⟨r7, hr8, hf⟩ := e_bd hf
  refine e_callV (st := []) ml_RX11_332 k_X11_reachedFrom (m_X11_reachedFrom (d := d - 1) (by omega) hr8) hO1 ⟨by decide, rfl⟩ rfl rfl (Nat.le_of_ble_eq_true rfl) ⟨by omega, by decide⟩ ⟨Nat.le_refl _, Nat.le_refl _⟩ dX11_all_18 ?_
  refine e_lstore_n (lv' := [(1, .long _), (0, .ref _)]) dX11_all_21 rfl (by decide) rfl ?_
  refine e_aload_n 1 dX11_all_22 rfl rfl ?_
  refine e_lload_n 0 dX11_all_23 rfl rfl ?_
  obtain ⟨r9, hr10, hf⟩ := e_bd hf
  refine e_callV (st := []) ml_RX11_336 k_X11_sweeps (m_X11_sweeps (d := d - 1) (by omega) hr10) hO1 ⟨by decide, rfl⟩ rfl rfl (Nat.le_of_ble_eq_true rfl) ⟨by omega, by decide⟩ ⟨Nat.le_refl _, Nat.le_refl _⟩ dX11_all_24 ?_
  refine e_istore_n (lv' := [(3, .int _), (1, .long _), (0, .ref _)]) dX11_all_27 rfl (by decide) rfl ?_
  refine e_iload_n 0 dX11_all_28 rfl rfl ?_
  refine e_sipush (v := 999) dX11_all_29 (by decide) ?_
  refine e_icmp_le (t := 38) dX11_all_32 (by decide) (fun c => ?_) (fun c => ?_)
  · replace hf := e_it c hf
    refine e_aload_n 2 dX11_all_38 rfl rfl ?_
    refine e_iconst (v := 0) dX11_all_39 (by decide) ?_
    refine e_putI hO1 fc_11_1 rfl lk_RX11_15 dX11_all_40 ?_
    refine e_aload_n 2 dX11_all_43 rfl rfl ?_
    refine e_lload_n 1 dX11_all_44 rfl rfl ?_
    refine e_callS (st := [.ref _]) ml_RX11_320 k_J13_bitCount_95d88 (m_J13_bitCount_95d88 (d := d - 1) (by omega) rfl) rfl rfl (Nat.le_of_ble_eq_true rfl) ⟨by omega, by decide⟩ ⟨Nat.le_refl _, Nat.le_refl _⟩ dX11_all_45 ?_
    refine e_i2l dX11_all_48 ?_
    obtain ⟨r11, hr12, hf⟩ := e_bd hf
    refine e_callV (st := []) ml_RX11_18 k_X11_enters (m_X11_enters (d := d - 1) (by omega) hr12) hO1 ⟨by decide, rfl⟩ rfl rfl (Nat.le_of_ble_eq_true rfl) ⟨by omega, by decide⟩ ⟨Nat.le_refl _, Nat.le_refl _⟩ dX11_all_49 ?_
    refine e_iload_n 0 dX11_all_52 rfl rfl ?_
    exact e_iret rfl dX11_all_53 (qW hf)
  · replace hf := e_ie c hf
    refine e_bipush (v := (-2)) dX11_all_35 (by decide) ?_
    exact e_iret rfl dX11_all_37 (qW hf)
def f_X11_never (L : eL) (h : eH) (v0 : Nat) : Option (eH × Int32) :=
  if isO L v0 11 = true then
  (gR (sI h v0 0 0) v0 7).bind fun b2 =>
  (gR (sI h v0 0 0) v0 7).bind fun b4 =>
  if inA L b4 0 72 = true then
  (f_X11_reachedFrom L (sI h v0 0 0) v0 b2 (gI (sI h v0 0 0) b4 (72 : Int32).toNatClampNeg) (-1)).bind fun r7 =>
  (f_X11_sweeps L (sI h v0 0 0) v0 r7).bind fun r9 =>
  (f_X11_enters L (sI r9.1 v0 1 0) v0 (gL (sI r9.1 v0 1 0) v0 29)).bind fun r11 =>
  some (r11, f_J13_bitCount_95d88 (gL r11 v0 29))
  else none
  else none
set_option maxRecDepth 100000 in
set_option maxHeartbeats 4000000 in
theorem m_X11_never {l : Launch} {d : Nat} {L : eL} {h : eH} {v0 : Nat} {r : eH × Int32} (hd : 7 ≤ d) (hf : f_X11_never L h v0 = some r) : e_Met l yX11_never cX11_never 1 (some .int) d 0 0 true L h [.ref v0] (Qx (some (.int r.2)) L r.1) := by
  refine e_metl (by decide) (Nat.le_of_ble_eq_true rfl) (lv := [(0, .ref v0)]) rfl ?_
  unfold f_X11_never at hf
  refine e_aload_n 0 dX11_never_0 rfl rfl ?_
  refine e_iconst (v := 0) dX11_never_1 (by decide) ?_
  obtain ⟨hO1, hf⟩ := e_if hf
  refine e_putI hO1 fc_11_0 rfl lk_RX11_3 dX11_never_2 ?_
  refine e_aload_n 0 dX11_never_5 rfl rfl ?_
  refine e_aload_n 0 dX11_never_6 rfl rfl ?_
  refine e_aload_n 0 dX11_never_7 rfl rfl ?_
  obtain ⟨b2, hb3, hf⟩ := e_bd hf
  refine e_getR hO1 fc_11_7 lk_RX11_41 dX11_never_8 hb3 ?_
  refine e_aload_n 0 dX11_never_11 rfl rfl ?_
  obtain ⟨b4, hb5, hf⟩ := e_bd hf
  refine e_getR hO1 fc_11_7 lk_RX11_41 dX11_never_12 hb5 ?_
  refine e_bipush (v := 72) dX11_never_15 (by decide) ?_
  obtain ⟨hI6, hf⟩ := e_if hf
  refine e_iald hI6 dX11_never_17 ?_
  refine e_iconst (v := (-1)) dX11_never_18 (by decide) ?_
  obtain ⟨r7, hr8, hf⟩ := e_bd hf
  refine e_callV (st := [.ref _]) ml_RX11_332 k_X11_reachedFrom (m_X11_reachedFrom (d := d - 1) (by omega) hr8) hO1 ⟨by decide, rfl⟩ rfl rfl (Nat.le_of_ble_eq_true rfl) ⟨by omega, by decide⟩ ⟨Nat.le_refl _, Nat.le_refl _⟩ dX11_never_19 ?_
  obtain ⟨r9, hr10, hf⟩ := e_bd hf
  refine e_callV (st := []) ml_RX11_336 k_X11_sweeps (m_X11_sweeps (d := d - 1) (by omega) hr10) hO1 ⟨by decide, rfl⟩ rfl rfl (Nat.le_of_ble_eq_true rfl) ⟨by omega, by decide⟩ ⟨Nat.le_refl _, Nat.le_refl _⟩ dX11_never_22 ?_
  refine e_popI dX11_never_25 ?_
  refine e_aload_n 0 dX11_never_26 rfl rfl ?_
  refine e_iconst (v := 0) dX11_never_27 (by decide) ?_
  refine e_putI hO1 fc_11_1 rfl lk_RX11_15 dX11_never_28 ?_
  refine e_aload_n 0 dX11_never_31 rfl rfl ?_
  refine e_aload_n 0 dX11_never_32 rfl rfl ?_
  refine e_getL hO1 fc_11_29 lk_RX11_328 dX11_never_33 ?_
  obtain ⟨r11, hr12, hf⟩ := e_bd hf
  refine e_callV (st := []) ml_RX11_18 k_X11_enters (m_X11_enters (d := d - 1) (by omega) hr12) hO1 ⟨by decide, rfl⟩ rfl rfl (Nat.le_of_ble_eq_true rfl) ⟨by omega, by decide⟩ ⟨Nat.le_refl _, Nat.le_refl _⟩ dX11_never_36 ?_
  refine e_aload_n 0 dX11_never_39 rfl rfl ?_
  refine e_getL hO1 fc_11_29 lk_RX11_328 dX11_never_40 ?_
  refine e_callS (st := []) ml_RX11_320 k_J13_bitCount_95d88 (m_J13_bitCount_95d88 (d := d - 1) (by omega) rfl) rfl rfl (Nat.le_of_ble_eq_true rfl) ⟨by omega, by decide⟩ ⟨Nat.le_refl _, Nat.le_refl _⟩ dX11_never_43 ?_
  exact e_iret rfl dX11_never_46 (qW hf)
def f_X11_angle_L37 (L : eL) : Nat → (eH → Nat → Int32 → Int32 → Option (eH × Int32)) → eH → Nat → Int64 → Int32 → Int32 → Int32 → Option (eH × Int32)
  | 0, _, _, _, _, _, _, _ => none
  | n + 1, k92, h, v0, v1, v3, v4, v5 =>
    if 3 < v5 then
      k92 h v0 v3 v4
    else
      if isO L v0 11 = true then
      (f_X11_sweeps L (sI h v0 23 v5) v0 v1).bind fun r10 =>
      (f_X11_enters L r10.1 v0 r10.2.toInt64).bind fun r12 =>
      if v4 ≤ r10.2 then
        f_X11_angle_L37 L n k92 r12 v0 v1 v3 (mnI v4 r10.2) (v5 + Int32.ofInt 1)
      else
        f_X11_angle_L37 L n k92 r12 v0 v1 v5 (mnI v4 r10.2) (v5 + Int32.ofInt 1)
      else none
set_option maxRecDepth 100000 in
set_option maxHeartbeats 4000000 in
theorem m_X11_angle_L37 {l : Launch} {d : Nat} {L : eL}  {r : eH × Int32} {k92 : eH → Nat → Int32 → Int32 → Option (eH × Int32)} (hd : 8 ≤ d) (hk92 : ∀ (h : eH) (v0 : Nat) (v3 : Int32) (v4 : Int32), k92 h v0 v3 v4 = some r → E l yX11_angle cX11_angle 7 (some .int) (e_rm d 0 0) 0 0 true L (Qx (some (.int r.2)) L r.1) L h 0 0 92 [(0, .ref v0), (3, .int v3), (4, .int v4)] []) : ∀ (n : Nat) (h : eH) (v0 : Nat) (v1 : Int64) (v3 : Int32) (v4 : Int32) (v5 : Int32), f_X11_angle_L37 L n k92 h v0 v1 v3 v4 v5 = some r → E l yX11_angle cX11_angle 7 (some .int) (e_rm d 0 0) 0 0 true L (Qx (some (.int r.2)) L r.1) L h 0 0 37 [(0, .ref v0), (1, .long v1), (3, .int v3), (4, .int v4), (5, .int v5)] [] := by
  intro n
  induction n with
  | zero => intro h v0 v1 v3 v4 v5 hf; exact absurd hf (by simp [f_X11_angle_L37])
  | succ n ih =>
    intro h v0 v1 v3 v4 v5 hf
    unfold f_X11_angle_L37 at hf
    refine e_iload 4 dX11_angle_37 rfl ?_
    refine e_iconst (v := 3) dX11_angle_39 (by decide) ?_
    refine e_icmp_gt (t := 92) dX11_angle_40 (by decide) (fun c => ?_) (fun c => ?_)
    · replace hf := e_it c hf
      refine e_sub [0, 2, 3] rfl ?_
      exact hk92 _ _ _ _ hf
    · replace hf := e_ie c hf
      refine e_aload_n 0 dX11_angle_43 rfl rfl ?_
      refine e_iload 4 dX11_angle_44 rfl ?_
      obtain ⟨hO9, hf⟩ := e_if hf
      refine e_putI hO9 fc_11_23 rfl lk_RX11_65 dX11_angle_46 ?_
      refine e_aload_n 0 dX11_angle_49 rfl rfl ?_
      refine e_lload_n 1 dX11_angle_50 rfl rfl ?_
      obtain ⟨r10, hr11, hf⟩ := e_bd hf
      refine e_callV (st := []) ml_RX11_336 k_X11_sweeps (m_X11_sweeps (d := d - 1) (by omega) hr11) hO9 ⟨by decide, rfl⟩ rfl rfl (Nat.le_of_ble_eq_true rfl) ⟨by omega, by decide⟩ ⟨Nat.le_refl _, Nat.le_refl _⟩ dX11_angle_51 ?_
      refine e_istore (lv' := [(6, .int _), (0, .ref _), (1, .long _), (3, .int _), (4, .int _), (5, .int _)]) dX11_angle_54 (by decide) rfl ?_
      refine e_aload_n 1 dX11_angle_56 rfl rfl ?_
      refine e_iload 0 dX11_angle_57 rfl ?_
      refine e_i2l dX11_angle_59 ?_
      obtain ⟨r12, hr13, hf⟩ := e_bd hf
      refine e_callV (st := []) ml_RX11_18 k_X11_enters (m_X11_enters (d := d - 1) (by omega) hr13) hO9 ⟨by decide, rfl⟩ rfl rfl (Nat.le_of_ble_eq_true rfl) ⟨by omega, by decide⟩ ⟨Nat.le_refl _, Nat.le_refl _⟩ dX11_angle_60 ?_
      refine e_iload 0 dX11_angle_63 rfl ?_
      refine e_iload 4 dX11_angle_65 rfl ?_
      refine e_icmp_ge (t := 75) dX11_angle_67 (by decide) (fun c => ?_) (fun c => ?_)
      · replace hf := e_it c hf
        refine e_iload_n 3 dX11_angle_75 rfl rfl ?_
        refine e_istore_n (lv' := [(3, .int _), (6, .int _), (0, .ref _), (1, .long _), (4, .int _), (5, .int _)]) dX11_angle_76 rfl (by decide) rfl ?_
        refine e_iload 4 dX11_angle_77 rfl ?_
        refine e_iload 1 dX11_angle_79 rfl ?_
        refine e_mn ml_RX11_135 (by omega) (Nat.le_of_ble_eq_true rfl) ⟨Nat.le_refl _, Nat.le_refl _⟩ dX11_angle_81 ?_
        refine e_istore (lv' := [(4, .int _), (3, .int _), (6, .int _), (0, .ref _), (1, .long _), (5, .int _)]) dX11_angle_84 (by decide) rfl ?_
        refine e_iinc (lv' := [(5, .int _), (4, .int _), (3, .int _), (6, .int _), (0, .ref _), (1, .long _)]) 5 dX11_angle_86 rfl (by decide) rfl ?_
        refine e_goto (t := 37) dX11_angle_89 (by decide) ?_
        refine e_sub [4, 5, 2, 1, 0] rfl ?_
        exact ih _ _ _ _ _ _ hf
      · replace hf := e_ie c hf
        refine e_iload 5 dX11_angle_70 rfl ?_
        refine e_goto (t := 76) dX11_angle_72 (by decide) ?_
        refine e_istore_n (lv' := [(3, .int _), (6, .int _), (0, .ref _), (1, .long _), (4, .int _), (5, .int _)]) dX11_angle_76 rfl (by decide) rfl ?_
        refine e_iload 4 dX11_angle_77 rfl ?_
        refine e_iload 1 dX11_angle_79 rfl ?_
        refine e_mn ml_RX11_135 (by omega) (Nat.le_of_ble_eq_true rfl) ⟨Nat.le_refl _, Nat.le_refl _⟩ dX11_angle_81 ?_
        refine e_istore (lv' := [(4, .int _), (3, .int _), (6, .int _), (0, .ref _), (1, .long _), (5, .int _)]) dX11_angle_84 (by decide) rfl ?_
        refine e_iinc (lv' := [(5, .int _), (4, .int _), (3, .int _), (6, .int _), (0, .ref _), (1, .long _)]) 5 dX11_angle_86 rfl (by decide) rfl ?_
        refine e_goto (t := 37) dX11_angle_89 (by decide) ?_
        refine e_sub [4, 5, 2, 1, 0] rfl ?_
        exact ih _ _ _ _ _ _ hf
def f_X11_angle (L : eL) (h : eH) (v0 : Nat) : Option (eH × Int32) :=
  if isO L v0 11 = true then
  (gR (sI h v0 0 0) v0 7).bind fun b2 =>
  (gR (sI h v0 0 0) v0 7).bind fun b4 =>
  if inA L b4 0 72 = true then
  (f_X11_reachedFrom L (sI h v0 0 0) v0 b2 (gI (sI h v0 0 0) b4 (72 : Int32).toNatClampNeg) (-1)).bind fun r7 =>
  f_X11_angle_L37 L e_fu (fun (h14 : eH) (w0_15 : Nat) (w3_16 : Int32) (w4_17 : Int32) =>
    if isO L w0_15 11 = true then
    (gR (sI h14 w0_15 23 (-1)) w0_15 2).bind fun b19 =>
    if inA L b19 1 0 = true then
    (some (sL (sI h14 w0_15 23 (-1)) b19 (0 : Int32).toNatClampNeg w4_17.toInt64)).bind fun h22 =>
    some (h22, w3_16)
    else none
    else none) (sI (sI h v0 0 0) v0 1 1) v0 r7 0 1000000 1
  else none
  else none
set_option maxRecDepth 100000 in
set_option maxHeartbeats 4000000 in
theorem m_X11_angle {l : Launch} {d : Nat} {L : eL} {h : eH} {v0 : Nat} {r : eH × Int32} (hd : 8 ≤ d) (hf : f_X11_angle L h v0 = some r) : e_Met l yX11_angle cX11_angle 7 (some .int) d 0 0 true L h [.ref v0] (Qx (some (.int r.2)) L r.1) := by
  refine e_metl (by decide) (Nat.le_of_ble_eq_true rfl) (lv := [(0, .ref v0)]) rfl ?_
  unfold f_X11_angle at hf
  refine e_aload_n 0 dX11_angle_0 rfl rfl ?_
  refine e_iconst (v := 0) dX11_angle_1 (by decide) ?_
  obtain ⟨hO1, hf⟩ := e_if hf
  refine e_putI hO1 fc_11_0 rfl lk_RX11_3 dX11_angle_2 ?_
  refine e_aload_n 0 dX11_angle_5 rfl rfl ?_
  refine e_aload_n 0 dX11_angle_6 rfl rfl ?_
  obtain ⟨b2, hb3, hf⟩ := e_bd hf
  refine e_getR hO1 fc_11_7 lk_RX11_41 dX11_angle_7 hb3 ?_
  refine e_aload_n 0 dX11_angle_10 rfl rfl ?_
  obtain ⟨b4, hb5, hf⟩ := e_bd hf
  refine e_getR hO1 fc_11_7 lk_RX11_41 dX11_angle_11 hb5 ?_
  refine e_bipush (v := 72) dX11_angle_14 (by decide) ?_
  obtain ⟨hI6, hf⟩ := e_if hf
  refine e_iald hI6 dX11_angle_16 ?_
  refine e_iconst (v := (-1)) dX11_angle_17 (by decide) ?_
  obtain ⟨r7, hr8, hf⟩ := e_bd hf
  refine e_callV (st := []) ml_RX11_332 k_X11_reachedFrom (m_X11_reachedFrom (d := d - 1) (by omega) hr8) hO1 ⟨by decide, rfl⟩ rfl rfl (Nat.le_of_ble_eq_true rfl) ⟨by omega, by decide⟩ ⟨Nat.le_refl _, Nat.le_refl _⟩ dX11_angle_18 ?_
  refine e_lstore_n (lv' := [(1, .long _), (0, .ref _)]) dX11_angle_21 rfl (by decide) rfl ?_
  refine e_iconst (v := 0) dX11_angle_22 (by decide) ?_
  refine e_istore_n (lv' := [(3, .int _), (1, .long _), (0, .ref _)]) dX11_angle_23 rfl (by decide) rfl ?_
  refine e_ldcw kc_RX11_339 dX11_angle_24 ?_
  refine e_istore (lv' := [(4, .int _), (3, .int _), (1, .long _), (0, .ref _)]) dX11_angle_27 (by decide) rfl ?_
  refine e_aload_n 3 dX11_angle_29 rfl rfl ?_
  refine e_iconst (v := 1) dX11_angle_30 (by decide) ?_
  refine e_putI hO1 fc_11_1 rfl lk_RX11_15 dX11_angle_31 ?_
  refine e_iconst (v := 1) dX11_angle_34 (by decide) ?_
  refine e_istore (lv' := [(5, .int _), (4, .int _), (3, .int _), (1, .long _), (0, .ref _)]) dX11_angle_35 (by decide) rfl ?_
  refine e_sub [4, 3, 2, 1, 0] rfl ?_
  refine m_X11_angle_L37 hd ?_ e_fu _ _ _ _ _ _ hf
  · intro h14 w0_15 w3_16 w4_17 hf
    refine e_aload_n 0 dX11_angle_92 rfl rfl ?_
    refine e_iconst (v := (-1)) dX11_angle_93 (by decide) ?_
    obtain ⟨hO18, hf⟩ := e_if hf
    refine e_putI hO18 fc_11_23 rfl lk_RX11_65 dX11_angle_94 ?_
    refine e_aload_n 0 dX11_angle_97 rfl rfl ?_
    obtain ⟨b19, hb20, hf⟩ := e_bd hf
    refine e_getR hO18 fc_11_2 lk_RX11_11 dX11_angle_98 hb20 ?_
    refine e_iconst (v := 0) dX11_angle_101 (by decide) ?_
    refine e_iload 2 dX11_angle_102 rfl ?_
    refine e_i2l dX11_angle_104 ?_
    obtain ⟨hI21, hf⟩ := e_if hf
    refine e_last hI21 dX11_angle_105 ?_
    obtain ⟨h22, hh23, hf⟩ := e_bd hf
    refine e_hn hh23 ?_
    refine e_iload_n 1 dX11_angle_106 rfl rfl ?_
    exact e_iret rfl dX11_angle_107 (qW hf)
def f_X11_meets_L11 (L : eL) : Nat → (eH → Int32 → Option (eH × Int32)) → (eH → Option (eH × Int32)) → eH → Nat → Int32 → Option (eH × Int32)
  | 0, _, _, _, _, _ => none
  | n + 1, k39, k57, h, v0, v1 =>
    if 999 < v1 then
      k57 h
    else
      if isO L v0 11 = true then
      if (gI h v0 5) < 0 then
        k57 h
      else
        (gR h v0 8).bind fun b5 =>
        if inA L b5 0 72 = true then
        if (gI h b5 (72 : Int32).toNatClampNeg) = (gI h v0 5) then
          k39 h v1
        else
          (gR h v0 8).bind fun b8 =>
          (f_X11_stepGoes L h v0 b8 0).bind fun r10 =>
          f_X11_meets_L11 L n k39 k57 r10.1 v0 (v1 + Int32.ofInt 1)
        else none
      else none
set_option maxRecDepth 100000 in
set_option maxHeartbeats 4000000 in
theorem m_X11_meets_L11 {l : Launch} {d : Nat} {L : eL}  {r : eH × Int32} {k39 : eH → Int32 → Option (eH × Int32)} {k57 : eH → Option (eH × Int32)} (hd : 6 ≤ d) (hk39 : ∀ (h : eH) (v1 : Int32), k39 h v1 = some r → E l yX11_meets cX11_meets 2 (some .int) (e_rm d 0 0) 0 0 true L (Qx (some (.int r.2)) L r.1) L h 0 0 39 [(1, .int v1)] []) (hk57 : ∀ (h : eH), k57 h = some r → E l yX11_meets cX11_meets 2 (some .int) (e_rm d 0 0) 0 0 true L (Qx (some (.int r.2)) L r.1) L h 0 0 57 [] []) : ∀ (n : Nat) (h : eH) (v0 : Nat) (v1 : Int32), f_X11_meets_L11 L n k39 k57 h v0 v1 = some r → E l yX11_meets cX11_meets 2 (some .int) (e_rm d 0 0) 0 0 true L (Qx (some (.int r.2)) L r.1) L h 0 0 11 [(0, .ref v0), (1, .int v1)] [] := by
  intro n
  induction n with
  | zero => intro h v0 v1 hf; exact absurd hf (by simp [f_X11_meets_L11])
  | succ n ih =>
    intro h v0 v1 hf
    unfold f_X11_meets_L11 at hf
    refine e_iload_n 1 dX11_meets_11 rfl rfl ?_
    refine e_sipush (v := 999) dX11_meets_12 (by decide) ?_
    refine e_icmp_gt (t := 57) dX11_meets_15 (by decide) (fun c => ?_) (fun c => ?_)
    · replace hf := e_it c hf
      refine e_sub [] rfl ?_
      exact hk57 _ hf
    · replace hf := e_ie c hf
      refine e_aload_n 0 dX11_meets_18 rfl rfl ?_
      obtain ⟨hO4, hf⟩ := e_if hf
      refine e_getI hO4 fc_11_5 lk_RX11_34 dX11_meets_19 ?_
      refine e_if_lt (t := 57) dX11_meets_22 (by decide) (fun c => ?_) (fun c => ?_)
      · replace hf := e_it c hf
        refine e_sub [] rfl ?_
        exact hk57 _ hf
      · replace hf := e_ie c hf
        refine e_aload_n 0 dX11_meets_25 rfl rfl ?_
        obtain ⟨b5, hb6, hf⟩ := e_bd hf
        refine e_getR hO4 fc_11_8 lk_RX11_44 dX11_meets_26 hb6 ?_
        refine e_bipush (v := 72) dX11_meets_29 (by decide) ?_
        obtain ⟨hI7, hf⟩ := e_if hf
        refine e_iald hI7 dX11_meets_31 ?_
        refine e_aload_n 0 dX11_meets_32 rfl rfl ?_
        refine e_getI hO4 fc_11_5 lk_RX11_34 dX11_meets_33 ?_
        refine e_icmp_ne (t := 41) dX11_meets_36 (by decide) (fun c => ?_) (fun c => ?_)
        · replace hf := e_ie c hf
          refine e_aload_n 0 dX11_meets_41 rfl rfl ?_
          refine e_aload_n 0 dX11_meets_42 rfl rfl ?_
          obtain ⟨b8, hb9, hf⟩ := e_bd hf
          refine e_getR hO4 fc_11_8 lk_RX11_44 dX11_meets_43 hb9 ?_
          refine e_iconst (v := 0) dX11_meets_46 (by decide) ?_
          obtain ⟨r10, hr11, hf⟩ := e_bd hf
          refine e_callV (st := []) ml_RX11_265 k_X11_stepGoes (m_X11_stepGoes (d := d - 1) (by omega) hr11) hO4 ⟨by decide, rfl⟩ rfl rfl (Nat.le_of_ble_eq_true rfl) ⟨by omega, by decide⟩ ⟨Nat.le_refl _, Nat.le_refl _⟩ dX11_meets_47 ?_
          refine e_popI dX11_meets_50 ?_
          refine e_iinc (lv' := [(1, .int _), (0, .ref _)]) 1 dX11_meets_51 rfl (by decide) rfl ?_
          refine e_goto (t := 11) dX11_meets_54 (by decide) ?_
          refine e_sub [1, 0] rfl ?_
          exact ih _ _ _ hf
        · replace hf := e_it c hf
          refine e_sub [1] rfl ?_
          exact hk39 _ _ hf
def f_X11_meets (L : eL) (h : eH) (v0 : Nat) : Option (eH × Int32) :=
  if isO L v0 11 = true then
  (f_X11_puts L (sI h v0 0 0) v0).bind fun r2 =>
  f_X11_meets_L11 L e_fu (fun (h12 : eH) (w1_13 : Int32) =>
    some (h12, w1_13)) (fun (h14 : eH) =>
    some (h14, (-2))) r2 v0 0
  else none
set_option maxRecDepth 100000 in
set_option maxHeartbeats 4000000 in
theorem m_X11_meets {l : Launch} {d : Nat} {L : eL} {h : eH} {v0 : Nat} {r : eH × Int32} (hd : 6 ≤ d) (hf : f_X11_meets L h v0 = some r) : e_Met l yX11_meets cX11_meets 2 (some .int) d 0 0 true L h [.ref v0] (Qx (some (.int r.2)) L r.1) := by
  refine e_metl (by decide) (Nat.le_of_ble_eq_true rfl) (lv := [(0, .ref v0)]) rfl ?_
  unfold f_X11_meets at hf
  refine e_aload_n 0 dX11_meets_0 rfl rfl ?_
  refine e_iconst (v := 0) dX11_meets_1 (by decide) ?_
  obtain ⟨hO1, hf⟩ := e_if hf
  refine e_putI hO1 fc_11_0 rfl lk_RX11_3 dX11_meets_2 ?_
  refine e_aload_n 0 dX11_meets_5 rfl rfl ?_
  obtain ⟨r2, hr3, hf⟩ := e_bd hf
  refine e_callV (st := []) ml_RX11_317 k_X11_puts (m_X11_puts (d := d - 1) (by omega) hr3) hO1 ⟨by decide, rfl⟩ rfl rfl (Nat.le_of_ble_eq_true rfl) ⟨by omega, by decide⟩ ⟨Nat.le_refl _, Nat.le_refl _⟩ dX11_meets_6 ?_
  refine e_iconst (v := 0) dX11_meets_9 (by decide) ?_
  refine e_istore_n (lv' := [(1, .int _), (0, .ref _)]) dX11_meets_10 rfl (by decide) rfl ?_
  refine e_sub [1, 0] rfl ?_
  refine m_X11_meets_L11 hd ?_ ?_ e_fu _ _ _ hf
  · intro h12 w1_13 hf
    refine e_iload_n 0 dX11_meets_39 rfl rfl ?_
    exact e_iret rfl dX11_meets_40 (qW hf)
  · intro h14 hf
    refine e_bipush (v := (-2)) dX11_meets_57 (by decide) ?_
    exact e_iret rfl dX11_meets_59 (qW hf)
def f_X11_round_L11 (L : eL) : Nat → (eH → Nat → Int32 → Option (eH × Int32)) → (eH → Option (eH × Int32)) → eH → Nat → Int32 → Option (eH × Int32)
  | 0, _, _, _, _, _ => none
  | n + 1, k62, k95, h, v0, v1 =>
    if 999 < v1 then
      k95 h
    else
      if isO L v0 11 = true then
      (gR h v0 8).bind fun b5 =>
      (f_X11_stepGoes L h v0 b5 0).bind fun r7 =>
      (gR r7.1 v0 8).bind fun b9 =>
      if inA L b9 0 72 = true then
      (gR r7.1 v0 7).bind fun b12 =>
      if inA L b12 0 72 = true then
      if (gI r7.1 b9 (72 : Int32).toNatClampNeg) = (gI r7.1 b12 (72 : Int32).toNatClampNeg) then
        (gR r7.1 v0 8).bind fun b15 =>
        if inA L b15 0 73 = true then
        (gR r7.1 v0 7).bind fun b18 =>
        if inA L b18 0 73 = true then
        if (gI r7.1 b15 (73 : Int32).toNatClampNeg) = (gI r7.1 b18 (73 : Int32).toNatClampNeg) then
          k62 r7.1 v0 v1
        else
          f_X11_round_L11 L n k62 k95 r7.1 v0 (v1 + Int32.ofInt 1)
        else none
        else none
      else
        f_X11_round_L11 L n k62 k95 r7.1 v0 (v1 + Int32.ofInt 1)
      else none
      else none
      else none
set_option maxRecDepth 100000 in
set_option maxHeartbeats 4000000 in
theorem m_X11_round_L11 {l : Launch} {d : Nat} {L : eL}  {r : eH × Int32} {k62 : eH → Nat → Int32 → Option (eH × Int32)} {k95 : eH → Option (eH × Int32)} (hd : 6 ≤ d) (hk62 : ∀ (h : eH) (v0 : Nat) (v1 : Int32), k62 h v0 v1 = some r → E l yX11_round cX11_round 2 (some .int) (e_rm d 0 0) 0 0 true L (Qx (some (.int r.2)) L r.1) L h 0 0 62 [(0, .ref v0), (1, .int v1)] []) (hk95 : ∀ (h : eH), k95 h = some r → E l yX11_round cX11_round 2 (some .int) (e_rm d 0 0) 0 0 true L (Qx (some (.int r.2)) L r.1) L h 0 0 95 [] []) : ∀ (n : Nat) (h : eH) (v0 : Nat) (v1 : Int32), f_X11_round_L11 L n k62 k95 h v0 v1 = some r → E l yX11_round cX11_round 2 (some .int) (e_rm d 0 0) 0 0 true L (Qx (some (.int r.2)) L r.1) L h 0 0 11 [(0, .ref v0), (1, .int v1)] [] := by
  intro n
  induction n with
  | zero => intro h v0 v1 hf; exact absurd hf (by simp [f_X11_round_L11])
  | succ n ih =>
    intro h v0 v1 hf
    unfold f_X11_round_L11 at hf
    refine e_iload_n 1 dX11_round_11 rfl rfl ?_
    refine e_sipush (v := 999) dX11_round_12 (by decide) ?_
    refine e_icmp_gt (t := 95) dX11_round_15 (by decide) (fun c => ?_) (fun c => ?_)
    · replace hf := e_it c hf
      refine e_sub [] rfl ?_
      exact hk95 _ hf
    · replace hf := e_ie c hf
      refine e_aload_n 0 dX11_round_18 rfl rfl ?_
      refine e_aload_n 0 dX11_round_19 rfl rfl ?_
      obtain ⟨hO4, hf⟩ := e_if hf
      obtain ⟨b5, hb6, hf⟩ := e_bd hf
      refine e_getR hO4 fc_11_8 lk_RX11_44 dX11_round_20 hb6 ?_
      refine e_iconst (v := 0) dX11_round_23 (by decide) ?_
      obtain ⟨r7, hr8, hf⟩ := e_bd hf
      refine e_callV (st := []) ml_RX11_265 k_X11_stepGoes (m_X11_stepGoes (d := d - 1) (by omega) hr8) hO4 ⟨by decide, rfl⟩ rfl rfl (Nat.le_of_ble_eq_true rfl) ⟨by omega, by decide⟩ ⟨Nat.le_refl _, Nat.le_refl _⟩ dX11_round_24 ?_
      refine e_popI dX11_round_27 ?_
      refine e_aload_n 0 dX11_round_28 rfl rfl ?_
      obtain ⟨b9, hb10, hf⟩ := e_bd hf
      refine e_getR hO4 fc_11_8 lk_RX11_44 dX11_round_29 hb10 ?_
      refine e_bipush (v := 72) dX11_round_32 (by decide) ?_
      obtain ⟨hI11, hf⟩ := e_if hf
      refine e_iald hI11 dX11_round_34 ?_
      refine e_aload_n 0 dX11_round_35 rfl rfl ?_
      obtain ⟨b12, hb13, hf⟩ := e_bd hf
      refine e_getR hO4 fc_11_7 lk_RX11_41 dX11_round_36 hb13 ?_
      refine e_bipush (v := 72) dX11_round_39 (by decide) ?_
      obtain ⟨hI14, hf⟩ := e_if hf
      refine e_iald hI14 dX11_round_41 ?_
      refine e_icmp_ne (t := 89) dX11_round_42 (by decide) (fun c => ?_) (fun c => ?_)
      · replace hf := e_ie c hf
        refine e_iinc (lv' := [(1, .int _), (0, .ref _)]) 1 dX11_round_89 rfl (by decide) rfl ?_
        refine e_goto (t := 11) dX11_round_92 (by decide) ?_
        refine e_sub [1, 0] rfl ?_
        exact ih _ _ _ hf
      · replace hf := e_it c hf
        refine e_aload_n 0 dX11_round_45 rfl rfl ?_
        obtain ⟨b15, hb16, hf⟩ := e_bd hf
        refine e_getR hO4 fc_11_8 lk_RX11_44 dX11_round_46 hb16 ?_
        refine e_bipush (v := 73) dX11_round_49 (by decide) ?_
        obtain ⟨hI17, hf⟩ := e_if hf
        refine e_iald hI17 dX11_round_51 ?_
        refine e_aload_n 0 dX11_round_52 rfl rfl ?_
        obtain ⟨b18, hb19, hf⟩ := e_bd hf
        refine e_getR hO4 fc_11_7 lk_RX11_41 dX11_round_53 hb19 ?_
        refine e_bipush (v := 73) dX11_round_56 (by decide) ?_
        obtain ⟨hI20, hf⟩ := e_if hf
        refine e_iald hI20 dX11_round_58 ?_
        refine e_icmp_ne (t := 89) dX11_round_59 (by decide) (fun c => ?_) (fun c => ?_)
        · replace hf := e_ie c hf
          refine e_iinc (lv' := [(1, .int _), (0, .ref _)]) 1 dX11_round_89 rfl (by decide) rfl ?_
          refine e_goto (t := 11) dX11_round_92 (by decide) ?_
          refine e_sub [1, 0] rfl ?_
          exact ih _ _ _ hf
        · replace hf := e_it c hf
          exact hk62 _ _ _ hf
def f_X11_round (L : eL) (h : eH) (v0 : Nat) : Option (eH × Int32) :=
  if isO L v0 11 = true then
  (f_X11_puts L (sI h v0 0 0) v0).bind fun r2 =>
  f_X11_round_L11 L e_fu (fun (h21 : eH) (w0_22 : Nat) (w1_23 : Int32) =>
    if isO L w0_22 11 = true then
    (gR (sI h21 w0_22 1 0) w0_22 8).bind fun b25 =>
    if inA L b25 0 77 = true then
    (gR (sI h21 w0_22 1 0) w0_22 7).bind fun b28 =>
    if inA L b28 0 77 = true then
    (f_X11_enters L (sI h21 w0_22 1 0) w0_22 (((gI (sI h21 w0_22 1 0) b25 (77 : Int32).toNatClampNeg) - (gI (sI h21 w0_22 1 0) b28 (77 : Int32).toNatClampNeg)).toInt64)).bind fun r31 =>
    some (r31, w1_23)
    else none
    else none
    else none) (fun (h33 : eH) =>
    some (h33, (-2))) r2 v0 1
  else none
set_option maxRecDepth 100000 in
set_option maxHeartbeats 4000000 in
theorem m_X11_round {l : Launch} {d : Nat} {L : eL} {h : eH} {v0 : Nat} {r : eH × Int32} (hd : 6 ≤ d) (hf : f_X11_round L h v0 = some r) : e_Met l yX11_round cX11_round 2 (some .int) d 0 0 true L h [.ref v0] (Qx (some (.int r.2)) L r.1) := by
  refine e_metl (by decide) (Nat.le_of_ble_eq_true rfl) (lv := [(0, .ref v0)]) rfl ?_
  unfold f_X11_round at hf
  refine e_aload_n 0 dX11_round_0 rfl rfl ?_
  refine e_iconst (v := 0) dX11_round_1 (by decide) ?_
  obtain ⟨hO1, hf⟩ := e_if hf
  refine e_putI hO1 fc_11_0 rfl lk_RX11_3 dX11_round_2 ?_
  refine e_aload_n 0 dX11_round_5 rfl rfl ?_
  obtain ⟨r2, hr3, hf⟩ := e_bd hf
  refine e_callV (st := []) ml_RX11_317 k_X11_puts (m_X11_puts (d := d - 1) (by omega) hr3) hO1 ⟨by decide, rfl⟩ rfl rfl (Nat.le_of_ble_eq_true rfl) ⟨by omega, by decide⟩ ⟨Nat.le_refl _, Nat.le_refl _⟩ dX11_round_6 ?_
  refine e_iconst (v := 1) dX11_round_9 (by decide) ?_
  refine e_istore_n (lv' := [(1, .int _), (0, .ref _)]) dX11_round_10 rfl (by decide) rfl ?_
  refine e_sub [1, 0] rfl ?_
  refine m_X11_round_L11 hd ?_ ?_ e_fu _ _ _ hf
  · intro h21 w0_22 w1_23 hf
    refine e_aload_n 0 dX11_round_62 rfl rfl ?_
    refine e_iconst (v := 0) dX11_round_63 (by decide) ?_
    obtain ⟨hO24, hf⟩ := e_if hf
    refine e_putI hO24 fc_11_1 rfl lk_RX11_15 dX11_round_64 ?_
    refine e_aload_n 0 dX11_round_67 rfl rfl ?_
    refine e_aload_n 0 dX11_round_68 rfl rfl ?_
    obtain ⟨b25, hb26, hf⟩ := e_bd hf
    refine e_getR hO24 fc_11_8 lk_RX11_44 dX11_round_69 hb26 ?_
    refine e_bipush (v := 77) dX11_round_72 (by decide) ?_
    obtain ⟨hI27, hf⟩ := e_if hf
    refine e_iald hI27 dX11_round_74 ?_
    refine e_aload_n 0 dX11_round_75 rfl rfl ?_
    obtain ⟨b28, hb29, hf⟩ := e_bd hf
    refine e_getR hO24 fc_11_7 lk_RX11_41 dX11_round_76 hb29 ?_
    refine e_bipush (v := 77) dX11_round_79 (by decide) ?_
    obtain ⟨hI30, hf⟩ := e_if hf
    refine e_iald hI30 dX11_round_81 ?_
    refine e_isub dX11_round_82 ?_
    refine e_i2l dX11_round_83 ?_
    obtain ⟨r31, hr32, hf⟩ := e_bd hf
    refine e_callV (st := []) ml_RX11_18 k_X11_enters (m_X11_enters (d := d - 1) (by omega) hr32) hO24 ⟨by decide, rfl⟩ rfl rfl (Nat.le_of_ble_eq_true rfl) ⟨by omega, by decide⟩ ⟨Nat.le_refl _, Nat.le_refl _⟩ dX11_round_84 ?_
    refine e_iload_n 1 dX11_round_87 rfl rfl ?_
    exact e_iret rfl dX11_round_88 (qW hf)
  · intro h33 hf
    refine e_bipush (v := (-2)) dX11_round_95 (by decide) ?_
    exact e_iret rfl dX11_round_97 (qW hf)
def f_X11_corner_L25 (L : eL) : Nat → (eH → Nat → Int32 → Option (eH × Int32)) → eH → Nat → Int32 → Int32 → Option (eH × Int32)
  | 0, _, _, _, _, _ => none
  | n + 1, k44, h, v0, v1, v2 =>
    if 36 ≤ v2 then
      k44 h v0 v1
    else
      if isO L v0 11 = true then
      (gR h v0 30).bind fun b5 =>
      if inA L b5 0 v2 = true then
      f_X11_corner_L25 L n k44 (sI h b5 v2.toNatClampNeg 0) v0 v1 (v2 + Int32.ofInt 1)
      else none
      else none
set_option maxRecDepth 100000 in
set_option maxHeartbeats 4000000 in
theorem m_X11_corner_L25 {l : Launch} {d : Nat} {L : eL}  {r : eH × Int32} {k44 : eH → Nat → Int32 → Option (eH × Int32)} (hd : 6 ≤ d) (hk44 : ∀ (h : eH) (v0 : Nat) (v1 : Int32), k44 h v0 v1 = some r → E l yX11_corner cX11_corner 4 (some .int) (e_rm d 0 0) 0 0 true L (Qx (some (.int r.2)) L r.1) L h 0 0 44 [(0, .ref v0), (1, .int v1)] []) : ∀ (n : Nat) (h : eH) (v0 : Nat) (v1 : Int32) (v2 : Int32), f_X11_corner_L25 L n k44 h v0 v1 v2 = some r → E l yX11_corner cX11_corner 4 (some .int) (e_rm d 0 0) 0 0 true L (Qx (some (.int r.2)) L r.1) L h 0 0 25 [(0, .ref v0), (1, .int v1), (2, .int v2)] [] := by
  intro n
  induction n with
  | zero => intro h v0 v1 v2 hf; exact absurd hf (by simp [f_X11_corner_L25])
  | succ n ih =>
    intro h v0 v1 v2 hf
    unfold f_X11_corner_L25 at hf
    refine e_iload_n 2 dX11_corner_25 rfl rfl ?_
    refine e_bipush (v := 36) dX11_corner_26 (by decide) ?_
    refine e_icmp_ge (t := 44) dX11_corner_28 (by decide) (fun c => ?_) (fun c => ?_)
    · replace hf := e_it c hf
      refine e_sub [0, 1] rfl ?_
      exact hk44 _ _ _ hf
    · replace hf := e_ie c hf
      refine e_aload_n 0 dX11_corner_31 rfl rfl ?_
      obtain ⟨hO4, hf⟩ := e_if hf
      obtain ⟨b5, hb6, hf⟩ := e_bd hf
      refine e_getR hO4 fc_11_30 lk_RX11_77 dX11_corner_32 hb6 ?_
      refine e_iload_n 2 dX11_corner_35 rfl rfl ?_
      refine e_iconst (v := 0) dX11_corner_36 (by decide) ?_
      obtain ⟨hI7, hf⟩ := e_if hf
      refine e_iast hI7 dX11_corner_37 ?_
      refine e_iinc (lv' := [(2, .int _), (0, .ref _), (1, .int _)]) 2 dX11_corner_38 rfl (by decide) rfl ?_
      refine e_goto (t := 25) dX11_corner_41 (by decide) ?_
      refine e_sub [1, 2, 0] rfl ?_
      exact ih _ _ _ _ hf
def f_X11_corner_L46 (L : eL) : Nat → (eH → Nat → Option (eH × Int32)) → eH → Nat → Int32 → Int32 → Option (eH × Int32)
  | 0, _, _, _, _, _ => none
  | n + 1, k83, h, v0, v1, v2 =>
    if v1 ≤ v2 then
      k83 h v0
    else
      if isO L v0 11 = true then
      (gR h v0 8).bind fun b12 =>
      (f_X11_stepGoes L h v0 b12 0).bind fun r14 =>
      (gR r14.1 v0 30).bind fun b16 =>
      (gR r14.1 v0 8).bind fun b18 =>
      if inA L b18 0 72 = true then
      if inA L b16 0 (gI r14.1 b18 (72 : Int32).toNatClampNeg) = true then
      (some (sI r14.1 b16 (gI r14.1 b18 (72 : Int32).toNatClampNeg).toNatClampNeg ((gI r14.1 b16 (gI r14.1 b18 (72 : Int32).toNatClampNeg).toNatClampNeg) + 1))).bind fun h22 =>
      f_X11_corner_L46 L n k83 h22 v0 v1 (v2 + Int32.ofInt 1)
      else none
      else none
      else none
set_option maxRecDepth 100000 in
set_option maxHeartbeats 4000000 in
theorem m_X11_corner_L46 {l : Launch} {d : Nat} {L : eL}  {r : eH × Int32} {k83 : eH → Nat → Option (eH × Int32)} (hd : 6 ≤ d) (hk83 : ∀ (h : eH) (v0 : Nat), k83 h v0 = some r → E l yX11_corner cX11_corner 4 (some .int) (e_rm d 0 0) 0 0 true L (Qx (some (.int r.2)) L r.1) L h 0 0 83 [(0, .ref v0)] []) : ∀ (n : Nat) (h : eH) (v0 : Nat) (v1 : Int32) (v2 : Int32), f_X11_corner_L46 L n k83 h v0 v1 v2 = some r → E l yX11_corner cX11_corner 4 (some .int) (e_rm d 0 0) 0 0 true L (Qx (some (.int r.2)) L r.1) L h 0 0 46 [(0, .ref v0), (1, .int v1), (2, .int v2)] [] := by
  intro n
  induction n with
  | zero => intro h v0 v1 v2 hf; exact absurd hf (by simp [f_X11_corner_L46])
  | succ n ih =>
    intro h v0 v1 v2 hf
    unfold f_X11_corner_L46 at hf
    refine e_iload_n 2 dX11_corner_46 rfl rfl ?_
    refine e_iload_n 1 dX11_corner_47 rfl rfl ?_
    refine e_icmp_ge (t := 83) dX11_corner_48 (by decide) (fun c => ?_) (fun c => ?_)
    · replace hf := e_it c hf
      refine e_sub [0] rfl ?_
      exact hk83 _ _ hf
    · replace hf := e_ie c hf
      refine e_aload_n 0 dX11_corner_51 rfl rfl ?_
      refine e_aload_n 0 dX11_corner_52 rfl rfl ?_
      obtain ⟨hO11, hf⟩ := e_if hf
      obtain ⟨b12, hb13, hf⟩ := e_bd hf
      refine e_getR hO11 fc_11_8 lk_RX11_44 dX11_corner_53 hb13 ?_
      refine e_iconst (v := 0) dX11_corner_56 (by decide) ?_
      obtain ⟨r14, hr15, hf⟩ := e_bd hf
      refine e_callV (st := []) ml_RX11_265 k_X11_stepGoes (m_X11_stepGoes (d := d - 1) (by omega) hr15) hO11 ⟨by decide, rfl⟩ rfl rfl (Nat.le_of_ble_eq_true rfl) ⟨by omega, by decide⟩ ⟨Nat.le_refl _, Nat.le_refl _⟩ dX11_corner_57 ?_
      refine e_popI dX11_corner_60 ?_
      refine e_aload_n 0 dX11_corner_61 rfl rfl ?_
      obtain ⟨b16, hb17, hf⟩ := e_bd hf
      refine e_getR hO11 fc_11_30 lk_RX11_77 dX11_corner_62 hb17 ?_
      refine e_aload_n 0 dX11_corner_65 rfl rfl ?_
      obtain ⟨b18, hb19, hf⟩ := e_bd hf
      refine e_getR hO11 fc_11_8 lk_RX11_44 dX11_corner_66 hb19 ?_
      refine e_bipush (v := 72) dX11_corner_69 (by decide) ?_
      obtain ⟨hI20, hf⟩ := e_if hf
      refine e_iald hI20 dX11_corner_71 ?_
      refine e_dup2 dX11_corner_72 ?_
      obtain ⟨hI21, hf⟩ := e_if hf
      refine e_iald hI21 dX11_corner_73 ?_
      refine e_iconst (v := 1) dX11_corner_74 (by decide) ?_
      refine e_iadd dX11_corner_75 ?_
      refine e_iast hI21 dX11_corner_76 ?_
      obtain ⟨h22, hh23, hf⟩ := e_bd hf
      refine e_hn hh23 ?_
      refine e_iinc (lv' := [(2, .int _), (0, .ref _), (1, .int _)]) 2 dX11_corner_77 rfl (by decide) rfl ?_
      refine e_goto (t := 46) dX11_corner_80 (by decide) ?_
      refine e_sub [1, 2, 0] rfl ?_
      exact ih _ _ _ _ hf
def f_X11_corner_L87 (L : eL) : Nat → (eH → Nat → Int32 → Option (eH × Int32)) → eH → Nat → Int32 → Int32 → Option (eH × Int32)
  | 0, _, _, _, _, _ => none
  | n + 1, k120, h, v0, v2, v3 =>
    if 36 ≤ v3 then
      k120 h v0 v2
    else
      if isO L v0 11 = true then
      (gR h v0 30).bind fun b27 =>
      if inA L b27 0 v3 = true then
      (gR h v0 30).bind fun b30 =>
      if inA L b30 0 v2 = true then
      if (gI h b27 v3.toNatClampNeg) ≤ (gI h b30 v2.toNatClampNeg) then
        f_X11_corner_L87 L n k120 h v0 v2 (v3 + Int32.ofInt 1)
      else
        f_X11_corner_L87 L n k120 h v0 v3 (v3 + Int32.ofInt 1)
      else none
      else none
      else none
set_option maxRecDepth 100000 in
set_option maxHeartbeats 4000000 in
theorem m_X11_corner_L87 {l : Launch} {d : Nat} {L : eL}  {r : eH × Int32} {k120 : eH → Nat → Int32 → Option (eH × Int32)} (hd : 6 ≤ d) (hk120 : ∀ (h : eH) (v0 : Nat) (v2 : Int32), k120 h v0 v2 = some r → E l yX11_corner cX11_corner 4 (some .int) (e_rm d 0 0) 0 0 true L (Qx (some (.int r.2)) L r.1) L h 0 0 120 [(0, .ref v0), (2, .int v2)] []) : ∀ (n : Nat) (h : eH) (v0 : Nat) (v2 : Int32) (v3 : Int32), f_X11_corner_L87 L n k120 h v0 v2 v3 = some r → E l yX11_corner cX11_corner 4 (some .int) (e_rm d 0 0) 0 0 true L (Qx (some (.int r.2)) L r.1) L h 0 0 87 [(0, .ref v0), (2, .int v2), (3, .int v3)] [] := by
  intro n
  induction n with
  | zero => intro h v0 v2 v3 hf; exact absurd hf (by simp [f_X11_corner_L87])
  | succ n ih =>
    intro h v0 v2 v3 hf
    unfold f_X11_corner_L87 at hf
    refine e_iload_n 2 dX11_corner_87 rfl rfl ?_
    refine e_bipush (v := 36) dX11_corner_88 (by decide) ?_
    refine e_icmp_ge (t := 120) dX11_corner_90 (by decide) (fun c => ?_) (fun c => ?_)
    · replace hf := e_it c hf
      refine e_sub [0, 1] rfl ?_
      exact hk120 _ _ _ hf
    · replace hf := e_ie c hf
      refine e_aload_n 0 dX11_corner_93 rfl rfl ?_
      obtain ⟨hO26, hf⟩ := e_if hf
      obtain ⟨b27, hb28, hf⟩ := e_bd hf
      refine e_getR hO26 fc_11_30 lk_RX11_77 dX11_corner_94 hb28 ?_
      refine e_iload_n 2 dX11_corner_97 rfl rfl ?_
      obtain ⟨hI29, hf⟩ := e_if hf
      refine e_iald hI29 dX11_corner_98 ?_
      refine e_aload_n 0 dX11_corner_99 rfl rfl ?_
      obtain ⟨b30, hb31, hf⟩ := e_bd hf
      refine e_getR hO26 fc_11_30 lk_RX11_77 dX11_corner_100 hb31 ?_
      refine e_iload_n 1 dX11_corner_103 rfl rfl ?_
      obtain ⟨hI32, hf⟩ := e_if hf
      refine e_iald hI32 dX11_corner_104 ?_
      refine e_icmp_le (t := 112) dX11_corner_105 (by decide) (fun c => ?_) (fun c => ?_)
      · replace hf := e_it c hf
        refine e_iload_n 1 dX11_corner_112 rfl rfl ?_
        refine e_istore_n (lv' := [(2, .int _), (0, .ref _), (3, .int _)]) dX11_corner_113 rfl (by decide) rfl ?_
        refine e_iinc (lv' := [(3, .int _), (2, .int _), (0, .ref _)]) 2 dX11_corner_114 rfl (by decide) rfl ?_
        refine e_goto (t := 87) dX11_corner_117 (by decide) ?_
        refine e_sub [2, 1, 0] rfl ?_
        exact ih _ _ _ _ hf
      · replace hf := e_ie c hf
        refine e_iload_n 2 dX11_corner_108 rfl rfl ?_
        refine e_goto (t := 113) dX11_corner_109 (by decide) ?_
        refine e_istore_n (lv' := [(2, .int _), (0, .ref _), (3, .int _)]) dX11_corner_113 rfl (by decide) rfl ?_
        refine e_iinc (lv' := [(3, .int _), (2, .int _), (0, .ref _)]) 2 dX11_corner_114 rfl (by decide) rfl ?_
        refine e_goto (t := 87) dX11_corner_117 (by decide) ?_
        refine e_sub [2, 1, 0] rfl ?_
        exact ih _ _ _ _ hf
def f_X11_corner (L : eL) (h : eH) (v0 : Nat) (v1 : Int32) : Option (eH × Int32) :=
  if isO L v0 11 = true then
  if (f_X11_in v1.toInt64 1 999) = 0 then
    some (sI h v0 0 0, (-1))
  else
    (f_X11_puts L (sI h v0 0 0) v0).bind fun r2 =>
    f_X11_corner_L25 L e_fu (fun (h8 : eH) (w0_9 : Nat) (w1_10 : Int32) =>
      f_X11_corner_L46 L e_fu (fun (h24 : eH) (w0_25 : Nat) =>
        f_X11_corner_L87 L e_fu (fun (h33 : eH) (w0_34 : Nat) (w2_35 : Int32) =>
          if isO L w0_34 11 = true then
          (gR (sI h33 w0_34 1 0) w0_34 30).bind fun b37 =>
          if inA L b37 0 w2_35 = true then
          (f_X11_enters L (sI h33 w0_34 1 0) w0_34 ((gI (sI h33 w0_34 1 0) b37 w2_35.toNatClampNeg).toInt64)).bind fun r40 =>
          some (r40, w2_35)
          else none
          else none) h24 w0_25 0 1) h8 w0_9 w1_10 0) r2 v0 v1 0
  else none
set_option maxRecDepth 100000 in
set_option maxHeartbeats 4000000 in
theorem m_X11_corner {l : Launch} {d : Nat} {L : eL} {h : eH} {v0 : Nat} {v1 : Int32} {r : eH × Int32} (hd : 6 ≤ d) (hf : f_X11_corner L h v0 v1 = some r) : e_Met l yX11_corner cX11_corner 4 (some .int) d 0 0 true L h [.ref v0, .int v1] (Qx (some (.int r.2)) L r.1) := by
  refine e_metl (by decide) (Nat.le_of_ble_eq_true rfl) (lv := [(0, .ref v0), (1, .int v1)]) rfl ?_
  unfold f_X11_corner at hf
  refine e_aload_n 0 dX11_corner_0 rfl rfl ?_
  refine e_iconst (v := 0) dX11_corner_1 (by decide) ?_
  obtain ⟨hO1, hf⟩ := e_if hf
  refine e_putI hO1 fc_11_0 rfl lk_RX11_3 dX11_corner_2 ?_
  refine e_iload_n 1 dX11_corner_5 rfl rfl ?_
  refine e_i2l dX11_corner_6 ?_
  refine e_lconst (v := 1) dX11_corner_7 (by decide) ?_
  refine e_ldc2 kc_RX11_271 dX11_corner_8 ?_
  refine e_callS (st := []) ml_RX11_118 k_X11_in (m_X11_in (d := d - 1) (by omega) rfl) rfl rfl (Nat.le_of_ble_eq_true rfl) ⟨by omega, by decide⟩ ⟨Nat.le_refl _, Nat.le_refl _⟩ dX11_corner_11 ?_
  refine e_if_ne (t := 19) dX11_corner_14 (by decide) (fun c => ?_) (fun c => ?_)
  · replace hf := e_ie c hf
    refine e_aload_n 0 dX11_corner_19 rfl rfl ?_
    obtain ⟨r2, hr3, hf⟩ := e_bd hf
    refine e_callV (st := []) ml_RX11_317 k_X11_puts (m_X11_puts (d := d - 1) (by omega) hr3) hO1 ⟨by decide, rfl⟩ rfl rfl (Nat.le_of_ble_eq_true rfl) ⟨by omega, by decide⟩ ⟨Nat.le_refl _, Nat.le_refl _⟩ dX11_corner_20 ?_
    refine e_iconst (v := 0) dX11_corner_23 (by decide) ?_
    refine e_istore_n (lv' := [(2, .int _), (0, .ref _), (1, .int _)]) dX11_corner_24 rfl (by decide) rfl ?_
    refine e_sub [1, 2, 0] rfl ?_
    refine m_X11_corner_L25 hd ?_ e_fu _ _ _ _ hf
    · intro h8 w0_9 w1_10 hf
      refine e_iconst (v := 0) dX11_corner_44 (by decide) ?_
      refine e_istore_n (lv' := [(2, .int _), (0, .ref _), (1, .int _)]) dX11_corner_45 rfl (by decide) rfl ?_
      refine e_sub [1, 2, 0] rfl ?_
      refine m_X11_corner_L46 hd ?_ e_fu _ _ _ _ hf
      · intro h24 w0_25 hf
        refine e_iconst (v := 0) dX11_corner_83 (by decide) ?_
        refine e_istore_n (lv' := [(2, .int _), (0, .ref _)]) dX11_corner_84 rfl (by decide) rfl ?_
        refine e_iconst (v := 1) dX11_corner_85 (by decide) ?_
        refine e_istore_n (lv' := [(3, .int _), (2, .int _), (0, .ref _)]) dX11_corner_86 rfl (by decide) rfl ?_
        refine e_sub [2, 1, 0] rfl ?_
        refine m_X11_corner_L87 hd ?_ e_fu _ _ _ _ hf
        · intro h33 w0_34 w2_35 hf
          refine e_aload_n 0 dX11_corner_120 rfl rfl ?_
          refine e_iconst (v := 0) dX11_corner_121 (by decide) ?_
          obtain ⟨hO36, hf⟩ := e_if hf
          refine e_putI hO36 fc_11_1 rfl lk_RX11_15 dX11_corner_122 ?_
          refine e_aload_n 0 dX11_corner_125 rfl rfl ?_
          refine e_aload_n 0 dX11_corner_126 rfl rfl ?_
          obtain ⟨b37, hb38, hf⟩ := e_bd hf
          refine e_getR hO36 fc_11_30 lk_RX11_77 dX11_corner_127 hb38 ?_
          refine e_iload_n 1 dX11_corner_130 rfl rfl ?_
          obtain ⟨hI39, hf⟩ := e_if hf
          refine e_iald hI39 dX11_corner_131 ?_
          refine e_i2l dX11_corner_132 ?_
          obtain ⟨r40, hr41, hf⟩ := e_bd hf
          refine e_callV (st := []) ml_RX11_18 k_X11_enters (m_X11_enters (d := d - 1) (by omega) hr41) hO36 ⟨by decide, rfl⟩ rfl rfl (Nat.le_of_ble_eq_true rfl) ⟨by omega, by decide⟩ ⟨Nat.le_refl _, Nat.le_refl _⟩ dX11_corner_133 ?_
          refine e_iload_n 1 dX11_corner_136 rfl rfl ?_
          exact e_iret rfl dX11_corner_137 (qW hf)
  · replace hf := e_it c hf
    refine e_iconst (v := (-1)) dX11_corner_17 (by decide) ?_
    exact e_iret rfl dX11_corner_18 (qW hf)
def f_X11_laysFar_L2 (L : eL) : Nat → (eH → Nat → Nat → Option eH) → eH → Nat → Nat → Int32 → Int32 → Option eH
  | 0, _, _, _, _, _, _ => none
  | n + 1, k41, h, v0, v1, v2, v3 =>
    if 36 ≤ v3 then
      k41 h v0 v1
    else
      if isO L v0 11 = true then
      (gR h v0 31).bind fun b2 =>
      if v3 = v2 then
        (f_X11_isFree L h v0 v1 v3).bind fun r5 =>
        if r5 = 0 then
          if inA L b2 0 v3 = true then
          f_X11_laysFar_L2 L n k41 (sI h b2 v3.toNatClampNeg 1000000) v0 v1 v2 (v3 + Int32.ofInt 1)
          else none
        else
          if inA L b2 0 v3 = true then
          f_X11_laysFar_L2 L n k41 (sI h b2 v3.toNatClampNeg 0) v0 v1 v2 (v3 + Int32.ofInt 1)
          else none
      else
        if inA L b2 0 v3 = true then
        f_X11_laysFar_L2 L n k41 (sI h b2 v3.toNatClampNeg 1000000) v0 v1 v2 (v3 + Int32.ofInt 1)
        else none
      else none
set_option maxRecDepth 100000 in
set_option maxHeartbeats 4000000 in
theorem m_X11_laysFar_L2 {l : Launch} {d : Nat} {L : eL}  {r : eH} {k41 : eH → Nat → Nat → Option eH} (hd : 3 ≤ d) (hk41 : ∀ (h : eH) (v0 : Nat) (v1 : Nat), k41 h v0 v1 = some r → E l yX11_laysFar cX11_laysFar 7 none (e_rm d 0 0) 0 0 true L (Qx none L r) L h 0 0 41 [(0, .ref v0), (1, .ref v1)] []) : ∀ (n : Nat) (h : eH) (v0 : Nat) (v1 : Nat) (v2 : Int32) (v3 : Int32), f_X11_laysFar_L2 L n k41 h v0 v1 v2 v3 = some r → E l yX11_laysFar cX11_laysFar 7 none (e_rm d 0 0) 0 0 true L (Qx none L r) L h 0 0 2 [(0, .ref v0), (1, .ref v1), (2, .int v2), (3, .int v3)] [] := by
  intro n
  induction n with
  | zero => intro h v0 v1 v2 v3 hf; exact absurd hf (by simp [f_X11_laysFar_L2])
  | succ n ih =>
    intro h v0 v1 v2 v3 hf
    unfold f_X11_laysFar_L2 at hf
    refine e_iload_n 3 dX11_laysFar_2 rfl rfl ?_
    refine e_bipush (v := 36) dX11_laysFar_3 (by decide) ?_
    refine e_icmp_ge (t := 41) dX11_laysFar_5 (by decide) (fun c => ?_) (fun c => ?_)
    · replace hf := e_it c hf
      refine e_sub [0, 1] rfl ?_
      exact hk41 _ _ _ hf
    · replace hf := e_ie c hf
      refine e_aload_n 0 dX11_laysFar_8 rfl rfl ?_
      obtain ⟨hO1, hf⟩ := e_if hf
      obtain ⟨b2, hb3, hf⟩ := e_bd hf
      refine e_getR hO1 fc_11_31 lk_RX11_80 dX11_laysFar_9 hb3 ?_
      refine e_iload_n 3 dX11_laysFar_12 rfl rfl ?_
      refine e_iload_n 3 dX11_laysFar_13 rfl rfl ?_
      refine e_iload_n 2 dX11_laysFar_14 rfl rfl ?_
      refine e_icmp_ne (t := 31) dX11_laysFar_15 (by decide) (fun c => ?_) (fun c => ?_)
      · replace hf := e_ie c hf
        refine e_ldcw kc_RX11_339 dX11_laysFar_31 ?_
        obtain ⟨hI4, hf⟩ := e_if hf
        refine e_iast hI4 dX11_laysFar_34 ?_
        refine e_iinc (lv' := [(3, .int _), (0, .ref _), (1, .ref _), (2, .int _)]) 3 dX11_laysFar_35 rfl (by decide) rfl ?_
        refine e_goto (t := 2) dX11_laysFar_38 (by decide) ?_
        refine e_sub [1, 2, 3, 0] rfl ?_
        exact ih _ _ _ _ _ hf
      · replace hf := e_it c hf
        refine e_aload_n 0 dX11_laysFar_18 rfl rfl ?_
        refine e_aload_n 1 dX11_laysFar_19 rfl rfl ?_
        refine e_iload_n 3 dX11_laysFar_20 rfl rfl ?_
        obtain ⟨r5, hr6, hf⟩ := e_bd hf
        refine e_callV (st := [.int _, .ref _]) ml_RX11_241 k_X11_isFree (m_X11_isFree (d := d - 1) (by omega) hr6) hO1 ⟨by decide, rfl⟩ rfl rfl (Nat.le_of_ble_eq_true rfl) ⟨by omega, by decide⟩ ⟨Nat.le_refl _, Nat.le_refl _⟩ dX11_laysFar_21 ?_
        refine e_if_eq (t := 31) dX11_laysFar_24 (by decide) (fun c => ?_) (fun c => ?_)
        · replace hf := e_it c hf
          refine e_ldcw kc_RX11_339 dX11_laysFar_31 ?_
          obtain ⟨hI7, hf⟩ := e_if hf
          refine e_iast hI7 dX11_laysFar_34 ?_
          refine e_iinc (lv' := [(3, .int _), (0, .ref _), (1, .ref _), (2, .int _)]) 3 dX11_laysFar_35 rfl (by decide) rfl ?_
          refine e_goto (t := 2) dX11_laysFar_38 (by decide) ?_
          refine e_sub [1, 2, 3, 0] rfl ?_
          exact ih _ _ _ _ _ hf
        · replace hf := e_ie c hf
          refine e_iconst (v := 0) dX11_laysFar_27 (by decide) ?_
          refine e_goto (t := 34) dX11_laysFar_28 (by decide) ?_
          obtain ⟨hI8, hf⟩ := e_if hf
          refine e_iast hI8 dX11_laysFar_34 ?_
          refine e_iinc (lv' := [(3, .int _), (0, .ref _), (1, .ref _), (2, .int _)]) 3 dX11_laysFar_35 rfl (by decide) rfl ?_
          refine e_goto (t := 2) dX11_laysFar_38 (by decide) ?_
          refine e_sub [1, 2, 3, 0] rfl ?_
          exact ih _ _ _ _ _ hf
def f_X11_laysFar_L64 (L : eL) : Nat → (eH → Nat → Nat → Int32 → Int32 → Option eH) → eH → Nat → Nat → Int32 → Int32 → Int32 → Option eH
  | 0, _, _, _, _, _, _, _ => none
  | n + 1, k148, h, v0, v1, v3, v4, v5 =>
    if 4 ≤ v5 then
      k148 h v0 v1 v3 v4
    else
      if isO L v0 11 = true then
      (f_X11_isFree L h v0 v1 v4).bind fun r16 =>
      if r16 = 0 then
        k148 h v0 v1 v3 v4
      else
        (f_X11_beside L h v0 v4 v5).bind fun r18 =>
        if r18 < 0 then
          f_X11_laysFar_L64 L n k148 h v0 v1 v3 v4 (v5 + Int32.ofInt 1)
        else
          (gR h v0 31).bind fun b20 =>
          if inA L b20 0 r18 = true then
          (f_X11_costOf L h v0 v4).bind fun r23 =>
          (gR h v0 31).bind fun b25 =>
          if inA L b25 0 v4 = true then
          if (gI h b25 v4.toNatClampNeg) ≤ ((gI h b20 r18.toNatClampNeg) + r23) then
            f_X11_laysFar_L64 L n k148 h v0 v1 v3 v4 (v5 + Int32.ofInt 1)
          else
            (gR h v0 31).bind fun b28 =>
            (gR h v0 31).bind fun b30 =>
            if inA L b30 0 r18 = true then
            (f_X11_costOf L h v0 v4).bind fun r33 =>
            if inA L b28 0 v4 = true then
            (some (sI h b28 v4.toNatClampNeg ((gI h b30 r18.toNatClampNeg) + r33))).bind fun h36 =>
            f_X11_laysFar_L64 L n k148 h36 v0 v1 1 v4 (v5 + Int32.ofInt 1)
            else none
            else none
          else none
          else none
      else none
set_option maxRecDepth 100000 in
set_option maxHeartbeats 4000000 in
theorem m_X11_laysFar_L64 {l : Launch} {d : Nat} {L : eL}  {r : eH} {k148 : eH → Nat → Nat → Int32 → Int32 → Option eH} (hd : 3 ≤ d) (hk148 : ∀ (h : eH) (v0 : Nat) (v1 : Nat) (v3 : Int32) (v4 : Int32), k148 h v0 v1 v3 v4 = some r → E l yX11_laysFar cX11_laysFar 7 none (e_rm d 0 0) 0 0 true L (Qx none L r) L h 0 0 148 [(0, .ref v0), (1, .ref v1), (3, .int v3), (4, .int v4)] []) : ∀ (n : Nat) (h : eH) (v0 : Nat) (v1 : Nat) (v3 : Int32) (v4 : Int32) (v5 : Int32), f_X11_laysFar_L64 L n k148 h v0 v1 v3 v4 v5 = some r → E l yX11_laysFar cX11_laysFar 7 none (e_rm d 0 0) 0 0 true L (Qx none L r) L h 0 0 64 [(0, .ref v0), (1, .ref v1), (3, .int v3), (4, .int v4), (5, .int v5)] [] := by
  intro n
  induction n with
  | zero => intro h v0 v1 v3 v4 v5 hf; exact absurd hf (by simp [f_X11_laysFar_L64])
  | succ n ih =>
    intro h v0 v1 v3 v4 v5 hf
    unfold f_X11_laysFar_L64 at hf
    refine e_iload 4 dX11_laysFar_64 rfl ?_
    refine e_iconst (v := 4) dX11_laysFar_66 (by decide) ?_
    refine e_icmp_ge (t := 148) dX11_laysFar_67 (by decide) (fun c => ?_) (fun c => ?_)
    · replace hf := e_it c hf
      refine e_sub [0, 1, 2, 3] rfl ?_
      exact hk148 _ _ _ _ _ hf
    · replace hf := e_ie c hf
      refine e_aload_n 0 dX11_laysFar_70 rfl rfl ?_
      refine e_aload_n 1 dX11_laysFar_71 rfl rfl ?_
      refine e_iload 3 dX11_laysFar_72 rfl ?_
      obtain ⟨hO15, hf⟩ := e_if hf
      obtain ⟨r16, hr17, hf⟩ := e_bd hf
      refine e_callV (st := []) ml_RX11_241 k_X11_isFree (m_X11_isFree (d := d - 1) (by omega) hr17) hO15 ⟨by decide, rfl⟩ rfl rfl (Nat.le_of_ble_eq_true rfl) ⟨by omega, by decide⟩ ⟨Nat.le_refl _, Nat.le_refl _⟩ dX11_laysFar_74 ?_
      refine e_if_eq (t := 148) dX11_laysFar_77 (by decide) (fun c => ?_) (fun c => ?_)
      · replace hf := e_it c hf
        refine e_sub [0, 1, 2, 3] rfl ?_
        exact hk148 _ _ _ _ _ hf
      · replace hf := e_ie c hf
        refine e_aload_n 0 dX11_laysFar_80 rfl rfl ?_
        refine e_iload 3 dX11_laysFar_81 rfl ?_
        refine e_iload 4 dX11_laysFar_83 rfl ?_
        obtain ⟨r18, hr19, hf⟩ := e_bd hf
        refine e_callV (st := []) ml_RX11_251 k_X11_beside (m_X11_beside (d := d - 1) (by omega) hr19) hO15 ⟨by decide, rfl⟩ rfl rfl (Nat.le_of_ble_eq_true rfl) ⟨by omega, by decide⟩ ⟨Nat.le_refl _, Nat.le_refl _⟩ dX11_laysFar_85 ?_
        refine e_istore (lv' := [(6, .int _), (0, .ref _), (1, .ref _), (3, .int _), (4, .int _), (5, .int _)]) dX11_laysFar_88 (by decide) rfl ?_
        refine e_iload 0 dX11_laysFar_90 rfl ?_
        refine e_if_lt (t := 142) dX11_laysFar_92 (by decide) (fun c => ?_) (fun c => ?_)
        · replace hf := e_it c hf
          refine e_iinc (lv' := [(5, .int _), (6, .int _), (0, .ref _), (1, .ref _), (3, .int _), (4, .int _)]) 5 dX11_laysFar_142 rfl (by decide) rfl ?_
          refine e_goto (t := 64) dX11_laysFar_145 (by decide) ?_
          refine e_sub [2, 3, 4, 5, 0] rfl ?_
          exact ih _ _ _ _ _ _ hf
        · replace hf := e_ie c hf
          refine e_aload_n 1 dX11_laysFar_95 rfl rfl ?_
          obtain ⟨b20, hb21, hf⟩ := e_bd hf
          refine e_getR hO15 fc_11_31 lk_RX11_80 dX11_laysFar_96 hb21 ?_
          refine e_iload 0 dX11_laysFar_99 rfl ?_
          obtain ⟨hI22, hf⟩ := e_if hf
          refine e_iald hI22 dX11_laysFar_101 ?_
          refine e_aload_n 1 dX11_laysFar_102 rfl rfl ?_
          refine e_iload 4 dX11_laysFar_103 rfl ?_
          obtain ⟨r23, hr24, hf⟩ := e_bd hf
          refine e_callV (st := [.int _]) ml_RX11_262 k_X11_costOf (m_X11_costOf (d := d - 1) (by omega) hr24) hO15 ⟨by decide, rfl⟩ rfl rfl (Nat.le_of_ble_eq_true rfl) ⟨by omega, by decide⟩ ⟨Nat.le_refl _, Nat.le_refl _⟩ dX11_laysFar_105 ?_
          refine e_iadd dX11_laysFar_108 ?_
          refine e_aload_n 1 dX11_laysFar_109 rfl rfl ?_
          obtain ⟨b25, hb26, hf⟩ := e_bd hf
          refine e_getR hO15 fc_11_31 lk_RX11_80 dX11_laysFar_110 hb26 ?_
          refine e_iload 4 dX11_laysFar_113 rfl ?_
          obtain ⟨hI27, hf⟩ := e_if hf
          refine e_iald hI27 dX11_laysFar_115 ?_
          refine e_icmp_ge (t := 142) dX11_laysFar_116 (by decide) (fun c => ?_) (fun c => ?_)
          · replace hf := e_it c hf
            refine e_iinc (lv' := [(5, .int _), (6, .int _), (0, .ref _), (1, .ref _), (3, .int _), (4, .int _)]) 5 dX11_laysFar_142 rfl (by decide) rfl ?_
            refine e_goto (t := 64) dX11_laysFar_145 (by decide) ?_
            refine e_sub [2, 3, 4, 5, 0] rfl ?_
            exact ih _ _ _ _ _ _ hf
          · replace hf := e_ie c hf
            refine e_aload_n 1 dX11_laysFar_119 rfl rfl ?_
            obtain ⟨b28, hb29, hf⟩ := e_bd hf
            refine e_getR hO15 fc_11_31 lk_RX11_80 dX11_laysFar_120 hb29 ?_
            refine e_iload 4 dX11_laysFar_123 rfl ?_
            refine e_aload_n 1 dX11_laysFar_125 rfl rfl ?_
            obtain ⟨b30, hb31, hf⟩ := e_bd hf
            refine e_getR hO15 fc_11_31 lk_RX11_80 dX11_laysFar_126 hb31 ?_
            refine e_iload 0 dX11_laysFar_129 rfl ?_
            obtain ⟨hI32, hf⟩ := e_if hf
            refine e_iald hI32 dX11_laysFar_131 ?_
            refine e_aload_n 1 dX11_laysFar_132 rfl rfl ?_
            refine e_iload 4 dX11_laysFar_133 rfl ?_
            obtain ⟨r33, hr34, hf⟩ := e_bd hf
            refine e_callV (st := [.int _, .int _, .ref _]) ml_RX11_262 k_X11_costOf (m_X11_costOf (d := d - 1) (by omega) hr34) hO15 ⟨by decide, rfl⟩ rfl rfl (Nat.le_of_ble_eq_true rfl) ⟨by omega, by decide⟩ ⟨Nat.le_refl _, Nat.le_refl _⟩ dX11_laysFar_135 ?_
            refine e_iadd dX11_laysFar_138 ?_
            obtain ⟨hI35, hf⟩ := e_if hf
            refine e_iast hI35 dX11_laysFar_139 ?_
            obtain ⟨h36, hh37, hf⟩ := e_bd hf
            refine e_hn hh37 ?_
            refine e_iconst (v := 1) dX11_laysFar_140 (by decide) ?_
            refine e_istore_n (lv' := [(3, .int _), (6, .int _), (0, .ref _), (1, .ref _), (4, .int _), (5, .int _)]) dX11_laysFar_141 rfl (by decide) rfl ?_
            refine e_iinc (lv' := [(5, .int _), (3, .int _), (6, .int _), (0, .ref _), (1, .ref _), (4, .int _)]) 5 dX11_laysFar_142 rfl (by decide) rfl ?_
            refine e_goto (t := 64) dX11_laysFar_145 (by decide) ?_
            refine e_sub [3, 4, 1, 5, 0] rfl ?_
            exact ih _ _ _ _ _ _ hf
def f_X11_laysFar_L52 (L : eL) : Nat → (eH → Nat → Nat → Int32 → Option eH) → eH → Nat → Nat → Int32 → Int32 → Option eH
  | 0, _, _, _, _, _, _ => none
  | n + 1, k154, h, v0, v1, v3, v4 =>
    if isO L v0 11 = true then
    (f_X11_spots L h v0).bind fun r13 =>
    if r13 ≤ v4 then
      k154 h v0 v1 v3
    else
      f_X11_laysFar_L64 L e_fu (fun (h38 : eH) (w0_39 : Nat) (w1_40 : Nat) (w3_41 : Int32) (w4_42 : Int32) =>
        f_X11_laysFar_L52 L n k154 h38 w0_39 w1_40 w3_41 (w4_42 + Int32.ofInt 1)) h v0 v1 v3 v4 0
    else none
set_option maxRecDepth 100000 in
set_option maxHeartbeats 4000000 in
theorem m_X11_laysFar_L52 {l : Launch} {d : Nat} {L : eL}  {r : eH} {k154 : eH → Nat → Nat → Int32 → Option eH} (hd : 3 ≤ d) (hk154 : ∀ (h : eH) (v0 : Nat) (v1 : Nat) (v3 : Int32), k154 h v0 v1 v3 = some r → E l yX11_laysFar cX11_laysFar 7 none (e_rm d 0 0) 0 0 true L (Qx none L r) L h 0 0 154 [(0, .ref v0), (1, .ref v1), (3, .int v3)] []) : ∀ (n : Nat) (h : eH) (v0 : Nat) (v1 : Nat) (v3 : Int32) (v4 : Int32), f_X11_laysFar_L52 L n k154 h v0 v1 v3 v4 = some r → E l yX11_laysFar cX11_laysFar 7 none (e_rm d 0 0) 0 0 true L (Qx none L r) L h 0 0 52 [(0, .ref v0), (1, .ref v1), (3, .int v3), (4, .int v4)] [] := by
  intro n
  induction n with
  | zero => intro h v0 v1 v3 v4 hf; exact absurd hf (by simp [f_X11_laysFar_L52])
  | succ n ih =>
    intro h v0 v1 v3 v4 hf
    unfold f_X11_laysFar_L52 at hf
    refine e_iload 3 dX11_laysFar_52 rfl ?_
    refine e_aload_n 0 dX11_laysFar_54 rfl rfl ?_
    obtain ⟨hO12, hf⟩ := e_if hf
    obtain ⟨r13, hr14, hf⟩ := e_bd hf
    refine e_callV (st := [.int _]) ml_RX11_114 k_X11_spots (m_X11_spots (d := d - 1) (by omega) hr14) hO12 ⟨by decide, rfl⟩ rfl rfl (Nat.le_of_ble_eq_true rfl) ⟨by omega, by decide⟩ ⟨Nat.le_refl _, Nat.le_refl _⟩ dX11_laysFar_55 ?_
    refine e_icmp_ge (t := 154) dX11_laysFar_58 (by decide) (fun c => ?_) (fun c => ?_)
    · replace hf := e_it c hf
      refine e_sub [0, 1, 2] rfl ?_
      exact hk154 _ _ _ _ hf
    · replace hf := e_ie c hf
      refine e_iconst (v := 0) dX11_laysFar_61 (by decide) ?_
      refine e_istore (lv' := [(5, .int _), (0, .ref _), (1, .ref _), (3, .int _), (4, .int _)]) dX11_laysFar_62 (by decide) rfl ?_
      refine e_sub [1, 2, 3, 4, 0] rfl ?_
      refine m_X11_laysFar_L64 hd ?_ e_fu _ _ _ _ _ _ hf
      · intro h38 w0_39 w1_40 w3_41 w4_42 hf
        refine e_iinc (lv' := [(4, .int _), (0, .ref _), (1, .ref _), (3, .int _)]) 3 dX11_laysFar_148 rfl (by decide) rfl ?_
        refine e_goto (t := 52) dX11_laysFar_151 (by decide) ?_
        refine e_sub [1, 2, 3, 0] rfl ?_
        exact ih _ _ _ _ _ hf
def f_X11_laysFar_L43 (L : eL) : Nat → (eH → Option eH) → eH → Nat → Nat → Int32 → Option eH
  | 0, _, _, _, _, _ => none
  | n + 1, k157, h, v0, v1, v3 =>
    if v3 = 0 then
      k157 h
    else
      f_X11_laysFar_L52 L e_fu (fun (h43 : eH) (w0_44 : Nat) (w1_45 : Nat) (w3_46 : Int32) =>
        f_X11_laysFar_L43 L n k157 h43 w0_44 w1_45 w3_46) h v0 v1 0 0
set_option maxRecDepth 100000 in
set_option maxHeartbeats 4000000 in
theorem m_X11_laysFar_L43 {l : Launch} {d : Nat} {L : eL}  {r : eH} {k157 : eH → Option eH} (hd : 3 ≤ d) (hk157 : ∀ (h : eH), k157 h = some r → E l yX11_laysFar cX11_laysFar 7 none (e_rm d 0 0) 0 0 true L (Qx none L r) L h 0 0 157 [] []) : ∀ (n : Nat) (h : eH) (v0 : Nat) (v1 : Nat) (v3 : Int32), f_X11_laysFar_L43 L n k157 h v0 v1 v3 = some r → E l yX11_laysFar cX11_laysFar 7 none (e_rm d 0 0) 0 0 true L (Qx none L r) L h 0 0 43 [(0, .ref v0), (1, .ref v1), (3, .int v3)] [] := by
  intro n
  induction n with
  | zero => intro h v0 v1 v3 hf; exact absurd hf (by simp [f_X11_laysFar_L43])
  | succ n ih =>
    intro h v0 v1 v3 hf
    unfold f_X11_laysFar_L43 at hf
    refine e_iload_n 2 dX11_laysFar_43 rfl rfl ?_
    refine e_if_eq (t := 157) dX11_laysFar_44 (by decide) (fun c => ?_) (fun c => ?_)
    · replace hf := e_it c hf
      refine e_sub [] rfl ?_
      exact hk157 _ hf
    · replace hf := e_ie c hf
      refine e_iconst (v := 0) dX11_laysFar_47 (by decide) ?_
      refine e_istore_n (lv' := [(3, .int _), (0, .ref _), (1, .ref _)]) dX11_laysFar_48 rfl (by decide) rfl ?_
      refine e_iconst (v := 0) dX11_laysFar_49 (by decide) ?_
      refine e_istore (lv' := [(4, .int _), (3, .int _), (0, .ref _), (1, .ref _)]) dX11_laysFar_50 (by decide) rfl ?_
      refine e_sub [2, 3, 1, 0] rfl ?_
      refine m_X11_laysFar_L52 hd ?_ e_fu _ _ _ _ _ hf
      · intro h43 w0_44 w1_45 w3_46 hf
        refine e_goto (t := 43) dX11_laysFar_154 (by decide) ?_
        exact ih _ _ _ _ hf
def f_X11_laysFar (L : eL) (h : eH) (v0 : Nat) (v1 : Nat) (v2 : Int32) : Option eH :=
  f_X11_laysFar_L2 L e_fu (fun (h9 : eH) (w0_10 : Nat) (w1_11 : Nat) =>
    f_X11_laysFar_L43 L e_fu (fun (h47 : eH) =>
      some h47) h9 w0_10 w1_11 1) h v0 v1 v2 0
set_option maxRecDepth 100000 in
set_option maxHeartbeats 4000000 in
theorem m_X11_laysFar {l : Launch} {d : Nat} {L : eL} {h : eH} {v0 : Nat} {v1 : Nat} {v2 : Int32} {r : eH} (hd : 3 ≤ d) (hf : f_X11_laysFar L h v0 v1 v2 = some r) : e_Met l yX11_laysFar cX11_laysFar 7 none d 0 0 true L h [.ref v0, .ref v1, .int v2] (Qx none L r) := by
  refine e_metl (by decide) (Nat.le_of_ble_eq_true rfl) (lv := [(0, .ref v0), (1, .ref v1), (2, .int v2)]) rfl ?_
  unfold f_X11_laysFar at hf
  refine e_iconst (v := 0) dX11_laysFar_0 (by decide) ?_
  refine e_istore_n (lv' := [(3, .int _), (0, .ref _), (1, .ref _), (2, .int _)]) dX11_laysFar_1 rfl (by decide) rfl ?_
  refine e_sub [1, 2, 3, 0] rfl ?_
  refine m_X11_laysFar_L2 hd ?_ e_fu _ _ _ _ _ hf
  · intro h9 w0_10 w1_11 hf
    refine e_iconst (v := 1) dX11_laysFar_41 (by decide) ?_
    refine e_istore_n (lv' := [(3, .int _), (0, .ref _), (1, .ref _)]) dX11_laysFar_42 rfl (by decide) rfl ?_
    refine e_sub [1, 2, 0] rfl ?_
    refine m_X11_laysFar_L43 hd ?_ e_fu _ _ _ _ hf
    · intro h47 hf
      exact e_vret rfl dX11_laysFar_157 (qV hf)
def f_X11_way_L84 (L : eL) : Nat → (eH → Nat → Int32 → Int32 → Int32 → Option (eH × Int32)) → eH → Nat → Int32 → Int32 → Int32 → Int32 → Int32 → Option (eH × Int32)
  | 0, _, _, _, _, _, _, _, _ => none
  | n + 1, k146, h, v0, v1, v2, v3, v4, v5 =>
    if 4 ≤ v5 then
      k146 h v0 v1 v2 v4
    else
      if isO L v0 11 = true then
      (f_X11_beside L h v0 v3 v5).bind fun r20 =>
      if r20 < 0 then
        f_X11_way_L84 L n k146 h v0 v1 v2 v3 v4 (v5 + Int32.ofInt 1)
      else
        (gR h v0 31).bind fun b22 =>
        if inA L b22 0 r20 = true then
        (f_X11_costOf L h v0 v3).bind fun r25 =>
        (gR h v0 31).bind fun b27 =>
        if inA L b27 0 v3 = true then
        if ((gI h b22 r20.toNatClampNeg) + r25) = (gI h b27 v3.toNatClampNeg) then
          f_X11_way_L84 L n k146 h v0 v1 v2 v3 (mnI v4 r20) (v5 + Int32.ofInt 1)
        else
          f_X11_way_L84 L n k146 h v0 v1 v2 v3 v4 (v5 + Int32.ofInt 1)
        else none
        else none
      else none
set_option maxRecDepth 100000 in
set_option maxHeartbeats 4000000 in
theorem m_X11_way_L84 {l : Launch} {d : Nat} {L : eL}  {r : eH × Int32} {k146 : eH → Nat → Int32 → Int32 → Int32 → Option (eH × Int32)} (hd : 5 ≤ d) (hk146 : ∀ (h : eH) (v0 : Nat) (v1 : Int32) (v2 : Int32) (v4 : Int32), k146 h v0 v1 v2 v4 = some r → E l yX11_way cX11_way 7 (some .int) (e_rm d 0 0) 0 0 true L (Qx (some (.int r.2)) L r.1) L h 0 0 146 [(0, .ref v0), (1, .int v1), (2, .int v2), (4, .int v4)] []) : ∀ (n : Nat) (h : eH) (v0 : Nat) (v1 : Int32) (v2 : Int32) (v3 : Int32) (v4 : Int32) (v5 : Int32), f_X11_way_L84 L n k146 h v0 v1 v2 v3 v4 v5 = some r → E l yX11_way cX11_way 7 (some .int) (e_rm d 0 0) 0 0 true L (Qx (some (.int r.2)) L r.1) L h 0 0 84 [(0, .ref v0), (1, .int v1), (2, .int v2), (3, .int v3), (4, .int v4), (5, .int v5)] [] := by
  intro n
  induction n with
  | zero => intro h v0 v1 v2 v3 v4 v5 hf; exact absurd hf (by simp [f_X11_way_L84])
  | succ n ih =>
    intro h v0 v1 v2 v3 v4 v5 hf
    unfold f_X11_way_L84 at hf
    refine e_iload 5 dX11_way_84 rfl ?_
    refine e_iconst (v := 4) dX11_way_86 (by decide) ?_
    refine e_icmp_ge (t := 146) dX11_way_87 (by decide) (fun c => ?_) (fun c => ?_)
    · replace hf := e_it c hf
      refine e_sub [0, 1, 2, 4] rfl ?_
      exact hk146 _ _ _ _ _ hf
    · replace hf := e_ie c hf
      refine e_aload_n 0 dX11_way_90 rfl rfl ?_
      refine e_iload_n 3 dX11_way_91 rfl rfl ?_
      refine e_iload 5 dX11_way_92 rfl ?_
      obtain ⟨hO19, hf⟩ := e_if hf
      obtain ⟨r20, hr21, hf⟩ := e_bd hf
      refine e_callV (st := []) ml_RX11_251 k_X11_beside (m_X11_beside (d := d - 1) (by omega) hr21) hO19 ⟨by decide, rfl⟩ rfl rfl (Nat.le_of_ble_eq_true rfl) ⟨by omega, by decide⟩ ⟨Nat.le_refl _, Nat.le_refl _⟩ dX11_way_94 ?_
      refine e_istore (lv' := [(6, .int _), (0, .ref _), (1, .int _), (2, .int _), (3, .int _), (4, .int _), (5, .int _)]) dX11_way_97 (by decide) rfl ?_
      refine e_iload 0 dX11_way_99 rfl ?_
      refine e_if_lt (t := 136) dX11_way_101 (by decide) (fun c => ?_) (fun c => ?_)
      · replace hf := e_it c hf
        refine e_iload 5 dX11_way_136 rfl ?_
        refine e_istore (lv' := [(4, .int _), (6, .int _), (0, .ref _), (1, .int _), (2, .int _), (3, .int _), (5, .int _)]) dX11_way_138 (by decide) rfl ?_
        refine e_iinc (lv' := [(5, .int _), (4, .int _), (6, .int _), (0, .ref _), (1, .int _), (2, .int _), (3, .int _)]) 6 dX11_way_140 rfl (by decide) rfl ?_
        refine e_goto (t := 84) dX11_way_143 (by decide) ?_
        refine e_sub [3, 4, 5, 6, 1, 0] rfl ?_
        exact ih _ _ _ _ _ _ _ hf
      · replace hf := e_ie c hf
        refine e_aload_n 1 dX11_way_104 rfl rfl ?_
        obtain ⟨b22, hb23, hf⟩ := e_bd hf
        refine e_getR hO19 fc_11_31 lk_RX11_80 dX11_way_105 hb23 ?_
        refine e_iload 0 dX11_way_108 rfl ?_
        obtain ⟨hI24, hf⟩ := e_if hf
        refine e_iald hI24 dX11_way_110 ?_
        refine e_aload_n 1 dX11_way_111 rfl rfl ?_
        refine e_iload_n 4 dX11_way_112 rfl rfl ?_
        obtain ⟨r25, hr26, hf⟩ := e_bd hf
        refine e_callV (st := [.int _]) ml_RX11_262 k_X11_costOf (m_X11_costOf (d := d - 1) (by omega) hr26) hO19 ⟨by decide, rfl⟩ rfl rfl (Nat.le_of_ble_eq_true rfl) ⟨by omega, by decide⟩ ⟨Nat.le_refl _, Nat.le_refl _⟩ dX11_way_113 ?_
        refine e_iadd dX11_way_116 ?_
        refine e_aload_n 1 dX11_way_117 rfl rfl ?_
        obtain ⟨b27, hb28, hf⟩ := e_bd hf
        refine e_getR hO19 fc_11_31 lk_RX11_80 dX11_way_118 hb28 ?_
        refine e_iload_n 4 dX11_way_121 rfl rfl ?_
        obtain ⟨hI29, hf⟩ := e_if hf
        refine e_iald hI29 dX11_way_122 ?_
        refine e_icmp_ne (t := 136) dX11_way_123 (by decide) (fun c => ?_) (fun c => ?_)
        · replace hf := e_ie c hf
          refine e_iload 5 dX11_way_136 rfl ?_
          refine e_istore (lv' := [(4, .int _), (6, .int _), (0, .ref _), (1, .int _), (2, .int _), (3, .int _), (5, .int _)]) dX11_way_138 (by decide) rfl ?_
          refine e_iinc (lv' := [(5, .int _), (4, .int _), (6, .int _), (0, .ref _), (1, .int _), (2, .int _), (3, .int _)]) 6 dX11_way_140 rfl (by decide) rfl ?_
          refine e_goto (t := 84) dX11_way_143 (by decide) ?_
          refine e_sub [3, 4, 5, 6, 1, 0] rfl ?_
          exact ih _ _ _ _ _ _ _ hf
        · replace hf := e_it c hf
          refine e_iload 5 dX11_way_126 rfl ?_
          refine e_iload 0 dX11_way_128 rfl ?_
          refine e_mn ml_RX11_135 (by omega) (Nat.le_of_ble_eq_true rfl) ⟨Nat.le_refl _, Nat.le_refl _⟩ dX11_way_130 ?_
          refine e_goto (t := 138) dX11_way_133 (by decide) ?_
          refine e_istore (lv' := [(4, .int _), (6, .int _), (0, .ref _), (1, .int _), (2, .int _), (3, .int _), (5, .int _)]) dX11_way_138 (by decide) rfl ?_
          refine e_iinc (lv' := [(5, .int _), (4, .int _), (6, .int _), (0, .ref _), (1, .int _), (2, .int _), (3, .int _)]) 6 dX11_way_140 rfl (by decide) rfl ?_
          refine e_goto (t := 84) dX11_way_143 (by decide) ?_
          refine e_sub [3, 4, 5, 6, 1, 0] rfl ?_
          exact ih _ _ _ _ _ _ _ hf
def f_X11_way_L72 (L : eL) : Nat → (eH → Nat → Int32 → Option (eH × Int32)) → eH → Nat → Int32 → Int32 → Int32 → Option (eH × Int32)
  | 0, _, _, _, _, _, _ => none
  | n + 1, k158, h, v0, v1, v2, v3 =>
    if v3 = v2 then
      k158 h v0 v1
    else
      f_X11_way_L84 L e_fu (fun (h30 : eH) (w0_31 : Nat) (w1_32 : Int32) (w2_33 : Int32) (w4_34 : Int32) =>
        if isO L w0_31 11 = true then
        (f_X11_enters L h30 w0_31 w4_34.toInt64).bind fun r36 =>
        f_X11_way_L72 L n k158 r36 w0_31 w1_32 w2_33 w4_34
        else none) h v0 v1 v2 v3 36 0
set_option maxRecDepth 100000 in
set_option maxHeartbeats 4000000 in
theorem m_X11_way_L72 {l : Launch} {d : Nat} {L : eL}  {r : eH × Int32} {k158 : eH → Nat → Int32 → Option (eH × Int32)} (hd : 5 ≤ d) (hk158 : ∀ (h : eH) (v0 : Nat) (v1 : Int32), k158 h v0 v1 = some r → E l yX11_way cX11_way 7 (some .int) (e_rm d 0 0) 0 0 true L (Qx (some (.int r.2)) L r.1) L h 0 0 158 [(0, .ref v0), (1, .int v1)] []) : ∀ (n : Nat) (h : eH) (v0 : Nat) (v1 : Int32) (v2 : Int32) (v3 : Int32), f_X11_way_L72 L n k158 h v0 v1 v2 v3 = some r → E l yX11_way cX11_way 7 (some .int) (e_rm d 0 0) 0 0 true L (Qx (some (.int r.2)) L r.1) L h 0 0 72 [(0, .ref v0), (1, .int v1), (2, .int v2), (3, .int v3)] [] := by
  intro n
  induction n with
  | zero => intro h v0 v1 v2 v3 hf; exact absurd hf (by simp [f_X11_way_L72])
  | succ n ih =>
    intro h v0 v1 v2 v3 hf
    unfold f_X11_way_L72 at hf
    refine e_iload_n 3 dX11_way_72 rfl rfl ?_
    refine e_iload_n 2 dX11_way_73 rfl rfl ?_
    refine e_icmp_eq (t := 158) dX11_way_74 (by decide) (fun c => ?_) (fun c => ?_)
    · replace hf := e_it c hf
      refine e_sub [0, 1] rfl ?_
      exact hk158 _ _ _ hf
    · replace hf := e_ie c hf
      refine e_bipush (v := 36) dX11_way_77 (by decide) ?_
      refine e_istore (lv' := [(4, .int _), (0, .ref _), (1, .int _), (2, .int _), (3, .int _)]) dX11_way_79 (by decide) rfl ?_
      refine e_iconst (v := 0) dX11_way_81 (by decide) ?_
      refine e_istore (lv' := [(5, .int _), (4, .int _), (0, .ref _), (1, .int _), (2, .int _), (3, .int _)]) dX11_way_82 (by decide) rfl ?_
      refine e_sub [2, 3, 4, 5, 1, 0] rfl ?_
      refine m_X11_way_L84 hd ?_ e_fu _ _ _ _ _ _ _ hf
      · intro h30 w0_31 w1_32 w2_33 w4_34 hf
        refine e_iload 3 dX11_way_146 rfl ?_
        refine e_istore_n (lv' := [(3, .int _), (0, .ref _), (1, .int _), (2, .int _), (4, .int _)]) dX11_way_148 rfl (by decide) rfl ?_
        refine e_aload_n 1 dX11_way_149 rfl rfl ?_
        refine e_iload_n 0 dX11_way_150 rfl rfl ?_
        refine e_i2l dX11_way_151 ?_
        obtain ⟨hO35, hf⟩ := e_if hf
        obtain ⟨r36, hr37, hf⟩ := e_bd hf
        refine e_callV (st := []) ml_RX11_18 k_X11_enters (m_X11_enters (d := d - 1) (by omega) hr37) hO35 ⟨by decide, rfl⟩ rfl rfl (Nat.le_of_ble_eq_true rfl) ⟨by omega, by decide⟩ ⟨Nat.le_refl _, Nat.le_refl _⟩ dX11_way_152 ?_
        refine e_goto (t := 72) dX11_way_155 (by decide) ?_
        refine e_sub [1, 2, 3, 0] rfl ?_
        exact ih _ _ _ _ _ hf
def f_X11_way (L : eL) (h : eH) (v0 : Nat) (v1 : Int32) (v2 : Int32) : Option (eH × Int32) :=
  if isO L v0 11 = true then
  (f_X11_isSpot L (sI h v0 0 0) v0 v1).bind fun r2 =>
  if r2 = 0 then
    some (sI h v0 0 0, (-1))
  else
    (f_X11_isSpot L (sI h v0 0 0) v0 v2).bind fun r4 =>
    if r4 = 0 then
      some (sI h v0 0 0, (-1))
    else
      (gR (sI h v0 0 0) v0 7).bind fun b6 =>
      (f_X11_laysFar L (sI h v0 0 0) v0 b6 v2).bind fun r8 =>
      (gR r8 v0 7).bind fun b10 =>
      (f_X11_isFree L r8 v0 b10 v1).bind fun r12 =>
      if r12 = 0 then
        some (r8, (-2))
      else
        (gR r8 v0 31).bind fun b14 =>
        if inA L b14 0 v1 = true then
        if (gI r8 b14 v1.toNatClampNeg) < 1000000 then
          (f_X11_enters L (sI r8 v0 1 0) v0 v1.toInt64).bind fun r17 =>
          f_X11_way_L72 L e_fu (fun (h38 : eH) (w0_39 : Nat) (w1_40 : Int32) =>
            if isO L w0_39 11 = true then
            (gR h38 w0_39 31).bind fun b42 =>
            if inA L b42 0 w1_40 = true then
            some (h38, gI h38 b42 w1_40.toNatClampNeg)
            else none
            else none) r17 v0 v1 v2 v1
        else
          some (r8, (-2))
        else none
  else none
set_option maxRecDepth 100000 in
set_option maxHeartbeats 4000000 in
theorem m_X11_way {l : Launch} {d : Nat} {L : eL} {h : eH} {v0 : Nat} {v1 : Int32} {v2 : Int32} {r : eH × Int32} (hd : 5 ≤ d) (hf : f_X11_way L h v0 v1 v2 = some r) : e_Met l yX11_way cX11_way 7 (some .int) d 0 0 true L h [.ref v0, .int v1, .int v2] (Qx (some (.int r.2)) L r.1) := by
  refine e_metl (by decide) (Nat.le_of_ble_eq_true rfl) (lv := [(0, .ref v0), (1, .int v1), (2, .int v2)]) rfl ?_
  unfold f_X11_way at hf
  refine e_aload_n 0 dX11_way_0 rfl rfl ?_
  refine e_iconst (v := 0) dX11_way_1 (by decide) ?_
  obtain ⟨hO1, hf⟩ := e_if hf
  refine e_putI hO1 fc_11_0 rfl lk_RX11_3 dX11_way_2 ?_
  refine e_aload_n 0 dX11_way_5 rfl rfl ?_
  refine e_iload_n 1 dX11_way_6 rfl rfl ?_
  obtain ⟨r2, hr3, hf⟩ := e_bd hf
  refine e_callV (st := []) ml_RX11_233 k_X11_isSpot (m_X11_isSpot (d := d - 1) (by omega) hr3) hO1 ⟨by decide, rfl⟩ rfl rfl (Nat.le_of_ble_eq_true rfl) ⟨by omega, by decide⟩ ⟨Nat.le_refl _, Nat.le_refl _⟩ dX11_way_7 ?_
  refine e_if_eq (t := 21) dX11_way_10 (by decide) (fun c => ?_) (fun c => ?_)
  · replace hf := e_it c hf
    refine e_iconst (v := (-1)) dX11_way_21 (by decide) ?_
    exact e_iret rfl dX11_way_22 (qW hf)
  · replace hf := e_ie c hf
    refine e_aload_n 0 dX11_way_13 rfl rfl ?_
    refine e_iload_n 2 dX11_way_14 rfl rfl ?_
    obtain ⟨r4, hr5, hf⟩ := e_bd hf
    refine e_callV (st := []) ml_RX11_233 k_X11_isSpot (m_X11_isSpot (d := d - 1) (by omega) hr5) hO1 ⟨by decide, rfl⟩ rfl rfl (Nat.le_of_ble_eq_true rfl) ⟨by omega, by decide⟩ ⟨Nat.le_refl _, Nat.le_refl _⟩ dX11_way_15 ?_
    refine e_if_ne (t := 23) dX11_way_18 (by decide) (fun c => ?_) (fun c => ?_)
    · replace hf := e_ie c hf
      refine e_aload_n 0 dX11_way_23 rfl rfl ?_
      refine e_aload_n 0 dX11_way_24 rfl rfl ?_
      obtain ⟨b6, hb7, hf⟩ := e_bd hf
      refine e_getR hO1 fc_11_7 lk_RX11_41 dX11_way_25 hb7 ?_
      refine e_iload_n 2 dX11_way_28 rfl rfl ?_
      obtain ⟨r8, hr9, hf⟩ := e_bd hf
      refine e_callV (st := []) ml_RX11_340 k_X11_laysFar (m_X11_laysFar (d := d - 1) (by omega) hr9) hO1 ⟨by decide, rfl⟩ rfl rfl (Nat.le_of_ble_eq_true rfl) ⟨by omega, by decide⟩ ⟨Nat.le_refl _, Nat.le_refl _⟩ dX11_way_29 ?_
      refine e_aload_n 0 dX11_way_32 rfl rfl ?_
      refine e_aload_n 0 dX11_way_33 rfl rfl ?_
      obtain ⟨b10, hb11, hf⟩ := e_bd hf
      refine e_getR hO1 fc_11_7 lk_RX11_41 dX11_way_34 hb11 ?_
      refine e_iload_n 1 dX11_way_37 rfl rfl ?_
      obtain ⟨r12, hr13, hf⟩ := e_bd hf
      refine e_callV (st := []) ml_RX11_241 k_X11_isFree (m_X11_isFree (d := d - 1) (by omega) hr13) hO1 ⟨by decide, rfl⟩ rfl rfl (Nat.le_of_ble_eq_true rfl) ⟨by omega, by decide⟩ ⟨Nat.le_refl _, Nat.le_refl _⟩ dX11_way_38 ?_
      refine e_if_eq (t := 56) dX11_way_41 (by decide) (fun c => ?_) (fun c => ?_)
      · replace hf := e_it c hf
        refine e_bipush (v := (-2)) dX11_way_56 (by decide) ?_
        exact e_iret rfl dX11_way_58 (qW hf)
      · replace hf := e_ie c hf
        refine e_aload_n 0 dX11_way_44 rfl rfl ?_
        obtain ⟨b14, hb15, hf⟩ := e_bd hf
        refine e_getR hO1 fc_11_31 lk_RX11_80 dX11_way_45 hb15 ?_
        refine e_iload_n 1 dX11_way_48 rfl rfl ?_
        obtain ⟨hI16, hf⟩ := e_if hf
        refine e_iald hI16 dX11_way_49 ?_
        refine e_ldcw kc_RX11_339 dX11_way_50 ?_
        refine e_icmp_lt (t := 59) dX11_way_53 (by decide) (fun c => ?_) (fun c => ?_)
        · replace hf := e_it c hf
          refine e_aload_n 0 dX11_way_59 rfl rfl ?_
          refine e_iconst (v := 0) dX11_way_60 (by decide) ?_
          refine e_putI hO1 fc_11_1 rfl lk_RX11_15 dX11_way_61 ?_
          refine e_iload_n 1 dX11_way_64 rfl rfl ?_
          refine e_istore_n (lv' := [(3, .int _), (0, .ref _), (1, .int _), (2, .int _)]) dX11_way_65 rfl (by decide) rfl ?_
          refine e_aload_n 1 dX11_way_66 rfl rfl ?_
          refine e_iload_n 0 dX11_way_67 rfl rfl ?_
          refine e_i2l dX11_way_68 ?_
          obtain ⟨r17, hr18, hf⟩ := e_bd hf
          refine e_callV (st := []) ml_RX11_18 k_X11_enters (m_X11_enters (d := d - 1) (by omega) hr18) hO1 ⟨by decide, rfl⟩ rfl rfl (Nat.le_of_ble_eq_true rfl) ⟨by omega, by decide⟩ ⟨Nat.le_refl _, Nat.le_refl _⟩ dX11_way_69 ?_
          refine e_sub [1, 2, 3, 0] rfl ?_
          refine m_X11_way_L72 hd ?_ e_fu _ _ _ _ _ hf
          · intro h38 w0_39 w1_40 hf
            refine e_aload_n 0 dX11_way_158 rfl rfl ?_
            obtain ⟨hO41, hf⟩ := e_if hf
            obtain ⟨b42, hb43, hf⟩ := e_bd hf
            refine e_getR hO41 fc_11_31 lk_RX11_80 dX11_way_159 hb43 ?_
            refine e_iload_n 1 dX11_way_162 rfl rfl ?_
            obtain ⟨hI44, hf⟩ := e_if hf
            refine e_iald hI44 dX11_way_163 ?_
            exact e_iret rfl dX11_way_164 (qW hf)
        · replace hf := e_ie c hf
          refine e_bipush (v := (-2)) dX11_way_56 (by decide) ?_
          exact e_iret rfl dX11_way_58 (qW hf)
    · replace hf := e_it c hf
      refine e_iconst (v := (-1)) dX11_way_21 (by decide) ?_
      exact e_iret rfl dX11_way_22 (qW hf)
def f_X11_back_J76 (L : eL) (k38 : eH → Nat → Int32 → Int32 → Int32 → Option (eH × Int32)) (k103 : eH → Int32 → Option (eH × Int32)) (h : eH) (v0 : Nat) (v3 : Int32) (s0 : Int32) : Option (eH × Int32) :=
  if isO L v0 11 = true then
  (gR h v0 8).bind fun b19 =>
  (gR h v0 8).bind fun b21 =>
  if inA L b21 0 72 = true then
  (f_X11_costOf L h v0 (gI h b21 (72 : Int32).toNatClampNeg)).bind fun r24 =>
  (f_X11_stepGoes L h v0 b19 r24).bind fun r26 =>
  k38 r26.1 v0 s0 r26.2 (v3 + Int32.ofInt 1)
  else none
  else none
set_option maxRecDepth 100000 in
set_option maxHeartbeats 4000000 in
theorem m_X11_back_J76 {l : Launch} {d : Nat} {L : eL}  {r : eH × Int32} {k38 : eH → Nat → Int32 → Int32 → Int32 → Option (eH × Int32)} {k103 : eH → Int32 → Option (eH × Int32)} (hd : 6 ≤ d) (hk38 : ∀ (h : eH) (v0 : Nat) (v1 : Int32) (v2 : Int32) (v3 : Int32), k38 h v0 v1 v2 v3 = some r → E l yX11_back cX11_back 4 (some .int) (e_rm d 0 0) 0 0 true L (Qx (some (.int r.2)) L r.1) L h 0 0 38 [(0, .ref v0), (1, .int v1), (2, .int v2), (3, .int v3)] []) (hk103 : ∀ (h : eH) (v1 : Int32), k103 h v1 = some r → E l yX11_back cX11_back 4 (some .int) (e_rm d 0 0) 0 0 true L (Qx (some (.int r.2)) L r.1) L h 0 0 103 [(1, .int v1)] []) : ∀ (h : eH) (v0 : Nat) (v3 : Int32) (s0 : Int32), f_X11_back_J76 L k38 k103 h v0 v3 s0 = some r → E l yX11_back cX11_back 4 (some .int) (e_rm d 0 0) 0 0 true L (Qx (some (.int r.2)) L r.1) L h 0 0 76 [(0, .ref v0), (3, .int v3)] [.int s0] := by
  intro h v0 v3 s0 hf
  unfold f_X11_back_J76 at hf
  refine e_istore_n (lv' := [(1, .int _), (0, .ref _), (3, .int _)]) dX11_back_76 rfl (by decide) rfl ?_
  refine e_aload_n 1 dX11_back_77 rfl rfl ?_
  refine e_aload_n 1 dX11_back_78 rfl rfl ?_
  obtain ⟨hO18, hf⟩ := e_if hf
  obtain ⟨b19, hb20, hf⟩ := e_bd hf
  refine e_getR hO18 fc_11_8 lk_RX11_44 dX11_back_79 hb20 ?_
  refine e_aload_n 1 dX11_back_82 rfl rfl ?_
  refine e_aload_n 1 dX11_back_83 rfl rfl ?_
  obtain ⟨b21, hb22, hf⟩ := e_bd hf
  refine e_getR hO18 fc_11_8 lk_RX11_44 dX11_back_84 hb22 ?_
  refine e_bipush (v := 72) dX11_back_87 (by decide) ?_
  obtain ⟨hI23, hf⟩ := e_if hf
  refine e_iald hI23 dX11_back_89 ?_
  obtain ⟨r24, hr25, hf⟩ := e_bd hf
  refine e_callV (st := [.ref _, .ref _]) ml_RX11_262 k_X11_costOf (m_X11_costOf (d := d - 1) (by omega) hr25) hO18 ⟨by decide, rfl⟩ rfl rfl (Nat.le_of_ble_eq_true rfl) ⟨by omega, by decide⟩ ⟨Nat.le_refl _, Nat.le_refl _⟩ dX11_back_90 ?_
  obtain ⟨r26, hr27, hf⟩ := e_bd hf
  refine e_callV (st := []) ml_RX11_265 k_X11_stepGoes (m_X11_stepGoes (d := d - 1) (by omega) hr27) hO18 ⟨by decide, rfl⟩ rfl rfl (Nat.le_of_ble_eq_true rfl) ⟨by omega, by decide⟩ ⟨Nat.le_refl _, Nat.le_refl _⟩ dX11_back_93 ?_
  refine e_istore_n (lv' := [(2, .int _), (1, .int _), (0, .ref _), (3, .int _)]) dX11_back_96 rfl (by decide) rfl ?_
  refine e_iinc (lv' := [(3, .int _), (2, .int _), (1, .int _), (0, .ref _)]) 3 dX11_back_97 rfl (by decide) rfl ?_
  refine e_goto (t := 38) dX11_back_100 (by decide) ?_
  refine e_sub [3, 2, 1, 0] rfl ?_
  exact hk38 _ _ _ _ _ hf
def f_X11_back_L38 (L : eL) : Nat → (eH → Int32 → Option (eH × Int32)) → eH → Nat → Int32 → Int32 → Int32 → Option (eH × Int32)
  | 0, _, _, _, _, _, _ => none
  | n + 1, k103, h, v0, v1, v2, v3 =>
    if 200 < v3 then
      k103 h v1
    else
      if v2 = 0 then
        k103 h v1
      else
        if isO L v0 11 = true then
        (gR h v0 8).bind fun b9 =>
        if inA L b9 0 74 = true then
        (gR h v0 31).bind fun b12 =>
        (gR h v0 8).bind fun b14 =>
        if inA L b14 0 72 = true then
        if inA L b12 0 (gI h b14 (72 : Int32).toNatClampNeg) = true then
        if (gI h b9 (74 : Int32).toNatClampNeg) < (gI h b12 (gI h b14 (72 : Int32).toNatClampNeg).toNatClampNeg) then
          f_X11_back_J76 L (f_X11_back_L38 L n k103) k103 h v0 v3 v1
        else
          f_X11_back_J76 L (f_X11_back_L38 L n k103) k103 h v0 v3 v3
        else none
        else none
        else none
        else none
set_option maxRecDepth 100000 in
set_option maxHeartbeats 4000000 in
theorem m_X11_back_L38 {l : Launch} {d : Nat} {L : eL}  {r : eH × Int32} {k103 : eH → Int32 → Option (eH × Int32)} (hd : 6 ≤ d) (hk103 : ∀ (h : eH) (v1 : Int32), k103 h v1 = some r → E l yX11_back cX11_back 4 (some .int) (e_rm d 0 0) 0 0 true L (Qx (some (.int r.2)) L r.1) L h 0 0 103 [(1, .int v1)] []) : ∀ (n : Nat) (h : eH) (v0 : Nat) (v1 : Int32) (v2 : Int32) (v3 : Int32), f_X11_back_L38 L n k103 h v0 v1 v2 v3 = some r → E l yX11_back cX11_back 4 (some .int) (e_rm d 0 0) 0 0 true L (Qx (some (.int r.2)) L r.1) L h 0 0 38 [(0, .ref v0), (1, .int v1), (2, .int v2), (3, .int v3)] [] := by
  intro n
  induction n with
  | zero => intro h v0 v1 v2 v3 hf; exact absurd hf (by simp [f_X11_back_L38])
  | succ n ih =>
    intro h v0 v1 v2 v3 hf
    unfold f_X11_back_L38 at hf
    refine e_iload_n 3 dX11_back_38 rfl rfl ?_
    refine e_sipush (v := 200) dX11_back_39 (by decide) ?_
    refine e_icmp_gt (t := 103) dX11_back_42 (by decide) (fun c => ?_) (fun c => ?_)
    · replace hf := e_it c hf
      refine e_sub [1] rfl ?_
      exact hk103 _ _ hf
    · replace hf := e_ie c hf
      refine e_iload_n 2 dX11_back_45 rfl rfl ?_
      refine e_if_eq (t := 103) dX11_back_46 (by decide) (fun c => ?_) (fun c => ?_)
      · replace hf := e_it c hf
        refine e_sub [1] rfl ?_
        exact hk103 _ _ hf
      · replace hf := e_ie c hf
        refine e_aload_n 0 dX11_back_49 rfl rfl ?_
        obtain ⟨hO8, hf⟩ := e_if hf
        obtain ⟨b9, hb10, hf⟩ := e_bd hf
        refine e_getR hO8 fc_11_8 lk_RX11_44 dX11_back_50 hb10 ?_
        refine e_bipush (v := 74) dX11_back_53 (by decide) ?_
        obtain ⟨hI11, hf⟩ := e_if hf
        refine e_iald hI11 dX11_back_55 ?_
        refine e_aload_n 0 dX11_back_56 rfl rfl ?_
        obtain ⟨b12, hb13, hf⟩ := e_bd hf
        refine e_getR hO8 fc_11_31 lk_RX11_80 dX11_back_57 hb13 ?_
        refine e_aload_n 0 dX11_back_60 rfl rfl ?_
        obtain ⟨b14, hb15, hf⟩ := e_bd hf
        refine e_getR hO8 fc_11_8 lk_RX11_44 dX11_back_61 hb15 ?_
        refine e_bipush (v := 72) dX11_back_64 (by decide) ?_
        obtain ⟨hI16, hf⟩ := e_if hf
        refine e_iald hI16 dX11_back_66 ?_
        obtain ⟨hI17, hf⟩ := e_if hf
        refine e_iald hI17 dX11_back_67 ?_
        refine e_icmp_lt (t := 75) dX11_back_68 (by decide) (fun c => ?_) (fun c => ?_)
        · replace hf := e_it c hf
          refine e_iload_n 1 dX11_back_75 rfl rfl ?_
          refine e_sub [0, 3] rfl ?_
          exact m_X11_back_J76 hd ih hk103 _ _ _ _ hf
        · replace hf := e_ie c hf
          refine e_iload_n 3 dX11_back_71 rfl rfl ?_
          refine e_goto (t := 76) dX11_back_72 (by decide) ?_
          refine e_sub [0, 3] rfl ?_
          exact m_X11_back_J76 hd ih hk103 _ _ _ _ hf
def f_X11_back (L : eL) (h : eH) (v0 : Nat) : Option (eH × Int32) :=
  if isO L v0 11 = true then
  if 0 ≤ (gI (sI h v0 0 0) v0 5) then
    (gR (sI h v0 0 0) v0 7).bind fun b2 =>
    (f_X11_laysFar L (sI h v0 0 0) v0 b2 (gI (sI h v0 0 0) v0 5)).bind fun r4 =>
    (f_X11_puts L r4 v0).bind fun r6 =>
    f_X11_back_L38 L e_fu (fun (h28 : eH) (w1_29 : Int32) =>
      some (h28, w1_29)) r6 v0 (-2) 1 0
  else
    some (sI h v0 0 0, (-2))
  else none
set_option maxRecDepth 100000 in
set_option maxHeartbeats 4000000 in
theorem m_X11_back {l : Launch} {d : Nat} {L : eL} {h : eH} {v0 : Nat} {r : eH × Int32} (hd : 6 ≤ d) (hf : f_X11_back L h v0 = some r) : e_Met l yX11_back cX11_back 4 (some .int) d 0 0 true L h [.ref v0] (Qx (some (.int r.2)) L r.1) := by
  refine e_metl (by decide) (Nat.le_of_ble_eq_true rfl) (lv := [(0, .ref v0)]) rfl ?_
  unfold f_X11_back at hf
  refine e_aload_n 0 dX11_back_0 rfl rfl ?_
  refine e_iconst (v := 0) dX11_back_1 (by decide) ?_
  obtain ⟨hO1, hf⟩ := e_if hf
  refine e_putI hO1 fc_11_0 rfl lk_RX11_3 dX11_back_2 ?_
  refine e_aload_n 0 dX11_back_5 rfl rfl ?_
  refine e_getI hO1 fc_11_5 lk_RX11_34 dX11_back_6 ?_
  refine e_if_ge (t := 15) dX11_back_9 (by decide) (fun c => ?_) (fun c => ?_)
  · replace hf := e_it c hf
    refine e_aload_n 0 dX11_back_15 rfl rfl ?_
    refine e_aload_n 0 dX11_back_16 rfl rfl ?_
    obtain ⟨b2, hb3, hf⟩ := e_bd hf
    refine e_getR hO1 fc_11_7 lk_RX11_41 dX11_back_17 hb3 ?_
    refine e_aload_n 0 dX11_back_20 rfl rfl ?_
    refine e_getI hO1 fc_11_5 lk_RX11_34 dX11_back_21 ?_
    obtain ⟨r4, hr5, hf⟩ := e_bd hf
    refine e_callV (st := []) ml_RX11_340 k_X11_laysFar (m_X11_laysFar (d := d - 1) (by omega) hr5) hO1 ⟨by decide, rfl⟩ rfl rfl (Nat.le_of_ble_eq_true rfl) ⟨by omega, by decide⟩ ⟨Nat.le_refl _, Nat.le_refl _⟩ dX11_back_24 ?_
    refine e_aload_n 0 dX11_back_27 rfl rfl ?_
    obtain ⟨r6, hr7, hf⟩ := e_bd hf
    refine e_callV (st := []) ml_RX11_317 k_X11_puts (m_X11_puts (d := d - 1) (by omega) hr7) hO1 ⟨by decide, rfl⟩ rfl rfl (Nat.le_of_ble_eq_true rfl) ⟨by omega, by decide⟩ ⟨Nat.le_refl _, Nat.le_refl _⟩ dX11_back_28 ?_
    refine e_bipush (v := (-2)) dX11_back_31 (by decide) ?_
    refine e_istore_n (lv' := [(1, .int _), (0, .ref _)]) dX11_back_33 rfl (by decide) rfl ?_
    refine e_iconst (v := 1) dX11_back_34 (by decide) ?_
    refine e_istore_n (lv' := [(2, .int _), (1, .int _), (0, .ref _)]) dX11_back_35 rfl (by decide) rfl ?_
    refine e_iconst (v := 0) dX11_back_36 (by decide) ?_
    refine e_istore_n (lv' := [(3, .int _), (2, .int _), (1, .int _), (0, .ref _)]) dX11_back_37 rfl (by decide) rfl ?_
    refine e_sub [3, 2, 1, 0] rfl ?_
    refine m_X11_back_L38 hd ?_ e_fu _ _ _ _ _ hf
    · intro h28 w1_29 hf
      refine e_iload_n 0 dX11_back_103 rfl rfl ?_
      exact e_iret rfl dX11_back_104 (qW hf)
  · replace hf := e_ie c hf
    refine e_bipush (v := (-2)) dX11_back_12 (by decide) ?_
    exact e_iret rfl dX11_back_14 (qW hf)
def f_X11_plug_L48 (L : eL) : Nat → (eH → Nat → Int32 → Int32 → Int32 → Int32 → Option (eH × Int32)) → eH → Nat → Int32 → Int32 → Int32 → Int32 → Int32 → Option (eH × Int32)
  | 0, _, _, _, _, _, _, _, _ => none
  | n + 1, k101, h, v0, v1, v2, v3, v4, v5 =>
    if isO L v0 11 = true then
    (f_X11_spots L h v0).bind fun r14 =>
    if r14 ≤ v5 then
      k101 h v0 v1 v2 v3 v4
    else
      (gR h v0 7).bind fun b16 =>
      (f_X11_isFree L h v0 b16 v5).bind fun r18 =>
      if r18 = 0 then
        f_X11_plug_L48 L n k101 h v0 v1 v2 v3 v4 (v5 + Int32.ofInt 1)
      else
        (gR h v0 31).bind fun b20 =>
        if inA L b20 0 v5 = true then
        f_X11_plug_L48 L n k101 h v0 v1 v2 v3 (mxI v4 (mnI 500 (gI h b20 v5.toNatClampNeg))) (v5 + Int32.ofInt 1)
        else none
    else none
set_option maxRecDepth 100000 in
set_option maxHeartbeats 4000000 in
theorem m_X11_plug_L48 {l : Launch} {d : Nat} {L : eL}  {r : eH × Int32} {k101 : eH → Nat → Int32 → Int32 → Int32 → Int32 → Option (eH × Int32)} (hd : 5 ≤ d) (hk101 : ∀ (h : eH) (v0 : Nat) (v1 : Int32) (v2 : Int32) (v3 : Int32) (v4 : Int32), k101 h v0 v1 v2 v3 v4 = some r → E l yX11_plug cX11_plug 6 (some .int) (e_rm d 0 0) 0 0 true L (Qx (some (.int r.2)) L r.1) L h 0 0 101 [(0, .ref v0), (1, .int v1), (2, .int v2), (3, .int v3), (4, .int v4)] []) : ∀ (n : Nat) (h : eH) (v0 : Nat) (v1 : Int32) (v2 : Int32) (v3 : Int32) (v4 : Int32) (v5 : Int32), f_X11_plug_L48 L n k101 h v0 v1 v2 v3 v4 v5 = some r → E l yX11_plug cX11_plug 6 (some .int) (e_rm d 0 0) 0 0 true L (Qx (some (.int r.2)) L r.1) L h 0 0 48 [(0, .ref v0), (1, .int v1), (2, .int v2), (3, .int v3), (4, .int v4), (5, .int v5)] [] := by
  intro n
  induction n with
  | zero => intro h v0 v1 v2 v3 v4 v5 hf; exact absurd hf (by simp [f_X11_plug_L48])
  | succ n ih =>
    intro h v0 v1 v2 v3 v4 v5 hf
    unfold f_X11_plug_L48 at hf
    refine e_iload 5 dX11_plug_48 rfl ?_
    refine e_aload_n 0 dX11_plug_50 rfl rfl ?_
    obtain ⟨hO13, hf⟩ := e_if hf
    obtain ⟨r14, hr15, hf⟩ := e_bd hf
    refine e_callV (st := [.int _]) ml_RX11_114 k_X11_spots (m_X11_spots (d := d - 1) (by omega) hr15) hO13 ⟨by decide, rfl⟩ rfl rfl (Nat.le_of_ble_eq_true rfl) ⟨by omega, by decide⟩ ⟨Nat.le_refl _, Nat.le_refl _⟩ dX11_plug_51 ?_
    refine e_icmp_ge (t := 101) dX11_plug_54 (by decide) (fun c => ?_) (fun c => ?_)
    · replace hf := e_it c hf
      refine e_sub [0, 1, 2, 3, 4] rfl ?_
      exact hk101 _ _ _ _ _ _ hf
    · replace hf := e_ie c hf
      refine e_aload_n 0 dX11_plug_57 rfl rfl ?_
      refine e_aload_n 0 dX11_plug_58 rfl rfl ?_
      obtain ⟨b16, hb17, hf⟩ := e_bd hf
      refine e_getR hO13 fc_11_7 lk_RX11_41 dX11_plug_59 hb17 ?_
      refine e_iload 5 dX11_plug_62 rfl ?_
      obtain ⟨r18, hr19, hf⟩ := e_bd hf
      refine e_callV (st := []) ml_RX11_241 k_X11_isFree (m_X11_isFree (d := d - 1) (by omega) hr19) hO13 ⟨by decide, rfl⟩ rfl rfl (Nat.le_of_ble_eq_true rfl) ⟨by omega, by decide⟩ ⟨Nat.le_refl _, Nat.le_refl _⟩ dX11_plug_64 ?_
      refine e_if_eq (t := 91) dX11_plug_67 (by decide) (fun c => ?_) (fun c => ?_)
      · replace hf := e_it c hf
        refine e_iload 4 dX11_plug_91 rfl ?_
        refine e_istore (lv' := [(4, .int _), (0, .ref _), (1, .int _), (2, .int _), (3, .int _), (5, .int _)]) dX11_plug_93 (by decide) rfl ?_
        refine e_iinc (lv' := [(5, .int _), (4, .int _), (0, .ref _), (1, .int _), (2, .int _), (3, .int _)]) 5 dX11_plug_95 rfl (by decide) rfl ?_
        refine e_goto (t := 48) dX11_plug_98 (by decide) ?_
        refine e_sub [2, 3, 4, 5, 1, 0] rfl ?_
        exact ih _ _ _ _ _ _ _ hf
      · replace hf := e_ie c hf
        refine e_iload 4 dX11_plug_70 rfl ?_
        refine e_sipush (v := 500) dX11_plug_72 (by decide) ?_
        refine e_aload_n 0 dX11_plug_75 rfl rfl ?_
        obtain ⟨b20, hb21, hf⟩ := e_bd hf
        refine e_getR hO13 fc_11_31 lk_RX11_80 dX11_plug_76 hb21 ?_
        refine e_iload 5 dX11_plug_79 rfl ?_
        obtain ⟨hI22, hf⟩ := e_if hf
        refine e_iald hI22 dX11_plug_81 ?_
        refine e_mn ml_RX11_135 (by omega) (Nat.le_of_ble_eq_true rfl) ⟨Nat.le_refl _, Nat.le_refl _⟩ dX11_plug_82 ?_
        refine e_mx ml_RX11_256 (by omega) (Nat.le_of_ble_eq_true rfl) ⟨Nat.le_refl _, Nat.le_refl _⟩ dX11_plug_85 ?_
        refine e_goto (t := 93) dX11_plug_88 (by decide) ?_
        refine e_istore (lv' := [(4, .int _), (0, .ref _), (1, .int _), (2, .int _), (3, .int _), (5, .int _)]) dX11_plug_93 (by decide) rfl ?_
        refine e_iinc (lv' := [(5, .int _), (4, .int _), (0, .ref _), (1, .int _), (2, .int _), (3, .int _)]) 5 dX11_plug_95 rfl (by decide) rfl ?_
        refine e_goto (t := 48) dX11_plug_98 (by decide) ?_
        refine e_sub [2, 3, 4, 5, 1, 0] rfl ?_
        exact ih _ _ _ _ _ _ _ hf
def f_X11_plug_L13 (L : eL) : Nat → (eH → Nat → Int32 → Int32 → Option (eH × Int32)) → eH → Nat → Int32 → Int32 → Int32 → Option (eH × Int32)
  | 0, _, _, _, _, _, _ => none
  | n + 1, k126, h, v0, v1, v2, v3 =>
    if isO L v0 11 = true then
    (f_X11_spots L h v0).bind fun r3 =>
    if r3 ≤ v3 then
      k126 h v0 v1 v2
    else
      (gR h v0 7).bind fun b5 =>
      (f_X11_isFree L h v0 b5 v3).bind fun r7 =>
      if r7 = 0 then
        f_X11_plug_L13 L n k126 h v0 v1 v2 (v3 + Int32.ofInt 1)
      else
        (gR h v0 7).bind fun b9 =>
        (f_X11_laysFar L h v0 b9 v3).bind fun r11 =>
        f_X11_plug_L48 L e_fu (fun (h23 : eH) (w0_24 : Nat) (w1_25 : Int32) (w2_26 : Int32) (w3_27 : Int32) (w4_28 : Int32) =>
          if w2_26 ≤ w4_28 then
            f_X11_plug_L13 L n k126 h23 w0_24 w1_25 (mnI w2_26 w4_28) (w3_27 + Int32.ofInt 1)
          else
            f_X11_plug_L13 L n k126 h23 w0_24 w3_27 (mnI w2_26 w4_28) (w3_27 + Int32.ofInt 1)) r11 v0 v1 v2 v3 0 0
    else none
set_option maxRecDepth 100000 in
set_option maxHeartbeats 4000000 in
theorem m_X11_plug_L13 {l : Launch} {d : Nat} {L : eL}  {r : eH × Int32} {k126 : eH → Nat → Int32 → Int32 → Option (eH × Int32)} (hd : 5 ≤ d) (hk126 : ∀ (h : eH) (v0 : Nat) (v1 : Int32) (v2 : Int32), k126 h v0 v1 v2 = some r → E l yX11_plug cX11_plug 6 (some .int) (e_rm d 0 0) 0 0 true L (Qx (some (.int r.2)) L r.1) L h 0 0 126 [(0, .ref v0), (1, .int v1), (2, .int v2)] []) : ∀ (n : Nat) (h : eH) (v0 : Nat) (v1 : Int32) (v2 : Int32) (v3 : Int32), f_X11_plug_L13 L n k126 h v0 v1 v2 v3 = some r → E l yX11_plug cX11_plug 6 (some .int) (e_rm d 0 0) 0 0 true L (Qx (some (.int r.2)) L r.1) L h 0 0 13 [(0, .ref v0), (1, .int v1), (2, .int v2), (3, .int v3)] [] := by
  intro n
  induction n with
  | zero => intro h v0 v1 v2 v3 hf; exact absurd hf (by simp [f_X11_plug_L13])
  | succ n ih =>
    intro h v0 v1 v2 v3 hf
    unfold f_X11_plug_L13 at hf
    refine e_iload_n 3 dX11_plug_13 rfl rfl ?_
    refine e_aload_n 0 dX11_plug_14 rfl rfl ?_
    obtain ⟨hO2, hf⟩ := e_if hf
    obtain ⟨r3, hr4, hf⟩ := e_bd hf
    refine e_callV (st := [.int _]) ml_RX11_114 k_X11_spots (m_X11_spots (d := d - 1) (by omega) hr4) hO2 ⟨by decide, rfl⟩ rfl rfl (Nat.le_of_ble_eq_true rfl) ⟨by omega, by decide⟩ ⟨Nat.le_refl _, Nat.le_refl _⟩ dX11_plug_15 ?_
    refine e_icmp_ge (t := 126) dX11_plug_18 (by decide) (fun c => ?_) (fun c => ?_)
    · replace hf := e_it c hf
      refine e_sub [0, 1, 2] rfl ?_
      exact hk126 _ _ _ _ hf
    · replace hf := e_ie c hf
      refine e_aload_n 0 dX11_plug_21 rfl rfl ?_
      refine e_aload_n 0 dX11_plug_22 rfl rfl ?_
      obtain ⟨b5, hb6, hf⟩ := e_bd hf
      refine e_getR hO2 fc_11_7 lk_RX11_41 dX11_plug_23 hb6 ?_
      refine e_iload_n 3 dX11_plug_26 rfl rfl ?_
      obtain ⟨r7, hr8, hf⟩ := e_bd hf
      refine e_callV (st := []) ml_RX11_241 k_X11_isFree (m_X11_isFree (d := d - 1) (by omega) hr8) hO2 ⟨by decide, rfl⟩ rfl rfl (Nat.le_of_ble_eq_true rfl) ⟨by omega, by decide⟩ ⟨Nat.le_refl _, Nat.le_refl _⟩ dX11_plug_27 ?_
      refine e_if_eq (t := 120) dX11_plug_30 (by decide) (fun c => ?_) (fun c => ?_)
      · replace hf := e_it c hf
        refine e_iinc (lv' := [(3, .int _), (0, .ref _), (1, .int _), (2, .int _)]) 3 dX11_plug_120 rfl (by decide) rfl ?_
        refine e_goto (t := 13) dX11_plug_123 (by decide) ?_
        refine e_sub [1, 2, 3, 0] rfl ?_
        exact ih _ _ _ _ _ hf
      · replace hf := e_ie c hf
        refine e_aload_n 0 dX11_plug_33 rfl rfl ?_
        refine e_aload_n 0 dX11_plug_34 rfl rfl ?_
        obtain ⟨b9, hb10, hf⟩ := e_bd hf
        refine e_getR hO2 fc_11_7 lk_RX11_41 dX11_plug_35 hb10 ?_
        refine e_iload_n 3 dX11_plug_38 rfl rfl ?_
        obtain ⟨r11, hr12, hf⟩ := e_bd hf
        refine e_callV (st := []) ml_RX11_340 k_X11_laysFar (m_X11_laysFar (d := d - 1) (by omega) hr12) hO2 ⟨by decide, rfl⟩ rfl rfl (Nat.le_of_ble_eq_true rfl) ⟨by omega, by decide⟩ ⟨Nat.le_refl _, Nat.le_refl _⟩ dX11_plug_39 ?_
        refine e_iconst (v := 0) dX11_plug_42 (by decide) ?_
        refine e_istore (lv' := [(4, .int _), (0, .ref _), (1, .int _), (2, .int _), (3, .int _)]) dX11_plug_43 (by decide) rfl ?_
        refine e_iconst (v := 0) dX11_plug_45 (by decide) ?_
        refine e_istore (lv' := [(5, .int _), (4, .int _), (0, .ref _), (1, .int _), (2, .int _), (3, .int _)]) dX11_plug_46 (by decide) rfl ?_
        refine e_sub [2, 3, 4, 5, 1, 0] rfl ?_
        refine m_X11_plug_L48 hd ?_ e_fu _ _ _ _ _ _ _ hf
        · intro h23 w0_24 w1_25 w2_26 w3_27 w4_28 hf
          refine e_iload 4 dX11_plug_101 rfl ?_
          refine e_iload_n 2 dX11_plug_103 rfl rfl ?_
          refine e_icmp_ge (t := 111) dX11_plug_104 (by decide) (fun c => ?_) (fun c => ?_)
          · replace hf := e_it c hf
            refine e_iload_n 1 dX11_plug_111 rfl rfl ?_
            refine e_istore_n (lv' := [(1, .int _), (0, .ref _), (2, .int _), (3, .int _), (4, .int _)]) dX11_plug_112 rfl (by decide) rfl ?_
            refine e_iload_n 2 dX11_plug_113 rfl rfl ?_
            refine e_iload 4 dX11_plug_114 rfl ?_
            refine e_mn ml_RX11_135 (by omega) (Nat.le_of_ble_eq_true rfl) ⟨Nat.le_refl _, Nat.le_refl _⟩ dX11_plug_116 ?_
            refine e_istore_n (lv' := [(2, .int _), (1, .int _), (0, .ref _), (3, .int _), (4, .int _)]) dX11_plug_119 rfl (by decide) rfl ?_
            refine e_iinc (lv' := [(3, .int _), (2, .int _), (1, .int _), (0, .ref _), (4, .int _)]) 3 dX11_plug_120 rfl (by decide) rfl ?_
            refine e_goto (t := 13) dX11_plug_123 (by decide) ?_
            refine e_sub [3, 2, 1, 0] rfl ?_
            exact ih _ _ _ _ _ hf
          · replace hf := e_ie c hf
            refine e_iload_n 3 dX11_plug_107 rfl rfl ?_
            refine e_goto (t := 112) dX11_plug_108 (by decide) ?_
            refine e_istore_n (lv' := [(1, .int _), (0, .ref _), (2, .int _), (3, .int _), (4, .int _)]) dX11_plug_112 rfl (by decide) rfl ?_
            refine e_iload_n 2 dX11_plug_113 rfl rfl ?_
            refine e_iload 4 dX11_plug_114 rfl ?_
            refine e_mn ml_RX11_135 (by omega) (Nat.le_of_ble_eq_true rfl) ⟨Nat.le_refl _, Nat.le_refl _⟩ dX11_plug_116 ?_
            refine e_istore_n (lv' := [(2, .int _), (1, .int _), (0, .ref _), (3, .int _), (4, .int _)]) dX11_plug_119 rfl (by decide) rfl ?_
            refine e_iinc (lv' := [(3, .int _), (2, .int _), (1, .int _), (0, .ref _), (4, .int _)]) 3 dX11_plug_120 rfl (by decide) rfl ?_
            refine e_goto (t := 13) dX11_plug_123 (by decide) ?_
            refine e_sub [3, 2, 1, 0] rfl ?_
            exact ih _ _ _ _ _ hf
def f_X11_plug (L : eL) (h : eH) (v0 : Nat) : Option (eH × Int32) :=
  if isO L v0 11 = true then
  f_X11_plug_L13 L e_fu (fun (h29 : eH) (w0_30 : Nat) (w1_31 : Int32) (w2_32 : Int32) =>
    if isO L w0_30 11 = true then
    (f_X11_enters L (sI h29 w0_30 1 0) w0_30 w2_32.toInt64).bind fun r34 =>
    some (r34, w1_31)
    else none) (sI h v0 0 0) v0 (-1) 1000000 0
  else none
set_option maxRecDepth 100000 in
set_option maxHeartbeats 4000000 in
theorem m_X11_plug {l : Launch} {d : Nat} {L : eL} {h : eH} {v0 : Nat} {r : eH × Int32} (hd : 5 ≤ d) (hf : f_X11_plug L h v0 = some r) : e_Met l yX11_plug cX11_plug 6 (some .int) d 0 0 true L h [.ref v0] (Qx (some (.int r.2)) L r.1) := by
  refine e_metl (by decide) (Nat.le_of_ble_eq_true rfl) (lv := [(0, .ref v0)]) rfl ?_
  unfold f_X11_plug at hf
  refine e_aload_n 0 dX11_plug_0 rfl rfl ?_
  refine e_iconst (v := 0) dX11_plug_1 (by decide) ?_
  obtain ⟨hO1, hf⟩ := e_if hf
  refine e_putI hO1 fc_11_0 rfl lk_RX11_3 dX11_plug_2 ?_
  refine e_iconst (v := (-1)) dX11_plug_5 (by decide) ?_
  refine e_istore_n (lv' := [(1, .int _), (0, .ref _)]) dX11_plug_6 rfl (by decide) rfl ?_
  refine e_ldcw kc_RX11_339 dX11_plug_7 ?_
  refine e_istore_n (lv' := [(2, .int _), (1, .int _), (0, .ref _)]) dX11_plug_10 rfl (by decide) rfl ?_
  refine e_iconst (v := 0) dX11_plug_11 (by decide) ?_
  refine e_istore_n (lv' := [(3, .int _), (2, .int _), (1, .int _), (0, .ref _)]) dX11_plug_12 rfl (by decide) rfl ?_
  refine e_sub [3, 2, 1, 0] rfl ?_
  refine m_X11_plug_L13 hd ?_ e_fu _ _ _ _ _ hf
  · intro h29 w0_30 w1_31 w2_32 hf
    refine e_aload_n 0 dX11_plug_126 rfl rfl ?_
    refine e_iconst (v := 0) dX11_plug_127 (by decide) ?_
    obtain ⟨hO33, hf⟩ := e_if hf
    refine e_putI hO33 fc_11_1 rfl lk_RX11_15 dX11_plug_128 ?_
    refine e_aload_n 0 dX11_plug_131 rfl rfl ?_
    refine e_iload_n 2 dX11_plug_132 rfl rfl ?_
    refine e_i2l dX11_plug_133 ?_
    obtain ⟨r34, hr35, hf⟩ := e_bd hf
    refine e_callV (st := []) ml_RX11_18 k_X11_enters (m_X11_enters (d := d - 1) (by omega) hr35) hO33 ⟨by decide, rfl⟩ rfl rfl (Nat.le_of_ble_eq_true rfl) ⟨by omega, by decide⟩ ⟨Nat.le_refl _, Nat.le_refl _⟩ dX11_plug_134 ?_
    refine e_iload_n 1 dX11_plug_137 rfl rfl ?_
    exact e_iret rfl dX11_plug_138 (qW hf)
def f_X11_canMeet (L : eL) (h : eH) (v0 : Nat) (v1 : Int32) : Option Int32 :=
  if isO L v0 11 = true then
  (gR h v0 7).bind fun b2 =>
  (gR h v0 7).bind fun b4 =>
  if inA L b4 0 72 = true then
  (f_X11_reachedFrom L h v0 b2 (gI h b4 (72 : Int32).toNatClampNeg) v1).bind fun r7 =>
  if (lg_cmp ((r7 >>> ((gI h v0 5).toInt64 &&& 63)) &&& 1) 1) = 0 then
    some 1
  else
    some 0
  else none
  else none
set_option maxRecDepth 100000 in
set_option maxHeartbeats 4000000 in
theorem m_X11_canMeet {l : Launch} {d : Nat} {L : eL} {h : eH} {v0 : Nat} {v1 : Int32} {r : Int32} (hd : 4 ≤ d) (hf : f_X11_canMeet L h v0 v1 = some r) : e_Met l yX11_canMeet cX11_canMeet 2 (some .boolean) d 0 0 true L h [.ref v0, .int v1] (Qx (some (.int r)) L h) := by
  refine e_metl (by decide) (Nat.le_of_ble_eq_true rfl) (lv := [(0, .ref v0), (1, .int v1)]) rfl ?_
  unfold f_X11_canMeet at hf
  refine e_aload_n 0 dX11_canMeet_0 rfl rfl ?_
  refine e_aload_n 0 dX11_canMeet_1 rfl rfl ?_
  obtain ⟨hO1, hf⟩ := e_if hf
  obtain ⟨b2, hb3, hf⟩ := e_bd hf
  refine e_getR hO1 fc_11_7 lk_RX11_41 dX11_canMeet_2 hb3 ?_
  refine e_aload_n 0 dX11_canMeet_5 rfl rfl ?_
  obtain ⟨b4, hb5, hf⟩ := e_bd hf
  refine e_getR hO1 fc_11_7 lk_RX11_41 dX11_canMeet_6 hb5 ?_
  refine e_bipush (v := 72) dX11_canMeet_9 (by decide) ?_
  obtain ⟨hI6, hf⟩ := e_if hf
  refine e_iald hI6 dX11_canMeet_11 ?_
  refine e_iload_n 1 dX11_canMeet_12 rfl rfl ?_
  obtain ⟨r7, hr8, hf⟩ := e_bd hf
  refine e_callV (st := []) ml_RX11_332 k_X11_reachedFrom (m_X11_reachedFrom (d := d - 1) (by omega) hr8) hO1 ⟨by decide, rfl⟩ rfl rfl (Nat.le_of_ble_eq_true rfl) ⟨by omega, by decide⟩ ⟨Nat.le_refl _, Nat.le_refl _⟩ dX11_canMeet_13 ?_
  refine e_aload_n 0 dX11_canMeet_16 rfl rfl ?_
  refine e_getI hO1 fc_11_5 lk_RX11_34 dX11_canMeet_17 ?_
  refine e_lshr dX11_canMeet_20 ?_
  refine e_lconst (v := 1) dX11_canMeet_21 (by decide) ?_
  refine e_land dX11_canMeet_22 ?_
  refine e_lconst (v := 1) dX11_canMeet_23 (by decide) ?_
  refine e_lcmp dX11_canMeet_24 ?_
  refine e_if_ne (t := 32) dX11_canMeet_25 (by decide) (fun c => ?_) (fun c => ?_)
  · replace hf := e_ie c hf
    refine e_iconst (v := 0) dX11_canMeet_32 (by decide) ?_
    exact e_zret (ty := .boolean) rfl rfl dX11_canMeet_33 (qP hf)
  · replace hf := e_it c hf
    refine e_iconst (v := 1) dX11_canMeet_28 (by decide) ?_
    refine e_goto (t := 33) dX11_canMeet_29 (by decide) ?_
    exact e_zret (ty := .boolean) rfl rfl dX11_canMeet_33 (qP hf)

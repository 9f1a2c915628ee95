def f_X10_angle (L : eL) (h : eH) (v0 : Nat) : Option (eH × Int32) :=
  if isO L v0 10 = true then
  (gR h v0 15).bind fun b2 =>
  (f_X10_free L h v0).bind fun r4 =>
  (gR h v0 7).bind fun b6 =>
  if isO L b6 6 = true then
  if isO L b2 2 = true then
  (f_X2_reach L h b2 r4 (gI h b6 1)).bind fun r10 =>
  (f_X10_stepsToSee L h v0 r10 1).bind fun r12 =>
  (f_X10_stepsToSee L r12.1 v0 r10 2).bind fun r14 =>
  (f_X10_stepsToSee L r14.1 v0 r10 3).bind fun r16 =>
  (gR r16.1 v0 1).bind fun b18 =>
  if isO L b18 3 = true then
  (f_X3_begin L r16.1 b18).bind fun r21 =>
  (gR r21 v0 1).bind fun b23 =>
  if isO L b23 3 = true then
  (f_X3_add L r21 b23 ((mnI r12.2 (mnI r14.2 r16.2)).toInt64)).bind fun r26 =>
  (gR r26 v0 1).bind fun b28 =>
  if isO L b28 3 = true then
  (f_X3_add L r26 b28 r12.2.toInt64).bind fun r31 =>
  (gR r31 v0 1).bind fun b33 =>
  if isO L b33 3 = true then
  (f_X3_add L r31 b33 r14.2.toInt64).bind fun r36 =>
  (gR r36 v0 1).bind fun b38 =>
  if isO L b38 3 = true then
  (f_X3_add L r36 b38 r16.2.toInt64).bind fun r41 =>
  if r12.2 = (mnI r12.2 (mnI r14.2 r16.2)) then
    some (r41, 1)
  else
    if r14.2 = (mnI r12.2 (mnI r14.2 r16.2)) then
      some (r41, 2)
    else
      some (r41, 3)
  else none
  else none
  else none
  else none
  else none
  else none
  else none
  else none
set_option maxRecDepth 100000 in
set_option maxHeartbeats 4000000 in
theorem m_X10_angle {l : Launch} {d : Nat} {L : eL} {h : eH} {v0 : Nat} {r : eH × Int32} (hd : 7 ≤ d) (hf : f_X10_angle L h v0 = some r) : e_Met l yX10_angle cX10_angle 7 (some .int) d 0 0 true L h [.ref v0] (Qx (some (.int r.2)) L r.1) := by
  refine e_metl (by decide) (Nat.le_of_ble_eq_true rfl) (lv := [(0, .ref v0)]) rfl ?_
  unfold f_X10_angle at hf
  refine e_aload_n 0 dX10_angle_0 rfl rfl ?_
  obtain ⟨hO1, hf⟩ := e_if hf
  obtain ⟨b2, hb3, hf⟩ := e_bd hf
  refine e_getR hO1 fc_10_15 lk_RX10_92 dX10_angle_1 hb3 ?_
  refine e_aload_n 0 dX10_angle_4 rfl rfl ?_
  obtain ⟨r4, hr5, hf⟩ := e_bd hf
  refine e_callV (st := [.ref _]) ml_RX10_186 k_X10_free (m_X10_free (d := d - 1) (by omega) hr5) hO1 ⟨by decide, rfl⟩ rfl rfl (Nat.le_of_ble_eq_true rfl) ⟨by omega, by decide⟩ ⟨Nat.le_refl _, Nat.le_refl _⟩ dX10_angle_5 ?_
  refine e_aload_n 0 dX10_angle_8 rfl rfl ?_
  obtain ⟨b6, hb7, hf⟩ := e_bd hf
  refine e_getR hO1 fc_10_7 lk_RX10_61 dX10_angle_9 hb7 ?_
  obtain ⟨hO8, hf⟩ := e_if hf
  refine e_getIN hO8 fc_6_1 lk_RX10_183 dX10_angle_12 ?_
  obtain ⟨hO9, hf⟩ := e_if hf
  obtain ⟨r10, hr11, hf⟩ := e_bd hf
  refine e_callV (st := []) ml_RX10_313 k_X2_reach (m_X2_reach (d := d - 1) (by omega) hr11) hO9 ⟨by decide, rfl⟩ rfl rfl (Nat.le_of_ble_eq_true rfl) ⟨by omega, by decide⟩ ⟨Nat.le_refl _, Nat.le_refl _⟩ dX10_angle_15 ?_
  refine e_lstore_n (lv' := [(1, .long _), (0, .ref _)]) dX10_angle_18 rfl (by decide) rfl ?_
  refine e_aload_n 1 dX10_angle_19 rfl rfl ?_
  refine e_lload_n 0 dX10_angle_20 rfl rfl ?_
  refine e_iconst (v := 1) dX10_angle_21 (by decide) ?_
  obtain ⟨r12, hr13, hf⟩ := e_bd hf
  refine e_callV (st := []) ml_RX10_317 k_X10_stepsToSee (m_X10_stepsToSee (d := d - 1) (by omega) hr13) hO1 ⟨by decide, rfl⟩ rfl rfl (Nat.le_of_ble_eq_true rfl) ⟨by omega, by decide⟩ ⟨Nat.le_refl _, Nat.le_refl _⟩ dX10_angle_22 ?_
  refine e_istore_n (lv' := [(3, .int _), (1, .long _), (0, .ref _)]) dX10_angle_25 rfl (by decide) rfl ?_
  refine e_aload_n 2 dX10_angle_26 rfl rfl ?_
  refine e_lload_n 1 dX10_angle_27 rfl rfl ?_
  refine e_iconst (v := 2) dX10_angle_28 (by decide) ?_
  obtain ⟨r14, hr15, hf⟩ := e_bd hf
  refine e_callV (st := []) ml_RX10_317 k_X10_stepsToSee (m_X10_stepsToSee (d := d - 1) (by omega) hr15) hO1 ⟨by decide, rfl⟩ rfl rfl (Nat.le_of_ble_eq_true rfl) ⟨by omega, by decide⟩ ⟨Nat.le_refl _, Nat.le_refl _⟩ dX10_angle_29 ?_
  refine e_istore (lv' := [(4, .int _), (3, .int _), (1, .long _), (0, .ref _)]) dX10_angle_32 (by decide) rfl ?_
  refine e_aload_n 3 dX10_angle_34 rfl rfl ?_
  refine e_lload_n 2 dX10_angle_35 rfl rfl ?_
  refine e_iconst (v := 3) dX10_angle_36 (by decide) ?_
  obtain ⟨r16, hr17, hf⟩ := e_bd hf
  refine e_callV (st := []) ml_RX10_317 k_X10_stepsToSee (m_X10_stepsToSee (d := d - 1) (by omega) hr17) hO1 ⟨by decide, rfl⟩ rfl rfl (Nat.le_of_ble_eq_true rfl) ⟨by omega, by decide⟩ ⟨Nat.le_refl _, Nat.le_refl _⟩ dX10_angle_37 ?_
  refine e_istore (lv' := [(5, .int _), (4, .int _), (3, .int _), (1, .long _), (0, .ref _)]) dX10_angle_40 (by decide) rfl ?_
  refine e_iload_n 2 dX10_angle_42 rfl rfl ?_
  refine e_iload 1 dX10_angle_43 rfl ?_
  refine e_iload 0 dX10_angle_45 rfl ?_
  refine e_mn ml_RX10_293 (by omega) (Nat.le_of_ble_eq_true rfl) ⟨Nat.le_refl _, Nat.le_refl _⟩ dX10_angle_47 ?_
  refine e_mn ml_RX10_293 (by omega) (Nat.le_of_ble_eq_true rfl) ⟨Nat.le_refl _, Nat.le_refl _⟩ dX10_angle_50 ?_
  refine e_istore (lv' := [(6, .int _), (5, .int _), (4, .int _), (3, .int _), (1, .long _), (0, .ref _)]) dX10_angle_53 (by decide) rfl ?_
  refine e_aload_n 5 dX10_angle_55 rfl rfl ?_
  obtain ⟨b18, hb19, hf⟩ := e_bd hf
  refine e_getR hO1 fc_10_1 lk_RX10_19 dX10_angle_56 hb19 ?_
  obtain ⟨hO20, hf⟩ := e_if hf
  obtain ⟨r21, hr22, hf⟩ := e_bd hf
  refine e_callV (st := []) ml_RX10_267 k_X3_begin (m_X3_begin (d := d - 1) (by omega) hr22) hO20 ⟨by decide, rfl⟩ rfl rfl (Nat.le_of_ble_eq_true rfl) ⟨by omega, by decide⟩ ⟨Nat.le_refl _, Nat.le_refl _⟩ dX10_angle_59 ?_
  refine e_aload_n 5 dX10_angle_62 rfl rfl ?_
  obtain ⟨b23, hb24, hf⟩ := e_bd hf
  refine e_getR hO1 fc_10_1 lk_RX10_19 dX10_angle_63 hb24 ?_
  refine e_iload 0 dX10_angle_66 rfl ?_
  refine e_i2l dX10_angle_68 ?_
  obtain ⟨hO25, hf⟩ := e_if hf
  obtain ⟨r26, hr27, hf⟩ := e_bd hf
  refine e_callV (st := []) ml_RX10_269 k_X3_add (m_X3_add (d := d - 1) (by omega) hr27) hO25 ⟨by decide, rfl⟩ rfl rfl (Nat.le_of_ble_eq_true rfl) ⟨by omega, by decide⟩ ⟨Nat.le_refl _, Nat.le_refl _⟩ dX10_angle_69 ?_
  refine e_aload_n 5 dX10_angle_72 rfl rfl ?_
  obtain ⟨b28, hb29, hf⟩ := e_bd hf
  refine e_getR hO1 fc_10_1 lk_RX10_19 dX10_angle_73 hb29 ?_
  refine e_iload_n 3 dX10_angle_76 rfl rfl ?_
  refine e_i2l dX10_angle_77 ?_
  obtain ⟨hO30, hf⟩ := e_if hf
  obtain ⟨r31, hr32, hf⟩ := e_bd hf
  refine e_callV (st := []) ml_RX10_269 k_X3_add (m_X3_add (d := d - 1) (by omega) hr32) hO30 ⟨by decide, rfl⟩ rfl rfl (Nat.le_of_ble_eq_true rfl) ⟨by omega, by decide⟩ ⟨Nat.le_refl _, Nat.le_refl _⟩ dX10_angle_78 ?_
  refine e_aload_n 5 dX10_angle_81 rfl rfl ?_
  obtain ⟨b33, hb34, hf⟩ := e_bd hf
  refine e_getR hO1 fc_10_1 lk_RX10_19 dX10_angle_82 hb34 ?_
  refine e_iload 2 dX10_angle_85 rfl ?_
  refine e_i2l dX10_angle_87 ?_
  obtain ⟨hO35, hf⟩ := e_if hf
  obtain ⟨r36, hr37, hf⟩ := e_bd hf
  refine e_callV (st := []) ml_RX10_269 k_X3_add (m_X3_add (d := d - 1) (by omega) hr37) hO35 ⟨by decide, rfl⟩ rfl rfl (Nat.le_of_ble_eq_true rfl) ⟨by omega, by decide⟩ ⟨Nat.le_refl _, Nat.le_refl _⟩ dX10_angle_88 ?_
  refine e_aload_n 5 dX10_angle_91 rfl rfl ?_
  obtain ⟨b38, hb39, hf⟩ := e_bd hf
  refine e_getR hO1 fc_10_1 lk_RX10_19 dX10_angle_92 hb39 ?_
  refine e_iload 1 dX10_angle_95 rfl ?_
  refine e_i2l dX10_angle_97 ?_
  obtain ⟨hO40, hf⟩ := e_if hf
  obtain ⟨r41, hr42, hf⟩ := e_bd hf
  refine e_callV (st := []) ml_RX10_269 k_X3_add (m_X3_add (d := d - 1) (by omega) hr42) hO40 ⟨by decide, rfl⟩ rfl rfl (Nat.le_of_ble_eq_true rfl) ⟨by omega, by decide⟩ ⟨Nat.le_refl _, Nat.le_refl _⟩ dX10_angle_98 ?_
  refine e_iload_n 3 dX10_angle_101 rfl rfl ?_
  refine e_iload 0 dX10_angle_102 rfl ?_
  refine e_icmp_ne (t := 109) dX10_angle_104 (by decide) (fun c => ?_) (fun c => ?_)
  · replace hf := e_ie c hf
    refine e_iload 2 dX10_angle_109 rfl ?_
    refine e_iload 0 dX10_angle_111 rfl ?_
    refine e_icmp_ne (t := 120) dX10_angle_113 (by decide) (fun c => ?_) (fun c => ?_)
    · replace hf := e_ie c hf
      refine e_iconst (v := 3) dX10_angle_120 (by decide) ?_
      exact e_iret rfl dX10_angle_121 (qW hf)
    · replace hf := e_it c hf
      refine e_iconst (v := 2) dX10_angle_116 (by decide) ?_
      refine e_goto (t := 121) dX10_angle_117 (by decide) ?_
      exact e_iret rfl dX10_angle_121 (qW hf)
  · replace hf := e_it c hf
    refine e_iconst (v := 1) dX10_angle_107 (by decide) ?_
    exact e_iret rfl dX10_angle_108 (qW hf)
def f_X10_meets (L : eL) (h : eH) (v0 : Nat) : Option (eH × Int32) :=
  if isO L v0 10 = true then
  (gR h v0 15).bind fun b2 =>
  if isO L b2 2 = true then
  if (gI h b2 3) = (-1) then
    some (h, (-2))
  else
    (gR h v0 15).bind fun b5 =>
    if isO L b5 2 = true then
    (f_X10_stepsToSee L h v0 (f_X10_bit (gI h b5 3)) (-1)).bind fun r8 =>
    if r8.2 ≤ 999 then
      some (r8.1, r8.2)
    else
      some (r8.1, (-2))
    else none
  else none
  else none
set_option maxRecDepth 100000 in
set_option maxHeartbeats 4000000 in
theorem m_X10_meets {l : Launch} {d : Nat} {L : eL} {h : eH} {v0 : Nat} {r : eH × Int32} (hd : 6 ≤ d) (hf : f_X10_meets L h v0 = some r) : e_Met l yX10_meets cX10_meets 2 (some .int) d 0 0 true L h [.ref v0] (Qx (some (.int r.2)) L r.1) := by
  refine e_metl (by decide) (Nat.le_of_ble_eq_true rfl) (lv := [(0, .ref v0)]) rfl ?_
  unfold f_X10_meets at hf
  refine e_aload_n 0 dX10_meets_0 rfl rfl ?_
  obtain ⟨hO1, hf⟩ := e_if hf
  obtain ⟨b2, hb3, hf⟩ := e_bd hf
  refine e_getR hO1 fc_10_15 lk_RX10_92 dX10_meets_1 hb3 ?_
  obtain ⟨hO4, hf⟩ := e_if hf
  refine e_getIN hO4 fc_2_3 lk_RX10_180 dX10_meets_4 ?_
  refine e_iconst (v := (-1)) dX10_meets_7 (by decide) ?_
  refine e_icmp_ne (t := 14) dX10_meets_8 (by decide) (fun c => ?_) (fun c => ?_)
  · replace hf := e_ie c hf
    refine e_aload_n 0 dX10_meets_14 rfl rfl ?_
    refine e_aload_n 0 dX10_meets_15 rfl rfl ?_
    obtain ⟨b5, hb6, hf⟩ := e_bd hf
    refine e_getR hO1 fc_10_15 lk_RX10_92 dX10_meets_16 hb6 ?_
    obtain ⟨hO7, hf⟩ := e_if hf
    refine e_getIN hO7 fc_2_3 lk_RX10_180 dX10_meets_19 ?_
    refine e_callS (st := [.ref _]) ml_RX10_289 k_X10_bit (m_X10_bit (d := d - 1) (by omega) rfl) rfl rfl (Nat.le_of_ble_eq_true rfl) ⟨by omega, by decide⟩ ⟨Nat.le_refl _, Nat.le_refl _⟩ dX10_meets_22 ?_
    refine e_iconst (v := (-1)) dX10_meets_25 (by decide) ?_
    obtain ⟨r8, hr9, hf⟩ := e_bd hf
    refine e_callV (st := []) ml_RX10_317 k_X10_stepsToSee (m_X10_stepsToSee (d := d - 1) (by omega) hr9) hO1 ⟨by decide, rfl⟩ rfl rfl (Nat.le_of_ble_eq_true rfl) ⟨by omega, by decide⟩ ⟨Nat.le_refl _, Nat.le_refl _⟩ dX10_meets_26 ?_
    refine e_istore_n (lv' := [(1, .int _), (0, .ref _)]) dX10_meets_29 rfl (by decide) rfl ?_
    refine e_iload_n 0 dX10_meets_30 rfl rfl ?_
    refine e_sipush (v := 999) dX10_meets_31 (by decide) ?_
    refine e_icmp_le (t := 42) dX10_meets_34 (by decide) (fun c => ?_) (fun c => ?_)
    · replace hf := e_it c hf
      refine e_iload_n 0 dX10_meets_42 rfl rfl ?_
      exact e_iret rfl dX10_meets_43 (qW hf)
    · replace hf := e_ie c hf
      refine e_bipush (v := (-2)) dX10_meets_37 (by decide) ?_
      refine e_goto (t := 43) dX10_meets_39 (by decide) ?_
      exact e_iret rfl dX10_meets_43 (qW hf)
  · replace hf := e_it c hf
    refine e_bipush (v := (-2)) dX10_meets_11 (by decide) ?_
    exact e_iret rfl dX10_meets_13 (qW hf)
def f_X10_round_L13 (L : eL) : Nat → (eH → Nat → Int32 → Option (eH × Int32)) → (eH → Option (eH × Int32)) → eH → Nat → Int32 → Option (eH × Int32)
  | 0, _, _, _, _, _ => none
  | n + 1, k67, k105, h, v0, v1 =>
    if 999 < v1 then
      k105 h
    else
      if isO L v0 10 = true then
      (gR h v0 9).bind fun b10 =>
      (f_X10_goOn L h v0 b10 0 (-1)).bind fun r12 =>
      if r12.2 = 0 then
        k105 r12.1
      else
        (gR r12.1 v0 9).bind fun b14 =>
        if isO L b14 6 = true then
        (gR r12.1 v0 7).bind fun b17 =>
        if isO L b17 6 = true then
        if (gI r12.1 b14 1) = (gI r12.1 b17 1) then
          (gR r12.1 v0 9).bind fun b20 =>
          if isO L b20 6 = true then
          (gR r12.1 v0 7).bind fun b23 =>
          if isO L b23 6 = true then
          if (gI r12.1 b20 2) = (gI r12.1 b23 2) then
            k67 r12.1 v0 v1
          else
            f_X10_round_L13 L n k67 k105 r12.1 v0 (v1 + Int32.ofInt 1)
          else none
          else none
        else
          f_X10_round_L13 L n k67 k105 r12.1 v0 (v1 + Int32.ofInt 1)
        else none
        else none
      else none
set_option maxRecDepth 100000 in
set_option maxHeartbeats 4000000 in
theorem m_X10_round_L13 {l : Launch} {d : Nat} {L : eL}  {r : eH × Int32} {k67 : eH → Nat → Int32 → Option (eH × Int32)} {k105 : eH → Option (eH × Int32)} (hd : 5 ≤ d) (hk67 : ∀ (h : eH) (v0 : Nat) (v1 : Int32), k67 h v0 v1 = some r → E l yX10_round cX10_round 2 (some .int) (e_rm d 0 0) 0 0 true L (Qx (some (.int r.2)) L r.1) L h 0 0 67 [(0, .ref v0), (1, .int v1)] []) (hk105 : ∀ (h : eH), k105 h = some r → E l yX10_round cX10_round 2 (some .int) (e_rm d 0 0) 0 0 true L (Qx (some (.int r.2)) L r.1) L h 0 0 105 [] []) : ∀ (n : Nat) (h : eH) (v0 : Nat) (v1 : Int32), f_X10_round_L13 L n k67 k105 h v0 v1 = some r → E l yX10_round cX10_round 2 (some .int) (e_rm d 0 0) 0 0 true L (Qx (some (.int r.2)) L r.1) L h 0 0 13 [(0, .ref v0), (1, .int v1)] [] := by
  intro n
  induction n with
  | zero => intro h v0 v1 hf; exact absurd hf (by simp [f_X10_round_L13])
  | succ n ih =>
    intro h v0 v1 hf
    unfold f_X10_round_L13 at hf
    refine e_iload_n 1 dX10_round_13 rfl rfl ?_
    refine e_sipush (v := 999) dX10_round_14 (by decide) ?_
    refine e_icmp_gt (t := 105) dX10_round_17 (by decide) (fun c => ?_) (fun c => ?_)
    · replace hf := e_it c hf
      refine e_sub [] rfl ?_
      exact hk105 _ hf
    · replace hf := e_ie c hf
      refine e_aload_n 0 dX10_round_20 rfl rfl ?_
      refine e_aload_n 0 dX10_round_21 rfl rfl ?_
      obtain ⟨hO9, hf⟩ := e_if hf
      obtain ⟨b10, hb11, hf⟩ := e_bd hf
      refine e_getR hO9 fc_10_9 lk_RX10_68 dX10_round_22 hb11 ?_
      refine e_iconst (v := 0) dX10_round_25 (by decide) ?_
      refine e_iconst (v := (-1)) dX10_round_26 (by decide) ?_
      obtain ⟨r12, hr13, hf⟩ := e_bd hf
      refine e_callV (st := []) ml_RX10_278 k_X10_goOn (m_X10_goOn (d := d - 1) (by omega) hr13) hO9 ⟨by decide, rfl⟩ rfl rfl (Nat.le_of_ble_eq_true rfl) ⟨by omega, by decide⟩ ⟨Nat.le_refl _, Nat.le_refl _⟩ dX10_round_27 ?_
      refine e_if_eq (t := 105) dX10_round_30 (by decide) (fun c => ?_) (fun c => ?_)
      · replace hf := e_it c hf
        refine e_sub [] rfl ?_
        exact hk105 _ hf
      · replace hf := e_ie c hf
        refine e_aload_n 0 dX10_round_33 rfl rfl ?_
        obtain ⟨b14, hb15, hf⟩ := e_bd hf
        refine e_getR hO9 fc_10_9 lk_RX10_68 dX10_round_34 hb15 ?_
        obtain ⟨hO16, hf⟩ := e_if hf
        refine e_getIN hO16 fc_6_1 lk_RX10_183 dX10_round_37 ?_
        refine e_aload_n 0 dX10_round_40 rfl rfl ?_
        obtain ⟨b17, hb18, hf⟩ := e_bd hf
        refine e_getR hO9 fc_10_7 lk_RX10_61 dX10_round_41 hb18 ?_
        obtain ⟨hO19, hf⟩ := e_if hf
        refine e_getIN hO19 fc_6_1 lk_RX10_183 dX10_round_44 ?_
        refine e_icmp_ne (t := 99) dX10_round_47 (by decide) (fun c => ?_) (fun c => ?_)
        · replace hf := e_ie c hf
          refine e_iinc (lv' := [(1, .int _), (0, .ref _)]) 1 dX10_round_99 rfl (by decide) rfl ?_
          refine e_goto (t := 13) dX10_round_102 (by decide) ?_
          refine e_sub [1, 0] rfl ?_
          exact ih _ _ _ hf
        · replace hf := e_it c hf
          refine e_aload_n 0 dX10_round_50 rfl rfl ?_
          obtain ⟨b20, hb21, hf⟩ := e_bd hf
          refine e_getR hO9 fc_10_9 lk_RX10_68 dX10_round_51 hb21 ?_
          obtain ⟨hO22, hf⟩ := e_if hf
          refine e_getIN hO22 fc_6_2 lk_RX10_192 dX10_round_54 ?_
          refine e_aload_n 0 dX10_round_57 rfl rfl ?_
          obtain ⟨b23, hb24, hf⟩ := e_bd hf
          refine e_getR hO9 fc_10_7 lk_RX10_61 dX10_round_58 hb24 ?_
          obtain ⟨hO25, hf⟩ := e_if hf
          refine e_getIN hO25 fc_6_2 lk_RX10_192 dX10_round_61 ?_
          refine e_icmp_ne (t := 99) dX10_round_64 (by decide) (fun c => ?_) (fun c => ?_)
          · replace hf := e_ie c hf
            refine e_iinc (lv' := [(1, .int _), (0, .ref _)]) 1 dX10_round_99 rfl (by decide) rfl ?_
            refine e_goto (t := 13) dX10_round_102 (by decide) ?_
            refine e_sub [1, 0] rfl ?_
            exact ih _ _ _ hf
          · replace hf := e_it c hf
            exact hk67 _ _ _ hf
def f_X10_round (L : eL) (h : eH) (v0 : Nat) : Option (eH × Int32) :=
  if isO L v0 10 = true then
  (gR h v0 9).bind fun b2 =>
  (gR h v0 7).bind fun b4 =>
  if isO L b2 6 = true then
  (f_X6_copyFrom L h b2 b4).bind fun r7 =>
  f_X10_round_L13 L e_fu (fun (h26 : eH) (w0_27 : Nat) (w1_28 : Int32) =>
    if isO L w0_27 10 = true then
    (gR h26 w0_27 1).bind fun b30 =>
    if isO L b30 3 = true then
    (f_X3_begin L h26 b30).bind fun r33 =>
    (gR r33 w0_27 1).bind fun b35 =>
    (gR r33 w0_27 9).bind fun b37 =>
    if isO L b37 6 = true then
    (gR r33 w0_27 7).bind fun b40 =>
    if isO L b40 6 = true then
    if isO L b35 3 = true then
    (f_X3_add L r33 b35 (((gI r33 b37 6) - (gI r33 b40 6)).toInt64)).bind fun r44 =>
    some (r44, w1_28)
    else none
    else none
    else none
    else none
    else none) (fun (h46 : eH) =>
    some (h46, (-2))) r7 v0 1
  else none
  else none
set_option maxRecDepth 100000 in
set_option maxHeartbeats 4000000 in
theorem m_X10_round {l : Launch} {d : Nat} {L : eL} {h : eH} {v0 : Nat} {r : eH × Int32} (hd : 5 ≤ d) (hf : f_X10_round L h v0 = some r) : e_Met l yX10_round cX10_round 2 (some .int) d 0 0 true L h [.ref v0] (Qx (some (.int r.2)) L r.1) := by
  refine e_metl (by decide) (Nat.le_of_ble_eq_true rfl) (lv := [(0, .ref v0)]) rfl ?_
  unfold f_X10_round at hf
  refine e_aload_n 0 dX10_round_0 rfl rfl ?_
  obtain ⟨hO1, hf⟩ := e_if hf
  obtain ⟨b2, hb3, hf⟩ := e_bd hf
  refine e_getR hO1 fc_10_9 lk_RX10_68 dX10_round_1 hb3 ?_
  refine e_aload_n 0 dX10_round_4 rfl rfl ?_
  obtain ⟨b4, hb5, hf⟩ := e_bd hf
  refine e_getR hO1 fc_10_7 lk_RX10_61 dX10_round_5 hb5 ?_
  obtain ⟨hO6, hf⟩ := e_if hf
  obtain ⟨r7, hr8, hf⟩ := e_bd hf
  refine e_callV (st := []) ml_RX10_230 k_X6_copyFrom (m_X6_copyFrom (d := d - 1) (by omega) hr8) hO6 ⟨by decide, rfl⟩ rfl rfl (Nat.le_of_ble_eq_true rfl) ⟨by omega, by decide⟩ ⟨Nat.le_refl _, Nat.le_refl _⟩ dX10_round_8 ?_
  refine e_iconst (v := 1) dX10_round_11 (by decide) ?_
  refine e_istore_n (lv' := [(1, .int _), (0, .ref _)]) dX10_round_12 rfl (by decide) rfl ?_
  refine e_sub [1, 0] rfl ?_
  refine m_X10_round_L13 hd ?_ ?_ e_fu _ _ _ hf
  · intro h26 w0_27 w1_28 hf
    refine e_aload_n 0 dX10_round_67 rfl rfl ?_
    obtain ⟨hO29, hf⟩ := e_if hf
    obtain ⟨b30, hb31, hf⟩ := e_bd hf
    refine e_getR hO29 fc_10_1 lk_RX10_19 dX10_round_68 hb31 ?_
    obtain ⟨hO32, hf⟩ := e_if hf
    obtain ⟨r33, hr34, hf⟩ := e_bd hf
    refine e_callV (st := []) ml_RX10_267 k_X3_begin (m_X3_begin (d := d - 1) (by omega) hr34) hO32 ⟨by decide, rfl⟩ rfl rfl (Nat.le_of_ble_eq_true rfl) ⟨by omega, by decide⟩ ⟨Nat.le_refl _, Nat.le_refl _⟩ dX10_round_71 ?_
    refine e_aload_n 0 dX10_round_74 rfl rfl ?_
    obtain ⟨b35, hb36, hf⟩ := e_bd hf
    refine e_getR hO29 fc_10_1 lk_RX10_19 dX10_round_75 hb36 ?_
    refine e_aload_n 0 dX10_round_78 rfl rfl ?_
    obtain ⟨b37, hb38, hf⟩ := e_bd hf
    refine e_getR hO29 fc_10_9 lk_RX10_68 dX10_round_79 hb38 ?_
    obtain ⟨hO39, hf⟩ := e_if hf
    refine e_getIN hO39 fc_6_6 lk_RX10_204 dX10_round_82 ?_
    refine e_aload_n 0 dX10_round_85 rfl rfl ?_
    obtain ⟨b40, hb41, hf⟩ := e_bd hf
    refine e_getR hO29 fc_10_7 lk_RX10_61 dX10_round_86 hb41 ?_
    obtain ⟨hO42, hf⟩ := e_if hf
    refine e_getIN hO42 fc_6_6 lk_RX10_204 dX10_round_89 ?_
    refine e_isub dX10_round_92 ?_
    refine e_i2l dX10_round_93 ?_
    obtain ⟨hO43, hf⟩ := e_if hf
    obtain ⟨r44, hr45, hf⟩ := e_bd hf
    refine e_callV (st := []) ml_RX10_269 k_X3_add (m_X3_add (d := d - 1) (by omega) hr45) hO43 ⟨by decide, rfl⟩ rfl rfl (Nat.le_of_ble_eq_true rfl) ⟨by omega, by decide⟩ ⟨Nat.le_refl _, Nat.le_refl _⟩ dX10_round_94 ?_
    refine e_iload_n 1 dX10_round_97 rfl rfl ?_
    exact e_iret rfl dX10_round_98 (qW hf)
  · intro h46 hf
    refine e_bipush (v := (-2)) dX10_round_105 (by decide) ?_
    exact e_iret rfl dX10_round_107 (qW hf)
def f_X10_corner_L35 (L : eL) : Nat → (eH → Nat → Option (eH × Int32)) → eH → Nat → Int32 → Int32 → Option (eH × Int32)
  | 0, _, _, _, _, _ => none
  | n + 1, k97, h, v0, v1, v2 =>
    if v1 ≤ v2 then
      k97 h v0
    else
      if isO L v0 10 = true then
      (gR h v0 9).bind fun b14 =>
      (f_X10_goOn L h v0 b14 0 (-1)).bind fun r16 =>
      if r16.2 = 0 then
        k97 r16.1 v0
      else
        (gR r16.1 v0 9).bind fun b18 =>
        if isO L b18 6 = true then
        if (gI r16.1 b18 1) < 0 then
          f_X10_corner_L35 L n k97 r16.1 v0 v1 (v2 + Int32.ofInt 1)
        else
          (gR r16.1 v0 9).bind fun b21 =>
          if isO L b21 6 = true then
          if 36 ≤ (gI r16.1 b21 1) then
            f_X10_corner_L35 L n k97 r16.1 v0 v1 (v2 + Int32.ofInt 1)
          else
            (gR r16.1 v0 12).bind fun b24 =>
            (gR r16.1 v0 9).bind fun b26 =>
            if isO L b26 6 = true then
            if inA L b24 0 (gI r16.1 b26 1) = true then
            (some (sI r16.1 b24 (gI r16.1 b26 1).toNatClampNeg ((gI r16.1 b24 (gI r16.1 b26 1).toNatClampNeg) + 1))).bind fun h30 =>
            f_X10_corner_L35 L n k97 h30 v0 v1 (v2 + Int32.ofInt 1)
            else none
            else none
          else none
        else none
      else none
set_option maxRecDepth 100000 in
set_option maxHeartbeats 4000000 in
theorem m_X10_corner_L35 {l : Launch} {d : Nat} {L : eL}  {r : eH × Int32} {k97 : eH → Nat → Option (eH × Int32)} (hd : 5 ≤ d) (hk97 : ∀ (h : eH) (v0 : Nat), k97 h v0 = some r → E l yX10_corner cX10_corner 4 (some .int) (e_rm d 0 0) 0 0 true L (Qx (some (.int r.2)) L r.1) L h 0 0 97 [(0, .ref v0)] []) : ∀ (n : Nat) (h : eH) (v0 : Nat) (v1 : Int32) (v2 : Int32), f_X10_corner_L35 L n k97 h v0 v1 v2 = some r → E l yX10_corner cX10_corner 4 (some .int) (e_rm d 0 0) 0 0 true L (Qx (some (.int r.2)) L r.1) L h 0 0 35 [(0, .ref v0), (1, .int v1), (2, .int v2)] [] := by
  intro n
  induction n with
  | zero => intro h v0 v1 v2 hf; exact absurd hf (by simp [f_X10_corner_L35])
  | succ n ih =>
    intro h v0 v1 v2 hf
    unfold f_X10_corner_L35 at hf
    refine e_iload_n 2 dX10_corner_35 rfl rfl ?_
    refine e_iload_n 1 dX10_corner_36 rfl rfl ?_
    refine e_icmp_ge (t := 97) dX10_corner_37 (by decide) (fun c => ?_) (fun c => ?_)
    · replace hf := e_it c hf
      refine e_sub [0] rfl ?_
      exact hk97 _ _ hf
    · replace hf := e_ie c hf
      refine e_aload_n 0 dX10_corner_40 rfl rfl ?_
      refine e_aload_n 0 dX10_corner_41 rfl rfl ?_
      obtain ⟨hO13, hf⟩ := e_if hf
      obtain ⟨b14, hb15, hf⟩ := e_bd hf
      refine e_getR hO13 fc_10_9 lk_RX10_68 dX10_corner_42 hb15 ?_
      refine e_iconst (v := 0) dX10_corner_45 (by decide) ?_
      refine e_iconst (v := (-1)) dX10_corner_46 (by decide) ?_
      obtain ⟨r16, hr17, hf⟩ := e_bd hf
      refine e_callV (st := []) ml_RX10_278 k_X10_goOn (m_X10_goOn (d := d - 1) (by omega) hr17) hO13 ⟨by decide, rfl⟩ rfl rfl (Nat.le_of_ble_eq_true rfl) ⟨by omega, by decide⟩ ⟨Nat.le_refl _, Nat.le_refl _⟩ dX10_corner_47 ?_
      refine e_if_eq (t := 97) dX10_corner_50 (by decide) (fun c => ?_) (fun c => ?_)
      · replace hf := e_it c hf
        refine e_sub [0] rfl ?_
        exact hk97 _ _ hf
      · replace hf := e_ie c hf
        refine e_aload_n 0 dX10_corner_53 rfl rfl ?_
        obtain ⟨b18, hb19, hf⟩ := e_bd hf
        refine e_getR hO13 fc_10_9 lk_RX10_68 dX10_corner_54 hb19 ?_
        obtain ⟨hO20, hf⟩ := e_if hf
        refine e_getIN hO20 fc_6_1 lk_RX10_183 dX10_corner_57 ?_
        refine e_if_lt (t := 91) dX10_corner_60 (by decide) (fun c => ?_) (fun c => ?_)
        · replace hf := e_it c hf
          refine e_iinc (lv' := [(2, .int _), (0, .ref _), (1, .int _)]) 2 dX10_corner_91 rfl (by decide) rfl ?_
          refine e_goto (t := 35) dX10_corner_94 (by decide) ?_
          refine e_sub [1, 2, 0] rfl ?_
          exact ih _ _ _ _ hf
        · replace hf := e_ie c hf
          refine e_aload_n 0 dX10_corner_63 rfl rfl ?_
          obtain ⟨b21, hb22, hf⟩ := e_bd hf
          refine e_getR hO13 fc_10_9 lk_RX10_68 dX10_corner_64 hb22 ?_
          obtain ⟨hO23, hf⟩ := e_if hf
          refine e_getIN hO23 fc_6_1 lk_RX10_183 dX10_corner_67 ?_
          refine e_bipush (v := 36) dX10_corner_70 (by decide) ?_
          refine e_icmp_ge (t := 91) dX10_corner_72 (by decide) (fun c => ?_) (fun c => ?_)
          · replace hf := e_it c hf
            refine e_iinc (lv' := [(2, .int _), (0, .ref _), (1, .int _)]) 2 dX10_corner_91 rfl (by decide) rfl ?_
            refine e_goto (t := 35) dX10_corner_94 (by decide) ?_
            refine e_sub [1, 2, 0] rfl ?_
            exact ih _ _ _ _ hf
          · replace hf := e_ie c hf
            refine e_aload_n 0 dX10_corner_75 rfl rfl ?_
            obtain ⟨b24, hb25, hf⟩ := e_bd hf
            refine e_getR hO13 fc_10_12 lk_RX10_79 dX10_corner_76 hb25 ?_
            refine e_aload_n 0 dX10_corner_79 rfl rfl ?_
            obtain ⟨b26, hb27, hf⟩ := e_bd hf
            refine e_getR hO13 fc_10_9 lk_RX10_68 dX10_corner_80 hb27 ?_
            obtain ⟨hO28, hf⟩ := e_if hf
            refine e_getIN hO28 fc_6_1 lk_RX10_183 dX10_corner_83 ?_
            refine e_dup2 dX10_corner_86 ?_
            obtain ⟨hI29, hf⟩ := e_if hf
            refine e_iald hI29 dX10_corner_87 ?_
            refine e_iconst (v := 1) dX10_corner_88 (by decide) ?_
            refine e_iadd dX10_corner_89 ?_
            refine e_iast hI29 dX10_corner_90 ?_
            obtain ⟨h30, hh31, hf⟩ := e_bd hf
            refine e_hn hh31 ?_
            refine e_iinc (lv' := [(2, .int _), (0, .ref _), (1, .int _)]) 2 dX10_corner_91 rfl (by decide) rfl ?_
            refine e_goto (t := 35) dX10_corner_94 (by decide) ?_
            refine e_sub [1, 2, 0] rfl ?_
            exact ih _ _ _ _ hf
def f_X10_corner_L101 (L : eL) : Nat → (eH → Nat → Int32 → Option (eH × Int32)) → eH → Nat → Int32 → Int32 → Option (eH × Int32)
  | 0, _, _, _, _, _ => none
  | n + 1, k130, h, v0, v2, v3 =>
    if 36 ≤ v3 then
      k130 h v0 v2
    else
      if isO L v0 10 = true then
      (gR h v0 12).bind fun b35 =>
      if inA L b35 0 v3 = true then
      (gR h v0 12).bind fun b38 =>
      if inA L b38 0 v2 = true then
      if (gI h b35 v3.toNatClampNeg) ≤ (gI h b38 v2.toNatClampNeg) then
        f_X10_corner_L101 L n k130 h v0 v2 (v3 + Int32.ofInt 1)
      else
        f_X10_corner_L101 L n k130 h v0 v3 (v3 + Int32.ofInt 1)
      else none
      else none
      else none
set_option maxRecDepth 100000 in
set_option maxHeartbeats 4000000 in
theorem m_X10_corner_L101 {l : Launch} {d : Nat} {L : eL}  {r : eH × Int32} {k130 : eH → Nat → Int32 → Option (eH × Int32)} (hd : 5 ≤ d) (hk130 : ∀ (h : eH) (v0 : Nat) (v2 : Int32), k130 h v0 v2 = some r → E l yX10_corner cX10_corner 4 (some .int) (e_rm d 0 0) 0 0 true L (Qx (some (.int r.2)) L r.1) L h 0 0 130 [(0, .ref v0), (2, .int v2)] []) : ∀ (n : Nat) (h : eH) (v0 : Nat) (v2 : Int32) (v3 : Int32), f_X10_corner_L101 L n k130 h v0 v2 v3 = some r → E l yX10_corner cX10_corner 4 (some .int) (e_rm d 0 0) 0 0 true L (Qx (some (.int r.2)) L r.1) L h 0 0 101 [(0, .ref v0), (2, .int v2), (3, .int v3)] [] := by
  intro n
  induction n with
  | zero => intro h v0 v2 v3 hf; exact absurd hf (by simp [f_X10_corner_L101])
  | succ n ih =>
    intro h v0 v2 v3 hf
    unfold f_X10_corner_L101 at hf
    refine e_iload_n 2 dX10_corner_101 rfl rfl ?_
    refine e_bipush (v := 36) dX10_corner_102 (by decide) ?_
    refine e_icmp_ge (t := 130) dX10_corner_104 (by decide) (fun c => ?_) (fun c => ?_)
    · replace hf := e_it c hf
      refine e_sub [0, 1] rfl ?_
      exact hk130 _ _ _ hf
    · replace hf := e_ie c hf
      refine e_aload_n 0 dX10_corner_107 rfl rfl ?_
      obtain ⟨hO34, hf⟩ := e_if hf
      obtain ⟨b35, hb36, hf⟩ := e_bd hf
      refine e_getR hO34 fc_10_12 lk_RX10_79 dX10_corner_108 hb36 ?_
      refine e_iload_n 2 dX10_corner_111 rfl rfl ?_
      obtain ⟨hI37, hf⟩ := e_if hf
      refine e_iald hI37 dX10_corner_112 ?_
      refine e_aload_n 0 dX10_corner_113 rfl rfl ?_
      obtain ⟨b38, hb39, hf⟩ := e_bd hf
      refine e_getR hO34 fc_10_12 lk_RX10_79 dX10_corner_114 hb39 ?_
      refine e_iload_n 1 dX10_corner_117 rfl rfl ?_
      obtain ⟨hI40, hf⟩ := e_if hf
      refine e_iald hI40 dX10_corner_118 ?_
      refine e_icmp_le (t := 124) dX10_corner_119 (by decide) (fun c => ?_) (fun c => ?_)
      · replace hf := e_it c hf
        refine e_iinc (lv' := [(3, .int _), (0, .ref _), (2, .int _)]) 2 dX10_corner_124 rfl (by decide) rfl ?_
        refine e_goto (t := 101) dX10_corner_127 (by decide) ?_
        refine e_sub [1, 2, 0] rfl ?_
        exact ih _ _ _ _ hf
      · replace hf := e_ie c hf
        refine e_iload_n 2 dX10_corner_122 rfl rfl ?_
        refine e_istore_n (lv' := [(2, .int _), (0, .ref _), (3, .int _)]) dX10_corner_123 rfl (by decide) rfl ?_
        refine e_iinc (lv' := [(3, .int _), (2, .int _), (0, .ref _)]) 2 dX10_corner_124 rfl (by decide) rfl ?_
        refine e_goto (t := 101) dX10_corner_127 (by decide) ?_
        refine e_sub [2, 1, 0] rfl ?_
        exact ih _ _ _ _ hf
def f_X10_corner (L : eL) (h : eH) (v0 : Nat) (v1 : Int32) : Option (eH × Int32) :=
  if v1 < 1 then
    some (h, (-1))
  else
    if v1 ≤ 999 then
      if isO L v0 10 = true then
      (gR h v0 12).bind fun b2 =>
      (f_J7_fill_53178 L h b2 0).bind fun r4 =>
      (gR r4 v0 9).bind fun b6 =>
      (gR r4 v0 7).bind fun b8 =>
      if isO L b6 6 = true then
      (f_X6_copyFrom L r4 b6 b8).bind fun r11 =>
      f_X10_corner_L35 L e_fu (fun (h32 : eH) (w0_33 : Nat) =>
        f_X10_corner_L101 L e_fu (fun (h41 : eH) (w0_42 : Nat) (w2_43 : Int32) =>
          if isO L w0_42 10 = true then
          (gR h41 w0_42 1).bind fun b45 =>
          if isO L b45 3 = true then
          (f_X3_begin L h41 b45).bind fun r48 =>
          (gR r48 w0_42 1).bind fun b50 =>
          (gR r48 w0_42 12).bind fun b52 =>
          if inA L b52 0 w2_43 = true then
          if isO L b50 3 = true then
          (f_X3_add L r48 b50 ((gI r48 b52 w2_43.toNatClampNeg).toInt64)).bind fun r56 =>
          some (r56, w2_43)
          else none
          else none
          else none
          else none) h32 w0_33 0 1) r11 v0 v1 0
      else none
      else none
    else
      some (h, (-1))
set_option maxRecDepth 100000 in
set_option maxHeartbeats 4000000 in
theorem m_X10_corner {l : Launch} {d : Nat} {L : eL} {h : eH} {v0 : Nat} {v1 : Int32} {r : eH × Int32} (hd : 5 ≤ d) (hf : f_X10_corner L h v0 v1 = some r) : e_Met l yX10_corner cX10_corner 4 (some .int) d 0 0 true L h [.ref v0, .int v1] (Qx (some (.int r.2)) L r.1) := by
  refine e_metl (by decide) (Nat.le_of_ble_eq_true rfl) (lv := [(0, .ref v0), (1, .int v1)]) rfl ?_
  unfold f_X10_corner at hf
  refine e_iload_n 1 dX10_corner_0 rfl rfl ?_
  refine e_iconst (v := 1) dX10_corner_1 (by decide) ?_
  refine e_icmp_lt (t := 12) dX10_corner_2 (by decide) (fun c => ?_) (fun c => ?_)
  · replace hf := e_it c hf
    refine e_iconst (v := (-1)) dX10_corner_12 (by decide) ?_
    exact e_iret rfl dX10_corner_13 (qW hf)
  · replace hf := e_ie c hf
    refine e_iload_n 1 dX10_corner_5 rfl rfl ?_
    refine e_sipush (v := 999) dX10_corner_6 (by decide) ?_
    refine e_icmp_le (t := 14) dX10_corner_9 (by decide) (fun c => ?_) (fun c => ?_)
    · replace hf := e_it c hf
      refine e_aload_n 0 dX10_corner_14 rfl rfl ?_
      obtain ⟨hO1, hf⟩ := e_if hf
      obtain ⟨b2, hb3, hf⟩ := e_bd hf
      refine e_getR hO1 fc_10_12 lk_RX10_79 dX10_corner_15 hb3 ?_
      refine e_iconst (v := 0) dX10_corner_18 (by decide) ?_
      obtain ⟨r4, hr5, hf⟩ := e_bd hf
      refine e_callS (st := []) ml_RX10_321 k_J7_fill_53178 (m_J7_fill_53178 (d := d - 1) (by omega) hr5) rfl rfl (Nat.le_of_ble_eq_true rfl) ⟨by omega, by decide⟩ ⟨Nat.le_refl _, Nat.le_refl _⟩ dX10_corner_19 ?_
      refine e_aload_n 0 dX10_corner_22 rfl rfl ?_
      obtain ⟨b6, hb7, hf⟩ := e_bd hf
      refine e_getR hO1 fc_10_9 lk_RX10_68 dX10_corner_23 hb7 ?_
      refine e_aload_n 0 dX10_corner_26 rfl rfl ?_
      obtain ⟨b8, hb9, hf⟩ := e_bd hf
      refine e_getR hO1 fc_10_7 lk_RX10_61 dX10_corner_27 hb9 ?_
      obtain ⟨hO10, hf⟩ := e_if hf
      obtain ⟨r11, hr12, hf⟩ := e_bd hf
      refine e_callV (st := []) ml_RX10_230 k_X6_copyFrom (m_X6_copyFrom (d := d - 1) (by omega) hr12) hO10 ⟨by decide, rfl⟩ rfl rfl (Nat.le_of_ble_eq_true rfl) ⟨by omega, by decide⟩ ⟨Nat.le_refl _, Nat.le_refl _⟩ dX10_corner_30 ?_
      refine e_iconst (v := 0) dX10_corner_33 (by decide) ?_
      refine e_istore_n (lv' := [(2, .int _), (0, .ref _), (1, .int _)]) dX10_corner_34 rfl (by decide) rfl ?_
      refine e_sub [1, 2, 0] rfl ?_
      refine m_X10_corner_L35 hd ?_ e_fu _ _ _ _ hf
      · intro h32 w0_33 hf
        refine e_iconst (v := 0) dX10_corner_97 (by decide) ?_
        refine e_istore_n (lv' := [(2, .int _), (0, .ref _)]) dX10_corner_98 rfl (by decide) rfl ?_
        refine e_iconst (v := 1) dX10_corner_99 (by decide) ?_
        refine e_istore_n (lv' := [(3, .int _), (2, .int _), (0, .ref _)]) dX10_corner_100 rfl (by decide) rfl ?_
        refine e_sub [2, 1, 0] rfl ?_
        refine m_X10_corner_L101 hd ?_ e_fu _ _ _ _ hf
        · intro h41 w0_42 w2_43 hf
          refine e_aload_n 0 dX10_corner_130 rfl rfl ?_
          obtain ⟨hO44, hf⟩ := e_if hf
          obtain ⟨b45, hb46, hf⟩ := e_bd hf
          refine e_getR hO44 fc_10_1 lk_RX10_19 dX10_corner_131 hb46 ?_
          obtain ⟨hO47, hf⟩ := e_if hf
          obtain ⟨r48, hr49, hf⟩ := e_bd hf
          refine e_callV (st := []) ml_RX10_267 k_X3_begin (m_X3_begin (d := d - 1) (by omega) hr49) hO47 ⟨by decide, rfl⟩ rfl rfl (Nat.le_of_ble_eq_true rfl) ⟨by omega, by decide⟩ ⟨Nat.le_refl _, Nat.le_refl _⟩ dX10_corner_134 ?_
          refine e_aload_n 0 dX10_corner_137 rfl rfl ?_
          obtain ⟨b50, hb51, hf⟩ := e_bd hf
          refine e_getR hO44 fc_10_1 lk_RX10_19 dX10_corner_138 hb51 ?_
          refine e_aload_n 0 dX10_corner_141 rfl rfl ?_
          obtain ⟨b52, hb53, hf⟩ := e_bd hf
          refine e_getR hO44 fc_10_12 lk_RX10_79 dX10_corner_142 hb53 ?_
          refine e_iload_n 1 dX10_corner_145 rfl rfl ?_
          obtain ⟨hI54, hf⟩ := e_if hf
          refine e_iald hI54 dX10_corner_146 ?_
          refine e_i2l dX10_corner_147 ?_
          obtain ⟨hO55, hf⟩ := e_if hf
          obtain ⟨r56, hr57, hf⟩ := e_bd hf
          refine e_callV (st := []) ml_RX10_269 k_X3_add (m_X3_add (d := d - 1) (by omega) hr57) hO55 ⟨by decide, rfl⟩ rfl rfl (Nat.le_of_ble_eq_true rfl) ⟨by omega, by decide⟩ ⟨Nat.le_refl _, Nat.le_refl _⟩ dX10_corner_148 ?_
          refine e_iload_n 1 dX10_corner_151 rfl rfl ?_
          exact e_iret rfl dX10_corner_152 (qW hf)
    · replace hf := e_ie c hf
      refine e_iconst (v := (-1)) dX10_corner_12 (by decide) ?_
      exact e_iret rfl dX10_corner_13 (qW hf)
def f_J7_fill_d0a16_L6 (L : eL) : Nat → (eH → Option eH) → eH → Nat → Int64 → Int32 → Int32 → Option eH
  | 0, _, _, _, _, _, _ => none
  | n + 1, k22, h, v0, v1, v3, v4 =>
    if v4 ≤ v3 then
      k22 h
    else
      if inA L v0 1 v3 = true then
      f_J7_fill_d0a16_L6 L n k22 (sL h v0 v3.toNatClampNeg v1) v0 v1 (v3 + Int32.ofInt 1) v4
      else none
set_option maxRecDepth 100000 in
set_option maxHeartbeats 4000000 in
theorem m_J7_fill_d0a16_L6 {l : Launch} {d : Nat} {L : eL}  {r : eH} {k22 : eH → Option eH} (hd : 1 ≤ d) (hk22 : ∀ (h : eH), k22 h = some r → E l yJ7_fill_d0a16 cJ7_fill_d0a16 5 none (e_rm d 0 0) 0 0 true L (Qx none L r) L h 0 0 22 [] []) : ∀ (n : Nat) (h : eH) (v0 : Nat) (v1 : Int64) (v3 : Int32) (v4 : Int32), f_J7_fill_d0a16_L6 L n k22 h v0 v1 v3 v4 = some r → E l yJ7_fill_d0a16 cJ7_fill_d0a16 5 none (e_rm d 0 0) 0 0 true L (Qx none L r) L h 0 0 6 [(0, .ref v0), (1, .long v1), (3, .int v3), (4, .int v4)] [] := by
  intro n
  induction n with
  | zero => intro h v0 v1 v3 v4 hf; exact absurd hf (by simp [f_J7_fill_d0a16_L6])
  | succ n ih =>
    intro h v0 v1 v3 v4 hf
    unfold f_J7_fill_d0a16_L6 at hf
    refine e_iload_n 2 dJ7_fill_d0a16_6 rfl rfl ?_
    refine e_iload 3 dJ7_fill_d0a16_7 rfl ?_
    refine e_icmp_ge (t := 22) dJ7_fill_d0a16_9 (by decide) (fun c => ?_) (fun c => ?_)
    · replace hf := e_it c hf
      refine e_sub [] rfl ?_
      exact hk22 _ hf
    · replace hf := e_ie c hf
      refine e_aload_n 0 dJ7_fill_d0a16_12 rfl rfl ?_
      refine e_iload_n 2 dJ7_fill_d0a16_13 rfl rfl ?_
      refine e_lload_n 1 dJ7_fill_d0a16_14 rfl rfl ?_
      obtain ⟨hI2, hf⟩ := e_if hf
      refine e_last hI2 dJ7_fill_d0a16_15 ?_
      refine e_iinc (lv' := [(3, .int _), (0, .ref _), (1, .long _), (4, .int _)]) 2 dJ7_fill_d0a16_16 rfl (by decide) rfl ?_
      refine e_goto (t := 6) dJ7_fill_d0a16_19 (by decide) ?_
      refine e_sub [1, 2, 0, 3] rfl ?_
      exact ih _ _ _ _ _ hf
def f_J7_fill_d0a16 (L : eL) (h : eH) (v0 : Nat) (v1 : Int64) : Option eH :=
  if isArr L v0 = true then
  f_J7_fill_d0a16_L6 L e_fu (fun (h3 : eH) =>
    some h3) h v0 v1 0 (alen L v0)
  else none
set_option maxRecDepth 100000 in
set_option maxHeartbeats 4000000 in
theorem m_J7_fill_d0a16 {l : Launch} {d : Nat} {L : eL} {h : eH} {v0 : Nat} {v1 : Int64} {r : eH} (hd : 1 ≤ d) (hf : f_J7_fill_d0a16 L h v0 v1 = some r) : e_Met l yJ7_fill_d0a16 cJ7_fill_d0a16 5 none d 0 0 true L h [.ref v0, .long v1] (Qx none L r) := by
  refine e_metl (by decide) (Nat.le_of_ble_eq_true rfl) (lv := [(0, .ref v0), (1, .long v1)]) rfl ?_
  unfold f_J7_fill_d0a16 at hf
  refine e_iconst (v := 0) dJ7_fill_d0a16_0 (by decide) ?_
  refine e_istore_n (lv' := [(3, .int _), (0, .ref _), (1, .long _)]) dJ7_fill_d0a16_1 rfl (by decide) rfl ?_
  refine e_aload_n 1 dJ7_fill_d0a16_2 rfl rfl ?_
  obtain ⟨hA1, hf⟩ := e_if hf
  refine e_len hA1 dJ7_fill_d0a16_3 ?_
  refine e_istore (lv' := [(4, .int _), (3, .int _), (0, .ref _), (1, .long _)]) dJ7_fill_d0a16_4 (by decide) rfl ?_
  refine e_sub [2, 3, 1, 0] rfl ?_
  refine m_J7_fill_d0a16_L6 hd ?_ e_fu _ _ _ _ _ hf
  · intro h3 hf
    exact e_vret rfl dJ7_fill_d0a16_22 (qV hf)
def f_X9_measure_L32 (L : eL) : Nat → (eH → Option eH) → eH → Nat → Nat → Int64 → Int32 → Option eH
  | 0, _, _, _, _, _, _ => none
  | n + 1, k139, h, v0, v1, v2, v5 =>
    if 74 ≤ (v5 + 2) then
      k139 h
    else
      if isO L v0 9 = true then
      (gR h v0 0).bind fun b12 =>
      if inA L b12 1 v5 = true then
      if (lg_cmp (gL h b12 v5.toNatClampNeg) 0) = 0 then
        f_X9_measure_L32 L n k139 h v0 v1 v2 (v5 + Int32.ofInt 1)
      else
        (gR h v0 0).bind fun b15 =>
        if inA L b15 1 v5 = true then
        if isO L v1 2 = true then
        (f_X2_around L h v1 (gL h b15 v5.toNatClampNeg)).bind fun r19 =>
        (some (sL h v0 1 ((gL h v0 1) ||| ((r19 &&& v2) &&& ((gL h v0 1) ^^^ (-1)))))).bind fun h21 =>
        (gR h21 v0 0).bind fun b23 =>
        if inA L b23 1 (v5 + 1) = true then
        (some (sL h21 b23 (v5 + 1).toNatClampNeg ((gL h21 b23 (v5 + 1).toNatClampNeg) ||| (((r19 &&& v2) &&& ((gL h v0 1) ^^^ (-1))) &&& ((gL h21 v1 5) ^^^ (-1)))))).bind fun h26 =>
        (gR h26 v0 0).bind fun b28 =>
        if inA L b28 1 (v5 + 2) = true then
        (some (sL h26 b28 (v5 + 2).toNatClampNeg ((gL h26 b28 (v5 + 2).toNatClampNeg) ||| (((r19 &&& v2) &&& ((gL h v0 1) ^^^ (-1))) &&& (gL h26 v1 5))))).bind fun h31 =>
        f_X9_measure_L32 L n k139 h31 v0 v1 v2 (v5 + Int32.ofInt 1)
        else none
        else none
        else none
        else none
      else none
      else none
set_option maxRecDepth 100000 in
set_option maxHeartbeats 4000000 in
theorem m_X9_measure_L32 {l : Launch} {d : Nat} {L : eL}  {r : eH} {k139 : eH → Option eH} (hd : 3 ≤ d) (hk139 : ∀ (h : eH), k139 h = some r → E l yX9_measure cX9_measure 8 none (e_rm d 0 0) 0 0 true L (Qx none L r) L h 0 0 139 [] []) : ∀ (n : Nat) (h : eH) (v0 : Nat) (v1 : Nat) (v2 : Int64) (v5 : Int32), f_X9_measure_L32 L n k139 h v0 v1 v2 v5 = some r → E l yX9_measure cX9_measure 8 none (e_rm d 0 0) 0 0 true L (Qx none L r) L h 0 0 32 [(0, .ref v0), (1, .ref v1), (2, .long v2), (5, .int v5)] [] := by
  intro n
  induction n with
  | zero => intro h v0 v1 v2 v5 hf; exact absurd hf (by simp [f_X9_measure_L32])
  | succ n ih =>
    intro h v0 v1 v2 v5 hf
    unfold f_X9_measure_L32 at hf
    refine e_iload 3 dX9_measure_32 rfl ?_
    refine e_iconst (v := 2) dX9_measure_34 (by decide) ?_
    refine e_iadd dX9_measure_35 ?_
    refine e_bipush (v := 74) dX9_measure_36 (by decide) ?_
    refine e_icmp_ge (t := 139) dX9_measure_38 (by decide) (fun c => ?_) (fun c => ?_)
    · replace hf := e_it c hf
      refine e_sub [] rfl ?_
      exact hk139 _ hf
    · replace hf := e_ie c hf
      refine e_aload_n 0 dX9_measure_41 rfl rfl ?_
      obtain ⟨hO11, hf⟩ := e_if hf
      obtain ⟨b12, hb13, hf⟩ := e_bd hf
      refine e_getR hO11 fc_9_0 lk_RX9_11 dX9_measure_42 hb13 ?_
      refine e_iload 3 dX9_measure_45 rfl ?_
      obtain ⟨hI14, hf⟩ := e_if hf
      refine e_lald hI14 dX9_measure_47 ?_
      refine e_lconst (v := 0) dX9_measure_48 (by decide) ?_
      refine e_lcmp dX9_measure_49 ?_
      refine e_if_ne (t := 56) dX9_measure_50 (by decide) (fun c => ?_) (fun c => ?_)
      · replace hf := e_ie c hf
        refine e_aload_n 1 dX9_measure_56 rfl rfl ?_
        refine e_aload_n 0 dX9_measure_57 rfl rfl ?_
        obtain ⟨b15, hb16, hf⟩ := e_bd hf
        refine e_getR hO11 fc_9_0 lk_RX9_11 dX9_measure_58 hb16 ?_
        refine e_iload 3 dX9_measure_61 rfl ?_
        obtain ⟨hI17, hf⟩ := e_if hf
        refine e_lald hI17 dX9_measure_63 ?_
        obtain ⟨hO18, hf⟩ := e_if hf
        obtain ⟨r19, hr20, hf⟩ := e_bd hf
        refine e_callV (st := []) ml_RX9_29 k_X2_around (m_X2_around (d := d - 1) (by omega) hr20) hO18 ⟨by decide, rfl⟩ rfl rfl (Nat.le_of_ble_eq_true rfl) ⟨by omega, by decide⟩ ⟨Nat.le_refl _, Nat.le_refl _⟩ dX9_measure_64 ?_
        refine e_lload_n 2 dX9_measure_67 rfl rfl ?_
        refine e_land dX9_measure_68 ?_
        refine e_aload_n 0 dX9_measure_69 rfl rfl ?_
        refine e_getL hO11 fc_9_1 lk_RX9_15 dX9_measure_70 ?_
        refine e_ldc2 kc_RX9_35 dX9_measure_73 ?_
        refine e_lxor dX9_measure_76 ?_
        refine e_land dX9_measure_77 ?_
        refine e_lstore (lv' := [(6, .long _), (0, .ref _), (1, .ref _), (2, .long _), (5, .int _)]) dX9_measure_78 (by decide) rfl ?_
        refine e_aload_n 1 dX9_measure_80 rfl rfl ?_
        refine e_dupR dX9_measure_81 ?_
        refine e_getL hO11 fc_9_1 lk_RX9_15 dX9_measure_82 ?_
        refine e_lload 0 dX9_measure_85 rfl ?_
        refine e_lor dX9_measure_87 ?_
        refine e_putL hO11 fc_9_1 rfl lk_RX9_15 dX9_measure_88 ?_
        obtain ⟨h21, hh22, hf⟩ := e_bd hf
        refine e_hn hh22 ?_
        refine e_aload_n 1 dX9_measure_91 rfl rfl ?_
        obtain ⟨b23, hb24, hf⟩ := e_bd hf
        refine e_getR hO11 fc_9_0 lk_RX9_11 dX9_measure_92 hb24 ?_
        refine e_iload 4 dX9_measure_95 rfl ?_
        refine e_iconst (v := 1) dX9_measure_97 (by decide) ?_
        refine e_iadd dX9_measure_98 ?_
        refine e_dup2 dX9_measure_99 ?_
        obtain ⟨hI25, hf⟩ := e_if hf
        refine e_lald hI25 dX9_measure_100 ?_
        refine e_lload 0 dX9_measure_101 rfl ?_
        refine e_aload_n 2 dX9_measure_103 rfl rfl ?_
        refine e_getLN hO18 fc_2_5 lk_RX9_37 dX9_measure_104 ?_
        refine e_ldc2 kc_RX9_35 dX9_measure_107 ?_
        refine e_lxor dX9_measure_110 ?_
        refine e_land dX9_measure_111 ?_
        refine e_lor dX9_measure_112 ?_
        refine e_last hI25 dX9_measure_113 ?_
        obtain ⟨h26, hh27, hf⟩ := e_bd hf
        refine e_hn hh27 ?_
        refine e_aload_n 1 dX9_measure_114 rfl rfl ?_
        obtain ⟨b28, hb29, hf⟩ := e_bd hf
        refine e_getR hO11 fc_9_0 lk_RX9_11 dX9_measure_115 hb29 ?_
        refine e_iload 4 dX9_measure_118 rfl ?_
        refine e_iconst (v := 2) dX9_measure_120 (by decide) ?_
        refine e_iadd dX9_measure_121 ?_
        refine e_dup2 dX9_measure_122 ?_
        obtain ⟨hI30, hf⟩ := e_if hf
        refine e_lald hI30 dX9_measure_123 ?_
        refine e_lload 0 dX9_measure_124 rfl ?_
        refine e_aload_n 2 dX9_measure_126 rfl rfl ?_
        refine e_getLN hO18 fc_2_5 lk_RX9_37 dX9_measure_127 ?_
        refine e_land dX9_measure_130 ?_
        refine e_lor dX9_measure_131 ?_
        refine e_last hI30 dX9_measure_132 ?_
        obtain ⟨h31, hh32, hf⟩ := e_bd hf
        refine e_hn hh32 ?_
        refine e_iinc (lv' := [(5, .int _), (6, .long _), (0, .ref _), (1, .ref _), (2, .long _)]) 4 dX9_measure_133 rfl (by decide) rfl ?_
        refine e_goto (t := 32) dX9_measure_136 (by decide) ?_
        refine e_sub [2, 3, 4, 0] rfl ?_
        exact ih _ _ _ _ _ hf
      · replace hf := e_it c hf
        refine e_goto (t := 133) dX9_measure_53 (by decide) ?_
        refine e_iinc (lv' := [(5, .int _), (0, .ref _), (1, .ref _), (2, .long _)]) 3 dX9_measure_133 rfl (by decide) rfl ?_
        refine e_goto (t := 32) dX9_measure_136 (by decide) ?_
        refine e_sub [1, 2, 3, 0] rfl ?_
        exact ih _ _ _ _ _ hf
def f_X9_measure (L : eL) (h : eH) (v0 : Nat) (v1 : Nat) (v2 : Int64) (v4 : Int32) : Option eH :=
  if isO L v0 9 = true then
  (gR h v0 0).bind fun b2 =>
  (f_J7_fill_d0a16 L h b2 0).bind fun r4 =>
  (gR (sL r4 v0 1 ((f_X10_bit v4) &&& v2)) v0 0).bind fun b6 =>
  if inA L b6 1 0 = true then
  (some (sL (sL r4 v0 1 ((f_X10_bit v4) &&& v2)) b6 (0 : Int32).toNatClampNeg (gL (sL r4 v0 1 ((f_X10_bit v4) &&& v2)) v0 1))).bind fun h9 =>
  f_X9_measure_L32 L e_fu (fun (h33 : eH) =>
    some h33) h9 v0 v1 v2 0
  else none
  else none
set_option maxRecDepth 100000 in
set_option maxHeartbeats 4000000 in
theorem m_X9_measure {l : Launch} {d : Nat} {L : eL} {h : eH} {v0 : Nat} {v1 : Nat} {v2 : Int64} {v4 : Int32} {r : eH} (hd : 3 ≤ d) (hf : f_X9_measure L h v0 v1 v2 v4 = some r) : e_Met l yX9_measure cX9_measure 8 none d 0 0 true L h [.ref v0, .ref v1, .long v2, .int v4] (Qx none L r) := by
  refine e_metl (by decide) (Nat.le_of_ble_eq_true rfl) (lv := [(0, .ref v0), (1, .ref v1), (2, .long v2), (4, .int v4)]) rfl ?_
  unfold f_X9_measure at hf
  refine e_aload_n 0 dX9_measure_0 rfl rfl ?_
  obtain ⟨hO1, hf⟩ := e_if hf
  obtain ⟨b2, hb3, hf⟩ := e_bd hf
  refine e_getR hO1 fc_9_0 lk_RX9_11 dX9_measure_1 hb3 ?_
  refine e_lconst (v := 0) dX9_measure_4 (by decide) ?_
  obtain ⟨r4, hr5, hf⟩ := e_bd hf
  refine e_callS (st := []) ml_RX9_19 k_J7_fill_d0a16 (m_J7_fill_d0a16 (d := d - 1) (by omega) hr5) rfl rfl (Nat.le_of_ble_eq_true rfl) ⟨by omega, by decide⟩ ⟨Nat.le_refl _, Nat.le_refl _⟩ dX9_measure_5 ?_
  refine e_aload_n 0 dX9_measure_8 rfl rfl ?_
  refine e_iload 3 dX9_measure_9 rfl ?_
  refine e_callSN (st := [.ref _]) ml_RX9_25 k_X10_bit (m_X10_bit (d := d - 1) (by omega) rfl) rfl rfl (Nat.le_of_ble_eq_true rfl) ⟨by omega, by decide⟩ ⟨Nat.le_refl _, Nat.le_refl _⟩ dX9_measure_11 ?_
  refine e_lload_n 2 dX9_measure_14 rfl rfl ?_
  refine e_land dX9_measure_15 ?_
  refine e_putL hO1 fc_9_1 rfl lk_RX9_15 dX9_measure_16 ?_
  refine e_aload_n 0 dX9_measure_19 rfl rfl ?_
  obtain ⟨b6, hb7, hf⟩ := e_bd hf
  refine e_getR hO1 fc_9_0 lk_RX9_11 dX9_measure_20 hb7 ?_
  refine e_iconst (v := 0) dX9_measure_23 (by decide) ?_
  refine e_aload_n 0 dX9_measure_24 rfl rfl ?_
  refine e_getL hO1 fc_9_1 lk_RX9_15 dX9_measure_25 ?_
  obtain ⟨hI8, hf⟩ := e_if hf
  refine e_last hI8 dX9_measure_28 ?_
  obtain ⟨h9, hh10, hf⟩ := e_bd hf
  refine e_hn hh10 ?_
  refine e_iconst (v := 0) dX9_measure_29 (by decide) ?_
  refine e_istore (lv' := [(5, .int _), (0, .ref _), (1, .ref _), (2, .long _), (4, .int _)]) dX9_measure_30 (by decide) rfl ?_
  refine e_sub [1, 2, 3, 0] rfl ?_
  refine m_X9_measure_L32 hd ?_ e_fu _ _ _ _ _ hf
  · intro h33 hf
    exact e_vret rfl dX9_measure_139 (qV hf)
def f_X9_costFrom_L2 (L : eL) (h : eH) : Nat → (Int32 → Option Int32) → (Option Int32) → Nat → Int32 → Int32 → Option Int32
  | 0, _, _, _, _, _ => none
  | n + 1, k32, k40, v0, v1, v2 =>
    if 74 ≤ v2 then
      k40
    else
      if isO L v0 9 = true then
      if (f_X10_holds (gL h v0 1) v1) = 0 then
        k40
      else
        (gR h v0 0).bind fun b2 =>
        if inA L b2 1 v2 = true then
        if (f_X10_holds (gL h b2 v2.toNatClampNeg) v1) = 0 then
          f_X9_costFrom_L2 L h n k32 k40 v0 v1 (v2 + Int32.ofInt 1)
        else
          k32 v2
        else none
      else none
set_option maxRecDepth 100000 in
set_option maxHeartbeats 4000000 in
theorem m_X9_costFrom_L2 {l : Launch} {d : Nat} {L : eL} {h : eH} {r : Int32} {k32 : Int32 → Option Int32} {k40 : Option Int32} (hd : 2 ≤ d) (hk32 : ∀ (v2 : Int32), k32 v2 = some r → E l yX9_costFrom cX9_costFrom 3 (some .int) (e_rm d 0 0) 0 0 true L (Qx (some (.int r)) L h) L h 0 0 32 [(2, .int v2)] []) (hk40 : k40 = some r → E l yX9_costFrom cX9_costFrom 3 (some .int) (e_rm d 0 0) 0 0 true L (Qx (some (.int r)) L h) L h 0 0 40 [] []) : ∀ (n : Nat) (v0 : Nat) (v1 : Int32) (v2 : Int32), f_X9_costFrom_L2 L h n k32 k40 v0 v1 v2 = some r → E l yX9_costFrom cX9_costFrom 3 (some .int) (e_rm d 0 0) 0 0 true L (Qx (some (.int r)) L h) L h 0 0 2 [(0, .ref v0), (1, .int v1), (2, .int v2)] [] := by
  intro n
  induction n with
  | zero => intro v0 v1 v2 hf; exact absurd hf (by simp [f_X9_costFrom_L2])
  | succ n ih =>
    intro v0 v1 v2 hf
    unfold f_X9_costFrom_L2 at hf
    refine e_iload_n 2 dX9_costFrom_2 rfl rfl ?_
    refine e_bipush (v := 74) dX9_costFrom_3 (by decide) ?_
    refine e_icmp_ge (t := 40) dX9_costFrom_5 (by decide) (fun c => ?_) (fun c => ?_)
    · replace hf := e_it c hf
      refine e_sub [] rfl ?_
      exact hk40  hf
    · replace hf := e_ie c hf
      refine e_aload_n 0 dX9_costFrom_8 rfl rfl ?_
      obtain ⟨hO1, hf⟩ := e_if hf
      refine e_getL hO1 fc_9_1 lk_RX9_15 dX9_costFrom_9 ?_
      refine e_iload_n 1 dX9_costFrom_12 rfl rfl ?_
      refine e_callSN (st := []) ml_RX9_40 k_X10_holds (m_X10_holds (d := d - 1) (by omega) rfl) rfl rfl (Nat.le_of_ble_eq_true rfl) ⟨by omega, by decide⟩ ⟨Nat.le_refl _, Nat.le_refl _⟩ dX9_costFrom_13 ?_
      refine e_if_eq (t := 40) dX9_costFrom_16 (by decide) (fun c => ?_) (fun c => ?_)
      · replace hf := e_it c hf
        refine e_sub [] rfl ?_
        exact hk40  hf
      · replace hf := e_ie c hf
        refine e_aload_n 0 dX9_costFrom_19 rfl rfl ?_
        obtain ⟨b2, hb3, hf⟩ := e_bd hf
        refine e_getR hO1 fc_9_0 lk_RX9_11 dX9_costFrom_20 hb3 ?_
        refine e_iload_n 2 dX9_costFrom_23 rfl rfl ?_
        obtain ⟨hI4, hf⟩ := e_if hf
        refine e_lald hI4 dX9_costFrom_24 ?_
        refine e_iload_n 1 dX9_costFrom_25 rfl rfl ?_
        refine e_callSN (st := []) ml_RX9_40 k_X10_holds (m_X10_holds (d := d - 1) (by omega) rfl) rfl rfl (Nat.le_of_ble_eq_true rfl) ⟨by omega, by decide⟩ ⟨Nat.le_refl _, Nat.le_refl _⟩ dX9_costFrom_26 ?_
        refine e_if_eq (t := 34) dX9_costFrom_29 (by decide) (fun c => ?_) (fun c => ?_)
        · replace hf := e_it c hf
          refine e_iinc (lv' := [(2, .int _), (0, .ref _), (1, .int _)]) 2 dX9_costFrom_34 rfl (by decide) rfl ?_
          refine e_goto (t := 2) dX9_costFrom_37 (by decide) ?_
          refine e_sub [1, 2, 0] rfl ?_
          exact ih _ _ _ hf
        · replace hf := e_ie c hf
          refine e_sub [2] rfl ?_
          exact hk32 _ hf
def f_X9_costFrom (L : eL) (h : eH) (v0 : Nat) (v1 : Int32) : Option Int32 :=
  f_X9_costFrom_L2 L h e_fu (fun (w2_5 : Int32) =>
    some w2_5) (
    some 500) v0 v1 0
set_option maxRecDepth 100000 in
set_option maxHeartbeats 4000000 in
theorem m_X9_costFrom {l : Launch} {d : Nat} {L : eL} {h : eH} {v0 : Nat} {v1 : Int32} {r : Int32} (hd : 2 ≤ d) (hf : f_X9_costFrom L h v0 v1 = some r) : e_Met l yX9_costFrom cX9_costFrom 3 (some .int) d 0 0 true L h [.ref v0, .int v1] (Qx (some (.int r)) L h) := by
  refine e_metl (by decide) (Nat.le_of_ble_eq_true rfl) (lv := [(0, .ref v0), (1, .int v1)]) rfl ?_
  unfold f_X9_costFrom at hf
  refine e_iconst (v := 0) dX9_costFrom_0 (by decide) ?_
  refine e_istore_n (lv' := [(2, .int _), (0, .ref _), (1, .int _)]) dX9_costFrom_1 rfl (by decide) rfl ?_
  refine e_sub [1, 2, 0] rfl ?_
  refine m_X9_costFrom_L2 hd ?_ ?_ e_fu _ _ _ hf
  · intro w2_5 hf
    refine e_iload_n 0 dX9_costFrom_32 rfl rfl ?_
    exact e_iret rfl dX9_costFrom_33 (qP hf)
  · intro  hf
    refine e_sipush (v := 500) dX9_costFrom_40 (by decide) ?_
    exact e_iret rfl dX9_costFrom_43 (qP hf)
def f_X9_firstAt (L : eL) (h : eH) (v0 : Nat) (v1 : Int32) (v2 : Int64) : Option Int32 :=
  if v1 < 0 then
    some (-1)
  else
    if 74 ≤ v1 then
      some (-1)
    else
      if isO L v0 9 = true then
      (gR h v0 0).bind fun b2 =>
      if inA L b2 1 v1 = true then
      (f_X2_firstOf ((gL h b2 v1.toNatClampNeg) &&& v2)).bind fun r5 =>
      some r5
      else none
      else none
set_option maxRecDepth 100000 in
set_option maxHeartbeats 4000000 in
theorem m_X9_firstAt {l : Launch} {d : Nat} {L : eL} {h : eH} {v0 : Nat} {v1 : Int32} {v2 : Int64} {r : Int32} (hd : 3 ≤ d) (hf : f_X9_firstAt L h v0 v1 v2 = some r) : e_Met l yX9_firstAt cX9_firstAt 4 (some .int) d 0 0 true L h [.ref v0, .int v1, .long v2] (Qx (some (.int r)) L h) := by
  refine e_metl (by decide) (Nat.le_of_ble_eq_true rfl) (lv := [(0, .ref v0), (1, .int v1), (2, .long v2)]) rfl ?_
  unfold f_X9_firstAt at hf
  refine e_iload_n 1 dX9_firstAt_0 rfl rfl ?_
  refine e_if_lt (t := 24) dX9_firstAt_1 (by decide) (fun c => ?_) (fun c => ?_)
  · replace hf := e_it c hf
    refine e_iconst (v := (-1)) dX9_firstAt_24 (by decide) ?_
    exact e_iret rfl dX9_firstAt_25 (qP hf)
  · replace hf := e_ie c hf
    refine e_iload_n 1 dX9_firstAt_4 rfl rfl ?_
    refine e_bipush (v := 74) dX9_firstAt_5 (by decide) ?_
    refine e_icmp_ge (t := 24) dX9_firstAt_7 (by decide) (fun c => ?_) (fun c => ?_)
    · replace hf := e_it c hf
      refine e_iconst (v := (-1)) dX9_firstAt_24 (by decide) ?_
      exact e_iret rfl dX9_firstAt_25 (qP hf)
    · replace hf := e_ie c hf
      refine e_aload_n 0 dX9_firstAt_10 rfl rfl ?_
      obtain ⟨hO1, hf⟩ := e_if hf
      obtain ⟨b2, hb3, hf⟩ := e_bd hf
      refine e_getR hO1 fc_9_0 lk_RX9_11 dX9_firstAt_11 hb3 ?_
      refine e_iload_n 1 dX9_firstAt_14 rfl rfl ?_
      obtain ⟨hI4, hf⟩ := e_if hf
      refine e_lald hI4 dX9_firstAt_15 ?_
      refine e_lload_n 2 dX9_firstAt_16 rfl rfl ?_
      refine e_land dX9_firstAt_17 ?_
      obtain ⟨r5, hr6, hf⟩ := e_bd hf
      refine e_callS (st := []) ml_RX9_44 k_X2_firstOf (m_X2_firstOf (d := d - 1) (by omega) hr6) rfl rfl (Nat.le_of_ble_eq_true rfl) ⟨by omega, by decide⟩ ⟨Nat.le_refl _, Nat.le_refl _⟩ dX9_firstAt_18 ?_
      refine e_goto (t := 25) dX9_firstAt_21 (by decide) ?_
      exact e_iret rfl dX9_firstAt_25 (qP hf)
def f_X10_way_L108 (L : eL) : Nat → (eH → Int32 → Option (eH × Int32)) → eH → Nat → Int32 → Int32 → Int32 → Int32 → Int32 → Option (eH × Int32)
  | 0, _, _, _, _, _, _, _, _ => none
  | n + 1, k174, h, v0, v2, v5, v6, v7, v8 =>
    if 36 ≤ v8 then
      k174 h v5
    else
      if v6 = v2 then
        k174 h v5
      else
        if isO L v0 10 = true then
        (gR h v0 15).bind fun b37 =>
        if isO L b37 2 = true then
        (f_X2_costFrom L h b37 v6).bind fun r40 =>
        (gR h v0 4).bind fun b42 =>
        (gR h v0 15).bind fun b44 =>
        if isO L b44 2 = true then
        (f_X2_around L h b44 (f_X10_bit v6)).bind fun r47 =>
        if isO L b42 9 = true then
        (f_X9_firstAt L h b42 (v7 - r40) r47).bind fun r50 =>
        (gR h v0 1).bind fun b52 =>
        if isO L b52 3 = true then
        (f_X3_add L h b52 r50.toInt64).bind fun r55 =>
        f_X10_way_L108 L n k174 r55 v0 v2 v5 r50 (v7 - r40) (v8 + Int32.ofInt 1)
        else none
        else none
        else none
        else none
        else none
set_option maxRecDepth 100000 in
set_option maxHeartbeats 4000000 in
theorem m_X10_way_L108 {l : Launch} {d : Nat} {L : eL}  {r : eH × Int32} {k174 : eH → Int32 → Option (eH × Int32)} (hd : 4 ≤ d) (hk174 : ∀ (h : eH) (v5 : Int32), k174 h v5 = some r → E l yX10_way cX10_way 9 (some .int) (e_rm d 0 0) 0 0 true L (Qx (some (.int r.2)) L r.1) L h 0 0 174 [(5, .int v5)] []) : ∀ (n : Nat) (h : eH) (v0 : Nat) (v2 : Int32) (v5 : Int32) (v6 : Int32) (v7 : Int32) (v8 : Int32), f_X10_way_L108 L n k174 h v0 v2 v5 v6 v7 v8 = some r → E l yX10_way cX10_way 9 (some .int) (e_rm d 0 0) 0 0 true L (Qx (some (.int r.2)) L r.1) L h 0 0 108 [(0, .ref v0), (2, .int v2), (5, .int v5), (6, .int v6), (7, .int v7), (8, .int v8)] [] := by
  intro n
  induction n with
  | zero => intro h v0 v2 v5 v6 v7 v8 hf; exact absurd hf (by simp [f_X10_way_L108])
  | succ n ih =>
    intro h v0 v2 v5 v6 v7 v8 hf
    unfold f_X10_way_L108 at hf
    refine e_iload 5 dX10_way_108 rfl ?_
    refine e_bipush (v := 36) dX10_way_110 (by decide) ?_
    refine e_icmp_ge (t := 174) dX10_way_112 (by decide) (fun c => ?_) (fun c => ?_)
    · replace hf := e_it c hf
      refine e_sub [2] rfl ?_
      exact hk174 _ _ hf
    · replace hf := e_ie c hf
      refine e_iload 3 dX10_way_115 rfl ?_
      refine e_iload_n 1 dX10_way_117 rfl rfl ?_
      refine e_icmp_eq (t := 174) dX10_way_118 (by decide) (fun c => ?_) (fun c => ?_)
      · replace hf := e_it c hf
        refine e_sub [2] rfl ?_
        exact hk174 _ _ hf
      · replace hf := e_ie c hf
        refine e_iload 4 dX10_way_121 rfl ?_
        refine e_aload_n 0 dX10_way_123 rfl rfl ?_
        obtain ⟨hO36, hf⟩ := e_if hf
        obtain ⟨b37, hb38, hf⟩ := e_bd hf
        refine e_getR hO36 fc_10_15 lk_RX10_92 dX10_way_124 hb38 ?_
        refine e_iload 3 dX10_way_127 rfl ?_
        obtain ⟨hO39, hf⟩ := e_if hf
        obtain ⟨r40, hr41, hf⟩ := e_bd hf
        refine e_callV (st := [.int _]) ml_RX10_302 k_X2_costFrom (m_X2_costFrom (d := d - 1) (by omega) hr41) hO39 ⟨by decide, rfl⟩ rfl rfl (Nat.le_of_ble_eq_true rfl) ⟨by omega, by decide⟩ ⟨Nat.le_refl _, Nat.le_refl _⟩ dX10_way_129 ?_
        refine e_isub dX10_way_132 ?_
        refine e_istore (lv' := [(7, .int _), (0, .ref _), (2, .int _), (5, .int _), (6, .int _), (8, .int _)]) dX10_way_133 (by decide) rfl ?_
        refine e_aload_n 1 dX10_way_135 rfl rfl ?_
        obtain ⟨b42, hb43, hf⟩ := e_bd hf
        refine e_getR hO36 fc_10_4 lk_RX10_40 dX10_way_136 hb43 ?_
        refine e_iload 0 dX10_way_139 rfl ?_
        refine e_aload_n 1 dX10_way_141 rfl rfl ?_
        obtain ⟨b44, hb45, hf⟩ := e_bd hf
        refine e_getR hO36 fc_10_15 lk_RX10_92 dX10_way_142 hb45 ?_
        refine e_iload 4 dX10_way_145 rfl ?_
        refine e_callS (st := [.ref _, .int _, .ref _]) ml_RX10_289 k_X10_bit (m_X10_bit (d := d - 1) (by omega) rfl) rfl rfl (Nat.le_of_ble_eq_true rfl) ⟨by omega, by decide⟩ ⟨Nat.le_refl _, Nat.le_refl _⟩ dX10_way_147 ?_
        obtain ⟨hO46, hf⟩ := e_if hf
        obtain ⟨r47, hr48, hf⟩ := e_bd hf
        refine e_callV (st := [.int _, .ref _]) ml_RX10_332 k_X2_around (m_X2_around (d := d - 1) (by omega) hr48) hO46 ⟨by decide, rfl⟩ rfl rfl (Nat.le_of_ble_eq_true rfl) ⟨by omega, by decide⟩ ⟨Nat.le_refl _, Nat.le_refl _⟩ dX10_way_150 ?_
        obtain ⟨hO49, hf⟩ := e_if hf
        obtain ⟨r50, hr51, hf⟩ := e_bd hf
        refine e_callV (st := []) ml_RX10_336 k_X9_firstAt (m_X9_firstAt (d := d - 1) (by omega) hr51) hO49 ⟨by decide, rfl⟩ rfl rfl (Nat.le_of_ble_eq_true rfl) ⟨by omega, by decide⟩ ⟨Nat.le_refl _, Nat.le_refl _⟩ dX10_way_153 ?_
        refine e_istore (lv' := [(6, .int _), (7, .int _), (0, .ref _), (2, .int _), (5, .int _), (8, .int _)]) dX10_way_156 (by decide) rfl ?_
        refine e_aload_n 2 dX10_way_158 rfl rfl ?_
        obtain ⟨b52, hb53, hf⟩ := e_bd hf
        refine e_getR hO36 fc_10_1 lk_RX10_19 dX10_way_159 hb53 ?_
        refine e_iload 0 dX10_way_162 rfl ?_
        refine e_i2l dX10_way_164 ?_
        obtain ⟨hO54, hf⟩ := e_if hf
        obtain ⟨r55, hr56, hf⟩ := e_bd hf
        refine e_callV (st := []) ml_RX10_269 k_X3_add (m_X3_add (d := d - 1) (by omega) hr56) hO54 ⟨by decide, rfl⟩ rfl rfl (Nat.le_of_ble_eq_true rfl) ⟨by omega, by decide⟩ ⟨Nat.le_refl _, Nat.le_refl _⟩ dX10_way_165 ?_
        refine e_iinc (lv' := [(8, .int _), (6, .int _), (7, .int _), (0, .ref _), (2, .int _), (5, .int _)]) 5 dX10_way_168 rfl (by decide) rfl ?_
        refine e_goto (t := 108) dX10_way_171 (by decide) ?_
        refine e_sub [3, 4, 5, 1, 2, 0] rfl ?_
        exact ih _ _ _ _ _ _ _ hf
def f_X10_way (L : eL) (h : eH) (v0 : Nat) (v1 : Int32) (v2 : Int32) : Option (eH × Int32) :=
  if isO L v0 10 = true then
  (gR h v0 15).bind fun b2 =>
  if isO L b2 2 = true then
  (f_X2_has L h b2 v1).bind fun r5 =>
  if r5 = 0 then
    some (h, (-1))
  else
    (gR h v0 15).bind fun b7 =>
    if isO L b7 2 = true then
    (f_X2_has L h b7 v2).bind fun r10 =>
    if r10 = 0 then
      some (h, (-1))
    else
      (f_X10_free L h v0).bind fun r12 =>
      if (f_X10_holds r12 v1) = 0 then
        some (h, (-2))
      else
        if (f_X10_holds r12 v2) = 0 then
          some (h, (-2))
        else
          (gR h v0 4).bind fun b14 =>
          (gR h v0 15).bind fun b16 =>
          if isO L b14 9 = true then
          (f_X9_measure L h b14 b16 r12 v2).bind fun r19 =>
          (gR r19 v0 4).bind fun b21 =>
          if isO L b21 9 = true then
          (f_X9_costFrom L r19 b21 v1).bind fun r24 =>
          if r24 = 500 then
            some (r19, (-2))
          else
            (gR r19 v0 1).bind fun b26 =>
            if isO L b26 3 = true then
            (f_X3_begin L r19 b26).bind fun r29 =>
            (gR r29 v0 1).bind fun b31 =>
            if isO L b31 3 = true then
            (f_X3_add L r29 b31 v1.toInt64).bind fun r34 =>
            f_X10_way_L108 L e_fu (fun (h57 : eH) (w5_58 : Int32) =>
              some (h57, w5_58)) r34 v0 v2 r24 v1 r24 0
            else none
            else none
          else none
          else none
    else none
  else none
  else none
set_option maxRecDepth 100000 in
set_option maxHeartbeats 4000000 in
theorem m_X10_way {l : Launch} {d : Nat} {L : eL} {h : eH} {v0 : Nat} {v1 : Int32} {v2 : Int32} {r : eH × Int32} (hd : 4 ≤ d) (hf : f_X10_way L h v0 v1 v2 = some r) : e_Met l yX10_way cX10_way 9 (some .int) d 0 0 true L h [.ref v0, .int v1, .int v2] (Qx (some (.int r.2)) L r.1) := by
  refine e_metl (by decide) (Nat.le_of_ble_eq_true rfl) (lv := [(0, .ref v0), (1, .int v1), (2, .int v2)]) rfl ?_
  unfold f_X10_way at hf
  refine e_aload_n 0 dX10_way_0 rfl rfl ?_
  obtain ⟨hO1, hf⟩ := e_if hf
  obtain ⟨b2, hb3, hf⟩ := e_bd hf
  refine e_getR hO1 fc_10_15 lk_RX10_92 dX10_way_1 hb3 ?_
  refine e_iload_n 1 dX10_way_4 rfl rfl ?_
  obtain ⟨hO4, hf⟩ := e_if hf
  obtain ⟨r5, hr6, hf⟩ := e_bd hf
  refine e_callV (st := []) ml_RX10_152 k_X2_has (m_X2_has (d := d - 1) (by omega) hr6) hO4 ⟨by decide, rfl⟩ rfl rfl (Nat.le_of_ble_eq_true rfl) ⟨by omega, by decide⟩ ⟨Nat.le_refl _, Nat.le_refl _⟩ dX10_way_5 ?_
  refine e_if_eq (t := 22) dX10_way_8 (by decide) (fun c => ?_) (fun c => ?_)
  · replace hf := e_it c hf
    refine e_iconst (v := (-1)) dX10_way_22 (by decide) ?_
    exact e_iret rfl dX10_way_23 (qW hf)
  · replace hf := e_ie c hf
    refine e_aload_n 0 dX10_way_11 rfl rfl ?_
    obtain ⟨b7, hb8, hf⟩ := e_bd hf
    refine e_getR hO1 fc_10_15 lk_RX10_92 dX10_way_12 hb8 ?_
    refine e_iload_n 2 dX10_way_15 rfl rfl ?_
    obtain ⟨hO9, hf⟩ := e_if hf
    obtain ⟨r10, hr11, hf⟩ := e_bd hf
    refine e_callV (st := []) ml_RX10_152 k_X2_has (m_X2_has (d := d - 1) (by omega) hr11) hO9 ⟨by decide, rfl⟩ rfl rfl (Nat.le_of_ble_eq_true rfl) ⟨by omega, by decide⟩ ⟨Nat.le_refl _, Nat.le_refl _⟩ dX10_way_16 ?_
    refine e_if_ne (t := 24) dX10_way_19 (by decide) (fun c => ?_) (fun c => ?_)
    · replace hf := e_ie c hf
      refine e_aload_n 0 dX10_way_24 rfl rfl ?_
      obtain ⟨r12, hr13, hf⟩ := e_bd hf
      refine e_callV (st := []) ml_RX10_186 k_X10_free (m_X10_free (d := d - 1) (by omega) hr13) hO1 ⟨by decide, rfl⟩ rfl rfl (Nat.le_of_ble_eq_true rfl) ⟨by omega, by decide⟩ ⟨Nat.le_refl _, Nat.le_refl _⟩ dX10_way_25 ?_
      refine e_lstore_n (lv' := [(3, .long _), (0, .ref _), (1, .int _), (2, .int _)]) dX10_way_28 rfl (by decide) rfl ?_
      refine e_lload_n 0 dX10_way_29 rfl rfl ?_
      refine e_iload_n 2 dX10_way_30 rfl rfl ?_
      refine e_callS (st := []) ml_RX10_169 k_X10_holds (m_X10_holds (d := d - 1) (by omega) rfl) rfl rfl (Nat.le_of_ble_eq_true rfl) ⟨by omega, by decide⟩ ⟨Nat.le_refl _, Nat.le_refl _⟩ dX10_way_31 ?_
      refine e_if_eq (t := 45) dX10_way_34 (by decide) (fun c => ?_) (fun c => ?_)
      · replace hf := e_it c hf
        refine e_bipush (v := (-2)) dX10_way_45 (by decide) ?_
        exact e_iret rfl dX10_way_47 (qW hf)
      · replace hf := e_ie c hf
        refine e_lload_n 0 dX10_way_37 rfl rfl ?_
        refine e_iload_n 3 dX10_way_38 rfl rfl ?_
        refine e_callS (st := []) ml_RX10_169 k_X10_holds (m_X10_holds (d := d - 1) (by omega) rfl) rfl rfl (Nat.le_of_ble_eq_true rfl) ⟨by omega, by decide⟩ ⟨Nat.le_refl _, Nat.le_refl _⟩ dX10_way_39 ?_
        refine e_if_ne (t := 48) dX10_way_42 (by decide) (fun c => ?_) (fun c => ?_)
        · replace hf := e_ie c hf
          refine e_aload_n 1 dX10_way_48 rfl rfl ?_
          obtain ⟨b14, hb15, hf⟩ := e_bd hf
          refine e_getR hO1 fc_10_4 lk_RX10_40 dX10_way_49 hb15 ?_
          refine e_aload_n 1 dX10_way_52 rfl rfl ?_
          obtain ⟨b16, hb17, hf⟩ := e_bd hf
          refine e_getR hO1 fc_10_15 lk_RX10_92 dX10_way_53 hb17 ?_
          refine e_lload_n 0 dX10_way_56 rfl rfl ?_
          refine e_iload_n 3 dX10_way_57 rfl rfl ?_
          obtain ⟨hO18, hf⟩ := e_if hf
          obtain ⟨r19, hr20, hf⟩ := e_bd hf
          refine e_callV (st := []) ml_RX10_327 k_X9_measure (m_X9_measure (d := d - 1) (by omega) hr20) hO18 ⟨by decide, rfl⟩ rfl rfl (Nat.le_of_ble_eq_true rfl) ⟨by omega, by decide⟩ ⟨Nat.le_refl _, Nat.le_refl _⟩ dX10_way_58 ?_
          refine e_aload_n 1 dX10_way_61 rfl rfl ?_
          obtain ⟨b21, hb22, hf⟩ := e_bd hf
          refine e_getR hO1 fc_10_4 lk_RX10_40 dX10_way_62 hb22 ?_
          refine e_iload_n 2 dX10_way_65 rfl rfl ?_
          obtain ⟨hO23, hf⟩ := e_if hf
          obtain ⟨r24, hr25, hf⟩ := e_bd hf
          refine e_callV (st := []) ml_RX10_331 k_X9_costFrom (m_X9_costFrom (d := d - 1) (by omega) hr25) hO23 ⟨by decide, rfl⟩ rfl rfl (Nat.le_of_ble_eq_true rfl) ⟨by omega, by decide⟩ ⟨Nat.le_refl _, Nat.le_refl _⟩ dX10_way_66 ?_
          refine e_istore (lv' := [(5, .int _), (3, .long _), (0, .ref _), (1, .int _), (2, .int _)]) dX10_way_69 (by decide) rfl ?_
          refine e_iload 0 dX10_way_71 rfl ?_
          refine e_sipush (v := 500) dX10_way_73 (by decide) ?_
          refine e_icmp_ne (t := 82) dX10_way_76 (by decide) (fun c => ?_) (fun c => ?_)
          · replace hf := e_ie c hf
            refine e_aload_n 2 dX10_way_82 rfl rfl ?_
            obtain ⟨b26, hb27, hf⟩ := e_bd hf
            refine e_getR hO1 fc_10_1 lk_RX10_19 dX10_way_83 hb27 ?_
            obtain ⟨hO28, hf⟩ := e_if hf
            obtain ⟨r29, hr30, hf⟩ := e_bd hf
            refine e_callV (st := []) ml_RX10_267 k_X3_begin (m_X3_begin (d := d - 1) (by omega) hr30) hO28 ⟨by decide, rfl⟩ rfl rfl (Nat.le_of_ble_eq_true rfl) ⟨by omega, by decide⟩ ⟨Nat.le_refl _, Nat.le_refl _⟩ dX10_way_86 ?_
            refine e_aload_n 2 dX10_way_89 rfl rfl ?_
            obtain ⟨b31, hb32, hf⟩ := e_bd hf
            refine e_getR hO1 fc_10_1 lk_RX10_19 dX10_way_90 hb32 ?_
            refine e_iload_n 3 dX10_way_93 rfl rfl ?_
            refine e_i2l dX10_way_94 ?_
            obtain ⟨hO33, hf⟩ := e_if hf
            obtain ⟨r34, hr35, hf⟩ := e_bd hf
            refine e_callV (st := []) ml_RX10_269 k_X3_add (m_X3_add (d := d - 1) (by omega) hr35) hO33 ⟨by decide, rfl⟩ rfl rfl (Nat.le_of_ble_eq_true rfl) ⟨by omega, by decide⟩ ⟨Nat.le_refl _, Nat.le_refl _⟩ dX10_way_95 ?_
            refine e_iload_n 3 dX10_way_98 rfl rfl ?_
            refine e_istore (lv' := [(6, .int _), (5, .int _), (3, .long _), (0, .ref _), (1, .int _), (2, .int _)]) dX10_way_99 (by decide) rfl ?_
            refine e_iload 1 dX10_way_101 rfl ?_
            refine e_istore (lv' := [(7, .int _), (6, .int _), (5, .int _), (3, .long _), (0, .ref _), (1, .int _), (2, .int _)]) dX10_way_103 (by decide) rfl ?_
            refine e_iconst (v := 0) dX10_way_105 (by decide) ?_
            refine e_istore (lv' := [(8, .int _), (7, .int _), (6, .int _), (5, .int _), (3, .long _), (0, .ref _), (1, .int _), (2, .int _)]) dX10_way_106 (by decide) rfl ?_
            refine e_sub [5, 7, 3, 2, 1, 0] rfl ?_
            refine m_X10_way_L108 hd ?_ e_fu _ _ _ _ _ _ _ hf
            · intro h57 w5_58 hf
              refine e_iload 0 dX10_way_174 rfl ?_
              exact e_iret rfl dX10_way_176 (qW hf)
          · replace hf := e_it c hf
            refine e_bipush (v := (-2)) dX10_way_79 (by decide) ?_
            exact e_iret rfl dX10_way_81 (qW hf)
        · replace hf := e_it c hf
          refine e_bipush (v := (-2)) dX10_way_45 (by decide) ?_
          exact e_iret rfl dX10_way_47 (qW hf)
    · replace hf := e_it c hf
      refine e_iconst (v := (-1)) dX10_way_22 (by decide) ?_
      exact e_iret rfl dX10_way_23 (qW hf)
def f_X10_back_J94 (L : eL) (k52 : eH → Nat → Int32 → Int32 → Option (eH × Int32)) (k107 : eH → Int32 → Option (eH × Int32)) (k116 : eH → Int32 → Option (eH × Int32)) (h : eH) (v0 : Nat) (v1 : Int32) (v2 : Int32) : Option (eH × Int32) :=
  if isO L v0 10 = true then
  (gR h v0 9).bind fun b34 =>
  (f_X10_goOn L h v0 b34 1 (-1)).bind fun r36 =>
  if r36.2 = 0 then
    k107 r36.1 v1
  else
    k52 r36.1 v0 v1 (v2 + Int32.ofInt 1)
  else none
set_option maxRecDepth 100000 in
set_option maxHeartbeats 4000000 in
theorem m_X10_back_J94 {l : Launch} {d : Nat} {L : eL}  {r : eH × Int32} {k52 : eH → Nat → Int32 → Int32 → Option (eH × Int32)} {k107 : eH → Int32 → Option (eH × Int32)} {k116 : eH → Int32 → Option (eH × Int32)} (hd : 5 ≤ d) (hk52 : ∀ (h : eH) (v0 : Nat) (v1 : Int32) (v2 : Int32), k52 h v0 v1 v2 = some r → E l yX10_back cX10_back 4 (some .int) (e_rm d 0 0) 0 0 true L (Qx (some (.int r.2)) L r.1) L h 0 0 52 [(0, .ref v0), (1, .int v1), (2, .int v2)] []) (hk107 : ∀ (h : eH) (v1 : Int32), k107 h v1 = some r → E l yX10_back cX10_back 4 (some .int) (e_rm d 0 0) 0 0 true L (Qx (some (.int r.2)) L r.1) L h 0 0 107 [(1, .int v1)] []) (hk116 : ∀ (h : eH) (v1 : Int32), k116 h v1 = some r → E l yX10_back cX10_back 4 (some .int) (e_rm d 0 0) 0 0 true L (Qx (some (.int r.2)) L r.1) L h 0 0 116 [(1, .int v1)] []) : ∀ (h : eH) (v0 : Nat) (v1 : Int32) (v2 : Int32), f_X10_back_J94 L k52 k107 k116 h v0 v1 v2 = some r → E l yX10_back cX10_back 4 (some .int) (e_rm d 0 0) 0 0 true L (Qx (some (.int r.2)) L r.1) L h 0 0 94 [(0, .ref v0), (1, .int v1), (2, .int v2)] [] := by
  intro h v0 v1 v2 hf
  unfold f_X10_back_J94 at hf
  refine e_aload_n 0 dX10_back_94 rfl rfl ?_
  refine e_aload_n 0 dX10_back_95 rfl rfl ?_
  obtain ⟨hO33, hf⟩ := e_if hf
  obtain ⟨b34, hb35, hf⟩ := e_bd hf
  refine e_getR hO33 fc_10_9 lk_RX10_68 dX10_back_96 hb35 ?_
  refine e_iconst (v := 1) dX10_back_99 (by decide) ?_
  refine e_iconst (v := (-1)) dX10_back_100 (by decide) ?_
  obtain ⟨r36, hr37, hf⟩ := e_bd hf
  refine e_callV (st := []) ml_RX10_278 k_X10_goOn (m_X10_goOn (d := d - 1) (by omega) hr37) hO33 ⟨by decide, rfl⟩ rfl rfl (Nat.le_of_ble_eq_true rfl) ⟨by omega, by decide⟩ ⟨Nat.le_refl _, Nat.le_refl _⟩ dX10_back_101 ?_
  refine e_if_ne (t := 110) dX10_back_104 (by decide) (fun c => ?_) (fun c => ?_)
  · replace hf := e_ie c hf
    refine e_iinc (lv' := [(2, .int _), (0, .ref _), (1, .int _)]) 2 dX10_back_110 rfl (by decide) rfl ?_
    refine e_goto (t := 52) dX10_back_113 (by decide) ?_
    refine e_sub [1, 2, 0] rfl ?_
    exact hk52 _ _ _ _ hf
  · replace hf := e_it c hf
    refine e_sub [1] rfl ?_
    exact hk107 _ _ hf
def f_X10_back_L52 (L : eL) : Nat → (eH → Int32 → Option (eH × Int32)) → (eH → Int32 → Option (eH × Int32)) → eH → Nat → Int32 → Int32 → Option (eH × Int32)
  | 0, _, _, _, _, _, _ => none
  | n + 1, k107, k116, h, v0, v1, v2 =>
    if 200 < v2 then
      k116 h v1
    else
      if isO L v0 10 = true then
      (gR h v0 4).bind fun b25 =>
      (gR h v0 9).bind fun b27 =>
      if isO L b27 6 = true then
      if isO L b25 9 = true then
      (f_X9_costFrom L h b25 (gI h b27 1)).bind fun r31 =>
      if r31 = 500 then
        f_X10_back_J94 L (f_X10_back_L52 L n k107 k116) k107 k116 h v0 v1 v2
      else
        (gR h v0 9).bind fun b38 =>
        if isO L b38 6 = true then
        if (gI h b38 3) < r31 then
          f_X10_back_J94 L (f_X10_back_L52 L n k107 k116) k107 k116 h v0 v1 v2
        else
          f_X10_back_J94 L (f_X10_back_L52 L n k107 k116) k107 k116 h v0 v2 v2
        else none
      else none
      else none
      else none
set_option maxRecDepth 100000 in
set_option maxHeartbeats 4000000 in
theorem m_X10_back_L52 {l : Launch} {d : Nat} {L : eL}  {r : eH × Int32} {k107 : eH → Int32 → Option (eH × Int32)} {k116 : eH → Int32 → Option (eH × Int32)} (hd : 5 ≤ d) (hk107 : ∀ (h : eH) (v1 : Int32), k107 h v1 = some r → E l yX10_back cX10_back 4 (some .int) (e_rm d 0 0) 0 0 true L (Qx (some (.int r.2)) L r.1) L h 0 0 107 [(1, .int v1)] []) (hk116 : ∀ (h : eH) (v1 : Int32), k116 h v1 = some r → E l yX10_back cX10_back 4 (some .int) (e_rm d 0 0) 0 0 true L (Qx (some (.int r.2)) L r.1) L h 0 0 116 [(1, .int v1)] []) : ∀ (n : Nat) (h : eH) (v0 : Nat) (v1 : Int32) (v2 : Int32), f_X10_back_L52 L n k107 k116 h v0 v1 v2 = some r → E l yX10_back cX10_back 4 (some .int) (e_rm d 0 0) 0 0 true L (Qx (some (.int r.2)) L r.1) L h 0 0 52 [(0, .ref v0), (1, .int v1), (2, .int v2)] [] := by
  intro n
  induction n with
  | zero => intro h v0 v1 v2 hf; exact absurd hf (by simp [f_X10_back_L52])
  | succ n ih =>
    intro h v0 v1 v2 hf
    unfold f_X10_back_L52 at hf
    refine e_iload_n 2 dX10_back_52 rfl rfl ?_
    refine e_sipush (v := 200) dX10_back_53 (by decide) ?_
    refine e_icmp_gt (t := 116) dX10_back_56 (by decide) (fun c => ?_) (fun c => ?_)
    · replace hf := e_it c hf
      refine e_sub [1] rfl ?_
      exact hk116 _ _ hf
    · replace hf := e_ie c hf
      refine e_aload_n 0 dX10_back_59 rfl rfl ?_
      obtain ⟨hO24, hf⟩ := e_if hf
      obtain ⟨b25, hb26, hf⟩ := e_bd hf
      refine e_getR hO24 fc_10_4 lk_RX10_40 dX10_back_60 hb26 ?_
      refine e_aload_n 0 dX10_back_63 rfl rfl ?_
      obtain ⟨b27, hb28, hf⟩ := e_bd hf
      refine e_getR hO24 fc_10_9 lk_RX10_68 dX10_back_64 hb28 ?_
      obtain ⟨hO29, hf⟩ := e_if hf
      refine e_getIN hO29 fc_6_1 lk_RX10_183 dX10_back_67 ?_
      obtain ⟨hO30, hf⟩ := e_if hf
      obtain ⟨r31, hr32, hf⟩ := e_bd hf
      refine e_callV (st := []) ml_RX10_331 k_X9_costFrom (m_X9_costFrom (d := d - 1) (by omega) hr32) hO30 ⟨by decide, rfl⟩ rfl rfl (Nat.le_of_ble_eq_true rfl) ⟨by omega, by decide⟩ ⟨Nat.le_refl _, Nat.le_refl _⟩ dX10_back_70 ?_
      refine e_istore_n (lv' := [(3, .int _), (0, .ref _), (1, .int _), (2, .int _)]) dX10_back_73 rfl (by decide) rfl ?_
      refine e_iload_n 0 dX10_back_74 rfl rfl ?_
      refine e_sipush (v := 500) dX10_back_75 (by decide) ?_
      refine e_icmp_eq (t := 94) dX10_back_78 (by decide) (fun c => ?_) (fun c => ?_)
      · replace hf := e_it c hf
        refine e_sub [1, 2, 3] rfl ?_
        exact m_X10_back_J94 hd ih hk107 hk116 _ _ _ _ hf
      · replace hf := e_ie c hf
        refine e_aload_n 1 dX10_back_81 rfl rfl ?_
        obtain ⟨b38, hb39, hf⟩ := e_bd hf
        refine e_getR hO24 fc_10_9 lk_RX10_68 dX10_back_82 hb39 ?_
        obtain ⟨hO40, hf⟩ := e_if hf
        refine e_getIN hO40 fc_6_3 lk_RX10_195 dX10_back_85 ?_
        refine e_iload_n 0 dX10_back_88 rfl rfl ?_
        refine e_icmp_lt (t := 94) dX10_back_89 (by decide) (fun c => ?_) (fun c => ?_)
        · replace hf := e_it c hf
          refine e_sub [1, 2, 3] rfl ?_
          exact m_X10_back_J94 hd ih hk107 hk116 _ _ _ _ hf
        · replace hf := e_ie c hf
          refine e_iload_n 3 dX10_back_92 rfl rfl ?_
          refine e_istore_n (lv' := [(1, .int _), (3, .int _), (0, .ref _), (2, .int _)]) dX10_back_93 rfl (by decide) rfl ?_
          refine e_sub [2, 0, 3] rfl ?_
          exact m_X10_back_J94 hd ih hk107 hk116 _ _ _ _ hf
def f_X10_back (L : eL) (h : eH) (v0 : Nat) : Option (eH × Int32) :=
  if isO L v0 10 = true then
  (gR h v0 15).bind fun b2 =>
  if isO L b2 2 = true then
  if (gI h b2 3) = (-1) then
    some (h, (-2))
  else
    (gR h v0 4).bind fun b5 =>
    (gR h v0 15).bind fun b7 =>
    (f_X10_free L h v0).bind fun r9 =>
    (gR h v0 15).bind fun b11 =>
    if isO L b11 2 = true then
    if isO L b5 9 = true then
    (f_X9_measure L h b5 b7 r9 (gI h b11 3)).bind fun r15 =>
    (gR r15 v0 9).bind fun b17 =>
    (gR r15 v0 7).bind fun b19 =>
    if isO L b17 6 = true then
    (f_X6_copyFrom L r15 b17 b19).bind fun r22 =>
    f_X10_back_L52 L e_fu (fun (h41 : eH) (w1_42 : Int32) =>
      some (h41, w1_42)) (fun (h43 : eH) (w1_44 : Int32) =>
      some (h43, w1_44)) r22 v0 (-2) 0
    else none
    else none
    else none
  else none
  else none
set_option maxRecDepth 100000 in
set_option maxHeartbeats 4000000 in
theorem m_X10_back {l : Launch} {d : Nat} {L : eL} {h : eH} {v0 : Nat} {r : eH × Int32} (hd : 5 ≤ d) (hf : f_X10_back L h v0 = some r) : e_Met l yX10_back cX10_back 4 (some .int) d 0 0 true L h [.ref v0] (Qx (some (.int r.2)) L r.1) := by
  refine e_metl (by decide) (Nat.le_of_ble_eq_true rfl) (lv := [(0, .ref v0)]) rfl ?_
  unfold f_X10_back at hf
  refine e_aload_n 0 dX10_back_0 rfl rfl ?_
  obtain ⟨hO1, hf⟩ := e_if hf
  obtain ⟨b2, hb3, hf⟩ := e_bd hf
  refine e_getR hO1 fc_10_15 lk_RX10_92 dX10_back_1 hb3 ?_
  obtain ⟨hO4, hf⟩ := e_if hf
  refine e_getIN hO4 fc_2_3 lk_RX10_180 dX10_back_4 ?_
  refine e_iconst (v := (-1)) dX10_back_7 (by decide) ?_
  refine e_icmp_ne (t := 14) dX10_back_8 (by decide) (fun c => ?_) (fun c => ?_)
  · replace hf := e_ie c hf
    refine e_aload_n 0 dX10_back_14 rfl rfl ?_
    obtain ⟨b5, hb6, hf⟩ := e_bd hf
    refine e_getR hO1 fc_10_4 lk_RX10_40 dX10_back_15 hb6 ?_
    refine e_aload_n 0 dX10_back_18 rfl rfl ?_
    obtain ⟨b7, hb8, hf⟩ := e_bd hf
    refine e_getR hO1 fc_10_15 lk_RX10_92 dX10_back_19 hb8 ?_
    refine e_aload_n 0 dX10_back_22 rfl rfl ?_
    obtain ⟨r9, hr10, hf⟩ := e_bd hf
    refine e_callV (st := [.ref _, .ref _]) ml_RX10_186 k_X10_free (m_X10_free (d := d - 1) (by omega) hr10) hO1 ⟨by decide, rfl⟩ rfl rfl (Nat.le_of_ble_eq_true rfl) ⟨by omega, by decide⟩ ⟨Nat.le_refl _, Nat.le_refl _⟩ dX10_back_23 ?_
    refine e_aload_n 0 dX10_back_26 rfl rfl ?_
    obtain ⟨b11, hb12, hf⟩ := e_bd hf
    refine e_getR hO1 fc_10_15 lk_RX10_92 dX10_back_27 hb12 ?_
    obtain ⟨hO13, hf⟩ := e_if hf
    refine e_getIN hO13 fc_2_3 lk_RX10_180 dX10_back_30 ?_
    obtain ⟨hO14, hf⟩ := e_if hf
    obtain ⟨r15, hr16, hf⟩ := e_bd hf
    refine e_callV (st := []) ml_RX10_327 k_X9_measure (m_X9_measure (d := d - 1) (by omega) hr16) hO14 ⟨by decide, rfl⟩ rfl rfl (Nat.le_of_ble_eq_true rfl) ⟨by omega, by decide⟩ ⟨Nat.le_refl _, Nat.le_refl _⟩ dX10_back_33 ?_
    refine e_bipush (v := (-2)) dX10_back_36 (by decide) ?_
    refine e_istore_n (lv' := [(1, .int _), (0, .ref _)]) dX10_back_38 rfl (by decide) rfl ?_
    refine e_aload_n 1 dX10_back_39 rfl rfl ?_
    obtain ⟨b17, hb18, hf⟩ := e_bd hf
    refine e_getR hO1 fc_10_9 lk_RX10_68 dX10_back_40 hb18 ?_
    refine e_aload_n 1 dX10_back_43 rfl rfl ?_
    obtain ⟨b19, hb20, hf⟩ := e_bd hf
    refine e_getR hO1 fc_10_7 lk_RX10_61 dX10_back_44 hb20 ?_
    obtain ⟨hO21, hf⟩ := e_if hf
    obtain ⟨r22, hr23, hf⟩ := e_bd hf
    refine e_callV (st := []) ml_RX10_230 k_X6_copyFrom (m_X6_copyFrom (d := d - 1) (by omega) hr23) hO21 ⟨by decide, rfl⟩ rfl rfl (Nat.le_of_ble_eq_true rfl) ⟨by omega, by decide⟩ ⟨Nat.le_refl _, Nat.le_refl _⟩ dX10_back_47 ?_
    refine e_iconst (v := 0) dX10_back_50 (by decide) ?_
    refine e_istore_n (lv' := [(2, .int _), (1, .int _), (0, .ref _)]) dX10_back_51 rfl (by decide) rfl ?_
    refine e_sub [2, 1, 0] rfl ?_
    refine m_X10_back_L52 hd ?_ ?_ e_fu _ _ _ _ hf
    · intro h41 w1_42 hf
      refine e_goto (t := 116) dX10_back_107 (by decide) ?_
      refine e_iload_n 0 dX10_back_116 rfl rfl ?_
      exact e_iret rfl dX10_back_117 (qW hf)
    · intro h43 w1_44 hf
      refine e_iload_n 0 dX10_back_116 rfl rfl ?_
      exact e_iret rfl dX10_back_117 (qW hf)
  · replace hf := e_it c hf
    refine e_bipush (v := (-2)) dX10_back_11 (by decide) ?_
    exact e_iret rfl dX10_back_13 (qW hf)
def f_X9_greatest_L18 (L : eL) (h : eH) : Nat → (Int32 → Option Int32) → Nat → Int32 → Int32 → Option Int32
  | 0, _, _, _, _ => none
  | n + 1, k50, v0, v3, v4 =>
    if 74 ≤ v4 then
      k50 v3
    else
      if isO L v0 9 = true then
      (gR h v0 0).bind fun b3 =>
      if inA L b3 1 v4 = true then
      if (lg_cmp (gL h b3 v4.toNatClampNeg) 0) = 0 then
        f_X9_greatest_L18 L h n k50 v0 v3 (v4 + Int32.ofInt 1)
      else
        f_X9_greatest_L18 L h n k50 v0 v4 (v4 + Int32.ofInt 1)
      else none
      else none
set_option maxRecDepth 100000 in
set_option maxHeartbeats 4000000 in
theorem m_X9_greatest_L18 {l : Launch} {d : Nat} {L : eL} {h : eH} {r : Int32} {k50 : Int32 → Option Int32} (hd : 1 ≤ d) (hk50 : ∀ (v3 : Int32), k50 v3 = some r → E l yX9_greatest cX9_greatest 5 (some .int) (e_rm d 0 0) 0 0 true L (Qx (some (.int r)) L h) L h 0 0 50 [(3, .int v3)] []) : ∀ (n : Nat) (v0 : Nat) (v3 : Int32) (v4 : Int32), f_X9_greatest_L18 L h n k50 v0 v3 v4 = some r → E l yX9_greatest cX9_greatest 5 (some .int) (e_rm d 0 0) 0 0 true L (Qx (some (.int r)) L h) L h 0 0 18 [(0, .ref v0), (3, .int v3), (4, .int v4)] [] := by
  intro n
  induction n with
  | zero => intro v0 v3 v4 hf; exact absurd hf (by simp [f_X9_greatest_L18])
  | succ n ih =>
    intro v0 v3 v4 hf
    unfold f_X9_greatest_L18 at hf
    refine e_iload 2 dX9_greatest_18 rfl ?_
    refine e_bipush (v := 74) dX9_greatest_20 (by decide) ?_
    refine e_icmp_ge (t := 50) dX9_greatest_22 (by decide) (fun c => ?_) (fun c => ?_)
    · replace hf := e_it c hf
      refine e_sub [1] rfl ?_
      exact hk50 _ hf
    · replace hf := e_ie c hf
      refine e_aload_n 0 dX9_greatest_25 rfl rfl ?_
      obtain ⟨hO2, hf⟩ := e_if hf
      obtain ⟨b3, hb4, hf⟩ := e_bd hf
      refine e_getR hO2 fc_9_0 lk_RX9_11 dX9_greatest_26 hb4 ?_
      refine e_iload 2 dX9_greatest_29 rfl ?_
      obtain ⟨hI5, hf⟩ := e_if hf
      refine e_lald hI5 dX9_greatest_31 ?_
      refine e_lconst (v := 0) dX9_greatest_32 (by decide) ?_
      refine e_lcmp dX9_greatest_33 ?_
      refine e_if_eq (t := 42) dX9_greatest_34 (by decide) (fun c => ?_) (fun c => ?_)
      · replace hf := e_it c hf
        refine e_iload_n 1 dX9_greatest_42 rfl rfl ?_
        refine e_istore_n (lv' := [(3, .int _), (0, .ref _), (4, .int _)]) dX9_greatest_43 rfl (by decide) rfl ?_
        refine e_iinc (lv' := [(4, .int _), (3, .int _), (0, .ref _)]) 2 dX9_greatest_44 rfl (by decide) rfl ?_
        refine e_goto (t := 18) dX9_greatest_47 (by decide) ?_
        refine e_sub [2, 1, 0] rfl ?_
        exact ih _ _ _ hf
      · replace hf := e_ie c hf
        refine e_iload 2 dX9_greatest_37 rfl ?_
        refine e_goto (t := 43) dX9_greatest_39 (by decide) ?_
        refine e_istore_n (lv' := [(3, .int _), (0, .ref _), (4, .int _)]) dX9_greatest_43 rfl (by decide) rfl ?_
        refine e_iinc (lv' := [(4, .int _), (3, .int _), (0, .ref _)]) 2 dX9_greatest_44 rfl (by decide) rfl ?_
        refine e_goto (t := 18) dX9_greatest_47 (by decide) ?_
        refine e_sub [2, 1, 0] rfl ?_
        exact ih _ _ _ hf
def f_X9_greatest (L : eL) (h : eH) (v0 : Nat) (v1 : Int64) : Option Int32 :=
  if isO L v0 9 = true then
  if (lg_cmp (gL h v0 1) v1) = 0 then
    f_X9_greatest_L18 L h e_fu (fun (w3_6 : Int32) =>
      some w3_6) v0 0 0
  else
    some 500
  else none
set_option maxRecDepth 100000 in
set_option maxHeartbeats 4000000 in
theorem m_X9_greatest {l : Launch} {d : Nat} {L : eL} {h : eH} {v0 : Nat} {v1 : Int64} {r : Int32} (hd : 1 ≤ d) (hf : f_X9_greatest L h v0 v1 = some r) : e_Met l yX9_greatest cX9_greatest 5 (some .int) d 0 0 true L h [.ref v0, .long v1] (Qx (some (.int r)) L h) := by
  refine e_metl (by decide) (Nat.le_of_ble_eq_true rfl) (lv := [(0, .ref v0), (1, .long v1)]) rfl ?_
  unfold f_X9_greatest at hf
  refine e_aload_n 0 dX9_greatest_0 rfl rfl ?_
  obtain ⟨hO1, hf⟩ := e_if hf
  refine e_getL hO1 fc_9_1 lk_RX9_15 dX9_greatest_1 ?_
  refine e_lload_n 1 dX9_greatest_4 rfl rfl ?_
  refine e_lcmp dX9_greatest_5 ?_
  refine e_if_eq (t := 13) dX9_greatest_6 (by decide) (fun c => ?_) (fun c => ?_)
  · replace hf := e_it c hf
    refine e_iconst (v := 0) dX9_greatest_13 (by decide) ?_
    refine e_istore_n (lv' := [(3, .int _), (0, .ref _), (1, .long _)]) dX9_greatest_14 rfl (by decide) rfl ?_
    refine e_iconst (v := 0) dX9_greatest_15 (by decide) ?_
    refine e_istore (lv' := [(4, .int _), (3, .int _), (0, .ref _), (1, .long _)]) dX9_greatest_16 (by decide) rfl ?_
    refine e_sub [2, 1, 0] rfl ?_
    refine m_X9_greatest_L18 hd ?_ e_fu _ _ _ hf
    · intro w3_6 hf
      refine e_iload_n 0 dX9_greatest_50 rfl rfl ?_
      exact e_iret rfl dX9_greatest_51 (qP hf)
  · replace hf := e_ie c hf
    refine e_sipush (v := 500) dX9_greatest_9 (by decide) ?_
    exact e_iret rfl dX9_greatest_12 (qP hf)
def f_X10_plug_L15 (L : eL) : Nat → (eH → Nat → Int32 → Int32 → Option (eH × Int32)) → eH → Nat → Int64 → Int32 → Int32 → Int32 → Option (eH × Int32)
  | 0, _, _, _, _, _, _, _ => none
  | n + 1, k78, h, v0, v1, v3, v4, v5 =>
    if 36 ≤ v5 then
      k78 h v0 v3 v4
    else
      if (f_X10_holds v1 v5) = 0 then
        f_X10_plug_L15 L n k78 h v0 v1 v3 v4 (v5 + Int32.ofInt 1)
      else
        if isO L v0 10 = true then
        (gR h v0 4).bind fun b5 =>
        (gR h v0 15).bind fun b7 =>
        if isO L b5 9 = true then
        (f_X9_measure L h b5 b7 v1 v5).bind fun r10 =>
        (gR r10 v0 4).bind fun b12 =>
        if isO L b12 9 = true then
        (f_X9_greatest L r10 b12 v1).bind fun r15 =>
        if v4 ≤ r15 then
          f_X10_plug_L15 L n k78 r10 v0 v1 v3 v4 (v5 + Int32.ofInt 1)
        else
          f_X10_plug_L15 L n k78 r10 v0 v1 v5 r15 (v5 + Int32.ofInt 1)
        else none
        else none
        else none
set_option maxRecDepth 100000 in
set_option maxHeartbeats 4000000 in
theorem m_X10_plug_L15 {l : Launch} {d : Nat} {L : eL}  {r : eH × Int32} {k78 : eH → Nat → Int32 → Int32 → Option (eH × Int32)} (hd : 4 ≤ d) (hk78 : ∀ (h : eH) (v0 : Nat) (v3 : Int32) (v4 : Int32), k78 h v0 v3 v4 = some r → E l yX10_plug cX10_plug 7 (some .int) (e_rm d 0 0) 0 0 true L (Qx (some (.int r.2)) L r.1) L h 0 0 78 [(0, .ref v0), (3, .int v3), (4, .int v4)] []) : ∀ (n : Nat) (h : eH) (v0 : Nat) (v1 : Int64) (v3 : Int32) (v4 : Int32) (v5 : Int32), f_X10_plug_L15 L n k78 h v0 v1 v3 v4 v5 = some r → E l yX10_plug cX10_plug 7 (some .int) (e_rm d 0 0) 0 0 true L (Qx (some (.int r.2)) L r.1) L h 0 0 15 [(0, .ref v0), (1, .long v1), (3, .int v3), (4, .int v4), (5, .int v5)] [] := by
  intro n
  induction n with
  | zero => intro h v0 v1 v3 v4 v5 hf; exact absurd hf (by simp [f_X10_plug_L15])
  | succ n ih =>
    intro h v0 v1 v3 v4 v5 hf
    unfold f_X10_plug_L15 at hf
    refine e_iload 4 dX10_plug_15 rfl ?_
    refine e_bipush (v := 36) dX10_plug_17 (by decide) ?_
    refine e_icmp_ge (t := 78) dX10_plug_19 (by decide) (fun c => ?_) (fun c => ?_)
    · replace hf := e_it c hf
      refine e_sub [0, 2, 3] rfl ?_
      exact hk78 _ _ _ _ hf
    · replace hf := e_ie c hf
      refine e_lload_n 1 dX10_plug_22 rfl rfl ?_
      refine e_iload 4 dX10_plug_23 rfl ?_
      refine e_callS (st := []) ml_RX10_169 k_X10_holds (m_X10_holds (d := d - 1) (by omega) rfl) rfl rfl (Nat.le_of_ble_eq_true rfl) ⟨by omega, by decide⟩ ⟨Nat.le_refl _, Nat.le_refl _⟩ dX10_plug_25 ?_
      refine e_if_ne (t := 34) dX10_plug_28 (by decide) (fun c => ?_) (fun c => ?_)
      · replace hf := e_ie c hf
        refine e_aload_n 0 dX10_plug_34 rfl rfl ?_
        obtain ⟨hO4, hf⟩ := e_if hf
        obtain ⟨b5, hb6, hf⟩ := e_bd hf
        refine e_getR hO4 fc_10_4 lk_RX10_40 dX10_plug_35 hb6 ?_
        refine e_aload_n 0 dX10_plug_38 rfl rfl ?_
        obtain ⟨b7, hb8, hf⟩ := e_bd hf
        refine e_getR hO4 fc_10_15 lk_RX10_92 dX10_plug_39 hb8 ?_
        refine e_lload_n 1 dX10_plug_42 rfl rfl ?_
        refine e_iload 4 dX10_plug_43 rfl ?_
        obtain ⟨hO9, hf⟩ := e_if hf
        obtain ⟨r10, hr11, hf⟩ := e_bd hf
        refine e_callV (st := []) ml_RX10_327 k_X9_measure (m_X9_measure (d := d - 1) (by omega) hr11) hO9 ⟨by decide, rfl⟩ rfl rfl (Nat.le_of_ble_eq_true rfl) ⟨by omega, by decide⟩ ⟨Nat.le_refl _, Nat.le_refl _⟩ dX10_plug_45 ?_
        refine e_aload_n 0 dX10_plug_48 rfl rfl ?_
        obtain ⟨b12, hb13, hf⟩ := e_bd hf
        refine e_getR hO4 fc_10_4 lk_RX10_40 dX10_plug_49 hb13 ?_
        refine e_lload_n 1 dX10_plug_52 rfl rfl ?_
        obtain ⟨hO14, hf⟩ := e_if hf
        obtain ⟨r15, hr16, hf⟩ := e_bd hf
        refine e_callV (st := []) ml_RX10_340 k_X9_greatest (m_X9_greatest (d := d - 1) (by omega) hr16) hO14 ⟨by decide, rfl⟩ rfl rfl (Nat.le_of_ble_eq_true rfl) ⟨by omega, by decide⟩ ⟨Nat.le_refl _, Nat.le_refl _⟩ dX10_plug_53 ?_
        refine e_istore (lv' := [(6, .int _), (0, .ref _), (1, .long _), (3, .int _), (4, .int _), (5, .int _)]) dX10_plug_56 (by decide) rfl ?_
        refine e_iload 0 dX10_plug_58 rfl ?_
        refine e_iload 4 dX10_plug_60 rfl ?_
        refine e_icmp_ge (t := 72) dX10_plug_62 (by decide) (fun c => ?_) (fun c => ?_)
        · replace hf := e_it c hf
          refine e_iinc (lv' := [(5, .int _), (6, .int _), (0, .ref _), (1, .long _), (3, .int _), (4, .int _)]) 5 dX10_plug_72 rfl (by decide) rfl ?_
          refine e_goto (t := 15) dX10_plug_75 (by decide) ?_
          refine e_sub [2, 3, 4, 5, 0] rfl ?_
          exact ih _ _ _ _ _ _ hf
        · replace hf := e_ie c hf
          refine e_iload 0 dX10_plug_65 rfl ?_
          refine e_istore (lv' := [(4, .int _), (6, .int _), (0, .ref _), (1, .long _), (3, .int _), (5, .int _)]) dX10_plug_67 (by decide) rfl ?_
          refine e_iload 5 dX10_plug_69 rfl ?_
          refine e_istore_n (lv' := [(3, .int _), (4, .int _), (6, .int _), (0, .ref _), (1, .long _), (5, .int _)]) dX10_plug_71 rfl (by decide) rfl ?_
          refine e_iinc (lv' := [(5, .int _), (3, .int _), (4, .int _), (6, .int _), (0, .ref _), (1, .long _)]) 5 dX10_plug_72 rfl (by decide) rfl ?_
          refine e_goto (t := 15) dX10_plug_75 (by decide) ?_
          refine e_sub [4, 5, 1, 2, 0] rfl ?_
          exact ih _ _ _ _ _ _ hf
      · replace hf := e_it c hf
        refine e_goto (t := 72) dX10_plug_31 (by decide) ?_
        refine e_iinc (lv' := [(5, .int _), (0, .ref _), (1, .long _), (3, .int _), (4, .int _)]) 4 dX10_plug_72 rfl (by decide) rfl ?_
        refine e_goto (t := 15) dX10_plug_75 (by decide) ?_
        refine e_sub [1, 2, 3, 4, 0] rfl ?_
        exact ih _ _ _ _ _ _ hf
def f_X10_plug (L : eL) (h : eH) (v0 : Nat) : Option (eH × Int32) :=
  if isO L v0 10 = true then
  (f_X10_free L h v0).bind fun r2 =>
  f_X10_plug_L15 L e_fu (fun (h17 : eH) (w0_18 : Nat) (w3_19 : Int32) (w4_20 : Int32) =>
    if isO L w0_18 10 = true then
    (gR h17 w0_18 1).bind fun b22 =>
    if isO L b22 3 = true then
    (f_X3_begin L h17 b22).bind fun r25 =>
    (gR r25 w0_18 1).bind fun b27 =>
    if isO L b27 3 = true then
    (f_X3_add L r25 b27 w4_20.toInt64).bind fun r30 =>
    some (r30, w3_19)
    else none
    else none
    else none) h v0 r2 (-1) 501 0
  else none
set_option maxRecDepth 100000 in
set_option maxHeartbeats 4000000 in
theorem m_X10_plug {l : Launch} {d : Nat} {L : eL} {h : eH} {v0 : Nat} {r : eH × Int32} (hd : 4 ≤ d) (hf : f_X10_plug L h v0 = some r) : e_Met l yX10_plug cX10_plug 7 (some .int) d 0 0 true L h [.ref v0] (Qx (some (.int r.2)) L r.1) := by
  refine e_metl (by decide) (Nat.le_of_ble_eq_true rfl) (lv := [(0, .ref v0)]) rfl ?_
  unfold f_X10_plug at hf
  refine e_aload_n 0 dX10_plug_0 rfl rfl ?_
  obtain ⟨hO1, hf⟩ := e_if hf
  obtain ⟨r2, hr3, hf⟩ := e_bd hf
  refine e_callV (st := []) ml_RX10_186 k_X10_free (m_X10_free (d := d - 1) (by omega) hr3) hO1 ⟨by decide, rfl⟩ rfl rfl (Nat.le_of_ble_eq_true rfl) ⟨by omega, by decide⟩ ⟨Nat.le_refl _, Nat.le_refl _⟩ dX10_plug_1 ?_
  refine e_lstore_n (lv' := [(1, .long _), (0, .ref _)]) dX10_plug_4 rfl (by decide) rfl ?_
  refine e_iconst (v := (-1)) dX10_plug_5 (by decide) ?_
  refine e_istore_n (lv' := [(3, .int _), (1, .long _), (0, .ref _)]) dX10_plug_6 rfl (by decide) rfl ?_
  refine e_sipush (v := 501) dX10_plug_7 (by decide) ?_
  refine e_istore (lv' := [(4, .int _), (3, .int _), (1, .long _), (0, .ref _)]) dX10_plug_10 (by decide) rfl ?_
  refine e_iconst (v := 0) dX10_plug_12 (by decide) ?_
  refine e_istore (lv' := [(5, .int _), (4, .int _), (3, .int _), (1, .long _), (0, .ref _)]) dX10_plug_13 (by decide) rfl ?_
  refine e_sub [4, 3, 2, 1, 0] rfl ?_
  refine m_X10_plug_L15 hd ?_ e_fu _ _ _ _ _ _ hf
  · intro h17 w0_18 w3_19 w4_20 hf
    refine e_aload_n 0 dX10_plug_78 rfl rfl ?_
    obtain ⟨hO21, hf⟩ := e_if hf
    obtain ⟨b22, hb23, hf⟩ := e_bd hf
    refine e_getR hO21 fc_10_1 lk_RX10_19 dX10_plug_79 hb23 ?_
    obtain ⟨hO24, hf⟩ := e_if hf
    obtain ⟨r25, hr26, hf⟩ := e_bd hf
    refine e_callV (st := []) ml_RX10_267 k_X3_begin (m_X3_begin (d := d - 1) (by omega) hr26) hO24 ⟨by decide, rfl⟩ rfl rfl (Nat.le_of_ble_eq_true rfl) ⟨by omega, by decide⟩ ⟨Nat.le_refl _, Nat.le_refl _⟩ dX10_plug_82 ?_
    refine e_aload_n 0 dX10_plug_85 rfl rfl ?_
    obtain ⟨b27, hb28, hf⟩ := e_bd hf
    refine e_getR hO21 fc_10_1 lk_RX10_19 dX10_plug_86 hb28 ?_
    refine e_iload 2 dX10_plug_89 rfl ?_
    refine e_i2l dX10_plug_91 ?_
    obtain ⟨hO29, hf⟩ := e_if hf
    obtain ⟨r30, hr31, hf⟩ := e_bd hf
    refine e_callV (st := []) ml_RX10_269 k_X3_add (m_X3_add (d := d - 1) (by omega) hr31) hO29 ⟨by decide, rfl⟩ rfl rfl (Nat.le_of_ble_eq_true rfl) ⟨by omega, by decide⟩ ⟨Nat.le_refl _, Nat.le_refl _⟩ dX10_plug_92 ?_
    refine e_iload_n 1 dX10_plug_95 rfl rfl ?_
    exact e_iret rfl dX10_plug_96 (qW hf)
def f_X10_doors_L74 (L : eL) : Nat → (eH → Nat → Int64 → Option (eH × Int32)) → eH → Nat → Int64 → Int64 → Int64 → Int32 → Option (eH × Int32)
  | 0, _, _, _, _, _, _, _ => none
  | n + 1, k144, h, v0, v1, v3, v5, v7 =>
    if 36 ≤ v7 then
      k144 h v0 v5
    else
      if (f_X10_holds v3 v7) = 0 then
        f_X10_doors_L74 L n k144 h v0 v1 v3 v5 (v7 + Int32.ofInt 1)
      else
        if isO L v0 10 = true then
        (gR h v0 15).bind fun b22 =>
        (gR h v0 7).bind fun b24 =>
        if isO L b24 6 = true then
        if isO L b22 2 = true then
        (f_X2_reach L h b22 (v1 &&& ((f_X10_bit v7) ^^^ (-1))) (gI h b24 1)).bind fun r28 =>
        (gR h v0 15).bind fun b30 =>
        if isO L b30 2 = true then
        if (f_X10_holds r28 (gI h b30 3)) = 0 then
          f_X10_doors_L74 L n k144 h v0 v1 v3 (v5 ||| (f_X10_bit v7)) (v7 + Int32.ofInt 1)
        else
          f_X10_doors_L74 L n k144 h v0 v1 v3 v5 (v7 + Int32.ofInt 1)
        else none
        else none
        else none
        else none
set_option maxRecDepth 100000 in
set_option maxHeartbeats 4000000 in
theorem m_X10_doors_L74 {l : Launch} {d : Nat} {L : eL}  {r : eH × Int32} {k144 : eH → Nat → Int64 → Option (eH × Int32)} (hd : 4 ≤ d) (hk144 : ∀ (h : eH) (v0 : Nat) (v5 : Int64), k144 h v0 v5 = some r → E l yX10_doors cX10_doors 8 (some .int) (e_rm d 0 0) 0 0 true L (Qx (some (.int r.2)) L r.1) L h 0 0 144 [(0, .ref v0), (5, .long v5)] []) : ∀ (n : Nat) (h : eH) (v0 : Nat) (v1 : Int64) (v3 : Int64) (v5 : Int64) (v7 : Int32), f_X10_doors_L74 L n k144 h v0 v1 v3 v5 v7 = some r → E l yX10_doors cX10_doors 8 (some .int) (e_rm d 0 0) 0 0 true L (Qx (some (.int r.2)) L r.1) L h 0 0 74 [(0, .ref v0), (1, .long v1), (3, .long v3), (5, .long v5), (7, .int v7)] [] := by
  intro n
  induction n with
  | zero => intro h v0 v1 v3 v5 v7 hf; exact absurd hf (by simp [f_X10_doors_L74])
  | succ n ih =>
    intro h v0 v1 v3 v5 v7 hf
    unfold f_X10_doors_L74 at hf
    refine e_iload 4 dX10_doors_74 rfl ?_
    refine e_bipush (v := 36) dX10_doors_76 (by decide) ?_
    refine e_icmp_ge (t := 144) dX10_doors_78 (by decide) (fun c => ?_) (fun c => ?_)
    · replace hf := e_it c hf
      refine e_sub [0, 3] rfl ?_
      exact hk144 _ _ _ hf
    · replace hf := e_ie c hf
      refine e_lload_n 2 dX10_doors_81 rfl rfl ?_
      refine e_iload 4 dX10_doors_82 rfl ?_
      refine e_callS (st := []) ml_RX10_169 k_X10_holds (m_X10_holds (d := d - 1) (by omega) rfl) rfl rfl (Nat.le_of_ble_eq_true rfl) ⟨by omega, by decide⟩ ⟨Nat.le_refl _, Nat.le_refl _⟩ dX10_doors_84 ?_
      refine e_if_eq (t := 138) dX10_doors_87 (by decide) (fun c => ?_) (fun c => ?_)
      · replace hf := e_it c hf
        refine e_iinc (lv' := [(7, .int _), (0, .ref _), (1, .long _), (3, .long _), (5, .long _)]) 4 dX10_doors_138 rfl (by decide) rfl ?_
        refine e_goto (t := 74) dX10_doors_141 (by decide) ?_
        refine e_sub [1, 2, 3, 4, 0] rfl ?_
        exact ih _ _ _ _ _ _ hf
      · replace hf := e_ie c hf
        refine e_aload_n 0 dX10_doors_90 rfl rfl ?_
        obtain ⟨hO21, hf⟩ := e_if hf
        obtain ⟨b22, hb23, hf⟩ := e_bd hf
        refine e_getR hO21 fc_10_15 lk_RX10_92 dX10_doors_91 hb23 ?_
        refine e_lload_n 1 dX10_doors_94 rfl rfl ?_
        refine e_iload 4 dX10_doors_95 rfl ?_
        refine e_callS (st := [.long _, .ref _]) ml_RX10_289 k_X10_bit (m_X10_bit (d := d - 1) (by omega) rfl) rfl rfl (Nat.le_of_ble_eq_true rfl) ⟨by omega, by decide⟩ ⟨Nat.le_refl _, Nat.le_refl _⟩ dX10_doors_97 ?_
        refine e_ldc2 kc_RX10_305 dX10_doors_100 ?_
        refine e_lxor dX10_doors_103 ?_
        refine e_land dX10_doors_104 ?_
        refine e_aload_n 0 dX10_doors_105 rfl rfl ?_
        obtain ⟨b24, hb25, hf⟩ := e_bd hf
        refine e_getR hO21 fc_10_7 lk_RX10_61 dX10_doors_106 hb25 ?_
        obtain ⟨hO26, hf⟩ := e_if hf
        refine e_getIN hO26 fc_6_1 lk_RX10_183 dX10_doors_109 ?_
        obtain ⟨hO27, hf⟩ := e_if hf
        obtain ⟨r28, hr29, hf⟩ := e_bd hf
        refine e_callV (st := []) ml_RX10_313 k_X2_reach (m_X2_reach (d := d - 1) (by omega) hr29) hO27 ⟨by decide, rfl⟩ rfl rfl (Nat.le_of_ble_eq_true rfl) ⟨by omega, by decide⟩ ⟨Nat.le_refl _, Nat.le_refl _⟩ dX10_doors_112 ?_
        refine e_aload_n 0 dX10_doors_115 rfl rfl ?_
        obtain ⟨b30, hb31, hf⟩ := e_bd hf
        refine e_getR hO21 fc_10_15 lk_RX10_92 dX10_doors_116 hb31 ?_
        obtain ⟨hO32, hf⟩ := e_if hf
        refine e_getIN hO32 fc_2_3 lk_RX10_180 dX10_doors_119 ?_
        refine e_callS (st := []) ml_RX10_169 k_X10_holds (m_X10_holds (d := d - 1) (by omega) rfl) rfl rfl (Nat.le_of_ble_eq_true rfl) ⟨by omega, by decide⟩ ⟨Nat.le_refl _, Nat.le_refl _⟩ dX10_doors_122 ?_
        refine e_if_ne (t := 138) dX10_doors_125 (by decide) (fun c => ?_) (fun c => ?_)
        · replace hf := e_ie c hf
          refine e_iinc (lv' := [(7, .int _), (0, .ref _), (1, .long _), (3, .long _), (5, .long _)]) 4 dX10_doors_138 rfl (by decide) rfl ?_
          refine e_goto (t := 74) dX10_doors_141 (by decide) ?_
          refine e_sub [1, 2, 3, 4, 0] rfl ?_
          exact ih _ _ _ _ _ _ hf
        · replace hf := e_it c hf
          refine e_lload 3 dX10_doors_128 rfl ?_
          refine e_iload 4 dX10_doors_130 rfl ?_
          refine e_callS (st := [.long _]) ml_RX10_289 k_X10_bit (m_X10_bit (d := d - 1) (by omega) rfl) rfl rfl (Nat.le_of_ble_eq_true rfl) ⟨by omega, by decide⟩ ⟨Nat.le_refl _, Nat.le_refl _⟩ dX10_doors_132 ?_
          refine e_lor dX10_doors_135 ?_
          refine e_lstore (lv' := [(5, .long _), (0, .ref _), (1, .long _), (3, .long _), (7, .int _)]) dX10_doors_136 (by decide) rfl ?_
          refine e_iinc (lv' := [(7, .int _), (5, .long _), (0, .ref _), (1, .long _), (3, .long _)]) 4 dX10_doors_138 rfl (by decide) rfl ?_
          refine e_goto (t := 74) dX10_doors_141 (by decide) ?_
          refine e_sub [2, 3, 4, 1, 0] rfl ?_
          exact ih _ _ _ _ _ _ hf
def f_X10_doors (L : eL) (h : eH) (v0 : Nat) : Option (eH × Int32) :=
  if isO L v0 10 = true then
  (f_X10_free L h v0).bind fun r2 =>
  (gR h v0 15).bind fun b4 =>
  (gR h v0 7).bind fun b6 =>
  if isO L b6 6 = true then
  if isO L b4 2 = true then
  (f_X2_reach L h b4 r2 (gI h b6 1)).bind fun r10 =>
  (gR h v0 15).bind fun b12 =>
  if isO L b12 2 = true then
  if (f_X10_holds r10 (gI h b12 3)) = 0 then
    some (h, (-2))
  else
    (gR h v0 7).bind fun b15 =>
    if isO L b15 6 = true then
    (gR h v0 15).bind fun b18 =>
    if isO L b18 2 = true then
    f_X10_doors_L74 L e_fu (fun (h33 : eH) (w0_34 : Nat) (w5_35 : Int64) =>
      if isO L w0_34 10 = true then
      (gR h33 w0_34 1).bind fun b37 =>
      if isO L b37 3 = true then
      (f_X3_begin L h33 b37).bind fun r40 =>
      (gR r40 w0_34 1).bind fun b42 =>
      if isO L b42 3 = true then
      (f_X3_add L r40 b42 w5_35).bind fun r45 =>
      some (r45, f_J13_bitCount_95d88 w5_35)
      else none
      else none
      else none) h v0 r2 ((r2 &&& ((f_X10_bit (gI h b15 1)) ^^^ (-1))) &&& ((f_X10_bit (gI h b18 3)) ^^^ (-1))) 0 0
    else none
    else none
  else none
  else none
  else none
  else none
set_option maxRecDepth 100000 in
set_option maxHeartbeats 4000000 in
theorem m_X10_doors {l : Launch} {d : Nat} {L : eL} {h : eH} {v0 : Nat} {r : eH × Int32} (hd : 4 ≤ d) (hf : f_X10_doors L h v0 = some r) : e_Met l yX10_doors cX10_doors 8 (some .int) d 0 0 true L h [.ref v0] (Qx (some (.int r.2)) L r.1) := by
  refine e_metl (by decide) (Nat.le_of_ble_eq_true rfl) (lv := [(0, .ref v0)]) rfl ?_
  unfold f_X10_doors at hf
  refine e_aload_n 0 dX10_doors_0 rfl rfl ?_
  obtain ⟨hO1, hf⟩ := e_if hf
  obtain ⟨r2, hr3, hf⟩ := e_bd hf
  refine e_callV (st := []) ml_RX10_186 k_X10_free (m_X10_free (d := d - 1) (by omega) hr3) hO1 ⟨by decide, rfl⟩ rfl rfl (Nat.le_of_ble_eq_true rfl) ⟨by omega, by decide⟩ ⟨Nat.le_refl _, Nat.le_refl _⟩ dX10_doors_1 ?_
  refine e_lstore_n (lv' := [(1, .long _), (0, .ref _)]) dX10_doors_4 rfl (by decide) rfl ?_
  refine e_aload_n 1 dX10_doors_5 rfl rfl ?_
  obtain ⟨b4, hb5, hf⟩ := e_bd hf
  refine e_getR hO1 fc_10_15 lk_RX10_92 dX10_doors_6 hb5 ?_
  refine e_lload_n 0 dX10_doors_9 rfl rfl ?_
  refine e_aload_n 1 dX10_doors_10 rfl rfl ?_
  obtain ⟨b6, hb7, hf⟩ := e_bd hf
  refine e_getR hO1 fc_10_7 lk_RX10_61 dX10_doors_11 hb7 ?_
  obtain ⟨hO8, hf⟩ := e_if hf
  refine e_getIN hO8 fc_6_1 lk_RX10_183 dX10_doors_14 ?_
  obtain ⟨hO9, hf⟩ := e_if hf
  obtain ⟨r10, hr11, hf⟩ := e_bd hf
  refine e_callV (st := []) ml_RX10_313 k_X2_reach (m_X2_reach (d := d - 1) (by omega) hr11) hO9 ⟨by decide, rfl⟩ rfl rfl (Nat.le_of_ble_eq_true rfl) ⟨by omega, by decide⟩ ⟨Nat.le_refl _, Nat.le_refl _⟩ dX10_doors_17 ?_
  refine e_aload_n 1 dX10_doors_20 rfl rfl ?_
  obtain ⟨b12, hb13, hf⟩ := e_bd hf
  refine e_getR hO1 fc_10_15 lk_RX10_92 dX10_doors_21 hb13 ?_
  obtain ⟨hO14, hf⟩ := e_if hf
  refine e_getIN hO14 fc_2_3 lk_RX10_180 dX10_doors_24 ?_
  refine e_callS (st := []) ml_RX10_169 k_X10_holds (m_X10_holds (d := d - 1) (by omega) rfl) rfl rfl (Nat.le_of_ble_eq_true rfl) ⟨by omega, by decide⟩ ⟨Nat.le_refl _, Nat.le_refl _⟩ dX10_doors_27 ?_
  refine e_if_ne (t := 36) dX10_doors_30 (by decide) (fun c => ?_) (fun c => ?_)
  · replace hf := e_ie c hf
    refine e_lload_n 0 dX10_doors_36 rfl rfl ?_
    refine e_aload_n 1 dX10_doors_37 rfl rfl ?_
    obtain ⟨b15, hb16, hf⟩ := e_bd hf
    refine e_getR hO1 fc_10_7 lk_RX10_61 dX10_doors_38 hb16 ?_
    obtain ⟨hO17, hf⟩ := e_if hf
    refine e_getIN hO17 fc_6_1 lk_RX10_183 dX10_doors_41 ?_
    refine e_callS (st := [.long _]) ml_RX10_289 k_X10_bit (m_X10_bit (d := d - 1) (by omega) rfl) rfl rfl (Nat.le_of_ble_eq_true rfl) ⟨by omega, by decide⟩ ⟨Nat.le_refl _, Nat.le_refl _⟩ dX10_doors_44 ?_
    refine e_ldc2 kc_RX10_305 dX10_doors_47 ?_
    refine e_lxor dX10_doors_50 ?_
    refine e_land dX10_doors_51 ?_
    refine e_aload_n 1 dX10_doors_52 rfl rfl ?_
    obtain ⟨b18, hb19, hf⟩ := e_bd hf
    refine e_getR hO1 fc_10_15 lk_RX10_92 dX10_doors_53 hb19 ?_
    obtain ⟨hO20, hf⟩ := e_if hf
    refine e_getIN hO20 fc_2_3 lk_RX10_180 dX10_doors_56 ?_
    refine e_callS (st := [.long _]) ml_RX10_289 k_X10_bit (m_X10_bit (d := d - 1) (by omega) rfl) rfl rfl (Nat.le_of_ble_eq_true rfl) ⟨by omega, by decide⟩ ⟨Nat.le_refl _, Nat.le_refl _⟩ dX10_doors_59 ?_
    refine e_ldc2 kc_RX10_305 dX10_doors_62 ?_
    refine e_lxor dX10_doors_65 ?_
    refine e_land dX10_doors_66 ?_
    refine e_lstore_n (lv' := [(3, .long _), (1, .long _), (0, .ref _)]) dX10_doors_67 rfl (by decide) rfl ?_
    refine e_lconst (v := 0) dX10_doors_68 (by decide) ?_
    refine e_lstore (lv' := [(5, .long _), (3, .long _), (1, .long _), (0, .ref _)]) dX10_doors_69 (by decide) rfl ?_
    refine e_iconst (v := 0) dX10_doors_71 (by decide) ?_
    refine e_istore (lv' := [(7, .int _), (5, .long _), (3, .long _), (1, .long _), (0, .ref _)]) dX10_doors_72 (by decide) rfl ?_
    refine e_sub [4, 3, 2, 1, 0] rfl ?_
    refine m_X10_doors_L74 hd ?_ e_fu _ _ _ _ _ _ hf
    · intro h33 w0_34 w5_35 hf
      refine e_aload_n 0 dX10_doors_144 rfl rfl ?_
      obtain ⟨hO36, hf⟩ := e_if hf
      obtain ⟨b37, hb38, hf⟩ := e_bd hf
      refine e_getR hO36 fc_10_1 lk_RX10_19 dX10_doors_145 hb38 ?_
      obtain ⟨hO39, hf⟩ := e_if hf
      obtain ⟨r40, hr41, hf⟩ := e_bd hf
      refine e_callV (st := []) ml_RX10_267 k_X3_begin (m_X3_begin (d := d - 1) (by omega) hr41) hO39 ⟨by decide, rfl⟩ rfl rfl (Nat.le_of_ble_eq_true rfl) ⟨by omega, by decide⟩ ⟨Nat.le_refl _, Nat.le_refl _⟩ dX10_doors_148 ?_
      refine e_aload_n 0 dX10_doors_151 rfl rfl ?_
      obtain ⟨b42, hb43, hf⟩ := e_bd hf
      refine e_getR hO36 fc_10_1 lk_RX10_19 dX10_doors_152 hb43 ?_
      refine e_lload 1 dX10_doors_155 rfl ?_
      obtain ⟨hO44, hf⟩ := e_if hf
      obtain ⟨r45, hr46, hf⟩ := e_bd hf
      refine e_callV (st := []) ml_RX10_269 k_X3_add (m_X3_add (d := d - 1) (by omega) hr46) hO44 ⟨by decide, rfl⟩ rfl rfl (Nat.le_of_ble_eq_true rfl) ⟨by omega, by decide⟩ ⟨Nat.le_refl _, Nat.le_refl _⟩ dX10_doors_157 ?_
      refine e_lload 1 dX10_doors_160 rfl ?_
      refine e_callS (st := []) ml_RX10_143 k_J13_bitCount_95d88 (m_J13_bitCount_95d88 (d := d - 1) (by omega) rfl) rfl rfl (Nat.le_of_ble_eq_true rfl) ⟨by omega, by decide⟩ ⟨Nat.le_refl _, Nat.le_refl _⟩ dX10_doors_162 ?_
      exact e_iret rfl dX10_doors_165 (qW hf)
  · replace hf := e_it c hf
    refine e_bipush (v := (-2)) dX10_doors_33 (by decide) ?_
    exact e_iret rfl dX10_doors_35 (qW hf)
def f_X10_chairs_L48 (L : eL) : Nat → (eH → Nat → Int32 → Int32 → Option (eH × Int32)) → eH → Nat → Int64 → Int32 → Int32 → Int32 → Int32 → Option (eH × Int32)
  | 0, _, _, _, _, _, _, _, _ => none
  | n + 1, k122, h, v0, v1, v3, v4, v5, v6 =>
    if 36 ≤ v6 then
      k122 h v0 v4 v5
    else
      if isO L v0 10 = true then
      (gR h v0 7).bind fun b16 =>
      if isO L b16 6 = true then
      if (f_X10_holds (gL h b16 8) v6) = 0 then
        f_X10_chairs_L48 L n k122 h v0 v1 v3 v4 v5 (v6 + Int32.ofInt 1)
      else
        (gR h v0 15).bind fun b19 =>
        (gR h v0 7).bind fun b21 =>
        if isO L b21 6 = true then
        if isO L b19 2 = true then
        (f_X2_reach L h b19 (v1 ||| (f_X10_bit v6)) (gI h b21 1)).bind fun r25 =>
        if ((f_J13_bitCount_95d88 r25) - v3) ≤ v5 then
          f_X10_chairs_L48 L n k122 h v0 v1 v3 v4 v5 (v6 + Int32.ofInt 1)
        else
          f_X10_chairs_L48 L n k122 h v0 v1 v3 v6 ((f_J13_bitCount_95d88 r25) - v3) (v6 + Int32.ofInt 1)
        else none
        else none
      else none
      else none
set_option maxRecDepth 100000 in
set_option maxHeartbeats 4000000 in
theorem m_X10_chairs_L48 {l : Launch} {d : Nat} {L : eL}  {r : eH × Int32} {k122 : eH → Nat → Int32 → Int32 → Option (eH × Int32)} (hd : 4 ≤ d) (hk122 : ∀ (h : eH) (v0 : Nat) (v4 : Int32) (v5 : Int32), k122 h v0 v4 v5 = some r → E l yX10_chairs cX10_chairs 8 (some .int) (e_rm d 0 0) 0 0 true L (Qx (some (.int r.2)) L r.1) L h 0 0 122 [(0, .ref v0), (4, .int v4), (5, .int v5)] []) : ∀ (n : Nat) (h : eH) (v0 : Nat) (v1 : Int64) (v3 : Int32) (v4 : Int32) (v5 : Int32) (v6 : Int32), f_X10_chairs_L48 L n k122 h v0 v1 v3 v4 v5 v6 = some r → E l yX10_chairs cX10_chairs 8 (some .int) (e_rm d 0 0) 0 0 true L (Qx (some (.int r.2)) L r.1) L h 0 0 48 [(0, .ref v0), (1, .long v1), (3, .int v3), (4, .int v4), (5, .int v5), (6, .int v6)] [] := by
  intro n
  induction n with
  | zero => intro h v0 v1 v3 v4 v5 v6 hf; exact absurd hf (by simp [f_X10_chairs_L48])
  | succ n ih =>
    intro h v0 v1 v3 v4 v5 v6 hf
    unfold f_X10_chairs_L48 at hf
    refine e_iload 5 dX10_chairs_48 rfl ?_
    refine e_bipush (v := 36) dX10_chairs_50 (by decide) ?_
    refine e_icmp_ge (t := 122) dX10_chairs_52 (by decide) (fun c => ?_) (fun c => ?_)
    · replace hf := e_it c hf
      refine e_sub [0, 3, 4] rfl ?_
      exact hk122 _ _ _ _ hf
    · replace hf := e_ie c hf
      refine e_aload_n 0 dX10_chairs_55 rfl rfl ?_
      obtain ⟨hO15, hf⟩ := e_if hf
      obtain ⟨b16, hb17, hf⟩ := e_bd hf
      refine e_getR hO15 fc_10_7 lk_RX10_61 dX10_chairs_56 hb17 ?_
      obtain ⟨hO18, hf⟩ := e_if hf
      refine e_getLN hO18 fc_6_8 lk_RX10_166 dX10_chairs_59 ?_
      refine e_iload 5 dX10_chairs_62 rfl ?_
      refine e_callS (st := []) ml_RX10_169 k_X10_holds (m_X10_holds (d := d - 1) (by omega) rfl) rfl rfl (Nat.le_of_ble_eq_true rfl) ⟨by omega, by decide⟩ ⟨Nat.le_refl _, Nat.le_refl _⟩ dX10_chairs_64 ?_
      refine e_if_ne (t := 73) dX10_chairs_67 (by decide) (fun c => ?_) (fun c => ?_)
      · replace hf := e_ie c hf
        refine e_aload_n 0 dX10_chairs_73 rfl rfl ?_
        obtain ⟨b19, hb20, hf⟩ := e_bd hf
        refine e_getR hO15 fc_10_15 lk_RX10_92 dX10_chairs_74 hb20 ?_
        refine e_lload_n 1 dX10_chairs_77 rfl rfl ?_
        refine e_iload 5 dX10_chairs_78 rfl ?_
        refine e_callS (st := [.long _, .ref _]) ml_RX10_289 k_X10_bit (m_X10_bit (d := d - 1) (by omega) rfl) rfl rfl (Nat.le_of_ble_eq_true rfl) ⟨by omega, by decide⟩ ⟨Nat.le_refl _, Nat.le_refl _⟩ dX10_chairs_80 ?_
        refine e_lor dX10_chairs_83 ?_
        refine e_aload_n 0 dX10_chairs_84 rfl rfl ?_
        obtain ⟨b21, hb22, hf⟩ := e_bd hf
        refine e_getR hO15 fc_10_7 lk_RX10_61 dX10_chairs_85 hb22 ?_
        obtain ⟨hO23, hf⟩ := e_if hf
        refine e_getIN hO23 fc_6_1 lk_RX10_183 dX10_chairs_88 ?_
        obtain ⟨hO24, hf⟩ := e_if hf
        obtain ⟨r25, hr26, hf⟩ := e_bd hf
        refine e_callV (st := []) ml_RX10_313 k_X2_reach (m_X2_reach (d := d - 1) (by omega) hr26) hO24 ⟨by decide, rfl⟩ rfl rfl (Nat.le_of_ble_eq_true rfl) ⟨by omega, by decide⟩ ⟨Nat.le_refl _, Nat.le_refl _⟩ dX10_chairs_91 ?_
        refine e_callS (st := []) ml_RX10_143 k_J13_bitCount_95d88 (m_J13_bitCount_95d88 (d := d - 1) (by omega) rfl) rfl rfl (Nat.le_of_ble_eq_true rfl) ⟨by omega, by decide⟩ ⟨Nat.le_refl _, Nat.le_refl _⟩ dX10_chairs_94 ?_
        refine e_iload_n 2 dX10_chairs_97 rfl rfl ?_
        refine e_isub dX10_chairs_98 ?_
        refine e_istore (lv' := [(7, .int _), (0, .ref _), (1, .long _), (3, .int _), (4, .int _), (5, .int _), (6, .int _)]) dX10_chairs_99 (by decide) rfl ?_
        refine e_iload 0 dX10_chairs_101 rfl ?_
        refine e_iload 5 dX10_chairs_103 rfl ?_
        refine e_icmp_le (t := 116) dX10_chairs_105 (by decide) (fun c => ?_) (fun c => ?_)
        · replace hf := e_it c hf
          refine e_iinc (lv' := [(6, .int _), (7, .int _), (0, .ref _), (1, .long _), (3, .int _), (4, .int _), (5, .int _)]) 6 dX10_chairs_116 rfl (by decide) rfl ?_
          refine e_goto (t := 48) dX10_chairs_119 (by decide) ?_
          refine e_sub [2, 3, 4, 5, 6, 0] rfl ?_
          exact ih _ _ _ _ _ _ _ hf
        · replace hf := e_ie c hf
          refine e_iload 0 dX10_chairs_108 rfl ?_
          refine e_istore (lv' := [(5, .int _), (7, .int _), (0, .ref _), (1, .long _), (3, .int _), (4, .int _), (6, .int _)]) dX10_chairs_110 (by decide) rfl ?_
          refine e_iload 6 dX10_chairs_112 rfl ?_
          refine e_istore (lv' := [(4, .int _), (5, .int _), (7, .int _), (0, .ref _), (1, .long _), (3, .int _), (6, .int _)]) dX10_chairs_114 (by decide) rfl ?_
          refine e_iinc (lv' := [(6, .int _), (4, .int _), (5, .int _), (7, .int _), (0, .ref _), (1, .long _), (3, .int _)]) 6 dX10_chairs_116 rfl (by decide) rfl ?_
          refine e_goto (t := 48) dX10_chairs_119 (by decide) ?_
          refine e_sub [4, 5, 6, 1, 2, 0] rfl ?_
          exact ih _ _ _ _ _ _ _ hf
      · replace hf := e_it c hf
        refine e_goto (t := 116) dX10_chairs_70 (by decide) ?_
        refine e_iinc (lv' := [(6, .int _), (0, .ref _), (1, .long _), (3, .int _), (4, .int _), (5, .int _)]) 5 dX10_chairs_116 rfl (by decide) rfl ?_
        refine e_goto (t := 48) dX10_chairs_119 (by decide) ?_
        refine e_sub [1, 2, 3, 4, 5, 0] rfl ?_
        exact ih _ _ _ _ _ _ _ hf
def f_X10_chairs (L : eL) (h : eH) (v0 : Nat) : Option (eH × Int32) :=
  if isO L v0 10 = true then
  (gR h v0 7).bind fun b2 =>
  if isO L b2 6 = true then
  if (lg_cmp (gL h b2 8) 0) = 0 then
    some (h, (-2))
  else
    (f_X10_free L h v0).bind fun r5 =>
    (gR h v0 15).bind fun b7 =>
    (gR h v0 7).bind fun b9 =>
    if isO L b9 6 = true then
    if isO L b7 2 = true then
    (f_X2_reach L h b7 r5 (gI h b9 1)).bind fun r13 =>
    f_X10_chairs_L48 L e_fu (fun (h27 : eH) (w0_28 : Nat) (w4_29 : Int32) (w5_30 : Int32) =>
      if isO L w0_28 10 = true then
      (gR h27 w0_28 1).bind fun b32 =>
      if isO L b32 3 = true then
      (f_X3_begin L h27 b32).bind fun r35 =>
      (gR r35 w0_28 1).bind fun b37 =>
      if isO L b37 3 = true then
      (f_X3_add L r35 b37 w5_30.toInt64).bind fun r40 =>
      some (r40, w4_29)
      else none
      else none
      else none) h v0 r5 (f_J13_bitCount_95d88 r13) (-1) (-1) 0
    else none
    else none
  else none
  else none
set_option maxRecDepth 100000 in
set_option maxHeartbeats 4000000 in
theorem m_X10_chairs {l : Launch} {d : Nat} {L : eL} {h : eH} {v0 : Nat} {r : eH × Int32} (hd : 4 ≤ d) (hf : f_X10_chairs L h v0 = some r) : e_Met l yX10_chairs cX10_chairs 8 (some .int) d 0 0 true L h [.ref v0] (Qx (some (.int r.2)) L r.1) := by
  refine e_metl (by decide) (Nat.le_of_ble_eq_true rfl) (lv := [(0, .ref v0)]) rfl ?_
  unfold f_X10_chairs at hf
  refine e_aload_n 0 dX10_chairs_0 rfl rfl ?_
  obtain ⟨hO1, hf⟩ := e_if hf
  obtain ⟨b2, hb3, hf⟩ := e_bd hf
  refine e_getR hO1 fc_10_7 lk_RX10_61 dX10_chairs_1 hb3 ?_
  obtain ⟨hO4, hf⟩ := e_if hf
  refine e_getLN hO4 fc_6_8 lk_RX10_166 dX10_chairs_4 ?_
  refine e_lconst (v := 0) dX10_chairs_7 (by decide) ?_
  refine e_lcmp dX10_chairs_8 ?_
  refine e_if_ne (t := 15) dX10_chairs_9 (by decide) (fun c => ?_) (fun c => ?_)
  · replace hf := e_ie c hf
    refine e_aload_n 0 dX10_chairs_15 rfl rfl ?_
    obtain ⟨r5, hr6, hf⟩ := e_bd hf
    refine e_callV (st := []) ml_RX10_186 k_X10_free (m_X10_free (d := d - 1) (by omega) hr6) hO1 ⟨by decide, rfl⟩ rfl rfl (Nat.le_of_ble_eq_true rfl) ⟨by omega, by decide⟩ ⟨Nat.le_refl _, Nat.le_refl _⟩ dX10_chairs_16 ?_
    refine e_lstore_n (lv' := [(1, .long _), (0, .ref _)]) dX10_chairs_19 rfl (by decide) rfl ?_
    refine e_aload_n 1 dX10_chairs_20 rfl rfl ?_
    obtain ⟨b7, hb8, hf⟩ := e_bd hf
    refine e_getR hO1 fc_10_15 lk_RX10_92 dX10_chairs_21 hb8 ?_
    refine e_lload_n 0 dX10_chairs_24 rfl rfl ?_
    refine e_aload_n 1 dX10_chairs_25 rfl rfl ?_
    obtain ⟨b9, hb10, hf⟩ := e_bd hf
    refine e_getR hO1 fc_10_7 lk_RX10_61 dX10_chairs_26 hb10 ?_
    obtain ⟨hO11, hf⟩ := e_if hf
    refine e_getIN hO11 fc_6_1 lk_RX10_183 dX10_chairs_29 ?_
    obtain ⟨hO12, hf⟩ := e_if hf
    obtain ⟨r13, hr14, hf⟩ := e_bd hf
    refine e_callV (st := []) ml_RX10_313 k_X2_reach (m_X2_reach (d := d - 1) (by omega) hr14) hO12 ⟨by decide, rfl⟩ rfl rfl (Nat.le_of_ble_eq_true rfl) ⟨by omega, by decide⟩ ⟨Nat.le_refl _, Nat.le_refl _⟩ dX10_chairs_32 ?_
    refine e_callS (st := []) ml_RX10_143 k_J13_bitCount_95d88 (m_J13_bitCount_95d88 (d := d - 1) (by omega) rfl) rfl rfl (Nat.le_of_ble_eq_true rfl) ⟨by omega, by decide⟩ ⟨Nat.le_refl _, Nat.le_refl _⟩ dX10_chairs_35 ?_
    refine e_istore_n (lv' := [(3, .int _), (1, .long _), (0, .ref _)]) dX10_chairs_38 rfl (by decide) rfl ?_
    refine e_iconst (v := (-1)) dX10_chairs_39 (by decide) ?_
    refine e_istore (lv' := [(4, .int _), (3, .int _), (1, .long _), (0, .ref _)]) dX10_chairs_40 (by decide) rfl ?_
    refine e_iconst (v := (-1)) dX10_chairs_42 (by decide) ?_
    refine e_istore (lv' := [(5, .int _), (4, .int _), (3, .int _), (1, .long _), (0, .ref _)]) dX10_chairs_43 (by decide) rfl ?_
    refine e_iconst (v := 0) dX10_chairs_45 (by decide) ?_
    refine e_istore (lv' := [(6, .int _), (5, .int _), (4, .int _), (3, .int _), (1, .long _), (0, .ref _)]) dX10_chairs_46 (by decide) rfl ?_
    refine e_sub [5, 4, 3, 2, 1, 0] rfl ?_
    refine m_X10_chairs_L48 hd ?_ e_fu _ _ _ _ _ _ _ hf
    · intro h27 w0_28 w4_29 w5_30 hf
      refine e_aload_n 0 dX10_chairs_122 rfl rfl ?_
      obtain ⟨hO31, hf⟩ := e_if hf
      obtain ⟨b32, hb33, hf⟩ := e_bd hf
      refine e_getR hO31 fc_10_1 lk_RX10_19 dX10_chairs_123 hb33 ?_
      obtain ⟨hO34, hf⟩ := e_if hf
      obtain ⟨r35, hr36, hf⟩ := e_bd hf
      refine e_callV (st := []) ml_RX10_267 k_X3_begin (m_X3_begin (d := d - 1) (by omega) hr36) hO34 ⟨by decide, rfl⟩ rfl rfl (Nat.le_of_ble_eq_true rfl) ⟨by omega, by decide⟩ ⟨Nat.le_refl _, Nat.le_refl _⟩ dX10_chairs_126 ?_
      refine e_aload_n 0 dX10_chairs_129 rfl rfl ?_
      obtain ⟨b37, hb38, hf⟩ := e_bd hf
      refine e_getR hO31 fc_10_1 lk_RX10_19 dX10_chairs_130 hb38 ?_
      refine e_iload 2 dX10_chairs_133 rfl ?_
      refine e_i2l dX10_chairs_135 ?_
      obtain ⟨hO39, hf⟩ := e_if hf
      obtain ⟨r40, hr41, hf⟩ := e_bd hf
      refine e_callV (st := []) ml_RX10_269 k_X3_add (m_X3_add (d := d - 1) (by omega) hr41) hO39 ⟨by decide, rfl⟩ rfl rfl (Nat.le_of_ble_eq_true rfl) ⟨by omega, by decide⟩ ⟨Nat.le_refl _, Nat.le_refl _⟩ dX10_chairs_136 ?_
      refine e_iload 1 dX10_chairs_139 rfl ?_
      exact e_iret rfl dX10_chairs_141 (qW hf)
  · replace hf := e_it c hf
    refine e_bipush (v := (-2)) dX10_chairs_12 (by decide) ?_
    exact e_iret rfl dX10_chairs_14 (qW hf)
def f_X7_noteFound_L12 (L : eL) : Nat → (eH → Option eH) → eH → Nat → Int32 → Int32 → Option eH
  | 0, _, _, _, _, _ => none
  | n + 1, k41, h, v0, v1, v3 =>
    if v1 ≤ v3 then
      k41 h
    else
      if 6 ≤ v3 then
        k41 h
      else
        if isO L v0 7 = true then
        (gR h v0 1).bind fun b3 =>
        (gR h v0 0).bind fun b5 =>
        if inA L b5 0 v3 = true then
        if inA L b3 0 v3 = true then
        (some (sI h b3 v3.toNatClampNeg (gI h b5 v3.toNatClampNeg))).bind fun h9 =>
        f_X7_noteFound_L12 L n k41 h9 v0 v1 (v3 + Int32.ofInt 1)
        else none
        else none
        else none
set_option maxRecDepth 100000 in
set_option maxHeartbeats 4000000 in
theorem m_X7_noteFound_L12 {l : Launch} {d : Nat} {L : eL}  {r : eH} {k41 : eH → Option eH} (hd : 1 ≤ d) (hk41 : ∀ (h : eH), k41 h = some r → E l yX7_noteFound cX7_noteFound 4 none (e_rm d 0 0) 0 0 true L (Qx none L r) L h 0 0 41 [] []) : ∀ (n : Nat) (h : eH) (v0 : Nat) (v1 : Int32) (v3 : Int32), f_X7_noteFound_L12 L n k41 h v0 v1 v3 = some r → E l yX7_noteFound cX7_noteFound 4 none (e_rm d 0 0) 0 0 true L (Qx none L r) L h 0 0 12 [(0, .ref v0), (1, .int v1), (3, .int v3)] [] := by
  intro n
  induction n with
  | zero => intro h v0 v1 v3 hf; exact absurd hf (by simp [f_X7_noteFound_L12])
  | succ n ih =>
    intro h v0 v1 v3 hf
    unfold f_X7_noteFound_L12 at hf
    refine e_iload_n 2 dX7_noteFound_12 rfl rfl ?_
    refine e_iload_n 1 dX7_noteFound_13 rfl rfl ?_
    refine e_icmp_ge (t := 41) dX7_noteFound_14 (by decide) (fun c => ?_) (fun c => ?_)
    · replace hf := e_it c hf
      refine e_sub [] rfl ?_
      exact hk41 _ hf
    · replace hf := e_ie c hf
      refine e_iload_n 2 dX7_noteFound_17 rfl rfl ?_
      refine e_bipush (v := 6) dX7_noteFound_18 (by decide) ?_
      refine e_icmp_ge (t := 41) dX7_noteFound_20 (by decide) (fun c => ?_) (fun c => ?_)
      · replace hf := e_it c hf
        refine e_sub [] rfl ?_
        exact hk41 _ hf
      · replace hf := e_ie c hf
        refine e_aload_n 0 dX7_noteFound_23 rfl rfl ?_
        obtain ⟨hO2, hf⟩ := e_if hf
        obtain ⟨b3, hb4, hf⟩ := e_bd hf
        refine e_getR hO2 fc_7_1 lk_RX7_15 dX7_noteFound_24 hb4 ?_
        refine e_iload_n 2 dX7_noteFound_27 rfl rfl ?_
        refine e_aload_n 0 dX7_noteFound_28 rfl rfl ?_
        obtain ⟨b5, hb6, hf⟩ := e_bd hf
        refine e_getR hO2 fc_7_0 lk_RX7_11 dX7_noteFound_29 hb6 ?_
        refine e_iload_n 2 dX7_noteFound_32 rfl rfl ?_
        obtain ⟨hI7, hf⟩ := e_if hf
        refine e_iald hI7 dX7_noteFound_33 ?_
        obtain ⟨hI8, hf⟩ := e_if hf
        refine e_iast hI8 dX7_noteFound_34 ?_
        obtain ⟨h9, hh10, hf⟩ := e_bd hf
        refine e_hn hh10 ?_
        refine e_iinc (lv' := [(3, .int _), (0, .ref _), (1, .int _)]) 2 dX7_noteFound_35 rfl (by decide) rfl ?_
        refine e_goto (t := 12) dX7_noteFound_38 (by decide) ?_
        refine e_sub [1, 2, 0] rfl ?_
        exact ih _ _ _ _ hf
def f_X7_noteFound (L : eL) (h : eH) (v0 : Nat) (v1 : Int32) (v2 : Int32) : Option eH :=
  if isO L v0 7 = true then
  f_X7_noteFound_L12 L e_fu (fun (h11 : eH) =>
    some h11) (sI (sI h v0 7 v2) v0 8 v1) v0 v1 0
  else none
set_option maxRecDepth 100000 in
set_option maxHeartbeats 4000000 in
theorem m_X7_noteFound {l : Launch} {d : Nat} {L : eL} {h : eH} {v0 : Nat} {v1 : Int32} {v2 : Int32} {r : eH} (hd : 1 ≤ d) (hf : f_X7_noteFound L h v0 v1 v2 = some r) : e_Met l yX7_noteFound cX7_noteFound 4 none d 0 0 true L h [.ref v0, .int v1, .int v2] (Qx none L r) := by
  refine e_metl (by decide) (Nat.le_of_ble_eq_true rfl) (lv := [(0, .ref v0), (1, .int v1), (2, .int v2)]) rfl ?_
  unfold f_X7_noteFound at hf
  refine e_aload_n 0 dX7_noteFound_0 rfl rfl ?_
  refine e_iload_n 2 dX7_noteFound_1 rfl rfl ?_
  obtain ⟨hO1, hf⟩ := e_if hf
  refine e_putI hO1 fc_7_7 rfl lk_RX7_37 dX7_noteFound_2 ?_
  refine e_aload_n 0 dX7_noteFound_5 rfl rfl ?_
  refine e_iload_n 1 dX7_noteFound_6 rfl rfl ?_
  refine e_putI hO1 fc_7_8 rfl lk_RX7_40 dX7_noteFound_7 ?_
  refine e_iconst (v := 0) dX7_noteFound_10 (by decide) ?_
  refine e_istore_n (lv' := [(3, .int _), (0, .ref _), (1, .int _), (2, .int _)]) dX7_noteFound_11 rfl (by decide) rfl ?_
  refine e_sub [1, 2, 0] rfl ?_
  refine m_X7_noteFound_L12 hd ?_ e_fu _ _ _ _ hf
  · intro h11 hf
    exact e_vret rfl dX7_noteFound_41 (qV hf)
def f_X7_canBeBetter (L : eL) (h : eH) (v0 : Nat) (v1 : Int32) (v2 : Int32) : Option Int32 :=
  if isO L v0 7 = true then
  if (v2 + (((gI h v0 5) - v1) * (gI h v0 6))) ≤ (gI h v0 7) then
    some 0
  else
    some 1
  else none
set_option maxRecDepth 100000 in
set_option maxHeartbeats 4000000 in
theorem m_X7_canBeBetter {l : Launch} {d : Nat} {L : eL} {h : eH} {v0 : Nat} {v1 : Int32} {v2 : Int32} {r : Int32} (hd : 1 ≤ d) (hf : f_X7_canBeBetter L h v0 v1 v2 = some r) : e_Met l yX7_canBeBetter cX7_canBeBetter 3 (some .boolean) d 0 0 true L h [.ref v0, .int v1, .int v2] (Qx (some (.int r)) L h) := by
  refine e_metl (by decide) (Nat.le_of_ble_eq_true rfl) (lv := [(0, .ref v0), (1, .int v1), (2, .int v2)]) rfl ?_
  unfold f_X7_canBeBetter at hf
  refine e_iload_n 2 dX7_canBeBetter_0 rfl rfl ?_
  refine e_aload_n 0 dX7_canBeBetter_1 rfl rfl ?_
  obtain ⟨hO1, hf⟩ := e_if hf
  refine e_getI hO1 fc_7_5 lk_RX7_30 dX7_canBeBetter_2 ?_
  refine e_iload_n 1 dX7_canBeBetter_5 rfl rfl ?_
  refine e_isub dX7_canBeBetter_6 ?_
  refine e_aload_n 0 dX7_canBeBetter_7 rfl rfl ?_
  refine e_getI hO1 fc_7_6 lk_RX7_34 dX7_canBeBetter_8 ?_
  refine e_imul dX7_canBeBetter_11 ?_
  refine e_iadd dX7_canBeBetter_12 ?_
  refine e_aload_n 0 dX7_canBeBetter_13 rfl rfl ?_
  refine e_getI hO1 fc_7_7 lk_RX7_37 dX7_canBeBetter_14 ?_
  refine e_icmp_le (t := 24) dX7_canBeBetter_17 (by decide) (fun c => ?_) (fun c => ?_)
  · replace hf := e_it c hf
    refine e_iconst (v := 0) dX7_canBeBetter_24 (by decide) ?_
    exact e_zret (ty := .boolean) rfl rfl dX7_canBeBetter_25 (qP hf)
  · replace hf := e_ie c hf
    refine e_iconst (v := 1) dX7_canBeBetter_20 (by decide) ?_
    refine e_goto (t := 25) dX7_canBeBetter_21 (by decide) ?_
    exact e_zret (ty := .boolean) rfl rfl dX7_canBeBetter_25 (qP hf)
def f_X7_foundAt (L : eL) (h : eH) (v0 : Nat) (v1 : Int32) : Option Int32 :=
  if v1 < 0 then
    some (-1)
  else
    if 6 ≤ v1 then
      some (-1)
    else
      if isO L v0 7 = true then
      (gR h v0 1).bind fun b2 =>
      if inA L b2 0 v1 = true then
      some (gI h b2 v1.toNatClampNeg)
      else none
      else none
set_option maxRecDepth 100000 in
set_option maxHeartbeats 4000000 in
theorem m_X7_foundAt {l : Launch} {d : Nat} {L : eL} {h : eH} {v0 : Nat} {v1 : Int32} {r : Int32} (hd : 1 ≤ d) (hf : f_X7_foundAt L h v0 v1 = some r) : e_Met l yX7_foundAt cX7_foundAt 2 (some .int) d 0 0 true L h [.ref v0, .int v1] (Qx (some (.int r)) L h) := by
  refine e_metl (by decide) (Nat.le_of_ble_eq_true rfl) (lv := [(0, .ref v0), (1, .int v1)]) rfl ?_
  unfold f_X7_foundAt at hf
  refine e_iload_n 1 dX7_foundAt_0 rfl rfl ?_
  refine e_if_lt (t := 19) dX7_foundAt_1 (by decide) (fun c => ?_) (fun c => ?_)
  · replace hf := e_it c hf
    refine e_iconst (v := (-1)) dX7_foundAt_19 (by decide) ?_
    exact e_iret rfl dX7_foundAt_20 (qP hf)
  · replace hf := e_ie c hf
    refine e_iload_n 1 dX7_foundAt_4 rfl rfl ?_
    refine e_bipush (v := 6) dX7_foundAt_5 (by decide) ?_
    refine e_icmp_ge (t := 19) dX7_foundAt_7 (by decide) (fun c => ?_) (fun c => ?_)
    · replace hf := e_it c hf
      refine e_iconst (v := (-1)) dX7_foundAt_19 (by decide) ?_
      exact e_iret rfl dX7_foundAt_20 (qP hf)
    · replace hf := e_ie c hf
      refine e_aload_n 0 dX7_foundAt_10 rfl rfl ?_
      obtain ⟨hO1, hf⟩ := e_if hf
      obtain ⟨b2, hb3, hf⟩ := e_bd hf
      refine e_getR hO1 fc_7_1 lk_RX7_15 dX7_foundAt_11 hb3 ?_
      refine e_iload_n 1 dX7_foundAt_14 rfl rfl ?_
      obtain ⟨hI4, hf⟩ := e_if hf
      refine e_iald hI4 dX7_foundAt_15 ?_
      refine e_goto (t := 20) dX7_foundAt_16 (by decide) ?_
      exact e_iret rfl dX7_foundAt_20 (qP hf)
def f_X0_add (L : eL) (h : eH) (v0 : Nat) (v1 : Int32) : Option (eH × Int32) :=
  if isO L v0 0 = true then
  if (gI h v0 2) < 0 then
    some (h, 0)
  else
    if (gI h v0 2) < 12 then
      (gR h v0 0).bind fun b2 =>
      if inA L b2 0 (gI h v0 2) = true then
      (some (sI (sI h b2 (gI h v0 2).toNatClampNeg v1) v0 2 ((gI (sI h b2 (gI h v0 2).toNatClampNeg v1) v0 2) + 1))).bind fun h5 =>
      some (h5, 1)
      else none
    else
      some (h, 0)
  else none
set_option maxRecDepth 100000 in
set_option maxHeartbeats 4000000 in
theorem m_X0_add {l : Launch} {d : Nat} {L : eL} {h : eH} {v0 : Nat} {v1 : Int32} {r : eH × Int32} (hd : 1 ≤ d) (hf : f_X0_add L h v0 v1 = some r) : e_Met l yX0_add cX0_add 2 (some .boolean) d 0 0 true L h [.ref v0, .int v1] (Qx (some (.int r.2)) L r.1) := by
  refine e_metl (by decide) (Nat.le_of_ble_eq_true rfl) (lv := [(0, .ref v0), (1, .int v1)]) rfl ?_
  unfold f_X0_add at hf
  refine e_aload_n 0 dX0_add_0 rfl rfl ?_
  obtain ⟨hO1, hf⟩ := e_if hf
  refine e_getI hO1 fc_0_2 lk_RX0_19 dX0_add_1 ?_
  refine e_if_lt (t := 16) dX0_add_4 (by decide) (fun c => ?_) (fun c => ?_)
  · replace hf := e_it c hf
    refine e_iconst (v := 0) dX0_add_16 (by decide) ?_
    exact e_zret (ty := .boolean) rfl rfl dX0_add_17 (qW hf)
  · replace hf := e_ie c hf
    refine e_aload_n 0 dX0_add_7 rfl rfl ?_
    refine e_getI hO1 fc_0_2 lk_RX0_19 dX0_add_8 ?_
    refine e_bipush (v := 12) dX0_add_11 (by decide) ?_
    refine e_icmp_lt (t := 18) dX0_add_13 (by decide) (fun c => ?_) (fun c => ?_)
    · replace hf := e_it c hf
      refine e_aload_n 0 dX0_add_18 rfl rfl ?_
      obtain ⟨b2, hb3, hf⟩ := e_bd hf
      refine e_getR hO1 fc_0_0 lk_RX0_11 dX0_add_19 hb3 ?_
      refine e_aload_n 0 dX0_add_22 rfl rfl ?_
      refine e_getI hO1 fc_0_2 lk_RX0_19 dX0_add_23 ?_
      refine e_iload_n 1 dX0_add_26 rfl rfl ?_
      obtain ⟨hI4, hf⟩ := e_if hf
      refine e_iast hI4 dX0_add_27 ?_
      refine e_aload_n 0 dX0_add_28 rfl rfl ?_
      refine e_dupR dX0_add_29 ?_
      refine e_getI hO1 fc_0_2 lk_RX0_19 dX0_add_30 ?_
      refine e_iconst (v := 1) dX0_add_33 (by decide) ?_
      refine e_iadd dX0_add_34 ?_
      refine e_putI hO1 fc_0_2 rfl lk_RX0_19 dX0_add_35 ?_
      obtain ⟨h5, hh6, hf⟩ := e_bd hf
      refine e_hn hh6 ?_
      refine e_iconst (v := 1) dX0_add_38 (by decide) ?_
      exact e_zret (ty := .boolean) rfl rfl dX0_add_39 (qW hf)
    · replace hf := e_ie c hf
      refine e_iconst (v := 0) dX0_add_16 (by decide) ?_
      exact e_zret (ty := .boolean) rfl rfl dX0_add_17 (qW hf)
def f_X0_goOnAll_L3 (L : eL) : Nat → (eH → Option eH) → eH → Nat → Nat → Int64 → Int32 → Option eH
  | 0, _, _, _, _, _, _ => none
  | n + 1, k37, h, v0, v1, v2, v4 =>
    if 4 ≤ v4 then
      k37 h
    else
      if isO L v0 0 = true then
      (gR h v0 1).bind fun b2 =>
      (gR h v0 1).bind fun b4 =>
      if inA L b4 1 v4 = true then
      if isO L v1 2 = true then
      (f_X2_moved L h v1 (gL h b4 v4.toNatClampNeg) v4).bind fun r8 =>
      if inA L b2 1 v4 = true then
      f_X0_goOnAll_L3 L n k37 (sL h b2 v4.toNatClampNeg (r8 &&& v2)) v0 v1 v2 (v4 + Int32.ofInt 1)
      else none
      else none
      else none
      else none
set_option maxRecDepth 100000 in
set_option maxHeartbeats 4000000 in
theorem m_X0_goOnAll_L3 {l : Launch} {d : Nat} {L : eL}  {r : eH} {k37 : eH → Option eH} (hd : 2 ≤ d) (hk37 : ∀ (h : eH), k37 h = some r → E l yX0_goOnAll cX0_goOnAll 5 none (e_rm d 0 0) 0 0 true L (Qx none L r) L h 0 0 37 [] []) : ∀ (n : Nat) (h : eH) (v0 : Nat) (v1 : Nat) (v2 : Int64) (v4 : Int32), f_X0_goOnAll_L3 L n k37 h v0 v1 v2 v4 = some r → E l yX0_goOnAll cX0_goOnAll 5 none (e_rm d 0 0) 0 0 true L (Qx none L r) L h 0 0 3 [(0, .ref v0), (1, .ref v1), (2, .long v2), (4, .int v4)] [] := by
  intro n
  induction n with
  | zero => intro h v0 v1 v2 v4 hf; exact absurd hf (by simp [f_X0_goOnAll_L3])
  | succ n ih =>
    intro h v0 v1 v2 v4 hf
    unfold f_X0_goOnAll_L3 at hf
    refine e_iload 3 dX0_goOnAll_3 rfl ?_
    refine e_iconst (v := 4) dX0_goOnAll_5 (by decide) ?_
    refine e_icmp_ge (t := 37) dX0_goOnAll_6 (by decide) (fun c => ?_) (fun c => ?_)
    · replace hf := e_it c hf
      refine e_sub [] rfl ?_
      exact hk37 _ hf
    · replace hf := e_ie c hf
      refine e_aload_n 0 dX0_goOnAll_9 rfl rfl ?_
      obtain ⟨hO1, hf⟩ := e_if hf
      obtain ⟨b2, hb3, hf⟩ := e_bd hf
      refine e_getR hO1 fc_0_1 lk_RX0_15 dX0_goOnAll_10 hb3 ?_
      refine e_iload 3 dX0_goOnAll_13 rfl ?_
      refine e_aload_n 1 dX0_goOnAll_15 rfl rfl ?_
      refine e_aload_n 0 dX0_goOnAll_16 rfl rfl ?_
      obtain ⟨b4, hb5, hf⟩ := e_bd hf
      refine e_getR hO1 fc_0_1 lk_RX0_15 dX0_goOnAll_17 hb5 ?_
      refine e_iload 3 dX0_goOnAll_20 rfl ?_
      obtain ⟨hI6, hf⟩ := e_if hf
      refine e_lald hI6 dX0_goOnAll_22 ?_
      refine e_iload 3 dX0_goOnAll_23 rfl ?_
      obtain ⟨hO7, hf⟩ := e_if hf
      obtain ⟨r8, hr9, hf⟩ := e_bd hf
      refine e_callV (st := [.int _, .ref _]) ml_RX0_40 k_X2_moved (m_X2_moved (d := d - 1) (by omega) hr9) hO7 ⟨by decide, rfl⟩ rfl rfl (Nat.le_of_ble_eq_true rfl) ⟨by omega, by decide⟩ ⟨Nat.le_refl _, Nat.le_refl _⟩ dX0_goOnAll_25 ?_
      refine e_lload_n 2 dX0_goOnAll_28 rfl rfl ?_
      refine e_land dX0_goOnAll_29 ?_
      obtain ⟨hI10, hf⟩ := e_if hf
      refine e_last hI10 dX0_goOnAll_30 ?_
      refine e_iinc (lv' := [(4, .int _), (0, .ref _), (1, .ref _), (2, .long _)]) 3 dX0_goOnAll_31 rfl (by decide) rfl ?_
      refine e_goto (t := 3) dX0_goOnAll_34 (by decide) ?_
      refine e_sub [1, 2, 3, 0] rfl ?_
      exact ih _ _ _ _ _ hf
def f_X0_goOnAll (L : eL) (h : eH) (v0 : Nat) (v1 : Nat) (v2 : Int64) : Option eH :=
  f_X0_goOnAll_L3 L e_fu (fun (h11 : eH) =>
    some h11) h v0 v1 v2 0
set_option maxRecDepth 100000 in
set_option maxHeartbeats 4000000 in
theorem m_X0_goOnAll {l : Launch} {d : Nat} {L : eL} {h : eH} {v0 : Nat} {v1 : Nat} {v2 : Int64} {r : eH} (hd : 2 ≤ d) (hf : f_X0_goOnAll L h v0 v1 v2 = some r) : e_Met l yX0_goOnAll cX0_goOnAll 5 none d 0 0 true L h [.ref v0, .ref v1, .long v2] (Qx none L r) := by
  refine e_metl (by decide) (Nat.le_of_ble_eq_true rfl) (lv := [(0, .ref v0), (1, .ref v1), (2, .long v2)]) rfl ?_
  unfold f_X0_goOnAll at hf
  refine e_iconst (v := 0) dX0_goOnAll_0 (by decide) ?_
  refine e_istore (lv' := [(4, .int _), (0, .ref _), (1, .ref _), (2, .long _)]) dX0_goOnAll_1 (by decide) rfl ?_
  refine e_sub [1, 2, 3, 0] rfl ?_
  refine m_X0_goOnAll_L3 hd ?_ e_fu _ _ _ _ _ hf
  · intro h11 hf
    exact e_vret rfl dX0_goOnAll_37 (qV hf)
def f_X0_canGo (L : eL) (h : eH) (v0 : Nat) (v1 : Int64) (v3 : Int32) : Option Int64 :=
  if isO L v0 2 = true then
  (f_X2_moved L h v0 v1 ((v3 + 2) &&& 3)).bind fun r2 =>
  some r2
  else none
set_option maxRecDepth 100000 in
set_option maxHeartbeats 4000000 in
theorem m_X0_canGo {l : Launch} {d : Nat} {L : eL} {h : eH} {v0 : Nat} {v1 : Int64} {v3 : Int32} {r : Int64} (hd : 2 ≤ d) (hf : f_X0_canGo L h v0 v1 v3 = some r) : e_Met l yX0_canGo cX0_canGo 4 (some .long) d 0 0 true L h [.ref v0, .long v1, .int v3] (Qx (some (.long r)) L h) := by
  refine e_metl (by decide) (Nat.le_of_ble_eq_true rfl) (lv := [(0, .ref v0), (1, .long v1), (3, .int v3)]) rfl ?_
  unfold f_X0_canGo at hf
  refine e_aload_n 0 dX0_canGo_0 rfl rfl ?_
  refine e_lload_n 1 dX0_canGo_1 rfl rfl ?_
  refine e_iload_n 2 dX0_canGo_2 rfl rfl ?_
  refine e_iconst (v := 2) dX0_canGo_3 (by decide) ?_
  refine e_iadd dX0_canGo_4 ?_
  refine e_iconst (v := 3) dX0_canGo_5 (by decide) ?_
  refine e_iand dX0_canGo_6 ?_
  obtain ⟨hO1, hf⟩ := e_if hf
  obtain ⟨r2, hr3, hf⟩ := e_bd hf
  refine e_callV (st := []) ml_RX0_40 k_X2_moved (m_X2_moved (d := d - 1) (by omega) hr3) hO1 ⟨by decide, rfl⟩ rfl rfl (Nat.le_of_ble_eq_true rfl) ⟨by omega, by decide⟩ ⟨Nat.le_refl _, Nat.le_refl _⟩ dX0_canGo_7 ?_
  exact e_lret rfl dX0_canGo_10 (qPL hf)
def f_X0_strikeAll_L3 (L : eL) : Nat → (eH → Option eH) → eH → Nat → Nat → Int64 → Int32 → Option eH
  | 0, _, _, _, _, _, _ => none
  | n + 1, k36, h, v0, v1, v2, v4 =>
    if 4 ≤ v4 then
      k36 h
    else
      if isO L v0 0 = true then
      (gR h v0 1).bind fun b2 =>
      if inA L b2 1 v4 = true then
      (f_X0_canGo L h v1 v2 v4).bind fun r5 =>
      (some (sL h b2 v4.toNatClampNeg ((gL h b2 v4.toNatClampNeg) &&& (r5 ^^^ (-1))))).bind fun h7 =>
      f_X0_strikeAll_L3 L n k36 h7 v0 v1 v2 (v4 + Int32.ofInt 1)
      else none
      else none
set_option maxRecDepth 100000 in
set_option maxHeartbeats 4000000 in
theorem m_X0_strikeAll_L3 {l : Launch} {d : Nat} {L : eL}  {r : eH} {k36 : eH → Option eH} (hd : 3 ≤ d) (hk36 : ∀ (h : eH), k36 h = some r → E l yX0_strikeAll cX0_strikeAll 5 none (e_rm d 0 0) 0 0 true L (Qx none L r) L h 0 0 36 [] []) : ∀ (n : Nat) (h : eH) (v0 : Nat) (v1 : Nat) (v2 : Int64) (v4 : Int32), f_X0_strikeAll_L3 L n k36 h v0 v1 v2 v4 = some r → E l yX0_strikeAll cX0_strikeAll 5 none (e_rm d 0 0) 0 0 true L (Qx none L r) L h 0 0 3 [(0, .ref v0), (1, .ref v1), (2, .long v2), (4, .int v4)] [] := by
  intro n
  induction n with
  | zero => intro h v0 v1 v2 v4 hf; exact absurd hf (by simp [f_X0_strikeAll_L3])
  | succ n ih =>
    intro h v0 v1 v2 v4 hf
    unfold f_X0_strikeAll_L3 at hf
    refine e_iload 3 dX0_strikeAll_3 rfl ?_
    refine e_iconst (v := 4) dX0_strikeAll_5 (by decide) ?_
    refine e_icmp_ge (t := 36) dX0_strikeAll_6 (by decide) (fun c => ?_) (fun c => ?_)
    · replace hf := e_it c hf
      refine e_sub [] rfl ?_
      exact hk36 _ hf
    · replace hf := e_ie c hf
      refine e_aload_n 0 dX0_strikeAll_9 rfl rfl ?_
      obtain ⟨hO1, hf⟩ := e_if hf
      obtain ⟨b2, hb3, hf⟩ := e_bd hf
      refine e_getR hO1 fc_0_1 lk_RX0_15 dX0_strikeAll_10 hb3 ?_
      refine e_iload 3 dX0_strikeAll_13 rfl ?_
      refine e_dup2 dX0_strikeAll_15 ?_
      obtain ⟨hI4, hf⟩ := e_if hf
      refine e_lald hI4 dX0_strikeAll_16 ?_
      refine e_aload_n 1 dX0_strikeAll_17 rfl rfl ?_
      refine e_lload_n 2 dX0_strikeAll_18 rfl rfl ?_
      refine e_iload 3 dX0_strikeAll_19 rfl ?_
      obtain ⟨r5, hr6, hf⟩ := e_bd hf
      refine e_callS (st := [.long _, .int _, .ref _]) ml_RX0_46 k_X0_canGo (m_X0_canGo (d := d - 1) (by omega) hr6) rfl rfl (Nat.le_of_ble_eq_true rfl) ⟨by omega, by decide⟩ ⟨Nat.le_refl _, Nat.le_refl _⟩ dX0_strikeAll_21 ?_
      refine e_ldc2 kc_RX0_50 dX0_strikeAll_24 ?_
      refine e_lxor dX0_strikeAll_27 ?_
      refine e_land dX0_strikeAll_28 ?_
      refine e_last hI4 dX0_strikeAll_29 ?_
      obtain ⟨h7, hh8, hf⟩ := e_bd hf
      refine e_hn hh8 ?_
      refine e_iinc (lv' := [(4, .int _), (0, .ref _), (1, .ref _), (2, .long _)]) 3 dX0_strikeAll_30 rfl (by decide) rfl ?_
      refine e_goto (t := 3) dX0_strikeAll_33 (by decide) ?_
      refine e_sub [1, 2, 3, 0] rfl ?_
      exact ih _ _ _ _ _ hf
def f_X0_strikeAll (L : eL) (h : eH) (v0 : Nat) (v1 : Nat) (v2 : Int64) : Option eH :=
  f_X0_strikeAll_L3 L e_fu (fun (h9 : eH) =>
    some h9) h v0 v1 v2 0
set_option maxRecDepth 100000 in
set_option maxHeartbeats 4000000 in
theorem m_X0_strikeAll {l : Launch} {d : Nat} {L : eL} {h : eH} {v0 : Nat} {v1 : Nat} {v2 : Int64} {r : eH} (hd : 3 ≤ d) (hf : f_X0_strikeAll L h v0 v1 v2 = some r) : e_Met l yX0_strikeAll cX0_strikeAll 5 none d 0 0 true L h [.ref v0, .ref v1, .long v2] (Qx none L r) := by
  refine e_metl (by decide) (Nat.le_of_ble_eq_true rfl) (lv := [(0, .ref v0), (1, .ref v1), (2, .long v2)]) rfl ?_
  unfold f_X0_strikeAll at hf
  refine e_iconst (v := 0) dX0_strikeAll_0 (by decide) ?_
  refine e_istore (lv' := [(4, .int _), (0, .ref _), (1, .ref _), (2, .long _)]) dX0_strikeAll_1 (by decide) rfl ?_
  refine e_sub [1, 2, 3, 0] rfl ?_
  refine m_X0_strikeAll_L3 hd ?_ e_fu _ _ _ _ _ hf
  · intro h9 hf
    exact e_vret rfl dX0_strikeAll_36 (qV hf)
def f_X0_swingAll_L2 (L : eL) : Nat → (eH → Option eH) → eH → Nat → Int32 → Int32 → Option eH
  | 0, _, _, _, _, _ => none
  | n + 1, k63, h, v0, v1, v2 =>
    if v1 ≤ v2 then
      k63 h
    else
      if isO L v0 0 = true then
      (gR h v0 1).bind fun b2 =>
      if inA L b2 1 3 = true then
      (gR h v0 1).bind fun b5 =>
      (gR h v0 1).bind fun b7 =>
      if inA L b7 1 2 = true then
      if inA L b5 1 3 = true then
      (some (sL h b5 (3 : Int32).toNatClampNeg (gL h b7 (2 : Int32).toNatClampNeg))).bind fun h11 =>
      (gR h11 v0 1).bind fun b13 =>
      (gR h11 v0 1).bind fun b15 =>
      if inA L b15 1 1 = true then
      if inA L b13 1 2 = true then
      (some (sL h11 b13 (2 : Int32).toNatClampNeg (gL h11 b15 (1 : Int32).toNatClampNeg))).bind fun h19 =>
      (gR h19 v0 1).bind fun b21 =>
      (gR h19 v0 1).bind fun b23 =>
      if inA L b23 1 0 = true then
      if inA L b21 1 1 = true then
      (some (sL h19 b21 (1 : Int32).toNatClampNeg (gL h19 b23 (0 : Int32).toNatClampNeg))).bind fun h27 =>
      (gR h27 v0 1).bind fun b29 =>
      if inA L b29 1 0 = true then
      (some (sL h27 b29 (0 : Int32).toNatClampNeg (gL h b2 (3 : Int32).toNatClampNeg))).bind fun h32 =>
      f_X0_swingAll_L2 L n k63 h32 v0 v1 (v2 + Int32.ofInt 1)
      else none
      else none
      else none
      else none
      else none
      else none
      else none
      else none
      else none
set_option maxRecDepth 100000 in
set_option maxHeartbeats 4000000 in
theorem m_X0_swingAll_L2 {l : Launch} {d : Nat} {L : eL}  {r : eH} {k63 : eH → Option eH} (hd : 1 ≤ d) (hk63 : ∀ (h : eH), k63 h = some r → E l yX0_swingAll cX0_swingAll 5 none (e_rm d 0 0) 0 0 true L (Qx none L r) L h 0 0 63 [] []) : ∀ (n : Nat) (h : eH) (v0 : Nat) (v1 : Int32) (v2 : Int32), f_X0_swingAll_L2 L n k63 h v0 v1 v2 = some r → E l yX0_swingAll cX0_swingAll 5 none (e_rm d 0 0) 0 0 true L (Qx none L r) L h 0 0 2 [(0, .ref v0), (1, .int v1), (2, .int v2)] [] := by
  intro n
  induction n with
  | zero => intro h v0 v1 v2 hf; exact absurd hf (by simp [f_X0_swingAll_L2])
  | succ n ih =>
    intro h v0 v1 v2 hf
    unfold f_X0_swingAll_L2 at hf
    refine e_iload_n 2 dX0_swingAll_2 rfl rfl ?_
    refine e_iload_n 1 dX0_swingAll_3 rfl rfl ?_
    refine e_icmp_ge (t := 63) dX0_swingAll_4 (by decide) (fun c => ?_) (fun c => ?_)
    · replace hf := e_it c hf
      refine e_sub [] rfl ?_
      exact hk63 _ hf
    · replace hf := e_ie c hf
      refine e_aload_n 0 dX0_swingAll_7 rfl rfl ?_
      obtain ⟨hO1, hf⟩ := e_if hf
      obtain ⟨b2, hb3, hf⟩ := e_bd hf
      refine e_getR hO1 fc_0_1 lk_RX0_15 dX0_swingAll_8 hb3 ?_
      refine e_iconst (v := 3) dX0_swingAll_11 (by decide) ?_
      obtain ⟨hI4, hf⟩ := e_if hf
      refine e_lald hI4 dX0_swingAll_12 ?_
      refine e_lstore_n (lv' := [(3, .long _), (0, .ref _), (1, .int _), (2, .int _)]) dX0_swingAll_13 rfl (by decide) rfl ?_
      refine e_aload_n 1 dX0_swingAll_14 rfl rfl ?_
      obtain ⟨b5, hb6, hf⟩ := e_bd hf
      refine e_getR hO1 fc_0_1 lk_RX0_15 dX0_swingAll_15 hb6 ?_
      refine e_iconst (v := 3) dX0_swingAll_18 (by decide) ?_
      refine e_aload_n 1 dX0_swingAll_19 rfl rfl ?_
      obtain ⟨b7, hb8, hf⟩ := e_bd hf
      refine e_getR hO1 fc_0_1 lk_RX0_15 dX0_swingAll_20 hb8 ?_
      refine e_iconst (v := 2) dX0_swingAll_23 (by decide) ?_
      obtain ⟨hI9, hf⟩ := e_if hf
      refine e_lald hI9 dX0_swingAll_24 ?_
      obtain ⟨hI10, hf⟩ := e_if hf
      refine e_last hI10 dX0_swingAll_25 ?_
      obtain ⟨h11, hh12, hf⟩ := e_bd hf
      refine e_hn hh12 ?_
      refine e_aload_n 1 dX0_swingAll_26 rfl rfl ?_
      obtain ⟨b13, hb14, hf⟩ := e_bd hf
      refine e_getR hO1 fc_0_1 lk_RX0_15 dX0_swingAll_27 hb14 ?_
      refine e_iconst (v := 2) dX0_swingAll_30 (by decide) ?_
      refine e_aload_n 1 dX0_swingAll_31 rfl rfl ?_
      obtain ⟨b15, hb16, hf⟩ := e_bd hf
      refine e_getR hO1 fc_0_1 lk_RX0_15 dX0_swingAll_32 hb16 ?_
      refine e_iconst (v := 1) dX0_swingAll_35 (by decide) ?_
      obtain ⟨hI17, hf⟩ := e_if hf
      refine e_lald hI17 dX0_swingAll_36 ?_
      obtain ⟨hI18, hf⟩ := e_if hf
      refine e_last hI18 dX0_swingAll_37 ?_
      obtain ⟨h19, hh20, hf⟩ := e_bd hf
      refine e_hn hh20 ?_
      refine e_aload_n 1 dX0_swingAll_38 rfl rfl ?_
      obtain ⟨b21, hb22, hf⟩ := e_bd hf
      refine e_getR hO1 fc_0_1 lk_RX0_15 dX0_swingAll_39 hb22 ?_
      refine e_iconst (v := 1) dX0_swingAll_42 (by decide) ?_
      refine e_aload_n 1 dX0_swingAll_43 rfl rfl ?_
      obtain ⟨b23, hb24, hf⟩ := e_bd hf
      refine e_getR hO1 fc_0_1 lk_RX0_15 dX0_swingAll_44 hb24 ?_
      refine e_iconst (v := 0) dX0_swingAll_47 (by decide) ?_
      obtain ⟨hI25, hf⟩ := e_if hf
      refine e_lald hI25 dX0_swingAll_48 ?_
      obtain ⟨hI26, hf⟩ := e_if hf
      refine e_last hI26 dX0_swingAll_49 ?_
      obtain ⟨h27, hh28, hf⟩ := e_bd hf
      refine e_hn hh28 ?_
      refine e_aload_n 1 dX0_swingAll_50 rfl rfl ?_
      obtain ⟨b29, hb30, hf⟩ := e_bd hf
      refine e_getR hO1 fc_0_1 lk_RX0_15 dX0_swingAll_51 hb30 ?_
      refine e_iconst (v := 0) dX0_swingAll_54 (by decide) ?_
      refine e_lload_n 0 dX0_swingAll_55 rfl rfl ?_
      obtain ⟨hI31, hf⟩ := e_if hf
      refine e_last hI31 dX0_swingAll_56 ?_
      obtain ⟨h32, hh33, hf⟩ := e_bd hf
      refine e_hn hh33 ?_
      refine e_iinc (lv' := [(2, .int _), (3, .long _), (0, .ref _), (1, .int _)]) 3 dX0_swingAll_57 rfl (by decide) rfl ?_
      refine e_goto (t := 2) dX0_swingAll_60 (by decide) ?_
      refine e_sub [2, 3, 0] rfl ?_
      exact ih _ _ _ _ hf
def f_X0_swingAll (L : eL) (h : eH) (v0 : Nat) (v1 : Int32) : Option eH :=
  f_X0_swingAll_L2 L e_fu (fun (h34 : eH) =>
    some h34) h v0 v1 0
set_option maxRecDepth 100000 in
set_option maxHeartbeats 4000000 in
theorem m_X0_swingAll {l : Launch} {d : Nat} {L : eL} {h : eH} {v0 : Nat} {v1 : Int32} {r : eH} (hd : 1 ≤ d) (hf : f_X0_swingAll L h v0 v1 = some r) : e_Met l yX0_swingAll cX0_swingAll 5 none d 0 0 true L h [.ref v0, .int v1] (Qx none L r) := by
  refine e_metl (by decide) (Nat.le_of_ble_eq_true rfl) (lv := [(0, .ref v0), (1, .int v1)]) rfl ?_
  unfold f_X0_swingAll at hf
  refine e_iconst (v := 0) dX0_swingAll_0 (by decide) ?_
  refine e_istore_n (lv' := [(2, .int _), (0, .ref _), (1, .int _)]) dX0_swingAll_1 rfl (by decide) rfl ?_
  refine e_sub [1, 2, 0] rfl ?_
  refine m_X0_swingAll_L2 hd ?_ e_fu _ _ _ _ hf
  · intro h34 hf
    exact e_vret rfl dX0_swingAll_63 (qV hf)
def f_X0_find_L11 (L : eL) : Nat → (eH → Option eH) → eH → Nat → Nat → Int64 → Int32 → Option eH
  | 0, _, _, _, _, _, _ => none
  | n + 1, k83, h, v0, v1, v2, v4 =>
    if isO L v0 0 = true then
    if (gI h v0 2) ≤ v4 then
      k83 h
    else
      if 12 ≤ v4 then
        k83 h
      else
        (gR h v0 0).bind fun b7 =>
        if inA L b7 0 v4 = true then
        if (gI h b7 v4.toNatClampNeg) = 0 then
          (f_X0_goOnAll L h v0 v1 v2).bind fun r20 =>
          f_X0_find_L11 L n k83 r20 v0 v1 v2 (v4 + Int32.ofInt 1)
        else
          (gR h v0 0).bind fun b10 =>
          if inA L b10 0 v4 = true then
          if (gI h b10 v4.toNatClampNeg) = 4 then
            (f_X0_strikeAll L h v0 v1 v2).bind fun r18 =>
            f_X0_find_L11 L n k83 r18 v0 v1 v2 (v4 + Int32.ofInt 1)
          else
            (gR h v0 0).bind fun b13 =>
            if inA L b13 0 v4 = true then
            (f_X0_swingAll L h v0 (gI h b13 v4.toNatClampNeg)).bind fun r16 =>
            f_X0_find_L11 L n k83 r16 v0 v1 v2 (v4 + Int32.ofInt 1)
            else none
          else none
        else none
    else none
set_option maxRecDepth 100000 in
set_option maxHeartbeats 4000000 in
theorem m_X0_find_L11 {l : Launch} {d : Nat} {L : eL}  {r : eH} {k83 : eH → Option eH} (hd : 4 ≤ d) (hk83 : ∀ (h : eH), k83 h = some r → E l yX0_find cX0_find 5 none (e_rm d 0 0) 0 0 true L (Qx none L r) L h 0 0 83 [] []) : ∀ (n : Nat) (h : eH) (v0 : Nat) (v1 : Nat) (v2 : Int64) (v4 : Int32), f_X0_find_L11 L n k83 h v0 v1 v2 v4 = some r → E l yX0_find cX0_find 5 none (e_rm d 0 0) 0 0 true L (Qx none L r) L h 0 0 11 [(0, .ref v0), (1, .ref v1), (2, .long v2), (4, .int v4)] [] := by
  intro n
  induction n with
  | zero => intro h v0 v1 v2 v4 hf; exact absurd hf (by simp [f_X0_find_L11])
  | succ n ih =>
    intro h v0 v1 v2 v4 hf
    unfold f_X0_find_L11 at hf
    refine e_iload 3 dX0_find_11 rfl ?_
    refine e_aload_n 0 dX0_find_13 rfl rfl ?_
    obtain ⟨hO6, hf⟩ := e_if hf
    refine e_getI hO6 fc_0_2 lk_RX0_19 dX0_find_14 ?_
    refine e_icmp_ge (t := 83) dX0_find_17 (by decide) (fun c => ?_) (fun c => ?_)
    · replace hf := e_it c hf
      refine e_sub [] rfl ?_
      exact hk83 _ hf
    · replace hf := e_ie c hf
      refine e_iload 3 dX0_find_20 rfl ?_
      refine e_bipush (v := 12) dX0_find_22 (by decide) ?_
      refine e_icmp_ge (t := 83) dX0_find_24 (by decide) (fun c => ?_) (fun c => ?_)
      · replace hf := e_it c hf
        refine e_sub [] rfl ?_
        exact hk83 _ hf
      · replace hf := e_ie c hf
        refine e_aload_n 0 dX0_find_27 rfl rfl ?_
        obtain ⟨b7, hb8, hf⟩ := e_bd hf
        refine e_getR hO6 fc_0_0 lk_RX0_11 dX0_find_28 hb8 ?_
        refine e_iload 3 dX0_find_31 rfl ?_
        obtain ⟨hI9, hf⟩ := e_if hf
        refine e_iald hI9 dX0_find_33 ?_
        refine e_if_ne (t := 46) dX0_find_34 (by decide) (fun c => ?_) (fun c => ?_)
        · replace hf := e_ie c hf
          refine e_aload_n 0 dX0_find_46 rfl rfl ?_
          obtain ⟨b10, hb11, hf⟩ := e_bd hf
          refine e_getR hO6 fc_0_0 lk_RX0_11 dX0_find_47 hb11 ?_
          refine e_iload 3 dX0_find_50 rfl ?_
          obtain ⟨hI12, hf⟩ := e_if hf
          refine e_iald hI12 dX0_find_52 ?_
          refine e_iconst (v := 4) dX0_find_53 (by decide) ?_
          refine e_icmp_ne (t := 66) dX0_find_54 (by decide) (fun c => ?_) (fun c => ?_)
          · replace hf := e_ie c hf
            refine e_aload_n 0 dX0_find_66 rfl rfl ?_
            refine e_aload_n 0 dX0_find_67 rfl rfl ?_
            obtain ⟨b13, hb14, hf⟩ := e_bd hf
            refine e_getR hO6 fc_0_0 lk_RX0_11 dX0_find_68 hb14 ?_
            refine e_iload 3 dX0_find_71 rfl ?_
            obtain ⟨hI15, hf⟩ := e_if hf
            refine e_iald hI15 dX0_find_73 ?_
            obtain ⟨r16, hr17, hf⟩ := e_bd hf
            refine e_callV (st := []) ml_RX0_36 k_X0_swingAll (m_X0_swingAll (d := d - 1) (by omega) hr17) hO6 ⟨by decide, rfl⟩ rfl rfl (Nat.le_of_ble_eq_true rfl) ⟨by omega, by decide⟩ ⟨Nat.le_refl _, Nat.le_refl _⟩ dX0_find_74 ?_
            refine e_iinc (lv' := [(4, .int _), (0, .ref _), (1, .ref _), (2, .long _)]) 3 dX0_find_77 rfl (by decide) rfl ?_
            refine e_goto (t := 11) dX0_find_80 (by decide) ?_
            refine e_sub [1, 2, 3, 0] rfl ?_
            exact ih _ _ _ _ _ hf
          · replace hf := e_it c hf
            refine e_aload_n 0 dX0_find_57 rfl rfl ?_
            refine e_aload_n 1 dX0_find_58 rfl rfl ?_
            refine e_lload_n 2 dX0_find_59 rfl rfl ?_
            obtain ⟨r18, hr19, hf⟩ := e_bd hf
            refine e_callV (st := []) ml_RX0_33 k_X0_strikeAll (m_X0_strikeAll (d := d - 1) (by omega) hr19) hO6 ⟨by decide, rfl⟩ rfl rfl (Nat.le_of_ble_eq_true rfl) ⟨by omega, by decide⟩ ⟨Nat.le_refl _, Nat.le_refl _⟩ dX0_find_60 ?_
            refine e_goto (t := 77) dX0_find_63 (by decide) ?_
            refine e_iinc (lv' := [(4, .int _), (0, .ref _), (1, .ref _), (2, .long _)]) 3 dX0_find_77 rfl (by decide) rfl ?_
            refine e_goto (t := 11) dX0_find_80 (by decide) ?_
            refine e_sub [1, 2, 3, 0] rfl ?_
            exact ih _ _ _ _ _ hf
        · replace hf := e_it c hf
          refine e_aload_n 0 dX0_find_37 rfl rfl ?_
          refine e_aload_n 1 dX0_find_38 rfl rfl ?_
          refine e_lload_n 2 dX0_find_39 rfl rfl ?_
          obtain ⟨r20, hr21, hf⟩ := e_bd hf
          refine e_callV (st := []) ml_RX0_29 k_X0_goOnAll (m_X0_goOnAll (d := d - 1) (by omega) hr21) hO6 ⟨by decide, rfl⟩ rfl rfl (Nat.le_of_ble_eq_true rfl) ⟨by omega, by decide⟩ ⟨Nat.le_refl _, Nat.le_refl _⟩ dX0_find_40 ?_
          refine e_goto (t := 77) dX0_find_43 (by decide) ?_
          refine e_iinc (lv' := [(4, .int _), (0, .ref _), (1, .ref _), (2, .long _)]) 3 dX0_find_77 rfl (by decide) rfl ?_
          refine e_goto (t := 11) dX0_find_80 (by decide) ?_
          refine e_sub [1, 2, 3, 0] rfl ?_
          exact ih _ _ _ _ _ hf
def f_X0_find (L : eL) (h : eH) (v0 : Nat) (v1 : Nat) (v2 : Int64) : Option eH :=
  if isO L v0 0 = true then
  (gR h v0 1).bind fun b2 =>
  (f_J7_fill_d0a16 L h b2 v2).bind fun r4 =>
  f_X0_find_L11 L e_fu (fun (h22 : eH) =>
    some h22) r4 v0 v1 v2 0
  else none
set_option maxRecDepth 100000 in
set_option maxHeartbeats 4000000 in
theorem m_X0_find {l : Launch} {d : Nat} {L : eL} {h : eH} {v0 : Nat} {v1 : Nat} {v2 : Int64} {r : eH} (hd : 4 ≤ d) (hf : f_X0_find L h v0 v1 v2 = some r) : e_Met l yX0_find cX0_find 5 none d 0 0 true L h [.ref v0, .ref v1, .long v2] (Qx none L r) := by
  refine e_metl (by decide) (Nat.le_of_ble_eq_true rfl) (lv := [(0, .ref v0), (1, .ref v1), (2, .long v2)]) rfl ?_
  unfold f_X0_find at hf
  refine e_aload_n 0 dX0_find_0 rfl rfl ?_
  obtain ⟨hO1, hf⟩ := e_if hf
  obtain ⟨b2, hb3, hf⟩ := e_bd hf
  refine e_getR hO1 fc_0_1 lk_RX0_15 dX0_find_1 hb3 ?_
  refine e_lload_n 2 dX0_find_4 rfl rfl ?_
  obtain ⟨r4, hr5, hf⟩ := e_bd hf
  refine e_callS (st := []) ml_RX0_23 k_J7_fill_d0a16 (m_J7_fill_d0a16 (d := d - 1) (by omega) hr5) rfl rfl (Nat.le_of_ble_eq_true rfl) ⟨by omega, by decide⟩ ⟨Nat.le_refl _, Nat.le_refl _⟩ dX0_find_5 ?_
  refine e_iconst (v := 0) dX0_find_8 (by decide) ?_
  refine e_istore (lv' := [(4, .int _), (0, .ref _), (1, .ref _), (2, .long _)]) dX0_find_9 (by decide) rfl ?_
  refine e_sub [1, 2, 3, 0] rfl ?_
  refine m_X0_find_L11 hd ?_ e_fu _ _ _ _ _ hf
  · intro h22 hf
    exact e_vret rfl dX0_find_83 (qV hf)
def f_X0_places_L4 (L : eL) (h : eH) : Nat → (Int32 → Option Int32) → Nat → Int32 → Int32 → Option Int32
  | 0, _, _, _, _ => none
  | n + 1, k27, v0, v1, v2 =>
    if 4 ≤ v2 then
      k27 v1
    else
      if isO L v0 0 = true then
      (gR h v0 1).bind fun b2 =>
      if inA L b2 1 v2 = true then
      f_X0_places_L4 L h n k27 v0 (v1 + (f_J13_bitCount_95d88 (gL h b2 v2.toNatClampNeg))) (v2 + Int32.ofInt 1)
      else none
      else none
set_option maxRecDepth 100000 in
set_option maxHeartbeats 4000000 in
theorem m_X0_places_L4 {l : Launch} {d : Nat} {L : eL} {h : eH} {r : Int32} {k27 : Int32 → Option Int32} (hd : 2 ≤ d) (hk27 : ∀ (v1 : Int32), k27 v1 = some r → E l yX0_places cX0_places 3 (some .int) (e_rm d 0 0) 0 0 true L (Qx (some (.int r)) L h) L h 0 0 27 [(1, .int v1)] []) : ∀ (n : Nat) (v0 : Nat) (v1 : Int32) (v2 : Int32), f_X0_places_L4 L h n k27 v0 v1 v2 = some r → E l yX0_places cX0_places 3 (some .int) (e_rm d 0 0) 0 0 true L (Qx (some (.int r)) L h) L h 0 0 4 [(0, .ref v0), (1, .int v1), (2, .int v2)] [] := by
  intro n
  induction n with
  | zero => intro v0 v1 v2 hf; exact absurd hf (by simp [f_X0_places_L4])
  | succ n ih =>
    intro v0 v1 v2 hf
    unfold f_X0_places_L4 at hf
    refine e_iload_n 2 dX0_places_4 rfl rfl ?_
    refine e_iconst (v := 4) dX0_places_5 (by decide) ?_
    refine e_icmp_ge (t := 27) dX0_places_6 (by decide) (fun c => ?_) (fun c => ?_)
    · replace hf := e_it c hf
      refine e_sub [1] rfl ?_
      exact hk27 _ hf
    · replace hf := e_ie c hf
      refine e_iload_n 1 dX0_places_9 rfl rfl ?_
      refine e_aload_n 0 dX0_places_10 rfl rfl ?_
      obtain ⟨hO1, hf⟩ := e_if hf
      obtain ⟨b2, hb3, hf⟩ := e_bd hf
      refine e_getR hO1 fc_0_1 lk_RX0_15 dX0_places_11 hb3 ?_
      refine e_iload_n 2 dX0_places_14 rfl rfl ?_
      obtain ⟨hI4, hf⟩ := e_if hf
      refine e_lald hI4 dX0_places_15 ?_
      refine e_callS (st := [.int _]) ml_RX0_52 k_J13_bitCount_95d88 (m_J13_bitCount_95d88 (d := d - 1) (by omega) rfl) rfl rfl (Nat.le_of_ble_eq_true rfl) ⟨by omega, by decide⟩ ⟨Nat.le_refl _, Nat.le_refl _⟩ dX0_places_16 ?_
      refine e_iadd dX0_places_19 ?_
      refine e_istore_n (lv' := [(1, .int _), (0, .ref _), (2, .int _)]) dX0_places_20 rfl (by decide) rfl ?_
      refine e_iinc (lv' := [(2, .int _), (1, .int _), (0, .ref _)]) 2 dX0_places_21 rfl (by decide) rfl ?_
      refine e_goto (t := 4) dX0_places_24 (by decide) ?_
      refine e_sub [2, 1, 0] rfl ?_
      exact ih _ _ _ hf
def f_X0_places (L : eL) (h : eH) (v0 : Nat) : Option Int32 :=
  f_X0_places_L4 L h e_fu (fun (w1_5 : Int32) =>
    some w1_5) v0 0 0
set_option maxRecDepth 100000 in
set_option maxHeartbeats 4000000 in
theorem m_X0_places {l : Launch} {d : Nat} {L : eL} {h : eH} {v0 : Nat} {r : Int32} (hd : 2 ≤ d) (hf : f_X0_places L h v0 = some r) : e_Met l yX0_places cX0_places 3 (some .int) d 0 0 true L h [.ref v0] (Qx (some (.int r)) L h) := by
  refine e_metl (by decide) (Nat.le_of_ble_eq_true rfl) (lv := [(0, .ref v0)]) rfl ?_
  unfold f_X0_places at hf
  refine e_iconst (v := 0) dX0_places_0 (by decide) ?_
  refine e_istore_n (lv' := [(1, .int _), (0, .ref _)]) dX0_places_1 rfl (by decide) rfl ?_
  refine e_iconst (v := 0) dX0_places_2 (by decide) ?_
  refine e_istore_n (lv' := [(2, .int _), (1, .int _), (0, .ref _)]) dX0_places_3 rfl (by decide) rfl ?_
  refine e_sub [2, 1, 0] rfl ?_
  refine m_X0_places_L4 hd ?_ e_fu _ _ _ hf
  · intro w1_5 hf
    refine e_iload_n 0 dX0_places_27 rfl rfl ?_
    exact e_iret rfl dX0_places_28 (qP hf)
def f_X10_heardOf (L : eL) (h : eH) (v0 : Nat) (v1 : Int32) : Option (eH × Int32) :=
  if isO L v0 10 = true then
  (gR h v0 5).bind fun b2 =>
  if isO L b2 0 = true then
  (f_X0_add L h b2 v1).bind fun r5 =>
  if r5.2 = 0 then
    some (r5.1, (-1))
  else
    (gR r5.1 v0 5).bind fun b7 =>
    (gR r5.1 v0 15).bind fun b9 =>
    (f_X10_free L r5.1 v0).bind fun r11 =>
    if isO L b7 0 = true then
    (f_X0_find L r5.1 b7 b9 r11).bind fun r14 =>
    (gR r14 v0 5).bind fun b16 =>
    if isO L b16 0 = true then
    (f_X0_places L r14 b16).bind fun r19 =>
    some (r14, r19)
    else none
    else none
  else none
  else none
set_option maxRecDepth 100000 in
set_option maxHeartbeats 4000000 in
theorem m_X10_heardOf {l : Launch} {d : Nat} {L : eL} {h : eH} {v0 : Nat} {v1 : Int32} {r : eH × Int32} (hd : 5 ≤ d) (hf : f_X10_heardOf L h v0 v1 = some r) : e_Met l yX10_heardOf cX10_heardOf 2 (some .int) d 0 0 true L h [.ref v0, .int v1] (Qx (some (.int r.2)) L r.1) := by
  refine e_metl (by decide) (Nat.le_of_ble_eq_true rfl) (lv := [(0, .ref v0), (1, .int v1)]) rfl ?_
  unfold f_X10_heardOf at hf
  refine e_aload_n 0 dX10_heardOf_0 rfl rfl ?_
  obtain ⟨hO1, hf⟩ := e_if hf
  obtain ⟨b2, hb3, hf⟩ := e_bd hf
  refine e_getR hO1 fc_10_5 lk_RX10_47 dX10_heardOf_1 hb3 ?_
  refine e_iload_n 1 dX10_heardOf_4 rfl rfl ?_
  obtain ⟨hO4, hf⟩ := e_if hf
  obtain ⟨r5, hr6, hf⟩ := e_bd hf
  refine e_callV (st := []) ml_RX10_377 k_X0_add (m_X0_add (d := d - 1) (by omega) hr6) hO4 ⟨by decide, rfl⟩ rfl rfl (Nat.le_of_ble_eq_true rfl) ⟨by omega, by decide⟩ ⟨Nat.le_refl _, Nat.le_refl _⟩ dX10_heardOf_5 ?_
  refine e_if_ne (t := 13) dX10_heardOf_8 (by decide) (fun c => ?_) (fun c => ?_)
  · replace hf := e_ie c hf
    refine e_aload_n 0 dX10_heardOf_13 rfl rfl ?_
    obtain ⟨b7, hb8, hf⟩ := e_bd hf
    refine e_getR hO1 fc_10_5 lk_RX10_47 dX10_heardOf_14 hb8 ?_
    refine e_aload_n 0 dX10_heardOf_17 rfl rfl ?_
    obtain ⟨b9, hb10, hf⟩ := e_bd hf
    refine e_getR hO1 fc_10_15 lk_RX10_92 dX10_heardOf_18 hb10 ?_
    refine e_aload_n 0 dX10_heardOf_21 rfl rfl ?_
    obtain ⟨r11, hr12, hf⟩ := e_bd hf
    refine e_callV (st := [.ref _, .ref _]) ml_RX10_186 k_X10_free (m_X10_free (d := d - 1) (by omega) hr12) hO1 ⟨by decide, rfl⟩ rfl rfl (Nat.le_of_ble_eq_true rfl) ⟨by omega, by decide⟩ ⟨Nat.le_refl _, Nat.le_refl _⟩ dX10_heardOf_22 ?_
    obtain ⟨hO13, hf⟩ := e_if hf
    obtain ⟨r14, hr15, hf⟩ := e_bd hf
    refine e_callV (st := []) ml_RX10_360 k_X0_find (m_X0_find (d := d - 1) (by omega) hr15) hO13 ⟨by decide, rfl⟩ rfl rfl (Nat.le_of_ble_eq_true rfl) ⟨by omega, by decide⟩ ⟨Nat.le_refl _, Nat.le_refl _⟩ dX10_heardOf_25 ?_
    refine e_aload_n 0 dX10_heardOf_28 rfl rfl ?_
    obtain ⟨b16, hb17, hf⟩ := e_bd hf
    refine e_getR hO1 fc_10_5 lk_RX10_47 dX10_heardOf_29 hb17 ?_
    obtain ⟨hO18, hf⟩ := e_if hf
    obtain ⟨r19, hr20, hf⟩ := e_bd hf
    refine e_callV (st := []) ml_RX10_367 k_X0_places (m_X0_places (d := d - 1) (by omega) hr20) hO18 ⟨by decide, rfl⟩ rfl rfl (Nat.le_of_ble_eq_true rfl) ⟨by omega, by decide⟩ ⟨Nat.le_refl _, Nat.le_refl _⟩ dX10_heardOf_32 ?_
    exact e_iret rfl dX10_heardOf_35 (qW hf)
  · replace hf := e_it c hf
    refine e_iconst (v := (-1)) dX10_heardOf_11 (by decide) ?_
    exact e_iret rfl dX10_heardOf_12 (qW hf)
def f_X10_felt_J11 (L : eL) (h : eH) (v0 : Nat) (v1 : Int32) : Option (eH × Int32) :=
  if v1 = 1 then
    if isO L v0 10 = true then
    (f_X10_heardOf L h v0 4).bind fun r5 =>
    some (r5.1, r5.2)
    else none
  else
    if isO L v0 10 = true then
    (f_X10_heardOf L h v0 0).bind fun r2 =>
    some (r2.1, r2.2)
    else none
set_option maxRecDepth 100000 in
set_option maxHeartbeats 4000000 in
theorem m_X10_felt_J11 {l : Launch} {d : Nat} {L : eL}  {r : eH × Int32} (hd : 6 ≤ d)  : ∀ (h : eH) (v0 : Nat) (v1 : Int32), f_X10_felt_J11 L h v0 v1 = some r → E l yX10_felt cX10_felt 2 (some .int) (e_rm d 0 0) 0 0 true L (Qx (some (.int r.2)) L r.1) L h 0 0 11 [(0, .ref v0), (1, .int v1)] [] := by
  intro h v0 v1 hf
  unfold f_X10_felt_J11 at hf
  refine e_aload_n 0 dX10_felt_11 rfl rfl ?_
  refine e_iload_n 1 dX10_felt_12 rfl rfl ?_
  refine e_iconst (v := 1) dX10_felt_13 (by decide) ?_
  refine e_icmp_ne (t := 21) dX10_felt_14 (by decide) (fun c => ?_) (fun c => ?_)
  · replace hf := e_ie c hf
    refine e_iconst (v := 0) dX10_felt_21 (by decide) ?_
    obtain ⟨hO1, hf⟩ := e_if hf
    obtain ⟨r2, hr3, hf⟩ := e_bd hf
    refine e_callV (st := []) ml_RX10_356 k_X10_heardOf (m_X10_heardOf (d := d - 1) (by omega) hr3) hO1 ⟨by decide, rfl⟩ rfl rfl (Nat.le_of_ble_eq_true rfl) ⟨by omega, by decide⟩ ⟨Nat.le_refl _, Nat.le_refl _⟩ dX10_felt_22 ?_
    exact e_iret rfl dX10_felt_25 (qW hf)
  · replace hf := e_it c hf
    refine e_iconst (v := 4) dX10_felt_17 (by decide) ?_
    refine e_goto (t := 22) dX10_felt_18 (by decide) ?_
    obtain ⟨hO4, hf⟩ := e_if hf
    obtain ⟨r5, hr6, hf⟩ := e_bd hf
    refine e_callV (st := []) ml_RX10_356 k_X10_heardOf (m_X10_heardOf (d := d - 1) (by omega) hr6) hO4 ⟨by decide, rfl⟩ rfl rfl (Nat.le_of_ble_eq_true rfl) ⟨by omega, by decide⟩ ⟨Nat.le_refl _, Nat.le_refl _⟩ dX10_felt_22 ?_
    exact e_iret rfl dX10_felt_25 (qW hf)
def f_X10_felt (L : eL) (h : eH) (v0 : Nat) (v1 : Int32) : Option (eH × Int32) :=
  if v1 = 0 then
    f_X10_felt_J11 L h v0 v1
  else
    if v1 = 1 then
      f_X10_felt_J11 L h v0 v1
    else
      some (h, (-1))
set_option maxRecDepth 100000 in
set_option maxHeartbeats 4000000 in
theorem m_X10_felt {l : Launch} {d : Nat} {L : eL} {h : eH} {v0 : Nat} {v1 : Int32} {r : eH × Int32} (hd : 6 ≤ d) (hf : f_X10_felt L h v0 v1 = some r) : e_Met l yX10_felt cX10_felt 2 (some .int) d 0 0 true L h [.ref v0, .int v1] (Qx (some (.int r.2)) L r.1) := by
  refine e_metl (by decide) (Nat.le_of_ble_eq_true rfl) (lv := [(0, .ref v0), (1, .int v1)]) rfl ?_
  unfold f_X10_felt at hf
  refine e_iload_n 1 dX10_felt_0 rfl rfl ?_
  refine e_if_eq (t := 11) dX10_felt_1 (by decide) (fun c => ?_) (fun c => ?_)
  · replace hf := e_it c hf
    exact m_X10_felt_J11 hd _ _ _ hf
  · replace hf := e_ie c hf
    refine e_iload_n 1 dX10_felt_4 rfl rfl ?_
    refine e_iconst (v := 1) dX10_felt_5 (by decide) ?_
    refine e_icmp_eq (t := 11) dX10_felt_6 (by decide) (fun c => ?_) (fun c => ?_)
    · replace hf := e_it c hf
      exact m_X10_felt_J11 hd _ _ _ hf
    · replace hf := e_ie c hf
      refine e_iconst (v := (-1)) dX10_felt_9 (by decide) ?_
      exact e_iret rfl dX10_felt_10 (qW hf)
def f_X10_swung (L : eL) (h : eH) (v0 : Nat) (v1 : Int32) : Option (eH × Int32) :=
  if v1 < 1 then
    some (h, (-1))
  else
    if v1 < 4 then
      if isO L v0 10 = true then
      (f_X10_heardOf L h v0 v1).bind fun r2 =>
      some (r2.1, r2.2)
      else none
    else
      some (h, (-1))
set_option maxRecDepth 100000 in
set_option maxHeartbeats 4000000 in
theorem m_X10_swung {l : Launch} {d : Nat} {L : eL} {h : eH} {v0 : Nat} {v1 : Int32} {r : eH × Int32} (hd : 6 ≤ d) (hf : f_X10_swung L h v0 v1 = some r) : e_Met l yX10_swung cX10_swung 2 (some .int) d 0 0 true L h [.ref v0, .int v1] (Qx (some (.int r.2)) L r.1) := by
  refine e_metl (by decide) (Nat.le_of_ble_eq_true rfl) (lv := [(0, .ref v0), (1, .int v1)]) rfl ?_
  unfold f_X10_swung at hf
  refine e_iload_n 1 dX10_swung_0 rfl rfl ?_
  refine e_iconst (v := 1) dX10_swung_1 (by decide) ?_
  refine e_icmp_lt (t := 10) dX10_swung_2 (by decide) (fun c => ?_) (fun c => ?_)
  · replace hf := e_it c hf
    refine e_iconst (v := (-1)) dX10_swung_10 (by decide) ?_
    exact e_iret rfl dX10_swung_11 (qW hf)
  · replace hf := e_ie c hf
    refine e_iload_n 1 dX10_swung_5 rfl rfl ?_
    refine e_iconst (v := 4) dX10_swung_6 (by decide) ?_
    refine e_icmp_lt (t := 12) dX10_swung_7 (by decide) (fun c => ?_) (fun c => ?_)
    · replace hf := e_it c hf
      refine e_aload_n 0 dX10_swung_12 rfl rfl ?_
      refine e_iload_n 1 dX10_swung_13 rfl rfl ?_
      obtain ⟨hO1, hf⟩ := e_if hf
      obtain ⟨r2, hr3, hf⟩ := e_bd hf
      refine e_callV (st := []) ml_RX10_356 k_X10_heardOf (m_X10_heardOf (d := d - 1) (by omega) hr3) hO1 ⟨by decide, rfl⟩ rfl rfl (Nat.le_of_ble_eq_true rfl) ⟨by omega, by decide⟩ ⟨Nat.le_refl _, Nat.le_refl _⟩ dX10_swung_14 ?_
      exact e_iret rfl dX10_swung_17 (qW hf)
    · replace hf := e_ie c hf
      refine e_iconst (v := (-1)) dX10_swung_10 (by decide) ?_
      exact e_iret rfl dX10_swung_11 (qW hf)
def f_X0_size (L : eL) (h : eH) (v0 : Nat) : Option Int32 :=
  if isO L v0 0 = true then
  some (gI h v0 2)
  else none
set_option maxRecDepth 100000 in
set_option maxHeartbeats 4000000 in
theorem m_X0_size {l : Launch} {d : Nat} {L : eL} {h : eH} {v0 : Nat} {r : Int32} (hd : 1 ≤ d) (hf : f_X0_size L h v0 = some r) : e_Met l yX0_size cX0_size 1 (some .int) d 0 0 true L h [.ref v0] (Qx (some (.int r)) L h) := by
  refine e_metl (by decide) (Nat.le_of_ble_eq_true rfl) (lv := [(0, .ref v0)]) rfl ?_
  unfold f_X0_size at hf
  refine e_aload_n 0 dX0_size_0 rfl rfl ?_
  obtain ⟨hO1, hf⟩ := e_if hf
  refine e_getI hO1 fc_0_2 lk_RX0_19 dX0_size_1 ?_
  exact e_iret rfl dX0_size_4 (qP hf)
def f_X10_forget (L : eL) (h : eH) (v0 : Nat) : Option (eH × Int32) :=
  if isO L v0 10 = true then
  (gR h v0 5).bind fun b2 =>
  if isO L b2 0 = true then
  (f_X0_size L h b2).bind fun r5 =>
  (gR h v0 5).bind fun b7 =>
  if isO L b7 0 = true then
  (f_X0_clear L h b7).bind fun r10 =>
  some (r10, r5)
  else none
  else none
  else none
set_option maxRecDepth 100000 in
set_option maxHeartbeats 4000000 in
theorem m_X10_forget {l : Launch} {d : Nat} {L : eL} {h : eH} {v0 : Nat} {r : eH × Int32} (hd : 2 ≤ d) (hf : f_X10_forget L h v0 = some r) : e_Met l yX10_forget cX10_forget 2 (some .int) d 0 0 true L h [.ref v0] (Qx (some (.int r.2)) L r.1) := by
  refine e_metl (by decide) (Nat.le_of_ble_eq_true rfl) (lv := [(0, .ref v0)]) rfl ?_
  unfold f_X10_forget at hf
  refine e_aload_n 0 dX10_forget_0 rfl rfl ?_
  obtain ⟨hO1, hf⟩ := e_if hf
  obtain ⟨b2, hb3, hf⟩ := e_bd hf
  refine e_getR hO1 fc_10_5 lk_RX10_47 dX10_forget_1 hb3 ?_
  obtain ⟨hO4, hf⟩ := e_if hf
  obtain ⟨r5, hr6, hf⟩ := e_bd hf
  refine e_callV (st := []) ml_RX10_359 k_X0_size (m_X0_size (d := d - 1) (by omega) hr6) hO4 ⟨by decide, rfl⟩ rfl rfl (Nat.le_of_ble_eq_true rfl) ⟨by omega, by decide⟩ ⟨Nat.le_refl _, Nat.le_refl _⟩ dX10_forget_4 ?_
  refine e_istore_n (lv' := [(1, .int _), (0, .ref _)]) dX10_forget_7 rfl (by decide) rfl ?_
  refine e_aload_n 1 dX10_forget_8 rfl rfl ?_
  obtain ⟨b7, hb8, hf⟩ := e_bd hf
  refine e_getR hO1 fc_10_5 lk_RX10_47 dX10_forget_9 hb8 ?_
  obtain ⟨hO9, hf⟩ := e_if hf
  obtain ⟨r10, hr11, hf⟩ := e_bd hf
  refine e_callV (st := []) ml_RX10_139 k_X0_clear (m_X0_clear (d := d - 1) (by omega) hr11) hO9 ⟨by decide, rfl⟩ rfl rfl (Nat.le_of_ble_eq_true rfl) ⟨by omega, by decide⟩ ⟨Nat.le_refl _, Nat.le_refl _⟩ dX10_forget_12 ?_
  refine e_iload_n 0 dX10_forget_15 rfl rfl ?_
  exact e_iret rfl dX10_forget_16 (qW hf)
def f_X0_spots (L : eL) (h : eH) (v0 : Nat) : Option Int64 :=
  if isO L v0 0 = true then
  (gR h v0 1).bind fun b2 =>
  if inA L b2 1 0 = true then
  (gR h v0 1).bind fun b5 =>
  if inA L b5 1 1 = true then
  (gR h v0 1).bind fun b8 =>
  if inA L b8 1 2 = true then
  (gR h v0 1).bind fun b11 =>
  if inA L b11 1 3 = true then
  some ((((gL h b2 (0 : Int32).toNatClampNeg) ||| (gL h b5 (1 : Int32).toNatClampNeg)) ||| (gL h b8 (2 : Int32).toNatClampNeg)) ||| (gL h b11 (3 : Int32).toNatClampNeg))
  else none
  else none
  else none
  else none
  else none
set_option maxRecDepth 100000 in
set_option maxHeartbeats 4000000 in
theorem m_X0_spots {l : Launch} {d : Nat} {L : eL} {h : eH} {v0 : Nat} {r : Int64} (hd : 1 ≤ d) (hf : f_X0_spots L h v0 = some r) : e_Met l yX0_spots cX0_spots 1 (some .long) d 0 0 true L h [.ref v0] (Qx (some (.long r)) L h) := by
  refine e_metl (by decide) (Nat.le_of_ble_eq_true rfl) (lv := [(0, .ref v0)]) rfl ?_
  unfold f_X0_spots at hf
  refine e_aload_n 0 dX0_spots_0 rfl rfl ?_
  obtain ⟨hO1, hf⟩ := e_if hf
  obtain ⟨b2, hb3, hf⟩ := e_bd hf
  refine e_getR hO1 fc_0_1 lk_RX0_15 dX0_spots_1 hb3 ?_
  refine e_iconst (v := 0) dX0_spots_4 (by decide) ?_
  obtain ⟨hI4, hf⟩ := e_if hf
  refine e_lald hI4 dX0_spots_5 ?_
  refine e_aload_n 0 dX0_spots_6 rfl rfl ?_
  obtain ⟨b5, hb6, hf⟩ := e_bd hf
  refine e_getR hO1 fc_0_1 lk_RX0_15 dX0_spots_7 hb6 ?_
  refine e_iconst (v := 1) dX0_spots_10 (by decide) ?_
  obtain ⟨hI7, hf⟩ := e_if hf
  refine e_lald hI7 dX0_spots_11 ?_
  refine e_lor dX0_spots_12 ?_
  refine e_aload_n 0 dX0_spots_13 rfl rfl ?_
  obtain ⟨b8, hb9, hf⟩ := e_bd hf
  refine e_getR hO1 fc_0_1 lk_RX0_15 dX0_spots_14 hb9 ?_
  refine e_iconst (v := 2) dX0_spots_17 (by decide) ?_
  obtain ⟨hI10, hf⟩ := e_if hf
  refine e_lald hI10 dX0_spots_18 ?_
  refine e_lor dX0_spots_19 ?_
  refine e_aload_n 0 dX0_spots_20 rfl rfl ?_
  obtain ⟨b11, hb12, hf⟩ := e_bd hf
  refine e_getR hO1 fc_0_1 lk_RX0_15 dX0_spots_21 hb12 ?_
  refine e_iconst (v := 3) dX0_spots_24 (by decide) ?_
  obtain ⟨hI13, hf⟩ := e_if hf
  refine e_lald hI13 dX0_spots_25 ?_
  refine e_lor dX0_spots_26 ?_
  exact e_lret rfl dX0_spots_27 (qPL hf)
def f_X10_held (L : eL) (h : eH) (v0 : Nat) : Option (eH × Int32) :=
  if isO L v0 10 = true then
  (gR h v0 5).bind fun b2 =>
  (gR h v0 15).bind fun b4 =>
  (f_X10_free L h v0).bind fun r6 =>
  if isO L b2 0 = true then
  (f_X0_find L h b2 b4 r6).bind fun r9 =>
  (gR r9 v0 1).bind fun b11 =>
  if isO L b11 3 = true then
  (f_X3_begin L r9 b11).bind fun r14 =>
  (gR r14 v0 1).bind fun b16 =>
  (gR r14 v0 5).bind fun b18 =>
  if isO L b18 0 = true then
  (f_X0_spots L r14 b18).bind fun r21 =>
  if isO L b16 3 = true then
  (f_X3_add L r14 b16 r21).bind fun r24 =>
  (gR r24 v0 1).bind fun b26 =>
  (gR r24 v0 5).bind fun b28 =>
  if isO L b28 0 = true then
  (f_X0_places L r24 b28).bind fun r31 =>
  if isO L b26 3 = true then
  (f_X3_add L r24 b26 r31.toInt64).bind fun r34 =>
  (gR r34 v0 5).bind fun b36 =>
  if isO L b36 0 = true then
  (f_X0_spots L r34 b36).bind fun r39 =>
  some (r34, f_J13_bitCount_95d88 r39)
  else none
  else none
  else none
  else none
  else none
  else none
  else none
  else none
set_option maxRecDepth 100000 in
set_option maxHeartbeats 4000000 in
theorem m_X10_held {l : Launch} {d : Nat} {L : eL} {h : eH} {v0 : Nat} {r : eH × Int32} (hd : 5 ≤ d) (hf : f_X10_held L h v0 = some r) : e_Met l yX10_held cX10_held 1 (some .int) d 0 0 true L h [.ref v0] (Qx (some (.int r.2)) L r.1) := by
  refine e_metl (by decide) (Nat.le_of_ble_eq_true rfl) (lv := [(0, .ref v0)]) rfl ?_
  unfold f_X10_held at hf
  refine e_aload_n 0 dX10_held_0 rfl rfl ?_
  obtain ⟨hO1, hf⟩ := e_if hf
  obtain ⟨b2, hb3, hf⟩ := e_bd hf
  refine e_getR hO1 fc_10_5 lk_RX10_47 dX10_held_1 hb3 ?_
  refine e_aload_n 0 dX10_held_4 rfl rfl ?_
  obtain ⟨b4, hb5, hf⟩ := e_bd hf
  refine e_getR hO1 fc_10_15 lk_RX10_92 dX10_held_5 hb5 ?_
  refine e_aload_n 0 dX10_held_8 rfl rfl ?_
  obtain ⟨r6, hr7, hf⟩ := e_bd hf
  refine e_callV (st := [.ref _, .ref _]) ml_RX10_186 k_X10_free (m_X10_free (d := d - 1) (by omega) hr7) hO1 ⟨by decide, rfl⟩ rfl rfl (Nat.le_of_ble_eq_true rfl) ⟨by omega, by decide⟩ ⟨Nat.le_refl _, Nat.le_refl _⟩ dX10_held_9 ?_
  obtain ⟨hO8, hf⟩ := e_if hf
  obtain ⟨r9, hr10, hf⟩ := e_bd hf
  refine e_callV (st := []) ml_RX10_360 k_X0_find (m_X0_find (d := d - 1) (by omega) hr10) hO8 ⟨by decide, rfl⟩ rfl rfl (Nat.le_of_ble_eq_true rfl) ⟨by omega, by decide⟩ ⟨Nat.le_refl _, Nat.le_refl _⟩ dX10_held_12 ?_
  refine e_aload_n 0 dX10_held_15 rfl rfl ?_
  obtain ⟨b11, hb12, hf⟩ := e_bd hf
  refine e_getR hO1 fc_10_1 lk_RX10_19 dX10_held_16 hb12 ?_
  obtain ⟨hO13, hf⟩ := e_if hf
  obtain ⟨r14, hr15, hf⟩ := e_bd hf
  refine e_callV (st := []) ml_RX10_267 k_X3_begin (m_X3_begin (d := d - 1) (by omega) hr15) hO13 ⟨by decide, rfl⟩ rfl rfl (Nat.le_of_ble_eq_true rfl) ⟨by omega, by decide⟩ ⟨Nat.le_refl _, Nat.le_refl _⟩ dX10_held_19 ?_
  refine e_aload_n 0 dX10_held_22 rfl rfl ?_
  obtain ⟨b16, hb17, hf⟩ := e_bd hf
  refine e_getR hO1 fc_10_1 lk_RX10_19 dX10_held_23 hb17 ?_
  refine e_aload_n 0 dX10_held_26 rfl rfl ?_
  obtain ⟨b18, hb19, hf⟩ := e_bd hf
  refine e_getR hO1 fc_10_5 lk_RX10_47 dX10_held_27 hb19 ?_
  obtain ⟨hO20, hf⟩ := e_if hf
  obtain ⟨r21, hr22, hf⟩ := e_bd hf
  refine e_callV (st := [.ref _]) ml_RX10_364 k_X0_spots (m_X0_spots (d := d - 1) (by omega) hr22) hO20 ⟨by decide, rfl⟩ rfl rfl (Nat.le_of_ble_eq_true rfl) ⟨by omega, by decide⟩ ⟨Nat.le_refl _, Nat.le_refl _⟩ dX10_held_30 ?_
  obtain ⟨hO23, hf⟩ := e_if hf
  obtain ⟨r24, hr25, hf⟩ := e_bd hf
  refine e_callV (st := []) ml_RX10_269 k_X3_add (m_X3_add (d := d - 1) (by omega) hr25) hO23 ⟨by decide, rfl⟩ rfl rfl (Nat.le_of_ble_eq_true rfl) ⟨by omega, by decide⟩ ⟨Nat.le_refl _, Nat.le_refl _⟩ dX10_held_33 ?_
  refine e_aload_n 0 dX10_held_36 rfl rfl ?_
  obtain ⟨b26, hb27, hf⟩ := e_bd hf
  refine e_getR hO1 fc_10_1 lk_RX10_19 dX10_held_37 hb27 ?_
  refine e_aload_n 0 dX10_held_40 rfl rfl ?_
  obtain ⟨b28, hb29, hf⟩ := e_bd hf
  refine e_getR hO1 fc_10_5 lk_RX10_47 dX10_held_41 hb29 ?_
  obtain ⟨hO30, hf⟩ := e_if hf
  obtain ⟨r31, hr32, hf⟩ := e_bd hf
  refine e_callV (st := [.ref _]) ml_RX10_367 k_X0_places (m_X0_places (d := d - 1) (by omega) hr32) hO30 ⟨by decide, rfl⟩ rfl rfl (Nat.le_of_ble_eq_true rfl) ⟨by omega, by decide⟩ ⟨Nat.le_refl _, Nat.le_refl _⟩ dX10_held_44 ?_
  refine e_i2l dX10_held_47 ?_
  obtain ⟨hO33, hf⟩ := e_if hf
  obtain ⟨r34, hr35, hf⟩ := e_bd hf
  refine e_callV (st := []) ml_RX10_269 k_X3_add (m_X3_add (d := d - 1) (by omega) hr35) hO33 ⟨by decide, rfl⟩ rfl rfl (Nat.le_of_ble_eq_true rfl) ⟨by omega, by decide⟩ ⟨Nat.le_refl _, Nat.le_refl _⟩ dX10_held_48 ?_
  refine e_aload_n 0 dX10_held_51 rfl rfl ?_
  obtain ⟨b36, hb37, hf⟩ := e_bd hf
  refine e_getR hO1 fc_10_5 lk_RX10_47 dX10_held_52 hb37 ?_
  obtain ⟨hO38, hf⟩ := e_if hf
  obtain ⟨r39, hr40, hf⟩ := e_bd hf
  refine e_callV (st := []) ml_RX10_364 k_X0_spots (m_X0_spots (d := d - 1) (by omega) hr40) hO38 ⟨by decide, rfl⟩ rfl rfl (Nat.le_of_ble_eq_true rfl) ⟨by omega, by decide⟩ ⟨Nat.le_refl _, Nat.le_refl _⟩ dX10_held_55 ?_
  refine e_callS (st := []) ml_RX10_143 k_J13_bitCount_95d88 (m_J13_bitCount_95d88 (d := d - 1) (by omega) rfl) rfl rfl (Nat.le_of_ble_eq_true rfl) ⟨by omega, by decide⟩ ⟨Nat.le_refl _, Nat.le_refl _⟩ dX10_held_58 ?_
  exact e_iret rfl dX10_held_61 (qW hf)
def f_X0_strikes_L6 (L : eL) (h : eH) : Nat → (Int32 → Option Int32) → Nat → Nat → Int64 → Int32 → Int32 → Int32 → Option Int32
  | 0, _, _, _, _, _, _, _ => none
  | n + 1, k50, v0, v1, v2, v4, v5, v6 =>
    if 4 ≤ v6 then
      k50 v5
    else
      if isO L v0 0 = true then
      (gR h v0 1).bind fun b2 =>
      if inA L b2 1 v6 = true then
      (f_X0_canGo L h v1 v2 ((v6 + v4) &&& 3)).bind fun r5 =>
      f_X0_strikes_L6 L h n k50 v0 v1 v2 v4 (v5 + (f_J13_bitCount_95d88 ((gL h b2 v6.toNatClampNeg) &&& (r5 ^^^ (-1))))) (v6 + Int32.ofInt 1)
      else none
      else none
set_option maxRecDepth 100000 in
set_option maxHeartbeats 4000000 in
theorem m_X0_strikes_L6 {l : Launch} {d : Nat} {L : eL} {h : eH} {r : Int32} {k50 : Int32 → Option Int32} (hd : 3 ≤ d) (hk50 : ∀ (v5 : Int32), k50 v5 = some r → E l yX0_strikes cX0_strikes 7 (some .int) (e_rm d 0 0) 0 0 true L (Qx (some (.int r)) L h) L h 0 0 50 [(5, .int v5)] []) : ∀ (n : Nat) (v0 : Nat) (v1 : Nat) (v2 : Int64) (v4 : Int32) (v5 : Int32) (v6 : Int32), f_X0_strikes_L6 L h n k50 v0 v1 v2 v4 v5 v6 = some r → E l yX0_strikes cX0_strikes 7 (some .int) (e_rm d 0 0) 0 0 true L (Qx (some (.int r)) L h) L h 0 0 6 [(0, .ref v0), (1, .ref v1), (2, .long v2), (4, .int v4), (5, .int v5), (6, .int v6)] [] := by
  intro n
  induction n with
  | zero => intro v0 v1 v2 v4 v5 v6 hf; exact absurd hf (by simp [f_X0_strikes_L6])
  | succ n ih =>
    intro v0 v1 v2 v4 v5 v6 hf
    unfold f_X0_strikes_L6 at hf
    refine e_iload 5 dX0_strikes_6 rfl ?_
    refine e_iconst (v := 4) dX0_strikes_8 (by decide) ?_
    refine e_icmp_ge (t := 50) dX0_strikes_9 (by decide) (fun c => ?_) (fun c => ?_)
    · replace hf := e_it c hf
      refine e_sub [4] rfl ?_
      exact hk50 _ hf
    · replace hf := e_ie c hf
      refine e_iload 4 dX0_strikes_12 rfl ?_
      refine e_aload_n 0 dX0_strikes_14 rfl rfl ?_
      obtain ⟨hO1, hf⟩ := e_if hf
      obtain ⟨b2, hb3, hf⟩ := e_bd hf
      refine e_getR hO1 fc_0_1 lk_RX0_15 dX0_strikes_15 hb3 ?_
      refine e_iload 5 dX0_strikes_18 rfl ?_
      obtain ⟨hI4, hf⟩ := e_if hf
      refine e_lald hI4 dX0_strikes_20 ?_
      refine e_aload_n 1 dX0_strikes_21 rfl rfl ?_
      refine e_lload_n 2 dX0_strikes_22 rfl rfl ?_
      refine e_iload 5 dX0_strikes_23 rfl ?_
      refine e_iload 3 dX0_strikes_25 rfl ?_
      refine e_iadd dX0_strikes_27 ?_
      refine e_iconst (v := 3) dX0_strikes_28 (by decide) ?_
      refine e_iand dX0_strikes_29 ?_
      obtain ⟨r5, hr6, hf⟩ := e_bd hf
      refine e_callS (st := [.long _, .int _]) ml_RX0_46 k_X0_canGo (m_X0_canGo (d := d - 1) (by omega) hr6) rfl rfl (Nat.le_of_ble_eq_true rfl) ⟨by omega, by decide⟩ ⟨Nat.le_refl _, Nat.le_refl _⟩ dX0_strikes_30 ?_
      refine e_ldc2 kc_RX0_50 dX0_strikes_33 ?_
      refine e_lxor dX0_strikes_36 ?_
      refine e_land dX0_strikes_37 ?_
      refine e_callS (st := [.int _]) ml_RX0_52 k_J13_bitCount_95d88 (m_J13_bitCount_95d88 (d := d - 1) (by omega) rfl) rfl rfl (Nat.le_of_ble_eq_true rfl) ⟨by omega, by decide⟩ ⟨Nat.le_refl _, Nat.le_refl _⟩ dX0_strikes_38 ?_
      refine e_iadd dX0_strikes_41 ?_
      refine e_istore (lv' := [(5, .int _), (0, .ref _), (1, .ref _), (2, .long _), (4, .int _), (6, .int _)]) dX0_strikes_42 (by decide) rfl ?_
      refine e_iinc (lv' := [(6, .int _), (5, .int _), (0, .ref _), (1, .ref _), (2, .long _), (4, .int _)]) 5 dX0_strikes_44 rfl (by decide) rfl ?_
      refine e_goto (t := 6) dX0_strikes_47 (by decide) ?_
      refine e_sub [2, 3, 4, 5, 1, 0] rfl ?_
      exact ih _ _ _ _ _ _ hf
def f_X0_strikes (L : eL) (h : eH) (v0 : Nat) (v1 : Nat) (v2 : Int64) (v4 : Int32) : Option Int32 :=
  f_X0_strikes_L6 L h e_fu (fun (w5_7 : Int32) =>
    some w5_7) v0 v1 v2 v4 0 0
set_option maxRecDepth 100000 in
set_option maxHeartbeats 4000000 in
theorem m_X0_strikes {l : Launch} {d : Nat} {L : eL} {h : eH} {v0 : Nat} {v1 : Nat} {v2 : Int64} {v4 : Int32} {r : Int32} (hd : 3 ≤ d) (hf : f_X0_strikes L h v0 v1 v2 v4 = some r) : e_Met l yX0_strikes cX0_strikes 7 (some .int) d 0 0 true L h [.ref v0, .ref v1, .long v2, .int v4] (Qx (some (.int r)) L h) := by
  refine e_metl (by decide) (Nat.le_of_ble_eq_true rfl) (lv := [(0, .ref v0), (1, .ref v1), (2, .long v2), (4, .int v4)]) rfl ?_
  unfold f_X0_strikes at hf
  refine e_iconst (v := 0) dX0_strikes_0 (by decide) ?_
  refine e_istore (lv' := [(5, .int _), (0, .ref _), (1, .ref _), (2, .long _), (4, .int _)]) dX0_strikes_1 (by decide) rfl ?_
  refine e_iconst (v := 0) dX0_strikes_3 (by decide) ?_
  refine e_istore (lv' := [(6, .int _), (5, .int _), (0, .ref _), (1, .ref _), (2, .long _), (4, .int _)]) dX0_strikes_4 (by decide) rfl ?_
  refine e_sub [2, 3, 4, 5, 1, 0] rfl ?_
  refine m_X0_strikes_L6 hd ?_ e_fu _ _ _ _ _ _ hf
  · intro w5_7 hf
    refine e_iload 0 dX0_strikes_50 rfl ?_
    exact e_iret rfl dX0_strikes_52 (qP hf)
def f_X10_feel_L43 (L : eL) : Nat → (eH → Nat → Int32 → Int32 → Option (eH × Int32)) → eH → Nat → Int64 → Int32 → Int32 → Int32 → Int32 → Option (eH × Int32)
  | 0, _, _, _, _, _, _, _, _ => none
  | n + 1, k97, h, v0, v1, v3, v4, v5, v6 =>
    if 4 ≤ v6 then
      k97 h v0 v4 v5
    else
      if isO L v0 10 = true then
      (gR h v0 5).bind fun b17 =>
      (gR h v0 15).bind fun b19 =>
      if isO L b17 0 = true then
      (f_X0_strikes L h b17 b19 v1 v6).bind fun r22 =>
      if v5 ≤ (mxI r22 (v3 - r22)) then
        f_X10_feel_L43 L n k97 h v0 v1 v3 v4 v5 (v6 + Int32.ofInt 1)
      else
        f_X10_feel_L43 L n k97 h v0 v1 v3 v6 (mxI r22 (v3 - r22)) (v6 + Int32.ofInt 1)
      else none
      else none
set_option maxRecDepth 100000 in
set_option maxHeartbeats 4000000 in
theorem m_X10_feel_L43 {l : Launch} {d : Nat} {L : eL}  {r : eH × Int32} {k97 : eH → Nat → Int32 → Int32 → Option (eH × Int32)} (hd : 6 ≤ d) (hk97 : ∀ (h : eH) (v0 : Nat) (v4 : Int32) (v5 : Int32), k97 h v0 v4 v5 = some r → E l yX10_feel cX10_feel 9 (some .int) (e_rm d 0 0) 0 0 true L (Qx (some (.int r.2)) L r.1) L h 0 0 97 [(0, .ref v0), (4, .int v4), (5, .int v5)] []) : ∀ (n : Nat) (h : eH) (v0 : Nat) (v1 : Int64) (v3 : Int32) (v4 : Int32) (v5 : Int32) (v6 : Int32), f_X10_feel_L43 L n k97 h v0 v1 v3 v4 v5 v6 = some r → E l yX10_feel cX10_feel 9 (some .int) (e_rm d 0 0) 0 0 true L (Qx (some (.int r.2)) L r.1) L h 0 0 43 [(0, .ref v0), (1, .long v1), (3, .int v3), (4, .int v4), (5, .int v5), (6, .int v6)] [] := by
  intro n
  induction n with
  | zero => intro h v0 v1 v3 v4 v5 v6 hf; exact absurd hf (by simp [f_X10_feel_L43])
  | succ n ih =>
    intro h v0 v1 v3 v4 v5 v6 hf
    unfold f_X10_feel_L43 at hf
    refine e_iload 5 dX10_feel_43 rfl ?_
    refine e_iconst (v := 4) dX10_feel_45 (by decide) ?_
    refine e_icmp_ge (t := 97) dX10_feel_46 (by decide) (fun c => ?_) (fun c => ?_)
    · replace hf := e_it c hf
      refine e_sub [0, 3, 4] rfl ?_
      exact hk97 _ _ _ _ hf
    · replace hf := e_ie c hf
      refine e_aload_n 0 dX10_feel_49 rfl rfl ?_
      obtain ⟨hO16, hf⟩ := e_if hf
      obtain ⟨b17, hb18, hf⟩ := e_bd hf
      refine e_getR hO16 fc_10_5 lk_RX10_47 dX10_feel_50 hb18 ?_
      refine e_aload_n 0 dX10_feel_53 rfl rfl ?_
      obtain ⟨b19, hb20, hf⟩ := e_bd hf
      refine e_getR hO16 fc_10_15 lk_RX10_92 dX10_feel_54 hb20 ?_
      refine e_lload_n 1 dX10_feel_57 rfl rfl ?_
      refine e_iload 5 dX10_feel_58 rfl ?_
      obtain ⟨hO21, hf⟩ := e_if hf
      obtain ⟨r22, hr23, hf⟩ := e_bd hf
      refine e_callV (st := []) ml_RX10_370 k_X0_strikes (m_X0_strikes (d := d - 1) (by omega) hr23) hO21 ⟨by decide, rfl⟩ rfl rfl (Nat.le_of_ble_eq_true rfl) ⟨by omega, by decide⟩ ⟨Nat.le_refl _, Nat.le_refl _⟩ dX10_feel_60 ?_
      refine e_istore (lv' := [(7, .int _), (0, .ref _), (1, .long _), (3, .int _), (4, .int _), (5, .int _), (6, .int _)]) dX10_feel_63 (by decide) rfl ?_
      refine e_iload 0 dX10_feel_65 rfl ?_
      refine e_iload_n 3 dX10_feel_67 rfl rfl ?_
      refine e_iload 0 dX10_feel_68 rfl ?_
      refine e_isub dX10_feel_70 ?_
      refine e_mx ml_RX10_374 (by omega) (Nat.le_of_ble_eq_true rfl) ⟨Nat.le_refl _, Nat.le_refl _⟩ dX10_feel_71 ?_
      refine e_istore (lv' := [(8, .int _), (7, .int _), (0, .ref _), (1, .long _), (3, .int _), (4, .int _), (5, .int _), (6, .int _)]) dX10_feel_74 (by decide) rfl ?_
      refine e_iload 0 dX10_feel_76 rfl ?_
      refine e_iload 6 dX10_feel_78 rfl ?_
      refine e_icmp_ge (t := 91) dX10_feel_80 (by decide) (fun c => ?_) (fun c => ?_)
      · replace hf := e_it c hf
        refine e_iinc (lv' := [(6, .int _), (8, .int _), (7, .int _), (0, .ref _), (1, .long _), (3, .int _), (4, .int _), (5, .int _)]) 7 dX10_feel_91 rfl (by decide) rfl ?_
        refine e_goto (t := 43) dX10_feel_94 (by decide) ?_
        refine e_sub [3, 4, 5, 6, 7, 0] rfl ?_
        exact ih _ _ _ _ _ _ _ hf
      · replace hf := e_ie c hf
        refine e_iload 0 dX10_feel_83 rfl ?_
        refine e_istore (lv' := [(5, .int _), (8, .int _), (7, .int _), (0, .ref _), (1, .long _), (3, .int _), (4, .int _), (6, .int _)]) dX10_feel_85 (by decide) rfl ?_
        refine e_iload 7 dX10_feel_87 rfl ?_
        refine e_istore (lv' := [(4, .int _), (5, .int _), (8, .int _), (7, .int _), (0, .ref _), (1, .long _), (3, .int _), (6, .int _)]) dX10_feel_89 (by decide) rfl ?_
        refine e_iinc (lv' := [(6, .int _), (4, .int _), (5, .int _), (8, .int _), (7, .int _), (0, .ref _), (1, .long _), (3, .int _)]) 7 dX10_feel_91 rfl (by decide) rfl ?_
        refine e_goto (t := 43) dX10_feel_94 (by decide) ?_
        refine e_sub [5, 6, 7, 1, 2, 0] rfl ?_
        exact ih _ _ _ _ _ _ _ hf
def f_X10_feel (L : eL) (h : eH) (v0 : Nat) : Option (eH × Int32) :=
  if isO L v0 10 = true then
  (f_X10_free L h v0).bind fun r2 =>
  (gR h v0 5).bind fun b4 =>
  (gR h v0 15).bind fun b6 =>
  if isO L b4 0 = true then
  (f_X0_find L h b4 b6 r2).bind fun r9 =>
  (gR r9 v0 5).bind fun b11 =>
  if isO L b11 0 = true then
  (f_X0_places L r9 b11).bind fun r14 =>
  if r14 = 0 then
    some (r9, (-2))
  else
    f_X10_feel_L43 L e_fu (fun (h24 : eH) (w0_25 : Nat) (w4_26 : Int32) (w5_27 : Int32) =>
      if isO L w0_25 10 = true then
      (gR h24 w0_25 1).bind fun b29 =>
      if isO L b29 3 = true then
      (f_X3_begin L h24 b29).bind fun r32 =>
      (gR r32 w0_25 1).bind fun b34 =>
      if isO L b34 3 = true then
      (f_X3_add L r32 b34 w5_27.toInt64).bind fun r37 =>
      some (r37, w4_26)
      else none
      else none
      else none) r9 v0 r2 r14 0 (r14 + 1) 0
  else none
  else none
  else none
set_option maxRecDepth 100000 in
set_option maxHeartbeats 4000000 in
theorem m_X10_feel {l : Launch} {d : Nat} {L : eL} {h : eH} {v0 : Nat} {r : eH × Int32} (hd : 6 ≤ d) (hf : f_X10_feel L h v0 = some r) : e_Met l yX10_feel cX10_feel 9 (some .int) d 0 0 true L h [.ref v0] (Qx (some (.int r.2)) L r.1) := by
  refine e_metl (by decide) (Nat.le_of_ble_eq_true rfl) (lv := [(0, .ref v0)]) rfl ?_
  unfold f_X10_feel at hf
  refine e_aload_n 0 dX10_feel_0 rfl rfl ?_
  obtain ⟨hO1, hf⟩ := e_if hf
  obtain ⟨r2, hr3, hf⟩ := e_bd hf
  refine e_callV (st := []) ml_RX10_186 k_X10_free (m_X10_free (d := d - 1) (by omega) hr3) hO1 ⟨by decide, rfl⟩ rfl rfl (Nat.le_of_ble_eq_true rfl) ⟨by omega, by decide⟩ ⟨Nat.le_refl _, Nat.le_refl _⟩ dX10_feel_1 ?_
  refine e_lstore_n (lv' := [(1, .long _), (0, .ref _)]) dX10_feel_4 rfl (by decide) rfl ?_
  refine e_aload_n 1 dX10_feel_5 rfl rfl ?_
  obtain ⟨b4, hb5, hf⟩ := e_bd hf
  refine e_getR hO1 fc_10_5 lk_RX10_47 dX10_feel_6 hb5 ?_
  refine e_aload_n 1 dX10_feel_9 rfl rfl ?_
  obtain ⟨b6, hb7, hf⟩ := e_bd hf
  refine e_getR hO1 fc_10_15 lk_RX10_92 dX10_feel_10 hb7 ?_
  refine e_lload_n 0 dX10_feel_13 rfl rfl ?_
  obtain ⟨hO8, hf⟩ := e_if hf
  obtain ⟨r9, hr10, hf⟩ := e_bd hf
  refine e_callV (st := []) ml_RX10_360 k_X0_find (m_X0_find (d := d - 1) (by omega) hr10) hO8 ⟨by decide, rfl⟩ rfl rfl (Nat.le_of_ble_eq_true rfl) ⟨by omega, by decide⟩ ⟨Nat.le_refl _, Nat.le_refl _⟩ dX10_feel_14 ?_
  refine e_aload_n 1 dX10_feel_17 rfl rfl ?_
  obtain ⟨b11, hb12, hf⟩ := e_bd hf
  refine e_getR hO1 fc_10_5 lk_RX10_47 dX10_feel_18 hb12 ?_
  obtain ⟨hO13, hf⟩ := e_if hf
  obtain ⟨r14, hr15, hf⟩ := e_bd hf
  refine e_callV (st := []) ml_RX10_367 k_X0_places (m_X0_places (d := d - 1) (by omega) hr15) hO13 ⟨by decide, rfl⟩ rfl rfl (Nat.le_of_ble_eq_true rfl) ⟨by omega, by decide⟩ ⟨Nat.le_refl _, Nat.le_refl _⟩ dX10_feel_21 ?_
  refine e_istore_n (lv' := [(3, .int _), (1, .long _), (0, .ref _)]) dX10_feel_24 rfl (by decide) rfl ?_
  refine e_iload_n 0 dX10_feel_25 rfl rfl ?_
  refine e_if_ne (t := 32) dX10_feel_26 (by decide) (fun c => ?_) (fun c => ?_)
  · replace hf := e_ie c hf
    refine e_iconst (v := 0) dX10_feel_32 (by decide) ?_
    refine e_istore (lv' := [(4, .int _), (3, .int _), (1, .long _), (0, .ref _)]) dX10_feel_33 (by decide) rfl ?_
    refine e_iload_n 1 dX10_feel_35 rfl rfl ?_
    refine e_iconst (v := 1) dX10_feel_36 (by decide) ?_
    refine e_iadd dX10_feel_37 ?_
    refine e_istore (lv' := [(5, .int _), (4, .int _), (3, .int _), (1, .long _), (0, .ref _)]) dX10_feel_38 (by decide) rfl ?_
    refine e_iconst (v := 0) dX10_feel_40 (by decide) ?_
    refine e_istore (lv' := [(6, .int _), (5, .int _), (4, .int _), (3, .int _), (1, .long _), (0, .ref _)]) dX10_feel_41 (by decide) rfl ?_
    refine e_sub [5, 4, 3, 2, 1, 0] rfl ?_
    refine m_X10_feel_L43 hd ?_ e_fu _ _ _ _ _ _ _ hf
    · intro h24 w0_25 w4_26 w5_27 hf
      refine e_aload_n 0 dX10_feel_97 rfl rfl ?_
      obtain ⟨hO28, hf⟩ := e_if hf
      obtain ⟨b29, hb30, hf⟩ := e_bd hf
      refine e_getR hO28 fc_10_1 lk_RX10_19 dX10_feel_98 hb30 ?_
      obtain ⟨hO31, hf⟩ := e_if hf
      obtain ⟨r32, hr33, hf⟩ := e_bd hf
      refine e_callV (st := []) ml_RX10_267 k_X3_begin (m_X3_begin (d := d - 1) (by omega) hr33) hO31 ⟨by decide, rfl⟩ rfl rfl (Nat.le_of_ble_eq_true rfl) ⟨by omega, by decide⟩ ⟨Nat.le_refl _, Nat.le_refl _⟩ dX10_feel_101 ?_
      refine e_aload_n 0 dX10_feel_104 rfl rfl ?_
      obtain ⟨b34, hb35, hf⟩ := e_bd hf
      refine e_getR hO28 fc_10_1 lk_RX10_19 dX10_feel_105 hb35 ?_
      refine e_iload 2 dX10_feel_108 rfl ?_
      refine e_i2l dX10_feel_110 ?_
      obtain ⟨hO36, hf⟩ := e_if hf
      obtain ⟨r37, hr38, hf⟩ := e_bd hf
      refine e_callV (st := []) ml_RX10_269 k_X3_add (m_X3_add (d := d - 1) (by omega) hr38) hO36 ⟨by decide, rfl⟩ rfl rfl (Nat.le_of_ble_eq_true rfl) ⟨by omega, by decide⟩ ⟨Nat.le_refl _, Nat.le_refl _⟩ dX10_feel_111 ?_
      refine e_iload 1 dX10_feel_114 rfl ?_
      exact e_iret rfl dX10_feel_116 (qW hf)
  · replace hf := e_it c hf
    refine e_bipush (v := (-2)) dX10_feel_29 (by decide) ?_
    exact e_iret rfl dX10_feel_31 (qW hf)
def f_X10_stray_J78 (L : eL) (k38 : eH → Nat → Int64 → Int32 → Int32 → Option eH) (k102 : eH → Nat → Int64 → Int32 → Option eH) (h : eH) (v0 : Nat) (v1 : Int64) (v3 : Int32) (v4 : Int32) (s0 : Int32) : Option eH :=
  if isO L v0 10 = true then
  (gR h v0 14).bind fun b19 =>
  if inA L b19 1 s0 = true then
  (gR h v0 13).bind fun b22 =>
  if inA L b22 1 v3 = true then
  (some (sL h b19 s0.toNatClampNeg ((gL h b19 s0.toNatClampNeg) + (gL h b22 v3.toNatClampNeg)))).bind fun h25 =>
  k38 h25 v0 v1 v3 (v4 + Int32.ofInt 1)
  else none
  else none
  else none
set_option maxRecDepth 100000 in
set_option maxHeartbeats 4000000 in
theorem m_X10_stray_J78 {l : Launch} {d : Nat} {L : eL}  {r : eH} {k38 : eH → Nat → Int64 → Int32 → Int32 → Option eH} {k102 : eH → Nat → Int64 → Int32 → Option eH} (hd : 4 ≤ d) (hk38 : ∀ (h : eH) (v0 : Nat) (v1 : Int64) (v3 : Int32) (v4 : Int32), k38 h v0 v1 v3 v4 = some r → E l yX10_stray cX10_stray 7 none (e_rm d 0 0) 0 0 true L (Qx none L r) L h 0 0 38 [(0, .ref v0), (1, .long v1), (3, .int v3), (4, .int v4)] []) (hk102 : ∀ (h : eH) (v0 : Nat) (v1 : Int64) (v3 : Int32), k102 h v0 v1 v3 = some r → E l yX10_stray cX10_stray 7 none (e_rm d 0 0) 0 0 true L (Qx none L r) L h 0 0 102 [(0, .ref v0), (1, .long v1), (3, .int v3)] []) : ∀ (h : eH) (v0 : Nat) (v1 : Int64) (v3 : Int32) (v4 : Int32) (s0 : Int32), f_X10_stray_J78 L k38 k102 h v0 v1 v3 v4 s0 = some r → E l yX10_stray cX10_stray 7 none (e_rm d 0 0) 0 0 true L (Qx none L r) L h 0 0 78 [(0, .ref v0), (1, .long v1), (3, .int v3), (4, .int v4)] [.int s0] := by
  intro h v0 v1 v3 v4 s0 hf
  unfold f_X10_stray_J78 at hf
  refine e_istore (lv' := [(6, .int _), (0, .ref _), (1, .long _), (3, .int _), (4, .int _)]) dX10_stray_78 (by decide) rfl ?_
  refine e_aload_n 1 dX10_stray_80 rfl rfl ?_
  obtain ⟨hO18, hf⟩ := e_if hf
  obtain ⟨b19, hb20, hf⟩ := e_bd hf
  refine e_getR hO18 fc_10_14 lk_RX10_86 dX10_stray_81 hb20 ?_
  refine e_iload 0 dX10_stray_84 rfl ?_
  refine e_dup2 dX10_stray_86 ?_
  obtain ⟨hI21, hf⟩ := e_if hf
  refine e_lald hI21 dX10_stray_87 ?_
  refine e_aload_n 1 dX10_stray_88 rfl rfl ?_
  obtain ⟨b22, hb23, hf⟩ := e_bd hf
  refine e_getR hO18 fc_10_13 lk_RX10_82 dX10_stray_89 hb23 ?_
  refine e_iload_n 3 dX10_stray_92 rfl rfl ?_
  obtain ⟨hI24, hf⟩ := e_if hf
  refine e_lald hI24 dX10_stray_93 ?_
  refine e_ladd dX10_stray_94 ?_
  refine e_last hI21 dX10_stray_95 ?_
  obtain ⟨h25, hh26, hf⟩ := e_bd hf
  refine e_hn hh26 ?_
  refine e_iinc (lv' := [(4, .int _), (6, .int _), (0, .ref _), (1, .long _), (3, .int _)]) 4 dX10_stray_96 rfl (by decide) rfl ?_
  refine e_goto (t := 38) dX10_stray_99 (by decide) ?_
  refine e_sub [2, 3, 4, 0] rfl ?_
  exact hk38 _ _ _ _ _ hf
def f_X10_stray_L38 (L : eL) : Nat → (eH → Nat → Int64 → Int32 → Option eH) → eH → Nat → Int64 → Int32 → Int32 → Option eH
  | 0, _, _, _, _, _, _ => none
  | n + 1, k102, h, v0, v1, v3, v4 =>
    if 4 ≤ v4 then
      k102 h v0 v1 v3
    else
      if isO L v0 10 = true then
      (gR h v0 15).bind fun b13 =>
      if isO L b13 2 = true then
      (f_X2_aheadOf L h b13 v3 v4).bind fun r16 =>
      if (f_X10_holds v1 r16) = 0 then
        f_X10_stray_J78 L (f_X10_stray_L38 L n k102) k102 h v0 v1 v3 v4 v3
      else
        if 36 ≤ r16 then
          f_X10_stray_J78 L (f_X10_stray_L38 L n k102) k102 h v0 v1 v3 v4 v3
        else
          f_X10_stray_J78 L (f_X10_stray_L38 L n k102) k102 h v0 v1 v3 v4 r16
      else none
      else none
set_option maxRecDepth 100000 in
set_option maxHeartbeats 4000000 in
theorem m_X10_stray_L38 {l : Launch} {d : Nat} {L : eL}  {r : eH} {k102 : eH → Nat → Int64 → Int32 → Option eH} (hd : 4 ≤ d) (hk102 : ∀ (h : eH) (v0 : Nat) (v1 : Int64) (v3 : Int32), k102 h v0 v1 v3 = some r → E l yX10_stray cX10_stray 7 none (e_rm d 0 0) 0 0 true L (Qx none L r) L h 0 0 102 [(0, .ref v0), (1, .long v1), (3, .int v3)] []) : ∀ (n : Nat) (h : eH) (v0 : Nat) (v1 : Int64) (v3 : Int32) (v4 : Int32), f_X10_stray_L38 L n k102 h v0 v1 v3 v4 = some r → E l yX10_stray cX10_stray 7 none (e_rm d 0 0) 0 0 true L (Qx none L r) L h 0 0 38 [(0, .ref v0), (1, .long v1), (3, .int v3), (4, .int v4)] [] := by
  intro n
  induction n with
  | zero => intro h v0 v1 v3 v4 hf; exact absurd hf (by simp [f_X10_stray_L38])
  | succ n ih =>
    intro h v0 v1 v3 v4 hf
    unfold f_X10_stray_L38 at hf
    refine e_iload 3 dX10_stray_38 rfl ?_
    refine e_iconst (v := 4) dX10_stray_40 (by decide) ?_
    refine e_icmp_ge (t := 102) dX10_stray_41 (by decide) (fun c => ?_) (fun c => ?_)
    · replace hf := e_it c hf
      refine e_sub [0, 1, 2] rfl ?_
      exact hk102 _ _ _ _ hf
    · replace hf := e_ie c hf
      refine e_aload_n 0 dX10_stray_44 rfl rfl ?_
      obtain ⟨hO12, hf⟩ := e_if hf
      obtain ⟨b13, hb14, hf⟩ := e_bd hf
      refine e_getR hO12 fc_10_15 lk_RX10_92 dX10_stray_45 hb14 ?_
      refine e_iload_n 2 dX10_stray_48 rfl rfl ?_
      refine e_iload 3 dX10_stray_49 rfl ?_
      obtain ⟨hO15, hf⟩ := e_if hf
      obtain ⟨r16, hr17, hf⟩ := e_bd hf
      refine e_callV (st := []) ml_RX10_211 k_X2_aheadOf (m_X2_aheadOf (d := d - 1) (by omega) hr17) hO15 ⟨by decide, rfl⟩ rfl rfl (Nat.le_of_ble_eq_true rfl) ⟨by omega, by decide⟩ ⟨Nat.le_refl _, Nat.le_refl _⟩ dX10_stray_51 ?_
      refine e_istore (lv' := [(5, .int _), (0, .ref _), (1, .long _), (3, .int _), (4, .int _)]) dX10_stray_54 (by decide) rfl ?_
      refine e_lload_n 2 dX10_stray_56 rfl rfl ?_
      refine e_iload 0 dX10_stray_57 rfl ?_
      refine e_callS (st := []) ml_RX10_169 k_X10_holds (m_X10_holds (d := d - 1) (by omega) rfl) rfl rfl (Nat.le_of_ble_eq_true rfl) ⟨by omega, by decide⟩ ⟨Nat.le_refl _, Nat.le_refl _⟩ dX10_stray_59 ?_
      refine e_if_eq (t := 77) dX10_stray_62 (by decide) (fun c => ?_) (fun c => ?_)
      · replace hf := e_it c hf
        refine e_iload_n 3 dX10_stray_77 rfl rfl ?_
        refine e_sub [1, 2, 3, 4] rfl ?_
        exact m_X10_stray_J78 hd ih hk102 _ _ _ _ _ _ hf
      · replace hf := e_ie c hf
        refine e_iload 0 dX10_stray_65 rfl ?_
        refine e_bipush (v := 36) dX10_stray_67 (by decide) ?_
        refine e_icmp_ge (t := 77) dX10_stray_69 (by decide) (fun c => ?_) (fun c => ?_)
        · replace hf := e_it c hf
          refine e_iload_n 3 dX10_stray_77 rfl rfl ?_
          refine e_sub [1, 2, 3, 4] rfl ?_
          exact m_X10_stray_J78 hd ih hk102 _ _ _ _ _ _ hf
        · replace hf := e_ie c hf
          refine e_iload 0 dX10_stray_72 rfl ?_
          refine e_goto (t := 78) dX10_stray_74 (by decide) ?_
          refine e_sub [1, 2, 3, 4] rfl ?_
          exact m_X10_stray_J78 hd ih hk102 _ _ _ _ _ _ hf
def f_X10_stray_L15 (L : eL) : Nat → (eH → Nat → Option eH) → eH → Nat → Int64 → Int32 → Option eH
  | 0, _, _, _, _, _ => none
  | n + 1, k108, h, v0, v1, v3 =>
    if 36 ≤ v3 then
      k108 h v0
    else
      if isO L v0 10 = true then
      (gR h v0 13).bind fun b9 =>
      if inA L b9 1 v3 = true then
      if (lg_cmp (gL h b9 v3.toNatClampNeg) 0) = 0 then
        f_X10_stray_L15 L n k108 h v0 v1 (v3 + Int32.ofInt 1)
      else
        f_X10_stray_L38 L e_fu (fun (h27 : eH) (w0_28 : Nat) (w1_29 : Int64) (w3_30 : Int32) =>
          f_X10_stray_L15 L n k108 h27 w0_28 w1_29 (w3_30 + Int32.ofInt 1)) h v0 v1 v3 0
      else none
      else none
set_option maxRecDepth 100000 in
set_option maxHeartbeats 4000000 in
theorem m_X10_stray_L15 {l : Launch} {d : Nat} {L : eL}  {r : eH} {k108 : eH → Nat → Option eH} (hd : 4 ≤ d) (hk108 : ∀ (h : eH) (v0 : Nat), k108 h v0 = some r → E l yX10_stray cX10_stray 7 none (e_rm d 0 0) 0 0 true L (Qx none L r) L h 0 0 108 [(0, .ref v0)] []) : ∀ (n : Nat) (h : eH) (v0 : Nat) (v1 : Int64) (v3 : Int32), f_X10_stray_L15 L n k108 h v0 v1 v3 = some r → E l yX10_stray cX10_stray 7 none (e_rm d 0 0) 0 0 true L (Qx none L r) L h 0 0 15 [(0, .ref v0), (1, .long v1), (3, .int v3)] [] := by
  intro n
  induction n with
  | zero => intro h v0 v1 v3 hf; exact absurd hf (by simp [f_X10_stray_L15])
  | succ n ih =>
    intro h v0 v1 v3 hf
    unfold f_X10_stray_L15 at hf
    refine e_iload_n 2 dX10_stray_15 rfl rfl ?_
    refine e_bipush (v := 36) dX10_stray_16 (by decide) ?_
    refine e_icmp_ge (t := 108) dX10_stray_18 (by decide) (fun c => ?_) (fun c => ?_)
    · replace hf := e_it c hf
      refine e_sub [0] rfl ?_
      exact hk108 _ _ hf
    · replace hf := e_ie c hf
      refine e_aload_n 0 dX10_stray_21 rfl rfl ?_
      obtain ⟨hO8, hf⟩ := e_if hf
      obtain ⟨b9, hb10, hf⟩ := e_bd hf
      refine e_getR hO8 fc_10_13 lk_RX10_82 dX10_stray_22 hb10 ?_
      refine e_iload_n 2 dX10_stray_25 rfl rfl ?_
      obtain ⟨hI11, hf⟩ := e_if hf
      refine e_lald hI11 dX10_stray_26 ?_
      refine e_lconst (v := 0) dX10_stray_27 (by decide) ?_
      refine e_lcmp dX10_stray_28 ?_
      refine e_if_ne (t := 35) dX10_stray_29 (by decide) (fun c => ?_) (fun c => ?_)
      · replace hf := e_ie c hf
        refine e_iconst (v := 0) dX10_stray_35 (by decide) ?_
        refine e_istore (lv' := [(4, .int _), (0, .ref _), (1, .long _), (3, .int _)]) dX10_stray_36 (by decide) rfl ?_
        refine e_sub [1, 2, 3, 0] rfl ?_
        refine m_X10_stray_L38 hd ?_ e_fu _ _ _ _ _ hf
        · intro h27 w0_28 w1_29 w3_30 hf
          refine e_iinc (lv' := [(3, .int _), (0, .ref _), (1, .long _)]) 2 dX10_stray_102 rfl (by decide) rfl ?_
          refine e_goto (t := 15) dX10_stray_105 (by decide) ?_
          refine e_sub [1, 2, 0] rfl ?_
          exact ih _ _ _ _ hf
      · replace hf := e_it c hf
        refine e_goto (t := 102) dX10_stray_32 (by decide) ?_
        refine e_iinc (lv' := [(3, .int _), (0, .ref _), (1, .long _)]) 2 dX10_stray_102 rfl (by decide) rfl ?_
        refine e_goto (t := 15) dX10_stray_105 (by decide) ?_
        refine e_sub [1, 2, 0] rfl ?_
        exact ih _ _ _ _ hf
def f_X10_stray (L : eL) (h : eH) (v0 : Nat) : Option eH :=
  if isO L v0 10 = true then
  (f_X10_free L h v0).bind fun r2 =>
  (gR h v0 14).bind fun b4 =>
  (f_J7_fill_d0a16 L h b4 0).bind fun r6 =>
  f_X10_stray_L15 L e_fu (fun (h31 : eH) (w0_32 : Nat) =>
    if isO L w0_32 10 = true then
    (gR h31 w0_32 14).bind fun b34 =>
    (gR h31 w0_32 13).bind fun b36 =>
    if cpOK L b34 b36 1 0 0 36 = true then
    some (cpL h31 b34 b36 0 0 36)
    else none
    else none) r6 v0 r2 0
  else none
set_option maxRecDepth 100000 in
set_option maxHeartbeats 4000000 in
theorem m_X10_stray {l : Launch} {d : Nat} {L : eL} {h : eH} {v0 : Nat} {r : eH} (hd : 4 ≤ d) (hf : f_X10_stray L h v0 = some r) : e_Met l yX10_stray cX10_stray 7 none d 0 0 true L h [.ref v0] (Qx none L r) := by
  refine e_metl (by decide) (Nat.le_of_ble_eq_true rfl) (lv := [(0, .ref v0)]) rfl ?_
  unfold f_X10_stray at hf
  refine e_aload_n 0 dX10_stray_0 rfl rfl ?_
  obtain ⟨hO1, hf⟩ := e_if hf
  obtain ⟨r2, hr3, hf⟩ := e_bd hf
  refine e_callV (st := []) ml_RX10_186 k_X10_free (m_X10_free (d := d - 1) (by omega) hr3) hO1 ⟨by decide, rfl⟩ rfl rfl (Nat.le_of_ble_eq_true rfl) ⟨by omega, by decide⟩ ⟨Nat.le_refl _, Nat.le_refl _⟩ dX10_stray_1 ?_
  refine e_lstore_n (lv' := [(1, .long _), (0, .ref _)]) dX10_stray_4 rfl (by decide) rfl ?_
  refine e_aload_n 1 dX10_stray_5 rfl rfl ?_
  obtain ⟨b4, hb5, hf⟩ := e_bd hf
  refine e_getR hO1 fc_10_14 lk_RX10_86 dX10_stray_6 hb5 ?_
  refine e_lconst (v := 0) dX10_stray_9 (by decide) ?_
  obtain ⟨r6, hr7, hf⟩ := e_bd hf
  refine e_callS (st := []) ml_RX10_379 k_J7_fill_d0a16 (m_J7_fill_d0a16 (d := d - 1) (by omega) hr7) rfl rfl (Nat.le_of_ble_eq_true rfl) ⟨by omega, by decide⟩ ⟨Nat.le_refl _, Nat.le_refl _⟩ dX10_stray_10 ?_
  refine e_iconst (v := 0) dX10_stray_13 (by decide) ?_
  refine e_istore_n (lv' := [(3, .int _), (1, .long _), (0, .ref _)]) dX10_stray_14 rfl (by decide) rfl ?_
  refine e_sub [2, 1, 0] rfl ?_
  refine m_X10_stray_L15 hd ?_ e_fu _ _ _ _ hf
  · intro h31 w0_32 hf
    refine e_aload_n 0 dX10_stray_108 rfl rfl ?_
    obtain ⟨hO33, hf⟩ := e_if hf
    obtain ⟨b34, hb35, hf⟩ := e_bd hf
    refine e_getR hO33 fc_10_14 lk_RX10_86 dX10_stray_109 hb35 ?_
    refine e_iconst (v := 0) dX10_stray_112 (by decide) ?_
    refine e_aload_n 0 dX10_stray_113 rfl rfl ?_
    obtain ⟨b36, hb37, hf⟩ := e_bd hf
    refine e_getR hO33 fc_10_13 lk_RX10_82 dX10_stray_114 hb37 ?_
    refine e_iconst (v := 0) dX10_stray_117 (by decide) ?_
    refine e_bipush (v := 36) dX10_stray_118 (by decide) ?_
    obtain ⟨hc38, hf⟩ := e_if hf
    refine e_copyL cop_RX10_423 hc38 (by omega) (Nat.le_of_ble_eq_true rfl) dX10_stray_120 ?_
    exact e_vret rfl dX10_stray_123 (qV hf)
def f_X10_tellFraction_L9 (L : eL) : Nat → (eH → Nat → Int64 → Int64 → Int64 → Option eH) → eH → Nat → Int64 → Int64 → Int64 → Int64 → Int32 → Option eH
  | 0, _, _, _, _, _, _, _, _ => none
  | n + 1, k45, h, v0, v1, v3, v5, v7, v9 =>
    if 200 ≤ v9 then
      k45 h v0 v1 v3 v5
    else
      if (lg_cmp v7 0) = 0 then
        k45 h v0 v1 v3 v5
      else
        if v7 = 0 then none else
        f_X10_tellFraction_L9 L n k45 h v0 v1 v3 v7 (v5 - v5 / v7 * v7) (v9 + Int32.ofInt 1)
set_option maxRecDepth 100000 in
set_option maxHeartbeats 4000000 in
theorem m_X10_tellFraction_L9 {l : Launch} {d : Nat} {L : eL}  {r : eH} {k45 : eH → Nat → Int64 → Int64 → Int64 → Option eH} (hd : 2 ≤ d) (hk45 : ∀ (h : eH) (v0 : Nat) (v1 : Int64) (v3 : Int64) (v5 : Int64), k45 h v0 v1 v3 v5 = some r → E l yX10_tellFraction cX10_tellFraction 12 none (e_rm d 0 0) 0 0 true L (Qx none L r) L h 0 0 45 [(0, .ref v0), (1, .long v1), (3, .long v3), (5, .long v5)] []) : ∀ (n : Nat) (h : eH) (v0 : Nat) (v1 : Int64) (v3 : Int64) (v5 : Int64) (v7 : Int64) (v9 : Int32), f_X10_tellFraction_L9 L n k45 h v0 v1 v3 v5 v7 v9 = some r → E l yX10_tellFraction cX10_tellFraction 12 none (e_rm d 0 0) 0 0 true L (Qx none L r) L h 0 0 9 [(0, .ref v0), (1, .long v1), (3, .long v3), (5, .long v5), (7, .long v7), (9, .int v9)] [] := by
  intro n
  induction n with
  | zero => intro h v0 v1 v3 v5 v7 v9 hf; exact absurd hf (by simp [f_X10_tellFraction_L9])
  | succ n ih =>
    intro h v0 v1 v3 v5 v7 v9 hf
    unfold f_X10_tellFraction_L9 at hf
    refine e_iload 5 dX10_tellFraction_9 rfl ?_
    refine e_sipush (v := 200) dX10_tellFraction_11 (by decide) ?_
    refine e_icmp_ge (t := 45) dX10_tellFraction_14 (by decide) (fun c => ?_) (fun c => ?_)
    · replace hf := e_it c hf
      refine e_sub [0, 1, 2, 3] rfl ?_
      exact hk45 _ _ _ _ _ hf
    · replace hf := e_ie c hf
      refine e_lload 4 dX10_tellFraction_17 rfl ?_
      refine e_lconst (v := 0) dX10_tellFraction_19 (by decide) ?_
      refine e_lcmp dX10_tellFraction_20 ?_
      refine e_if_eq (t := 45) dX10_tellFraction_21 (by decide) (fun c => ?_) (fun c => ?_)
      · replace hf := e_it c hf
        refine e_sub [0, 1, 2, 3] rfl ?_
        exact hk45 _ _ _ _ _ hf
      · replace hf := e_ie c hf
        refine e_lload 3 dX10_tellFraction_24 rfl ?_
        refine e_lload 4 dX10_tellFraction_26 rfl ?_
        obtain ⟨hz1, hf⟩ := e_ifp hf
        refine e_lrem dX10_tellFraction_28 hz1 ?_
        refine e_lstore (lv' := [(10, .long _), (0, .ref _), (1, .long _), (3, .long _), (5, .long _), (7, .long _), (9, .int _)]) dX10_tellFraction_29 (by decide) rfl ?_
        refine e_lload 5 dX10_tellFraction_31 rfl ?_
        refine e_lstore (lv' := [(5, .long _), (10, .long _), (0, .ref _), (1, .long _), (3, .long _), (7, .long _), (9, .int _)]) dX10_tellFraction_33 (by decide) rfl ?_
        refine e_lload 1 dX10_tellFraction_35 rfl ?_
        refine e_lstore (lv' := [(7, .long _), (5, .long _), (10, .long _), (0, .ref _), (1, .long _), (3, .long _), (9, .int _)]) dX10_tellFraction_37 (by decide) rfl ?_
        refine e_iinc (lv' := [(9, .int _), (7, .long _), (5, .long _), (10, .long _), (0, .ref _), (1, .long _), (3, .long _)]) 6 dX10_tellFraction_39 rfl (by decide) rfl ?_
        refine e_goto (t := 9) dX10_tellFraction_42 (by decide) ?_
        refine e_sub [4, 5, 6, 2, 1, 0] rfl ?_
        exact ih _ _ _ _ _ _ _ hf
def f_X10_tellFraction_J58 (L : eL) (h : eH) (v0 : Nat) (v1 : Int64) (v3 : Int64) (s0 : Int64) : Option eH :=
  if isO L v0 10 = true then
  (gR h v0 1).bind fun b8 =>
  if isO L b8 3 = true then
  (f_X3_begin L h b8).bind fun r11 =>
  (gR r11 v0 1).bind fun b13 =>
  if s0 = 0 then none else
  if isO L b13 3 = true then
  (f_X3_add L r11 b13 (v1 / s0)).bind fun r17 =>
  (gR r17 v0 1).bind fun b19 =>
  if s0 = 0 then none else
  if isO L b19 3 = true then
  (f_X3_add L r17 b19 (v3 / s0)).bind fun r23 =>
  some r23
  else none
  else none
  else none
  else none
set_option maxRecDepth 100000 in
set_option maxHeartbeats 4000000 in
theorem m_X10_tellFraction_J58 {l : Launch} {d : Nat} {L : eL}  {r : eH} (hd : 2 ≤ d)  : ∀ (h : eH) (v0 : Nat) (v1 : Int64) (v3 : Int64) (s0 : Int64), f_X10_tellFraction_J58 L h v0 v1 v3 s0 = some r → E l yX10_tellFraction cX10_tellFraction 12 none (e_rm d 0 0) 0 0 true L (Qx none L r) L h 0 0 58 [(0, .ref v0), (1, .long v1), (3, .long v3)] [.long s0] := by
  intro h v0 v1 v3 s0 hf
  unfold f_X10_tellFraction_J58 at hf
  refine e_lstore (lv' := [(9, .long _), (0, .ref _), (1, .long _), (3, .long _)]) dX10_tellFraction_58 (by decide) rfl ?_
  refine e_aload_n 1 dX10_tellFraction_60 rfl rfl ?_
  obtain ⟨hO7, hf⟩ := e_if hf
  obtain ⟨b8, hb9, hf⟩ := e_bd hf
  refine e_getR hO7 fc_10_1 lk_RX10_19 dX10_tellFraction_61 hb9 ?_
  obtain ⟨hO10, hf⟩ := e_if hf
  obtain ⟨r11, hr12, hf⟩ := e_bd hf
  refine e_callV (st := []) ml_RX10_267 k_X3_begin (m_X3_begin (d := d - 1) (by omega) hr12) hO10 ⟨by decide, rfl⟩ rfl rfl (Nat.le_of_ble_eq_true rfl) ⟨by omega, by decide⟩ ⟨Nat.le_refl _, Nat.le_refl _⟩ dX10_tellFraction_64 ?_
  refine e_aload_n 1 dX10_tellFraction_67 rfl rfl ?_
  obtain ⟨b13, hb14, hf⟩ := e_bd hf
  refine e_getR hO7 fc_10_1 lk_RX10_19 dX10_tellFraction_68 hb14 ?_
  refine e_lload_n 2 dX10_tellFraction_71 rfl rfl ?_
  refine e_lload 0 dX10_tellFraction_72 rfl ?_
  obtain ⟨hz15, hf⟩ := e_ifp hf
  refine e_ldiv dX10_tellFraction_74 hz15 ?_
  obtain ⟨hO16, hf⟩ := e_if hf
  obtain ⟨r17, hr18, hf⟩ := e_bd hf
  refine e_callV (st := []) ml_RX10_269 k_X3_add (m_X3_add (d := d - 1) (by omega) hr18) hO16 ⟨by decide, rfl⟩ rfl rfl (Nat.le_of_ble_eq_true rfl) ⟨by omega, by decide⟩ ⟨Nat.le_refl _, Nat.le_refl _⟩ dX10_tellFraction_75 ?_
  refine e_aload_n 1 dX10_tellFraction_78 rfl rfl ?_
  obtain ⟨b19, hb20, hf⟩ := e_bd hf
  refine e_getR hO7 fc_10_1 lk_RX10_19 dX10_tellFraction_79 hb20 ?_
  refine e_lload_n 3 dX10_tellFraction_82 rfl rfl ?_
  refine e_lload 0 dX10_tellFraction_83 rfl ?_
  obtain ⟨hz21, hf⟩ := e_ifp hf
  refine e_ldiv dX10_tellFraction_85 hz21 ?_
  obtain ⟨hO22, hf⟩ := e_if hf
  obtain ⟨r23, hr24, hf⟩ := e_bd hf
  refine e_callV (st := []) ml_RX10_269 k_X3_add (m_X3_add (d := d - 1) (by omega) hr24) hO22 ⟨by decide, rfl⟩ rfl rfl (Nat.le_of_ble_eq_true rfl) ⟨by omega, by decide⟩ ⟨Nat.le_refl _, Nat.le_refl _⟩ dX10_tellFraction_86 ?_
  exact e_vret rfl dX10_tellFraction_89 (qV hf)
def f_X10_tellFraction (L : eL) (h : eH) (v0 : Nat) (v1 : Int64) (v3 : Int64) : Option eH :=
  f_X10_tellFraction_L9 L e_fu (fun (h2 : eH) (w0_3 : Nat) (w1_4 : Int64) (w3_5 : Int64) (w5_6 : Int64) =>
    if (lg_cmp w5_6 0) ≤ 0 then
      f_X10_tellFraction_J58 L h2 w0_3 w1_4 w3_5 1
    else
      f_X10_tellFraction_J58 L h2 w0_3 w1_4 w3_5 w5_6) h v0 v1 v3 v1 v3 0
set_option maxRecDepth 100000 in
set_option maxHeartbeats 4000000 in
theorem m_X10_tellFraction {l : Launch} {d : Nat} {L : eL} {h : eH} {v0 : Nat} {v1 : Int64} {v3 : Int64} {r : eH} (hd : 2 ≤ d) (hf : f_X10_tellFraction L h v0 v1 v3 = some r) : e_Met l yX10_tellFraction cX10_tellFraction 12 none d 0 0 true L h [.ref v0, .long v1, .long v3] (Qx none L r) := by
  refine e_metl (by decide) (Nat.le_of_ble_eq_true rfl) (lv := [(0, .ref v0), (1, .long v1), (3, .long v3)]) rfl ?_
  unfold f_X10_tellFraction at hf
  refine e_lload_n 1 dX10_tellFraction_0 rfl rfl ?_
  refine e_lstore (lv' := [(5, .long _), (0, .ref _), (1, .long _), (3, .long _)]) dX10_tellFraction_1 (by decide) rfl ?_
  refine e_lload_n 3 dX10_tellFraction_3 rfl rfl ?_
  refine e_lstore (lv' := [(7, .long _), (5, .long _), (0, .ref _), (1, .long _), (3, .long _)]) dX10_tellFraction_4 (by decide) rfl ?_
  refine e_iconst (v := 0) dX10_tellFraction_6 (by decide) ?_
  refine e_istore (lv' := [(9, .int _), (7, .long _), (5, .long _), (0, .ref _), (1, .long _), (3, .long _)]) dX10_tellFraction_7 (by decide) rfl ?_
  refine e_sub [3, 4, 5, 2, 1, 0] rfl ?_
  refine m_X10_tellFraction_L9 hd ?_ e_fu _ _ _ _ _ _ _ hf
  · intro h2 w0_3 w1_4 w3_5 w5_6 hf
    refine e_lload 3 dX10_tellFraction_45 rfl ?_
    refine e_lconst (v := 0) dX10_tellFraction_47 (by decide) ?_
    refine e_lcmp dX10_tellFraction_48 ?_
    refine e_if_le (t := 57) dX10_tellFraction_49 (by decide) (fun c => ?_) (fun c => ?_)
    · replace hf := e_it c hf
      refine e_lconst (v := 1) dX10_tellFraction_57 (by decide) ?_
      refine e_sub [0, 1, 2] rfl ?_
      exact m_X10_tellFraction_J58 hd _ _ _ _ _ hf
    · replace hf := e_ie c hf
      refine e_lload 3 dX10_tellFraction_52 rfl ?_
      refine e_goto (t := 58) dX10_tellFraction_54 (by decide) ?_
      refine e_sub [0, 1, 2] rfl ?_
      exact m_X10_tellFraction_J58 hd _ _ _ _ _ hf
def f_X10_likely_L71 (L : eL) : Nat → (eH → Nat → Int32 → Int64 → Option (eH × Int32)) → eH → Nat → Int32 → Int32 → Int64 → Int32 → Option (eH × Int32)
  | 0, _, _, _, _, _, _, _ => none
  | n + 1, k93, h, v0, v1, v2, v3, v5 =>
    if v1 ≤ v5 then
      k93 h v0 v2 v3
    else
      if isO L v0 10 = true then
      (f_X10_stray L h v0).bind fun r15 =>
      f_X10_likely_L71 L n k93 r15 v0 v1 v2 (v3 * 4) (v5 + Int32.ofInt 1)
      else none
set_option maxRecDepth 100000 in
set_option maxHeartbeats 4000000 in
theorem m_X10_likely_L71 {l : Launch} {d : Nat} {L : eL}  {r : eH × Int32} {k93 : eH → Nat → Int32 → Int64 → Option (eH × Int32)} (hd : 5 ≤ d) (hk93 : ∀ (h : eH) (v0 : Nat) (v2 : Int32) (v3 : Int64), k93 h v0 v2 v3 = some r → E l yX10_likely cX10_likely 6 (some .int) (e_rm d 0 0) 0 0 true L (Qx (some (.int r.2)) L r.1) L h 0 0 93 [(0, .ref v0), (2, .int v2), (3, .long v3)] []) : ∀ (n : Nat) (h : eH) (v0 : Nat) (v1 : Int32) (v2 : Int32) (v3 : Int64) (v5 : Int32), f_X10_likely_L71 L n k93 h v0 v1 v2 v3 v5 = some r → E l yX10_likely cX10_likely 6 (some .int) (e_rm d 0 0) 0 0 true L (Qx (some (.int r.2)) L r.1) L h 0 0 71 [(0, .ref v0), (1, .int v1), (2, .int v2), (3, .long v3), (5, .int v5)] [] := by
  intro n
  induction n with
  | zero => intro h v0 v1 v2 v3 v5 hf; exact absurd hf (by simp [f_X10_likely_L71])
  | succ n ih =>
    intro h v0 v1 v2 v3 v5 hf
    unfold f_X10_likely_L71 at hf
    refine e_iload 4 dX10_likely_71 rfl ?_
    refine e_iload_n 1 dX10_likely_73 rfl rfl ?_
    refine e_icmp_ge (t := 93) dX10_likely_74 (by decide) (fun c => ?_) (fun c => ?_)
    · replace hf := e_it c hf
      refine e_sub [0, 2, 3] rfl ?_
      exact hk93 _ _ _ _ hf
    · replace hf := e_ie c hf
      refine e_aload_n 0 dX10_likely_77 rfl rfl ?_
      obtain ⟨hO14, hf⟩ := e_if hf
      obtain ⟨r15, hr16, hf⟩ := e_bd hf
      refine e_callV (st := []) ml_RX10_382 k_X10_stray (m_X10_stray (d := d - 1) (by omega) hr16) hO14 ⟨by decide, rfl⟩ rfl rfl (Nat.le_of_ble_eq_true rfl) ⟨by omega, by decide⟩ ⟨Nat.le_refl _, Nat.le_refl _⟩ dX10_likely_78 ?_
      refine e_lload_n 3 dX10_likely_81 rfl rfl ?_
      refine e_ldc2 kc_RX10_385 dX10_likely_82 ?_
      refine e_lmul dX10_likely_85 ?_
      refine e_lstore_n (lv' := [(3, .long _), (0, .ref _), (1, .int _), (2, .int _), (5, .int _)]) dX10_likely_86 rfl (by decide) rfl ?_
      refine e_iinc (lv' := [(5, .int _), (3, .long _), (0, .ref _), (1, .int _), (2, .int _)]) 4 dX10_likely_87 rfl (by decide) rfl ?_
      refine e_goto (t := 71) dX10_likely_90 (by decide) ?_
      refine e_sub [2, 3, 4, 1, 0] rfl ?_
      exact ih _ _ _ _ _ _ hf
def f_X10_likely (L : eL) (h : eH) (v0 : Nat) (v1 : Int32) (v2 : Int32) : Option (eH × Int32) :=
  if v1 < 0 then
    some (h, (-1))
  else
    if 10 < v1 then
      some (h, (-1))
    else
      if isO L v0 10 = true then
      (gR h v0 15).bind fun b2 =>
      if isO L b2 2 = true then
      (f_X2_has L h b2 v2).bind fun r5 =>
      if r5 = 0 then
        some (h, (-1))
      else
        (gR h v0 13).bind fun b7 =>
        (f_J7_fill_d0a16 L h b7 0).bind fun r9 =>
        (gR r9 v0 7).bind fun b11 =>
        if isO L b11 6 = true then
        if (gI r9 b11 1) < 0 then
          f_X10_likely_L71 L e_fu (fun (h17 : eH) (w0_18 : Nat) (w2_19 : Int32) (w3_20 : Int64) =>
            if isO L w0_18 10 = true then
            (gR h17 w0_18 13).bind fun b22 =>
            if inA L b22 1 w2_19 = true then
            (f_X10_tellFraction L h17 w0_18 (gL h17 b22 w2_19.toNatClampNeg) w3_20).bind fun r25 =>
            some (r25, 0)
            else none
            else none) r9 v0 v1 v2 1 0
        else
          (gR r9 v0 7).bind fun b27 =>
          if isO L b27 6 = true then
          if 36 ≤ (gI r9 b27 1) then
            f_X10_likely_L71 L e_fu (fun (h30 : eH) (w0_31 : Nat) (w2_32 : Int32) (w3_33 : Int64) =>
              if isO L w0_31 10 = true then
              (gR h30 w0_31 13).bind fun b35 =>
              if inA L b35 1 w2_32 = true then
              (f_X10_tellFraction L h30 w0_31 (gL h30 b35 w2_32.toNatClampNeg) w3_33).bind fun r38 =>
              some (r38, 0)
              else none
              else none) r9 v0 v1 v2 1 0
          else
            (gR r9 v0 13).bind fun b40 =>
            (gR r9 v0 7).bind fun b42 =>
            if isO L b42 6 = true then
            if inA L b40 1 (gI r9 b42 1) = true then
            f_X10_likely_L71 L e_fu (fun (h46 : eH) (w0_47 : Nat) (w2_48 : Int32) (w3_49 : Int64) =>
              if isO L w0_47 10 = true then
              (gR h46 w0_47 13).bind fun b51 =>
              if inA L b51 1 w2_48 = true then
              (f_X10_tellFraction L h46 w0_47 (gL h46 b51 w2_48.toNatClampNeg) w3_49).bind fun r54 =>
              some (r54, 0)
              else none
              else none) (sL r9 b40 (gI r9 b42 1).toNatClampNeg 1) v0 v1 v2 1 0
            else none
            else none
          else none
        else none
      else none
      else none
set_option maxRecDepth 100000 in
set_option maxHeartbeats 4000000 in
theorem m_X10_likely {l : Launch} {d : Nat} {L : eL} {h : eH} {v0 : Nat} {v1 : Int32} {v2 : Int32} {r : eH × Int32} (hd : 5 ≤ d) (hf : f_X10_likely L h v0 v1 v2 = some r) : e_Met l yX10_likely cX10_likely 6 (some .int) d 0 0 true L h [.ref v0, .int v1, .int v2] (Qx (some (.int r.2)) L r.1) := by
  refine e_metl (by decide) (Nat.le_of_ble_eq_true rfl) (lv := [(0, .ref v0), (1, .int v1), (2, .int v2)]) rfl ?_
  unfold f_X10_likely at hf
  refine e_iload_n 1 dX10_likely_0 rfl rfl ?_
  refine e_if_lt (t := 21) dX10_likely_1 (by decide) (fun c => ?_) (fun c => ?_)
  · replace hf := e_it c hf
    refine e_iconst (v := (-1)) dX10_likely_21 (by decide) ?_
    exact e_iret rfl dX10_likely_22 (qW hf)
  · replace hf := e_ie c hf
    refine e_iload_n 1 dX10_likely_4 rfl rfl ?_
    refine e_bipush (v := 10) dX10_likely_5 (by decide) ?_
    refine e_icmp_gt (t := 21) dX10_likely_7 (by decide) (fun c => ?_) (fun c => ?_)
    · replace hf := e_it c hf
      refine e_iconst (v := (-1)) dX10_likely_21 (by decide) ?_
      exact e_iret rfl dX10_likely_22 (qW hf)
    · replace hf := e_ie c hf
      refine e_aload_n 0 dX10_likely_10 rfl rfl ?_
      obtain ⟨hO1, hf⟩ := e_if hf
      obtain ⟨b2, hb3, hf⟩ := e_bd hf
      refine e_getR hO1 fc_10_15 lk_RX10_92 dX10_likely_11 hb3 ?_
      refine e_iload_n 2 dX10_likely_14 rfl rfl ?_
      obtain ⟨hO4, hf⟩ := e_if hf
      obtain ⟨r5, hr6, hf⟩ := e_bd hf
      refine e_callV (st := []) ml_RX10_152 k_X2_has (m_X2_has (d := d - 1) (by omega) hr6) hO4 ⟨by decide, rfl⟩ rfl rfl (Nat.le_of_ble_eq_true rfl) ⟨by omega, by decide⟩ ⟨Nat.le_refl _, Nat.le_refl _⟩ dX10_likely_15 ?_
      refine e_if_ne (t := 23) dX10_likely_18 (by decide) (fun c => ?_) (fun c => ?_)
      · replace hf := e_ie c hf
        refine e_aload_n 0 dX10_likely_23 rfl rfl ?_
        obtain ⟨b7, hb8, hf⟩ := e_bd hf
        refine e_getR hO1 fc_10_13 lk_RX10_82 dX10_likely_24 hb8 ?_
        refine e_lconst (v := 0) dX10_likely_27 (by decide) ?_
        obtain ⟨r9, hr10, hf⟩ := e_bd hf
        refine e_callS (st := []) ml_RX10_379 k_J7_fill_d0a16 (m_J7_fill_d0a16 (d := d - 1) (by omega) hr10) rfl rfl (Nat.le_of_ble_eq_true rfl) ⟨by omega, by decide⟩ ⟨Nat.le_refl _, Nat.le_refl _⟩ dX10_likely_28 ?_
        refine e_aload_n 0 dX10_likely_31 rfl rfl ?_
        obtain ⟨b11, hb12, hf⟩ := e_bd hf
        refine e_getR hO1 fc_10_7 lk_RX10_61 dX10_likely_32 hb12 ?_
        obtain ⟨hO13, hf⟩ := e_if hf
        refine e_getIN hO13 fc_6_1 lk_RX10_183 dX10_likely_35 ?_
        refine e_if_lt (t := 66) dX10_likely_38 (by decide) (fun c => ?_) (fun c => ?_)
        · replace hf := e_it c hf
          refine e_lconst (v := 1) dX10_likely_66 (by decide) ?_
          refine e_lstore_n (lv' := [(3, .long _), (0, .ref _), (1, .int _), (2, .int _)]) dX10_likely_67 rfl (by decide) rfl ?_
          refine e_iconst (v := 0) dX10_likely_68 (by decide) ?_
          refine e_istore (lv' := [(5, .int _), (3, .long _), (0, .ref _), (1, .int _), (2, .int _)]) dX10_likely_69 (by decide) rfl ?_
          refine e_sub [2, 3, 4, 1, 0] rfl ?_
          refine m_X10_likely_L71 hd ?_ e_fu _ _ _ _ _ _ hf
          · intro h17 w0_18 w2_19 w3_20 hf
            refine e_aload_n 0 dX10_likely_93 rfl rfl ?_
            refine e_aload_n 0 dX10_likely_94 rfl rfl ?_
            obtain ⟨hO21, hf⟩ := e_if hf
            obtain ⟨b22, hb23, hf⟩ := e_bd hf
            refine e_getR hO21 fc_10_13 lk_RX10_82 dX10_likely_95 hb23 ?_
            refine e_iload_n 1 dX10_likely_98 rfl rfl ?_
            obtain ⟨hI24, hf⟩ := e_if hf
            refine e_lald hI24 dX10_likely_99 ?_
            refine e_lload_n 2 dX10_likely_100 rfl rfl ?_
            obtain ⟨r25, hr26, hf⟩ := e_bd hf
            refine e_callV (st := []) ml_RX10_387 k_X10_tellFraction (m_X10_tellFraction (d := d - 1) (by omega) hr26) hO21 ⟨by decide, rfl⟩ rfl rfl (Nat.le_of_ble_eq_true rfl) ⟨by omega, by decide⟩ ⟨Nat.le_refl _, Nat.le_refl _⟩ dX10_likely_101 ?_
            refine e_iconst (v := 0) dX10_likely_104 (by decide) ?_
            exact e_iret rfl dX10_likely_105 (qW hf)
        · replace hf := e_ie c hf
          refine e_aload_n 0 dX10_likely_41 rfl rfl ?_
          obtain ⟨b27, hb28, hf⟩ := e_bd hf
          refine e_getR hO1 fc_10_7 lk_RX10_61 dX10_likely_42 hb28 ?_
          obtain ⟨hO29, hf⟩ := e_if hf
          refine e_getIN hO29 fc_6_1 lk_RX10_183 dX10_likely_45 ?_
          refine e_bipush (v := 36) dX10_likely_48 (by decide) ?_
          refine e_icmp_ge (t := 66) dX10_likely_50 (by decide) (fun c => ?_) (fun c => ?_)
          · replace hf := e_it c hf
            refine e_lconst (v := 1) dX10_likely_66 (by decide) ?_
            refine e_lstore_n (lv' := [(3, .long _), (0, .ref _), (1, .int _), (2, .int _)]) dX10_likely_67 rfl (by decide) rfl ?_
            refine e_iconst (v := 0) dX10_likely_68 (by decide) ?_
            refine e_istore (lv' := [(5, .int _), (3, .long _), (0, .ref _), (1, .int _), (2, .int _)]) dX10_likely_69 (by decide) rfl ?_
            refine e_sub [2, 3, 4, 1, 0] rfl ?_
            refine m_X10_likely_L71 hd ?_ e_fu _ _ _ _ _ _ hf
            · intro h30 w0_31 w2_32 w3_33 hf
              refine e_aload_n 0 dX10_likely_93 rfl rfl ?_
              refine e_aload_n 0 dX10_likely_94 rfl rfl ?_
              obtain ⟨hO34, hf⟩ := e_if hf
              obtain ⟨b35, hb36, hf⟩ := e_bd hf
              refine e_getR hO34 fc_10_13 lk_RX10_82 dX10_likely_95 hb36 ?_
              refine e_iload_n 1 dX10_likely_98 rfl rfl ?_
              obtain ⟨hI37, hf⟩ := e_if hf
              refine e_lald hI37 dX10_likely_99 ?_
              refine e_lload_n 2 dX10_likely_100 rfl rfl ?_
              obtain ⟨r38, hr39, hf⟩ := e_bd hf
              refine e_callV (st := []) ml_RX10_387 k_X10_tellFraction (m_X10_tellFraction (d := d - 1) (by omega) hr39) hO34 ⟨by decide, rfl⟩ rfl rfl (Nat.le_of_ble_eq_true rfl) ⟨by omega, by decide⟩ ⟨Nat.le_refl _, Nat.le_refl _⟩ dX10_likely_101 ?_
              refine e_iconst (v := 0) dX10_likely_104 (by decide) ?_
              exact e_iret rfl dX10_likely_105 (qW hf)
          · replace hf := e_ie c hf
            refine e_aload_n 0 dX10_likely_53 rfl rfl ?_
            obtain ⟨b40, hb41, hf⟩ := e_bd hf
            refine e_getR hO1 fc_10_13 lk_RX10_82 dX10_likely_54 hb41 ?_
            refine e_aload_n 0 dX10_likely_57 rfl rfl ?_
            obtain ⟨b42, hb43, hf⟩ := e_bd hf
            refine e_getR hO1 fc_10_7 lk_RX10_61 dX10_likely_58 hb43 ?_
            obtain ⟨hO44, hf⟩ := e_if hf
            refine e_getIN hO44 fc_6_1 lk_RX10_183 dX10_likely_61 ?_
            refine e_lconst (v := 1) dX10_likely_64 (by decide) ?_
            obtain ⟨hI45, hf⟩ := e_if hf
            refine e_last hI45 dX10_likely_65 ?_
            refine e_lconst (v := 1) dX10_likely_66 (by decide) ?_
            refine e_lstore_n (lv' := [(3, .long _), (0, .ref _), (1, .int _), (2, .int _)]) dX10_likely_67 rfl (by decide) rfl ?_
            refine e_iconst (v := 0) dX10_likely_68 (by decide) ?_
            refine e_istore (lv' := [(5, .int _), (3, .long _), (0, .ref _), (1, .int _), (2, .int _)]) dX10_likely_69 (by decide) rfl ?_
            refine e_sub [2, 3, 4, 1, 0] rfl ?_
            refine m_X10_likely_L71 hd ?_ e_fu _ _ _ _ _ _ hf
            · intro h46 w0_47 w2_48 w3_49 hf
              refine e_aload_n 0 dX10_likely_93 rfl rfl ?_
              refine e_aload_n 0 dX10_likely_94 rfl rfl ?_
              obtain ⟨hO50, hf⟩ := e_if hf
              obtain ⟨b51, hb52, hf⟩ := e_bd hf
              refine e_getR hO50 fc_10_13 lk_RX10_82 dX10_likely_95 hb52 ?_
              refine e_iload_n 1 dX10_likely_98 rfl rfl ?_
              obtain ⟨hI53, hf⟩ := e_if hf
              refine e_lald hI53 dX10_likely_99 ?_
              refine e_lload_n 2 dX10_likely_100 rfl rfl ?_
              obtain ⟨r54, hr55, hf⟩ := e_bd hf
              refine e_callV (st := []) ml_RX10_387 k_X10_tellFraction (m_X10_tellFraction (d := d - 1) (by omega) hr55) hO50 ⟨by decide, rfl⟩ rfl rfl (Nat.le_of_ble_eq_true rfl) ⟨by omega, by decide⟩ ⟨Nat.le_refl _, Nat.le_refl _⟩ dX10_likely_101 ?_
              refine e_iconst (v := 0) dX10_likely_104 (by decide) ?_
              exact e_iret rfl dX10_likely_105 (qW hf)
      · replace hf := e_it c hf
        refine e_iconst (v := (-1)) dX10_likely_21 (by decide) ?_
        exact e_iret rfl dX10_likely_22 (qW hf)
def f_J6_bitCount_0f7a4 (v0 : Int32) : Int32 :=
  (((((((v0 - (((v0.toUInt32 >>> ((1 : Int32).toUInt32 &&& Int32.toUInt32 31)).toInt32) &&& 1431655765)) &&& 858993459) + ((((v0 - (((v0.toUInt32 >>> ((1 : Int32).toUInt32 &&& Int32.toUInt32 31)).toInt32) &&& 1431655765)).toUInt32 >>> ((2 : Int32).toUInt32 &&& Int32.toUInt32 31)).toInt32) &&& 858993459)) + (((((v0 - (((v0.toUInt32 >>> ((1 : Int32).toUInt32 &&& Int32.toUInt32 31)).toInt32) &&& 1431655765)) &&& 858993459) + ((((v0 - (((v0.toUInt32 >>> ((1 : Int32).toUInt32 &&& Int32.toUInt32 31)).toInt32) &&& 1431655765)).toUInt32 >>> ((2 : Int32).toUInt32 &&& Int32.toUInt32 31)).toInt32) &&& 858993459)).toUInt32 >>> ((4 : Int32).toUInt32 &&& Int32.toUInt32 31)).toInt32)) &&& 252645135) + (((((((v0 - (((v0.toUInt32 >>> ((1 : Int32).toUInt32 &&& Int32.toUInt32 31)).toInt32) &&& 1431655765)) &&& 858993459) + ((((v0 - (((v0.toUInt32 >>> ((1 : Int32).toUInt32 &&& Int32.toUInt32 31)).toInt32) &&& 1431655765)).toUInt32 >>> ((2 : Int32).toUInt32 &&& Int32.toUInt32 31)).toInt32) &&& 858993459)) + (((((v0 - (((v0.toUInt32 >>> ((1 : Int32).toUInt32 &&& Int32.toUInt32 31)).toInt32) &&& 1431655765)) &&& 858993459) + ((((v0 - (((v0.toUInt32 >>> ((1 : Int32).toUInt32 &&& Int32.toUInt32 31)).toInt32) &&& 1431655765)).toUInt32 >>> ((2 : Int32).toUInt32 &&& Int32.toUInt32 31)).toInt32) &&& 858993459)).toUInt32 >>> ((4 : Int32).toUInt32 &&& Int32.toUInt32 31)).toInt32)) &&& 252645135).toUInt32 >>> ((8 : Int32).toUInt32 &&& Int32.toUInt32 31)).toInt32)) + ((((((((v0 - (((v0.toUInt32 >>> ((1 : Int32).toUInt32 &&& Int32.toUInt32 31)).toInt32) &&& 1431655765)) &&& 858993459) + ((((v0 - (((v0.toUInt32 >>> ((1 : Int32).toUInt32 &&& Int32.toUInt32 31)).toInt32) &&& 1431655765)).toUInt32 >>> ((2 : Int32).toUInt32 &&& Int32.toUInt32 31)).toInt32) &&& 858993459)) + (((((v0 - (((v0.toUInt32 >>> ((1 : Int32).toUInt32 &&& Int32.toUInt32 31)).toInt32) &&& 1431655765)) &&& 858993459) + ((((v0 - (((v0.toUInt32 >>> ((1 : Int32).toUInt32 &&& Int32.toUInt32 31)).toInt32) &&& 1431655765)).toUInt32 >>> ((2 : Int32).toUInt32 &&& Int32.toUInt32 31)).toInt32) &&& 858993459)).toUInt32 >>> ((4 : Int32).toUInt32 &&& Int32.toUInt32 31)).toInt32)) &&& 252645135) + (((((((v0 - (((v0.toUInt32 >>> ((1 : Int32).toUInt32 &&& Int32.toUInt32 31)).toInt32) &&& 1431655765)) &&& 858993459) + ((((v0 - (((v0.toUInt32 >>> ((1 : Int32).toUInt32 &&& Int32.toUInt32 31)).toInt32) &&& 1431655765)).toUInt32 >>> ((2 : Int32).toUInt32 &&& Int32.toUInt32 31)).toInt32) &&& 858993459)) + (((((v0 - (((v0.toUInt32 >>> ((1 : Int32).toUInt32 &&& Int32.toUInt32 31)).toInt32) &&& 1431655765)) &&& 858993459) + ((((v0 - (((v0.toUInt32 >>> ((1 : Int32).toUInt32 &&& Int32.toUInt32 31)).toInt32) &&& 1431655765)).toUInt32 >>> ((2 : Int32).toUInt32 &&& Int32.toUInt32 31)).toInt32) &&& 858993459)).toUInt32 >>> ((4 : Int32).toUInt32 &&& Int32.toUInt32 31)).toInt32)) &&& 252645135).toUInt32 >>> ((8 : Int32).toUInt32 &&& Int32.toUInt32 31)).toInt32)).toUInt32 >>> ((16 : Int32).toUInt32 &&& Int32.toUInt32 31)).toInt32)) &&& 63
set_option maxRecDepth 100000 in
set_option maxHeartbeats 4000000 in
theorem m_J6_bitCount_0f7a4 {l : Launch} {d : Nat} {L : eL} {h : eH} {v0 : Int32} {r : Int32} (hd : 1 ≤ d) (hf : f_J6_bitCount_0f7a4 v0 = r) : e_Met l yJ6_bitCount_0f7a4 cJ6_bitCount_0f7a4 1 (some .int) d 0 0 true L h [.int v0] (Qx (some (.int r)) L h) := by
  refine e_metl (by decide) (Nat.le_of_ble_eq_true rfl) (lv := [(0, .int v0)]) rfl ?_
  unfold f_J6_bitCount_0f7a4 at hf
  refine e_iload_n 0 dJ6_bitCount_0f7a4_0 rfl rfl ?_
  refine e_iload_n 0 dJ6_bitCount_0f7a4_1 rfl rfl ?_
  refine e_iconst (v := 1) dJ6_bitCount_0f7a4_2 (by decide) ?_
  refine e_iushr dJ6_bitCount_0f7a4_3 ?_
  refine e_ldcw kc_RJ6_265 dJ6_bitCount_0f7a4_4 ?_
  refine e_iand dJ6_bitCount_0f7a4_7 ?_
  refine e_isub dJ6_bitCount_0f7a4_8 ?_
  refine e_istore_n (lv' := [(0, .int _)]) dJ6_bitCount_0f7a4_9 rfl (by decide) rfl ?_
  refine e_iload_n 0 dJ6_bitCount_0f7a4_10 rfl rfl ?_
  refine e_ldcw kc_RJ6_266 dJ6_bitCount_0f7a4_11 ?_
  refine e_iand dJ6_bitCount_0f7a4_14 ?_
  refine e_iload_n 0 dJ6_bitCount_0f7a4_15 rfl rfl ?_
  refine e_iconst (v := 2) dJ6_bitCount_0f7a4_16 (by decide) ?_
  refine e_iushr dJ6_bitCount_0f7a4_17 ?_
  refine e_ldcw kc_RJ6_266 dJ6_bitCount_0f7a4_18 ?_
  refine e_iand dJ6_bitCount_0f7a4_21 ?_
  refine e_iadd dJ6_bitCount_0f7a4_22 ?_
  refine e_istore_n (lv' := [(0, .int _)]) dJ6_bitCount_0f7a4_23 rfl (by decide) rfl ?_
  refine e_iload_n 0 dJ6_bitCount_0f7a4_24 rfl rfl ?_
  refine e_iload_n 0 dJ6_bitCount_0f7a4_25 rfl rfl ?_
  refine e_iconst (v := 4) dJ6_bitCount_0f7a4_26 (by decide) ?_
  refine e_iushr dJ6_bitCount_0f7a4_27 ?_
  refine e_iadd dJ6_bitCount_0f7a4_28 ?_
  refine e_ldcw kc_RJ6_267 dJ6_bitCount_0f7a4_29 ?_
  refine e_iand dJ6_bitCount_0f7a4_32 ?_
  refine e_istore_n (lv' := [(0, .int _)]) dJ6_bitCount_0f7a4_33 rfl (by decide) rfl ?_
  refine e_iload_n 0 dJ6_bitCount_0f7a4_34 rfl rfl ?_
  refine e_iload_n 0 dJ6_bitCount_0f7a4_35 rfl rfl ?_
  refine e_bipush (v := 8) dJ6_bitCount_0f7a4_36 (by decide) ?_
  refine e_iushr dJ6_bitCount_0f7a4_38 ?_
  refine e_iadd dJ6_bitCount_0f7a4_39 ?_
  refine e_istore_n (lv' := [(0, .int _)]) dJ6_bitCount_0f7a4_40 rfl (by decide) rfl ?_
  refine e_iload_n 0 dJ6_bitCount_0f7a4_41 rfl rfl ?_
  refine e_iload_n 0 dJ6_bitCount_0f7a4_42 rfl rfl ?_
  refine e_bipush (v := 16) dJ6_bitCount_0f7a4_43 (by decide) ?_
  refine e_iushr dJ6_bitCount_0f7a4_45 ?_
  refine e_iadd dJ6_bitCount_0f7a4_46 ?_
  refine e_istore_n (lv' := [(0, .int _)]) dJ6_bitCount_0f7a4_47 rfl (by decide) rfl ?_
  refine e_iload_n 0 dJ6_bitCount_0f7a4_48 rfl rfl ?_
  refine e_bipush (v := 63) dJ6_bitCount_0f7a4_49 (by decide) ?_
  refine e_iand dJ6_bitCount_0f7a4_51 ?_
  exact e_iret rfl dJ6_bitCount_0f7a4_52 (qT hf)
def f_X10_dustOfWeek_L7  : Nat → (Int32 → Option Int32) → Int32 → Int32 → Int32 → Int32 → Int32 → Option Int32
  | 0, _, _, _, _, _, _ => none
  | n + 1, k42, v0, v1, v2, v3, v4 =>
    if 7 ≤ v4 then
      k42 v3
    else
      if ((v0 >>> (v4 &&& 31)) &&& 1) = 1 then
        f_X10_dustOfWeek_L7 n k42 v0 v1 0 (v3 + 0) (v4 + Int32.ofInt 1)
      else
        f_X10_dustOfWeek_L7 n k42 v0 v1 (v2 + v1) (v3 + (v2 + v1)) (v4 + Int32.ofInt 1)
set_option maxRecDepth 100000 in
set_option maxHeartbeats 4000000 in
theorem m_X10_dustOfWeek_L7 {l : Launch} {d : Nat} {L : eL} {h : eH} {r : Int32} {k42 : Int32 → Option Int32} (hd : 1 ≤ d) (hk42 : ∀ (v3 : Int32), k42 v3 = some r → E l yX10_dustOfWeek cX10_dustOfWeek 5 (some .int) (e_rm d 0 0) 0 0 true L (Qx (some (.int r)) L h) L h 0 0 42 [(3, .int v3)] []) : ∀ (n : Nat) (v0 : Int32) (v1 : Int32) (v2 : Int32) (v3 : Int32) (v4 : Int32), f_X10_dustOfWeek_L7 n k42 v0 v1 v2 v3 v4 = some r → E l yX10_dustOfWeek cX10_dustOfWeek 5 (some .int) (e_rm d 0 0) 0 0 true L (Qx (some (.int r)) L h) L h 0 0 7 [(0, .int v0), (1, .int v1), (2, .int v2), (3, .int v3), (4, .int v4)] [] := by
  intro n
  induction n with
  | zero => intro v0 v1 v2 v3 v4 hf; exact absurd hf (by simp [f_X10_dustOfWeek_L7])
  | succ n ih =>
    intro v0 v1 v2 v3 v4 hf
    unfold f_X10_dustOfWeek_L7 at hf
    refine e_iload 4 dX10_dustOfWeek_7 rfl ?_
    refine e_bipush (v := 7) dX10_dustOfWeek_9 (by decide) ?_
    refine e_icmp_ge (t := 42) dX10_dustOfWeek_11 (by decide) (fun c => ?_) (fun c => ?_)
    · replace hf := e_it c hf
      refine e_sub [3] rfl ?_
      exact hk42 _ hf
    · replace hf := e_ie c hf
      refine e_iload_n 0 dX10_dustOfWeek_14 rfl rfl ?_
      refine e_iload 4 dX10_dustOfWeek_15 rfl ?_
      refine e_ishr dX10_dustOfWeek_17 ?_
      refine e_iconst (v := 1) dX10_dustOfWeek_18 (by decide) ?_
      refine e_iand dX10_dustOfWeek_19 ?_
      refine e_iconst (v := 1) dX10_dustOfWeek_20 (by decide) ?_
      refine e_icmp_ne (t := 28) dX10_dustOfWeek_21 (by decide) (fun c => ?_) (fun c => ?_)
      · replace hf := e_ie c hf
        refine e_iload_n 2 dX10_dustOfWeek_28 rfl rfl ?_
        refine e_iload_n 1 dX10_dustOfWeek_29 rfl rfl ?_
        refine e_iadd dX10_dustOfWeek_30 ?_
        refine e_istore_n (lv' := [(2, .int _), (0, .int _), (1, .int _), (3, .int _), (4, .int _)]) dX10_dustOfWeek_31 rfl (by decide) rfl ?_
        refine e_iload_n 3 dX10_dustOfWeek_32 rfl rfl ?_
        refine e_iload_n 0 dX10_dustOfWeek_33 rfl rfl ?_
        refine e_iadd dX10_dustOfWeek_34 ?_
        refine e_istore_n (lv' := [(3, .int _), (2, .int _), (0, .int _), (1, .int _), (4, .int _)]) dX10_dustOfWeek_35 rfl (by decide) rfl ?_
        refine e_iinc (lv' := [(4, .int _), (3, .int _), (2, .int _), (0, .int _), (1, .int _)]) 4 dX10_dustOfWeek_36 rfl (by decide) rfl ?_
        refine e_goto (t := 7) dX10_dustOfWeek_39 (by decide) ?_
        refine e_sub [3, 4, 2, 1, 0] rfl ?_
        exact ih _ _ _ _ _ hf
      · replace hf := e_it c hf
        refine e_iconst (v := 0) dX10_dustOfWeek_24 (by decide) ?_
        refine e_goto (t := 31) dX10_dustOfWeek_25 (by decide) ?_
        refine e_istore_n (lv' := [(2, .int _), (0, .int _), (1, .int _), (3, .int _), (4, .int _)]) dX10_dustOfWeek_31 rfl (by decide) rfl ?_
        refine e_iload_n 3 dX10_dustOfWeek_32 rfl rfl ?_
        refine e_iload_n 0 dX10_dustOfWeek_33 rfl rfl ?_
        refine e_iadd dX10_dustOfWeek_34 ?_
        refine e_istore_n (lv' := [(3, .int _), (2, .int _), (0, .int _), (1, .int _), (4, .int _)]) dX10_dustOfWeek_35 rfl (by decide) rfl ?_
        refine e_iinc (lv' := [(4, .int _), (3, .int _), (2, .int _), (0, .int _), (1, .int _)]) 4 dX10_dustOfWeek_36 rfl (by decide) rfl ?_
        refine e_goto (t := 7) dX10_dustOfWeek_39 (by decide) ?_
        refine e_sub [3, 4, 2, 1, 0] rfl ?_
        exact ih _ _ _ _ _ hf
def f_X10_dustOfWeek (v0 : Int32) (v1 : Int32) : Option Int32 :=
  f_X10_dustOfWeek_L7 e_fu (fun (w3_1 : Int32) =>
    some w3_1) v0 v1 0 0 0
set_option maxRecDepth 100000 in
set_option maxHeartbeats 4000000 in
theorem m_X10_dustOfWeek {l : Launch} {d : Nat} {L : eL} {h : eH} {v0 : Int32} {v1 : Int32} {r : Int32} (hd : 1 ≤ d) (hf : f_X10_dustOfWeek v0 v1 = some r) : e_Met l yX10_dustOfWeek cX10_dustOfWeek 5 (some .int) d 0 0 true L h [.int v0, .int v1] (Qx (some (.int r)) L h) := by
  refine e_metl (by decide) (Nat.le_of_ble_eq_true rfl) (lv := [(0, .int v0), (1, .int v1)]) rfl ?_
  unfold f_X10_dustOfWeek at hf
  refine e_iconst (v := 0) dX10_dustOfWeek_0 (by decide) ?_
  refine e_istore_n (lv' := [(2, .int _), (0, .int _), (1, .int _)]) dX10_dustOfWeek_1 rfl (by decide) rfl ?_
  refine e_iconst (v := 0) dX10_dustOfWeek_2 (by decide) ?_
  refine e_istore_n (lv' := [(3, .int _), (2, .int _), (0, .int _), (1, .int _)]) dX10_dustOfWeek_3 rfl (by decide) rfl ?_
  refine e_iconst (v := 0) dX10_dustOfWeek_4 (by decide) ?_
  refine e_istore (lv' := [(4, .int _), (3, .int _), (2, .int _), (0, .int _), (1, .int _)]) dX10_dustOfWeek_5 (by decide) rfl ?_
  refine e_sub [3, 4, 2, 1, 0] rfl ?_
  refine m_X10_dustOfWeek_L7 hd ?_ e_fu _ _ _ _ _ hf
  · intro w3_1 hf
    refine e_iload_n 0 dX10_dustOfWeek_42 rfl rfl ?_
    exact e_iret rfl dX10_dustOfWeek_43 (qP hf)
def f_X10_week_L31 (L : eL) : Nat → (eH → Nat → Int32 → Int32 → Option (eH × Int32)) → eH → Nat → Int32 → Int32 → Int32 → Int32 → Int32 → Option (eH × Int32)
  | 0, _, _, _, _, _, _, _, _ => none
  | n + 1, k84, h, v0, v1, v2, v3, v4, v5 =>
    if 128 ≤ v5 then
      k84 h v0 v3 v4
    else
      if (f_J6_bitCount_0f7a4 v5) = v1 then
        (f_X10_dustOfWeek v5 v2).bind fun r1 =>
        if v3 = (-1) then
          f_X10_week_L31 L n k84 h v0 v1 v2 v5 r1 (v5 + Int32.ofInt 1)
        else
          if v4 ≤ r1 then
            f_X10_week_L31 L n k84 h v0 v1 v2 v3 v4 (v5 + Int32.ofInt 1)
          else
            f_X10_week_L31 L n k84 h v0 v1 v2 v5 r1 (v5 + Int32.ofInt 1)
      else
        f_X10_week_L31 L n k84 h v0 v1 v2 v3 v4 (v5 + Int32.ofInt 1)
set_option maxRecDepth 100000 in
set_option maxHeartbeats 4000000 in
theorem m_X10_week_L31 {l : Launch} {d : Nat} {L : eL}  {r : eH × Int32} {k84 : eH → Nat → Int32 → Int32 → Option (eH × Int32)} (hd : 2 ≤ d) (hk84 : ∀ (h : eH) (v0 : Nat) (v3 : Int32) (v4 : Int32), k84 h v0 v3 v4 = some r → E l yX10_week cX10_week 7 (some .int) (e_rm d 0 0) 0 0 true L (Qx (some (.int r.2)) L r.1) L h 0 0 84 [(0, .ref v0), (3, .int v3), (4, .int v4)] []) : ∀ (n : Nat) (h : eH) (v0 : Nat) (v1 : Int32) (v2 : Int32) (v3 : Int32) (v4 : Int32) (v5 : Int32), f_X10_week_L31 L n k84 h v0 v1 v2 v3 v4 v5 = some r → E l yX10_week cX10_week 7 (some .int) (e_rm d 0 0) 0 0 true L (Qx (some (.int r.2)) L r.1) L h 0 0 31 [(0, .ref v0), (1, .int v1), (2, .int v2), (3, .int v3), (4, .int v4), (5, .int v5)] [] := by
  intro n
  induction n with
  | zero => intro h v0 v1 v2 v3 v4 v5 hf; exact absurd hf (by simp [f_X10_week_L31])
  | succ n ih =>
    intro h v0 v1 v2 v3 v4 v5 hf
    unfold f_X10_week_L31 at hf
    refine e_iload 5 dX10_week_31 rfl ?_
    refine e_sipush (v := 128) dX10_week_33 (by decide) ?_
    refine e_icmp_ge (t := 84) dX10_week_36 (by decide) (fun c => ?_) (fun c => ?_)
    · replace hf := e_it c hf
      refine e_sub [0, 3, 4] rfl ?_
      exact hk84 _ _ _ _ hf
    · replace hf := e_ie c hf
      refine e_iload 5 dX10_week_39 rfl ?_
      refine e_callS (st := []) ml_RX10_391 k_J6_bitCount_0f7a4 (m_J6_bitCount_0f7a4 (d := d - 1) (by omega) rfl) rfl rfl (Nat.le_of_ble_eq_true rfl) ⟨by omega, by decide⟩ ⟨Nat.le_refl _, Nat.le_refl _⟩ dX10_week_41 ?_
      refine e_iload_n 1 dX10_week_44 rfl rfl ?_
      refine e_icmp_eq (t := 51) dX10_week_45 (by decide) (fun c => ?_) (fun c => ?_)
      · replace hf := e_it c hf
        refine e_iload 5 dX10_week_51 rfl ?_
        refine e_iload_n 2 dX10_week_53 rfl rfl ?_
        obtain ⟨r1, hr2, hf⟩ := e_bd hf
        refine e_callS (st := []) ml_RX10_395 k_X10_dustOfWeek (m_X10_dustOfWeek (d := d - 1) (by omega) hr2) rfl rfl (Nat.le_of_ble_eq_true rfl) ⟨by omega, by decide⟩ ⟨Nat.le_refl _, Nat.le_refl _⟩ dX10_week_54 ?_
        refine e_istore (lv' := [(6, .int _), (0, .ref _), (1, .int _), (2, .int _), (3, .int _), (4, .int _), (5, .int _)]) dX10_week_57 (by decide) rfl ?_
        refine e_iload_n 4 dX10_week_59 rfl rfl ?_
        refine e_iconst (v := (-1)) dX10_week_60 (by decide) ?_
        refine e_icmp_eq (t := 71) dX10_week_61 (by decide) (fun c => ?_) (fun c => ?_)
        · replace hf := e_it c hf
          refine e_iload 0 dX10_week_71 rfl ?_
          refine e_istore (lv' := [(4, .int _), (6, .int _), (0, .ref _), (1, .int _), (2, .int _), (3, .int _), (5, .int _)]) dX10_week_73 (by decide) rfl ?_
          refine e_iload 6 dX10_week_75 rfl ?_
          refine e_istore_n (lv' := [(3, .int _), (4, .int _), (6, .int _), (0, .ref _), (1, .int _), (2, .int _), (5, .int _)]) dX10_week_77 rfl (by decide) rfl ?_
          refine e_iinc (lv' := [(5, .int _), (3, .int _), (4, .int _), (6, .int _), (0, .ref _), (1, .int _), (2, .int _)]) 6 dX10_week_78 rfl (by decide) rfl ?_
          refine e_goto (t := 31) dX10_week_81 (by decide) ?_
          refine e_sub [4, 5, 6, 1, 2, 0] rfl ?_
          exact ih _ _ _ _ _ _ _ hf
        · replace hf := e_ie c hf
          refine e_iload 0 dX10_week_64 rfl ?_
          refine e_iload 5 dX10_week_66 rfl ?_
          refine e_icmp_ge (t := 78) dX10_week_68 (by decide) (fun c => ?_) (fun c => ?_)
          · replace hf := e_it c hf
            refine e_iinc (lv' := [(5, .int _), (6, .int _), (0, .ref _), (1, .int _), (2, .int _), (3, .int _), (4, .int _)]) 6 dX10_week_78 rfl (by decide) rfl ?_
            refine e_goto (t := 31) dX10_week_81 (by decide) ?_
            refine e_sub [2, 3, 4, 5, 6, 0] rfl ?_
            exact ih _ _ _ _ _ _ _ hf
          · replace hf := e_ie c hf
            refine e_iload 0 dX10_week_71 rfl ?_
            refine e_istore (lv' := [(4, .int _), (6, .int _), (0, .ref _), (1, .int _), (2, .int _), (3, .int _), (5, .int _)]) dX10_week_73 (by decide) rfl ?_
            refine e_iload 6 dX10_week_75 rfl ?_
            refine e_istore_n (lv' := [(3, .int _), (4, .int _), (6, .int _), (0, .ref _), (1, .int _), (2, .int _), (5, .int _)]) dX10_week_77 rfl (by decide) rfl ?_
            refine e_iinc (lv' := [(5, .int _), (3, .int _), (4, .int _), (6, .int _), (0, .ref _), (1, .int _), (2, .int _)]) 6 dX10_week_78 rfl (by decide) rfl ?_
            refine e_goto (t := 31) dX10_week_81 (by decide) ?_
            refine e_sub [4, 5, 6, 1, 2, 0] rfl ?_
            exact ih _ _ _ _ _ _ _ hf
      · replace hf := e_ie c hf
        refine e_goto (t := 78) dX10_week_48 (by decide) ?_
        refine e_iinc (lv' := [(5, .int _), (0, .ref _), (1, .int _), (2, .int _), (3, .int _), (4, .int _)]) 5 dX10_week_78 rfl (by decide) rfl ?_
        refine e_goto (t := 31) dX10_week_81 (by decide) ?_
        refine e_sub [1, 2, 3, 4, 5, 0] rfl ?_
        exact ih _ _ _ _ _ _ _ hf
def f_X10_week (L : eL) (h : eH) (v0 : Nat) (v1 : Int32) (v2 : Int32) : Option (eH × Int32) :=
  if v1 < 0 then
    some (h, (-1))
  else
    if 7 < v1 then
      some (h, (-1))
    else
      if v2 < 1 then
        some (h, (-1))
      else
        if v2 ≤ 9 then
          f_X10_week_L31 L e_fu (fun (h3 : eH) (w0_4 : Nat) (w3_5 : Int32) (w4_6 : Int32) =>
            if isO L w0_4 10 = true then
            (gR h3 w0_4 1).bind fun b8 =>
            if isO L b8 3 = true then
            (f_X3_begin L h3 b8).bind fun r11 =>
            (gR r11 w0_4 1).bind fun b13 =>
            if isO L b13 3 = true then
            (f_X3_add L r11 b13 w3_5.toInt64).bind fun r16 =>
            some (r16, w4_6)
            else none
            else none
            else none) h v0 v1 v2 (-1) 0 0
        else
          some (h, (-1))
set_option maxRecDepth 100000 in
set_option maxHeartbeats 4000000 in
theorem m_X10_week {l : Launch} {d : Nat} {L : eL} {h : eH} {v0 : Nat} {v1 : Int32} {v2 : Int32} {r : eH × Int32} (hd : 2 ≤ d) (hf : f_X10_week L h v0 v1 v2 = some r) : e_Met l yX10_week cX10_week 7 (some .int) d 0 0 true L h [.ref v0, .int v1, .int v2] (Qx (some (.int r.2)) L r.1) := by
  refine e_metl (by decide) (Nat.le_of_ble_eq_true rfl) (lv := [(0, .ref v0), (1, .int v1), (2, .int v2)]) rfl ?_
  unfold f_X10_week at hf
  refine e_iload_n 1 dX10_week_0 rfl rfl ?_
  refine e_if_lt (t := 21) dX10_week_1 (by decide) (fun c => ?_) (fun c => ?_)
  · replace hf := e_it c hf
    refine e_iconst (v := (-1)) dX10_week_21 (by decide) ?_
    exact e_iret rfl dX10_week_22 (qW hf)
  · replace hf := e_ie c hf
    refine e_iload_n 1 dX10_week_4 rfl rfl ?_
    refine e_bipush (v := 7) dX10_week_5 (by decide) ?_
    refine e_icmp_gt (t := 21) dX10_week_7 (by decide) (fun c => ?_) (fun c => ?_)
    · replace hf := e_it c hf
      refine e_iconst (v := (-1)) dX10_week_21 (by decide) ?_
      exact e_iret rfl dX10_week_22 (qW hf)
    · replace hf := e_ie c hf
      refine e_iload_n 2 dX10_week_10 rfl rfl ?_
      refine e_iconst (v := 1) dX10_week_11 (by decide) ?_
      refine e_icmp_lt (t := 21) dX10_week_12 (by decide) (fun c => ?_) (fun c => ?_)
      · replace hf := e_it c hf
        refine e_iconst (v := (-1)) dX10_week_21 (by decide) ?_
        exact e_iret rfl dX10_week_22 (qW hf)
      · replace hf := e_ie c hf
        refine e_iload_n 2 dX10_week_15 rfl rfl ?_
        refine e_bipush (v := 9) dX10_week_16 (by decide) ?_
        refine e_icmp_le (t := 23) dX10_week_18 (by decide) (fun c => ?_) (fun c => ?_)
        · replace hf := e_it c hf
          refine e_iconst (v := (-1)) dX10_week_23 (by decide) ?_
          refine e_istore_n (lv' := [(3, .int _), (0, .ref _), (1, .int _), (2, .int _)]) dX10_week_24 rfl (by decide) rfl ?_
          refine e_iconst (v := 0) dX10_week_25 (by decide) ?_
          refine e_istore (lv' := [(4, .int _), (3, .int _), (0, .ref _), (1, .int _), (2, .int _)]) dX10_week_26 (by decide) rfl ?_
          refine e_iconst (v := 0) dX10_week_28 (by decide) ?_
          refine e_istore (lv' := [(5, .int _), (4, .int _), (3, .int _), (0, .ref _), (1, .int _), (2, .int _)]) dX10_week_29 (by decide) rfl ?_
          refine e_sub [3, 4, 5, 2, 1, 0] rfl ?_
          refine m_X10_week_L31 hd ?_ e_fu _ _ _ _ _ _ _ hf
          · intro h3 w0_4 w3_5 w4_6 hf
            refine e_aload_n 0 dX10_week_84 rfl rfl ?_
            obtain ⟨hO7, hf⟩ := e_if hf
            obtain ⟨b8, hb9, hf⟩ := e_bd hf
            refine e_getR hO7 fc_10_1 lk_RX10_19 dX10_week_85 hb9 ?_
            obtain ⟨hO10, hf⟩ := e_if hf
            obtain ⟨r11, hr12, hf⟩ := e_bd hf
            refine e_callV (st := []) ml_RX10_267 k_X3_begin (m_X3_begin (d := d - 1) (by omega) hr12) hO10 ⟨by decide, rfl⟩ rfl rfl (Nat.le_of_ble_eq_true rfl) ⟨by omega, by decide⟩ ⟨Nat.le_refl _, Nat.le_refl _⟩ dX10_week_88 ?_
            refine e_aload_n 0 dX10_week_91 rfl rfl ?_
            obtain ⟨b13, hb14, hf⟩ := e_bd hf
            refine e_getR hO7 fc_10_1 lk_RX10_19 dX10_week_92 hb14 ?_
            refine e_iload_n 1 dX10_week_95 rfl rfl ?_
            refine e_i2l dX10_week_96 ?_
            obtain ⟨hO15, hf⟩ := e_if hf
            obtain ⟨r16, hr17, hf⟩ := e_bd hf
            refine e_callV (st := []) ml_RX10_269 k_X3_add (m_X3_add (d := d - 1) (by omega) hr17) hO15 ⟨by decide, rfl⟩ rfl rfl (Nat.le_of_ble_eq_true rfl) ⟨by omega, by decide⟩ ⟨Nat.le_refl _, Nat.le_refl _⟩ dX10_week_97 ?_
            refine e_iload 2 dX10_week_100 rfl ?_
            exact e_iret rfl dX10_week_102 (qW hf)
        · replace hf := e_ie c hf
          refine e_iconst (v := (-1)) dX10_week_21 (by decide) ?_
          exact e_iret rfl dX10_week_22 (qW hf)
def f_X2_looksTurned_J106 (L : eL) (h : eH) (k30 : Nat → Int32 → Int32 → Int32 → Option Int32) (k137 : Option Int32) (k145 : Nat → Int32 → Int32 → Option Int32) (v0 : Nat) (v1 : Int32) (v2 : Int32) (v3 : Int32) (v4 : Int32) (s0 : Int32) : Option Int32 :=
  if isO L v0 2 = true then
  (f_X2_kindOf L h v0 ((v4 * (gI h v0 2)) + s0)).bind fun r5 =>
  (f_X2_kindOf L h v0 ((v2 * (gI h v0 2)) + v3)).bind fun r7 =>
  if r5 = r7 then
    k30 v0 v1 v2 (v3 + Int32.ofInt 1)
  else
    k137
  else none
set_option maxRecDepth 100000 in
set_option maxHeartbeats 4000000 in
theorem m_X2_looksTurned_J106 {l : Launch} {d : Nat} {L : eL} {h : eH} {r : Int32} {k30 : Nat → Int32 → Int32 → Int32 → Option Int32} {k137 : Option Int32} {k145 : Nat → Int32 → Int32 → Option Int32} (hd : 2 ≤ d) (hk30 : ∀ (v0 : Nat) (v1 : Int32) (v2 : Int32) (v3 : Int32), k30 v0 v1 v2 v3 = some r → E l yX2_looksTurned cX2_looksTurned 6 (some .boolean) (e_rm d 0 0) 0 0 true L (Qx (some (.int r)) L h) L h 0 0 30 [(0, .ref v0), (1, .int v1), (2, .int v2), (3, .int v3)] []) (hk137 : k137 = some r → E l yX2_looksTurned cX2_looksTurned 6 (some .boolean) (e_rm d 0 0) 0 0 true L (Qx (some (.int r)) L h) L h 0 0 137 [] []) (hk145 : ∀ (v0 : Nat) (v1 : Int32) (v2 : Int32), k145 v0 v1 v2 = some r → E l yX2_looksTurned cX2_looksTurned 6 (some .boolean) (e_rm d 0 0) 0 0 true L (Qx (some (.int r)) L h) L h 0 0 145 [(0, .ref v0), (1, .int v1), (2, .int v2)] []) : ∀ (v0 : Nat) (v1 : Int32) (v2 : Int32) (v3 : Int32) (v4 : Int32) (s0 : Int32), f_X2_looksTurned_J106 L h k30 k137 k145 v0 v1 v2 v3 v4 s0 = some r → E l yX2_looksTurned cX2_looksTurned 6 (some .boolean) (e_rm d 0 0) 0 0 true L (Qx (some (.int r)) L h) L h 0 0 106 [(0, .ref v0), (1, .int v1), (2, .int v2), (3, .int v3), (4, .int v4)] [.int s0] := by
  intro v0 v1 v2 v3 v4 s0 hf
  unfold f_X2_looksTurned_J106 at hf
  refine e_istore (lv' := [(5, .int _), (0, .ref _), (1, .int _), (2, .int _), (3, .int _), (4, .int _)]) dX2_looksTurned_106 (by decide) rfl ?_
  refine e_aload_n 1 dX2_looksTurned_108 rfl rfl ?_
  refine e_iload 5 dX2_looksTurned_109 rfl ?_
  refine e_aload_n 1 dX2_looksTurned_111 rfl rfl ?_
  obtain ⟨hO4, hf⟩ := e_if hf
  refine e_getI hO4 fc_2_2 lk_RX2_19 dX2_looksTurned_112 ?_
  refine e_imul dX2_looksTurned_115 ?_
  refine e_iload 0 dX2_looksTurned_116 rfl ?_
  refine e_iadd dX2_looksTurned_118 ?_
  obtain ⟨r5, hr6, hf⟩ := e_bd hf
  refine e_callV (st := []) ml_RX2_61 k_X2_kindOf (m_X2_kindOf (d := d - 1) (by omega) hr6) hO4 ⟨by decide, rfl⟩ rfl rfl (Nat.le_of_ble_eq_true rfl) ⟨by omega, by decide⟩ ⟨Nat.le_refl _, Nat.le_refl _⟩ dX2_looksTurned_119 ?_
  refine e_aload_n 1 dX2_looksTurned_122 rfl rfl ?_
  refine e_iload_n 3 dX2_looksTurned_123 rfl rfl ?_
  refine e_aload_n 1 dX2_looksTurned_124 rfl rfl ?_
  refine e_getI hO4 fc_2_2 lk_RX2_19 dX2_looksTurned_125 ?_
  refine e_imul dX2_looksTurned_128 ?_
  refine e_iload_n 4 dX2_looksTurned_129 rfl rfl ?_
  refine e_iadd dX2_looksTurned_130 ?_
  obtain ⟨r7, hr8, hf⟩ := e_bd hf
  refine e_callV (st := [.int _]) ml_RX2_61 k_X2_kindOf (m_X2_kindOf (d := d - 1) (by omega) hr8) hO4 ⟨by decide, rfl⟩ rfl rfl (Nat.le_of_ble_eq_true rfl) ⟨by omega, by decide⟩ ⟨Nat.le_refl _, Nat.le_refl _⟩ dX2_looksTurned_131 ?_
  refine e_icmp_eq (t := 139) dX2_looksTurned_134 (by decide) (fun c => ?_) (fun c => ?_)
  · replace hf := e_it c hf
    refine e_iinc (lv' := [(3, .int _), (5, .int _), (0, .ref _), (1, .int _), (2, .int _), (4, .int _)]) 4 dX2_looksTurned_139 rfl (by decide) rfl ?_
    refine e_goto (t := 30) dX2_looksTurned_142 (by decide) ?_
    refine e_sub [2, 3, 4, 0] rfl ?_
    exact hk30 _ _ _ _ hf
  · replace hf := e_ie c hf
    refine e_sub [] rfl ?_
    exact hk137  hf
def f_X2_looksTurned_J71 (L : eL) (h : eH) (k30 : Nat → Int32 → Int32 → Int32 → Option Int32) (k137 : Option Int32) (k145 : Nat → Int32 → Int32 → Option Int32) (v0 : Nat) (v1 : Int32) (v2 : Int32) (v3 : Int32) (s0 : Int32) : Option Int32 :=
  if v1 = 2 then
    if isO L v0 2 = true then
    f_X2_looksTurned_J106 L h k30 k137 k145 v0 v1 v2 v3 s0 (((gI h v0 2) - 1) - v3)
    else none
  else
    if v1 = 1 then
      f_X2_looksTurned_J106 L h k30 k137 k145 v0 v1 v2 v3 s0 v2
    else
      if isO L v0 2 = true then
      f_X2_looksTurned_J106 L h k30 k137 k145 v0 v1 v2 v3 s0 (((gI h v0 2) - 1) - v2)
      else none
set_option maxRecDepth 100000 in
set_option maxHeartbeats 4000000 in
theorem m_X2_looksTurned_J71 {l : Launch} {d : Nat} {L : eL} {h : eH} {r : Int32} {k30 : Nat → Int32 → Int32 → Int32 → Option Int32} {k137 : Option Int32} {k145 : Nat → Int32 → Int32 → Option Int32} (hd : 2 ≤ d) (hk30 : ∀ (v0 : Nat) (v1 : Int32) (v2 : Int32) (v3 : Int32), k30 v0 v1 v2 v3 = some r → E l yX2_looksTurned cX2_looksTurned 6 (some .boolean) (e_rm d 0 0) 0 0 true L (Qx (some (.int r)) L h) L h 0 0 30 [(0, .ref v0), (1, .int v1), (2, .int v2), (3, .int v3)] []) (hk137 : k137 = some r → E l yX2_looksTurned cX2_looksTurned 6 (some .boolean) (e_rm d 0 0) 0 0 true L (Qx (some (.int r)) L h) L h 0 0 137 [] []) (hk145 : ∀ (v0 : Nat) (v1 : Int32) (v2 : Int32), k145 v0 v1 v2 = some r → E l yX2_looksTurned cX2_looksTurned 6 (some .boolean) (e_rm d 0 0) 0 0 true L (Qx (some (.int r)) L h) L h 0 0 145 [(0, .ref v0), (1, .int v1), (2, .int v2)] []) : ∀ (v0 : Nat) (v1 : Int32) (v2 : Int32) (v3 : Int32) (s0 : Int32), f_X2_looksTurned_J71 L h k30 k137 k145 v0 v1 v2 v3 s0 = some r → E l yX2_looksTurned cX2_looksTurned 6 (some .boolean) (e_rm d 0 0) 0 0 true L (Qx (some (.int r)) L h) L h 0 0 71 [(0, .ref v0), (1, .int v1), (2, .int v2), (3, .int v3)] [.int s0] := by
  intro v0 v1 v2 v3 s0 hf
  unfold f_X2_looksTurned_J71 at hf
  refine e_istore (lv' := [(4, .int _), (0, .ref _), (1, .int _), (2, .int _), (3, .int _)]) dX2_looksTurned_71 (by decide) rfl ?_
  refine e_iload_n 2 dX2_looksTurned_73 rfl rfl ?_
  refine e_iconst (v := 2) dX2_looksTurned_74 (by decide) ?_
  refine e_icmp_ne (t := 89) dX2_looksTurned_75 (by decide) (fun c => ?_) (fun c => ?_)
  · replace hf := e_ie c hf
    refine e_iload_n 2 dX2_looksTurned_89 rfl rfl ?_
    refine e_iconst (v := 1) dX2_looksTurned_90 (by decide) ?_
    refine e_icmp_ne (t := 98) dX2_looksTurned_91 (by decide) (fun c => ?_) (fun c => ?_)
    · replace hf := e_ie c hf
      refine e_aload_n 1 dX2_looksTurned_98 rfl rfl ?_
      obtain ⟨hO3, hf⟩ := e_if hf
      refine e_getI hO3 fc_2_2 lk_RX2_19 dX2_looksTurned_99 ?_
      refine e_iconst (v := 1) dX2_looksTurned_102 (by decide) ?_
      refine e_isub dX2_looksTurned_103 ?_
      refine e_iload_n 3 dX2_looksTurned_104 rfl rfl ?_
      refine e_isub dX2_looksTurned_105 ?_
      refine e_sub [1, 2, 3, 4, 0] rfl ?_
      exact m_X2_looksTurned_J106 hd hk30 hk137 hk145 _ _ _ _ _ _ hf
    · replace hf := e_it c hf
      refine e_iload_n 3 dX2_looksTurned_94 rfl rfl ?_
      refine e_goto (t := 106) dX2_looksTurned_95 (by decide) ?_
      refine e_sub [1, 2, 3, 4, 0] rfl ?_
      exact m_X2_looksTurned_J106 hd hk30 hk137 hk145 _ _ _ _ _ _ hf
  · replace hf := e_it c hf
    refine e_aload_n 1 dX2_looksTurned_78 rfl rfl ?_
    obtain ⟨hO9, hf⟩ := e_if hf
    refine e_getI hO9 fc_2_2 lk_RX2_19 dX2_looksTurned_79 ?_
    refine e_iconst (v := 1) dX2_looksTurned_82 (by decide) ?_
    refine e_isub dX2_looksTurned_83 ?_
    refine e_iload_n 4 dX2_looksTurned_84 rfl rfl ?_
    refine e_isub dX2_looksTurned_85 ?_
    refine e_goto (t := 106) dX2_looksTurned_86 (by decide) ?_
    refine e_sub [1, 2, 3, 4, 0] rfl ?_
    exact m_X2_looksTurned_J106 hd hk30 hk137 hk145 _ _ _ _ _ _ hf
def f_X2_looksTurned_L30 (L : eL) (h : eH) : Nat → (Option Int32) → (Nat → Int32 → Int32 → Option Int32) → Nat → Int32 → Int32 → Int32 → Option Int32
  | 0, _, _, _, _, _, _ => none
  | n + 1, k137, k145, v0, v1, v2, v3 =>
    if isO L v0 2 = true then
    if (gI h v0 2) ≤ v3 then
      k145 v0 v1 v2
    else
      if v1 = 2 then
        f_X2_looksTurned_J71 L h (f_X2_looksTurned_L30 L h n k137 k145) k137 k145 v0 v1 v2 v3 (((gI h v0 1) - 1) - v2)
      else
        if v1 = 1 then
          f_X2_looksTurned_J71 L h (f_X2_looksTurned_L30 L h n k137 k145) k137 k145 v0 v1 v2 v3 (((gI h v0 1) - 1) - v3)
        else
          f_X2_looksTurned_J71 L h (f_X2_looksTurned_L30 L h n k137 k145) k137 k145 v0 v1 v2 v3 v3
    else none
set_option maxRecDepth 100000 in
set_option maxHeartbeats 4000000 in
theorem m_X2_looksTurned_L30 {l : Launch} {d : Nat} {L : eL} {h : eH} {r : Int32} {k137 : Option Int32} {k145 : Nat → Int32 → Int32 → Option Int32} (hd : 2 ≤ d) (hk137 : k137 = some r → E l yX2_looksTurned cX2_looksTurned 6 (some .boolean) (e_rm d 0 0) 0 0 true L (Qx (some (.int r)) L h) L h 0 0 137 [] []) (hk145 : ∀ (v0 : Nat) (v1 : Int32) (v2 : Int32), k145 v0 v1 v2 = some r → E l yX2_looksTurned cX2_looksTurned 6 (some .boolean) (e_rm d 0 0) 0 0 true L (Qx (some (.int r)) L h) L h 0 0 145 [(0, .ref v0), (1, .int v1), (2, .int v2)] []) : ∀ (n : Nat) (v0 : Nat) (v1 : Int32) (v2 : Int32) (v3 : Int32), f_X2_looksTurned_L30 L h n k137 k145 v0 v1 v2 v3 = some r → E l yX2_looksTurned cX2_looksTurned 6 (some .boolean) (e_rm d 0 0) 0 0 true L (Qx (some (.int r)) L h) L h 0 0 30 [(0, .ref v0), (1, .int v1), (2, .int v2), (3, .int v3)] [] := by
  intro n
  induction n with
  | zero => intro v0 v1 v2 v3 hf; exact absurd hf (by simp [f_X2_looksTurned_L30])
  | succ n ih =>
    intro v0 v1 v2 v3 hf
    unfold f_X2_looksTurned_L30 at hf
    refine e_iload_n 3 dX2_looksTurned_30 rfl rfl ?_
    refine e_aload_n 0 dX2_looksTurned_31 rfl rfl ?_
    obtain ⟨hO2, hf⟩ := e_if hf
    refine e_getI hO2 fc_2_2 lk_RX2_19 dX2_looksTurned_32 ?_
    refine e_icmp_ge (t := 145) dX2_looksTurned_35 (by decide) (fun c => ?_) (fun c => ?_)
    · replace hf := e_it c hf
      refine e_sub [0, 1, 2] rfl ?_
      exact hk145 _ _ _ hf
    · replace hf := e_ie c hf
      refine e_iload_n 1 dX2_looksTurned_38 rfl rfl ?_
      refine e_iconst (v := 2) dX2_looksTurned_39 (by decide) ?_
      refine e_icmp_ne (t := 54) dX2_looksTurned_40 (by decide) (fun c => ?_) (fun c => ?_)
      · replace hf := e_ie c hf
        refine e_iload_n 1 dX2_looksTurned_54 rfl rfl ?_
        refine e_iconst (v := 1) dX2_looksTurned_55 (by decide) ?_
        refine e_icmp_ne (t := 70) dX2_looksTurned_56 (by decide) (fun c => ?_) (fun c => ?_)
        · replace hf := e_ie c hf
          refine e_iload_n 3 dX2_looksTurned_70 rfl rfl ?_
          exact m_X2_looksTurned_J71 hd ih hk137 hk145 _ _ _ _ _ hf
        · replace hf := e_it c hf
          refine e_aload_n 0 dX2_looksTurned_59 rfl rfl ?_
          refine e_getI hO2 fc_2_1 lk_RX2_15 dX2_looksTurned_60 ?_
          refine e_iconst (v := 1) dX2_looksTurned_63 (by decide) ?_
          refine e_isub dX2_looksTurned_64 ?_
          refine e_iload_n 3 dX2_looksTurned_65 rfl rfl ?_
          refine e_isub dX2_looksTurned_66 ?_
          refine e_goto (t := 71) dX2_looksTurned_67 (by decide) ?_
          exact m_X2_looksTurned_J71 hd ih hk137 hk145 _ _ _ _ _ hf
      · replace hf := e_it c hf
        refine e_aload_n 0 dX2_looksTurned_43 rfl rfl ?_
        refine e_getI hO2 fc_2_1 lk_RX2_15 dX2_looksTurned_44 ?_
        refine e_iconst (v := 1) dX2_looksTurned_47 (by decide) ?_
        refine e_isub dX2_looksTurned_48 ?_
        refine e_iload_n 2 dX2_looksTurned_49 rfl rfl ?_
        refine e_isub dX2_looksTurned_50 ?_
        refine e_goto (t := 71) dX2_looksTurned_51 (by decide) ?_
        exact m_X2_looksTurned_J71 hd ih hk137 hk145 _ _ _ _ _ hf
def f_X2_looksTurned_L20 (L : eL) (h : eH) : Nat → (Option Int32) → (Option Int32) → Nat → Int32 → Int32 → Option Int32
  | 0, _, _, _, _, _ => none
  | n + 1, k137, k151, v0, v1, v2 =>
    if isO L v0 2 = true then
    if (gI h v0 1) ≤ v2 then
      k151
    else
      f_X2_looksTurned_L30 L h e_fu k137 (fun (w0_10 : Nat) (w1_11 : Int32) (w2_12 : Int32) =>
        f_X2_looksTurned_L20 L h n k137 k151 w0_10 w1_11 (w2_12 + Int32.ofInt 1)) v0 v1 v2 0
    else none
set_option maxRecDepth 100000 in
set_option maxHeartbeats 4000000 in
theorem m_X2_looksTurned_L20 {l : Launch} {d : Nat} {L : eL} {h : eH} {r : Int32} {k137 : Option Int32} {k151 : Option Int32} (hd : 2 ≤ d) (hk137 : k137 = some r → E l yX2_looksTurned cX2_looksTurned 6 (some .boolean) (e_rm d 0 0) 0 0 true L (Qx (some (.int r)) L h) L h 0 0 137 [] []) (hk151 : k151 = some r → E l yX2_looksTurned cX2_looksTurned 6 (some .boolean) (e_rm d 0 0) 0 0 true L (Qx (some (.int r)) L h) L h 0 0 151 [] []) : ∀ (n : Nat) (v0 : Nat) (v1 : Int32) (v2 : Int32), f_X2_looksTurned_L20 L h n k137 k151 v0 v1 v2 = some r → E l yX2_looksTurned cX2_looksTurned 6 (some .boolean) (e_rm d 0 0) 0 0 true L (Qx (some (.int r)) L h) L h 0 0 20 [(0, .ref v0), (1, .int v1), (2, .int v2)] [] := by
  intro n
  induction n with
  | zero => intro v0 v1 v2 hf; exact absurd hf (by simp [f_X2_looksTurned_L20])
  | succ n ih =>
    intro v0 v1 v2 hf
    unfold f_X2_looksTurned_L20 at hf
    refine e_iload_n 2 dX2_looksTurned_20 rfl rfl ?_
    refine e_aload_n 0 dX2_looksTurned_21 rfl rfl ?_
    obtain ⟨hO1, hf⟩ := e_if hf
    refine e_getI hO1 fc_2_1 lk_RX2_15 dX2_looksTurned_22 ?_
    refine e_icmp_ge (t := 151) dX2_looksTurned_25 (by decide) (fun c => ?_) (fun c => ?_)
    · replace hf := e_it c hf
      refine e_sub [] rfl ?_
      exact hk151  hf
    · replace hf := e_ie c hf
      refine e_iconst (v := 0) dX2_looksTurned_28 (by decide) ?_
      refine e_istore_n (lv' := [(3, .int _), (0, .ref _), (1, .int _), (2, .int _)]) dX2_looksTurned_29 rfl (by decide) rfl ?_
      refine e_sub [1, 2, 3, 0] rfl ?_
      refine m_X2_looksTurned_L30 hd hk137 ?_ e_fu _ _ _ _ hf
      · intro w0_10 w1_11 w2_12 hf
        refine e_iinc (lv' := [(2, .int _), (0, .ref _), (1, .int _)]) 2 dX2_looksTurned_145 rfl (by decide) rfl ?_
        refine e_goto (t := 20) dX2_looksTurned_148 (by decide) ?_
        refine e_sub [1, 2, 0] rfl ?_
        exact ih _ _ _ hf
def f_X2_looksTurned (L : eL) (h : eH) (v0 : Nat) (v1 : Int32) : Option Int32 :=
  if v1 = 2 then
    f_X2_looksTurned_L20 L h e_fu (
      some 0) (
      some 1) v0 v1 0
  else
    if isO L v0 2 = true then
    if (gI h v0 1) = (gI h v0 2) then
      f_X2_looksTurned_L20 L h e_fu (
        some 0) (
        some 1) v0 v1 0
    else
      some 0
    else none
set_option maxRecDepth 100000 in
set_option maxHeartbeats 4000000 in
theorem m_X2_looksTurned {l : Launch} {d : Nat} {L : eL} {h : eH} {v0 : Nat} {v1 : Int32} {r : Int32} (hd : 2 ≤ d) (hf : f_X2_looksTurned L h v0 v1 = some r) : e_Met l yX2_looksTurned cX2_looksTurned 6 (some .boolean) d 0 0 true L h [.ref v0, .int v1] (Qx (some (.int r)) L h) := by
  refine e_metl (by decide) (Nat.le_of_ble_eq_true rfl) (lv := [(0, .ref v0), (1, .int v1)]) rfl ?_
  unfold f_X2_looksTurned at hf
  refine e_iload_n 1 dX2_looksTurned_0 rfl rfl ?_
  refine e_iconst (v := 2) dX2_looksTurned_1 (by decide) ?_
  refine e_icmp_eq (t := 18) dX2_looksTurned_2 (by decide) (fun c => ?_) (fun c => ?_)
  · replace hf := e_it c hf
    refine e_iconst (v := 0) dX2_looksTurned_18 (by decide) ?_
    refine e_istore_n (lv' := [(2, .int _), (0, .ref _), (1, .int _)]) dX2_looksTurned_19 rfl (by decide) rfl ?_
    refine e_sub [1, 2, 0] rfl ?_
    refine m_X2_looksTurned_L20 hd ?_ ?_ e_fu _ _ _ hf
    · intro  hf
      refine e_iconst (v := 0) dX2_looksTurned_137 (by decide) ?_
      exact e_zret (ty := .boolean) rfl rfl dX2_looksTurned_138 (qP hf)
    · intro  hf
      refine e_iconst (v := 1) dX2_looksTurned_151 (by decide) ?_
      exact e_zret (ty := .boolean) rfl rfl dX2_looksTurned_152 (qP hf)
  · replace hf := e_ie c hf
    refine e_aload_n 0 dX2_looksTurned_5 rfl rfl ?_
    obtain ⟨hO13, hf⟩ := e_if hf
    refine e_getI hO13 fc_2_1 lk_RX2_15 dX2_looksTurned_6 ?_
    refine e_aload_n 0 dX2_looksTurned_9 rfl rfl ?_
    refine e_getI hO13 fc_2_2 lk_RX2_19 dX2_looksTurned_10 ?_
    refine e_icmp_eq (t := 18) dX2_looksTurned_13 (by decide) (fun c => ?_) (fun c => ?_)
    · replace hf := e_it c hf
      refine e_iconst (v := 0) dX2_looksTurned_18 (by decide) ?_
      refine e_istore_n (lv' := [(2, .int _), (0, .ref _), (1, .int _)]) dX2_looksTurned_19 rfl (by decide) rfl ?_
      refine e_sub [1, 2, 0] rfl ?_
      refine m_X2_looksTurned_L20 hd ?_ ?_ e_fu _ _ _ hf
      · intro  hf
        refine e_iconst (v := 0) dX2_looksTurned_137 (by decide) ?_
        exact e_zret (ty := .boolean) rfl rfl dX2_looksTurned_138 (qP hf)
      · intro  hf
        refine e_iconst (v := 1) dX2_looksTurned_151 (by decide) ?_
        exact e_zret (ty := .boolean) rfl rfl dX2_looksTurned_152 (qP hf)
    · replace hf := e_ie c hf
      refine e_iconst (v := 0) dX2_looksTurned_16 (by decide) ?_
      exact e_zret (ty := .boolean) rfl rfl dX2_looksTurned_17 (qP hf)
def f_X2_looksMirrored_L12 (L : eL) (h : eH) : Nat → (Option Int32) → (Nat → Int32 → Option Int32) → Nat → Int32 → Int32 → Option Int32
  | 0, _, _, _, _, _ => none
  | n + 1, k54, k62, v0, v1, v2 =>
    if isO L v0 2 = true then
    if (gI h v0 2) ≤ v2 then
      k62 v0 v1
    else
      (f_X2_kindOf L h v0 ((((v1 * (gI h v0 2)) + (gI h v0 2)) - 1) - v2)).bind fun r3 =>
      (f_X2_kindOf L h v0 ((v1 * (gI h v0 2)) + v2)).bind fun r5 =>
      if r3 = r5 then
        f_X2_looksMirrored_L12 L h n k54 k62 v0 v1 (v2 + Int32.ofInt 1)
      else
        k54
    else none
set_option maxRecDepth 100000 in
set_option maxHeartbeats 4000000 in
theorem m_X2_looksMirrored_L12 {l : Launch} {d : Nat} {L : eL} {h : eH} {r : Int32} {k54 : Option Int32} {k62 : Nat → Int32 → Option Int32} (hd : 2 ≤ d) (hk54 : k54 = some r → E l yX2_looksMirrored cX2_looksMirrored 3 (some .boolean) (e_rm d 0 0) 0 0 true L (Qx (some (.int r)) L h) L h 0 0 54 [] []) (hk62 : ∀ (v0 : Nat) (v1 : Int32), k62 v0 v1 = some r → E l yX2_looksMirrored cX2_looksMirrored 3 (some .boolean) (e_rm d 0 0) 0 0 true L (Qx (some (.int r)) L h) L h 0 0 62 [(0, .ref v0), (1, .int v1)] []) : ∀ (n : Nat) (v0 : Nat) (v1 : Int32) (v2 : Int32), f_X2_looksMirrored_L12 L h n k54 k62 v0 v1 v2 = some r → E l yX2_looksMirrored cX2_looksMirrored 3 (some .boolean) (e_rm d 0 0) 0 0 true L (Qx (some (.int r)) L h) L h 0 0 12 [(0, .ref v0), (1, .int v1), (2, .int v2)] [] := by
  intro n
  induction n with
  | zero => intro v0 v1 v2 hf; exact absurd hf (by simp [f_X2_looksMirrored_L12])
  | succ n ih =>
    intro v0 v1 v2 hf
    unfold f_X2_looksMirrored_L12 at hf
    refine e_iload_n 2 dX2_looksMirrored_12 rfl rfl ?_
    refine e_aload_n 0 dX2_looksMirrored_13 rfl rfl ?_
    obtain ⟨hO2, hf⟩ := e_if hf
    refine e_getI hO2 fc_2_2 lk_RX2_19 dX2_looksMirrored_14 ?_
    refine e_icmp_ge (t := 62) dX2_looksMirrored_17 (by decide) (fun c => ?_) (fun c => ?_)
    · replace hf := e_it c hf
      refine e_sub [0, 1] rfl ?_
      exact hk62 _ _ hf
    · replace hf := e_ie c hf
      refine e_aload_n 0 dX2_looksMirrored_20 rfl rfl ?_
      refine e_iload_n 1 dX2_looksMirrored_21 rfl rfl ?_
      refine e_aload_n 0 dX2_looksMirrored_22 rfl rfl ?_
      refine e_getI hO2 fc_2_2 lk_RX2_19 dX2_looksMirrored_23 ?_
      refine e_imul dX2_looksMirrored_26 ?_
      refine e_aload_n 0 dX2_looksMirrored_27 rfl rfl ?_
      refine e_getI hO2 fc_2_2 lk_RX2_19 dX2_looksMirrored_28 ?_
      refine e_iadd dX2_looksMirrored_31 ?_
      refine e_iconst (v := 1) dX2_looksMirrored_32 (by decide) ?_
      refine e_isub dX2_looksMirrored_33 ?_
      refine e_iload_n 2 dX2_looksMirrored_34 rfl rfl ?_
      refine e_isub dX2_looksMirrored_35 ?_
      obtain ⟨r3, hr4, hf⟩ := e_bd hf
      refine e_callV (st := []) ml_RX2_61 k_X2_kindOf (m_X2_kindOf (d := d - 1) (by omega) hr4) hO2 ⟨by decide, rfl⟩ rfl rfl (Nat.le_of_ble_eq_true rfl) ⟨by omega, by decide⟩ ⟨Nat.le_refl _, Nat.le_refl _⟩ dX2_looksMirrored_36 ?_
      refine e_aload_n 0 dX2_looksMirrored_39 rfl rfl ?_
      refine e_iload_n 1 dX2_looksMirrored_40 rfl rfl ?_
      refine e_aload_n 0 dX2_looksMirrored_41 rfl rfl ?_
      refine e_getI hO2 fc_2_2 lk_RX2_19 dX2_looksMirrored_42 ?_
      refine e_imul dX2_looksMirrored_45 ?_
      refine e_iload_n 2 dX2_looksMirrored_46 rfl rfl ?_
      refine e_iadd dX2_looksMirrored_47 ?_
      obtain ⟨r5, hr6, hf⟩ := e_bd hf
      refine e_callV (st := [.int _]) ml_RX2_61 k_X2_kindOf (m_X2_kindOf (d := d - 1) (by omega) hr6) hO2 ⟨by decide, rfl⟩ rfl rfl (Nat.le_of_ble_eq_true rfl) ⟨by omega, by decide⟩ ⟨Nat.le_refl _, Nat.le_refl _⟩ dX2_looksMirrored_48 ?_
      refine e_icmp_eq (t := 56) dX2_looksMirrored_51 (by decide) (fun c => ?_) (fun c => ?_)
      · replace hf := e_it c hf
        refine e_iinc (lv' := [(2, .int _), (0, .ref _), (1, .int _)]) 2 dX2_looksMirrored_56 rfl (by decide) rfl ?_
        refine e_goto (t := 12) dX2_looksMirrored_59 (by decide) ?_
        refine e_sub [1, 2, 0] rfl ?_
        exact ih _ _ _ hf
      · replace hf := e_ie c hf
        refine e_sub [] rfl ?_
        exact hk54  hf
def f_X2_looksMirrored_L2 (L : eL) (h : eH) : Nat → (Option Int32) → (Option Int32) → Nat → Int32 → Option Int32
  | 0, _, _, _, _ => none
  | n + 1, k54, k68, v0, v1 =>
    if isO L v0 2 = true then
    if (gI h v0 1) ≤ v1 then
      k68
    else
      f_X2_looksMirrored_L12 L h e_fu k54 (fun (w0_7 : Nat) (w1_8 : Int32) =>
        f_X2_looksMirrored_L2 L h n k54 k68 w0_7 (w1_8 + Int32.ofInt 1)) v0 v1 0
    else none
set_option maxRecDepth 100000 in
set_option maxHeartbeats 4000000 in
theorem m_X2_looksMirrored_L2 {l : Launch} {d : Nat} {L : eL} {h : eH} {r : Int32} {k54 : Option Int32} {k68 : Option Int32} (hd : 2 ≤ d) (hk54 : k54 = some r → E l yX2_looksMirrored cX2_looksMirrored 3 (some .boolean) (e_rm d 0 0) 0 0 true L (Qx (some (.int r)) L h) L h 0 0 54 [] []) (hk68 : k68 = some r → E l yX2_looksMirrored cX2_looksMirrored 3 (some .boolean) (e_rm d 0 0) 0 0 true L (Qx (some (.int r)) L h) L h 0 0 68 [] []) : ∀ (n : Nat) (v0 : Nat) (v1 : Int32), f_X2_looksMirrored_L2 L h n k54 k68 v0 v1 = some r → E l yX2_looksMirrored cX2_looksMirrored 3 (some .boolean) (e_rm d 0 0) 0 0 true L (Qx (some (.int r)) L h) L h 0 0 2 [(0, .ref v0), (1, .int v1)] [] := by
  intro n
  induction n with
  | zero => intro v0 v1 hf; exact absurd hf (by simp [f_X2_looksMirrored_L2])
  | succ n ih =>
    intro v0 v1 hf
    unfold f_X2_looksMirrored_L2 at hf
    refine e_iload_n 1 dX2_looksMirrored_2 rfl rfl ?_
    refine e_aload_n 0 dX2_looksMirrored_3 rfl rfl ?_
    obtain ⟨hO1, hf⟩ := e_if hf
    refine e_getI hO1 fc_2_1 lk_RX2_15 dX2_looksMirrored_4 ?_
    refine e_icmp_ge (t := 68) dX2_looksMirrored_7 (by decide) (fun c => ?_) (fun c => ?_)
    · replace hf := e_it c hf
      refine e_sub [] rfl ?_
      exact hk68  hf
    · replace hf := e_ie c hf
      refine e_iconst (v := 0) dX2_looksMirrored_10 (by decide) ?_
      refine e_istore_n (lv' := [(2, .int _), (0, .ref _), (1, .int _)]) dX2_looksMirrored_11 rfl (by decide) rfl ?_
      refine e_sub [1, 2, 0] rfl ?_
      refine m_X2_looksMirrored_L12 hd hk54 ?_ e_fu _ _ _ hf
      · intro w0_7 w1_8 hf
        refine e_iinc (lv' := [(1, .int _), (0, .ref _)]) 1 dX2_looksMirrored_62 rfl (by decide) rfl ?_
        refine e_goto (t := 2) dX2_looksMirrored_65 (by decide) ?_
        refine e_sub [1, 0] rfl ?_
        exact ih _ _ hf
def f_X2_looksMirrored (L : eL) (h : eH) (v0 : Nat) : Option Int32 :=
  f_X2_looksMirrored_L2 L h e_fu (
    some 0) (
    some 1) v0 0
set_option maxRecDepth 100000 in
set_option maxHeartbeats 4000000 in
theorem m_X2_looksMirrored {l : Launch} {d : Nat} {L : eL} {h : eH} {v0 : Nat} {r : Int32} (hd : 2 ≤ d) (hf : f_X2_looksMirrored L h v0 = some r) : e_Met l yX2_looksMirrored cX2_looksMirrored 3 (some .boolean) d 0 0 true L h [.ref v0] (Qx (some (.int r)) L h) := by
  refine e_metl (by decide) (Nat.le_of_ble_eq_true rfl) (lv := [(0, .ref v0)]) rfl ?_
  unfold f_X2_looksMirrored at hf
  refine e_iconst (v := 0) dX2_looksMirrored_0 (by decide) ?_
  refine e_istore_n (lv' := [(1, .int _), (0, .ref _)]) dX2_looksMirrored_1 rfl (by decide) rfl ?_
  refine e_sub [1, 0] rfl ?_
  refine m_X2_looksMirrored_L2 hd ?_ ?_ e_fu _ _ hf
  · intro  hf
    refine e_iconst (v := 0) dX2_looksMirrored_54 (by decide) ?_
    exact e_zret (ty := .boolean) rfl rfl dX2_looksMirrored_55 (qP hf)
  · intro  hf
    refine e_iconst (v := 1) dX2_looksMirrored_68 (by decide) ?_
    exact e_zret (ty := .boolean) rfl rfl dX2_looksMirrored_69 (qP hf)
def f_X10_looks_L4 (L : eL) : Nat → (eH → Nat → Int32 → Option (eH × Int32)) → eH → Nat → Int32 → Int32 → Option (eH × Int32)
  | 0, _, _, _, _, _ => none
  | n + 1, k32, h, v0, v1, v2 =>
    if 4 ≤ v2 then
      k32 h v0 v1
    else
      if isO L v0 10 = true then
      (gR h v0 15).bind fun b2 =>
      if isO L b2 2 = true then
      (f_X2_looksTurned L h b2 v2).bind fun r5 =>
      if r5 = 0 then
        f_X10_looks_L4 L n k32 h v0 v1 (v2 + Int32.ofInt 1)
      else
        f_X10_looks_L4 L n k32 h v0 (v1 ||| (1 <<< (v2 &&& 31))) (v2 + Int32.ofInt 1)
      else none
      else none
set_option maxRecDepth 100000 in
set_option maxHeartbeats 4000000 in
theorem m_X10_looks_L4 {l : Launch} {d : Nat} {L : eL}  {r : eH × Int32} {k32 : eH → Nat → Int32 → Option (eH × Int32)} (hd : 3 ≤ d) (hk32 : ∀ (h : eH) (v0 : Nat) (v1 : Int32), k32 h v0 v1 = some r → E l yX10_looks cX10_looks 3 (some .int) (e_rm d 0 0) 0 0 true L (Qx (some (.int r.2)) L r.1) L h 0 0 32 [(0, .ref v0), (1, .int v1)] []) : ∀ (n : Nat) (h : eH) (v0 : Nat) (v1 : Int32) (v2 : Int32), f_X10_looks_L4 L n k32 h v0 v1 v2 = some r → E l yX10_looks cX10_looks 3 (some .int) (e_rm d 0 0) 0 0 true L (Qx (some (.int r.2)) L r.1) L h 0 0 4 [(0, .ref v0), (1, .int v1), (2, .int v2)] [] := by
  intro n
  induction n with
  | zero => intro h v0 v1 v2 hf; exact absurd hf (by simp [f_X10_looks_L4])
  | succ n ih =>
    intro h v0 v1 v2 hf
    unfold f_X10_looks_L4 at hf
    refine e_iload_n 2 dX10_looks_4 rfl rfl ?_
    refine e_iconst (v := 4) dX10_looks_5 (by decide) ?_
    refine e_icmp_ge (t := 32) dX10_looks_6 (by decide) (fun c => ?_) (fun c => ?_)
    · replace hf := e_it c hf
      refine e_sub [0, 1] rfl ?_
      exact hk32 _ _ _ hf
    · replace hf := e_ie c hf
      refine e_aload_n 0 dX10_looks_9 rfl rfl ?_
      obtain ⟨hO1, hf⟩ := e_if hf
      obtain ⟨b2, hb3, hf⟩ := e_bd hf
      refine e_getR hO1 fc_10_15 lk_RX10_92 dX10_looks_10 hb3 ?_
      refine e_iload_n 2 dX10_looks_13 rfl rfl ?_
      obtain ⟨hO4, hf⟩ := e_if hf
      obtain ⟨r5, hr6, hf⟩ := e_bd hf
      refine e_callV (st := []) ml_RX10_398 k_X2_looksTurned (m_X2_looksTurned (d := d - 1) (by omega) hr6) hO4 ⟨by decide, rfl⟩ rfl rfl (Nat.le_of_ble_eq_true rfl) ⟨by omega, by decide⟩ ⟨Nat.le_refl _, Nat.le_refl _⟩ dX10_looks_14 ?_
      refine e_if_eq (t := 26) dX10_looks_17 (by decide) (fun c => ?_) (fun c => ?_)
      · replace hf := e_it c hf
        refine e_iinc (lv' := [(2, .int _), (0, .ref _), (1, .int _)]) 2 dX10_looks_26 rfl (by decide) rfl ?_
        refine e_goto (t := 4) dX10_looks_29 (by decide) ?_
        refine e_sub [1, 2, 0] rfl ?_
        exact ih _ _ _ _ hf
      · replace hf := e_ie c hf
        refine e_iload_n 1 dX10_looks_20 rfl rfl ?_
        refine e_iconst (v := 1) dX10_looks_21 (by decide) ?_
        refine e_iload_n 2 dX10_looks_22 rfl rfl ?_
        refine e_ishl dX10_looks_23 ?_
        refine e_ior dX10_looks_24 ?_
        refine e_istore_n (lv' := [(1, .int _), (0, .ref _), (2, .int _)]) dX10_looks_25 rfl (by decide) rfl ?_
        refine e_iinc (lv' := [(2, .int _), (1, .int _), (0, .ref _)]) 2 dX10_looks_26 rfl (by decide) rfl ?_
        refine e_goto (t := 4) dX10_looks_29 (by decide) ?_
        refine e_sub [2, 1, 0] rfl ?_
        exact ih _ _ _ _ hf
def f_X10_looks (L : eL) (h : eH) (v0 : Nat) : Option (eH × Int32) :=
  f_X10_looks_L4 L e_fu (fun (h7 : eH) (w0_8 : Nat) (w1_9 : Int32) =>
    if isO L w0_8 10 = true then
    (gR h7 w0_8 1).bind fun b11 =>
    if isO L b11 3 = true then
    (f_X3_begin L h7 b11).bind fun r14 =>
    (gR r14 w0_8 1).bind fun b16 =>
    if isO L b16 3 = true then
    (f_X3_add L r14 b16 ((f_J6_bitCount_0f7a4 w1_9).toInt64)).bind fun r19 =>
    (gR r19 w0_8 1).bind fun b21 =>
    (gR r19 w0_8 15).bind fun b23 =>
    if isO L b23 2 = true then
    (f_X2_looksMirrored L r19 b23).bind fun r26 =>
    if isO L b21 3 = true then
    (f_X3_add L r19 b21 ((f_X10_oneIf r26).toInt64)).bind fun r29 =>
    some (r29, w1_9)
    else none
    else none
    else none
    else none
    else none) h v0 0 1
set_option maxRecDepth 100000 in
set_option maxHeartbeats 4000000 in
theorem m_X10_looks {l : Launch} {d : Nat} {L : eL} {h : eH} {v0 : Nat} {r : eH × Int32} (hd : 3 ≤ d) (hf : f_X10_looks L h v0 = some r) : e_Met l yX10_looks cX10_looks 3 (some .int) d 0 0 true L h [.ref v0] (Qx (some (.int r.2)) L r.1) := by
  refine e_metl (by decide) (Nat.le_of_ble_eq_true rfl) (lv := [(0, .ref v0)]) rfl ?_
  unfold f_X10_looks at hf
  refine e_iconst (v := 0) dX10_looks_0 (by decide) ?_
  refine e_istore_n (lv' := [(1, .int _), (0, .ref _)]) dX10_looks_1 rfl (by decide) rfl ?_
  refine e_iconst (v := 1) dX10_looks_2 (by decide) ?_
  refine e_istore_n (lv' := [(2, .int _), (1, .int _), (0, .ref _)]) dX10_looks_3 rfl (by decide) rfl ?_
  refine e_sub [2, 1, 0] rfl ?_
  refine m_X10_looks_L4 hd ?_ e_fu _ _ _ _ hf
  · intro h7 w0_8 w1_9 hf
    refine e_aload_n 0 dX10_looks_32 rfl rfl ?_
    obtain ⟨hO10, hf⟩ := e_if hf
    obtain ⟨b11, hb12, hf⟩ := e_bd hf
    refine e_getR hO10 fc_10_1 lk_RX10_19 dX10_looks_33 hb12 ?_
    obtain ⟨hO13, hf⟩ := e_if hf
    obtain ⟨r14, hr15, hf⟩ := e_bd hf
    refine e_callV (st := []) ml_RX10_267 k_X3_begin (m_X3_begin (d := d - 1) (by omega) hr15) hO13 ⟨by decide, rfl⟩ rfl rfl (Nat.le_of_ble_eq_true rfl) ⟨by omega, by decide⟩ ⟨Nat.le_refl _, Nat.le_refl _⟩ dX10_looks_36 ?_
    refine e_aload_n 0 dX10_looks_39 rfl rfl ?_
    obtain ⟨b16, hb17, hf⟩ := e_bd hf
    refine e_getR hO10 fc_10_1 lk_RX10_19 dX10_looks_40 hb17 ?_
    refine e_iload_n 1 dX10_looks_43 rfl rfl ?_
    refine e_callS (st := [.ref _]) ml_RX10_391 k_J6_bitCount_0f7a4 (m_J6_bitCount_0f7a4 (d := d - 1) (by omega) rfl) rfl rfl (Nat.le_of_ble_eq_true rfl) ⟨by omega, by decide⟩ ⟨Nat.le_refl _, Nat.le_refl _⟩ dX10_looks_44 ?_
    refine e_i2l dX10_looks_47 ?_
    obtain ⟨hO18, hf⟩ := e_if hf
    obtain ⟨r19, hr20, hf⟩ := e_bd hf
    refine e_callV (st := []) ml_RX10_269 k_X3_add (m_X3_add (d := d - 1) (by omega) hr20) hO18 ⟨by decide, rfl⟩ rfl rfl (Nat.le_of_ble_eq_true rfl) ⟨by omega, by decide⟩ ⟨Nat.le_refl _, Nat.le_refl _⟩ dX10_looks_48 ?_
    refine e_aload_n 0 dX10_looks_51 rfl rfl ?_
    obtain ⟨b21, hb22, hf⟩ := e_bd hf
    refine e_getR hO10 fc_10_1 lk_RX10_19 dX10_looks_52 hb22 ?_
    refine e_aload_n 0 dX10_looks_55 rfl rfl ?_
    obtain ⟨b23, hb24, hf⟩ := e_bd hf
    refine e_getR hO10 fc_10_15 lk_RX10_92 dX10_looks_56 hb24 ?_
    obtain ⟨hO25, hf⟩ := e_if hf
    obtain ⟨r26, hr27, hf⟩ := e_bd hf
    refine e_callV (st := [.ref _]) ml_RX10_401 k_X2_looksMirrored (m_X2_looksMirrored (d := d - 1) (by omega) hr27) hO25 ⟨by decide, rfl⟩ rfl rfl (Nat.le_of_ble_eq_true rfl) ⟨by omega, by decide⟩ ⟨Nat.le_refl _, Nat.le_refl _⟩ dX10_looks_59 ?_
    refine e_callS (st := [.ref _]) ml_RX10_173 k_X10_oneIf (m_X10_oneIf (d := d - 1) (by omega) rfl) rfl rfl (Nat.le_of_ble_eq_true rfl) ⟨by omega, by decide⟩ ⟨Nat.le_refl _, Nat.le_refl _⟩ dX10_looks_62 ?_
    refine e_i2l dX10_looks_65 ?_
    obtain ⟨hO28, hf⟩ := e_if hf
    obtain ⟨r29, hr30, hf⟩ := e_bd hf
    refine e_callV (st := []) ml_RX10_269 k_X3_add (m_X3_add (d := d - 1) (by omega) hr30) hO28 ⟨by decide, rfl⟩ rfl rfl (Nat.le_of_ble_eq_true rfl) ⟨by omega, by decide⟩ ⟨Nat.le_refl _, Nat.le_refl _⟩ dX10_looks_66 ?_
    refine e_iload_n 1 dX10_looks_69 rfl rfl ?_
    exact e_iret rfl dX10_looks_70 (qW hf)
def f_X6_dusty_L4 (L : eL) (h : eH) : Nat → (Int64 → Option Int64) → Nat → Int64 → Int32 → Option Int64
  | 0, _, _, _, _ => none
  | n + 1, k36, v0, v1, v3 =>
    if 36 ≤ v3 then
      k36 v1
    else
      if isO L v0 6 = true then
      (gR h v0 0).bind fun b2 =>
      if inA L b2 0 v3 = true then
      if (gI h b2 v3.toNatClampNeg) ≤ 0 then
        f_X6_dusty_L4 L h n k36 v0 (v1 ||| 0) (v3 + Int32.ofInt 1)
      else
        f_X6_dusty_L4 L h n k36 v0 (v1 ||| (f_X10_bit v3)) (v3 + Int32.ofInt 1)
      else none
      else none
set_option maxRecDepth 100000 in
set_option maxHeartbeats 4000000 in
theorem m_X6_dusty_L4 {l : Launch} {d : Nat} {L : eL} {h : eH} {r : Int64} {k36 : Int64 → Option Int64} (hd : 2 ≤ d) (hk36 : ∀ (v1 : Int64), k36 v1 = some r → E l yX6_dusty cX6_dusty 4 (some .long) (e_rm d 0 0) 0 0 true L (Qx (some (.long r)) L h) L h 0 0 36 [(1, .long v1)] []) : ∀ (n : Nat) (v0 : Nat) (v1 : Int64) (v3 : Int32), f_X6_dusty_L4 L h n k36 v0 v1 v3 = some r → E l yX6_dusty cX6_dusty 4 (some .long) (e_rm d 0 0) 0 0 true L (Qx (some (.long r)) L h) L h 0 0 4 [(0, .ref v0), (1, .long v1), (3, .int v3)] [] := by
  intro n
  induction n with
  | zero => intro v0 v1 v3 hf; exact absurd hf (by simp [f_X6_dusty_L4])
  | succ n ih =>
    intro v0 v1 v3 hf
    unfold f_X6_dusty_L4 at hf
    refine e_iload_n 2 dX6_dusty_4 rfl rfl ?_
    refine e_bipush (v := 36) dX6_dusty_5 (by decide) ?_
    refine e_icmp_ge (t := 36) dX6_dusty_7 (by decide) (fun c => ?_) (fun c => ?_)
    · replace hf := e_it c hf
      refine e_sub [1] rfl ?_
      exact hk36 _ hf
    · replace hf := e_ie c hf
      refine e_lload_n 1 dX6_dusty_10 rfl rfl ?_
      refine e_aload_n 0 dX6_dusty_11 rfl rfl ?_
      obtain ⟨hO1, hf⟩ := e_if hf
      obtain ⟨b2, hb3, hf⟩ := e_bd hf
      refine e_getR hO1 fc_6_0 lk_RX6_9 dX6_dusty_12 hb3 ?_
      refine e_iload_n 2 dX6_dusty_15 rfl rfl ?_
      obtain ⟨hI4, hf⟩ := e_if hf
      refine e_iald hI4 dX6_dusty_16 ?_
      refine e_if_le (t := 27) dX6_dusty_17 (by decide) (fun c => ?_) (fun c => ?_)
      · replace hf := e_it c hf
        refine e_lconst (v := 0) dX6_dusty_27 (by decide) ?_
        refine e_lor dX6_dusty_28 ?_
        refine e_lstore_n (lv' := [(1, .long _), (0, .ref _), (3, .int _)]) dX6_dusty_29 rfl (by decide) rfl ?_
        refine e_iinc (lv' := [(3, .int _), (1, .long _), (0, .ref _)]) 2 dX6_dusty_30 rfl (by decide) rfl ?_
        refine e_goto (t := 4) dX6_dusty_33 (by decide) ?_
        refine e_sub [2, 1, 0] rfl ?_
        exact ih _ _ _ hf
      · replace hf := e_ie c hf
        refine e_iload_n 2 dX6_dusty_20 rfl rfl ?_
        refine e_callSN (st := [.long _]) ml_RX6_65 k_X10_bit (m_X10_bit (d := d - 1) (by omega) rfl) rfl rfl (Nat.le_of_ble_eq_true rfl) ⟨by omega, by decide⟩ ⟨Nat.le_refl _, Nat.le_refl _⟩ dX6_dusty_21 ?_
        refine e_goto (t := 28) dX6_dusty_24 (by decide) ?_
        refine e_lor dX6_dusty_28 ?_
        refine e_lstore_n (lv' := [(1, .long _), (0, .ref _), (3, .int _)]) dX6_dusty_29 rfl (by decide) rfl ?_
        refine e_iinc (lv' := [(3, .int _), (1, .long _), (0, .ref _)]) 2 dX6_dusty_30 rfl (by decide) rfl ?_
        refine e_goto (t := 4) dX6_dusty_33 (by decide) ?_
        refine e_sub [2, 1, 0] rfl ?_
        exact ih _ _ _ hf
def f_X6_dusty (L : eL) (h : eH) (v0 : Nat) : Option Int64 :=
  f_X6_dusty_L4 L h e_fu (fun (w1_5 : Int64) =>
    some w1_5) v0 0 0
set_option maxRecDepth 100000 in
set_option maxHeartbeats 4000000 in
theorem m_X6_dusty {l : Launch} {d : Nat} {L : eL} {h : eH} {v0 : Nat} {r : Int64} (hd : 2 ≤ d) (hf : f_X6_dusty L h v0 = some r) : e_Met l yX6_dusty cX6_dusty 4 (some .long) d 0 0 true L h [.ref v0] (Qx (some (.long r)) L h) := by
  refine e_metl (by decide) (Nat.le_of_ble_eq_true rfl) (lv := [(0, .ref v0)]) rfl ?_
  unfold f_X6_dusty at hf
  refine e_lconst (v := 0) dX6_dusty_0 (by decide) ?_
  refine e_lstore_n (lv' := [(1, .long _), (0, .ref _)]) dX6_dusty_1 rfl (by decide) rfl ?_
  refine e_iconst (v := 0) dX6_dusty_2 (by decide) ?_
  refine e_istore_n (lv' := [(3, .int _), (1, .long _), (0, .ref _)]) dX6_dusty_3 rfl (by decide) rfl ?_
  refine e_sub [2, 1, 0] rfl ?_
  refine m_X6_dusty_L4 hd ?_ e_fu _ _ _ hf
  · intro w1_5 hf
    refine e_lload_n 0 dX6_dusty_36 rfl rfl ?_
    exact e_lret rfl dX6_dusty_37 (qPL hf)
def f_X10_countSums_L57 (L : eL) : Nat → (eH → Nat → Int64 → Int32 → Int32 → Option eH) → eH → Nat → Int64 → Int32 → Int32 → Int32 → Int32 → Option eH
  | 0, _, _, _, _, _, _, _, _ => none
  | n + 1, k95, h, v0, v1, v3, v4, v5, v6 =>
    if v6 < v5 then
      k95 h v0 v1 v3 v4
    else
      if v5 ≤ 0 then
        k95 h v0 v1 v3 v4
      else
        if isO L v0 10 = true then
        (gR h v0 11).bind fun b16 =>
        if inA L b16 0 v6 = true then
        (gR h v0 11).bind fun b19 =>
        if inA L b19 0 (v6 - v5) = true then
        (some (sI h b16 v6.toNatClampNeg ((gI h b16 v6.toNatClampNeg) + (gI h b19 (v6 - v5).toNatClampNeg)))).bind fun h22 =>
        f_X10_countSums_L57 L n k95 h22 v0 v1 v3 v4 v5 (v6 + Int32.ofInt (-1))
        else none
        else none
        else none
set_option maxRecDepth 100000 in
set_option maxHeartbeats 4000000 in
theorem m_X10_countSums_L57 {l : Launch} {d : Nat} {L : eL}  {r : eH} {k95 : eH → Nat → Int64 → Int32 → Int32 → Option eH} (hd : 3 ≤ d) (hk95 : ∀ (h : eH) (v0 : Nat) (v1 : Int64) (v3 : Int32) (v4 : Int32), k95 h v0 v1 v3 v4 = some r → E l yX10_countSums cX10_countSums 7 none (e_rm d 0 0) 0 0 true L (Qx none L r) L h 0 0 95 [(0, .ref v0), (1, .long v1), (3, .int v3), (4, .int v4)] []) : ∀ (n : Nat) (h : eH) (v0 : Nat) (v1 : Int64) (v3 : Int32) (v4 : Int32) (v5 : Int32) (v6 : Int32), f_X10_countSums_L57 L n k95 h v0 v1 v3 v4 v5 v6 = some r → E l yX10_countSums cX10_countSums 7 none (e_rm d 0 0) 0 0 true L (Qx none L r) L h 0 0 57 [(0, .ref v0), (1, .long v1), (3, .int v3), (4, .int v4), (5, .int v5), (6, .int v6)] [] := by
  intro n
  induction n with
  | zero => intro h v0 v1 v3 v4 v5 v6 hf; exact absurd hf (by simp [f_X10_countSums_L57])
  | succ n ih =>
    intro h v0 v1 v3 v4 v5 v6 hf
    unfold f_X10_countSums_L57 at hf
    refine e_iload 5 dX10_countSums_57 rfl ?_
    refine e_iload 4 dX10_countSums_59 rfl ?_
    refine e_icmp_lt (t := 95) dX10_countSums_61 (by decide) (fun c => ?_) (fun c => ?_)
    · replace hf := e_it c hf
      refine e_sub [0, 1, 2, 3] rfl ?_
      exact hk95 _ _ _ _ _ hf
    · replace hf := e_ie c hf
      refine e_iload 4 dX10_countSums_64 rfl ?_
      refine e_if_le (t := 95) dX10_countSums_66 (by decide) (fun c => ?_) (fun c => ?_)
      · replace hf := e_it c hf
        refine e_sub [0, 1, 2, 3] rfl ?_
        exact hk95 _ _ _ _ _ hf
      · replace hf := e_ie c hf
        refine e_aload_n 0 dX10_countSums_69 rfl rfl ?_
        obtain ⟨hO15, hf⟩ := e_if hf
        obtain ⟨b16, hb17, hf⟩ := e_bd hf
        refine e_getR hO15 fc_10_11 lk_RX10_75 dX10_countSums_70 hb17 ?_
        refine e_iload 5 dX10_countSums_73 rfl ?_
        refine e_dup2 dX10_countSums_75 ?_
        obtain ⟨hI18, hf⟩ := e_if hf
        refine e_iald hI18 dX10_countSums_76 ?_
        refine e_aload_n 0 dX10_countSums_77 rfl rfl ?_
        obtain ⟨b19, hb20, hf⟩ := e_bd hf
        refine e_getR hO15 fc_10_11 lk_RX10_75 dX10_countSums_78 hb20 ?_
        refine e_iload 5 dX10_countSums_81 rfl ?_
        refine e_iload 4 dX10_countSums_83 rfl ?_
        refine e_isub dX10_countSums_85 ?_
        obtain ⟨hI21, hf⟩ := e_if hf
        refine e_iald hI21 dX10_countSums_86 ?_
        refine e_iadd dX10_countSums_87 ?_
        refine e_iast hI18 dX10_countSums_88 ?_
        obtain ⟨h22, hh23, hf⟩ := e_bd hf
        refine e_hn hh23 ?_
        refine e_iinc (lv' := [(6, .int _), (0, .ref _), (1, .long _), (3, .int _), (4, .int _), (5, .int _)]) 5 dX10_countSums_89 rfl (by decide) rfl ?_
        refine e_goto (t := 57) dX10_countSums_92 (by decide) ?_
        refine e_sub [1, 2, 3, 4, 5, 0] rfl ?_
        exact ih _ _ _ _ _ _ _ hf
def f_X10_countSums_L18 (L : eL) : Nat → (eH → Option eH) → eH → Nat → Int64 → Int32 → Int32 → Option eH
  | 0, _, _, _, _, _, _ => none
  | n + 1, k101, h, v0, v1, v3, v4 =>
    if 36 ≤ v4 then
      k101 h
    else
      if (f_X10_holds v1 v4) = 0 then
        f_X10_countSums_L18 L n k101 h v0 v1 v3 (v4 + Int32.ofInt 1)
      else
        if isO L v0 10 = true then
        (gR h v0 7).bind fun b10 =>
        if isO L b10 6 = true then
        (f_X6_dustAt L h b10 v4).bind fun r13 =>
        f_X10_countSums_L57 L e_fu (fun (h24 : eH) (w0_25 : Nat) (w1_26 : Int64) (w3_27 : Int32) (w4_28 : Int32) =>
          f_X10_countSums_L18 L n k101 h24 w0_25 w1_26 w3_27 (w4_28 + Int32.ofInt 1)) h v0 v1 v3 v4 r13 (mnI v3 999)
        else none
        else none
set_option maxRecDepth 100000 in
set_option maxHeartbeats 4000000 in
theorem m_X10_countSums_L18 {l : Launch} {d : Nat} {L : eL}  {r : eH} {k101 : eH → Option eH} (hd : 3 ≤ d) (hk101 : ∀ (h : eH), k101 h = some r → E l yX10_countSums cX10_countSums 7 none (e_rm d 0 0) 0 0 true L (Qx none L r) L h 0 0 101 [] []) : ∀ (n : Nat) (h : eH) (v0 : Nat) (v1 : Int64) (v3 : Int32) (v4 : Int32), f_X10_countSums_L18 L n k101 h v0 v1 v3 v4 = some r → E l yX10_countSums cX10_countSums 7 none (e_rm d 0 0) 0 0 true L (Qx none L r) L h 0 0 18 [(0, .ref v0), (1, .long v1), (3, .int v3), (4, .int v4)] [] := by
  intro n
  induction n with
  | zero => intro h v0 v1 v3 v4 hf; exact absurd hf (by simp [f_X10_countSums_L18])
  | succ n ih =>
    intro h v0 v1 v3 v4 hf
    unfold f_X10_countSums_L18 at hf
    refine e_iload 3 dX10_countSums_18 rfl ?_
    refine e_bipush (v := 36) dX10_countSums_20 (by decide) ?_
    refine e_icmp_ge (t := 101) dX10_countSums_22 (by decide) (fun c => ?_) (fun c => ?_)
    · replace hf := e_it c hf
      refine e_sub [] rfl ?_
      exact hk101 _ hf
    · replace hf := e_ie c hf
      refine e_lload_n 1 dX10_countSums_25 rfl rfl ?_
      refine e_iload 3 dX10_countSums_26 rfl ?_
      refine e_callS (st := []) ml_RX10_169 k_X10_holds (m_X10_holds (d := d - 1) (by omega) rfl) rfl rfl (Nat.le_of_ble_eq_true rfl) ⟨by omega, by decide⟩ ⟨Nat.le_refl _, Nat.le_refl _⟩ dX10_countSums_28 ?_
      refine e_if_ne (t := 37) dX10_countSums_31 (by decide) (fun c => ?_) (fun c => ?_)
      · replace hf := e_ie c hf
        refine e_aload_n 0 dX10_countSums_37 rfl rfl ?_
        obtain ⟨hO9, hf⟩ := e_if hf
        obtain ⟨b10, hb11, hf⟩ := e_bd hf
        refine e_getR hO9 fc_10_7 lk_RX10_61 dX10_countSums_38 hb11 ?_
        refine e_iload 3 dX10_countSums_41 rfl ?_
        obtain ⟨hO12, hf⟩ := e_if hf
        obtain ⟨r13, hr14, hf⟩ := e_bd hf
        refine e_callV (st := []) ml_RX10_177 k_X6_dustAt (m_X6_dustAt (d := d - 1) (by omega) hr14) hO12 ⟨by decide, rfl⟩ rfl rfl (Nat.le_of_ble_eq_true rfl) ⟨by omega, by decide⟩ ⟨Nat.le_refl _, Nat.le_refl _⟩ dX10_countSums_43 ?_
        refine e_istore (lv' := [(5, .int _), (0, .ref _), (1, .long _), (3, .int _), (4, .int _)]) dX10_countSums_46 (by decide) rfl ?_
        refine e_iload_n 3 dX10_countSums_48 rfl rfl ?_
        refine e_sipush (v := 999) dX10_countSums_49 (by decide) ?_
        refine e_mn ml_RX10_293 (by omega) (Nat.le_of_ble_eq_true rfl) ⟨Nat.le_refl _, Nat.le_refl _⟩ dX10_countSums_52 ?_
        refine e_istore (lv' := [(6, .int _), (5, .int _), (0, .ref _), (1, .long _), (3, .int _), (4, .int _)]) dX10_countSums_55 (by decide) rfl ?_
        refine e_sub [2, 3, 4, 5, 1, 0] rfl ?_
        refine m_X10_countSums_L57 hd ?_ e_fu _ _ _ _ _ _ _ hf
        · intro h24 w0_25 w1_26 w3_27 w4_28 hf
          refine e_iinc (lv' := [(4, .int _), (0, .ref _), (1, .long _), (3, .int _)]) 3 dX10_countSums_95 rfl (by decide) rfl ?_
          refine e_goto (t := 18) dX10_countSums_98 (by decide) ?_
          refine e_sub [1, 2, 3, 0] rfl ?_
          exact ih _ _ _ _ _ hf
      · replace hf := e_it c hf
        refine e_goto (t := 95) dX10_countSums_34 (by decide) ?_
        refine e_iinc (lv' := [(4, .int _), (0, .ref _), (1, .long _), (3, .int _)]) 3 dX10_countSums_95 rfl (by decide) rfl ?_
        refine e_goto (t := 18) dX10_countSums_98 (by decide) ?_
        refine e_sub [1, 2, 3, 0] rfl ?_
        exact ih _ _ _ _ _ hf
def f_X10_countSums (L : eL) (h : eH) (v0 : Nat) (v1 : Int64) (v3 : Int32) : Option eH :=
  if isO L v0 10 = true then
  (gR h v0 11).bind fun b2 =>
  (f_J7_fill_53178 L h b2 0).bind fun r4 =>
  (gR r4 v0 11).bind fun b6 =>
  if inA L b6 0 0 = true then
  f_X10_countSums_L18 L e_fu (fun (h29 : eH) =>
    some h29) (sI r4 b6 (0 : Int32).toNatClampNeg 1) v0 v1 v3 0
  else none
  else none
set_option maxRecDepth 100000 in
set_option maxHeartbeats 4000000 in
theorem m_X10_countSums {l : Launch} {d : Nat} {L : eL} {h : eH} {v0 : Nat} {v1 : Int64} {v3 : Int32} {r : eH} (hd : 3 ≤ d) (hf : f_X10_countSums L h v0 v1 v3 = some r) : e_Met l yX10_countSums cX10_countSums 7 none d 0 0 true L h [.ref v0, .long v1, .int v3] (Qx none L r) := by
  refine e_metl (by decide) (Nat.le_of_ble_eq_true rfl) (lv := [(0, .ref v0), (1, .long v1), (3, .int v3)]) rfl ?_
  unfold f_X10_countSums at hf
  refine e_aload_n 0 dX10_countSums_0 rfl rfl ?_
  obtain ⟨hO1, hf⟩ := e_if hf
  obtain ⟨b2, hb3, hf⟩ := e_bd hf
  refine e_getR hO1 fc_10_11 lk_RX10_75 dX10_countSums_1 hb3 ?_
  refine e_iconst (v := 0) dX10_countSums_4 (by decide) ?_
  obtain ⟨r4, hr5, hf⟩ := e_bd hf
  refine e_callS (st := []) ml_RX10_321 k_J7_fill_53178 (m_J7_fill_53178 (d := d - 1) (by omega) hr5) rfl rfl (Nat.le_of_ble_eq_true rfl) ⟨by omega, by decide⟩ ⟨Nat.le_refl _, Nat.le_refl _⟩ dX10_countSums_5 ?_
  refine e_aload_n 0 dX10_countSums_8 rfl rfl ?_
  obtain ⟨b6, hb7, hf⟩ := e_bd hf
  refine e_getR hO1 fc_10_11 lk_RX10_75 dX10_countSums_9 hb7 ?_
  refine e_iconst (v := 0) dX10_countSums_12 (by decide) ?_
  refine e_iconst (v := 1) dX10_countSums_13 (by decide) ?_
  obtain ⟨hI8, hf⟩ := e_if hf
  refine e_iast hI8 dX10_countSums_14 ?_
  refine e_iconst (v := 0) dX10_countSums_15 (by decide) ?_
  refine e_istore (lv' := [(4, .int _), (0, .ref _), (1, .long _), (3, .int _)]) dX10_countSums_16 (by decide) rfl ?_
  refine e_sub [1, 2, 3, 0] rfl ?_
  refine m_X10_countSums_L18 hd ?_ e_fu _ _ _ _ _ hf
  · intro h29 hf
    exact e_vret rfl dX10_countSums_101 (qV hf)
def f_X10_sumsWithout_L8 (L : eL) (h : eH) : Nat → (Int32 → Option Int32) → Nat → Int32 → Int32 → Int32 → Int32 → Option Int32
  | 0, _, _, _, _, _, _ => none
  | n + 1, k52, v0, v1, v3, v4, v5 =>
    if v5 < 0 then
      k52 v3
    else
      if 999 < v5 then
        k52 v3
      else
        if v1 ≤ 0 then
          k52 v3
        else
          if isO L v0 10 = true then
          (gR h v0 11).bind fun b2 =>
          if inA L b2 0 v5 = true then
          f_X10_sumsWithout_L8 L h n k52 v0 v1 (v3 + (v4 * (gI h b2 v5.toNatClampNeg))) (-v4) (v5 - v1)
          else none
          else none
set_option maxRecDepth 100000 in
set_option maxHeartbeats 4000000 in
theorem m_X10_sumsWithout_L8 {l : Launch} {d : Nat} {L : eL} {h : eH} {r : Int32} {k52 : Int32 → Option Int32} (hd : 1 ≤ d) (hk52 : ∀ (v3 : Int32), k52 v3 = some r → E l yX10_sumsWithout cX10_sumsWithout 6 (some .int) (e_rm d 0 0) 0 0 true L (Qx (some (.int r)) L h) L h 0 0 52 [(3, .int v3)] []) : ∀ (n : Nat) (v0 : Nat) (v1 : Int32) (v3 : Int32) (v4 : Int32) (v5 : Int32), f_X10_sumsWithout_L8 L h n k52 v0 v1 v3 v4 v5 = some r → E l yX10_sumsWithout cX10_sumsWithout 6 (some .int) (e_rm d 0 0) 0 0 true L (Qx (some (.int r)) L h) L h 0 0 8 [(0, .ref v0), (1, .int v1), (3, .int v3), (4, .int v4), (5, .int v5)] [] := by
  intro n
  induction n with
  | zero => intro v0 v1 v3 v4 v5 hf; exact absurd hf (by simp [f_X10_sumsWithout_L8])
  | succ n ih =>
    intro v0 v1 v3 v4 v5 hf
    unfold f_X10_sumsWithout_L8 at hf
    refine e_iload 4 dX10_sumsWithout_8 rfl ?_
    refine e_if_lt (t := 52) dX10_sumsWithout_10 (by decide) (fun c => ?_) (fun c => ?_)
    · replace hf := e_it c hf
      refine e_sub [2] rfl ?_
      exact hk52 _ hf
    · replace hf := e_ie c hf
      refine e_iload 4 dX10_sumsWithout_13 rfl ?_
      refine e_sipush (v := 999) dX10_sumsWithout_15 (by decide) ?_
      refine e_icmp_gt (t := 52) dX10_sumsWithout_18 (by decide) (fun c => ?_) (fun c => ?_)
      · replace hf := e_it c hf
        refine e_sub [2] rfl ?_
        exact hk52 _ hf
      · replace hf := e_ie c hf
        refine e_iload_n 1 dX10_sumsWithout_21 rfl rfl ?_
        refine e_if_le (t := 52) dX10_sumsWithout_22 (by decide) (fun c => ?_) (fun c => ?_)
        · replace hf := e_it c hf
          refine e_sub [2] rfl ?_
          exact hk52 _ hf
        · replace hf := e_ie c hf
          refine e_iload_n 2 dX10_sumsWithout_25 rfl rfl ?_
          refine e_iload 3 dX10_sumsWithout_26 rfl ?_
          refine e_aload_n 0 dX10_sumsWithout_28 rfl rfl ?_
          obtain ⟨hO1, hf⟩ := e_if hf
          obtain ⟨b2, hb3, hf⟩ := e_bd hf
          refine e_getR hO1 fc_10_11 lk_RX10_75 dX10_sumsWithout_29 hb3 ?_
          refine e_iload 4 dX10_sumsWithout_32 rfl ?_
          obtain ⟨hI4, hf⟩ := e_if hf
          refine e_iald hI4 dX10_sumsWithout_34 ?_
          refine e_imul dX10_sumsWithout_35 ?_
          refine e_iadd dX10_sumsWithout_36 ?_
          refine e_istore_n (lv' := [(3, .int _), (0, .ref _), (1, .int _), (4, .int _), (5, .int _)]) dX10_sumsWithout_37 rfl (by decide) rfl ?_
          refine e_iload 3 dX10_sumsWithout_38 rfl ?_
          refine e_ineg dX10_sumsWithout_40 ?_
          refine e_istore (lv' := [(4, .int _), (3, .int _), (0, .ref _), (1, .int _), (5, .int _)]) dX10_sumsWithout_41 (by decide) rfl ?_
          refine e_iload 4 dX10_sumsWithout_43 rfl ?_
          refine e_iload_n 3 dX10_sumsWithout_45 rfl rfl ?_
          refine e_isub dX10_sumsWithout_46 ?_
          refine e_istore (lv' := [(5, .int _), (4, .int _), (3, .int _), (0, .ref _), (1, .int _)]) dX10_sumsWithout_47 (by decide) rfl ?_
          refine e_goto (t := 8) dX10_sumsWithout_49 (by decide) ?_
          refine e_sub [3, 4, 2, 1, 0] rfl ?_
          exact ih _ _ _ _ _ hf
def f_X10_sumsWithout (L : eL) (h : eH) (v0 : Nat) (v1 : Int32) (v2 : Int32) : Option Int32 :=
  f_X10_sumsWithout_L8 L h e_fu (fun (w3_5 : Int32) =>
    some w3_5) v0 v1 0 1 v2
set_option maxRecDepth 100000 in
set_option maxHeartbeats 4000000 in
theorem m_X10_sumsWithout {l : Launch} {d : Nat} {L : eL} {h : eH} {v0 : Nat} {v1 : Int32} {v2 : Int32} {r : Int32} (hd : 1 ≤ d) (hf : f_X10_sumsWithout L h v0 v1 v2 = some r) : e_Met l yX10_sumsWithout cX10_sumsWithout 6 (some .int) d 0 0 true L h [.ref v0, .int v1, .int v2] (Qx (some (.int r)) L h) := by
  refine e_metl (by decide) (Nat.le_of_ble_eq_true rfl) (lv := [(0, .ref v0), (1, .int v1), (2, .int v2)]) rfl ?_
  unfold f_X10_sumsWithout at hf
  refine e_iconst (v := 0) dX10_sumsWithout_0 (by decide) ?_
  refine e_istore_n (lv' := [(3, .int _), (0, .ref _), (1, .int _), (2, .int _)]) dX10_sumsWithout_1 rfl (by decide) rfl ?_
  refine e_iconst (v := 1) dX10_sumsWithout_2 (by decide) ?_
  refine e_istore (lv' := [(4, .int _), (3, .int _), (0, .ref _), (1, .int _), (2, .int _)]) dX10_sumsWithout_3 (by decide) rfl ?_
  refine e_iload_n 4 dX10_sumsWithout_5 rfl rfl ?_
  refine e_istore (lv' := [(5, .int _), (4, .int _), (3, .int _), (0, .ref _), (1, .int _), (2, .int _)]) dX10_sumsWithout_6 (by decide) rfl ?_
  refine e_sub [3, 4, 2, 1, 0] rfl ?_
  refine m_X10_sumsWithout_L8 hd ?_ e_fu _ _ _ _ _ hf
  · intro w3_5 hf
    refine e_iload_n 0 dX10_sumsWithout_52 rfl rfl ?_
    exact e_iret rfl dX10_sumsWithout_53 (qP hf)
def f_X10_box_L45 (L : eL) : Nat → (eH → Nat → Int32 → Int64 → Option (eH × Int32)) → eH → Nat → Int32 → Int64 → Int64 → Int32 → Option (eH × Int32)
  | 0, _, _, _, _, _, _, _ => none
  | n + 1, k103, h, v0, v1, v2, v4, v6 =>
    if 36 ≤ v6 then
      k103 h v0 v1 v4
    else
      if isO L v0 10 = true then
      (gR h v0 11).bind fun b10 =>
      if inA L b10 0 v1 = true then
      if (gI h b10 v1.toNatClampNeg) ≤ 0 then
        k103 h v0 v1 v4
      else
        if (f_X10_holds v2 v6) = 0 then
          f_X10_box_L45 L n k103 h v0 v1 v2 v4 (v6 + Int32.ofInt 1)
        else
          (gR h v0 7).bind fun b13 =>
          if isO L b13 6 = true then
          (f_X6_dustAt L h b13 v6).bind fun r16 =>
          (f_X10_sumsWithout L h v0 r16 v1).bind fun r18 =>
          if r18 = 0 then
            f_X10_box_L45 L n k103 h v0 v1 v2 (v4 ||| (f_X10_bit v6)) (v6 + Int32.ofInt 1)
          else
            f_X10_box_L45 L n k103 h v0 v1 v2 v4 (v6 + Int32.ofInt 1)
          else none
      else none
      else none
set_option maxRecDepth 100000 in
set_option maxHeartbeats 4000000 in
theorem m_X10_box_L45 {l : Launch} {d : Nat} {L : eL}  {r : eH × Int32} {k103 : eH → Nat → Int32 → Int64 → Option (eH × Int32)} (hd : 4 ≤ d) (hk103 : ∀ (h : eH) (v0 : Nat) (v1 : Int32) (v4 : Int64), k103 h v0 v1 v4 = some r → E l yX10_box cX10_box 7 (some .int) (e_rm d 0 0) 0 0 true L (Qx (some (.int r.2)) L r.1) L h 0 0 103 [(0, .ref v0), (1, .int v1), (4, .long v4)] []) : ∀ (n : Nat) (h : eH) (v0 : Nat) (v1 : Int32) (v2 : Int64) (v4 : Int64) (v6 : Int32), f_X10_box_L45 L n k103 h v0 v1 v2 v4 v6 = some r → E l yX10_box cX10_box 7 (some .int) (e_rm d 0 0) 0 0 true L (Qx (some (.int r.2)) L r.1) L h 0 0 45 [(0, .ref v0), (1, .int v1), (2, .long v2), (4, .long v4), (6, .int v6)] [] := by
  intro n
  induction n with
  | zero => intro h v0 v1 v2 v4 v6 hf; exact absurd hf (by simp [f_X10_box_L45])
  | succ n ih =>
    intro h v0 v1 v2 v4 v6 hf
    unfold f_X10_box_L45 at hf
    refine e_iload 4 dX10_box_45 rfl ?_
    refine e_bipush (v := 36) dX10_box_47 (by decide) ?_
    refine e_icmp_ge (t := 103) dX10_box_49 (by decide) (fun c => ?_) (fun c => ?_)
    · replace hf := e_it c hf
      refine e_sub [0, 1, 3] rfl ?_
      exact hk103 _ _ _ _ hf
    · replace hf := e_ie c hf
      refine e_aload_n 0 dX10_box_52 rfl rfl ?_
      obtain ⟨hO9, hf⟩ := e_if hf
      obtain ⟨b10, hb11, hf⟩ := e_bd hf
      refine e_getR hO9 fc_10_11 lk_RX10_75 dX10_box_53 hb11 ?_
      refine e_iload_n 1 dX10_box_56 rfl rfl ?_
      obtain ⟨hI12, hf⟩ := e_if hf
      refine e_iald hI12 dX10_box_57 ?_
      refine e_if_le (t := 103) dX10_box_58 (by decide) (fun c => ?_) (fun c => ?_)
      · replace hf := e_it c hf
        refine e_sub [0, 1, 3] rfl ?_
        exact hk103 _ _ _ _ hf
      · replace hf := e_ie c hf
        refine e_lload_n 2 dX10_box_61 rfl rfl ?_
        refine e_iload 4 dX10_box_62 rfl ?_
        refine e_callS (st := []) ml_RX10_169 k_X10_holds (m_X10_holds (d := d - 1) (by omega) rfl) rfl rfl (Nat.le_of_ble_eq_true rfl) ⟨by omega, by decide⟩ ⟨Nat.le_refl _, Nat.le_refl _⟩ dX10_box_64 ?_
        refine e_if_eq (t := 97) dX10_box_67 (by decide) (fun c => ?_) (fun c => ?_)
        · replace hf := e_it c hf
          refine e_iinc (lv' := [(6, .int _), (0, .ref _), (1, .int _), (2, .long _), (4, .long _)]) 4 dX10_box_97 rfl (by decide) rfl ?_
          refine e_goto (t := 45) dX10_box_100 (by decide) ?_
          refine e_sub [1, 2, 3, 4, 0] rfl ?_
          exact ih _ _ _ _ _ _ hf
        · replace hf := e_ie c hf
          refine e_aload_n 0 dX10_box_70 rfl rfl ?_
          refine e_aload_n 0 dX10_box_71 rfl rfl ?_
          obtain ⟨b13, hb14, hf⟩ := e_bd hf
          refine e_getR hO9 fc_10_7 lk_RX10_61 dX10_box_72 hb14 ?_
          refine e_iload 4 dX10_box_75 rfl ?_
          obtain ⟨hO15, hf⟩ := e_if hf
          obtain ⟨r16, hr17, hf⟩ := e_bd hf
          refine e_callV (st := [.ref _]) ml_RX10_177 k_X6_dustAt (m_X6_dustAt (d := d - 1) (by omega) hr17) hO15 ⟨by decide, rfl⟩ rfl rfl (Nat.le_of_ble_eq_true rfl) ⟨by omega, by decide⟩ ⟨Nat.le_refl _, Nat.le_refl _⟩ dX10_box_77 ?_
          refine e_iload_n 1 dX10_box_80 rfl rfl ?_
          obtain ⟨r18, hr19, hf⟩ := e_bd hf
          refine e_callV (st := []) ml_RX10_412 k_X10_sumsWithout (m_X10_sumsWithout (d := d - 1) (by omega) hr19) hO9 ⟨by decide, rfl⟩ rfl rfl (Nat.le_of_ble_eq_true rfl) ⟨by omega, by decide⟩ ⟨Nat.le_refl _, Nat.le_refl _⟩ dX10_box_81 ?_
          refine e_if_ne (t := 97) dX10_box_84 (by decide) (fun c => ?_) (fun c => ?_)
          · replace hf := e_ie c hf
            refine e_iinc (lv' := [(6, .int _), (0, .ref _), (1, .int _), (2, .long _), (4, .long _)]) 4 dX10_box_97 rfl (by decide) rfl ?_
            refine e_goto (t := 45) dX10_box_100 (by decide) ?_
            refine e_sub [1, 2, 3, 4, 0] rfl ?_
            exact ih _ _ _ _ _ _ hf
          · replace hf := e_it c hf
            refine e_lload 3 dX10_box_87 rfl ?_
            refine e_iload 4 dX10_box_89 rfl ?_
            refine e_callS (st := [.long _]) ml_RX10_289 k_X10_bit (m_X10_bit (d := d - 1) (by omega) rfl) rfl rfl (Nat.le_of_ble_eq_true rfl) ⟨by omega, by decide⟩ ⟨Nat.le_refl _, Nat.le_refl _⟩ dX10_box_91 ?_
            refine e_lor dX10_box_94 ?_
            refine e_lstore (lv' := [(4, .long _), (0, .ref _), (1, .int _), (2, .long _), (6, .int _)]) dX10_box_95 (by decide) rfl ?_
            refine e_iinc (lv' := [(6, .int _), (4, .long _), (0, .ref _), (1, .int _), (2, .long _)]) 4 dX10_box_97 rfl (by decide) rfl ?_
            refine e_goto (t := 45) dX10_box_100 (by decide) ?_
            refine e_sub [2, 3, 4, 1, 0] rfl ?_
            exact ih _ _ _ _ _ _ hf
def f_X10_box_J103 (L : eL) (h : eH) (v0 : Nat) (v1 : Int32) (v4 : Int64) : Option (eH × Int32) :=
  if isO L v0 10 = true then
  (gR h v0 1).bind fun b25 =>
  if isO L b25 3 = true then
  (f_X3_begin L h b25).bind fun r28 =>
  (gR r28 v0 1).bind fun b30 =>
  if isO L b30 3 = true then
  (f_X3_add L r28 b30 v4).bind fun r33 =>
  (gR r33 v0 11).bind fun b35 =>
  if inA L b35 0 v1 = true then
  some (r33, gI r33 b35 v1.toNatClampNeg)
  else none
  else none
  else none
  else none
set_option maxRecDepth 100000 in
set_option maxHeartbeats 4000000 in
theorem m_X10_box_J103 {l : Launch} {d : Nat} {L : eL}  {r : eH × Int32} (hd : 4 ≤ d)  : ∀ (h : eH) (v0 : Nat) (v1 : Int32) (v4 : Int64), f_X10_box_J103 L h v0 v1 v4 = some r → E l yX10_box cX10_box 7 (some .int) (e_rm d 0 0) 0 0 true L (Qx (some (.int r.2)) L r.1) L h 0 0 103 [(0, .ref v0), (1, .int v1), (4, .long v4)] [] := by
  intro h v0 v1 v4 hf
  unfold f_X10_box_J103 at hf
  refine e_aload_n 0 dX10_box_103 rfl rfl ?_
  obtain ⟨hO24, hf⟩ := e_if hf
  obtain ⟨b25, hb26, hf⟩ := e_bd hf
  refine e_getR hO24 fc_10_1 lk_RX10_19 dX10_box_104 hb26 ?_
  obtain ⟨hO27, hf⟩ := e_if hf
  obtain ⟨r28, hr29, hf⟩ := e_bd hf
  refine e_callV (st := []) ml_RX10_267 k_X3_begin (m_X3_begin (d := d - 1) (by omega) hr29) hO27 ⟨by decide, rfl⟩ rfl rfl (Nat.le_of_ble_eq_true rfl) ⟨by omega, by decide⟩ ⟨Nat.le_refl _, Nat.le_refl _⟩ dX10_box_107 ?_
  refine e_aload_n 0 dX10_box_110 rfl rfl ?_
  obtain ⟨b30, hb31, hf⟩ := e_bd hf
  refine e_getR hO24 fc_10_1 lk_RX10_19 dX10_box_111 hb31 ?_
  refine e_lload 2 dX10_box_114 rfl ?_
  obtain ⟨hO32, hf⟩ := e_if hf
  obtain ⟨r33, hr34, hf⟩ := e_bd hf
  refine e_callV (st := []) ml_RX10_269 k_X3_add (m_X3_add (d := d - 1) (by omega) hr34) hO32 ⟨by decide, rfl⟩ rfl rfl (Nat.le_of_ble_eq_true rfl) ⟨by omega, by decide⟩ ⟨Nat.le_refl _, Nat.le_refl _⟩ dX10_box_116 ?_
  refine e_aload_n 0 dX10_box_119 rfl rfl ?_
  obtain ⟨b35, hb36, hf⟩ := e_bd hf
  refine e_getR hO24 fc_10_11 lk_RX10_75 dX10_box_120 hb36 ?_
  refine e_iload_n 1 dX10_box_123 rfl rfl ?_
  obtain ⟨hI37, hf⟩ := e_if hf
  refine e_iald hI37 dX10_box_124 ?_
  exact e_iret rfl dX10_box_125 (qW hf)
def f_X10_box (L : eL) (h : eH) (v0 : Nat) (v1 : Int32) : Option (eH × Int32) :=
  if v1 < 0 then
    some (h, (-1))
  else
    if v1 ≤ 999 then
      if isO L v0 10 = true then
      (gR h v0 7).bind fun b2 =>
      if isO L b2 6 = true then
      (f_X6_dusty L h b2).bind fun r5 =>
      if (f_J13_bitCount_95d88 r5) ≤ 20 then
        (f_X10_countSums L h v0 r5 v1).bind fun r7 =>
        f_X10_box_L45 L e_fu (fun (h20 : eH) (w0_21 : Nat) (w1_22 : Int32) (w4_23 : Int64) =>
          f_X10_box_J103 L h20 w0_21 w1_22 w4_23) r7 v0 v1 r5 0 0
      else
        some (h, (-2))
      else none
      else none
    else
      some (h, (-1))
set_option maxRecDepth 100000 in
set_option maxHeartbeats 4000000 in
theorem m_X10_box {l : Launch} {d : Nat} {L : eL} {h : eH} {v0 : Nat} {v1 : Int32} {r : eH × Int32} (hd : 4 ≤ d) (hf : f_X10_box L h v0 v1 = some r) : e_Met l yX10_box cX10_box 7 (some .int) d 0 0 true L h [.ref v0, .int v1] (Qx (some (.int r.2)) L r.1) := by
  refine e_metl (by decide) (Nat.le_of_ble_eq_true rfl) (lv := [(0, .ref v0), (1, .int v1)]) rfl ?_
  unfold f_X10_box at hf
  refine e_iload_n 1 dX10_box_0 rfl rfl ?_
  refine e_if_lt (t := 11) dX10_box_1 (by decide) (fun c => ?_) (fun c => ?_)
  · replace hf := e_it c hf
    refine e_iconst (v := (-1)) dX10_box_11 (by decide) ?_
    exact e_iret rfl dX10_box_12 (qW hf)
  · replace hf := e_ie c hf
    refine e_iload_n 1 dX10_box_4 rfl rfl ?_
    refine e_sipush (v := 999) dX10_box_5 (by decide) ?_
    refine e_icmp_le (t := 13) dX10_box_8 (by decide) (fun c => ?_) (fun c => ?_)
    · replace hf := e_it c hf
      refine e_aload_n 0 dX10_box_13 rfl rfl ?_
      obtain ⟨hO1, hf⟩ := e_if hf
      obtain ⟨b2, hb3, hf⟩ := e_bd hf
      refine e_getR hO1 fc_10_7 lk_RX10_61 dX10_box_14 hb3 ?_
      obtain ⟨hO4, hf⟩ := e_if hf
      obtain ⟨r5, hr6, hf⟩ := e_bd hf
      refine e_callV (st := []) ml_RX10_405 k_X6_dusty (m_X6_dusty (d := d - 1) (by omega) hr6) hO4 ⟨by decide, rfl⟩ rfl rfl (Nat.le_of_ble_eq_true rfl) ⟨by omega, by decide⟩ ⟨Nat.le_refl _, Nat.le_refl _⟩ dX10_box_17 ?_
      refine e_lstore_n (lv' := [(2, .long _), (0, .ref _), (1, .int _)]) dX10_box_20 rfl (by decide) rfl ?_
      refine e_lload_n 0 dX10_box_21 rfl rfl ?_
      refine e_callS (st := []) ml_RX10_143 k_J13_bitCount_95d88 (m_J13_bitCount_95d88 (d := d - 1) (by omega) rfl) rfl rfl (Nat.le_of_ble_eq_true rfl) ⟨by omega, by decide⟩ ⟨Nat.le_refl _, Nat.le_refl _⟩ dX10_box_22 ?_
      refine e_bipush (v := 20) dX10_box_25 (by decide) ?_
      refine e_icmp_le (t := 33) dX10_box_27 (by decide) (fun c => ?_) (fun c => ?_)
      · replace hf := e_it c hf
        refine e_aload_n 1 dX10_box_33 rfl rfl ?_
        refine e_lload_n 0 dX10_box_34 rfl rfl ?_
        refine e_iload_n 2 dX10_box_35 rfl rfl ?_
        obtain ⟨r7, hr8, hf⟩ := e_bd hf
        refine e_callV (st := []) ml_RX10_408 k_X10_countSums (m_X10_countSums (d := d - 1) (by omega) hr8) hO1 ⟨by decide, rfl⟩ rfl rfl (Nat.le_of_ble_eq_true rfl) ⟨by omega, by decide⟩ ⟨Nat.le_refl _, Nat.le_refl _⟩ dX10_box_36 ?_
        refine e_lconst (v := 0) dX10_box_39 (by decide) ?_
        refine e_lstore (lv' := [(4, .long _), (2, .long _), (0, .ref _), (1, .int _)]) dX10_box_40 (by decide) rfl ?_
        refine e_iconst (v := 0) dX10_box_42 (by decide) ?_
        refine e_istore (lv' := [(6, .int _), (4, .long _), (2, .long _), (0, .ref _), (1, .int _)]) dX10_box_43 (by decide) rfl ?_
        refine e_sub [3, 4, 2, 1, 0] rfl ?_
        refine m_X10_box_L45 hd ?_ e_fu _ _ _ _ _ _ hf
        · intro h20 w0_21 w1_22 w4_23 hf
          exact m_X10_box_J103 hd _ _ _ _ hf
      · replace hf := e_ie c hf
        refine e_bipush (v := (-2)) dX10_box_30 (by decide) ?_
        exact e_iret rfl dX10_box_32 (qW hf)
    · replace hf := e_ie c hf
      refine e_iconst (v := (-1)) dX10_box_11 (by decide) ?_
      exact e_iret rfl dX10_box_12 (qW hf)
def f_X10_choices_L12  : Nat → (Int64 → Option Int64) → Int32 → Int32 → Int64 → Int32 → Option Int64
  | 0, _, _, _, _, _ => none
  | n + 1, k38, v0, v1, v2, v4 =>
    if v1 ≤ v4 then
      k38 v2
    else
      if ((v4 + 1).toInt64) = 0 then none else
      f_X10_choices_L12 n k38 v0 v1 ((v2 * ((v0 - v4).toInt64)) / ((v4 + 1).toInt64)) (v4 + Int32.ofInt 1)
set_option maxRecDepth 100000 in
set_option maxHeartbeats 4000000 in
theorem m_X10_choices_L12 {l : Launch} {d : Nat} {L : eL} {h : eH} {r : Int64} {k38 : Int64 → Option Int64} (hd : 1 ≤ d) (hk38 : ∀ (v2 : Int64), k38 v2 = some r → E l yX10_choices cX10_choices 5 (some .long) (e_rm d 0 0) 0 0 true L (Qx (some (.long r)) L h) L h 0 0 38 [(2, .long v2)] []) : ∀ (n : Nat) (v0 : Int32) (v1 : Int32) (v2 : Int64) (v4 : Int32), f_X10_choices_L12 n k38 v0 v1 v2 v4 = some r → E l yX10_choices cX10_choices 5 (some .long) (e_rm d 0 0) 0 0 true L (Qx (some (.long r)) L h) L h 0 0 12 [(0, .int v0), (1, .int v1), (2, .long v2), (4, .int v4)] [] := by
  intro n
  induction n with
  | zero => intro v0 v1 v2 v4 hf; exact absurd hf (by simp [f_X10_choices_L12])
  | succ n ih =>
    intro v0 v1 v2 v4 hf
    unfold f_X10_choices_L12 at hf
    refine e_iload 3 dX10_choices_12 rfl ?_
    refine e_iload_n 1 dX10_choices_14 rfl rfl ?_
    refine e_icmp_ge (t := 38) dX10_choices_15 (by decide) (fun c => ?_) (fun c => ?_)
    · replace hf := e_it c hf
      refine e_sub [2] rfl ?_
      exact hk38 _ hf
    · replace hf := e_ie c hf
      refine e_lload_n 2 dX10_choices_18 rfl rfl ?_
      refine e_iload_n 0 dX10_choices_19 rfl rfl ?_
      refine e_iload 3 dX10_choices_20 rfl ?_
      refine e_isub dX10_choices_22 ?_
      refine e_i2l dX10_choices_23 ?_
      refine e_lmul dX10_choices_24 ?_
      refine e_iload 3 dX10_choices_25 rfl ?_
      refine e_iconst (v := 1) dX10_choices_27 (by decide) ?_
      refine e_iadd dX10_choices_28 ?_
      refine e_i2l dX10_choices_29 ?_
      obtain ⟨hz1, hf⟩ := e_ifp hf
      refine e_ldiv dX10_choices_30 hz1 ?_
      refine e_lstore_n (lv' := [(2, .long _), (0, .int _), (1, .int _), (4, .int _)]) dX10_choices_31 rfl (by decide) rfl ?_
      refine e_iinc (lv' := [(4, .int _), (2, .long _), (0, .int _), (1, .int _)]) 3 dX10_choices_32 rfl (by decide) rfl ?_
      refine e_goto (t := 12) dX10_choices_35 (by decide) ?_
      refine e_sub [2, 3, 1, 0] rfl ?_
      exact ih _ _ _ _ hf
def f_X10_choices (v0 : Int32) (v1 : Int32) : Option Int64 :=
  if v1 ≤ v0 then
    f_X10_choices_L12 e_fu (fun (w2_2 : Int64) =>
      some w2_2) v0 v1 1 0
  else
    some 0
set_option maxRecDepth 100000 in
set_option maxHeartbeats 4000000 in
theorem m_X10_choices {l : Launch} {d : Nat} {L : eL} {h : eH} {v0 : Int32} {v1 : Int32} {r : Int64} (hd : 1 ≤ d) (hf : f_X10_choices v0 v1 = some r) : e_Met l yX10_choices cX10_choices 5 (some .long) d 0 0 true L h [.int v0, .int v1] (Qx (some (.long r)) L h) := by
  refine e_metl (by decide) (Nat.le_of_ble_eq_true rfl) (lv := [(0, .int v0), (1, .int v1)]) rfl ?_
  unfold f_X10_choices at hf
  refine e_iload_n 1 dX10_choices_0 rfl rfl ?_
  refine e_iload_n 0 dX10_choices_1 rfl rfl ?_
  refine e_icmp_le (t := 7) dX10_choices_2 (by decide) (fun c => ?_) (fun c => ?_)
  · replace hf := e_it c hf
    refine e_lconst (v := 1) dX10_choices_7 (by decide) ?_
    refine e_lstore_n (lv' := [(2, .long _), (0, .int _), (1, .int _)]) dX10_choices_8 rfl (by decide) rfl ?_
    refine e_iconst (v := 0) dX10_choices_9 (by decide) ?_
    refine e_istore (lv' := [(4, .int _), (2, .long _), (0, .int _), (1, .int _)]) dX10_choices_10 (by decide) rfl ?_
    refine e_sub [2, 3, 1, 0] rfl ?_
    refine m_X10_choices_L12 hd ?_ e_fu _ _ _ _ hf
    · intro w2_2 hf
      refine e_lload_n 0 dX10_choices_38 rfl rfl ?_
      exact e_lret rfl dX10_choices_39 (qPL hf)
  · replace hf := e_ie c hf
    refine e_lconst (v := 0) dX10_choices_5 (by decide) ?_
    exact e_lret rfl dX10_choices_6 (qPL hf)
def f_X10_clean (L : eL) (h : eH) (v0 : Nat) (v1 : Int32) : Option (eH × Int32) :=
  if isO L v0 10 = true then
  (gR h v0 15).bind fun b2 =>
  if isO L b2 2 = true then
  if v1 < 1 then
    some (h, (-1))
  else
    if v1 ≤ (f_J13_bitCount_95d88 (gL h b2 4)) then
      (gR h v0 7).bind fun b5 =>
      if isO L b5 6 = true then
      (f_X6_dusty L h b5).bind fun r8 =>
      (f_X10_choices ((f_J13_bitCount_95d88 (gL h b2 4)) - (f_J13_bitCount_95d88 r8)) v1).bind fun r10 =>
      (f_X10_choices (f_J13_bitCount_95d88 (gL h b2 4)) v1).bind fun r12 =>
      (f_X10_tellFraction L h v0 r10 r12).bind fun r14 =>
      some (r14, 0)
      else none
    else
      some (h, (-1))
  else none
  else none
set_option maxRecDepth 100000 in
set_option maxHeartbeats 4000000 in
theorem m_X10_clean {l : Launch} {d : Nat} {L : eL} {h : eH} {v0 : Nat} {v1 : Int32} {r : eH × Int32} (hd : 3 ≤ d) (hf : f_X10_clean L h v0 v1 = some r) : e_Met l yX10_clean cX10_clean 3 (some .int) d 0 0 true L h [.ref v0, .int v1] (Qx (some (.int r.2)) L r.1) := by
  refine e_metl (by decide) (Nat.le_of_ble_eq_true rfl) (lv := [(0, .ref v0), (1, .int v1)]) rfl ?_
  unfold f_X10_clean at hf
  refine e_aload_n 0 dX10_clean_0 rfl rfl ?_
  obtain ⟨hO1, hf⟩ := e_if hf
  obtain ⟨b2, hb3, hf⟩ := e_bd hf
  refine e_getR hO1 fc_10_15 lk_RX10_92 dX10_clean_1 hb3 ?_
  obtain ⟨hO4, hf⟩ := e_if hf
  refine e_getLN hO4 fc_2_4 lk_RX10_128 dX10_clean_4 ?_
  refine e_callS (st := []) ml_RX10_143 k_J13_bitCount_95d88 (m_J13_bitCount_95d88 (d := d - 1) (by omega) rfl) rfl rfl (Nat.le_of_ble_eq_true rfl) ⟨by omega, by decide⟩ ⟨Nat.le_refl _, Nat.le_refl _⟩ dX10_clean_7 ?_
  refine e_istore_n (lv' := [(2, .int _), (0, .ref _), (1, .int _)]) dX10_clean_10 rfl (by decide) rfl ?_
  refine e_iload_n 2 dX10_clean_11 rfl rfl ?_
  refine e_iconst (v := 1) dX10_clean_12 (by decide) ?_
  refine e_icmp_lt (t := 21) dX10_clean_13 (by decide) (fun c => ?_) (fun c => ?_)
  · replace hf := e_it c hf
    refine e_iconst (v := (-1)) dX10_clean_21 (by decide) ?_
    exact e_iret rfl dX10_clean_22 (qW hf)
  · replace hf := e_ie c hf
    refine e_iload_n 2 dX10_clean_16 rfl rfl ?_
    refine e_iload_n 0 dX10_clean_17 rfl rfl ?_
    refine e_icmp_le (t := 23) dX10_clean_18 (by decide) (fun c => ?_) (fun c => ?_)
    · replace hf := e_it c hf
      refine e_aload_n 1 dX10_clean_23 rfl rfl ?_
      refine e_iload_n 0 dX10_clean_24 rfl rfl ?_
      refine e_aload_n 1 dX10_clean_25 rfl rfl ?_
      obtain ⟨b5, hb6, hf⟩ := e_bd hf
      refine e_getR hO1 fc_10_7 lk_RX10_61 dX10_clean_26 hb6 ?_
      obtain ⟨hO7, hf⟩ := e_if hf
      obtain ⟨r8, hr9, hf⟩ := e_bd hf
      refine e_callV (st := [.int _, .ref _]) ml_RX10_405 k_X6_dusty (m_X6_dusty (d := d - 1) (by omega) hr9) hO7 ⟨by decide, rfl⟩ rfl rfl (Nat.le_of_ble_eq_true rfl) ⟨by omega, by decide⟩ ⟨Nat.le_refl _, Nat.le_refl _⟩ dX10_clean_29 ?_
      refine e_callS (st := [.int _, .ref _]) ml_RX10_143 k_J13_bitCount_95d88 (m_J13_bitCount_95d88 (d := d - 1) (by omega) rfl) rfl rfl (Nat.le_of_ble_eq_true rfl) ⟨by omega, by decide⟩ ⟨Nat.le_refl _, Nat.le_refl _⟩ dX10_clean_32 ?_
      refine e_isub dX10_clean_35 ?_
      refine e_iload_n 2 dX10_clean_36 rfl rfl ?_
      obtain ⟨r10, hr11, hf⟩ := e_bd hf
      refine e_callS (st := [.ref _]) ml_RX10_415 k_X10_choices (m_X10_choices (d := d - 1) (by omega) hr11) rfl rfl (Nat.le_of_ble_eq_true rfl) ⟨by omega, by decide⟩ ⟨Nat.le_refl _, Nat.le_refl _⟩ dX10_clean_37 ?_
      refine e_iload_n 0 dX10_clean_40 rfl rfl ?_
      refine e_iload_n 2 dX10_clean_41 rfl rfl ?_
      obtain ⟨r12, hr13, hf⟩ := e_bd hf
      refine e_callS (st := [.long _, .ref _]) ml_RX10_415 k_X10_choices (m_X10_choices (d := d - 1) (by omega) hr13) rfl rfl (Nat.le_of_ble_eq_true rfl) ⟨by omega, by decide⟩ ⟨Nat.le_refl _, Nat.le_refl _⟩ dX10_clean_42 ?_
      obtain ⟨r14, hr15, hf⟩ := e_bd hf
      refine e_callV (st := []) ml_RX10_387 k_X10_tellFraction (m_X10_tellFraction (d := d - 1) (by omega) hr15) hO1 ⟨by decide, rfl⟩ rfl rfl (Nat.le_of_ble_eq_true rfl) ⟨by omega, by decide⟩ ⟨Nat.le_refl _, Nat.le_refl _⟩ dX10_clean_45 ?_
      refine e_iconst (v := 0) dX10_clean_48 (by decide) ?_
      exact e_iret rfl dX10_clean_49 (qW hf)
    · replace hf := e_ie c hf
      refine e_iconst (v := (-1)) dX10_clean_21 (by decide) ?_
      exact e_iret rfl dX10_clean_22 (qW hf)
def f_X10_rested (v0 : Int32) (v1 : Int32) (v2 : Int32) : Int32 :=
  if v1 ≤ v0 then
    if v0 ≤ v1 then
      (-v0) - 5
    else
      -v0
  else
    v2 - v0
set_option maxRecDepth 100000 in
set_option maxHeartbeats 4000000 in
theorem m_X10_rested {l : Launch} {d : Nat} {L : eL} {h : eH} {v0 : Int32} {v1 : Int32} {v2 : Int32} {r : Int32} (hd : 1 ≤ d) (hf : f_X10_rested v0 v1 v2 = r) : e_Met l yX10_rested cX10_rested 3 (some .int) d 0 0 true L h [.int v0, .int v1, .int v2] (Qx (some (.int r)) L h) := by
  refine e_metl (by decide) (Nat.le_of_ble_eq_true rfl) (lv := [(0, .int v0), (1, .int v1), (2, .int v2)]) rfl ?_
  unfold f_X10_rested at hf
  refine e_iload_n 0 dX10_rested_0 rfl rfl ?_
  refine e_iload_n 1 dX10_rested_1 rfl rfl ?_
  refine e_icmp_ge (t := 9) dX10_rested_2 (by decide) (fun c => ?_) (fun c => ?_)
  · replace hf := e_it c hf
    refine e_iload_n 0 dX10_rested_9 rfl rfl ?_
    refine e_iload_n 1 dX10_rested_10 rfl rfl ?_
    refine e_icmp_le (t := 19) dX10_rested_11 (by decide) (fun c => ?_) (fun c => ?_)
    · replace hf := e_it c hf
      refine e_iload_n 0 dX10_rested_19 rfl rfl ?_
      refine e_ineg dX10_rested_20 ?_
      refine e_iconst (v := 5) dX10_rested_21 (by decide) ?_
      refine e_isub dX10_rested_22 ?_
      exact e_iret rfl dX10_rested_23 (qT hf)
    · replace hf := e_ie c hf
      refine e_iload_n 0 dX10_rested_14 rfl rfl ?_
      refine e_ineg dX10_rested_15 ?_
      refine e_goto (t := 23) dX10_rested_16 (by decide) ?_
      exact e_iret rfl dX10_rested_23 (qT hf)
  · replace hf := e_ie c hf
    refine e_iload_n 2 dX10_rested_5 rfl rfl ?_
    refine e_iload_n 0 dX10_rested_6 rfl rfl ?_
    refine e_isub dX10_rested_7 ?_
    exact e_iret rfl dX10_rested_8 (qT hf)
def f_X10_staysWith_L10  : Nat → (Option Int32) → (Option Int32) → Int32 → Int32 → Int32 → Int32 → Option Int32
  | 0, _, _, _, _, _, _ => none
  | n + 1, k28, k36, v1, v2, v3, v4 =>
    if 10 ≤ v4 then
      k36
    else
      if (f_X10_rested v4 v1 v2) ≤ v3 then
        f_X10_staysWith_L10 n k28 k36 v1 v2 v3 (v4 + Int32.ofInt 1)
      else
        k28
set_option maxRecDepth 100000 in
set_option maxHeartbeats 4000000 in
theorem m_X10_staysWith_L10 {l : Launch} {d : Nat} {L : eL} {h : eH} {r : Int32} {k28 : Option Int32} {k36 : Option Int32} (hd : 2 ≤ d) (hk28 : k28 = some r → E l yX10_staysWith cX10_staysWith 5 (some .boolean) (e_rm d 0 0) 0 0 true L (Qx (some (.int r)) L h) L h 0 0 28 [] []) (hk36 : k36 = some r → E l yX10_staysWith cX10_staysWith 5 (some .boolean) (e_rm d 0 0) 0 0 true L (Qx (some (.int r)) L h) L h 0 0 36 [] []) : ∀ (n : Nat) (v1 : Int32) (v2 : Int32) (v3 : Int32) (v4 : Int32), f_X10_staysWith_L10 n k28 k36 v1 v2 v3 v4 = some r → E l yX10_staysWith cX10_staysWith 5 (some .boolean) (e_rm d 0 0) 0 0 true L (Qx (some (.int r)) L h) L h 0 0 10 [(1, .int v1), (2, .int v2), (3, .int v3), (4, .int v4)] [] := by
  intro n
  induction n with
  | zero => intro v1 v2 v3 v4 hf; exact absurd hf (by simp [f_X10_staysWith_L10])
  | succ n ih =>
    intro v1 v2 v3 v4 hf
    unfold f_X10_staysWith_L10 at hf
    refine e_iload 3 dX10_staysWith_10 rfl ?_
    refine e_bipush (v := 10) dX10_staysWith_12 (by decide) ?_
    refine e_icmp_ge (t := 36) dX10_staysWith_14 (by decide) (fun c => ?_) (fun c => ?_)
    · replace hf := e_it c hf
      refine e_sub [] rfl ?_
      exact hk36  hf
    · replace hf := e_ie c hf
      refine e_iload 3 dX10_staysWith_17 rfl ?_
      refine e_iload_n 0 dX10_staysWith_19 rfl rfl ?_
      refine e_iload_n 1 dX10_staysWith_20 rfl rfl ?_
      refine e_callS (st := []) ml_RX10_429 k_X10_rested (m_X10_rested (d := d - 1) (by omega) rfl) rfl rfl (Nat.le_of_ble_eq_true rfl) ⟨by omega, by decide⟩ ⟨Nat.le_refl _, Nat.le_refl _⟩ dX10_staysWith_21 ?_
      refine e_iload_n 2 dX10_staysWith_24 rfl rfl ?_
      refine e_icmp_le (t := 30) dX10_staysWith_25 (by decide) (fun c => ?_) (fun c => ?_)
      · replace hf := e_it c hf
        refine e_iinc (lv' := [(4, .int _), (1, .int _), (2, .int _), (3, .int _)]) 3 dX10_staysWith_30 rfl (by decide) rfl ?_
        refine e_goto (t := 10) dX10_staysWith_33 (by decide) ?_
        refine e_sub [1, 2, 3, 0] rfl ?_
        exact ih _ _ _ _ hf
      · replace hf := e_ie c hf
        refine e_sub [] rfl ?_
        exact hk28  hf
def f_X10_staysWith (v0 : Int32) (v1 : Int32) (v2 : Int32) : Option Int32 :=
  f_X10_staysWith_L10 e_fu (
    some 0) (
    some 1) v1 v2 (f_X10_rested v0 v1 v2) 0
set_option maxRecDepth 100000 in
set_option maxHeartbeats 4000000 in
theorem m_X10_staysWith {l : Launch} {d : Nat} {L : eL} {h : eH} {v0 : Int32} {v1 : Int32} {v2 : Int32} {r : Int32} (hd : 2 ≤ d) (hf : f_X10_staysWith v0 v1 v2 = some r) : e_Met l yX10_staysWith cX10_staysWith 5 (some .boolean) d 0 0 true L h [.int v0, .int v1, .int v2] (Qx (some (.int r)) L h) := by
  refine e_metl (by decide) (Nat.le_of_ble_eq_true rfl) (lv := [(0, .int v0), (1, .int v1), (2, .int v2)]) rfl ?_
  unfold f_X10_staysWith at hf
  refine e_iload_n 0 dX10_staysWith_0 rfl rfl ?_
  refine e_iload_n 1 dX10_staysWith_1 rfl rfl ?_
  refine e_iload_n 2 dX10_staysWith_2 rfl rfl ?_
  refine e_callS (st := []) ml_RX10_429 k_X10_rested (m_X10_rested (d := d - 1) (by omega) rfl) rfl rfl (Nat.le_of_ble_eq_true rfl) ⟨by omega, by decide⟩ ⟨Nat.le_refl _, Nat.le_refl _⟩ dX10_staysWith_3 ?_
  refine e_istore_n (lv' := [(3, .int _), (0, .int _), (1, .int _), (2, .int _)]) dX10_staysWith_6 rfl (by decide) rfl ?_
  refine e_iconst (v := 0) dX10_staysWith_7 (by decide) ?_
  refine e_istore (lv' := [(4, .int _), (3, .int _), (0, .int _), (1, .int _), (2, .int _)]) dX10_staysWith_8 (by decide) rfl ?_
  refine e_sub [3, 4, 1, 0] rfl ?_
  refine m_X10_staysWith_L10 hd ?_ ?_ e_fu _ _ _ _ hf
  · intro  hf
    refine e_iconst (v := 0) dX10_staysWith_28 (by decide) ?_
    exact e_zret (ty := .boolean) rfl rfl dX10_staysWith_29 (qP hf)
  · intro  hf
    refine e_iconst (v := 1) dX10_staysWith_36 (by decide) ?_
    exact e_zret (ty := .boolean) rfl rfl dX10_staysWith_37 (qP hf)
def f_X10_rests_L33 (L : eL) : Nat → (eH → Nat → Int32 → Int32 → Int32 → Option (eH × Int32)) → eH → Nat → Int32 → Int32 → Int32 → Int32 → Option (eH × Int32)
  | 0, _, _, _, _, _, _, _ => none
  | n + 1, k95, h, v0, v1, v2, v3, v4 =>
    if 10 ≤ v4 then
      k95 h v0 v1 v2 v3
    else
      (f_X10_staysWith v3 v4 v1).bind fun r7 =>
      if r7 = 0 then
        f_X10_rests_L33 L n k95 h v0 v1 v2 v3 (v4 + Int32.ofInt 1)
      else
        (f_X10_staysWith v4 v3 v1).bind fun r9 =>
        if r9 = 0 then
          f_X10_rests_L33 L n k95 h v0 v1 v2 v3 (v4 + Int32.ofInt 1)
        else
          if v2 = 0 then
            if isO L v0 10 = true then
            (gR h v0 1).bind fun b12 =>
            if isO L b12 3 = true then
            (f_X3_add L h b12 v3.toInt64).bind fun r15 =>
            (gR r15 v0 1).bind fun b17 =>
            if isO L b17 3 = true then
            (f_X3_add L r15 b17 v4.toInt64).bind fun r20 =>
            f_X10_rests_L33 L n k95 r20 v0 v1 (v2 + Int32.ofInt 1) v3 (v4 + Int32.ofInt 1)
            else none
            else none
            else none
          else
            f_X10_rests_L33 L n k95 h v0 v1 (v2 + Int32.ofInt 1) v3 (v4 + Int32.ofInt 1)
set_option maxRecDepth 100000 in
set_option maxHeartbeats 4000000 in
theorem m_X10_rests_L33 {l : Launch} {d : Nat} {L : eL}  {r : eH × Int32} {k95 : eH → Nat → Int32 → Int32 → Int32 → Option (eH × Int32)} (hd : 3 ≤ d) (hk95 : ∀ (h : eH) (v0 : Nat) (v1 : Int32) (v2 : Int32) (v3 : Int32), k95 h v0 v1 v2 v3 = some r → E l yX10_rests cX10_rests 5 (some .int) (e_rm d 0 0) 0 0 true L (Qx (some (.int r.2)) L r.1) L h 0 0 95 [(0, .ref v0), (1, .int v1), (2, .int v2), (3, .int v3)] []) : ∀ (n : Nat) (h : eH) (v0 : Nat) (v1 : Int32) (v2 : Int32) (v3 : Int32) (v4 : Int32), f_X10_rests_L33 L n k95 h v0 v1 v2 v3 v4 = some r → E l yX10_rests cX10_rests 5 (some .int) (e_rm d 0 0) 0 0 true L (Qx (some (.int r.2)) L r.1) L h 0 0 33 [(0, .ref v0), (1, .int v1), (2, .int v2), (3, .int v3), (4, .int v4)] [] := by
  intro n
  induction n with
  | zero => intro h v0 v1 v2 v3 v4 hf; exact absurd hf (by simp [f_X10_rests_L33])
  | succ n ih =>
    intro h v0 v1 v2 v3 v4 hf
    unfold f_X10_rests_L33 at hf
    refine e_iload 4 dX10_rests_33 rfl ?_
    refine e_bipush (v := 10) dX10_rests_35 (by decide) ?_
    refine e_icmp_ge (t := 95) dX10_rests_37 (by decide) (fun c => ?_) (fun c => ?_)
    · replace hf := e_it c hf
      refine e_sub [0, 1, 2, 3] rfl ?_
      exact hk95 _ _ _ _ _ hf
    · replace hf := e_ie c hf
      refine e_iload_n 3 dX10_rests_40 rfl rfl ?_
      refine e_iload 4 dX10_rests_41 rfl ?_
      refine e_iload_n 1 dX10_rests_43 rfl rfl ?_
      obtain ⟨r7, hr8, hf⟩ := e_bd hf
      refine e_callS (st := []) ml_RX10_419 k_X10_staysWith (m_X10_staysWith (d := d - 1) (by omega) hr8) rfl rfl (Nat.le_of_ble_eq_true rfl) ⟨by omega, by decide⟩ ⟨Nat.le_refl _, Nat.le_refl _⟩ dX10_rests_44 ?_
      refine e_if_eq (t := 89) dX10_rests_47 (by decide) (fun c => ?_) (fun c => ?_)
      · replace hf := e_it c hf
        refine e_iinc (lv' := [(4, .int _), (0, .ref _), (1, .int _), (2, .int _), (3, .int _)]) 4 dX10_rests_89 rfl (by decide) rfl ?_
        refine e_goto (t := 33) dX10_rests_92 (by decide) ?_
        refine e_sub [1, 2, 3, 4, 0] rfl ?_
        exact ih _ _ _ _ _ _ hf
      · replace hf := e_ie c hf
        refine e_iload 4 dX10_rests_50 rfl ?_
        refine e_iload_n 3 dX10_rests_52 rfl rfl ?_
        refine e_iload_n 1 dX10_rests_53 rfl rfl ?_
        obtain ⟨r9, hr10, hf⟩ := e_bd hf
        refine e_callS (st := []) ml_RX10_419 k_X10_staysWith (m_X10_staysWith (d := d - 1) (by omega) hr10) rfl rfl (Nat.le_of_ble_eq_true rfl) ⟨by omega, by decide⟩ ⟨Nat.le_refl _, Nat.le_refl _⟩ dX10_rests_54 ?_
        refine e_if_ne (t := 63) dX10_rests_57 (by decide) (fun c => ?_) (fun c => ?_)
        · replace hf := e_ie c hf
          refine e_iload_n 2 dX10_rests_63 rfl rfl ?_
          refine e_if_ne (t := 86) dX10_rests_64 (by decide) (fun c => ?_) (fun c => ?_)
          · replace hf := e_ie c hf
            refine e_iinc (lv' := [(2, .int _), (0, .ref _), (1, .int _), (3, .int _), (4, .int _)]) 2 dX10_rests_86 rfl (by decide) rfl ?_
            refine e_iinc (lv' := [(4, .int _), (2, .int _), (0, .ref _), (1, .int _), (3, .int _)]) 4 dX10_rests_89 rfl (by decide) rfl ?_
            refine e_goto (t := 33) dX10_rests_92 (by decide) ?_
            refine e_sub [2, 3, 1, 4, 0] rfl ?_
            exact ih _ _ _ _ _ _ hf
          · replace hf := e_it c hf
            refine e_aload_n 0 dX10_rests_67 rfl rfl ?_
            obtain ⟨hO11, hf⟩ := e_if hf
            obtain ⟨b12, hb13, hf⟩ := e_bd hf
            refine e_getR hO11 fc_10_1 lk_RX10_19 dX10_rests_68 hb13 ?_
            refine e_iload_n 3 dX10_rests_71 rfl rfl ?_
            refine e_i2l dX10_rests_72 ?_
            obtain ⟨hO14, hf⟩ := e_if hf
            obtain ⟨r15, hr16, hf⟩ := e_bd hf
            refine e_callV (st := []) ml_RX10_269 k_X3_add (m_X3_add (d := d - 1) (by omega) hr16) hO14 ⟨by decide, rfl⟩ rfl rfl (Nat.le_of_ble_eq_true rfl) ⟨by omega, by decide⟩ ⟨Nat.le_refl _, Nat.le_refl _⟩ dX10_rests_73 ?_
            refine e_aload_n 0 dX10_rests_76 rfl rfl ?_
            obtain ⟨b17, hb18, hf⟩ := e_bd hf
            refine e_getR hO11 fc_10_1 lk_RX10_19 dX10_rests_77 hb18 ?_
            refine e_iload 4 dX10_rests_80 rfl ?_
            refine e_i2l dX10_rests_82 ?_
            obtain ⟨hO19, hf⟩ := e_if hf
            obtain ⟨r20, hr21, hf⟩ := e_bd hf
            refine e_callV (st := []) ml_RX10_269 k_X3_add (m_X3_add (d := d - 1) (by omega) hr21) hO19 ⟨by decide, rfl⟩ rfl rfl (Nat.le_of_ble_eq_true rfl) ⟨by omega, by decide⟩ ⟨Nat.le_refl _, Nat.le_refl _⟩ dX10_rests_83 ?_
            refine e_iinc (lv' := [(2, .int _), (0, .ref _), (1, .int _), (3, .int _), (4, .int _)]) 2 dX10_rests_86 rfl (by decide) rfl ?_
            refine e_iinc (lv' := [(4, .int _), (2, .int _), (0, .ref _), (1, .int _), (3, .int _)]) 4 dX10_rests_89 rfl (by decide) rfl ?_
            refine e_goto (t := 33) dX10_rests_92 (by decide) ?_
            refine e_sub [2, 3, 1, 4, 0] rfl ?_
            exact ih _ _ _ _ _ _ hf
        · replace hf := e_it c hf
          refine e_goto (t := 89) dX10_rests_60 (by decide) ?_
          refine e_iinc (lv' := [(4, .int _), (0, .ref _), (1, .int _), (2, .int _), (3, .int _)]) 4 dX10_rests_89 rfl (by decide) rfl ?_
          refine e_goto (t := 33) dX10_rests_92 (by decide) ?_
          refine e_sub [1, 2, 3, 4, 0] rfl ?_
          exact ih _ _ _ _ _ _ hf
def f_X10_rests_L24 (L : eL) : Nat → (eH → Int32 → Option (eH × Int32)) → eH → Nat → Int32 → Int32 → Int32 → Option (eH × Int32)
  | 0, _, _, _, _, _, _ => none
  | n + 1, k101, h, v0, v1, v2, v3 =>
    if 10 ≤ v3 then
      k101 h v2
    else
      f_X10_rests_L33 L e_fu (fun (h22 : eH) (w0_23 : Nat) (w1_24 : Int32) (w2_25 : Int32) (w3_26 : Int32) =>
        f_X10_rests_L24 L n k101 h22 w0_23 w1_24 w2_25 (w3_26 + Int32.ofInt 1)) h v0 v1 v2 v3 0
set_option maxRecDepth 100000 in
set_option maxHeartbeats 4000000 in
theorem m_X10_rests_L24 {l : Launch} {d : Nat} {L : eL}  {r : eH × Int32} {k101 : eH → Int32 → Option (eH × Int32)} (hd : 3 ≤ d) (hk101 : ∀ (h : eH) (v2 : Int32), k101 h v2 = some r → E l yX10_rests cX10_rests 5 (some .int) (e_rm d 0 0) 0 0 true L (Qx (some (.int r.2)) L r.1) L h 0 0 101 [(2, .int v2)] []) : ∀ (n : Nat) (h : eH) (v0 : Nat) (v1 : Int32) (v2 : Int32) (v3 : Int32), f_X10_rests_L24 L n k101 h v0 v1 v2 v3 = some r → E l yX10_rests cX10_rests 5 (some .int) (e_rm d 0 0) 0 0 true L (Qx (some (.int r.2)) L r.1) L h 0 0 24 [(0, .ref v0), (1, .int v1), (2, .int v2), (3, .int v3)] [] := by
  intro n
  induction n with
  | zero => intro h v0 v1 v2 v3 hf; exact absurd hf (by simp [f_X10_rests_L24])
  | succ n ih =>
    intro h v0 v1 v2 v3 hf
    unfold f_X10_rests_L24 at hf
    refine e_iload_n 3 dX10_rests_24 rfl rfl ?_
    refine e_bipush (v := 10) dX10_rests_25 (by decide) ?_
    refine e_icmp_ge (t := 101) dX10_rests_27 (by decide) (fun c => ?_) (fun c => ?_)
    · replace hf := e_it c hf
      refine e_sub [2] rfl ?_
      exact hk101 _ _ hf
    · replace hf := e_ie c hf
      refine e_iconst (v := 0) dX10_rests_30 (by decide) ?_
      refine e_istore (lv' := [(4, .int _), (0, .ref _), (1, .int _), (2, .int _), (3, .int _)]) dX10_rests_31 (by decide) rfl ?_
      refine e_sub [1, 2, 3, 4, 0] rfl ?_
      refine m_X10_rests_L33 hd ?_ e_fu _ _ _ _ _ _ hf
      · intro h22 w0_23 w1_24 w2_25 w3_26 hf
        refine e_iinc (lv' := [(3, .int _), (0, .ref _), (1, .int _), (2, .int _)]) 3 dX10_rests_95 rfl (by decide) rfl ?_
        refine e_goto (t := 24) dX10_rests_98 (by decide) ?_
        refine e_sub [1, 2, 3, 0] rfl ?_
        exact ih _ _ _ _ _ hf
def f_X10_rests (L : eL) (h : eH) (v0 : Nat) (v1 : Int32) : Option (eH × Int32) :=
  if v1 < 1 then
    some (h, (-1))
  else
    if v1 ≤ 99 then
      if isO L v0 10 = true then
      (gR h v0 1).bind fun b2 =>
      if isO L b2 3 = true then
      (f_X3_begin L h b2).bind fun r5 =>
      f_X10_rests_L24 L e_fu (fun (h27 : eH) (w2_28 : Int32) =>
        some (h27, w2_28)) r5 v0 v1 0 0
      else none
      else none
    else
      some (h, (-1))
set_option maxRecDepth 100000 in
set_option maxHeartbeats 4000000 in
theorem m_X10_rests {l : Launch} {d : Nat} {L : eL} {h : eH} {v0 : Nat} {v1 : Int32} {r : eH × Int32} (hd : 3 ≤ d) (hf : f_X10_rests L h v0 v1 = some r) : e_Met l yX10_rests cX10_rests 5 (some .int) d 0 0 true L h [.ref v0, .int v1] (Qx (some (.int r.2)) L r.1) := by
  refine e_metl (by decide) (Nat.le_of_ble_eq_true rfl) (lv := [(0, .ref v0), (1, .int v1)]) rfl ?_
  unfold f_X10_rests at hf
  refine e_iload_n 1 dX10_rests_0 rfl rfl ?_
  refine e_iconst (v := 1) dX10_rests_1 (by decide) ?_
  refine e_icmp_lt (t := 11) dX10_rests_2 (by decide) (fun c => ?_) (fun c => ?_)
  · replace hf := e_it c hf
    refine e_iconst (v := (-1)) dX10_rests_11 (by decide) ?_
    exact e_iret rfl dX10_rests_12 (qW hf)
  · replace hf := e_ie c hf
    refine e_iload_n 1 dX10_rests_5 rfl rfl ?_
    refine e_bipush (v := 99) dX10_rests_6 (by decide) ?_
    refine e_icmp_le (t := 13) dX10_rests_8 (by decide) (fun c => ?_) (fun c => ?_)
    · replace hf := e_it c hf
      refine e_iconst (v := 0) dX10_rests_13 (by decide) ?_
      refine e_istore_n (lv' := [(2, .int _), (0, .ref _), (1, .int _)]) dX10_rests_14 rfl (by decide) rfl ?_
      refine e_aload_n 1 dX10_rests_15 rfl rfl ?_
      obtain ⟨hO1, hf⟩ := e_if hf
      obtain ⟨b2, hb3, hf⟩ := e_bd hf
      refine e_getR hO1 fc_10_1 lk_RX10_19 dX10_rests_16 hb3 ?_
      obtain ⟨hO4, hf⟩ := e_if hf
      obtain ⟨r5, hr6, hf⟩ := e_bd hf
      refine e_callV (st := []) ml_RX10_267 k_X3_begin (m_X3_begin (d := d - 1) (by omega) hr6) hO4 ⟨by decide, rfl⟩ rfl rfl (Nat.le_of_ble_eq_true rfl) ⟨by omega, by decide⟩ ⟨Nat.le_refl _, Nat.le_refl _⟩ dX10_rests_19 ?_
      refine e_iconst (v := 0) dX10_rests_22 (by decide) ?_
      refine e_istore_n (lv' := [(3, .int _), (2, .int _), (0, .ref _), (1, .int _)]) dX10_rests_23 rfl (by decide) rfl ?_
      refine e_sub [2, 3, 1, 0] rfl ?_
      refine m_X10_rests_L24 hd ?_ e_fu _ _ _ _ _ hf
      · intro h27 w2_28 hf
        refine e_iload_n 0 dX10_rests_101 rfl rfl ?_
        exact e_iret rfl dX10_rests_102 (qW hf)
    · replace hf := e_ie c hf
      refine e_iconst (v := (-1)) dX10_rests_11 (by decide) ?_
      exact e_iret rfl dX10_rests_12 (qW hf)
def f_X10_nextDraw (v0 : Int32) : Int32 :=
  (v0 * 1103515245) + 12345
set_option maxRecDepth 100000 in
set_option maxHeartbeats 4000000 in
theorem m_X10_nextDraw {l : Launch} {d : Nat} {L : eL} {h : eH} {v0 : Int32} {r : Int32} (hd : 1 ≤ d) (hf : f_X10_nextDraw v0 = r) : e_Met l yX10_nextDraw cX10_nextDraw 1 (some .int) d 0 0 true L h [.int v0] (Qx (some (.int r)) L h) := by
  refine e_metl (by decide) (Nat.le_of_ble_eq_true rfl) (lv := [(0, .int v0)]) rfl ?_
  unfold f_X10_nextDraw at hf
  refine e_iload_n 0 dX10_nextDraw_0 rfl rfl ?_
  refine e_ldcw kc_RX10_442 dX10_nextDraw_1 ?_
  refine e_imul dX10_nextDraw_4 ?_
  refine e_sipush (v := 12345) dX10_nextDraw_5 (by decide) ?_
  refine e_iadd dX10_nextDraw_8 ?_
  exact e_iret rfl dX10_nextDraw_9 (qT hf)
def f_X10_drawn (v0 : Int32) (v1 : Int32) : Option Int32 :=
  if v1 ≤ 0 then
    some 0
  else
    if v1 = 0 then none else
    some (((v0.toUInt32 >>> ((16 : Int32).toUInt32 &&& Int32.toUInt32 31)).toInt32) - ((v0.toUInt32 >>> ((16 : Int32).toUInt32 &&& Int32.toUInt32 31)).toInt32) / v1 * v1)
set_option maxRecDepth 100000 in
set_option maxHeartbeats 4000000 in
theorem m_X10_drawn {l : Launch} {d : Nat} {L : eL} {h : eH} {v0 : Int32} {v1 : Int32} {r : Int32} (hd : 1 ≤ d) (hf : f_X10_drawn v0 v1 = some r) : e_Met l yX10_drawn cX10_drawn 2 (some .int) d 0 0 true L h [.int v0, .int v1] (Qx (some (.int r)) L h) := by
  refine e_metl (by decide) (Nat.le_of_ble_eq_true rfl) (lv := [(0, .int v0), (1, .int v1)]) rfl ?_
  unfold f_X10_drawn at hf
  refine e_iload_n 1 dX10_drawn_0 rfl rfl ?_
  refine e_if_le (t := 13) dX10_drawn_1 (by decide) (fun c => ?_) (fun c => ?_)
  · replace hf := e_it c hf
    refine e_iconst (v := 0) dX10_drawn_13 (by decide) ?_
    exact e_iret rfl dX10_drawn_14 (qP hf)
  · replace hf := e_ie c hf
    refine e_iload_n 0 dX10_drawn_4 rfl rfl ?_
    refine e_bipush (v := 16) dX10_drawn_5 (by decide) ?_
    refine e_iushr dX10_drawn_7 ?_
    refine e_iload_n 1 dX10_drawn_8 rfl rfl ?_
    obtain ⟨hz1, hf⟩ := e_ifp hf
    refine e_irem dX10_drawn_9 hz1 ?_
    refine e_goto (t := 14) dX10_drawn_10 (by decide) ?_
    exact e_iret rfl dX10_drawn_14 (qP hf)
def f_X10_weeks_L29 (L : eL) : Nat → (eH → Nat → Option (eH × Int32)) → eH → Nat → Int32 → Int32 → Int32 → Option (eH × Int32)
  | 0, _, _, _, _, _, _ => none
  | n + 1, k152, h, v0, v2, v3, v4 =>
    if v2 ≤ v4 then
      k152 h v0
    else
      (f_X10_drawn (f_X10_nextDraw v3) 8).bind fun r9 =>
      if r9 = 7 then
        if isO L v0 10 = true then
        (gR h v0 9).bind fun b39 =>
        (gR h v0 15).bind fun b41 =>
        if isO L b39 6 = true then
        (f_X6_dayFalls L h b39 b41).bind fun r44 =>
        f_X10_weeks_L29 L n k152 r44 v0 v2 (f_X10_nextDraw v3) (v4 + Int32.ofInt 1)
        else none
        else none
      else
        if r9 = 6 then
          if isO L v0 10 = true then
          (gR h v0 9).bind fun b33 =>
          if isO L b33 6 = true then
          (f_X6_turnBy L h b33 1).bind fun r36 =>
          f_X10_weeks_L29 L n k152 r36 v0 v2 (f_X10_nextDraw v3) (v4 + Int32.ofInt 1)
          else none
          else none
        else
          if isO L v0 10 = true then
          (gR h v0 9).bind fun b12 =>
          (f_X10_goOn L h v0 b12 0 (-1)).bind fun r14 =>
          (gR r14.1 v0 15).bind fun b16 =>
          if isO L b16 2 = true then
          (gR r14.1 v0 9).bind fun b19 =>
          if isO L b19 6 = true then
          if (f_X10_holds (gL r14.1 b16 5) (gI r14.1 b19 1)) = 0 then
            f_X10_weeks_L29 L n k152 r14.1 v0 v2 (f_X10_nextDraw v3) (v4 + Int32.ofInt 1)
          else
            (gR r14.1 v0 9).bind fun b22 =>
            (f_X10_drawn (f_X10_nextDraw (f_X10_nextDraw v3)) 4).bind fun r24 =>
            if r24 = 0 then
              if isO L b22 6 = true then
              (f_X6_turnBy L r14.1 b22 (f_X10_oneIf 1)).bind fun r30 =>
              f_X10_weeks_L29 L n k152 r30 v0 v2 (f_X10_nextDraw (f_X10_nextDraw v3)) (v4 + Int32.ofInt 1)
              else none
            else
              if isO L b22 6 = true then
              (f_X6_turnBy L r14.1 b22 (f_X10_oneIf 0)).bind fun r27 =>
              f_X10_weeks_L29 L n k152 r27 v0 v2 (f_X10_nextDraw (f_X10_nextDraw v3)) (v4 + Int32.ofInt 1)
              else none
          else none
          else none
          else none
set_option maxRecDepth 100000 in
set_option maxHeartbeats 4000000 in
theorem m_X10_weeks_L29 {l : Launch} {d : Nat} {L : eL}  {r : eH × Int32} {k152 : eH → Nat → Option (eH × Int32)} (hd : 5 ≤ d) (hk152 : ∀ (h : eH) (v0 : Nat), k152 h v0 = some r → E l yX10_weeks cX10_weeks 6 (some .int) (e_rm d 0 0) 0 0 true L (Qx (some (.int r.2)) L r.1) L h 0 0 152 [(0, .ref v0)] []) : ∀ (n : Nat) (h : eH) (v0 : Nat) (v2 : Int32) (v3 : Int32) (v4 : Int32), f_X10_weeks_L29 L n k152 h v0 v2 v3 v4 = some r → E l yX10_weeks cX10_weeks 6 (some .int) (e_rm d 0 0) 0 0 true L (Qx (some (.int r.2)) L r.1) L h 0 0 29 [(0, .ref v0), (2, .int v2), (3, .int v3), (4, .int v4)] [] := by
  intro n
  induction n with
  | zero => intro h v0 v2 v3 v4 hf; exact absurd hf (by simp [f_X10_weeks_L29])
  | succ n ih =>
    intro h v0 v2 v3 v4 hf
    unfold f_X10_weeks_L29 at hf
    refine e_iload 3 dX10_weeks_29 rfl ?_
    refine e_iload_n 1 dX10_weeks_31 rfl rfl ?_
    refine e_icmp_ge (t := 152) dX10_weeks_32 (by decide) (fun c => ?_) (fun c => ?_)
    · replace hf := e_it c hf
      refine e_sub [0] rfl ?_
      exact hk152 _ _ hf
    · replace hf := e_ie c hf
      refine e_iload_n 2 dX10_weeks_35 rfl rfl ?_
      refine e_callS (st := []) ml_RX10_433 k_X10_nextDraw (m_X10_nextDraw (d := d - 1) (by omega) rfl) rfl rfl (Nat.le_of_ble_eq_true rfl) ⟨by omega, by decide⟩ ⟨Nat.le_refl _, Nat.le_refl _⟩ dX10_weeks_36 ?_
      refine e_istore_n (lv' := [(3, .int _), (0, .ref _), (2, .int _), (4, .int _)]) dX10_weeks_39 rfl (by decide) rfl ?_
      refine e_iload_n 0 dX10_weeks_40 rfl rfl ?_
      refine e_bipush (v := 8) dX10_weeks_41 (by decide) ?_
      obtain ⟨r9, hr10, hf⟩ := e_bd hf
      refine e_callS (st := []) ml_RX10_436 k_X10_drawn (m_X10_drawn (d := d - 1) (by omega) hr10) rfl rfl (Nat.le_of_ble_eq_true rfl) ⟨by omega, by decide⟩ ⟨Nat.le_refl _, Nat.le_refl _⟩ dX10_weeks_43 ?_
      refine e_istore (lv' := [(5, .int _), (3, .int _), (0, .ref _), (2, .int _), (4, .int _)]) dX10_weeks_46 (by decide) rfl ?_
      refine e_iload 0 dX10_weeks_48 rfl ?_
      refine e_bipush (v := 7) dX10_weeks_50 (by decide) ?_
      refine e_icmp_ne (t := 69) dX10_weeks_52 (by decide) (fun c => ?_) (fun c => ?_)
      · replace hf := e_ie c hf
        refine e_iload 0 dX10_weeks_69 rfl ?_
        refine e_bipush (v := 6) dX10_weeks_71 (by decide) ?_
        refine e_icmp_ne (t := 87) dX10_weeks_73 (by decide) (fun c => ?_) (fun c => ?_)
        · replace hf := e_ie c hf
          refine e_aload_n 2 dX10_weeks_87 rfl rfl ?_
          refine e_aload_n 2 dX10_weeks_88 rfl rfl ?_
          obtain ⟨hO11, hf⟩ := e_if hf
          obtain ⟨b12, hb13, hf⟩ := e_bd hf
          refine e_getR hO11 fc_10_9 lk_RX10_68 dX10_weeks_89 hb13 ?_
          refine e_iconst (v := 0) dX10_weeks_92 (by decide) ?_
          refine e_iconst (v := (-1)) dX10_weeks_93 (by decide) ?_
          obtain ⟨r14, hr15, hf⟩ := e_bd hf
          refine e_callV (st := []) ml_RX10_278 k_X10_goOn (m_X10_goOn (d := d - 1) (by omega) hr15) hO11 ⟨by decide, rfl⟩ rfl rfl (Nat.le_of_ble_eq_true rfl) ⟨by omega, by decide⟩ ⟨Nat.le_refl _, Nat.le_refl _⟩ dX10_weeks_94 ?_
          refine e_popI dX10_weeks_97 ?_
          refine e_aload_n 2 dX10_weeks_98 rfl rfl ?_
          obtain ⟨b16, hb17, hf⟩ := e_bd hf
          refine e_getR hO11 fc_10_15 lk_RX10_92 dX10_weeks_99 hb17 ?_
          obtain ⟨hO18, hf⟩ := e_if hf
          refine e_getLN hO18 fc_2_5 lk_RX10_439 dX10_weeks_102 ?_
          refine e_aload_n 2 dX10_weeks_105 rfl rfl ?_
          obtain ⟨b19, hb20, hf⟩ := e_bd hf
          refine e_getR hO11 fc_10_9 lk_RX10_68 dX10_weeks_106 hb20 ?_
          obtain ⟨hO21, hf⟩ := e_if hf
          refine e_getIN hO21 fc_6_1 lk_RX10_183 dX10_weeks_109 ?_
          refine e_callS (st := []) ml_RX10_169 k_X10_holds (m_X10_holds (d := d - 1) (by omega) rfl) rfl rfl (Nat.le_of_ble_eq_true rfl) ⟨by omega, by decide⟩ ⟨Nat.le_refl _, Nat.le_refl _⟩ dX10_weeks_112 ?_
          refine e_if_eq (t := 146) dX10_weeks_115 (by decide) (fun c => ?_) (fun c => ?_)
          · replace hf := e_it c hf
            refine e_iinc (lv' := [(4, .int _), (5, .int _), (3, .int _), (0, .ref _), (2, .int _)]) 4 dX10_weeks_146 rfl (by decide) rfl ?_
            refine e_goto (t := 29) dX10_weeks_149 (by decide) ?_
            refine e_sub [3, 4, 2, 0] rfl ?_
            exact ih _ _ _ _ _ hf
          · replace hf := e_ie c hf
            refine e_iload_n 1 dX10_weeks_118 rfl rfl ?_
            refine e_callS (st := []) ml_RX10_433 k_X10_nextDraw (m_X10_nextDraw (d := d - 1) (by omega) rfl) rfl rfl (Nat.le_of_ble_eq_true rfl) ⟨by omega, by decide⟩ ⟨Nat.le_refl _, Nat.le_refl _⟩ dX10_weeks_119 ?_
            refine e_istore_n (lv' := [(3, .int _), (5, .int _), (0, .ref _), (2, .int _), (4, .int _)]) dX10_weeks_122 rfl (by decide) rfl ?_
            refine e_aload_n 2 dX10_weeks_123 rfl rfl ?_
            obtain ⟨b22, hb23, hf⟩ := e_bd hf
            refine e_getR hO11 fc_10_9 lk_RX10_68 dX10_weeks_124 hb23 ?_
            refine e_iload_n 0 dX10_weeks_127 rfl rfl ?_
            refine e_iconst (v := 4) dX10_weeks_128 (by decide) ?_
            obtain ⟨r24, hr25, hf⟩ := e_bd hf
            refine e_callS (st := [.ref _]) ml_RX10_436 k_X10_drawn (m_X10_drawn (d := d - 1) (by omega) hr25) rfl rfl (Nat.le_of_ble_eq_true rfl) ⟨by omega, by decide⟩ ⟨Nat.le_refl _, Nat.le_refl _⟩ dX10_weeks_129 ?_
            refine e_if_ne (t := 139) dX10_weeks_132 (by decide) (fun c => ?_) (fun c => ?_)
            · replace hf := e_ie c hf
              refine e_iconst (v := 0) dX10_weeks_139 (by decide) ?_
              refine e_callS (st := [.ref _]) ml_RX10_173 k_X10_oneIf (m_X10_oneIf (d := d - 1) (by omega) rfl) rfl rfl (Nat.le_of_ble_eq_true rfl) ⟨by omega, by decide⟩ ⟨Nat.le_refl _, Nat.le_refl _⟩ dX10_weeks_140 ?_
              obtain ⟨hO26, hf⟩ := e_if hf
              obtain ⟨r27, hr28, hf⟩ := e_bd hf
              refine e_callV (st := []) ml_RX10_282 k_X6_turnBy (m_X6_turnBy (d := d - 1) (by omega) hr28) hO26 ⟨by decide, rfl⟩ rfl rfl (Nat.le_of_ble_eq_true rfl) ⟨by omega, by decide⟩ ⟨Nat.le_refl _, Nat.le_refl _⟩ dX10_weeks_143 ?_
              refine e_iinc (lv' := [(4, .int _), (3, .int _), (5, .int _), (0, .ref _), (2, .int _)]) 4 dX10_weeks_146 rfl (by decide) rfl ?_
              refine e_goto (t := 29) dX10_weeks_149 (by decide) ?_
              refine e_sub [3, 4, 1, 0] rfl ?_
              exact ih _ _ _ _ _ hf
            · replace hf := e_it c hf
              refine e_iconst (v := 1) dX10_weeks_135 (by decide) ?_
              refine e_goto (t := 140) dX10_weeks_136 (by decide) ?_
              refine e_callS (st := [.ref _]) ml_RX10_173 k_X10_oneIf (m_X10_oneIf (d := d - 1) (by omega) rfl) rfl rfl (Nat.le_of_ble_eq_true rfl) ⟨by omega, by decide⟩ ⟨Nat.le_refl _, Nat.le_refl _⟩ dX10_weeks_140 ?_
              obtain ⟨hO29, hf⟩ := e_if hf
              obtain ⟨r30, hr31, hf⟩ := e_bd hf
              refine e_callV (st := []) ml_RX10_282 k_X6_turnBy (m_X6_turnBy (d := d - 1) (by omega) hr31) hO29 ⟨by decide, rfl⟩ rfl rfl (Nat.le_of_ble_eq_true rfl) ⟨by omega, by decide⟩ ⟨Nat.le_refl _, Nat.le_refl _⟩ dX10_weeks_143 ?_
              refine e_iinc (lv' := [(4, .int _), (3, .int _), (5, .int _), (0, .ref _), (2, .int _)]) 4 dX10_weeks_146 rfl (by decide) rfl ?_
              refine e_goto (t := 29) dX10_weeks_149 (by decide) ?_
              refine e_sub [3, 4, 1, 0] rfl ?_
              exact ih _ _ _ _ _ hf
        · replace hf := e_it c hf
          refine e_aload_n 2 dX10_weeks_76 rfl rfl ?_
          obtain ⟨hO32, hf⟩ := e_if hf
          obtain ⟨b33, hb34, hf⟩ := e_bd hf
          refine e_getR hO32 fc_10_9 lk_RX10_68 dX10_weeks_77 hb34 ?_
          refine e_iconst (v := 1) dX10_weeks_80 (by decide) ?_
          obtain ⟨hO35, hf⟩ := e_if hf
          obtain ⟨r36, hr37, hf⟩ := e_bd hf
          refine e_callV (st := []) ml_RX10_282 k_X6_turnBy (m_X6_turnBy (d := d - 1) (by omega) hr37) hO35 ⟨by decide, rfl⟩ rfl rfl (Nat.le_of_ble_eq_true rfl) ⟨by omega, by decide⟩ ⟨Nat.le_refl _, Nat.le_refl _⟩ dX10_weeks_81 ?_
          refine e_goto (t := 146) dX10_weeks_84 (by decide) ?_
          refine e_iinc (lv' := [(4, .int _), (5, .int _), (3, .int _), (0, .ref _), (2, .int _)]) 4 dX10_weeks_146 rfl (by decide) rfl ?_
          refine e_goto (t := 29) dX10_weeks_149 (by decide) ?_
          refine e_sub [3, 4, 2, 0] rfl ?_
          exact ih _ _ _ _ _ hf
      · replace hf := e_it c hf
        refine e_aload_n 2 dX10_weeks_55 rfl rfl ?_
        obtain ⟨hO38, hf⟩ := e_if hf
        obtain ⟨b39, hb40, hf⟩ := e_bd hf
        refine e_getR hO38 fc_10_9 lk_RX10_68 dX10_weeks_56 hb40 ?_
        refine e_aload_n 2 dX10_weeks_59 rfl rfl ?_
        obtain ⟨b41, hb42, hf⟩ := e_bd hf
        refine e_getR hO38 fc_10_15 lk_RX10_92 dX10_weeks_60 hb42 ?_
        obtain ⟨hO43, hf⟩ := e_if hf
        obtain ⟨r44, hr45, hf⟩ := e_bd hf
        refine e_callV (st := []) ml_RX10_285 k_X6_dayFalls (m_X6_dayFalls (d := d - 1) (by omega) hr45) hO43 ⟨by decide, rfl⟩ rfl rfl (Nat.le_of_ble_eq_true rfl) ⟨by omega, by decide⟩ ⟨Nat.le_refl _, Nat.le_refl _⟩ dX10_weeks_63 ?_
        refine e_goto (t := 146) dX10_weeks_66 (by decide) ?_
        refine e_iinc (lv' := [(4, .int _), (5, .int _), (3, .int _), (0, .ref _), (2, .int _)]) 4 dX10_weeks_146 rfl (by decide) rfl ?_
        refine e_goto (t := 29) dX10_weeks_149 (by decide) ?_
        refine e_sub [3, 4, 2, 0] rfl ?_
        exact ih _ _ _ _ _ hf
def f_X10_weeks (L : eL) (h : eH) (v0 : Nat) (v1 : Int32) (v2 : Int32) : Option (eH × Int32) :=
  if v2 < 1 then
    some (h, (-1))
  else
    if v2 ≤ 60 then
      if isO L v0 10 = true then
      (gR h v0 9).bind fun b2 =>
      (gR h v0 7).bind fun b4 =>
      if isO L b2 6 = true then
      (f_X6_copyFrom L h b2 b4).bind fun r7 =>
      f_X10_weeks_L29 L e_fu (fun (h46 : eH) (w0_47 : Nat) =>
        if isO L w0_47 10 = true then
        (gR h46 w0_47 1).bind fun b49 =>
        if isO L b49 3 = true then
        (f_X3_begin L h46 b49).bind fun r52 =>
        (gR r52 w0_47 1).bind fun b54 =>
        (gR r52 w0_47 9).bind fun b56 =>
        if isO L b56 6 = true then
        if isO L b54 3 = true then
        (f_X3_add L r52 b54 ((gI r52 b56 1).toInt64)).bind fun r60 =>
        (gR r60 w0_47 1).bind fun b62 =>
        (gR r60 w0_47 9).bind fun b64 =>
        if isO L b64 6 = true then
        (f_X6_dustOfAll L r60 b64).bind fun r67 =>
        if isO L b62 3 = true then
        (f_X3_add L r60 b62 r67.toInt64).bind fun r70 =>
        (gR r70 w0_47 9).bind fun b72 =>
        if isO L b72 6 = true then
        (gR r70 w0_47 7).bind fun b75 =>
        if isO L b75 6 = true then
        some (r70, (gI r70 b72 4) - (gI r70 b75 4))
        else none
        else none
        else none
        else none
        else none
        else none
        else none
        else none) r7 v0 v2 v1 0
      else none
      else none
    else
      some (h, (-1))
set_option maxRecDepth 100000 in
set_option maxHeartbeats 4000000 in
theorem m_X10_weeks {l : Launch} {d : Nat} {L : eL} {h : eH} {v0 : Nat} {v1 : Int32} {v2 : Int32} {r : eH × Int32} (hd : 5 ≤ d) (hf : f_X10_weeks L h v0 v1 v2 = some r) : e_Met l yX10_weeks cX10_weeks 6 (some .int) d 0 0 true L h [.ref v0, .int v1, .int v2] (Qx (some (.int r.2)) L r.1) := by
  refine e_metl (by decide) (Nat.le_of_ble_eq_true rfl) (lv := [(0, .ref v0), (1, .int v1), (2, .int v2)]) rfl ?_
  unfold f_X10_weeks at hf
  refine e_iload_n 2 dX10_weeks_0 rfl rfl ?_
  refine e_iconst (v := 1) dX10_weeks_1 (by decide) ?_
  refine e_icmp_lt (t := 11) dX10_weeks_2 (by decide) (fun c => ?_) (fun c => ?_)
  · replace hf := e_it c hf
    refine e_iconst (v := (-1)) dX10_weeks_11 (by decide) ?_
    exact e_iret rfl dX10_weeks_12 (qW hf)
  · replace hf := e_ie c hf
    refine e_iload_n 2 dX10_weeks_5 rfl rfl ?_
    refine e_bipush (v := 60) dX10_weeks_6 (by decide) ?_
    refine e_icmp_le (t := 13) dX10_weeks_8 (by decide) (fun c => ?_) (fun c => ?_)
    · replace hf := e_it c hf
      refine e_aload_n 0 dX10_weeks_13 rfl rfl ?_
      obtain ⟨hO1, hf⟩ := e_if hf
      obtain ⟨b2, hb3, hf⟩ := e_bd hf
      refine e_getR hO1 fc_10_9 lk_RX10_68 dX10_weeks_14 hb3 ?_
      refine e_aload_n 0 dX10_weeks_17 rfl rfl ?_
      obtain ⟨b4, hb5, hf⟩ := e_bd hf
      refine e_getR hO1 fc_10_7 lk_RX10_61 dX10_weeks_18 hb5 ?_
      obtain ⟨hO6, hf⟩ := e_if hf
      obtain ⟨r7, hr8, hf⟩ := e_bd hf
      refine e_callV (st := []) ml_RX10_230 k_X6_copyFrom (m_X6_copyFrom (d := d - 1) (by omega) hr8) hO6 ⟨by decide, rfl⟩ rfl rfl (Nat.le_of_ble_eq_true rfl) ⟨by omega, by decide⟩ ⟨Nat.le_refl _, Nat.le_refl _⟩ dX10_weeks_21 ?_
      refine e_iload_n 1 dX10_weeks_24 rfl rfl ?_
      refine e_istore_n (lv' := [(3, .int _), (0, .ref _), (1, .int _), (2, .int _)]) dX10_weeks_25 rfl (by decide) rfl ?_
      refine e_iconst (v := 0) dX10_weeks_26 (by decide) ?_
      refine e_istore (lv' := [(4, .int _), (3, .int _), (0, .ref _), (1, .int _), (2, .int _)]) dX10_weeks_27 (by decide) rfl ?_
      refine e_sub [2, 4, 1, 0] rfl ?_
      refine m_X10_weeks_L29 hd ?_ e_fu _ _ _ _ _ hf
      · intro h46 w0_47 hf
        refine e_aload_n 0 dX10_weeks_152 rfl rfl ?_
        obtain ⟨hO48, hf⟩ := e_if hf
        obtain ⟨b49, hb50, hf⟩ := e_bd hf
        refine e_getR hO48 fc_10_1 lk_RX10_19 dX10_weeks_153 hb50 ?_
        obtain ⟨hO51, hf⟩ := e_if hf
        obtain ⟨r52, hr53, hf⟩ := e_bd hf
        refine e_callV (st := []) ml_RX10_267 k_X3_begin (m_X3_begin (d := d - 1) (by omega) hr53) hO51 ⟨by decide, rfl⟩ rfl rfl (Nat.le_of_ble_eq_true rfl) ⟨by omega, by decide⟩ ⟨Nat.le_refl _, Nat.le_refl _⟩ dX10_weeks_156 ?_
        refine e_aload_n 0 dX10_weeks_159 rfl rfl ?_
        obtain ⟨b54, hb55, hf⟩ := e_bd hf
        refine e_getR hO48 fc_10_1 lk_RX10_19 dX10_weeks_160 hb55 ?_
        refine e_aload_n 0 dX10_weeks_163 rfl rfl ?_
        obtain ⟨b56, hb57, hf⟩ := e_bd hf
        refine e_getR hO48 fc_10_9 lk_RX10_68 dX10_weeks_164 hb57 ?_
        obtain ⟨hO58, hf⟩ := e_if hf
        refine e_getIN hO58 fc_6_1 lk_RX10_183 dX10_weeks_167 ?_
        refine e_i2l dX10_weeks_170 ?_
        obtain ⟨hO59, hf⟩ := e_if hf
        obtain ⟨r60, hr61, hf⟩ := e_bd hf
        refine e_callV (st := []) ml_RX10_269 k_X3_add (m_X3_add (d := d - 1) (by omega) hr61) hO59 ⟨by decide, rfl⟩ rfl rfl (Nat.le_of_ble_eq_true rfl) ⟨by omega, by decide⟩ ⟨Nat.le_refl _, Nat.le_refl _⟩ dX10_weeks_171 ?_
        refine e_aload_n 0 dX10_weeks_174 rfl rfl ?_
        obtain ⟨b62, hb63, hf⟩ := e_bd hf
        refine e_getR hO48 fc_10_1 lk_RX10_19 dX10_weeks_175 hb63 ?_
        refine e_aload_n 0 dX10_weeks_178 rfl rfl ?_
        obtain ⟨b64, hb65, hf⟩ := e_bd hf
        refine e_getR hO48 fc_10_9 lk_RX10_68 dX10_weeks_179 hb65 ?_
        obtain ⟨hO66, hf⟩ := e_if hf
        obtain ⟨r67, hr68, hf⟩ := e_bd hf
        refine e_callV (st := [.ref _]) ml_RX10_227 k_X6_dustOfAll (m_X6_dustOfAll (d := d - 1) (by omega) hr68) hO66 ⟨by decide, rfl⟩ rfl rfl (Nat.le_of_ble_eq_true rfl) ⟨by omega, by decide⟩ ⟨Nat.le_refl _, Nat.le_refl _⟩ dX10_weeks_182 ?_
        refine e_i2l dX10_weeks_185 ?_
        obtain ⟨hO69, hf⟩ := e_if hf
        obtain ⟨r70, hr71, hf⟩ := e_bd hf
        refine e_callV (st := []) ml_RX10_269 k_X3_add (m_X3_add (d := d - 1) (by omega) hr71) hO69 ⟨by decide, rfl⟩ rfl rfl (Nat.le_of_ble_eq_true rfl) ⟨by omega, by decide⟩ ⟨Nat.le_refl _, Nat.le_refl _⟩ dX10_weeks_186 ?_
        refine e_aload_n 0 dX10_weeks_189 rfl rfl ?_
        obtain ⟨b72, hb73, hf⟩ := e_bd hf
        refine e_getR hO48 fc_10_9 lk_RX10_68 dX10_weeks_190 hb73 ?_
        obtain ⟨hO74, hf⟩ := e_if hf
        refine e_getIN hO74 fc_6_4 lk_RX10_198 dX10_weeks_193 ?_
        refine e_aload_n 0 dX10_weeks_196 rfl rfl ?_
        obtain ⟨b75, hb76, hf⟩ := e_bd hf
        refine e_getR hO48 fc_10_7 lk_RX10_61 dX10_weeks_197 hb76 ?_
        obtain ⟨hO77, hf⟩ := e_if hf
        refine e_getIN hO77 fc_6_4 lk_RX10_198 dX10_weeks_200 ?_
        refine e_isub dX10_weeks_203 ?_
        exact e_iret rfl dX10_weeks_204 (qW hf)
    · replace hf := e_ie c hf
      refine e_iconst (v := (-1)) dX10_weeks_11 (by decide) ?_
      exact e_iret rfl dX10_weeks_12 (qW hf)
def f_X10_keep (L : eL) (h : eH) (v0 : Nat) (v1 : Int32) : Option (eH × Int32) :=
  if v1 < 0 then
    some (h, 0)
  else
    if v1 < 3 then
      if isO L v0 10 = true then
      (gR h v0 10).bind fun b2 =>
      if inA L b2 3 v1 = true then
      (gR h b2 v1.toNatClampNeg).bind fun b5 =>
      (gR h v0 7).bind fun b7 =>
      if isO L b5 6 = true then
      (f_X6_copyFrom L h b5 b7).bind fun r10 =>
      (some (sI r10 v0 19 ((gI r10 v0 19) ||| (1 <<< (v1 &&& 31))))).bind fun h12 =>
      some (h12, 1)
      else none
      else none
      else none
    else
      some (h, 0)
set_option maxRecDepth 100000 in
set_option maxHeartbeats 4000000 in
theorem m_X10_keep {l : Launch} {d : Nat} {L : eL} {h : eH} {v0 : Nat} {v1 : Int32} {r : eH × Int32} (hd : 3 ≤ d) (hf : f_X10_keep L h v0 v1 = some r) : e_Met l yX10_keep cX10_keep 3 (some .boolean) d 0 0 true L h [.ref v0, .int v1] (Qx (some (.int r.2)) L r.1) := by
  refine e_metl (by decide) (Nat.le_of_ble_eq_true rfl) (lv := [(0, .ref v0), (1, .int v1)]) rfl ?_
  unfold f_X10_keep at hf
  refine e_iload_n 1 dX10_keep_0 rfl rfl ?_
  refine e_if_lt (t := 9) dX10_keep_1 (by decide) (fun c => ?_) (fun c => ?_)
  · replace hf := e_it c hf
    refine e_iconst (v := 0) dX10_keep_9 (by decide) ?_
    exact e_zret (ty := .boolean) rfl rfl dX10_keep_10 (qW hf)
  · replace hf := e_ie c hf
    refine e_iload_n 1 dX10_keep_4 rfl rfl ?_
    refine e_iconst (v := 3) dX10_keep_5 (by decide) ?_
    refine e_icmp_lt (t := 11) dX10_keep_6 (by decide) (fun c => ?_) (fun c => ?_)
    · replace hf := e_it c hf
      refine e_aload_n 0 dX10_keep_11 rfl rfl ?_
      obtain ⟨hO1, hf⟩ := e_if hf
      obtain ⟨b2, hb3, hf⟩ := e_bd hf
      refine e_getR hO1 fc_10_10 lk_RX10_71 dX10_keep_12 hb3 ?_
      refine e_iload_n 1 dX10_keep_15 rfl rfl ?_
      obtain ⟨hI4, hf⟩ := e_if hf
      obtain ⟨b5, hb6, hf⟩ := e_bd hf
      refine e_rald hI4 hb6 dX10_keep_16 ?_
      refine e_astore_n (lv' := [(2, .ref _), (0, .ref _), (1, .int _)]) dX10_keep_17 rfl (by decide) rfl ?_
      refine e_aload_n 0 dX10_keep_18 rfl rfl ?_
      refine e_ifnonnull (t := 24) dX10_keep_19 (by decide) ?_
      refine e_aload_n 0 dX10_keep_24 rfl rfl ?_
      refine e_aload_n 1 dX10_keep_25 rfl rfl ?_
      obtain ⟨b7, hb8, hf⟩ := e_bd hf
      refine e_getR hO1 fc_10_7 lk_RX10_61 dX10_keep_26 hb8 ?_
      obtain ⟨hO9, hf⟩ := e_if hf
      obtain ⟨r10, hr11, hf⟩ := e_bd hf
      refine e_callV (st := []) ml_RX10_230 k_X6_copyFrom (m_X6_copyFrom (d := d - 1) (by omega) hr11) hO9 ⟨by decide, rfl⟩ rfl rfl (Nat.le_of_ble_eq_true rfl) ⟨by omega, by decide⟩ ⟨Nat.le_refl _, Nat.le_refl _⟩ dX10_keep_29 ?_
      refine e_aload_n 1 dX10_keep_32 rfl rfl ?_
      refine e_dupR dX10_keep_33 ?_
      refine e_getI hO1 fc_10_19 lk_RX10_109 dX10_keep_34 ?_
      refine e_iconst (v := 1) dX10_keep_37 (by decide) ?_
      refine e_iload_n 2 dX10_keep_38 rfl rfl ?_
      refine e_ishl dX10_keep_39 ?_
      refine e_ior dX10_keep_40 ?_
      refine e_putI hO1 fc_10_19 rfl lk_RX10_109 dX10_keep_41 ?_
      obtain ⟨h12, hh13, hf⟩ := e_bd hf
      refine e_hn hh13 ?_
      refine e_iconst (v := 1) dX10_keep_44 (by decide) ?_
      exact e_zret (ty := .boolean) rfl rfl dX10_keep_45 (qW hf)
    · replace hf := e_ie c hf
      refine e_iconst (v := 0) dX10_keep_9 (by decide) ?_
      exact e_zret (ty := .boolean) rfl rfl dX10_keep_10 (qW hf)
def f_X10_again (L : eL) (h : eH) (v0 : Nat) (v1 : Int32) : Option (eH × Int32) :=
  if v1 < 0 then
    some (h, 0)
  else
    if 3 ≤ v1 then
      some (h, 0)
    else
      if isO L v0 10 = true then
      if (((gI h v0 19) >>> (v1 &&& 31)) &&& 1) = 0 then
        some (h, 0)
      else
        (gR h v0 7).bind fun b2 =>
        (gR h v0 10).bind fun b4 =>
        if inA L b4 3 v1 = true then
        (gR h b4 v1.toNatClampNeg).bind fun b7 =>
        if isO L b2 6 = true then
        (f_X6_copyFrom L h b2 b7).bind fun r10 =>
        (gR r10 v0 3).bind fun b12 =>
        if isO L b12 1 = true then
        (f_X1_clear L r10 b12).bind fun r15 =>
        some (r15, 1)
        else none
        else none
        else none
      else none
set_option maxRecDepth 100000 in
set_option maxHeartbeats 4000000 in
theorem m_X10_again {l : Launch} {d : Nat} {L : eL} {h : eH} {v0 : Nat} {v1 : Int32} {r : eH × Int32} (hd : 3 ≤ d) (hf : f_X10_again L h v0 v1 = some r) : e_Met l yX10_again cX10_again 2 (some .boolean) d 0 0 true L h [.ref v0, .int v1] (Qx (some (.int r.2)) L r.1) := by
  refine e_metl (by decide) (Nat.le_of_ble_eq_true rfl) (lv := [(0, .ref v0), (1, .int v1)]) rfl ?_
  unfold f_X10_again at hf
  refine e_iload_n 1 dX10_again_0 rfl rfl ?_
  refine e_if_lt (t := 20) dX10_again_1 (by decide) (fun c => ?_) (fun c => ?_)
  · replace hf := e_it c hf
    refine e_iconst (v := 0) dX10_again_20 (by decide) ?_
    exact e_zret (ty := .boolean) rfl rfl dX10_again_21 (qW hf)
  · replace hf := e_ie c hf
    refine e_iload_n 1 dX10_again_4 rfl rfl ?_
    refine e_iconst (v := 3) dX10_again_5 (by decide) ?_
    refine e_icmp_ge (t := 20) dX10_again_6 (by decide) (fun c => ?_) (fun c => ?_)
    · replace hf := e_it c hf
      refine e_iconst (v := 0) dX10_again_20 (by decide) ?_
      exact e_zret (ty := .boolean) rfl rfl dX10_again_21 (qW hf)
    · replace hf := e_ie c hf
      refine e_aload_n 0 dX10_again_9 rfl rfl ?_
      obtain ⟨hO1, hf⟩ := e_if hf
      refine e_getI hO1 fc_10_19 lk_RX10_109 dX10_again_10 ?_
      refine e_iload_n 1 dX10_again_13 rfl rfl ?_
      refine e_ishr dX10_again_14 ?_
      refine e_iconst (v := 1) dX10_again_15 (by decide) ?_
      refine e_iand dX10_again_16 ?_
      refine e_if_ne (t := 22) dX10_again_17 (by decide) (fun c => ?_) (fun c => ?_)
      · replace hf := e_ie c hf
        refine e_aload_n 0 dX10_again_22 rfl rfl ?_
        obtain ⟨b2, hb3, hf⟩ := e_bd hf
        refine e_getR hO1 fc_10_7 lk_RX10_61 dX10_again_23 hb3 ?_
        refine e_aload_n 0 dX10_again_26 rfl rfl ?_
        obtain ⟨b4, hb5, hf⟩ := e_bd hf
        refine e_getR hO1 fc_10_10 lk_RX10_71 dX10_again_27 hb5 ?_
        refine e_iload_n 1 dX10_again_30 rfl rfl ?_
        obtain ⟨hI6, hf⟩ := e_if hf
        obtain ⟨b7, hb8, hf⟩ := e_bd hf
        refine e_rald hI6 hb8 dX10_again_31 ?_
        obtain ⟨hO9, hf⟩ := e_if hf
        obtain ⟨r10, hr11, hf⟩ := e_bd hf
        refine e_callV (st := []) ml_RX10_230 k_X6_copyFrom (m_X6_copyFrom (d := d - 1) (by omega) hr11) hO9 ⟨by decide, rfl⟩ rfl rfl (Nat.le_of_ble_eq_true rfl) ⟨by omega, by decide⟩ ⟨Nat.le_refl _, Nat.le_refl _⟩ dX10_again_32 ?_
        refine e_aload_n 0 dX10_again_35 rfl rfl ?_
        obtain ⟨b12, hb13, hf⟩ := e_bd hf
        refine e_getR hO1 fc_10_3 lk_RX10_33 dX10_again_36 hb13 ?_
        obtain ⟨hO14, hf⟩ := e_if hf
        obtain ⟨r15, hr16, hf⟩ := e_bd hf
        refine e_callV (st := []) ml_RX10_142 k_X1_clear (m_X1_clear (d := d - 1) (by omega) hr16) hO14 ⟨by decide, rfl⟩ rfl rfl (Nat.le_of_ble_eq_true rfl) ⟨by omega, by decide⟩ ⟨Nat.le_refl _, Nat.le_refl _⟩ dX10_again_39 ?_
        refine e_iconst (v := 1) dX10_again_42 (by decide) ?_
        exact e_zret (ty := .boolean) rfl rfl dX10_again_43 (qW hf)
      · replace hf := e_it c hf
        refine e_iconst (v := 0) dX10_again_20 (by decide) ?_
        exact e_zret (ty := .boolean) rfl rfl dX10_again_21 (qW hf)
def f_X3_size (L : eL) (h : eH) (v0 : Nat) : Option Int32 :=
  if isO L v0 3 = true then
  some (gI h v0 1)
  else none
set_option maxRecDepth 100000 in
set_option maxHeartbeats 4000000 in
theorem m_X3_size {l : Launch} {d : Nat} {L : eL} {h : eH} {v0 : Nat} {r : Int32} (hd : 1 ≤ d) (hf : f_X3_size L h v0 = some r) : e_Met l yX3_size cX3_size 1 (some .int) d 0 0 true L h [.ref v0] (Qx (some (.int r)) L h) := by
  refine e_metl (by decide) (Nat.le_of_ble_eq_true rfl) (lv := [(0, .ref v0)]) rfl ?_
  unfold f_X3_size at hf
  refine e_aload_n 0 dX3_size_0 rfl rfl ?_
  obtain ⟨hO1, hf⟩ := e_if hf
  refine e_getI hO1 fc_3_1 lk_RX3_15 dX3_size_1 ?_
  exact e_iret rfl dX3_size_4 (qP hf)

def f_X11_best_L59 (L : eL) : Nat → (eH → Nat → Option (eH × Int32)) → eH → Nat → Int32 → Option (eH × Int32)
  | 0, _, _, _, _ => none
  | n + 1, k84, h, v0, v2 =>
    if isO L v0 11 = true then
    if (gI h v0 34) ≤ v2 then
      k84 h v0
    else
      (gR h v0 33).bind fun b11 =>
      if inA L b11 0 v2 = true then
      (f_X11_enters L h v0 ((gI h b11 v2.toNatClampNeg).toInt64)).bind fun r14 =>
      f_X11_best_L59 L n k84 r14 v0 (v2 + Int32.ofInt 1)
      else none
    else none
set_option maxRecDepth 100000 in
set_option maxHeartbeats 4000000 in
theorem m_X11_best_L59 {l : Launch} {d : Nat} {L : eL}  {r : eH × Int32} {k84 : eH → Nat → Option (eH × Int32)} (hd : 104 ≤ d) (hk84 : ∀ (h : eH) (v0 : Nat), k84 h v0 = some r → E l yX11_best cX11_best 3 (some .int) (e_rm d 0 0) 0 0 true L (Qx (some (.int r.2)) L r.1) L h 0 0 84 [(0, .ref v0)] []) : ∀ (n : Nat) (h : eH) (v0 : Nat) (v2 : Int32), f_X11_best_L59 L n k84 h v0 v2 = some r → E l yX11_best cX11_best 3 (some .int) (e_rm d 0 0) 0 0 true L (Qx (some (.int r.2)) L r.1) L h 0 0 59 [(0, .ref v0), (2, .int v2)] [] := by
  intro n
  induction n with
  | zero => intro h v0 v2 hf; exact absurd hf (by simp [f_X11_best_L59])
  | succ n ih =>
    intro h v0 v2 hf
    unfold f_X11_best_L59 at hf
    refine e_iload_n 1 dX11_best_59 rfl rfl ?_
    refine e_aload_n 0 dX11_best_60 rfl rfl ?_
    obtain ⟨hO10, hf⟩ := e_if hf
    refine e_getI hO10 fc_11_34 lk_RX11_350 dX11_best_61 ?_
    refine e_icmp_ge (t := 84) dX11_best_64 (by decide) (fun c => ?_) (fun c => ?_)
    · replace hf := e_it c hf
      refine e_sub [0] rfl ?_
      exact hk84 _ _ hf
    · replace hf := e_ie c hf
      refine e_aload_n 0 dX11_best_67 rfl rfl ?_
      refine e_aload_n 0 dX11_best_68 rfl rfl ?_
      obtain ⟨b11, hb12, hf⟩ := e_bd hf
      refine e_getR hO10 fc_11_33 lk_RX11_86 dX11_best_69 hb12 ?_
      refine e_iload_n 1 dX11_best_72 rfl rfl ?_
      obtain ⟨hI13, hf⟩ := e_if hf
      refine e_iald hI13 dX11_best_73 ?_
      refine e_i2l dX11_best_74 ?_
      obtain ⟨r14, hr15, hf⟩ := e_bd hf
      refine e_callV (st := []) ml_RX11_18 k_X11_enters (m_X11_enters (d := d - 1) (by omega) hr15) hO10 ⟨by decide, rfl⟩ rfl rfl (Nat.le_of_ble_eq_true rfl) ⟨by omega, by decide⟩ ⟨Nat.le_refl _, Nat.le_refl _⟩ dX11_best_75 ?_
      refine e_iinc (lv' := [(2, .int _), (0, .ref _)]) 1 dX11_best_78 rfl (by decide) rfl ?_
      refine e_goto (t := 59) dX11_best_81 (by decide) ?_
      refine e_sub [1, 0] rfl ?_
      exact ih _ _ _ hf
def f_X11_best (L : eL) (h : eH) (v0 : Nat) (v1 : Int32) : Option (eH × Int32) :=
  if isO L v0 11 = true then
  if (f_X11_in v1.toInt64 0 6) = 0 then
    some (sI h v0 0 0, (-1))
  else
    (gR (sI (sI (sI h v0 0 0) v0 35 (-1)) v0 34 0) v0 7).bind fun b2 =>
    if inA L b2 0 72 = true then
    (gR (sI (sI (sI h v0 0 0) v0 35 (-1)) v0 34 0) v0 7).bind fun b5 =>
    if inA L b5 0 72 = true then
    (f_X11_gathers L (sI (sI (sI h v0 0 0) v0 35 (-1)) v0 34 0) v0 (gI (sI (sI (sI h v0 0 0) v0 35 (-1)) v0 34 0) b2 (72 : Int32).toNatClampNeg) 0 v1 ((1 : Int64) <<< ((gI (sI (sI (sI h v0 0 0) v0 35 (-1)) v0 34 0) b5 (72 : Int32).toNatClampNeg).toInt64 &&& 63)) 0).bind fun r8 =>
    f_X11_best_L59 L e_fu (fun (h16 : eH) (w0_17 : Nat) =>
      if isO L w0_17 11 = true then
      some (h16, gI h16 w0_17 35)
      else none) (sI r8 v0 1 0) v0 0
    else none
    else none
  else none
set_option maxRecDepth 100000 in
set_option maxHeartbeats 4000000 in
theorem m_X11_best {l : Launch} {d : Nat} {L : eL} {h : eH} {v0 : Nat} {v1 : Int32} {r : eH × Int32} (hd : 104 ≤ d) (hf : f_X11_best L h v0 v1 = some r) : e_Met l yX11_best cX11_best 3 (some .int) d 0 0 true L h [.ref v0, .int v1] (Qx (some (.int r.2)) L r.1) := by
  refine e_metl (by decide) (Nat.le_of_ble_eq_true rfl) (lv := [(0, .ref v0), (1, .int v1)]) rfl ?_
  unfold f_X11_best at hf
  refine e_aload_n 0 dX11_best_0 rfl rfl ?_
  refine e_iconst (v := 0) dX11_best_1 (by decide) ?_
  obtain ⟨hO1, hf⟩ := e_if hf
  refine e_putI hO1 fc_11_0 rfl lk_RX11_3 dX11_best_2 ?_
  refine e_iload_n 1 dX11_best_5 rfl rfl ?_
  refine e_i2l dX11_best_6 ?_
  refine e_lconst (v := 0) dX11_best_7 (by decide) ?_
  refine e_ldc2 kc_RX11_357 dX11_best_8 ?_
  refine e_callS (st := []) ml_RX11_118 k_X11_in (m_X11_in (d := d - 1) (by omega) rfl) rfl rfl (Nat.le_of_ble_eq_true rfl) ⟨by omega, by decide⟩ ⟨Nat.le_refl _, Nat.le_refl _⟩ dX11_best_11 ?_
  refine e_if_ne (t := 19) dX11_best_14 (by decide) (fun c => ?_) (fun c => ?_)
  · replace hf := e_ie c hf
    refine e_aload_n 0 dX11_best_19 rfl rfl ?_
    refine e_iconst (v := (-1)) dX11_best_20 (by decide) ?_
    refine e_putI hO1 fc_11_35 rfl lk_RX11_347 dX11_best_21 ?_
    refine e_aload_n 0 dX11_best_24 rfl rfl ?_
    refine e_iconst (v := 0) dX11_best_25 (by decide) ?_
    refine e_putI hO1 fc_11_34 rfl lk_RX11_350 dX11_best_26 ?_
    refine e_aload_n 0 dX11_best_29 rfl rfl ?_
    refine e_aload_n 0 dX11_best_30 rfl rfl ?_
    obtain ⟨b2, hb3, hf⟩ := e_bd hf
    refine e_getR hO1 fc_11_7 lk_RX11_41 dX11_best_31 hb3 ?_
    refine e_bipush (v := 72) dX11_best_34 (by decide) ?_
    obtain ⟨hI4, hf⟩ := e_if hf
    refine e_iald hI4 dX11_best_36 ?_
    refine e_iconst (v := 0) dX11_best_37 (by decide) ?_
    refine e_iload_n 1 dX11_best_38 rfl rfl ?_
    refine e_lconst (v := 1) dX11_best_39 (by decide) ?_
    refine e_aload_n 0 dX11_best_40 rfl rfl ?_
    obtain ⟨b5, hb6, hf⟩ := e_bd hf
    refine e_getR hO1 fc_11_7 lk_RX11_41 dX11_best_41 hb6 ?_
    refine e_bipush (v := 72) dX11_best_44 (by decide) ?_
    obtain ⟨hI7, hf⟩ := e_if hf
    refine e_iald hI7 dX11_best_46 ?_
    refine e_lshl dX11_best_47 ?_
    refine e_iconst (v := 0) dX11_best_48 (by decide) ?_
    obtain ⟨r8, hr9, hf⟩ := e_bd hf
    refine e_callV (st := []) ml_RX11_353 k_X11_gathers (m_X11_gathers (d := d - 1) (by omega) hr9) hO1 ⟨by decide, rfl⟩ rfl rfl (Nat.le_of_ble_eq_true rfl) ⟨by omega, by decide⟩ ⟨Nat.le_refl _, Nat.le_refl _⟩ dX11_best_49 ?_
    refine e_aload_n 0 dX11_best_52 rfl rfl ?_
    refine e_iconst (v := 0) dX11_best_53 (by decide) ?_
    refine e_putI hO1 fc_11_1 rfl lk_RX11_15 dX11_best_54 ?_
    refine e_iconst (v := 0) dX11_best_57 (by decide) ?_
    refine e_istore_n (lv' := [(2, .int _), (0, .ref _), (1, .int _)]) dX11_best_58 rfl (by decide) rfl ?_
    refine e_sub [1, 0] rfl ?_
    refine m_X11_best_L59 hd ?_ e_fu _ _ _ hf
    · intro h16 w0_17 hf
      refine e_aload_n 0 dX11_best_84 rfl rfl ?_
      obtain ⟨hO18, hf⟩ := e_if hf
      refine e_getI hO18 fc_11_35 lk_RX11_347 dX11_best_85 ?_
      exact e_iret rfl dX11_best_88 (qW hf)
  · replace hf := e_it c hf
    refine e_iconst (v := (-1)) dX11_best_17 (by decide) ?_
    exact e_iret rfl dX11_best_18 (qW hf)
def f_X11_common_o (rec_X11_common : Int64 → Int64 → Option Int64) (v0 : Int64) (v2 : Int64) : Option Int64 :=
  if (lg_cmp v2 0) = 0 then
    some v0
  else
    if v2 = 0 then none else
    (rec_X11_common v2 (v0 - v0 / v2 * v2)).bind fun r2 =>
    some r2
set_option maxRecDepth 100000 in
set_option maxHeartbeats 4000000 in
theorem m_X11_common_o {l : Launch} {d : Nat} {L : eL} {h : eH} {rec_X11_common : Int64 → Int64 → Option Int64} {v0 : Int64} {v2 : Int64} {r : Int64} (hd : 1 ≤ d) (hrec_X11_common : ∀ {h : eH} {a0 : Int64} {a1 : Int64} {z : Int64}, rec_X11_common a0 a1 = some z → e_Met l yX11_common cX11_common 4 (some .long) (d - 1) 0 0 true L h [.long a0, .long a1] (Qx (some (.long z)) L h)) (hf : f_X11_common_o rec_X11_common v0 v2 = some r) : e_Met l yX11_common cX11_common 4 (some .long) d 0 0 true L h [.long v0, .long v2] (Qx (some (.long r)) L h) := by
  refine e_metl (by decide) (Nat.le_of_ble_eq_true rfl) (lv := [(0, .long v0), (2, .long v2)]) rfl ?_
  unfold f_X11_common_o at hf
  refine e_lload_n 1 dX11_common_0 rfl rfl ?_
  refine e_lconst (v := 0) dX11_common_1 (by decide) ?_
  refine e_lcmp dX11_common_2 ?_
  refine e_if_ne (t := 10) dX11_common_3 (by decide) (fun c => ?_) (fun c => ?_)
  · replace hf := e_ie c hf
    refine e_lload_n 1 dX11_common_10 rfl rfl ?_
    refine e_lload_n 0 dX11_common_11 rfl rfl ?_
    refine e_lload_n 1 dX11_common_12 rfl rfl ?_
    obtain ⟨hz1, hf⟩ := e_ifp hf
    refine e_lrem dX11_common_13 hz1 ?_
    obtain ⟨r2, hr3, hf⟩ := e_bd hf
    refine e_callS (st := []) ml_RX11_7 k_X11_common (hrec_X11_common hr3) rfl rfl (Nat.le_of_ble_eq_true rfl) ⟨by omega, by decide⟩ ⟨Nat.le_refl _, Nat.le_refl _⟩ dX11_common_14 ?_
    exact e_lret rfl dX11_common_17 (qPL hf)
  · replace hf := e_it c hf
    refine e_lload_n 0 dX11_common_6 rfl rfl ?_
    refine e_goto (t := 17) dX11_common_7 (by decide) ?_
    exact e_lret rfl dX11_common_17 (qPL hf)
def fg_X11_common : Nat → Nat → Int64 → Int64 → Option Int64
  | 0, _, _, _ => none
  | n + 1, t, x0, x1 =>
    f_X11_common_o (fun y0 y1 => fg_X11_common n 0 y0 y1) x0 x1
theorem mg_X11_common {l : Launch} {L : eL} : ∀ (n d : Nat), 1 + n ≤ d → ∀ (t : Nat) (h : eH) (x0 : Int64) (x1 : Int64) (r : Int64), fg_X11_common n t x0 x1 = some r → (True → e_Met l yX11_common cX11_common 4 (some .long) d 0 0 true L h [.long x0, .long x1] (Qx (some (.long r)) L h)) := by
  intro n
  induction n with
  | zero => intro d hd t h x0 x1 r hf; exact absurd hf (by simp [fg_X11_common])
  | succ n ih =>
    intro d hd t h x0 x1 r hf
    unfold fg_X11_common at hf
    refine ?_
    exact fun _ => m_X11_common_o (by omega) (fun hz => (ih (d - 1) (by omega) 0 _ _ _ _ hz) (trivial)) hf
def f_X11_common (x0 : Int64) (x1 : Int64) : Option Int64 := fg_X11_common 100 0 x0 x1
theorem m_X11_common {l : Launch} {d : Nat} {L : eL} {h : eH} {x0 : Int64} {x1 : Int64} {r : Int64} (hd : 101 ≤ d) (hf : f_X11_common x0 x1 = some r) : e_Met l yX11_common cX11_common 4 (some .long) d 0 0 true L h [.long x0, .long x1] (Qx (some (.long r)) L h) := (mg_X11_common 100 d (by omega) 0 h x0 x1 r hf) (trivial)
def f_X11_tellsFraction (L : eL) (h : eH) (v0 : Nat) (v1 : Int64) (v3 : Int64) : Option eH :=
  (f_X11_common v1 v3).bind fun r1 =>
  if isO L v0 11 = true then
  if r1 = 0 then none else
  (f_X11_enters L (sI h v0 1 0) v0 (v1 / r1)).bind fun r5 =>
  if r1 = 0 then none else
  (f_X11_enters L r5 v0 (v3 / r1)).bind fun r8 =>
  some r8
  else none
set_option maxRecDepth 100000 in
set_option maxHeartbeats 4000000 in
theorem m_X11_tellsFraction {l : Launch} {d : Nat} {L : eL} {h : eH} {v0 : Nat} {v1 : Int64} {v3 : Int64} {r : eH} (hd : 102 ≤ d) (hf : f_X11_tellsFraction L h v0 v1 v3 = some r) : e_Met l yX11_tellsFraction cX11_tellsFraction 7 none d 0 0 true L h [.ref v0, .long v1, .long v3] (Qx none L r) := by
  refine e_metl (by decide) (Nat.le_of_ble_eq_true rfl) (lv := [(0, .ref v0), (1, .long v1), (3, .long v3)]) rfl ?_
  unfold f_X11_tellsFraction at hf
  refine e_lload_n 1 dX11_tellsFraction_0 rfl rfl ?_
  refine e_lload_n 2 dX11_tellsFraction_1 rfl rfl ?_
  obtain ⟨r1, hr2, hf⟩ := e_bd hf
  refine e_callS (st := []) ml_RX11_7 k_X11_common (m_X11_common (d := d - 1) (by omega) hr2) rfl rfl (Nat.le_of_ble_eq_true rfl) ⟨by omega, by decide⟩ ⟨Nat.le_refl _, Nat.le_refl _⟩ dX11_tellsFraction_2 ?_
  refine e_lstore (lv' := [(5, .long _), (0, .ref _), (1, .long _), (3, .long _)]) dX11_tellsFraction_5 (by decide) rfl ?_
  refine e_aload_n 1 dX11_tellsFraction_7 rfl rfl ?_
  refine e_iconst (v := 0) dX11_tellsFraction_8 (by decide) ?_
  obtain ⟨hO3, hf⟩ := e_if hf
  refine e_putI hO3 fc_11_1 rfl lk_RX11_15 dX11_tellsFraction_9 ?_
  refine e_aload_n 1 dX11_tellsFraction_12 rfl rfl ?_
  refine e_lload_n 2 dX11_tellsFraction_13 rfl rfl ?_
  refine e_lload 0 dX11_tellsFraction_14 rfl ?_
  obtain ⟨hz4, hf⟩ := e_ifp hf
  refine e_ldiv dX11_tellsFraction_16 hz4 ?_
  obtain ⟨r5, hr6, hf⟩ := e_bd hf
  refine e_callV (st := []) ml_RX11_18 k_X11_enters (m_X11_enters (d := d - 1) (by omega) hr6) hO3 ⟨by decide, rfl⟩ rfl rfl (Nat.le_of_ble_eq_true rfl) ⟨by omega, by decide⟩ ⟨Nat.le_refl _, Nat.le_refl _⟩ dX11_tellsFraction_17 ?_
  refine e_aload_n 1 dX11_tellsFraction_20 rfl rfl ?_
  refine e_lload_n 3 dX11_tellsFraction_21 rfl rfl ?_
  refine e_lload 0 dX11_tellsFraction_22 rfl ?_
  obtain ⟨hz7, hf⟩ := e_ifp hf
  refine e_ldiv dX11_tellsFraction_24 hz7 ?_
  obtain ⟨r8, hr9, hf⟩ := e_bd hf
  refine e_callV (st := []) ml_RX11_18 k_X11_enters (m_X11_enters (d := d - 1) (by omega) hr9) hO3 ⟨by decide, rfl⟩ rfl rfl (Nat.le_of_ble_eq_true rfl) ⟨by omega, by decide⟩ ⟨Nat.le_refl _, Nat.le_refl _⟩ dX11_tellsFraction_25 ?_
  exact e_vret rfl dX11_tellsFraction_28 (qV hf)
def f_X11_likely_L29 (L : eL) : Nat → (eH → Nat → Int32 → Int32 → Option (eH × Int32)) → eH → Nat → Int32 → Int32 → Int32 → Option (eH × Int32)
  | 0, _, _, _, _, _, _ => none
  | n + 1, k67, h, v0, v1, v2, v3 =>
    if 36 ≤ v3 then
      k67 h v0 v1 v2
    else
      if isO L v0 11 = true then
      (gR h v0 40).bind fun b5 =>
      (gR h v0 7).bind fun b7 =>
      if inA L b7 0 72 = true then
      if v3 = (gI h b7 (72 : Int32).toNatClampNeg) then
        if inA L b5 1 v3 = true then
        (some (sL h b5 v3.toNatClampNeg ((f_X11_flag 1).toInt64))).bind fun h14 =>
        f_X11_likely_L29 L n k67 h14 v0 v1 v2 (v3 + Int32.ofInt 1)
        else none
      else
        if inA L b5 1 v3 = true then
        (some (sL h b5 v3.toNatClampNeg ((f_X11_flag 0).toInt64))).bind fun h11 =>
        f_X11_likely_L29 L n k67 h11 v0 v1 v2 (v3 + Int32.ofInt 1)
        else none
      else none
      else none
set_option maxRecDepth 100000 in
set_option maxHeartbeats 4000000 in
theorem m_X11_likely_L29 {l : Launch} {d : Nat} {L : eL}  {r : eH × Int32} {k67 : eH → Nat → Int32 → Int32 → Option (eH × Int32)} (hd : 103 ≤ d) (hk67 : ∀ (h : eH) (v0 : Nat) (v1 : Int32) (v2 : Int32), k67 h v0 v1 v2 = some r → E l yX11_likely cX11_likely 9 (some .int) (e_rm d 0 0) 0 0 true L (Qx (some (.int r.2)) L r.1) L h 0 0 67 [(0, .ref v0), (1, .int v1), (2, .int v2)] []) : ∀ (n : Nat) (h : eH) (v0 : Nat) (v1 : Int32) (v2 : Int32) (v3 : Int32), f_X11_likely_L29 L n k67 h v0 v1 v2 v3 = some r → E l yX11_likely cX11_likely 9 (some .int) (e_rm d 0 0) 0 0 true L (Qx (some (.int r.2)) L r.1) L h 0 0 29 [(0, .ref v0), (1, .int v1), (2, .int v2), (3, .int v3)] [] := by
  intro n
  induction n with
  | zero => intro h v0 v1 v2 v3 hf; exact absurd hf (by simp [f_X11_likely_L29])
  | succ n ih =>
    intro h v0 v1 v2 v3 hf
    unfold f_X11_likely_L29 at hf
    refine e_iload_n 3 dX11_likely_29 rfl rfl ?_
    refine e_bipush (v := 36) dX11_likely_30 (by decide) ?_
    refine e_icmp_ge (t := 67) dX11_likely_32 (by decide) (fun c => ?_) (fun c => ?_)
    · replace hf := e_it c hf
      refine e_sub [0, 1, 2] rfl ?_
      exact hk67 _ _ _ _ hf
    · replace hf := e_ie c hf
      refine e_aload_n 0 dX11_likely_35 rfl rfl ?_
      obtain ⟨hO4, hf⟩ := e_if hf
      obtain ⟨b5, hb6, hf⟩ := e_bd hf
      refine e_getR hO4 fc_11_40 lk_RX11_99 dX11_likely_36 hb6 ?_
      refine e_iload_n 3 dX11_likely_39 rfl rfl ?_
      refine e_iload_n 3 dX11_likely_40 rfl rfl ?_
      refine e_aload_n 0 dX11_likely_41 rfl rfl ?_
      obtain ⟨b7, hb8, hf⟩ := e_bd hf
      refine e_getR hO4 fc_11_7 lk_RX11_41 dX11_likely_42 hb8 ?_
      refine e_bipush (v := 72) dX11_likely_45 (by decide) ?_
      obtain ⟨hI9, hf⟩ := e_if hf
      refine e_iald hI9 dX11_likely_47 ?_
      refine e_icmp_ne (t := 55) dX11_likely_48 (by decide) (fun c => ?_) (fun c => ?_)
      · replace hf := e_ie c hf
        refine e_iconst (v := 0) dX11_likely_55 (by decide) ?_
        refine e_callS (st := [.int _, .ref _]) ml_RX11_122 k_X11_flag (m_X11_flag (d := d - 1) (by omega) rfl) rfl rfl (Nat.le_of_ble_eq_true rfl) ⟨by omega, by decide⟩ ⟨Nat.le_refl _, Nat.le_refl _⟩ dX11_likely_56 ?_
        refine e_i2l dX11_likely_59 ?_
        obtain ⟨hI10, hf⟩ := e_if hf
        refine e_last hI10 dX11_likely_60 ?_
        obtain ⟨h11, hh12, hf⟩ := e_bd hf
        refine e_hn hh12 ?_
        refine e_iinc (lv' := [(3, .int _), (0, .ref _), (1, .int _), (2, .int _)]) 3 dX11_likely_61 rfl (by decide) rfl ?_
        refine e_goto (t := 29) dX11_likely_64 (by decide) ?_
        refine e_sub [1, 2, 3, 0] rfl ?_
        exact ih _ _ _ _ _ hf
      · replace hf := e_it c hf
        refine e_iconst (v := 1) dX11_likely_51 (by decide) ?_
        refine e_goto (t := 56) dX11_likely_52 (by decide) ?_
        refine e_callS (st := [.int _, .ref _]) ml_RX11_122 k_X11_flag (m_X11_flag (d := d - 1) (by omega) rfl) rfl rfl (Nat.le_of_ble_eq_true rfl) ⟨by omega, by decide⟩ ⟨Nat.le_refl _, Nat.le_refl _⟩ dX11_likely_56 ?_
        refine e_i2l dX11_likely_59 ?_
        obtain ⟨hI13, hf⟩ := e_if hf
        refine e_last hI13 dX11_likely_60 ?_
        obtain ⟨h14, hh15, hf⟩ := e_bd hf
        refine e_hn hh15 ?_
        refine e_iinc (lv' := [(3, .int _), (0, .ref _), (1, .int _), (2, .int _)]) 3 dX11_likely_61 rfl (by decide) rfl ?_
        refine e_goto (t := 29) dX11_likely_64 (by decide) ?_
        refine e_sub [1, 2, 3, 0] rfl ?_
        exact ih _ _ _ _ _ hf
def f_X11_likely_L81 (L : eL) : Nat → (eH → Nat → Int32 → Int32 → Int64 → Int32 → Option (eH × Int32)) → eH → Nat → Int32 → Int32 → Int64 → Int32 → Int32 → Option (eH × Int32)
  | 0, _, _, _, _, _, _, _, _ => none
  | n + 1, k102, h, v0, v1, v2, v3, v5, v6 =>
    if 36 ≤ v6 then
      k102 h v0 v1 v2 v3 v5
    else
      if isO L v0 11 = true then
      (gR h v0 41).bind fun b21 =>
      if inA L b21 1 v6 = true then
      f_X11_likely_L81 L n k102 (sL h b21 v6.toNatClampNeg 0) v0 v1 v2 v3 v5 (v6 + Int32.ofInt 1)
      else none
      else none
set_option maxRecDepth 100000 in
set_option maxHeartbeats 4000000 in
theorem m_X11_likely_L81 {l : Launch} {d : Nat} {L : eL}  {r : eH × Int32} {k102 : eH → Nat → Int32 → Int32 → Int64 → Int32 → Option (eH × Int32)} (hd : 103 ≤ d) (hk102 : ∀ (h : eH) (v0 : Nat) (v1 : Int32) (v2 : Int32) (v3 : Int64) (v5 : Int32), k102 h v0 v1 v2 v3 v5 = some r → E l yX11_likely cX11_likely 9 (some .int) (e_rm d 0 0) 0 0 true L (Qx (some (.int r.2)) L r.1) L h 0 0 102 [(0, .ref v0), (1, .int v1), (2, .int v2), (3, .long v3), (5, .int v5)] []) : ∀ (n : Nat) (h : eH) (v0 : Nat) (v1 : Int32) (v2 : Int32) (v3 : Int64) (v5 : Int32) (v6 : Int32), f_X11_likely_L81 L n k102 h v0 v1 v2 v3 v5 v6 = some r → E l yX11_likely cX11_likely 9 (some .int) (e_rm d 0 0) 0 0 true L (Qx (some (.int r.2)) L r.1) L h 0 0 81 [(0, .ref v0), (1, .int v1), (2, .int v2), (3, .long v3), (5, .int v5), (6, .int v6)] [] := by
  intro n
  induction n with
  | zero => intro h v0 v1 v2 v3 v5 v6 hf; exact absurd hf (by simp [f_X11_likely_L81])
  | succ n ih =>
    intro h v0 v1 v2 v3 v5 v6 hf
    unfold f_X11_likely_L81 at hf
    refine e_iload 5 dX11_likely_81 rfl ?_
    refine e_bipush (v := 36) dX11_likely_83 (by decide) ?_
    refine e_icmp_ge (t := 102) dX11_likely_85 (by decide) (fun c => ?_) (fun c => ?_)
    · replace hf := e_it c hf
      refine e_sub [0, 1, 2, 3, 4] rfl ?_
      exact hk102 _ _ _ _ _ _ hf
    · replace hf := e_ie c hf
      refine e_aload_n 0 dX11_likely_88 rfl rfl ?_
      obtain ⟨hO20, hf⟩ := e_if hf
      obtain ⟨b21, hb22, hf⟩ := e_bd hf
      refine e_getR hO20 fc_11_41 lk_RX11_102 dX11_likely_89 hb22 ?_
      refine e_iload 5 dX11_likely_92 rfl ?_
      refine e_lconst (v := 0) dX11_likely_94 (by decide) ?_
      obtain ⟨hI23, hf⟩ := e_if hf
      refine e_last hI23 dX11_likely_95 ?_
      refine e_iinc (lv' := [(6, .int _), (0, .ref _), (1, .int _), (2, .int _), (3, .long _), (5, .int _)]) 5 dX11_likely_96 rfl (by decide) rfl ?_
      refine e_goto (t := 81) dX11_likely_99 (by decide) ?_
      refine e_sub [1, 2, 3, 4, 5, 0] rfl ?_
      exact ih _ _ _ _ _ _ _ hf
def f_X11_likely_J157 (L : eL) (k117 : eH → Nat → Int32 → Int32 → Int64 → Int32 → Int32 → Int32 → Option (eH × Int32)) (k174 : eH → Nat → Int32 → Int32 → Int64 → Int32 → Int32 → Option (eH × Int32)) (h : eH) (v0 : Nat) (v1 : Int32) (v2 : Int32) (v3 : Int64) (v5 : Int32) (v6 : Int32) (v7 : Int32) (s0 : Nat) (s1 : Int32) : Option (eH × Int32) :=
  if inA L s0 1 s1 = true then
  if isO L v0 11 = true then
  (gR h v0 40).bind fun b44 =>
  if inA L b44 1 v6 = true then
  (some (sL h s0 s1.toNatClampNeg ((gL h s0 s1.toNatClampNeg) + (gL h b44 v6.toNatClampNeg)))).bind fun h47 =>
  k117 h47 v0 v1 v2 v3 v5 v6 (v7 + Int32.ofInt 1)
  else none
  else none
  else none
set_option maxRecDepth 100000 in
set_option maxHeartbeats 4000000 in
theorem m_X11_likely_J157 {l : Launch} {d : Nat} {L : eL}  {r : eH × Int32} {k117 : eH → Nat → Int32 → Int32 → Int64 → Int32 → Int32 → Int32 → Option (eH × Int32)} {k174 : eH → Nat → Int32 → Int32 → Int64 → Int32 → Int32 → Option (eH × Int32)} (hd : 103 ≤ d) (hk117 : ∀ (h : eH) (v0 : Nat) (v1 : Int32) (v2 : Int32) (v3 : Int64) (v5 : Int32) (v6 : Int32) (v7 : Int32), k117 h v0 v1 v2 v3 v5 v6 v7 = some r → E l yX11_likely cX11_likely 9 (some .int) (e_rm d 0 0) 0 0 true L (Qx (some (.int r.2)) L r.1) L h 0 0 117 [(0, .ref v0), (1, .int v1), (2, .int v2), (3, .long v3), (5, .int v5), (6, .int v6), (7, .int v7)] []) (hk174 : ∀ (h : eH) (v0 : Nat) (v1 : Int32) (v2 : Int32) (v3 : Int64) (v5 : Int32) (v6 : Int32), k174 h v0 v1 v2 v3 v5 v6 = some r → E l yX11_likely cX11_likely 9 (some .int) (e_rm d 0 0) 0 0 true L (Qx (some (.int r.2)) L r.1) L h 0 0 174 [(0, .ref v0), (1, .int v1), (2, .int v2), (3, .long v3), (5, .int v5), (6, .int v6)] []) : ∀ (h : eH) (v0 : Nat) (v1 : Int32) (v2 : Int32) (v3 : Int64) (v5 : Int32) (v6 : Int32) (v7 : Int32) (s0 : Nat) (s1 : Int32), f_X11_likely_J157 L k117 k174 h v0 v1 v2 v3 v5 v6 v7 s0 s1 = some r → E l yX11_likely cX11_likely 9 (some .int) (e_rm d 0 0) 0 0 true L (Qx (some (.int r.2)) L r.1) L h 0 0 157 [(0, .ref v0), (1, .int v1), (2, .int v2), (3, .long v3), (5, .int v5), (6, .int v6), (7, .int v7)] [.int s1, .ref s0] := by
  intro h v0 v1 v2 v3 v5 v6 v7 s0 s1 hf
  unfold f_X11_likely_J157 at hf
  refine e_dup2 dX11_likely_157 ?_
  obtain ⟨hI42, hf⟩ := e_if hf
  refine e_lald hI42 dX11_likely_158 ?_
  refine e_aload_n 0 dX11_likely_159 rfl rfl ?_
  obtain ⟨hO43, hf⟩ := e_if hf
  obtain ⟨b44, hb45, hf⟩ := e_bd hf
  refine e_getR hO43 fc_11_40 lk_RX11_99 dX11_likely_160 hb45 ?_
  refine e_iload 5 dX11_likely_163 rfl ?_
  obtain ⟨hI46, hf⟩ := e_if hf
  refine e_lald hI46 dX11_likely_165 ?_
  refine e_ladd dX11_likely_166 ?_
  refine e_last hI42 dX11_likely_167 ?_
  obtain ⟨h47, hh48, hf⟩ := e_bd hf
  refine e_hn hh48 ?_
  refine e_iinc (lv' := [(7, .int _), (0, .ref _), (1, .int _), (2, .int _), (3, .long _), (5, .int _), (6, .int _)]) 6 dX11_likely_168 rfl (by decide) rfl ?_
  refine e_goto (t := 117) dX11_likely_171 (by decide) ?_
  refine e_sub [1, 2, 3, 4, 5, 6, 0] rfl ?_
  exact hk117 _ _ _ _ _ _ _ _ hf
def f_X11_likely_L117 (L : eL) : Nat → (eH → Nat → Int32 → Int32 → Int64 → Int32 → Int32 → Option (eH × Int32)) → eH → Nat → Int32 → Int32 → Int64 → Int32 → Int32 → Int32 → Option (eH × Int32)
  | 0, _, _, _, _, _, _, _, _, _ => none
  | n + 1, k174, h, v0, v1, v2, v3, v5, v6, v7 =>
    if 4 ≤ v7 then
      k174 h v0 v1 v2 v3 v5 v6
    else
      if isO L v0 11 = true then
      (f_X11_beside L h v0 v6 v7).bind fun r34 =>
      (gR h v0 41).bind fun b36 =>
      (gR h v0 7).bind fun b38 =>
      (f_X11_isFree L h v0 b38 r34).bind fun r40 =>
      if r40 = 0 then
        f_X11_likely_J157 L (f_X11_likely_L117 L n k174) k174 h v0 v1 v2 v3 v5 v6 v7 b36 v6
      else
        f_X11_likely_J157 L (f_X11_likely_L117 L n k174) k174 h v0 v1 v2 v3 v5 v6 v7 b36 r34
      else none
set_option maxRecDepth 100000 in
set_option maxHeartbeats 4000000 in
theorem m_X11_likely_L117 {l : Launch} {d : Nat} {L : eL}  {r : eH × Int32} {k174 : eH → Nat → Int32 → Int32 → Int64 → Int32 → Int32 → Option (eH × Int32)} (hd : 103 ≤ d) (hk174 : ∀ (h : eH) (v0 : Nat) (v1 : Int32) (v2 : Int32) (v3 : Int64) (v5 : Int32) (v6 : Int32), k174 h v0 v1 v2 v3 v5 v6 = some r → E l yX11_likely cX11_likely 9 (some .int) (e_rm d 0 0) 0 0 true L (Qx (some (.int r.2)) L r.1) L h 0 0 174 [(0, .ref v0), (1, .int v1), (2, .int v2), (3, .long v3), (5, .int v5), (6, .int v6)] []) : ∀ (n : Nat) (h : eH) (v0 : Nat) (v1 : Int32) (v2 : Int32) (v3 : Int64) (v5 : Int32) (v6 : Int32) (v7 : Int32), f_X11_likely_L117 L n k174 h v0 v1 v2 v3 v5 v6 v7 = some r → E l yX11_likely cX11_likely 9 (some .int) (e_rm d 0 0) 0 0 true L (Qx (some (.int r.2)) L r.1) L h 0 0 117 [(0, .ref v0), (1, .int v1), (2, .int v2), (3, .long v3), (5, .int v5), (6, .int v6), (7, .int v7)] [] := by
  intro n
  induction n with
  | zero => intro h v0 v1 v2 v3 v5 v6 v7 hf; exact absurd hf (by simp [f_X11_likely_L117])
  | succ n ih =>
    intro h v0 v1 v2 v3 v5 v6 v7 hf
    unfold f_X11_likely_L117 at hf
    refine e_iload 6 dX11_likely_117 rfl ?_
    refine e_iconst (v := 4) dX11_likely_119 (by decide) ?_
    refine e_icmp_ge (t := 174) dX11_likely_120 (by decide) (fun c => ?_) (fun c => ?_)
    · replace hf := e_it c hf
      refine e_sub [0, 1, 2, 3, 4, 5] rfl ?_
      exact hk174 _ _ _ _ _ _ _ hf
    · replace hf := e_ie c hf
      refine e_aload_n 0 dX11_likely_123 rfl rfl ?_
      refine e_iload 5 dX11_likely_124 rfl ?_
      refine e_iload 6 dX11_likely_126 rfl ?_
      obtain ⟨hO33, hf⟩ := e_if hf
      obtain ⟨r34, hr35, hf⟩ := e_bd hf
      refine e_callV (st := []) ml_RX11_251 k_X11_beside (m_X11_beside (d := d - 1) (by omega) hr35) hO33 ⟨by decide, rfl⟩ rfl rfl (Nat.le_of_ble_eq_true rfl) ⟨by omega, by decide⟩ ⟨Nat.le_refl _, Nat.le_refl _⟩ dX11_likely_128 ?_
      refine e_istore (lv' := [(8, .int _), (0, .ref _), (1, .int _), (2, .int _), (3, .long _), (5, .int _), (6, .int _), (7, .int _)]) dX11_likely_131 (by decide) rfl ?_
      refine e_aload_n 1 dX11_likely_133 rfl rfl ?_
      obtain ⟨b36, hb37, hf⟩ := e_bd hf
      refine e_getR hO33 fc_11_41 lk_RX11_102 dX11_likely_134 hb37 ?_
      refine e_aload_n 1 dX11_likely_137 rfl rfl ?_
      refine e_aload_n 1 dX11_likely_138 rfl rfl ?_
      obtain ⟨b38, hb39, hf⟩ := e_bd hf
      refine e_getR hO33 fc_11_7 lk_RX11_41 dX11_likely_139 hb39 ?_
      refine e_iload 0 dX11_likely_142 rfl ?_
      obtain ⟨r40, hr41, hf⟩ := e_bd hf
      refine e_callV (st := [.ref _]) ml_RX11_241 k_X11_isFree (m_X11_isFree (d := d - 1) (by omega) hr41) hO33 ⟨by decide, rfl⟩ rfl rfl (Nat.le_of_ble_eq_true rfl) ⟨by omega, by decide⟩ ⟨Nat.le_refl _, Nat.le_refl _⟩ dX11_likely_144 ?_
      refine e_if_eq (t := 155) dX11_likely_147 (by decide) (fun c => ?_) (fun c => ?_)
      · replace hf := e_it c hf
        refine e_iload 6 dX11_likely_155 rfl ?_
        refine e_sub [1, 2, 3, 4, 5, 6, 7] rfl ?_
        exact m_X11_likely_J157 hd ih hk174 _ _ _ _ _ _ _ _ _ _ hf
      · replace hf := e_ie c hf
        refine e_iload 0 dX11_likely_150 rfl ?_
        refine e_goto (t := 157) dX11_likely_152 (by decide) ?_
        refine e_sub [1, 2, 3, 4, 5, 6, 7] rfl ?_
        exact m_X11_likely_J157 hd ih hk174 _ _ _ _ _ _ _ _ _ _ hf
def f_X11_likely_L105 (L : eL) : Nat → (eH → Nat → Int32 → Int32 → Int64 → Int32 → Option (eH × Int32)) → eH → Nat → Int32 → Int32 → Int64 → Int32 → Int32 → Option (eH × Int32)
  | 0, _, _, _, _, _, _, _, _ => none
  | n + 1, k180, h, v0, v1, v2, v3, v5, v6 =>
    if isO L v0 11 = true then
    (f_X11_spots L h v0).bind fun r31 =>
    if r31 ≤ v6 then
      k180 h v0 v1 v2 v3 v5
    else
      f_X11_likely_L117 L e_fu (fun (h49 : eH) (w0_50 : Nat) (w1_51 : Int32) (w2_52 : Int32) (w3_53 : Int64) (w5_54 : Int32) (w6_55 : Int32) =>
        f_X11_likely_L105 L n k180 h49 w0_50 w1_51 w2_52 w3_53 w5_54 (w6_55 + Int32.ofInt 1)) h v0 v1 v2 v3 v5 v6 0
    else none
set_option maxRecDepth 100000 in
set_option maxHeartbeats 4000000 in
theorem m_X11_likely_L105 {l : Launch} {d : Nat} {L : eL}  {r : eH × Int32} {k180 : eH → Nat → Int32 → Int32 → Int64 → Int32 → Option (eH × Int32)} (hd : 103 ≤ d) (hk180 : ∀ (h : eH) (v0 : Nat) (v1 : Int32) (v2 : Int32) (v3 : Int64) (v5 : Int32), k180 h v0 v1 v2 v3 v5 = some r → E l yX11_likely cX11_likely 9 (some .int) (e_rm d 0 0) 0 0 true L (Qx (some (.int r.2)) L r.1) L h 0 0 180 [(0, .ref v0), (1, .int v1), (2, .int v2), (3, .long v3), (5, .int v5)] []) : ∀ (n : Nat) (h : eH) (v0 : Nat) (v1 : Int32) (v2 : Int32) (v3 : Int64) (v5 : Int32) (v6 : Int32), f_X11_likely_L105 L n k180 h v0 v1 v2 v3 v5 v6 = some r → E l yX11_likely cX11_likely 9 (some .int) (e_rm d 0 0) 0 0 true L (Qx (some (.int r.2)) L r.1) L h 0 0 105 [(0, .ref v0), (1, .int v1), (2, .int v2), (3, .long v3), (5, .int v5), (6, .int v6)] [] := by
  intro n
  induction n with
  | zero => intro h v0 v1 v2 v3 v5 v6 hf; exact absurd hf (by simp [f_X11_likely_L105])
  | succ n ih =>
    intro h v0 v1 v2 v3 v5 v6 hf
    unfold f_X11_likely_L105 at hf
    refine e_iload 5 dX11_likely_105 rfl ?_
    refine e_aload_n 0 dX11_likely_107 rfl rfl ?_
    obtain ⟨hO30, hf⟩ := e_if hf
    obtain ⟨r31, hr32, hf⟩ := e_bd hf
    refine e_callV (st := [.int _]) ml_RX11_114 k_X11_spots (m_X11_spots (d := d - 1) (by omega) hr32) hO30 ⟨by decide, rfl⟩ rfl rfl (Nat.le_of_ble_eq_true rfl) ⟨by omega, by decide⟩ ⟨Nat.le_refl _, Nat.le_refl _⟩ dX11_likely_108 ?_
    refine e_icmp_ge (t := 180) dX11_likely_111 (by decide) (fun c => ?_) (fun c => ?_)
    · replace hf := e_it c hf
      refine e_sub [0, 1, 2, 3, 4] rfl ?_
      exact hk180 _ _ _ _ _ _ hf
    · replace hf := e_ie c hf
      refine e_iconst (v := 0) dX11_likely_114 (by decide) ?_
      refine e_istore (lv' := [(7, .int _), (0, .ref _), (1, .int _), (2, .int _), (3, .long _), (5, .int _), (6, .int _)]) dX11_likely_115 (by decide) rfl ?_
      refine e_sub [1, 2, 3, 4, 5, 6, 0] rfl ?_
      refine m_X11_likely_L117 hd ?_ e_fu _ _ _ _ _ _ _ _ hf
      · intro h49 w0_50 w1_51 w2_52 w3_53 w5_54 w6_55 hf
        refine e_iinc (lv' := [(6, .int _), (0, .ref _), (1, .int _), (2, .int _), (3, .long _), (5, .int _)]) 5 dX11_likely_174 rfl (by decide) rfl ?_
        refine e_goto (t := 105) dX11_likely_177 (by decide) ?_
        refine e_sub [1, 2, 3, 4, 5, 0] rfl ?_
        exact ih _ _ _ _ _ _ _ hf
def f_X11_likely_L183 (L : eL) : Nat → (eH → Nat → Int32 → Int32 → Int64 → Int32 → Option (eH × Int32)) → eH → Nat → Int32 → Int32 → Int64 → Int32 → Int32 → Option (eH × Int32)
  | 0, _, _, _, _, _, _, _, _ => none
  | n + 1, k210, h, v0, v1, v2, v3, v5, v6 =>
    if 36 ≤ v6 then
      k210 h v0 v1 v2 v3 v5
    else
      if isO L v0 11 = true then
      (gR h v0 40).bind fun b63 =>
      (gR h v0 41).bind fun b65 =>
      if inA L b65 1 v6 = true then
      if inA L b63 1 v6 = true then
      (some (sL h b63 v6.toNatClampNeg (gL h b65 v6.toNatClampNeg))).bind fun h69 =>
      f_X11_likely_L183 L n k210 h69 v0 v1 v2 v3 v5 (v6 + Int32.ofInt 1)
      else none
      else none
      else none
set_option maxRecDepth 100000 in
set_option maxHeartbeats 4000000 in
theorem m_X11_likely_L183 {l : Launch} {d : Nat} {L : eL}  {r : eH × Int32} {k210 : eH → Nat → Int32 → Int32 → Int64 → Int32 → Option (eH × Int32)} (hd : 103 ≤ d) (hk210 : ∀ (h : eH) (v0 : Nat) (v1 : Int32) (v2 : Int32) (v3 : Int64) (v5 : Int32), k210 h v0 v1 v2 v3 v5 = some r → E l yX11_likely cX11_likely 9 (some .int) (e_rm d 0 0) 0 0 true L (Qx (some (.int r.2)) L r.1) L h 0 0 210 [(0, .ref v0), (1, .int v1), (2, .int v2), (3, .long v3), (5, .int v5)] []) : ∀ (n : Nat) (h : eH) (v0 : Nat) (v1 : Int32) (v2 : Int32) (v3 : Int64) (v5 : Int32) (v6 : Int32), f_X11_likely_L183 L n k210 h v0 v1 v2 v3 v5 v6 = some r → E l yX11_likely cX11_likely 9 (some .int) (e_rm d 0 0) 0 0 true L (Qx (some (.int r.2)) L r.1) L h 0 0 183 [(0, .ref v0), (1, .int v1), (2, .int v2), (3, .long v3), (5, .int v5), (6, .int v6)] [] := by
  intro n
  induction n with
  | zero => intro h v0 v1 v2 v3 v5 v6 hf; exact absurd hf (by simp [f_X11_likely_L183])
  | succ n ih =>
    intro h v0 v1 v2 v3 v5 v6 hf
    unfold f_X11_likely_L183 at hf
    refine e_iload 5 dX11_likely_183 rfl ?_
    refine e_bipush (v := 36) dX11_likely_185 (by decide) ?_
    refine e_icmp_ge (t := 210) dX11_likely_187 (by decide) (fun c => ?_) (fun c => ?_)
    · replace hf := e_it c hf
      refine e_sub [0, 1, 2, 3, 4] rfl ?_
      exact hk210 _ _ _ _ _ _ hf
    · replace hf := e_ie c hf
      refine e_aload_n 0 dX11_likely_190 rfl rfl ?_
      obtain ⟨hO62, hf⟩ := e_if hf
      obtain ⟨b63, hb64, hf⟩ := e_bd hf
      refine e_getR hO62 fc_11_40 lk_RX11_99 dX11_likely_191 hb64 ?_
      refine e_iload 5 dX11_likely_194 rfl ?_
      refine e_aload_n 0 dX11_likely_196 rfl rfl ?_
      obtain ⟨b65, hb66, hf⟩ := e_bd hf
      refine e_getR hO62 fc_11_41 lk_RX11_102 dX11_likely_197 hb66 ?_
      refine e_iload 5 dX11_likely_200 rfl ?_
      obtain ⟨hI67, hf⟩ := e_if hf
      refine e_lald hI67 dX11_likely_202 ?_
      obtain ⟨hI68, hf⟩ := e_if hf
      refine e_last hI68 dX11_likely_203 ?_
      obtain ⟨h69, hh70, hf⟩ := e_bd hf
      refine e_hn hh70 ?_
      refine e_iinc (lv' := [(6, .int _), (0, .ref _), (1, .int _), (2, .int _), (3, .long _), (5, .int _)]) 5 dX11_likely_204 rfl (by decide) rfl ?_
      refine e_goto (t := 183) dX11_likely_207 (by decide) ?_
      refine e_sub [1, 2, 3, 4, 5, 0] rfl ?_
      exact ih _ _ _ _ _ _ _ hf
def f_X11_likely_L72 (L : eL) : Nat → (eH → Nat → Int32 → Int64 → Option (eH × Int32)) → eH → Nat → Int32 → Int32 → Int64 → Int32 → Option (eH × Int32)
  | 0, _, _, _, _, _, _, _ => none
  | n + 1, k222, h, v0, v1, v2, v3, v5 =>
    if v1 ≤ v5 then
      k222 h v0 v2 v3
    else
      f_X11_likely_L81 L e_fu (fun (h24 : eH) (w0_25 : Nat) (w1_26 : Int32) (w2_27 : Int32) (w3_28 : Int64) (w5_29 : Int32) =>
        f_X11_likely_L105 L e_fu (fun (h56 : eH) (w0_57 : Nat) (w1_58 : Int32) (w2_59 : Int32) (w3_60 : Int64) (w5_61 : Int32) =>
          f_X11_likely_L183 L e_fu (fun (h71 : eH) (w0_72 : Nat) (w1_73 : Int32) (w2_74 : Int32) (w3_75 : Int64) (w5_76 : Int32) =>
            f_X11_likely_L72 L n k222 h71 w0_72 w1_73 w2_74 (w3_75 * 4) (w5_76 + Int32.ofInt 1)) h56 w0_57 w1_58 w2_59 w3_60 w5_61 0) h24 w0_25 w1_26 w2_27 w3_28 w5_29 0) h v0 v1 v2 v3 v5 0
set_option maxRecDepth 100000 in
set_option maxHeartbeats 4000000 in
theorem m_X11_likely_L72 {l : Launch} {d : Nat} {L : eL}  {r : eH × Int32} {k222 : eH → Nat → Int32 → Int64 → Option (eH × Int32)} (hd : 103 ≤ d) (hk222 : ∀ (h : eH) (v0 : Nat) (v2 : Int32) (v3 : Int64), k222 h v0 v2 v3 = some r → E l yX11_likely cX11_likely 9 (some .int) (e_rm d 0 0) 0 0 true L (Qx (some (.int r.2)) L r.1) L h 0 0 222 [(0, .ref v0), (2, .int v2), (3, .long v3)] []) : ∀ (n : Nat) (h : eH) (v0 : Nat) (v1 : Int32) (v2 : Int32) (v3 : Int64) (v5 : Int32), f_X11_likely_L72 L n k222 h v0 v1 v2 v3 v5 = some r → E l yX11_likely cX11_likely 9 (some .int) (e_rm d 0 0) 0 0 true L (Qx (some (.int r.2)) L r.1) L h 0 0 72 [(0, .ref v0), (1, .int v1), (2, .int v2), (3, .long v3), (5, .int v5)] [] := by
  intro n
  induction n with
  | zero => intro h v0 v1 v2 v3 v5 hf; exact absurd hf (by simp [f_X11_likely_L72])
  | succ n ih =>
    intro h v0 v1 v2 v3 v5 hf
    unfold f_X11_likely_L72 at hf
    refine e_iload 4 dX11_likely_72 rfl ?_
    refine e_iload_n 1 dX11_likely_74 rfl rfl ?_
    refine e_icmp_ge (t := 222) dX11_likely_75 (by decide) (fun c => ?_) (fun c => ?_)
    · replace hf := e_it c hf
      refine e_sub [0, 2, 3] rfl ?_
      exact hk222 _ _ _ _ hf
    · replace hf := e_ie c hf
      refine e_iconst (v := 0) dX11_likely_78 (by decide) ?_
      refine e_istore (lv' := [(6, .int _), (0, .ref _), (1, .int _), (2, .int _), (3, .long _), (5, .int _)]) dX11_likely_79 (by decide) rfl ?_
      refine e_sub [1, 2, 3, 4, 5, 0] rfl ?_
      refine m_X11_likely_L81 hd ?_ e_fu _ _ _ _ _ _ _ hf
      · intro h24 w0_25 w1_26 w2_27 w3_28 w5_29 hf
        refine e_iconst (v := 0) dX11_likely_102 (by decide) ?_
        refine e_istore (lv' := [(6, .int _), (0, .ref _), (1, .int _), (2, .int _), (3, .long _), (5, .int _)]) dX11_likely_103 (by decide) rfl ?_
        refine e_sub [1, 2, 3, 4, 5, 0] rfl ?_
        refine m_X11_likely_L105 hd ?_ e_fu _ _ _ _ _ _ _ hf
        · intro h56 w0_57 w1_58 w2_59 w3_60 w5_61 hf
          refine e_iconst (v := 0) dX11_likely_180 (by decide) ?_
          refine e_istore (lv' := [(6, .int _), (0, .ref _), (1, .int _), (2, .int _), (3, .long _), (5, .int _)]) dX11_likely_181 (by decide) rfl ?_
          refine e_sub [1, 2, 3, 4, 5, 0] rfl ?_
          refine m_X11_likely_L183 hd ?_ e_fu _ _ _ _ _ _ _ hf
          · intro h71 w0_72 w1_73 w2_74 w3_75 w5_76 hf
            refine e_lload_n 3 dX11_likely_210 rfl rfl ?_
            refine e_ldc2 kc_RX11_374 dX11_likely_211 ?_
            refine e_lmul dX11_likely_214 ?_
            refine e_lstore_n (lv' := [(3, .long _), (0, .ref _), (1, .int _), (2, .int _), (5, .int _)]) dX11_likely_215 rfl (by decide) rfl ?_
            refine e_iinc (lv' := [(5, .int _), (3, .long _), (0, .ref _), (1, .int _), (2, .int _)]) 4 dX11_likely_216 rfl (by decide) rfl ?_
            refine e_goto (t := 72) dX11_likely_219 (by decide) ?_
            refine e_sub [2, 3, 4, 1, 0] rfl ?_
            exact ih _ _ _ _ _ _ hf
def f_X11_likely (L : eL) (h : eH) (v0 : Nat) (v1 : Int32) (v2 : Int32) : Option (eH × Int32) :=
  if isO L v0 11 = true then
  if (f_X11_in v1.toInt64 0 10) = 0 then
    some (sI h v0 0 0, (-1))
  else
    (f_X11_isSpot L (sI h v0 0 0) v0 v2).bind fun r2 =>
    if r2 = 0 then
      some (sI h v0 0 0, (-1))
    else
      f_X11_likely_L29 L e_fu (fun (h16 : eH) (w0_17 : Nat) (w1_18 : Int32) (w2_19 : Int32) =>
        f_X11_likely_L72 L e_fu (fun (h77 : eH) (w0_78 : Nat) (w2_79 : Int32) (w3_80 : Int64) =>
          if isO L w0_78 11 = true then
          (gR h77 w0_78 40).bind fun b82 =>
          if inA L b82 1 w2_79 = true then
          (f_X11_tellsFraction L h77 w0_78 (gL h77 b82 w2_79.toNatClampNeg) w3_80).bind fun r85 =>
          some (r85, 0)
          else none
          else none) h16 w0_17 w1_18 w2_19 1 0) (sI h v0 0 0) v0 v1 v2 0
  else none
set_option maxRecDepth 100000 in
set_option maxHeartbeats 4000000 in
theorem m_X11_likely {l : Launch} {d : Nat} {L : eL} {h : eH} {v0 : Nat} {v1 : Int32} {v2 : Int32} {r : eH × Int32} (hd : 103 ≤ d) (hf : f_X11_likely L h v0 v1 v2 = some r) : e_Met l yX11_likely cX11_likely 9 (some .int) d 0 0 true L h [.ref v0, .int v1, .int v2] (Qx (some (.int r.2)) L r.1) := by
  refine e_metl (by decide) (Nat.le_of_ble_eq_true rfl) (lv := [(0, .ref v0), (1, .int v1), (2, .int v2)]) rfl ?_
  unfold f_X11_likely at hf
  refine e_aload_n 0 dX11_likely_0 rfl rfl ?_
  refine e_iconst (v := 0) dX11_likely_1 (by decide) ?_
  obtain ⟨hO1, hf⟩ := e_if hf
  refine e_putI hO1 fc_11_0 rfl lk_RX11_3 dX11_likely_2 ?_
  refine e_iload_n 1 dX11_likely_5 rfl rfl ?_
  refine e_i2l dX11_likely_6 ?_
  refine e_lconst (v := 0) dX11_likely_7 (by decide) ?_
  refine e_ldc2 kc_RX11_372 dX11_likely_8 ?_
  refine e_callS (st := []) ml_RX11_118 k_X11_in (m_X11_in (d := d - 1) (by omega) rfl) rfl rfl (Nat.le_of_ble_eq_true rfl) ⟨by omega, by decide⟩ ⟨Nat.le_refl _, Nat.le_refl _⟩ dX11_likely_11 ?_
  refine e_if_eq (t := 25) dX11_likely_14 (by decide) (fun c => ?_) (fun c => ?_)
  · replace hf := e_it c hf
    refine e_iconst (v := (-1)) dX11_likely_25 (by decide) ?_
    exact e_iret rfl dX11_likely_26 (qW hf)
  · replace hf := e_ie c hf
    refine e_aload_n 0 dX11_likely_17 rfl rfl ?_
    refine e_iload_n 2 dX11_likely_18 rfl rfl ?_
    obtain ⟨r2, hr3, hf⟩ := e_bd hf
    refine e_callV (st := []) ml_RX11_233 k_X11_isSpot (m_X11_isSpot (d := d - 1) (by omega) hr3) hO1 ⟨by decide, rfl⟩ rfl rfl (Nat.le_of_ble_eq_true rfl) ⟨by omega, by decide⟩ ⟨Nat.le_refl _, Nat.le_refl _⟩ dX11_likely_19 ?_
    refine e_if_ne (t := 27) dX11_likely_22 (by decide) (fun c => ?_) (fun c => ?_)
    · replace hf := e_ie c hf
      refine e_iconst (v := 0) dX11_likely_27 (by decide) ?_
      refine e_istore_n (lv' := [(3, .int _), (0, .ref _), (1, .int _), (2, .int _)]) dX11_likely_28 rfl (by decide) rfl ?_
      refine e_sub [1, 2, 3, 0] rfl ?_
      refine m_X11_likely_L29 hd ?_ e_fu _ _ _ _ _ hf
      · intro h16 w0_17 w1_18 w2_19 hf
        refine e_lconst (v := 1) dX11_likely_67 (by decide) ?_
        refine e_lstore_n (lv' := [(3, .long _), (0, .ref _), (1, .int _), (2, .int _)]) dX11_likely_68 rfl (by decide) rfl ?_
        refine e_iconst (v := 0) dX11_likely_69 (by decide) ?_
        refine e_istore (lv' := [(5, .int _), (3, .long _), (0, .ref _), (1, .int _), (2, .int _)]) dX11_likely_70 (by decide) rfl ?_
        refine e_sub [2, 3, 4, 1, 0] rfl ?_
        refine m_X11_likely_L72 hd ?_ e_fu _ _ _ _ _ _ hf
        · intro h77 w0_78 w2_79 w3_80 hf
          refine e_aload_n 0 dX11_likely_222 rfl rfl ?_
          refine e_aload_n 0 dX11_likely_223 rfl rfl ?_
          obtain ⟨hO81, hf⟩ := e_if hf
          obtain ⟨b82, hb83, hf⟩ := e_bd hf
          refine e_getR hO81 fc_11_40 lk_RX11_99 dX11_likely_224 hb83 ?_
          refine e_iload_n 1 dX11_likely_227 rfl rfl ?_
          obtain ⟨hI84, hf⟩ := e_if hf
          refine e_lald hI84 dX11_likely_228 ?_
          refine e_lload_n 2 dX11_likely_229 rfl rfl ?_
          obtain ⟨r85, hr86, hf⟩ := e_bd hf
          refine e_callV (st := []) ml_RX11_376 k_X11_tellsFraction (m_X11_tellsFraction (d := d - 1) (by omega) hr86) hO81 ⟨by decide, rfl⟩ rfl rfl (Nat.le_of_ble_eq_true rfl) ⟨by omega, by decide⟩ ⟨Nat.le_refl _, Nat.le_refl _⟩ dX11_likely_230 ?_
          refine e_iconst (v := 0) dX11_likely_233 (by decide) ?_
          exact e_iret rfl dX11_likely_234 (qW hf)
    · replace hf := e_it c hf
      refine e_iconst (v := (-1)) dX11_likely_25 (by decide) ?_
      exact e_iret rfl dX11_likely_26 (qW hf)

def f_X8_addFour_L22 (L : eL) : Nat → (eH → Nat → Option (eH × Int32)) → eH → Nat → Int32 → Int32 → Option (eH × Int32)
  | 0, _, _, _, _, _ => none
  | n + 1, k57, h, v0, v1, v2 =>
    if 4 ≤ v2 then
      k57 h v0
    else
      if isO L v0 8 = true then
      (gR h v0 0).bind fun b3 =>
      if inA L b3 0 ((gI h v0 1) + v2) = true then
      (some (sI h b3 ((gI h v0 1) + v2).toNatClampNeg (((v1.toUInt32 >>> ((24 - (8 * v2)).toUInt32 &&& Int32.toUInt32 31)).toInt32) &&& 255))).bind fun h6 =>
      f_X8_addFour_L22 L n k57 h6 v0 v1 (v2 + Int32.ofInt 1)
      else none
      else none
set_option maxRecDepth 100000 in
set_option maxHeartbeats 4000000 in
theorem m_X8_addFour_L22 {l : Launch} {d : Nat} {L : eL}  {r : eH × Int32} {k57 : eH → Nat → Option (eH × Int32)} (hd : 1 ≤ d) (hk57 : ∀ (h : eH) (v0 : Nat), k57 h v0 = some r → E l yX8_addFour cX8_addFour 3 (some .boolean) (e_rm d 0 0) 0 0 true L (Qx (some (.int r.2)) L r.1) L h 0 0 57 [(0, .ref v0)] []) : ∀ (n : Nat) (h : eH) (v0 : Nat) (v1 : Int32) (v2 : Int32), f_X8_addFour_L22 L n k57 h v0 v1 v2 = some r → E l yX8_addFour cX8_addFour 3 (some .boolean) (e_rm d 0 0) 0 0 true L (Qx (some (.int r.2)) L r.1) L h 0 0 22 [(0, .ref v0), (1, .int v1), (2, .int v2)] [] := by
  intro n
  induction n with
  | zero => intro h v0 v1 v2 hf; exact absurd hf (by simp [f_X8_addFour_L22])
  | succ n ih =>
    intro h v0 v1 v2 hf
    unfold f_X8_addFour_L22 at hf
    refine e_iload_n 2 dX8_addFour_22 rfl rfl ?_
    refine e_iconst (v := 4) dX8_addFour_23 (by decide) ?_
    refine e_icmp_ge (t := 57) dX8_addFour_24 (by decide) (fun c => ?_) (fun c => ?_)
    · replace hf := e_it c hf
      refine e_sub [0] rfl ?_
      exact hk57 _ _ hf
    · replace hf := e_ie c hf
      refine e_aload_n 0 dX8_addFour_27 rfl rfl ?_
      obtain ⟨hO2, hf⟩ := e_if hf
      obtain ⟨b3, hb4, hf⟩ := e_bd hf
      refine e_getR hO2 fc_8_0 lk_RX8_11 dX8_addFour_28 hb4 ?_
      refine e_aload_n 0 dX8_addFour_31 rfl rfl ?_
      refine e_getI hO2 fc_8_1 lk_RX8_15 dX8_addFour_32 ?_
      refine e_iload_n 2 dX8_addFour_35 rfl rfl ?_
      refine e_iadd dX8_addFour_36 ?_
      refine e_iload_n 1 dX8_addFour_37 rfl rfl ?_
      refine e_bipush (v := 24) dX8_addFour_38 (by decide) ?_
      refine e_bipush (v := 8) dX8_addFour_40 (by decide) ?_
      refine e_iload_n 2 dX8_addFour_42 rfl rfl ?_
      refine e_imul dX8_addFour_43 ?_
      refine e_isub dX8_addFour_44 ?_
      refine e_iushr dX8_addFour_45 ?_
      refine e_sipush (v := 255) dX8_addFour_46 (by decide) ?_
      refine e_iand dX8_addFour_49 ?_
      obtain ⟨hI5, hf⟩ := e_if hf
      refine e_iast hI5 dX8_addFour_50 ?_
      obtain ⟨h6, hh7, hf⟩ := e_bd hf
      refine e_hn hh7 ?_
      refine e_iinc (lv' := [(2, .int _), (0, .ref _), (1, .int _)]) 2 dX8_addFour_51 rfl (by decide) rfl ?_
      refine e_goto (t := 22) dX8_addFour_54 (by decide) ?_
      refine e_sub [1, 2, 0] rfl ?_
      exact ih _ _ _ _ hf
def f_X8_addFour (L : eL) (h : eH) (v0 : Nat) (v1 : Int32) : Option (eH × Int32) :=
  if isO L v0 8 = true then
  if (gI h v0 1) < 0 then
    some (h, 0)
  else
    if ((gI h v0 1) + 4) ≤ 80 then
      f_X8_addFour_L22 L e_fu (fun (h8 : eH) (w0_9 : Nat) =>
        if isO L w0_9 8 = true then
        some (sI h8 w0_9 1 ((gI h8 w0_9 1) + 4), 1)
        else none) h v0 v1 0
    else
      some (h, 0)
  else none
set_option maxRecDepth 100000 in
set_option maxHeartbeats 4000000 in
theorem m_X8_addFour {l : Launch} {d : Nat} {L : eL} {h : eH} {v0 : Nat} {v1 : Int32} {r : eH × Int32} (hd : 1 ≤ d) (hf : f_X8_addFour L h v0 v1 = some r) : e_Met l yX8_addFour cX8_addFour 3 (some .boolean) d 0 0 true L h [.ref v0, .int v1] (Qx (some (.int r.2)) L r.1) := by
  refine e_metl (by decide) (Nat.le_of_ble_eq_true rfl) (lv := [(0, .ref v0), (1, .int v1)]) rfl ?_
  unfold f_X8_addFour at hf
  refine e_aload_n 0 dX8_addFour_0 rfl rfl ?_
  obtain ⟨hO1, hf⟩ := e_if hf
  refine e_getI hO1 fc_8_1 lk_RX8_15 dX8_addFour_1 ?_
  refine e_if_lt (t := 18) dX8_addFour_4 (by decide) (fun c => ?_) (fun c => ?_)
  · replace hf := e_it c hf
    refine e_iconst (v := 0) dX8_addFour_18 (by decide) ?_
    exact e_zret (ty := .boolean) rfl rfl dX8_addFour_19 (qW hf)
  · replace hf := e_ie c hf
    refine e_aload_n 0 dX8_addFour_7 rfl rfl ?_
    refine e_getI hO1 fc_8_1 lk_RX8_15 dX8_addFour_8 ?_
    refine e_iconst (v := 4) dX8_addFour_11 (by decide) ?_
    refine e_iadd dX8_addFour_12 ?_
    refine e_bipush (v := 80) dX8_addFour_13 (by decide) ?_
    refine e_icmp_le (t := 20) dX8_addFour_15 (by decide) (fun c => ?_) (fun c => ?_)
    · replace hf := e_it c hf
      refine e_iconst (v := 0) dX8_addFour_20 (by decide) ?_
      refine e_istore_n (lv' := [(2, .int _), (0, .ref _), (1, .int _)]) dX8_addFour_21 rfl (by decide) rfl ?_
      refine e_sub [1, 2, 0] rfl ?_
      refine m_X8_addFour_L22 hd ?_ e_fu _ _ _ _ hf
      · intro h8 w0_9 hf
        refine e_aload_n 0 dX8_addFour_57 rfl rfl ?_
        refine e_dupR dX8_addFour_58 ?_
        obtain ⟨hO10, hf⟩ := e_if hf
        refine e_getI hO10 fc_8_1 lk_RX8_15 dX8_addFour_59 ?_
        refine e_iconst (v := 4) dX8_addFour_62 (by decide) ?_
        refine e_iadd dX8_addFour_63 ?_
        refine e_putI hO10 fc_8_1 rfl lk_RX8_15 dX8_addFour_64 ?_
        refine e_iconst (v := 1) dX8_addFour_67 (by decide) ?_
        exact e_zret (ty := .boolean) rfl rfl dX8_addFour_68 (qW hf)
    · replace hf := e_ie c hf
      refine e_iconst (v := 0) dX8_addFour_18 (by decide) ?_
      exact e_zret (ty := .boolean) rfl rfl dX8_addFour_19 (qW hf)
def f_X8_size (L : eL) (h : eH) (v0 : Nat) : Option Int32 :=
  if isO L v0 8 = true then
  some (gI h v0 1)
  else none
set_option maxRecDepth 100000 in
set_option maxHeartbeats 4000000 in
theorem m_X8_size {l : Launch} {d : Nat} {L : eL} {h : eH} {v0 : Nat} {r : Int32} (hd : 1 ≤ d) (hf : f_X8_size L h v0 = some r) : e_Met l yX8_size cX8_size 1 (some .int) d 0 0 true L h [.ref v0] (Qx (some (.int r)) L h) := by
  refine e_metl (by decide) (Nat.le_of_ble_eq_true rfl) (lv := [(0, .ref v0)]) rfl ?_
  unfold f_X8_size at hf
  refine e_aload_n 0 dX8_size_0 rfl rfl ?_
  obtain ⟨hO1, hf⟩ := e_if hf
  refine e_getI hO1 fc_8_1 lk_RX8_15 dX8_size_1 ?_
  exact e_iret rfl dX8_size_4 (qP hf)
def f_X10_sign (L : eL) (h : eH) (v0 : Nat) (v1 : Int32) : Option (eH × Int32) :=
  if isO L v0 10 = true then
  (gR h v0 0).bind fun b2 =>
  if isO L b2 8 = true then
  (f_X8_addFour L h b2 v1).bind fun r5 =>
  if r5.2 = 0 then
    some (r5.1, (-1))
  else
    (gR r5.1 v0 0).bind fun b7 =>
    if isO L b7 8 = true then
    (f_X8_size L r5.1 b7).bind fun r10 =>
    some (r5.1, r10)
    else none
  else none
  else none
set_option maxRecDepth 100000 in
set_option maxHeartbeats 4000000 in
theorem m_X10_sign {l : Launch} {d : Nat} {L : eL} {h : eH} {v0 : Nat} {v1 : Int32} {r : eH × Int32} (hd : 2 ≤ d) (hf : f_X10_sign L h v0 v1 = some r) : e_Met l yX10_sign cX10_sign 2 (some .int) d 0 0 true L h [.ref v0, .int v1] (Qx (some (.int r.2)) L r.1) := by
  refine e_metl (by decide) (Nat.le_of_ble_eq_true rfl) (lv := [(0, .ref v0), (1, .int v1)]) rfl ?_
  unfold f_X10_sign at hf
  refine e_aload_n 0 dX10_sign_0 rfl rfl ?_
  obtain ⟨hO1, hf⟩ := e_if hf
  obtain ⟨b2, hb3, hf⟩ := e_bd hf
  refine e_getR hO1 fc_10_0 lk_RX10_12 dX10_sign_1 hb3 ?_
  refine e_iload_n 1 dX10_sign_4 rfl rfl ?_
  obtain ⟨hO4, hf⟩ := e_if hf
  obtain ⟨r5, hr6, hf⟩ := e_bd hf
  refine e_callV (st := []) ml_RX10_113 k_X8_addFour (m_X8_addFour (d := d - 1) (by omega) hr6) hO4 ⟨by decide, rfl⟩ rfl rfl (Nat.le_of_ble_eq_true rfl) ⟨by omega, by decide⟩ ⟨Nat.le_refl _, Nat.le_refl _⟩ dX10_sign_5 ?_
  refine e_if_eq (t := 21) dX10_sign_8 (by decide) (fun c => ?_) (fun c => ?_)
  · replace hf := e_it c hf
    refine e_iconst (v := (-1)) dX10_sign_21 (by decide) ?_
    exact e_iret rfl dX10_sign_22 (qW hf)
  · replace hf := e_ie c hf
    refine e_aload_n 0 dX10_sign_11 rfl rfl ?_
    obtain ⟨b7, hb8, hf⟩ := e_bd hf
    refine e_getR hO1 fc_10_0 lk_RX10_12 dX10_sign_12 hb8 ?_
    obtain ⟨hO9, hf⟩ := e_if hf
    obtain ⟨r10, hr11, hf⟩ := e_bd hf
    refine e_callV (st := []) ml_RX10_117 k_X8_size (m_X8_size (d := d - 1) (by omega) hr11) hO9 ⟨by decide, rfl⟩ rfl rfl (Nat.le_of_ble_eq_true rfl) ⟨by omega, by decide⟩ ⟨Nat.le_refl _, Nat.le_refl _⟩ dX10_sign_15 ?_
    refine e_goto (t := 22) dX10_sign_18 (by decide) ?_
    exact e_iret rfl dX10_sign_22 (qW hf)
def f_X8_cut (L : eL) (h : eH) (v0 : Nat) (v1 : Int32) : Option (eH × Int32) :=
  if v1 < 0 then
    some (h, 0)
  else
    if isO L v0 8 = true then
    if v1 ≤ (gI h v0 1) then
      some (sI h v0 1 v1, 1)
    else
      some (h, 0)
    else none
set_option maxRecDepth 100000 in
set_option maxHeartbeats 4000000 in
theorem m_X8_cut {l : Launch} {d : Nat} {L : eL} {h : eH} {v0 : Nat} {v1 : Int32} {r : eH × Int32} (hd : 1 ≤ d) (hf : f_X8_cut L h v0 v1 = some r) : e_Met l yX8_cut cX8_cut 2 (some .boolean) d 0 0 true L h [.ref v0, .int v1] (Qx (some (.int r.2)) L r.1) := by
  refine e_metl (by decide) (Nat.le_of_ble_eq_true rfl) (lv := [(0, .ref v0), (1, .int v1)]) rfl ?_
  unfold f_X8_cut at hf
  refine e_iload_n 1 dX8_cut_0 rfl rfl ?_
  refine e_if_lt (t := 12) dX8_cut_1 (by decide) (fun c => ?_) (fun c => ?_)
  · replace hf := e_it c hf
    refine e_iconst (v := 0) dX8_cut_12 (by decide) ?_
    exact e_zret (ty := .boolean) rfl rfl dX8_cut_13 (qW hf)
  · replace hf := e_ie c hf
    refine e_iload_n 1 dX8_cut_4 rfl rfl ?_
    refine e_aload_n 0 dX8_cut_5 rfl rfl ?_
    obtain ⟨hO1, hf⟩ := e_if hf
    refine e_getI hO1 fc_8_1 lk_RX8_15 dX8_cut_6 ?_
    refine e_icmp_le (t := 14) dX8_cut_9 (by decide) (fun c => ?_) (fun c => ?_)
    · replace hf := e_it c hf
      refine e_aload_n 0 dX8_cut_14 rfl rfl ?_
      refine e_iload_n 1 dX8_cut_15 rfl rfl ?_
      refine e_putI hO1 fc_8_1 rfl lk_RX8_15 dX8_cut_16 ?_
      refine e_iconst (v := 1) dX8_cut_19 (by decide) ?_
      exact e_zret (ty := .boolean) rfl rfl dX8_cut_20 (qW hf)
    · replace hf := e_ie c hf
      refine e_iconst (v := 0) dX8_cut_12 (by decide) ?_
      exact e_zret (ty := .boolean) rfl rfl dX8_cut_13 (qW hf)
def f_X10_end (L : eL) (h : eH) (v0 : Nat) (v1 : Int32) : Option (eH × Int32) :=
  if isO L v0 10 = true then
  (gR h v0 0).bind fun b2 =>
  if isO L b2 8 = true then
  (f_X8_cut L h b2 v1).bind fun r5 =>
  if isB r5.2 = true then
  some (r5.1, r5.2)
  else none
  else none
  else none
set_option maxRecDepth 100000 in
set_option maxHeartbeats 4000000 in
theorem m_X10_end {l : Launch} {d : Nat} {L : eL} {h : eH} {v0 : Nat} {v1 : Int32} {r : eH × Int32} (hd : 2 ≤ d) (hf : f_X10_end L h v0 v1 = some r) : e_Met l yX10_end cX10_end 2 (some .boolean) d 0 0 true L h [.ref v0, .int v1] (Qx (some (.int r.2)) L r.1) := by
  refine e_metl (by decide) (Nat.le_of_ble_eq_true rfl) (lv := [(0, .ref v0), (1, .int v1)]) rfl ?_
  unfold f_X10_end at hf
  refine e_aload_n 0 dX10_end_0 rfl rfl ?_
  obtain ⟨hO1, hf⟩ := e_if hf
  obtain ⟨b2, hb3, hf⟩ := e_bd hf
  refine e_getR hO1 fc_10_0 lk_RX10_12 dX10_end_1 hb3 ?_
  refine e_iload_n 1 dX10_end_4 rfl rfl ?_
  obtain ⟨hO4, hf⟩ := e_if hf
  obtain ⟨r5, hr6, hf⟩ := e_bd hf
  refine e_callV (st := []) ml_RX10_121 k_X8_cut (m_X8_cut (d := d - 1) (by omega) hr6) hO4 ⟨by decide, rfl⟩ rfl rfl (Nat.le_of_ble_eq_true rfl) ⟨by omega, by decide⟩ ⟨Nat.le_refl _, Nat.le_refl _⟩ dX10_end_5 ?_
  obtain ⟨hB7, hf⟩ := e_if hf
  exact e_zret (ty := .boolean) rfl (isB_n hB7) dX10_end_8 (qW hf)
def f_X8_at (L : eL) (h : eH) (v0 : Nat) (v1 : Int32) : Option Int32 :=
  if v1 < 0 then
    some (-1)
  else
    if isO L v0 8 = true then
    if (gI h v0 1) ≤ v1 then
      some (-1)
    else
      if 80 ≤ v1 then
        some (-1)
      else
        (gR h v0 0).bind fun b2 =>
        if inA L b2 0 v1 = true then
        some (gI h b2 v1.toNatClampNeg)
        else none
    else none
set_option maxRecDepth 100000 in
set_option maxHeartbeats 4000000 in
theorem m_X8_at {l : Launch} {d : Nat} {L : eL} {h : eH} {v0 : Nat} {v1 : Int32} {r : Int32} (hd : 1 ≤ d) (hf : f_X8_at L h v0 v1 = some r) : e_Met l yX8_at cX8_at 2 (some .int) d 0 0 true L h [.ref v0, .int v1] (Qx (some (.int r)) L h) := by
  refine e_metl (by decide) (Nat.le_of_ble_eq_true rfl) (lv := [(0, .ref v0), (1, .int v1)]) rfl ?_
  unfold f_X8_at at hf
  refine e_iload_n 1 dX8_at_0 rfl rfl ?_
  refine e_if_lt (t := 27) dX8_at_1 (by decide) (fun c => ?_) (fun c => ?_)
  · replace hf := e_it c hf
    refine e_iconst (v := (-1)) dX8_at_27 (by decide) ?_
    exact e_iret rfl dX8_at_28 (qP hf)
  · replace hf := e_ie c hf
    refine e_iload_n 1 dX8_at_4 rfl rfl ?_
    refine e_aload_n 0 dX8_at_5 rfl rfl ?_
    obtain ⟨hO1, hf⟩ := e_if hf
    refine e_getI hO1 fc_8_1 lk_RX8_15 dX8_at_6 ?_
    refine e_icmp_ge (t := 27) dX8_at_9 (by decide) (fun c => ?_) (fun c => ?_)
    · replace hf := e_it c hf
      refine e_iconst (v := (-1)) dX8_at_27 (by decide) ?_
      exact e_iret rfl dX8_at_28 (qP hf)
    · replace hf := e_ie c hf
      refine e_iload_n 1 dX8_at_12 rfl rfl ?_
      refine e_bipush (v := 80) dX8_at_13 (by decide) ?_
      refine e_icmp_ge (t := 27) dX8_at_15 (by decide) (fun c => ?_) (fun c => ?_)
      · replace hf := e_it c hf
        refine e_iconst (v := (-1)) dX8_at_27 (by decide) ?_
        exact e_iret rfl dX8_at_28 (qP hf)
      · replace hf := e_ie c hf
        refine e_aload_n 0 dX8_at_18 rfl rfl ?_
        obtain ⟨b2, hb3, hf⟩ := e_bd hf
        refine e_getR hO1 fc_8_0 lk_RX8_11 dX8_at_19 hb3 ?_
        refine e_iload_n 1 dX8_at_22 rfl rfl ?_
        obtain ⟨hI4, hf⟩ := e_if hf
        refine e_iald hI4 dX8_at_23 ?_
        refine e_goto (t := 28) dX8_at_24 (by decide) ?_
        exact e_iret rfl dX8_at_28 (qP hf)
def f_X2_isWhole (L : eL) (h : eH) (v0 : Nat) (v1 : Int32) (v2 : Int32) : Option Int32 :=
  if v1 = 0 then
    if v2 ≤ 0 then
      some 0
    else
      some 1
  else
    if isO L v0 2 = true then
    if v2 = (gI h v0 2) then
      some 1
    else
      some 0
    else none
set_option maxRecDepth 100000 in
set_option maxHeartbeats 4000000 in
theorem m_X2_isWhole {l : Launch} {d : Nat} {L : eL} {h : eH} {v0 : Nat} {v1 : Int32} {v2 : Int32} {r : Int32} (hd : 1 ≤ d) (hf : f_X2_isWhole L h v0 v1 v2 = some r) : e_Met l yX2_isWhole cX2_isWhole 3 (some .boolean) d 0 0 true L h [.ref v0, .int v1, .int v2] (Qx (some (.int r)) L h) := by
  refine e_metl (by decide) (Nat.le_of_ble_eq_true rfl) (lv := [(0, .ref v0), (1, .int v1), (2, .int v2)]) rfl ?_
  unfold f_X2_isWhole at hf
  refine e_iload_n 1 dX2_isWhole_0 rfl rfl ?_
  refine e_if_ne (t := 16) dX2_isWhole_1 (by decide) (fun c => ?_) (fun c => ?_)
  · replace hf := e_ie c hf
    refine e_iload_n 2 dX2_isWhole_16 rfl rfl ?_
    refine e_aload_n 0 dX2_isWhole_17 rfl rfl ?_
    obtain ⟨hO1, hf⟩ := e_if hf
    refine e_getI hO1 fc_2_2 lk_RX2_19 dX2_isWhole_18 ?_
    refine e_icmp_ne (t := 28) dX2_isWhole_21 (by decide) (fun c => ?_) (fun c => ?_)
    · replace hf := e_ie c hf
      refine e_iconst (v := 0) dX2_isWhole_28 (by decide) ?_
      exact e_zret (ty := .boolean) rfl rfl dX2_isWhole_29 (qP hf)
    · replace hf := e_it c hf
      refine e_iconst (v := 1) dX2_isWhole_24 (by decide) ?_
      refine e_goto (t := 29) dX2_isWhole_25 (by decide) ?_
      exact e_zret (ty := .boolean) rfl rfl dX2_isWhole_29 (qP hf)
  · replace hf := e_it c hf
    refine e_iload_n 2 dX2_isWhole_4 rfl rfl ?_
    refine e_if_le (t := 12) dX2_isWhole_5 (by decide) (fun c => ?_) (fun c => ?_)
    · replace hf := e_it c hf
      refine e_iconst (v := 0) dX2_isWhole_12 (by decide) ?_
      refine e_goto (t := 29) dX2_isWhole_13 (by decide) ?_
      exact e_zret (ty := .boolean) rfl rfl dX2_isWhole_29 (qP hf)
    · replace hf := e_ie c hf
      refine e_iconst (v := 1) dX2_isWhole_8 (by decide) ?_
      refine e_goto (t := 29) dX2_isWhole_9 (by decide) ?_
      exact e_zret (ty := .boolean) rfl rfl dX2_isWhole_29 (qP hf)
def f_X2_kindBy (v0 : Int32) : Int32 :=
  if v0 = 35 then
    0
  else if v0 = 46 then
    1
  else if v0 = 112 then
    1
  else if v0 = 113 then
    2
  else if v0 = 114 then
    2
  else
    (-1)
set_option maxRecDepth 100000 in
set_option maxHeartbeats 4000000 in
theorem m_X2_kindBy {l : Launch} {d : Nat} {L : eL} {h : eH} {v0 : Int32} {r : Int32} (hd : 1 ≤ d) (hf : f_X2_kindBy v0 = r) : e_Met l yX2_kindBy cX2_kindBy 1 (some .int) d 0 0 true L h [.int v0] (Qx (some (.int r)) L h) := by
  refine e_metl (by decide) (Nat.le_of_ble_eq_true rfl) (lv := [(0, .int v0)]) rfl ?_
  unfold f_X2_kindBy at hf
  refine e_iload_n 0 dX2_kindBy_0 rfl rfl ?_
  by_cases c35 : v0 = 35
  · replace hf := e_it c35 hf
    refine e_look (t := 52) dX2_kindBy_1 (by decide) (by first | (rw [c35]; done) | (rw [c35]; rfl)) (by decide) ?_
    refine e_iconst (v := 0) dX2_kindBy_52 (by decide) ?_
    exact e_iret rfl dX2_kindBy_53 (qT hf)
  replace hf := e_ie c35 hf
  by_cases c46 : v0 = 46
  · replace hf := e_it c46 hf
    refine e_look (t := 54) dX2_kindBy_1 (by decide) (by first | (rw [c46]; done) | (rw [c46]; rfl)) (by decide) ?_
    refine e_iconst (v := 1) dX2_kindBy_54 (by decide) ?_
    exact e_iret rfl dX2_kindBy_55 (qT hf)
  replace hf := e_ie c46 hf
  by_cases c112 : v0 = 112
  · replace hf := e_it c112 hf
    refine e_look (t := 54) dX2_kindBy_1 (by decide) (by first | (rw [c112]; done) | (rw [c112]; rfl)) (by decide) ?_
    refine e_iconst (v := 1) dX2_kindBy_54 (by decide) ?_
    exact e_iret rfl dX2_kindBy_55 (qT hf)
  replace hf := e_ie c112 hf
  by_cases c113 : v0 = 113
  · replace hf := e_it c113 hf
    refine e_look (t := 56) dX2_kindBy_1 (by decide) (by first | (rw [c113]; done) | (rw [c113]; rfl)) (by decide) ?_
    refine e_iconst (v := 2) dX2_kindBy_56 (by decide) ?_
    exact e_iret rfl dX2_kindBy_57 (qT hf)
  replace hf := e_ie c113 hf
  by_cases c114 : v0 = 114
  · replace hf := e_it c114 hf
    refine e_look (t := 56) dX2_kindBy_1 (by decide) (by first | (rw [c114]; done) | (rw [c114]; rfl)) (by decide) ?_
    refine e_iconst (v := 2) dX2_kindBy_56 (by decide) ?_
    exact e_iret rfl dX2_kindBy_57 (qT hf)
  replace hf := e_ie c114 hf
  refine e_look (t := 58) dX2_kindBy_1 (by decide) (by simp only [Op.lookupswitch.offset]; rw [if_neg (e_ine (j := 35) c35), if_neg (e_ine (j := 46) c46), if_neg (e_ine (j := 112) c112), if_neg (e_ine (j := 113) c113), if_neg (e_ine (j := 114) c114)]) (by decide) ?_
  refine e_iconst (v := (-1)) dX2_kindBy_58 (by decide) ?_
  exact e_iret rfl dX2_kindBy_59 (qT hf)
def f_X2_put_J54 (L : eL) (h : eH) (v0 : Nat) (v2 : Int32) (v3 : Int32) (v4 : Int32) : Option (eH × Int32) :=
  if isO L v0 2 = true then
  (gR h v0 0).bind fun b2 =>
  if inA L b2 0 v2 = true then
  if v4 = 0 then
    (some (sI (sI h b2 v2.toNatClampNeg v3) v0 3 (gI (sI h b2 v2.toNatClampNeg v3) v0 3))).bind fun h5 =>
    some (h5, 1)
  else
    some (sI (sI h b2 v2.toNatClampNeg v3) v0 3 v2, 1)
  else none
  else none
set_option maxRecDepth 100000 in
set_option maxHeartbeats 4000000 in
theorem m_X2_put_J54 {l : Launch} {d : Nat} {L : eL}  {r : eH × Int32} (hd : 2 ≤ d)  : ∀ (h : eH) (v0 : Nat) (v2 : Int32) (v3 : Int32) (v4 : Int32), f_X2_put_J54 L h v0 v2 v3 v4 = some r → E l yX2_put cX2_put 5 (some .boolean) (e_rm d 0 0) 0 0 true L (Qx (some (.int r.2)) L r.1) L h 0 0 54 [(0, .ref v0), (2, .int v2), (3, .int v3), (4, .int v4)] [] := by
  intro h v0 v2 v3 v4 hf
  unfold f_X2_put_J54 at hf
  refine e_aload_n 0 dX2_put_54 rfl rfl ?_
  obtain ⟨hO1, hf⟩ := e_if hf
  obtain ⟨b2, hb3, hf⟩ := e_bd hf
  refine e_getR hO1 fc_2_0 lk_RX2_9 dX2_put_55 hb3 ?_
  refine e_iload_n 1 dX2_put_58 rfl rfl ?_
  refine e_iload_n 2 dX2_put_59 rfl rfl ?_
  obtain ⟨hI4, hf⟩ := e_if hf
  refine e_iast hI4 dX2_put_60 ?_
  refine e_aload_n 0 dX2_put_61 rfl rfl ?_
  refine e_iload 3 dX2_put_62 rfl ?_
  refine e_if_eq (t := 71) dX2_put_64 (by decide) (fun c => ?_) (fun c => ?_)
  · replace hf := e_it c hf
    refine e_aload_n 0 dX2_put_71 rfl rfl ?_
    refine e_getI hO1 fc_2_3 lk_RX2_22 dX2_put_72 ?_
    refine e_putI hO1 fc_2_3 rfl lk_RX2_22 dX2_put_75 ?_
    obtain ⟨h5, hh6, hf⟩ := e_bd hf
    refine e_hn hh6 ?_
    refine e_iconst (v := 1) dX2_put_78 (by decide) ?_
    exact e_zret (ty := .boolean) rfl rfl dX2_put_79 (qW hf)
  · replace hf := e_ie c hf
    refine e_iload_n 1 dX2_put_67 rfl rfl ?_
    refine e_goto (t := 75) dX2_put_68 (by decide) ?_
    refine e_putI hO1 fc_2_3 rfl lk_RX2_22 dX2_put_75 ?_
    refine e_iconst (v := 1) dX2_put_78 (by decide) ?_
    exact e_zret (ty := .boolean) rfl rfl dX2_put_79 (qW hf)
def f_X2_put_J22 (L : eL) (h : eH) (v0 : Nat) (v2 : Int32) (v3 : Int32) (s0 : Int32) : Option (eH × Int32) :=
  if v3 = (-1) then
    some (h, 0)
  else
    if v2 < 0 then
      some (h, 0)
    else
      if 36 ≤ v2 then
        some (h, 0)
      else
        if s0 = 0 then
          f_X2_put_J54 L h v0 v2 v3 s0
        else
          if isO L v0 2 = true then
          if (gI h v0 3) = (-1) then
            f_X2_put_J54 L h v0 v2 v3 s0
          else
            some (h, 0)
          else none
set_option maxRecDepth 100000 in
set_option maxHeartbeats 4000000 in
theorem m_X2_put_J22 {l : Launch} {d : Nat} {L : eL}  {r : eH × Int32} (hd : 2 ≤ d)  : ∀ (h : eH) (v0 : Nat) (v2 : Int32) (v3 : Int32) (s0 : Int32), f_X2_put_J22 L h v0 v2 v3 s0 = some r → E l yX2_put cX2_put 5 (some .boolean) (e_rm d 0 0) 0 0 true L (Qx (some (.int r.2)) L r.1) L h 0 0 22 [(0, .ref v0), (2, .int v2), (3, .int v3)] [.int s0] := by
  intro h v0 v2 v3 s0 hf
  unfold f_X2_put_J22 at hf
  refine e_istore (lv' := [(4, .int _), (0, .ref _), (2, .int _), (3, .int _)]) dX2_put_22 (by decide) rfl ?_
  refine e_iload_n 3 dX2_put_24 rfl rfl ?_
  refine e_iconst (v := (-1)) dX2_put_25 (by decide) ?_
  refine e_icmp_eq (t := 52) dX2_put_26 (by decide) (fun c => ?_) (fun c => ?_)
  · replace hf := e_it c hf
    refine e_iconst (v := 0) dX2_put_52 (by decide) ?_
    exact e_zret (ty := .boolean) rfl rfl dX2_put_53 (qW hf)
  · replace hf := e_ie c hf
    refine e_iload_n 2 dX2_put_29 rfl rfl ?_
    refine e_if_lt (t := 52) dX2_put_30 (by decide) (fun c => ?_) (fun c => ?_)
    · replace hf := e_it c hf
      refine e_iconst (v := 0) dX2_put_52 (by decide) ?_
      exact e_zret (ty := .boolean) rfl rfl dX2_put_53 (qW hf)
    · replace hf := e_ie c hf
      refine e_iload_n 2 dX2_put_33 rfl rfl ?_
      refine e_bipush (v := 36) dX2_put_34 (by decide) ?_
      refine e_icmp_ge (t := 52) dX2_put_36 (by decide) (fun c => ?_) (fun c => ?_)
      · replace hf := e_it c hf
        refine e_iconst (v := 0) dX2_put_52 (by decide) ?_
        exact e_zret (ty := .boolean) rfl rfl dX2_put_53 (qW hf)
      · replace hf := e_ie c hf
        refine e_iload 0 dX2_put_39 rfl ?_
        refine e_if_eq (t := 54) dX2_put_41 (by decide) (fun c => ?_) (fun c => ?_)
        · replace hf := e_it c hf
          refine e_sub [1, 2, 3, 0] rfl ?_
          exact m_X2_put_J54 hd _ _ _ _ _ hf
        · replace hf := e_ie c hf
          refine e_aload_n 1 dX2_put_44 rfl rfl ?_
          obtain ⟨hO7, hf⟩ := e_if hf
          refine e_getI hO7 fc_2_3 lk_RX2_22 dX2_put_45 ?_
          refine e_iconst (v := (-1)) dX2_put_48 (by decide) ?_
          refine e_icmp_eq (t := 54) dX2_put_49 (by decide) (fun c => ?_) (fun c => ?_)
          · replace hf := e_it c hf
            refine e_sub [1, 2, 3, 0] rfl ?_
            exact m_X2_put_J54 hd _ _ _ _ _ hf
          · replace hf := e_ie c hf
            refine e_iconst (v := 0) dX2_put_52 (by decide) ?_
            exact e_zret (ty := .boolean) rfl rfl dX2_put_53 (qW hf)
def f_X2_put (L : eL) (h : eH) (v0 : Nat) (v1 : Int32) (v2 : Int32) : Option (eH × Int32) :=
  if v1 = 112 then
    f_X2_put_J22 L h v0 v2 (f_X2_kindBy v1) 1
  else
    if v1 = 113 then
      f_X2_put_J22 L h v0 v2 (f_X2_kindBy v1) 1
    else
      f_X2_put_J22 L h v0 v2 (f_X2_kindBy v1) 0
set_option maxRecDepth 100000 in
set_option maxHeartbeats 4000000 in
theorem m_X2_put {l : Launch} {d : Nat} {L : eL} {h : eH} {v0 : Nat} {v1 : Int32} {v2 : Int32} {r : eH × Int32} (hd : 2 ≤ d) (hf : f_X2_put L h v0 v1 v2 = some r) : e_Met l yX2_put cX2_put 5 (some .boolean) d 0 0 true L h [.ref v0, .int v1, .int v2] (Qx (some (.int r.2)) L r.1) := by
  refine e_metl (by decide) (Nat.le_of_ble_eq_true rfl) (lv := [(0, .ref v0), (1, .int v1), (2, .int v2)]) rfl ?_
  unfold f_X2_put at hf
  refine e_iload_n 1 dX2_put_0 rfl rfl ?_
  refine e_callS (st := []) ml_RX2_58 k_X2_kindBy (m_X2_kindBy (d := d - 1) (by omega) rfl) rfl rfl (Nat.le_of_ble_eq_true rfl) ⟨by omega, by decide⟩ ⟨Nat.le_refl _, Nat.le_refl _⟩ dX2_put_1 ?_
  refine e_istore_n (lv' := [(3, .int _), (0, .ref _), (1, .int _), (2, .int _)]) dX2_put_4 rfl (by decide) rfl ?_
  refine e_iload_n 2 dX2_put_5 rfl rfl ?_
  refine e_bipush (v := 112) dX2_put_6 (by decide) ?_
  refine e_icmp_eq (t := 17) dX2_put_8 (by decide) (fun c => ?_) (fun c => ?_)
  · replace hf := e_it c hf
    refine e_iconst (v := 1) dX2_put_17 (by decide) ?_
    refine e_goto (t := 22) dX2_put_18 (by decide) ?_
    refine e_sub [1, 3, 0] rfl ?_
    exact m_X2_put_J22 hd _ _ _ _ _ hf
  · replace hf := e_ie c hf
    refine e_iload_n 2 dX2_put_11 rfl rfl ?_
    refine e_bipush (v := 113) dX2_put_12 (by decide) ?_
    refine e_icmp_ne (t := 21) dX2_put_14 (by decide) (fun c => ?_) (fun c => ?_)
    · replace hf := e_ie c hf
      refine e_iconst (v := 0) dX2_put_21 (by decide) ?_
      refine e_sub [1, 3, 0] rfl ?_
      exact m_X2_put_J22 hd _ _ _ _ _ hf
    · replace hf := e_it c hf
      refine e_iconst (v := 1) dX2_put_17 (by decide) ?_
      refine e_goto (t := 22) dX2_put_18 (by decide) ?_
      refine e_sub [1, 3, 0] rfl ?_
      exact m_X2_put_J22 hd _ _ _ _ _ hf
def f_X2_kindOf (L : eL) (h : eH) (v0 : Nat) (v1 : Int32) : Option Int32 :=
  if v1 < 0 then
    some 0
  else
    if 36 ≤ v1 then
      some 0
    else
      if isO L v0 2 = true then
      (gR h v0 0).bind fun b2 =>
      if inA L b2 0 v1 = true then
      some (gI h b2 v1.toNatClampNeg)
      else none
      else none
set_option maxRecDepth 100000 in
set_option maxHeartbeats 4000000 in
theorem m_X2_kindOf {l : Launch} {d : Nat} {L : eL} {h : eH} {v0 : Nat} {v1 : Int32} {r : Int32} (hd : 1 ≤ d) (hf : f_X2_kindOf L h v0 v1 = some r) : e_Met l yX2_kindOf cX2_kindOf 2 (some .int) d 0 0 true L h [.ref v0, .int v1] (Qx (some (.int r)) L h) := by
  refine e_metl (by decide) (Nat.le_of_ble_eq_true rfl) (lv := [(0, .ref v0), (1, .int v1)]) rfl ?_
  unfold f_X2_kindOf at hf
  refine e_iload_n 1 dX2_kindOf_0 rfl rfl ?_
  refine e_if_lt (t := 19) dX2_kindOf_1 (by decide) (fun c => ?_) (fun c => ?_)
  · replace hf := e_it c hf
    refine e_iconst (v := 0) dX2_kindOf_19 (by decide) ?_
    exact e_iret rfl dX2_kindOf_20 (qP hf)
  · replace hf := e_ie c hf
    refine e_iload_n 1 dX2_kindOf_4 rfl rfl ?_
    refine e_bipush (v := 36) dX2_kindOf_5 (by decide) ?_
    refine e_icmp_ge (t := 19) dX2_kindOf_7 (by decide) (fun c => ?_) (fun c => ?_)
    · replace hf := e_it c hf
      refine e_iconst (v := 0) dX2_kindOf_19 (by decide) ?_
      exact e_iret rfl dX2_kindOf_20 (qP hf)
    · replace hf := e_ie c hf
      refine e_aload_n 0 dX2_kindOf_10 rfl rfl ?_
      obtain ⟨hO1, hf⟩ := e_if hf
      obtain ⟨b2, hb3, hf⟩ := e_bd hf
      refine e_getR hO1 fc_2_0 lk_RX2_9 dX2_kindOf_11 hb3 ?_
      refine e_iload_n 1 dX2_kindOf_14 rfl rfl ?_
      obtain ⟨hI4, hf⟩ := e_if hf
      refine e_iald hI4 dX2_kindOf_15 ?_
      refine e_goto (t := 20) dX2_kindOf_16 (by decide) ?_
      exact e_iret rfl dX2_kindOf_20 (qP hf)
def f_X10_bit (v0 : Int32) : Int64 :=
  if v0 < 0 then
    0
  else
    if 36 ≤ v0 then
      0
    else
      (1 : Int64) <<< (v0.toInt64 &&& 63)
set_option maxRecDepth 100000 in
set_option maxHeartbeats 4000000 in
theorem m_X10_bit {l : Launch} {d : Nat} {L : eL} {h : eH} {v0 : Int32} {r : Int64} (hd : 1 ≤ d) (hf : f_X10_bit v0 = r) : e_Met l yX10_bit cX10_bit 1 (some .long) d 0 0 true L h [.int v0] (Qx (some (.long r)) L h) := by
  refine e_metl (by decide) (Nat.le_of_ble_eq_true rfl) (lv := [(0, .int v0)]) rfl ?_
  unfold f_X10_bit at hf
  refine e_iload_n 0 dX10_bit_0 rfl rfl ?_
  refine e_if_lt (t := 16) dX10_bit_1 (by decide) (fun c => ?_) (fun c => ?_)
  · replace hf := e_it c hf
    refine e_lconst (v := 0) dX10_bit_16 (by decide) ?_
    exact e_lret rfl dX10_bit_17 (qTL hf)
  · replace hf := e_ie c hf
    refine e_iload_n 0 dX10_bit_4 rfl rfl ?_
    refine e_bipush (v := 36) dX10_bit_5 (by decide) ?_
    refine e_icmp_ge (t := 16) dX10_bit_7 (by decide) (fun c => ?_) (fun c => ?_)
    · replace hf := e_it c hf
      refine e_lconst (v := 0) dX10_bit_16 (by decide) ?_
      exact e_lret rfl dX10_bit_17 (qTL hf)
    · replace hf := e_ie c hf
      refine e_lconst (v := 1) dX10_bit_10 (by decide) ?_
      refine e_iload_n 0 dX10_bit_11 rfl rfl ?_
      refine e_lshl dX10_bit_12 ?_
      refine e_goto (t := 17) dX10_bit_13 (by decide) ?_
      exact e_lret rfl dX10_bit_17 (qTL hf)
def f_X2_drawSets_J48 (L : eL) (k12 : eH → Nat → Int32 → Option eH) (k80 : eH → Nat → Option eH) (h : eH) (v0 : Nat) (v1 : Int32) (v2 : Int32) (s0 : Nat) (s1 : Int64) (s2 : Int64) : Option eH :=
  if isO L s0 2 = true then
  if isO L v0 2 = true then
  if v2 = 2 then
    (some (sL (sL h s0 4 (s1 ||| s2)) v0 5 ((gL (sL h s0 4 (s1 ||| s2)) v0 5) ||| (f_X10_bit v1)))).bind fun h9 =>
    k12 h9 v0 (v1 + Int32.ofInt 1)
  else
    (some (sL (sL h s0 4 (s1 ||| s2)) v0 5 ((gL (sL h s0 4 (s1 ||| s2)) v0 5) ||| 0))).bind fun h7 =>
    k12 h7 v0 (v1 + Int32.ofInt 1)
  else none
  else none
set_option maxRecDepth 100000 in
set_option maxHeartbeats 4000000 in
theorem m_X2_drawSets_J48 {l : Launch} {d : Nat} {L : eL}  {r : eH} {k12 : eH → Nat → Int32 → Option eH} {k80 : eH → Nat → Option eH} (hd : 2 ≤ d) (hk12 : ∀ (h : eH) (v0 : Nat) (v1 : Int32), k12 h v0 v1 = some r → E l yX2_drawSets cX2_drawSets 3 none (e_rm d 0 0) 0 0 true L (Qx none L r) L h 0 0 12 [(0, .ref v0), (1, .int v1)] []) (hk80 : ∀ (h : eH) (v0 : Nat), k80 h v0 = some r → E l yX2_drawSets cX2_drawSets 3 none (e_rm d 0 0) 0 0 true L (Qx none L r) L h 0 0 80 [(0, .ref v0)] []) : ∀ (h : eH) (v0 : Nat) (v1 : Int32) (v2 : Int32) (s0 : Nat) (s1 : Int64) (s2 : Int64), f_X2_drawSets_J48 L k12 k80 h v0 v1 v2 s0 s1 s2 = some r → E l yX2_drawSets cX2_drawSets 3 none (e_rm d 0 0) 0 0 true L (Qx none L r) L h 0 0 48 [(0, .ref v0), (1, .int v1), (2, .int v2)] [.long s2, .long s1, .ref s0] := by
  intro h v0 v1 v2 s0 s1 s2 hf
  unfold f_X2_drawSets_J48 at hf
  refine e_lor dX2_drawSets_48 ?_
  obtain ⟨hO5, hf⟩ := e_if hf
  refine e_putL hO5 fc_2_4 rfl lk_RX2_25 dX2_drawSets_49 ?_
  refine e_aload_n 0 dX2_drawSets_52 rfl rfl ?_
  refine e_dupR dX2_drawSets_53 ?_
  obtain ⟨hO6, hf⟩ := e_if hf
  refine e_getL hO6 fc_2_5 lk_RX2_29 dX2_drawSets_54 ?_
  refine e_iload_n 2 dX2_drawSets_57 rfl rfl ?_
  refine e_iconst (v := 2) dX2_drawSets_58 (by decide) ?_
  refine e_icmp_ne (t := 69) dX2_drawSets_59 (by decide) (fun c => ?_) (fun c => ?_)
  · replace hf := e_ie c hf
    refine e_lconst (v := 0) dX2_drawSets_69 (by decide) ?_
    refine e_lor dX2_drawSets_70 ?_
    refine e_putL hO6 fc_2_5 rfl lk_RX2_29 dX2_drawSets_71 ?_
    obtain ⟨h7, hh8, hf⟩ := e_bd hf
    refine e_hn hh8 ?_
    refine e_iinc (lv' := [(1, .int _), (0, .ref _), (2, .int _)]) 1 dX2_drawSets_74 rfl (by decide) rfl ?_
    refine e_goto (t := 12) dX2_drawSets_77 (by decide) ?_
    refine e_sub [1, 0] rfl ?_
    exact hk12 _ _ _ hf
  · replace hf := e_it c hf
    refine e_iload_n 1 dX2_drawSets_62 rfl rfl ?_
    refine e_callSN (st := [.long _, .ref _]) ml_RX2_64 k_X10_bit (m_X10_bit (d := d - 1) (by omega) rfl) rfl rfl (Nat.le_of_ble_eq_true rfl) ⟨by omega, by decide⟩ ⟨Nat.le_refl _, Nat.le_refl _⟩ dX2_drawSets_63 ?_
    refine e_goto (t := 70) dX2_drawSets_66 (by decide) ?_
    refine e_lor dX2_drawSets_70 ?_
    refine e_putL hO6 fc_2_5 rfl lk_RX2_29 dX2_drawSets_71 ?_
    obtain ⟨h9, hh10, hf⟩ := e_bd hf
    refine e_hn hh10 ?_
    refine e_iinc (lv' := [(1, .int _), (0, .ref _), (2, .int _)]) 1 dX2_drawSets_74 rfl (by decide) rfl ?_
    refine e_goto (t := 12) dX2_drawSets_77 (by decide) ?_
    refine e_sub [1, 0] rfl ?_
    exact hk12 _ _ _ hf
def f_X2_drawSets_L12 (L : eL) : Nat → (eH → Nat → Option eH) → eH → Nat → Int32 → Option eH
  | 0, _, _, _, _ => none
  | n + 1, k80, h, v0, v1 =>
    if isO L v0 2 = true then
    if ((gI h v0 1) * (gI h v0 2)) ≤ v1 then
      k80 h v0
    else
      (f_X2_kindOf L h v0 v1).bind fun r3 =>
      if r3 = 0 then
        f_X2_drawSets_J48 L (f_X2_drawSets_L12 L n k80) k80 h v0 v1 r3 v0 (gL h v0 4) 0
      else
        f_X2_drawSets_J48 L (f_X2_drawSets_L12 L n k80) k80 h v0 v1 r3 v0 (gL h v0 4) (f_X10_bit v1)
    else none
set_option maxRecDepth 100000 in
set_option maxHeartbeats 4000000 in
theorem m_X2_drawSets_L12 {l : Launch} {d : Nat} {L : eL}  {r : eH} {k80 : eH → Nat → Option eH} (hd : 2 ≤ d) (hk80 : ∀ (h : eH) (v0 : Nat), k80 h v0 = some r → E l yX2_drawSets cX2_drawSets 3 none (e_rm d 0 0) 0 0 true L (Qx none L r) L h 0 0 80 [(0, .ref v0)] []) : ∀ (n : Nat) (h : eH) (v0 : Nat) (v1 : Int32), f_X2_drawSets_L12 L n k80 h v0 v1 = some r → E l yX2_drawSets cX2_drawSets 3 none (e_rm d 0 0) 0 0 true L (Qx none L r) L h 0 0 12 [(0, .ref v0), (1, .int v1)] [] := by
  intro n
  induction n with
  | zero => intro h v0 v1 hf; exact absurd hf (by simp [f_X2_drawSets_L12])
  | succ n ih =>
    intro h v0 v1 hf
    unfold f_X2_drawSets_L12 at hf
    refine e_iload_n 1 dX2_drawSets_12 rfl rfl ?_
    refine e_aload_n 0 dX2_drawSets_13 rfl rfl ?_
    obtain ⟨hO2, hf⟩ := e_if hf
    refine e_getI hO2 fc_2_1 lk_RX2_15 dX2_drawSets_14 ?_
    refine e_aload_n 0 dX2_drawSets_17 rfl rfl ?_
    refine e_getI hO2 fc_2_2 lk_RX2_19 dX2_drawSets_18 ?_
    refine e_imul dX2_drawSets_21 ?_
    refine e_icmp_ge (t := 80) dX2_drawSets_22 (by decide) (fun c => ?_) (fun c => ?_)
    · replace hf := e_it c hf
      refine e_sub [0] rfl ?_
      exact hk80 _ _ hf
    · replace hf := e_ie c hf
      refine e_aload_n 0 dX2_drawSets_25 rfl rfl ?_
      refine e_iload_n 1 dX2_drawSets_26 rfl rfl ?_
      obtain ⟨r3, hr4, hf⟩ := e_bd hf
      refine e_callV (st := []) ml_RX2_61 k_X2_kindOf (m_X2_kindOf (d := d - 1) (by omega) hr4) hO2 ⟨by decide, rfl⟩ rfl rfl (Nat.le_of_ble_eq_true rfl) ⟨by omega, by decide⟩ ⟨Nat.le_refl _, Nat.le_refl _⟩ dX2_drawSets_27 ?_
      refine e_istore_n (lv' := [(2, .int _), (0, .ref _), (1, .int _)]) dX2_drawSets_30 rfl (by decide) rfl ?_
      refine e_aload_n 1 dX2_drawSets_31 rfl rfl ?_
      refine e_dupR dX2_drawSets_32 ?_
      refine e_getL hO2 fc_2_4 lk_RX2_25 dX2_drawSets_33 ?_
      refine e_iload_n 0 dX2_drawSets_36 rfl rfl ?_
      refine e_if_ne (t := 44) dX2_drawSets_37 (by decide) (fun c => ?_) (fun c => ?_)
      · replace hf := e_ie c hf
        refine e_iload_n 2 dX2_drawSets_44 rfl rfl ?_
        refine e_callSN (st := [.long _, .ref _]) ml_RX2_64 k_X10_bit (m_X10_bit (d := d - 1) (by omega) rfl) rfl rfl (Nat.le_of_ble_eq_true rfl) ⟨by omega, by decide⟩ ⟨Nat.le_refl _, Nat.le_refl _⟩ dX2_drawSets_45 ?_
        refine e_sub [1, 2, 0] rfl ?_
        exact m_X2_drawSets_J48 hd ih hk80 _ _ _ _ _ _ _ hf
      · replace hf := e_it c hf
        refine e_lconst (v := 0) dX2_drawSets_40 (by decide) ?_
        refine e_goto (t := 48) dX2_drawSets_41 (by decide) ?_
        refine e_sub [1, 2, 0] rfl ?_
        exact m_X2_drawSets_J48 hd ih hk80 _ _ _ _ _ _ _ hf
def f_X2_drawSets_L87 (L : eL) : Nat → (eH → Nat → Option eH) → eH → Nat → Int32 → Option eH
  | 0, _, _, _, _ => none
  | n + 1, k119, h, v0, v1 =>
    if isO L v0 2 = true then
    if (gI h v0 1) ≤ v1 then
      k119 h v0
    else
      (some (sL h v0 6 ((gL h v0 6) ||| (f_X10_bit (v1 * (gI h v0 2)))))).bind fun h15 =>
      f_X2_drawSets_L87 L n k119 h15 v0 (v1 + Int32.ofInt 1)
    else none
set_option maxRecDepth 100000 in
set_option maxHeartbeats 4000000 in
theorem m_X2_drawSets_L87 {l : Launch} {d : Nat} {L : eL}  {r : eH} {k119 : eH → Nat → Option eH} (hd : 2 ≤ d) (hk119 : ∀ (h : eH) (v0 : Nat), k119 h v0 = some r → E l yX2_drawSets cX2_drawSets 3 none (e_rm d 0 0) 0 0 true L (Qx none L r) L h 0 0 119 [(0, .ref v0)] []) : ∀ (n : Nat) (h : eH) (v0 : Nat) (v1 : Int32), f_X2_drawSets_L87 L n k119 h v0 v1 = some r → E l yX2_drawSets cX2_drawSets 3 none (e_rm d 0 0) 0 0 true L (Qx none L r) L h 0 0 87 [(0, .ref v0), (1, .int v1)] [] := by
  intro n
  induction n with
  | zero => intro h v0 v1 hf; exact absurd hf (by simp [f_X2_drawSets_L87])
  | succ n ih =>
    intro h v0 v1 hf
    unfold f_X2_drawSets_L87 at hf
    refine e_iload_n 1 dX2_drawSets_87 rfl rfl ?_
    refine e_aload_n 0 dX2_drawSets_88 rfl rfl ?_
    obtain ⟨hO14, hf⟩ := e_if hf
    refine e_getI hO14 fc_2_1 lk_RX2_15 dX2_drawSets_89 ?_
    refine e_icmp_ge (t := 119) dX2_drawSets_92 (by decide) (fun c => ?_) (fun c => ?_)
    · replace hf := e_it c hf
      refine e_sub [0] rfl ?_
      exact hk119 _ _ hf
    · replace hf := e_ie c hf
      refine e_aload_n 0 dX2_drawSets_95 rfl rfl ?_
      refine e_dupR dX2_drawSets_96 ?_
      refine e_getL hO14 fc_2_6 lk_RX2_32 dX2_drawSets_97 ?_
      refine e_iload_n 1 dX2_drawSets_100 rfl rfl ?_
      refine e_aload_n 0 dX2_drawSets_101 rfl rfl ?_
      refine e_getI hO14 fc_2_2 lk_RX2_19 dX2_drawSets_102 ?_
      refine e_imul dX2_drawSets_105 ?_
      refine e_callSN (st := [.long _, .ref _]) ml_RX2_64 k_X10_bit (m_X10_bit (d := d - 1) (by omega) rfl) rfl rfl (Nat.le_of_ble_eq_true rfl) ⟨by omega, by decide⟩ ⟨Nat.le_refl _, Nat.le_refl _⟩ dX2_drawSets_106 ?_
      refine e_lor dX2_drawSets_109 ?_
      refine e_putL hO14 fc_2_6 rfl lk_RX2_32 dX2_drawSets_110 ?_
      obtain ⟨h15, hh16, hf⟩ := e_bd hf
      refine e_hn hh16 ?_
      refine e_iinc (lv' := [(1, .int _), (0, .ref _)]) 1 dX2_drawSets_113 rfl (by decide) rfl ?_
      refine e_goto (t := 87) dX2_drawSets_116 (by decide) ?_
      refine e_sub [1, 0] rfl ?_
      exact ih _ _ _ hf
def f_X2_drawSets (L : eL) (h : eH) (v0 : Nat) : Option eH :=
  if isO L v0 2 = true then
  f_X2_drawSets_L12 L e_fu (fun (h11 : eH) (w0_12 : Nat) =>
    if isO L w0_12 2 = true then
    f_X2_drawSets_L87 L e_fu (fun (h17 : eH) (w0_18 : Nat) =>
      if isO L w0_18 2 = true then
      (some (sL h17 w0_18 7 ((gL h17 w0_18 6) <<< (((gI h17 w0_18 2) - 1).toInt64 &&& 63)))).bind fun h20 =>
      some h20
      else none) (sL h11 w0_12 6 0) w0_12 0
    else none) (sL (sL h v0 4 0) v0 5 0) v0 0
  else none
set_option maxRecDepth 100000 in
set_option maxHeartbeats 4000000 in
theorem m_X2_drawSets {l : Launch} {d : Nat} {L : eL} {h : eH} {v0 : Nat} {r : eH} (hd : 2 ≤ d) (hf : f_X2_drawSets L h v0 = some r) : e_Met l yX2_drawSets cX2_drawSets 3 none d 0 0 true L h [.ref v0] (Qx none L r) := by
  refine e_metl (by decide) (Nat.le_of_ble_eq_true rfl) (lv := [(0, .ref v0)]) rfl ?_
  unfold f_X2_drawSets at hf
  refine e_aload_n 0 dX2_drawSets_0 rfl rfl ?_
  refine e_lconst (v := 0) dX2_drawSets_1 (by decide) ?_
  obtain ⟨hO1, hf⟩ := e_if hf
  refine e_putL hO1 fc_2_4 rfl lk_RX2_25 dX2_drawSets_2 ?_
  refine e_aload_n 0 dX2_drawSets_5 rfl rfl ?_
  refine e_lconst (v := 0) dX2_drawSets_6 (by decide) ?_
  refine e_putL hO1 fc_2_5 rfl lk_RX2_29 dX2_drawSets_7 ?_
  refine e_iconst (v := 0) dX2_drawSets_10 (by decide) ?_
  refine e_istore_n (lv' := [(1, .int _), (0, .ref _)]) dX2_drawSets_11 rfl (by decide) rfl ?_
  refine e_sub [1, 0] rfl ?_
  refine m_X2_drawSets_L12 hd ?_ e_fu _ _ _ hf
  · intro h11 w0_12 hf
    refine e_aload_n 0 dX2_drawSets_80 rfl rfl ?_
    refine e_lconst (v := 0) dX2_drawSets_81 (by decide) ?_
    obtain ⟨hO13, hf⟩ := e_if hf
    refine e_putL hO13 fc_2_6 rfl lk_RX2_32 dX2_drawSets_82 ?_
    refine e_iconst (v := 0) dX2_drawSets_85 (by decide) ?_
    refine e_istore_n (lv' := [(1, .int _), (0, .ref _)]) dX2_drawSets_86 rfl (by decide) rfl ?_
    refine e_sub [1, 0] rfl ?_
    refine m_X2_drawSets_L87 hd ?_ e_fu _ _ _ hf
    · intro h17 w0_18 hf
      refine e_aload_n 0 dX2_drawSets_119 rfl rfl ?_
      refine e_aload_n 0 dX2_drawSets_120 rfl rfl ?_
      obtain ⟨hO19, hf⟩ := e_if hf
      refine e_getL hO19 fc_2_6 lk_RX2_32 dX2_drawSets_121 ?_
      refine e_aload_n 0 dX2_drawSets_124 rfl rfl ?_
      refine e_getI hO19 fc_2_2 lk_RX2_19 dX2_drawSets_125 ?_
      refine e_iconst (v := 1) dX2_drawSets_128 (by decide) ?_
      refine e_isub dX2_drawSets_129 ?_
      refine e_lshl dX2_drawSets_130 ?_
      refine e_putL hO19 fc_2_7 rfl lk_RX2_35 dX2_drawSets_131 ?_
      obtain ⟨h20, hh21, hf⟩ := e_bd hf
      refine e_hn hh21 ?_
      exact e_vret rfl dX2_drawSets_134 (qV hf)
def f_X2_read_L18 (L : eL) : Nat → (eH → Int32 → Option (eH × Int32)) → (eH → Int32 → Option (eH × Int32)) → (eH → Nat → Nat → Int32 → Int32 → Option (eH × Int32)) → eH → Nat → Nat → Int32 → Int32 → Int32 → Option (eH × Int32)
  | 0, _, _, _, _, _, _, _, _, _ => none
  | n + 1, k56, k101, k113, h, v0, v1, v2, v3, v4 =>
    if isO L v1 8 = true then
    (f_X8_size L h v1).bind fun r3 =>
    if r3 ≤ v4 then
      k113 h v0 v1 v2 v3
    else
      (f_X8_at L h v1 v4).bind fun r5 =>
      if r5 = 47 then
        if isO L v0 2 = true then
        (f_X2_isWhole L h v0 v2 v3).bind fun r11 =>
        if r11 = 0 then
          k56 h v4
        else
          if v2 = 5 then
            k56 h v4
          else
            f_X2_read_L18 L n k56 k101 k113 (sI h v0 2 v3) v0 v1 (v2 + Int32.ofInt 1) 0 (v4 + Int32.ofInt 1)
        else none
      else
        if isO L v0 2 = true then
        if (gI h v0 2) ≤ v3 then
          k101 h v4
        else
          (f_X2_put L h v0 r5 ((v2 * (gI h v0 2)) + v3)).bind fun r8 =>
          if r8.2 = 0 then
            k101 r8.1 v4
          else
            f_X2_read_L18 L n k56 k101 k113 r8.1 v0 v1 v2 (v3 + Int32.ofInt 1) (v4 + Int32.ofInt 1)
        else none
    else none
set_option maxRecDepth 100000 in
set_option maxHeartbeats 4000000 in
theorem m_X2_read_L18 {l : Launch} {d : Nat} {L : eL}  {r : eH × Int32} {k56 : eH → Int32 → Option (eH × Int32)} {k101 : eH → Int32 → Option (eH × Int32)} {k113 : eH → Nat → Nat → Int32 → Int32 → Option (eH × Int32)} (hd : 3 ≤ d) (hk56 : ∀ (h : eH) (v4 : Int32), k56 h v4 = some r → E l yX2_read cX2_read 7 (some .int) (e_rm d 0 0) 0 0 true L (Qx (some (.int r.2)) L r.1) L h 0 0 56 [(4, .int v4)] []) (hk101 : ∀ (h : eH) (v4 : Int32), k101 h v4 = some r → E l yX2_read cX2_read 7 (some .int) (e_rm d 0 0) 0 0 true L (Qx (some (.int r.2)) L r.1) L h 0 0 101 [(4, .int v4)] []) (hk113 : ∀ (h : eH) (v0 : Nat) (v1 : Nat) (v2 : Int32) (v3 : Int32), k113 h v0 v1 v2 v3 = some r → E l yX2_read cX2_read 7 (some .int) (e_rm d 0 0) 0 0 true L (Qx (some (.int r.2)) L r.1) L h 0 0 113 [(0, .ref v0), (1, .ref v1), (2, .int v2), (3, .int v3)] []) : ∀ (n : Nat) (h : eH) (v0 : Nat) (v1 : Nat) (v2 : Int32) (v3 : Int32) (v4 : Int32), f_X2_read_L18 L n k56 k101 k113 h v0 v1 v2 v3 v4 = some r → E l yX2_read cX2_read 7 (some .int) (e_rm d 0 0) 0 0 true L (Qx (some (.int r.2)) L r.1) L h 0 0 18 [(0, .ref v0), (1, .ref v1), (2, .int v2), (3, .int v3), (4, .int v4)] [] := by
  intro n
  induction n with
  | zero => intro h v0 v1 v2 v3 v4 hf; exact absurd hf (by simp [f_X2_read_L18])
  | succ n ih =>
    intro h v0 v1 v2 v3 v4 hf
    unfold f_X2_read_L18 at hf
    refine e_iload 4 dX2_read_18 rfl ?_
    refine e_aload_n 1 dX2_read_20 rfl rfl ?_
    obtain ⟨hO2, hf⟩ := e_if hf
    obtain ⟨r3, hr4, hf⟩ := e_bd hf
    refine e_callV (st := [.int _]) ml_RX2_38 k_X8_size (m_X8_size (d := d - 1) (by omega) hr4) hO2 ⟨by decide, rfl⟩ rfl rfl (Nat.le_of_ble_eq_true rfl) ⟨by omega, by decide⟩ ⟨Nat.le_refl _, Nat.le_refl _⟩ dX2_read_21 ?_
    refine e_icmp_ge (t := 113) dX2_read_24 (by decide) (fun c => ?_) (fun c => ?_)
    · replace hf := e_it c hf
      refine e_sub [0, 1, 2, 3] rfl ?_
      exact hk113 _ _ _ _ _ hf
    · replace hf := e_ie c hf
      refine e_aload_n 1 dX2_read_27 rfl rfl ?_
      refine e_iload 4 dX2_read_28 rfl ?_
      obtain ⟨r5, hr6, hf⟩ := e_bd hf
      refine e_callV (st := []) ml_RX2_44 k_X8_at (m_X8_at (d := d - 1) (by omega) hr6) hO2 ⟨by decide, rfl⟩ rfl rfl (Nat.le_of_ble_eq_true rfl) ⟨by omega, by decide⟩ ⟨Nat.le_refl _, Nat.le_refl _⟩ dX2_read_30 ?_
      refine e_istore (lv' := [(5, .int _), (0, .ref _), (1, .ref _), (2, .int _), (3, .int _), (4, .int _)]) dX2_read_33 (by decide) rfl ?_
      refine e_iload 0 dX2_read_35 rfl ?_
      refine e_bipush (v := 47) dX2_read_37 (by decide) ?_
      refine e_icmp_ne (t := 72) dX2_read_39 (by decide) (fun c => ?_) (fun c => ?_)
      · replace hf := e_ie c hf
        refine e_iload_n 3 dX2_read_72 rfl rfl ?_
        refine e_aload_n 1 dX2_read_73 rfl rfl ?_
        obtain ⟨hO7, hf⟩ := e_if hf
        refine e_getI hO7 fc_2_2 lk_RX2_19 dX2_read_74 ?_
        refine e_imul dX2_read_77 ?_
        refine e_iload_n 4 dX2_read_78 rfl rfl ?_
        refine e_iadd dX2_read_79 ?_
        refine e_istore (lv' := [(6, .int _), (5, .int _), (0, .ref _), (1, .ref _), (2, .int _), (3, .int _), (4, .int _)]) dX2_read_80 (by decide) rfl ?_
        refine e_iload_n 5 dX2_read_82 rfl rfl ?_
        refine e_aload_n 2 dX2_read_83 rfl rfl ?_
        refine e_getI hO7 fc_2_2 lk_RX2_19 dX2_read_84 ?_
        refine e_icmp_ge (t := 101) dX2_read_87 (by decide) (fun c => ?_) (fun c => ?_)
        · replace hf := e_it c hf
          refine e_sub [6] rfl ?_
          exact hk101 _ _ hf
        · replace hf := e_ie c hf
          refine e_aload_n 2 dX2_read_90 rfl rfl ?_
          refine e_iload 1 dX2_read_91 rfl ?_
          refine e_iload 0 dX2_read_93 rfl ?_
          obtain ⟨r8, hr9, hf⟩ := e_bd hf
          refine e_callV (st := []) ml_RX2_52 k_X2_put (m_X2_put (d := d - 1) (by omega) hr9) hO7 ⟨by decide, rfl⟩ rfl rfl (Nat.le_of_ble_eq_true rfl) ⟨by omega, by decide⟩ ⟨Nat.le_refl _, Nat.le_refl _⟩ dX2_read_95 ?_
          refine e_if_ne (t := 104) dX2_read_98 (by decide) (fun c => ?_) (fun c => ?_)
          · replace hf := e_ie c hf
            refine e_iinc (lv' := [(3, .int _), (6, .int _), (5, .int _), (0, .ref _), (1, .ref _), (2, .int _), (4, .int _)]) 5 dX2_read_104 rfl (by decide) rfl ?_
            refine e_iinc (lv' := [(4, .int _), (3, .int _), (6, .int _), (5, .int _), (0, .ref _), (1, .ref _), (2, .int _)]) 6 dX2_read_107 rfl (by decide) rfl ?_
            refine e_goto (t := 18) dX2_read_110 (by decide) ?_
            refine e_sub [4, 5, 6, 1, 0] rfl ?_
            exact ih _ _ _ _ _ _ hf
          · replace hf := e_it c hf
            refine e_sub [6] rfl ?_
            exact hk101 _ _ hf
      · replace hf := e_it c hf
        refine e_aload_n 1 dX2_read_42 rfl rfl ?_
        refine e_iload_n 3 dX2_read_43 rfl rfl ?_
        refine e_iload_n 4 dX2_read_44 rfl rfl ?_
        obtain ⟨hO10, hf⟩ := e_if hf
        obtain ⟨r11, hr12, hf⟩ := e_bd hf
        refine e_callV (st := []) ml_RX2_48 k_X2_isWhole (m_X2_isWhole (d := d - 1) (by omega) hr12) hO10 ⟨by decide, rfl⟩ rfl rfl (Nat.le_of_ble_eq_true rfl) ⟨by omega, by decide⟩ ⟨Nat.le_refl _, Nat.le_refl _⟩ dX2_read_45 ?_
        refine e_if_eq (t := 56) dX2_read_48 (by decide) (fun c => ?_) (fun c => ?_)
        · replace hf := e_it c hf
          refine e_sub [5] rfl ?_
          exact hk56 _ _ hf
        · replace hf := e_ie c hf
          refine e_iload_n 3 dX2_read_51 rfl rfl ?_
          refine e_iconst (v := 5) dX2_read_52 (by decide) ?_
          refine e_icmp_ne (t := 59) dX2_read_53 (by decide) (fun c => ?_) (fun c => ?_)
          · replace hf := e_ie c hf
            refine e_aload_n 1 dX2_read_59 rfl rfl ?_
            refine e_iload_n 4 dX2_read_60 rfl rfl ?_
            refine e_putI hO10 fc_2_2 rfl lk_RX2_19 dX2_read_61 ?_
            refine e_iinc (lv' := [(2, .int _), (5, .int _), (0, .ref _), (1, .ref _), (3, .int _), (4, .int _)]) 3 dX2_read_64 rfl (by decide) rfl ?_
            refine e_iconst (v := 0) dX2_read_67 (by decide) ?_
            refine e_istore_n (lv' := [(3, .int _), (2, .int _), (5, .int _), (0, .ref _), (1, .ref _), (4, .int _)]) dX2_read_68 rfl (by decide) rfl ?_
            refine e_goto (t := 107) dX2_read_69 (by decide) ?_
            refine e_iinc (lv' := [(4, .int _), (3, .int _), (2, .int _), (5, .int _), (0, .ref _), (1, .ref _)]) 5 dX2_read_107 rfl (by decide) rfl ?_
            refine e_goto (t := 18) dX2_read_110 (by decide) ?_
            refine e_sub [4, 5, 2, 1, 0] rfl ?_
            exact ih _ _ _ _ _ _ hf
          · replace hf := e_it c hf
            refine e_sub [5] rfl ?_
            exact hk56 _ _ hf
def f_X2_read (L : eL) (h : eH) (v0 : Nat) (v1 : Nat) : Option (eH × Int32) :=
  if isO L v0 2 = true then
  f_X2_read_L18 L e_fu (fun (h13 : eH) (w4_14 : Int32) =>
    some (h13, w4_14)) (fun (h15 : eH) (w4_16 : Int32) =>
    some (h15, w4_16)) (fun (h17 : eH) (w0_18 : Nat) (w1_19 : Nat) (w2_20 : Int32) (w3_21 : Int32) =>
    if isO L w0_18 2 = true then
    (f_X2_isWhole L h17 w0_18 w2_20 w3_21).bind fun r23 =>
    if r23 = 0 then
      if isO L w1_19 8 = true then
      (f_X8_size L h17 w1_19).bind fun r30 =>
      some (h17, r30)
      else none
    else
      (some (sI (sI h17 w0_18 2 w3_21) w0_18 1 (w2_20 + 1))).bind fun h25 =>
      (f_X2_drawSets L h25 w0_18).bind fun r27 =>
      some (r27, (-1))
    else none) (sI (sI h v0 3 (-1)) v0 2 6) v0 v1 0 0 0
  else none
set_option maxRecDepth 100000 in
set_option maxHeartbeats 4000000 in
theorem m_X2_read {l : Launch} {d : Nat} {L : eL} {h : eH} {v0 : Nat} {v1 : Nat} {r : eH × Int32} (hd : 3 ≤ d) (hf : f_X2_read L h v0 v1 = some r) : e_Met l yX2_read cX2_read 7 (some .int) d 0 0 true L h [.ref v0, .ref v1] (Qx (some (.int r.2)) L r.1) := by
  refine e_metl (by decide) (Nat.le_of_ble_eq_true rfl) (lv := [(0, .ref v0), (1, .ref v1)]) rfl ?_
  unfold f_X2_read at hf
  refine e_iconst (v := 0) dX2_read_0 (by decide) ?_
  refine e_istore_n (lv' := [(2, .int _), (0, .ref _), (1, .ref _)]) dX2_read_1 rfl (by decide) rfl ?_
  refine e_iconst (v := 0) dX2_read_2 (by decide) ?_
  refine e_istore_n (lv' := [(3, .int _), (2, .int _), (0, .ref _), (1, .ref _)]) dX2_read_3 rfl (by decide) rfl ?_
  refine e_aload_n 2 dX2_read_4 rfl rfl ?_
  refine e_iconst (v := (-1)) dX2_read_5 (by decide) ?_
  obtain ⟨hO1, hf⟩ := e_if hf
  refine e_putI hO1 fc_2_3 rfl lk_RX2_22 dX2_read_6 ?_
  refine e_aload_n 2 dX2_read_9 rfl rfl ?_
  refine e_bipush (v := 6) dX2_read_10 (by decide) ?_
  refine e_putI hO1 fc_2_2 rfl lk_RX2_19 dX2_read_12 ?_
  refine e_iconst (v := 0) dX2_read_15 (by decide) ?_
  refine e_istore (lv' := [(4, .int _), (3, .int _), (2, .int _), (0, .ref _), (1, .ref _)]) dX2_read_16 (by decide) rfl ?_
  refine e_sub [3, 4, 2, 1, 0] rfl ?_
  refine m_X2_read_L18 hd ?_ ?_ ?_ e_fu _ _ _ _ _ _ hf
  · intro h13 w4_14 hf
    refine e_iload 0 dX2_read_56 rfl ?_
    exact e_iret rfl dX2_read_58 (qW hf)
  · intro h15 w4_16 hf
    refine e_iload 0 dX2_read_101 rfl ?_
    exact e_iret rfl dX2_read_103 (qW hf)
  · intro h17 w0_18 w1_19 w2_20 w3_21 hf
    refine e_aload_n 0 dX2_read_113 rfl rfl ?_
    refine e_iload_n 2 dX2_read_114 rfl rfl ?_
    refine e_iload_n 3 dX2_read_115 rfl rfl ?_
    obtain ⟨hO22, hf⟩ := e_if hf
    obtain ⟨r23, hr24, hf⟩ := e_bd hf
    refine e_callV (st := []) ml_RX2_48 k_X2_isWhole (m_X2_isWhole (d := d - 1) (by omega) hr24) hO22 ⟨by decide, rfl⟩ rfl rfl (Nat.le_of_ble_eq_true rfl) ⟨by omega, by decide⟩ ⟨Nat.le_refl _, Nat.le_refl _⟩ dX2_read_116 ?_
    refine e_if_ne (t := 127) dX2_read_119 (by decide) (fun c => ?_) (fun c => ?_)
    · replace hf := e_ie c hf
      refine e_aload_n 0 dX2_read_127 rfl rfl ?_
      refine e_iload_n 3 dX2_read_128 rfl rfl ?_
      refine e_putI hO22 fc_2_2 rfl lk_RX2_19 dX2_read_129 ?_
      refine e_aload_n 0 dX2_read_132 rfl rfl ?_
      refine e_iload_n 2 dX2_read_133 rfl rfl ?_
      refine e_iconst (v := 1) dX2_read_134 (by decide) ?_
      refine e_iadd dX2_read_135 ?_
      refine e_putI hO22 fc_2_1 rfl lk_RX2_15 dX2_read_136 ?_
      obtain ⟨h25, hh26, hf⟩ := e_bd hf
      refine e_hn hh26 ?_
      refine e_aload_n 0 dX2_read_139 rfl rfl ?_
      obtain ⟨r27, hr28, hf⟩ := e_bd hf
      refine e_callV (st := []) ml_RX2_55 k_X2_drawSets (m_X2_drawSets (d := d - 1) (by omega) hr28) hO22 ⟨by decide, rfl⟩ rfl rfl (Nat.le_of_ble_eq_true rfl) ⟨by omega, by decide⟩ ⟨Nat.le_refl _, Nat.le_refl _⟩ dX2_read_140 ?_
      refine e_iconst (v := (-1)) dX2_read_143 (by decide) ?_
      exact e_iret rfl dX2_read_144 (qW hf)
    · replace hf := e_it c hf
      refine e_aload_n 1 dX2_read_122 rfl rfl ?_
      obtain ⟨hO29, hf⟩ := e_if hf
      obtain ⟨r30, hr31, hf⟩ := e_bd hf
      refine e_callV (st := []) ml_RX2_38 k_X8_size (m_X8_size (d := d - 1) (by omega) hr31) hO29 ⟨by decide, rfl⟩ rfl rfl (Nat.le_of_ble_eq_true rfl) ⟨by omega, by decide⟩ ⟨Nat.le_refl _, Nat.le_refl _⟩ dX2_read_123 ?_
      exact e_iret rfl dX2_read_126 (qW hf)
def f_X10_holds (v0 : Int64) (v2 : Int32) : Int32 :=
  if v2 < 0 then
    0
  else
    if 36 ≤ v2 then
      0
    else
      if (lg_cmp (((v0.toUInt64 >>> (v2.toInt64.toUInt64 &&& Int64.toUInt64 63)).toInt64) &&& 1) 0) = 0 then
        0
      else
        1
set_option maxRecDepth 100000 in
set_option maxHeartbeats 4000000 in
theorem m_X10_holds {l : Launch} {d : Nat} {L : eL} {h : eH} {v0 : Int64} {v2 : Int32} {r : Int32} (hd : 1 ≤ d) (hf : f_X10_holds v0 v2 = r) : e_Met l yX10_holds cX10_holds 3 (some .boolean) d 0 0 true L h [.long v0, .int v2] (Qx (some (.int r)) L h) := by
  refine e_metl (by decide) (Nat.le_of_ble_eq_true rfl) (lv := [(0, .long v0), (2, .int v2)]) rfl ?_
  unfold f_X10_holds at hf
  refine e_iload_n 1 dX10_holds_0 rfl rfl ?_
  refine e_if_lt (t := 24) dX10_holds_1 (by decide) (fun c => ?_) (fun c => ?_)
  · replace hf := e_it c hf
    refine e_iconst (v := 0) dX10_holds_24 (by decide) ?_
    exact e_zret (ty := .boolean) rfl rfl dX10_holds_25 (qT hf)
  · replace hf := e_ie c hf
    refine e_iload_n 1 dX10_holds_4 rfl rfl ?_
    refine e_bipush (v := 36) dX10_holds_5 (by decide) ?_
    refine e_icmp_ge (t := 24) dX10_holds_7 (by decide) (fun c => ?_) (fun c => ?_)
    · replace hf := e_it c hf
      refine e_iconst (v := 0) dX10_holds_24 (by decide) ?_
      exact e_zret (ty := .boolean) rfl rfl dX10_holds_25 (qT hf)
    · replace hf := e_ie c hf
      refine e_lload_n 0 dX10_holds_10 rfl rfl ?_
      refine e_iload_n 1 dX10_holds_11 rfl rfl ?_
      refine e_lushr dX10_holds_12 ?_
      refine e_lconst (v := 1) dX10_holds_13 (by decide) ?_
      refine e_land dX10_holds_14 ?_
      refine e_lconst (v := 0) dX10_holds_15 (by decide) ?_
      refine e_lcmp dX10_holds_16 ?_
      refine e_if_eq (t := 24) dX10_holds_17 (by decide) (fun c => ?_) (fun c => ?_)
      · replace hf := e_it c hf
        refine e_iconst (v := 0) dX10_holds_24 (by decide) ?_
        exact e_zret (ty := .boolean) rfl rfl dX10_holds_25 (qT hf)
      · replace hf := e_ie c hf
        refine e_iconst (v := 1) dX10_holds_20 (by decide) ?_
        refine e_goto (t := 25) dX10_holds_21 (by decide) ?_
        exact e_zret (ty := .boolean) rfl rfl dX10_holds_25 (qT hf)
def f_X2_firstOf_L2  : Nat → (Int32 → Option Int32) → (Option Int32) → Int64 → Int32 → Option Int32
  | 0, _, _, _, _ => none
  | n + 1, k16, k24, v0, v2 =>
    if 36 ≤ v2 then
      k24
    else
      if (f_X10_holds v0 v2) = 0 then
        f_X2_firstOf_L2 n k16 k24 v0 (v2 + Int32.ofInt 1)
      else
        k16 v2
set_option maxRecDepth 100000 in
set_option maxHeartbeats 4000000 in
theorem m_X2_firstOf_L2 {l : Launch} {d : Nat} {L : eL} {h : eH} {r : Int32} {k16 : Int32 → Option Int32} {k24 : Option Int32} (hd : 2 ≤ d) (hk16 : ∀ (v2 : Int32), k16 v2 = some r → E l yX2_firstOf cX2_firstOf 3 (some .int) (e_rm d 0 0) 0 0 true L (Qx (some (.int r)) L h) L h 0 0 16 [(2, .int v2)] []) (hk24 : k24 = some r → E l yX2_firstOf cX2_firstOf 3 (some .int) (e_rm d 0 0) 0 0 true L (Qx (some (.int r)) L h) L h 0 0 24 [] []) : ∀ (n : Nat) (v0 : Int64) (v2 : Int32), f_X2_firstOf_L2 n k16 k24 v0 v2 = some r → E l yX2_firstOf cX2_firstOf 3 (some .int) (e_rm d 0 0) 0 0 true L (Qx (some (.int r)) L h) L h 0 0 2 [(0, .long v0), (2, .int v2)] [] := by
  intro n
  induction n with
  | zero => intro v0 v2 hf; exact absurd hf (by simp [f_X2_firstOf_L2])
  | succ n ih =>
    intro v0 v2 hf
    unfold f_X2_firstOf_L2 at hf
    refine e_iload_n 1 dX2_firstOf_2 rfl rfl ?_
    refine e_bipush (v := 36) dX2_firstOf_3 (by decide) ?_
    refine e_icmp_ge (t := 24) dX2_firstOf_5 (by decide) (fun c => ?_) (fun c => ?_)
    · replace hf := e_it c hf
      refine e_sub [] rfl ?_
      exact hk24  hf
    · replace hf := e_ie c hf
      refine e_lload_n 0 dX2_firstOf_8 rfl rfl ?_
      refine e_iload_n 1 dX2_firstOf_9 rfl rfl ?_
      refine e_callSN (st := []) ml_RX2_72 k_X10_holds (m_X10_holds (d := d - 1) (by omega) rfl) rfl rfl (Nat.le_of_ble_eq_true rfl) ⟨by omega, by decide⟩ ⟨Nat.le_refl _, Nat.le_refl _⟩ dX2_firstOf_10 ?_
      refine e_if_eq (t := 18) dX2_firstOf_13 (by decide) (fun c => ?_) (fun c => ?_)
      · replace hf := e_it c hf
        refine e_iinc (lv' := [(2, .int _), (0, .long _)]) 1 dX2_firstOf_18 rfl (by decide) rfl ?_
        refine e_goto (t := 2) dX2_firstOf_21 (by decide) ?_
        refine e_sub [1, 0] rfl ?_
        exact ih _ _ hf
      · replace hf := e_ie c hf
        refine e_sub [1] rfl ?_
        exact hk16 _ hf
def f_X2_firstOf (v0 : Int64) : Option Int32 :=
  f_X2_firstOf_L2 e_fu (fun (w2_1 : Int32) =>
    some w2_1) (
    some (-1)) v0 0
set_option maxRecDepth 100000 in
set_option maxHeartbeats 4000000 in
theorem m_X2_firstOf {l : Launch} {d : Nat} {L : eL} {h : eH} {v0 : Int64} {r : Int32} (hd : 2 ≤ d) (hf : f_X2_firstOf v0 = some r) : e_Met l yX2_firstOf cX2_firstOf 3 (some .int) d 0 0 true L h [.long v0] (Qx (some (.int r)) L h) := by
  refine e_metl (by decide) (Nat.le_of_ble_eq_true rfl) (lv := [(0, .long v0)]) rfl ?_
  unfold f_X2_firstOf at hf
  refine e_iconst (v := 0) dX2_firstOf_0 (by decide) ?_
  refine e_istore_n (lv' := [(2, .int _), (0, .long _)]) dX2_firstOf_1 rfl (by decide) rfl ?_
  refine e_sub [1, 0] rfl ?_
  refine m_X2_firstOf_L2 hd ?_ ?_ e_fu _ _ hf
  · intro w2_1 hf
    refine e_iload_n 0 dX2_firstOf_16 rfl rfl ?_
    exact e_iret rfl dX2_firstOf_17 (qP hf)
  · intro  hf
    refine e_iconst (v := (-1)) dX2_firstOf_24 (by decide) ?_
    exact e_iret rfl dX2_firstOf_25 (qP hf)
def f_X2_start (L : eL) (h : eH) (v0 : Nat) : Option Int32 :=
  if isO L v0 2 = true then
  if (gI h v0 3) = (-1) then
    (f_X2_firstOf (gL h v0 4)).bind fun r2 =>
    some r2
  else
    some (gI h v0 3)
  else none
set_option maxRecDepth 100000 in
set_option maxHeartbeats 4000000 in
theorem m_X2_start {l : Launch} {d : Nat} {L : eL} {h : eH} {v0 : Nat} {r : Int32} (hd : 3 ≤ d) (hf : f_X2_start L h v0 = some r) : e_Met l yX2_start cX2_start 1 (some .int) d 0 0 true L h [.ref v0] (Qx (some (.int r)) L h) := by
  refine e_metl (by decide) (Nat.le_of_ble_eq_true rfl) (lv := [(0, .ref v0)]) rfl ?_
  unfold f_X2_start at hf
  refine e_aload_n 0 dX2_start_0 rfl rfl ?_
  obtain ⟨hO1, hf⟩ := e_if hf
  refine e_getI hO1 fc_2_3 lk_RX2_22 dX2_start_1 ?_
  refine e_iconst (v := (-1)) dX2_start_4 (by decide) ?_
  refine e_icmp_eq (t := 13) dX2_start_5 (by decide) (fun c => ?_) (fun c => ?_)
  · replace hf := e_it c hf
    refine e_aload_n 0 dX2_start_13 rfl rfl ?_
    refine e_getL hO1 fc_2_4 lk_RX2_25 dX2_start_14 ?_
    obtain ⟨r2, hr3, hf⟩ := e_bd hf
    refine e_callS (st := []) ml_RX2_68 k_X2_firstOf (m_X2_firstOf (d := d - 1) (by omega) hr3) rfl rfl (Nat.le_of_ble_eq_true rfl) ⟨by omega, by decide⟩ ⟨Nat.le_refl _, Nat.le_refl _⟩ dX2_start_17 ?_
    exact e_iret rfl dX2_start_20 (qP hf)
  · replace hf := e_ie c hf
    refine e_aload_n 0 dX2_start_8 rfl rfl ?_
    refine e_getI hO1 fc_2_3 lk_RX2_22 dX2_start_9 ?_
    exact e_iret rfl dX2_start_12 (qP hf)
def f_J7_fill_53178_L5 (L : eL) : Nat → (eH → Option eH) → eH → Nat → Int32 → Int32 → Int32 → Option eH
  | 0, _, _, _, _, _, _ => none
  | n + 1, k20, h, v0, v1, v2, v3 =>
    if v3 ≤ v2 then
      k20 h
    else
      if inA L v0 0 v2 = true then
      f_J7_fill_53178_L5 L n k20 (sI h v0 v2.toNatClampNeg v1) v0 v1 (v2 + Int32.ofInt 1) v3
      else none
set_option maxRecDepth 100000 in
set_option maxHeartbeats 4000000 in
theorem m_J7_fill_53178_L5 {l : Launch} {d : Nat} {L : eL}  {r : eH} {k20 : eH → Option eH} (hd : 1 ≤ d) (hk20 : ∀ (h : eH), k20 h = some r → E l yJ7_fill_53178 cJ7_fill_53178 4 none (e_rm d 0 0) 0 0 true L (Qx none L r) L h 0 0 20 [] []) : ∀ (n : Nat) (h : eH) (v0 : Nat) (v1 : Int32) (v2 : Int32) (v3 : Int32), f_J7_fill_53178_L5 L n k20 h v0 v1 v2 v3 = some r → E l yJ7_fill_53178 cJ7_fill_53178 4 none (e_rm d 0 0) 0 0 true L (Qx none L r) L h 0 0 5 [(0, .ref v0), (1, .int v1), (2, .int v2), (3, .int v3)] [] := by
  intro n
  induction n with
  | zero => intro h v0 v1 v2 v3 hf; exact absurd hf (by simp [f_J7_fill_53178_L5])
  | succ n ih =>
    intro h v0 v1 v2 v3 hf
    unfold f_J7_fill_53178_L5 at hf
    refine e_iload_n 2 dJ7_fill_53178_5 rfl rfl ?_
    refine e_iload_n 3 dJ7_fill_53178_6 rfl rfl ?_
    refine e_icmp_ge (t := 20) dJ7_fill_53178_7 (by decide) (fun c => ?_) (fun c => ?_)
    · replace hf := e_it c hf
      refine e_sub [] rfl ?_
      exact hk20 _ hf
    · replace hf := e_ie c hf
      refine e_aload_n 0 dJ7_fill_53178_10 rfl rfl ?_
      refine e_iload_n 2 dJ7_fill_53178_11 rfl rfl ?_
      refine e_iload_n 1 dJ7_fill_53178_12 rfl rfl ?_
      obtain ⟨hI2, hf⟩ := e_if hf
      refine e_iast hI2 dJ7_fill_53178_13 ?_
      refine e_iinc (lv' := [(2, .int _), (0, .ref _), (1, .int _), (3, .int _)]) 2 dJ7_fill_53178_14 rfl (by decide) rfl ?_
      refine e_goto (t := 5) dJ7_fill_53178_17 (by decide) ?_
      refine e_sub [1, 2, 0, 3] rfl ?_
      exact ih _ _ _ _ _ hf
def f_J7_fill_53178 (L : eL) (h : eH) (v0 : Nat) (v1 : Int32) : Option eH :=
  if isArr L v0 = true then
  f_J7_fill_53178_L5 L e_fu (fun (h3 : eH) =>
    some h3) h v0 v1 0 (alen L v0)
  else none
set_option maxRecDepth 100000 in
set_option maxHeartbeats 4000000 in
theorem m_J7_fill_53178 {l : Launch} {d : Nat} {L : eL} {h : eH} {v0 : Nat} {v1 : Int32} {r : eH} (hd : 1 ≤ d) (hf : f_J7_fill_53178 L h v0 v1 = some r) : e_Met l yJ7_fill_53178 cJ7_fill_53178 4 none d 0 0 true L h [.ref v0, .int v1] (Qx none L r) := by
  refine e_metl (by decide) (Nat.le_of_ble_eq_true rfl) (lv := [(0, .ref v0), (1, .int v1)]) rfl ?_
  unfold f_J7_fill_53178 at hf
  refine e_iconst (v := 0) dJ7_fill_53178_0 (by decide) ?_
  refine e_istore_n (lv' := [(2, .int _), (0, .ref _), (1, .int _)]) dJ7_fill_53178_1 rfl (by decide) rfl ?_
  refine e_aload_n 1 dJ7_fill_53178_2 rfl rfl ?_
  obtain ⟨hA1, hf⟩ := e_if hf
  refine e_len hA1 dJ7_fill_53178_3 ?_
  refine e_istore_n (lv' := [(3, .int _), (2, .int _), (0, .ref _), (1, .int _)]) dJ7_fill_53178_4 rfl (by decide) rfl ?_
  refine e_sub [2, 3, 1, 0] rfl ?_
  refine m_J7_fill_53178_L5 hd ?_ e_fu _ _ _ _ _ hf
  · intro h3 hf
    exact e_vret rfl dJ7_fill_53178_20 (qV hf)
def f_X6_clearDust (L : eL) (h : eH) (v0 : Nat) : Option eH :=
  if isO L v0 6 = true then
  (gR h v0 0).bind fun b2 =>
  (f_J7_fill_53178 L h b2 0).bind fun r4 =>
  some r4
  else none
set_option maxRecDepth 100000 in
set_option maxHeartbeats 4000000 in
theorem m_X6_clearDust {l : Launch} {d : Nat} {L : eL} {h : eH} {v0 : Nat} {r : eH} (hd : 2 ≤ d) (hf : f_X6_clearDust L h v0 = some r) : e_Met l yX6_clearDust cX6_clearDust 1 none d 0 0 true L h [.ref v0] (Qx none L r) := by
  refine e_metl (by decide) (Nat.le_of_ble_eq_true rfl) (lv := [(0, .ref v0)]) rfl ?_
  unfold f_X6_clearDust at hf
  refine e_aload_n 0 dX6_clearDust_0 rfl rfl ?_
  obtain ⟨hO1, hf⟩ := e_if hf
  obtain ⟨b2, hb3, hf⟩ := e_bd hf
  refine e_getR hO1 fc_6_0 lk_RX6_9 dX6_clearDust_1 hb3 ?_
  refine e_iconst (v := 0) dX6_clearDust_4 (by decide) ?_
  obtain ⟨r4, hr5, hf⟩ := e_bd hf
  refine e_callS (st := []) ml_RX6_50 k_J7_fill_53178 (m_J7_fill_53178 (d := d - 1) (by omega) hr5) rfl rfl (Nat.le_of_ble_eq_true rfl) ⟨by omega, by decide⟩ ⟨Nat.le_refl _, Nat.le_refl _⟩ dX6_clearDust_5 ?_
  exact e_vret rfl dX6_clearDust_8 (qV hf)
def f_X6_begin (L : eL) (h : eH) (v0 : Nat) (v1 : Int32) : Option eH :=
  if isO L v0 6 = true then
  (f_X6_clearDust L h v0).bind fun r2 =>
  (some (sI (sI (sI (sI r2 v0 1 v1) v0 2 0) v0 3 100) v0 4 0)).bind fun h4 =>
  (some (sL (sI (sI (sI h4 v0 5 0) v0 6 0) v0 7 0) v0 8 0)).bind fun h6 =>
  some h6
  else none
set_option maxRecDepth 100000 in
set_option maxHeartbeats 4000000 in
theorem m_X6_begin {l : Launch} {d : Nat} {L : eL} {h : eH} {v0 : Nat} {v1 : Int32} {r : eH} (hd : 3 ≤ d) (hf : f_X6_begin L h v0 v1 = some r) : e_Met l yX6_begin cX6_begin 2 none d 0 0 true L h [.ref v0, .int v1] (Qx none L r) := by
  refine e_metl (by decide) (Nat.le_of_ble_eq_true rfl) (lv := [(0, .ref v0), (1, .int v1)]) rfl ?_
  unfold f_X6_begin at hf
  refine e_aload_n 0 dX6_begin_0 rfl rfl ?_
  obtain ⟨hO1, hf⟩ := e_if hf
  obtain ⟨r2, hr3, hf⟩ := e_bd hf
  refine e_callV (st := []) ml_RX6_41 k_X6_clearDust (m_X6_clearDust (d := d - 1) (by omega) hr3) hO1 ⟨by decide, rfl⟩ rfl rfl (Nat.le_of_ble_eq_true rfl) ⟨by omega, by decide⟩ ⟨Nat.le_refl _, Nat.le_refl _⟩ dX6_begin_1 ?_
  refine e_aload_n 0 dX6_begin_4 rfl rfl ?_
  refine e_iload_n 1 dX6_begin_5 rfl rfl ?_
  refine e_putI hO1 fc_6_1 rfl lk_RX6_15 dX6_begin_6 ?_
  refine e_aload_n 0 dX6_begin_9 rfl rfl ?_
  refine e_iconst (v := 0) dX6_begin_10 (by decide) ?_
  refine e_putI hO1 fc_6_2 rfl lk_RX6_19 dX6_begin_11 ?_
  refine e_aload_n 0 dX6_begin_14 rfl rfl ?_
  refine e_bipush (v := 100) dX6_begin_15 (by decide) ?_
  refine e_putI hO1 fc_6_3 rfl lk_RX6_22 dX6_begin_17 ?_
  refine e_aload_n 0 dX6_begin_20 rfl rfl ?_
  refine e_iconst (v := 0) dX6_begin_21 (by decide) ?_
  refine e_putI hO1 fc_6_4 rfl lk_RX6_25 dX6_begin_22 ?_
  obtain ⟨h4, hh5, hf⟩ := e_bd hf
  refine e_hn hh5 ?_
  refine e_aload_n 0 dX6_begin_25 rfl rfl ?_
  refine e_iconst (v := 0) dX6_begin_26 (by decide) ?_
  refine e_putI hO1 fc_6_5 rfl lk_RX6_28 dX6_begin_27 ?_
  refine e_aload_n 0 dX6_begin_30 rfl rfl ?_
  refine e_iconst (v := 0) dX6_begin_31 (by decide) ?_
  refine e_putI hO1 fc_6_6 rfl lk_RX6_31 dX6_begin_32 ?_
  refine e_aload_n 0 dX6_begin_35 rfl rfl ?_
  refine e_iconst (v := 0) dX6_begin_36 (by decide) ?_
  refine e_putI hO1 fc_6_7 rfl lk_RX6_34 dX6_begin_37 ?_
  refine e_aload_n 0 dX6_begin_40 rfl rfl ?_
  refine e_lconst (v := 0) dX6_begin_41 (by decide) ?_
  refine e_putL hO1 fc_6_8 rfl lk_RX6_37 dX6_begin_42 ?_
  obtain ⟨h6, hh7, hf⟩ := e_bd hf
  refine e_hn hh7 ?_
  exact e_vret rfl dX6_begin_45 (qV hf)
def f_X0_clear (L : eL) (h : eH) (v0 : Nat) : Option eH :=
  if isO L v0 0 = true then
  some (sI h v0 2 0)
  else none
set_option maxRecDepth 100000 in
set_option maxHeartbeats 4000000 in
theorem m_X0_clear {l : Launch} {d : Nat} {L : eL} {h : eH} {v0 : Nat} {r : eH} (hd : 1 ≤ d) (hf : f_X0_clear L h v0 = some r) : e_Met l yX0_clear cX0_clear 1 none d 0 0 true L h [.ref v0] (Qx none L r) := by
  refine e_metl (by decide) (Nat.le_of_ble_eq_true rfl) (lv := [(0, .ref v0)]) rfl ?_
  unfold f_X0_clear at hf
  refine e_aload_n 0 dX0_clear_0 rfl rfl ?_
  refine e_iconst (v := 0) dX0_clear_1 (by decide) ?_
  obtain ⟨hO1, hf⟩ := e_if hf
  refine e_putI hO1 fc_0_2 rfl lk_RX0_19 dX0_clear_2 ?_
  exact e_vret rfl dX0_clear_5 (qV hf)
def f_X1_clear (L : eL) (h : eH) (v0 : Nat) : Option eH :=
  if isO L v0 1 = true then
  some (sI h v0 2 0)
  else none
set_option maxRecDepth 100000 in
set_option maxHeartbeats 4000000 in
theorem m_X1_clear {l : Launch} {d : Nat} {L : eL} {h : eH} {v0 : Nat} {r : eH} (hd : 1 ≤ d) (hf : f_X1_clear L h v0 = some r) : e_Met l yX1_clear cX1_clear 1 none d 0 0 true L h [.ref v0] (Qx none L r) := by
  refine e_metl (by decide) (Nat.le_of_ble_eq_true rfl) (lv := [(0, .ref v0)]) rfl ?_
  unfold f_X1_clear at hf
  refine e_aload_n 0 dX1_clear_0 rfl rfl ?_
  refine e_iconst (v := 0) dX1_clear_1 (by decide) ?_
  obtain ⟨hO1, hf⟩ := e_if hf
  refine e_putI hO1 fc_1_2 rfl lk_RX1_19 dX1_clear_2 ?_
  exact e_vret rfl dX1_clear_5 (qV hf)
def f_J13_bitCount_95d88 (v0 : Int64) : Int32 :=
  (((((((((v0 - (((v0.toUInt64 >>> ((1 : Int32).toInt64.toUInt64 &&& Int64.toUInt64 63)).toInt64) &&& 6148914691236517205)) &&& 3689348814741910323) + ((((v0 - (((v0.toUInt64 >>> ((1 : Int32).toInt64.toUInt64 &&& Int64.toUInt64 63)).toInt64) &&& 6148914691236517205)).toUInt64 >>> ((2 : Int32).toInt64.toUInt64 &&& Int64.toUInt64 63)).toInt64) &&& 3689348814741910323)) + (((((v0 - (((v0.toUInt64 >>> ((1 : Int32).toInt64.toUInt64 &&& Int64.toUInt64 63)).toInt64) &&& 6148914691236517205)) &&& 3689348814741910323) + ((((v0 - (((v0.toUInt64 >>> ((1 : Int32).toInt64.toUInt64 &&& Int64.toUInt64 63)).toInt64) &&& 6148914691236517205)).toUInt64 >>> ((2 : Int32).toInt64.toUInt64 &&& Int64.toUInt64 63)).toInt64) &&& 3689348814741910323)).toUInt64 >>> ((4 : Int32).toInt64.toUInt64 &&& Int64.toUInt64 63)).toInt64)) &&& 1085102592571150095) + (((((((v0 - (((v0.toUInt64 >>> ((1 : Int32).toInt64.toUInt64 &&& Int64.toUInt64 63)).toInt64) &&& 6148914691236517205)) &&& 3689348814741910323) + ((((v0 - (((v0.toUInt64 >>> ((1 : Int32).toInt64.toUInt64 &&& Int64.toUInt64 63)).toInt64) &&& 6148914691236517205)).toUInt64 >>> ((2 : Int32).toInt64.toUInt64 &&& Int64.toUInt64 63)).toInt64) &&& 3689348814741910323)) + (((((v0 - (((v0.toUInt64 >>> ((1 : Int32).toInt64.toUInt64 &&& Int64.toUInt64 63)).toInt64) &&& 6148914691236517205)) &&& 3689348814741910323) + ((((v0 - (((v0.toUInt64 >>> ((1 : Int32).toInt64.toUInt64 &&& Int64.toUInt64 63)).toInt64) &&& 6148914691236517205)).toUInt64 >>> ((2 : Int32).toInt64.toUInt64 &&& Int64.toUInt64 63)).toInt64) &&& 3689348814741910323)).toUInt64 >>> ((4 : Int32).toInt64.toUInt64 &&& Int64.toUInt64 63)).toInt64)) &&& 1085102592571150095).toUInt64 >>> ((8 : Int32).toInt64.toUInt64 &&& Int64.toUInt64 63)).toInt64)) + ((((((((v0 - (((v0.toUInt64 >>> ((1 : Int32).toInt64.toUInt64 &&& Int64.toUInt64 63)).toInt64) &&& 6148914691236517205)) &&& 3689348814741910323) + ((((v0 - (((v0.toUInt64 >>> ((1 : Int32).toInt64.toUInt64 &&& Int64.toUInt64 63)).toInt64) &&& 6148914691236517205)).toUInt64 >>> ((2 : Int32).toInt64.toUInt64 &&& Int64.toUInt64 63)).toInt64) &&& 3689348814741910323)) + (((((v0 - (((v0.toUInt64 >>> ((1 : Int32).toInt64.toUInt64 &&& Int64.toUInt64 63)).toInt64) &&& 6148914691236517205)) &&& 3689348814741910323) + ((((v0 - (((v0.toUInt64 >>> ((1 : Int32).toInt64.toUInt64 &&& Int64.toUInt64 63)).toInt64) &&& 6148914691236517205)).toUInt64 >>> ((2 : Int32).toInt64.toUInt64 &&& Int64.toUInt64 63)).toInt64) &&& 3689348814741910323)).toUInt64 >>> ((4 : Int32).toInt64.toUInt64 &&& Int64.toUInt64 63)).toInt64)) &&& 1085102592571150095) + (((((((v0 - (((v0.toUInt64 >>> ((1 : Int32).toInt64.toUInt64 &&& Int64.toUInt64 63)).toInt64) &&& 6148914691236517205)) &&& 3689348814741910323) + ((((v0 - (((v0.toUInt64 >>> ((1 : Int32).toInt64.toUInt64 &&& Int64.toUInt64 63)).toInt64) &&& 6148914691236517205)).toUInt64 >>> ((2 : Int32).toInt64.toUInt64 &&& Int64.toUInt64 63)).toInt64) &&& 3689348814741910323)) + (((((v0 - (((v0.toUInt64 >>> ((1 : Int32).toInt64.toUInt64 &&& Int64.toUInt64 63)).toInt64) &&& 6148914691236517205)) &&& 3689348814741910323) + ((((v0 - (((v0.toUInt64 >>> ((1 : Int32).toInt64.toUInt64 &&& Int64.toUInt64 63)).toInt64) &&& 6148914691236517205)).toUInt64 >>> ((2 : Int32).toInt64.toUInt64 &&& Int64.toUInt64 63)).toInt64) &&& 3689348814741910323)).toUInt64 >>> ((4 : Int32).toInt64.toUInt64 &&& Int64.toUInt64 63)).toInt64)) &&& 1085102592571150095).toUInt64 >>> ((8 : Int32).toInt64.toUInt64 &&& Int64.toUInt64 63)).toInt64)).toUInt64 >>> ((16 : Int32).toInt64.toUInt64 &&& Int64.toUInt64 63)).toInt64)) + (((((((((v0 - (((v0.toUInt64 >>> ((1 : Int32).toInt64.toUInt64 &&& Int64.toUInt64 63)).toInt64) &&& 6148914691236517205)) &&& 3689348814741910323) + ((((v0 - (((v0.toUInt64 >>> ((1 : Int32).toInt64.toUInt64 &&& Int64.toUInt64 63)).toInt64) &&& 6148914691236517205)).toUInt64 >>> ((2 : Int32).toInt64.toUInt64 &&& Int64.toUInt64 63)).toInt64) &&& 3689348814741910323)) + (((((v0 - (((v0.toUInt64 >>> ((1 : Int32).toInt64.toUInt64 &&& Int64.toUInt64 63)).toInt64) &&& 6148914691236517205)) &&& 3689348814741910323) + ((((v0 - (((v0.toUInt64 >>> ((1 : Int32).toInt64.toUInt64 &&& Int64.toUInt64 63)).toInt64) &&& 6148914691236517205)).toUInt64 >>> ((2 : Int32).toInt64.toUInt64 &&& Int64.toUInt64 63)).toInt64) &&& 3689348814741910323)).toUInt64 >>> ((4 : Int32).toInt64.toUInt64 &&& Int64.toUInt64 63)).toInt64)) &&& 1085102592571150095) + (((((((v0 - (((v0.toUInt64 >>> ((1 : Int32).toInt64.toUInt64 &&& Int64.toUInt64 63)).toInt64) &&& 6148914691236517205)) &&& 3689348814741910323) + ((((v0 - (((v0.toUInt64 >>> ((1 : Int32).toInt64.toUInt64 &&& Int64.toUInt64 63)).toInt64) &&& 6148914691236517205)).toUInt64 >>> ((2 : Int32).toInt64.toUInt64 &&& Int64.toUInt64 63)).toInt64) &&& 3689348814741910323)) + (((((v0 - (((v0.toUInt64 >>> ((1 : Int32).toInt64.toUInt64 &&& Int64.toUInt64 63)).toInt64) &&& 6148914691236517205)) &&& 3689348814741910323) + ((((v0 - (((v0.toUInt64 >>> ((1 : Int32).toInt64.toUInt64 &&& Int64.toUInt64 63)).toInt64) &&& 6148914691236517205)).toUInt64 >>> ((2 : Int32).toInt64.toUInt64 &&& Int64.toUInt64 63)).toInt64) &&& 3689348814741910323)).toUInt64 >>> ((4 : Int32).toInt64.toUInt64 &&& Int64.toUInt64 63)).toInt64)) &&& 1085102592571150095).toUInt64 >>> ((8 : Int32).toInt64.toUInt64 &&& Int64.toUInt64 63)).toInt64)) + ((((((((v0 - (((v0.toUInt64 >>> ((1 : Int32).toInt64.toUInt64 &&& Int64.toUInt64 63)).toInt64) &&& 6148914691236517205)) &&& 3689348814741910323) + ((((v0 - (((v0.toUInt64 >>> ((1 : Int32).toInt64.toUInt64 &&& Int64.toUInt64 63)).toInt64) &&& 6148914691236517205)).toUInt64 >>> ((2 : Int32).toInt64.toUInt64 &&& Int64.toUInt64 63)).toInt64) &&& 3689348814741910323)) + (((((v0 - (((v0.toUInt64 >>> ((1 : Int32).toInt64.toUInt64 &&& Int64.toUInt64 63)).toInt64) &&& 6148914691236517205)) &&& 3689348814741910323) + ((((v0 - (((v0.toUInt64 >>> ((1 : Int32).toInt64.toUInt64 &&& Int64.toUInt64 63)).toInt64) &&& 6148914691236517205)).toUInt64 >>> ((2 : Int32).toInt64.toUInt64 &&& Int64.toUInt64 63)).toInt64) &&& 3689348814741910323)).toUInt64 >>> ((4 : Int32).toInt64.toUInt64 &&& Int64.toUInt64 63)).toInt64)) &&& 1085102592571150095) + (((((((v0 - (((v0.toUInt64 >>> ((1 : Int32).toInt64.toUInt64 &&& Int64.toUInt64 63)).toInt64) &&& 6148914691236517205)) &&& 3689348814741910323) + ((((v0 - (((v0.toUInt64 >>> ((1 : Int32).toInt64.toUInt64 &&& Int64.toUInt64 63)).toInt64) &&& 6148914691236517205)).toUInt64 >>> ((2 : Int32).toInt64.toUInt64 &&& Int64.toUInt64 63)).toInt64) &&& 3689348814741910323)) + (((((v0 - (((v0.toUInt64 >>> ((1 : Int32).toInt64.toUInt64 &&& Int64.toUInt64 63)).toInt64) &&& 6148914691236517205)) &&& 3689348814741910323) + ((((v0 - (((v0.toUInt64 >>> ((1 : Int32).toInt64.toUInt64 &&& Int64.toUInt64 63)).toInt64) &&& 6148914691236517205)).toUInt64 >>> ((2 : Int32).toInt64.toUInt64 &&& Int64.toUInt64 63)).toInt64) &&& 3689348814741910323)).toUInt64 >>> ((4 : Int32).toInt64.toUInt64 &&& Int64.toUInt64 63)).toInt64)) &&& 1085102592571150095).toUInt64 >>> ((8 : Int32).toInt64.toUInt64 &&& Int64.toUInt64 63)).toInt64)).toUInt64 >>> ((16 : Int32).toInt64.toUInt64 &&& Int64.toUInt64 63)).toInt64)).toUInt64 >>> ((32 : Int32).toInt64.toUInt64 &&& Int64.toUInt64 63)).toInt64)).toInt32) &&& 127
set_option maxRecDepth 100000 in
set_option maxHeartbeats 4000000 in
theorem m_J13_bitCount_95d88 {l : Launch} {d : Nat} {L : eL} {h : eH} {v0 : Int64} {r : Int32} (hd : 1 ≤ d) (hf : f_J13_bitCount_95d88 v0 = r) : e_Met l yJ13_bitCount_95d88 cJ13_bitCount_95d88 2 (some .int) d 0 0 true L h [.long v0] (Qx (some (.int r)) L h) := by
  refine e_metl (by decide) (Nat.le_of_ble_eq_true rfl) (lv := [(0, .long v0)]) rfl ?_
  unfold f_J13_bitCount_95d88 at hf
  refine e_lload_n 0 dJ13_bitCount_95d88_0 rfl rfl ?_
  refine e_lload_n 0 dJ13_bitCount_95d88_1 rfl rfl ?_
  refine e_iconst (v := 1) dJ13_bitCount_95d88_2 (by decide) ?_
  refine e_lushr dJ13_bitCount_95d88_3 ?_
  refine e_ldc2 kc_RJ13_314 dJ13_bitCount_95d88_4 ?_
  refine e_land dJ13_bitCount_95d88_7 ?_
  refine e_lsub dJ13_bitCount_95d88_8 ?_
  refine e_lstore_n (lv' := [(0, .long _)]) dJ13_bitCount_95d88_9 rfl (by decide) rfl ?_
  refine e_lload_n 0 dJ13_bitCount_95d88_10 rfl rfl ?_
  refine e_ldc2 kc_RJ13_316 dJ13_bitCount_95d88_11 ?_
  refine e_land dJ13_bitCount_95d88_14 ?_
  refine e_lload_n 0 dJ13_bitCount_95d88_15 rfl rfl ?_
  refine e_iconst (v := 2) dJ13_bitCount_95d88_16 (by decide) ?_
  refine e_lushr dJ13_bitCount_95d88_17 ?_
  refine e_ldc2 kc_RJ13_316 dJ13_bitCount_95d88_18 ?_
  refine e_land dJ13_bitCount_95d88_21 ?_
  refine e_ladd dJ13_bitCount_95d88_22 ?_
  refine e_lstore_n (lv' := [(0, .long _)]) dJ13_bitCount_95d88_23 rfl (by decide) rfl ?_
  refine e_lload_n 0 dJ13_bitCount_95d88_24 rfl rfl ?_
  refine e_lload_n 0 dJ13_bitCount_95d88_25 rfl rfl ?_
  refine e_iconst (v := 4) dJ13_bitCount_95d88_26 (by decide) ?_
  refine e_lushr dJ13_bitCount_95d88_27 ?_
  refine e_ladd dJ13_bitCount_95d88_28 ?_
  refine e_ldc2 kc_RJ13_318 dJ13_bitCount_95d88_29 ?_
  refine e_land dJ13_bitCount_95d88_32 ?_
  refine e_lstore_n (lv' := [(0, .long _)]) dJ13_bitCount_95d88_33 rfl (by decide) rfl ?_
  refine e_lload_n 0 dJ13_bitCount_95d88_34 rfl rfl ?_
  refine e_lload_n 0 dJ13_bitCount_95d88_35 rfl rfl ?_
  refine e_bipush (v := 8) dJ13_bitCount_95d88_36 (by decide) ?_
  refine e_lushr dJ13_bitCount_95d88_38 ?_
  refine e_ladd dJ13_bitCount_95d88_39 ?_
  refine e_lstore_n (lv' := [(0, .long _)]) dJ13_bitCount_95d88_40 rfl (by decide) rfl ?_
  refine e_lload_n 0 dJ13_bitCount_95d88_41 rfl rfl ?_
  refine e_lload_n 0 dJ13_bitCount_95d88_42 rfl rfl ?_
  refine e_bipush (v := 16) dJ13_bitCount_95d88_43 (by decide) ?_
  refine e_lushr dJ13_bitCount_95d88_45 ?_
  refine e_ladd dJ13_bitCount_95d88_46 ?_
  refine e_lstore_n (lv' := [(0, .long _)]) dJ13_bitCount_95d88_47 rfl (by decide) rfl ?_
  refine e_lload_n 0 dJ13_bitCount_95d88_48 rfl rfl ?_
  refine e_lload_n 0 dJ13_bitCount_95d88_49 rfl rfl ?_
  refine e_bipush (v := 32) dJ13_bitCount_95d88_50 (by decide) ?_
  refine e_lushr dJ13_bitCount_95d88_52 ?_
  refine e_ladd dJ13_bitCount_95d88_53 ?_
  refine e_lstore_n (lv' := [(0, .long _)]) dJ13_bitCount_95d88_54 rfl (by decide) rfl ?_
  refine e_lload_n 0 dJ13_bitCount_95d88_55 rfl rfl ?_
  refine e_l2i dJ13_bitCount_95d88_56 ?_
  refine e_bipush (v := 127) dJ13_bitCount_95d88_57 (by decide) ?_
  refine e_iand dJ13_bitCount_95d88_59 ?_
  exact e_iret rfl dJ13_bitCount_95d88_60 (qT hf)
def f_X10_flat (L : eL) (h : eH) (v0 : Nat) : Option (eH × Int32) :=
  if isO L v0 10 = true then
  (gR h v0 16).bind fun b2 =>
  (gR h v0 0).bind fun b4 =>
  if isO L b2 2 = true then
  (f_X2_read L h b2 b4).bind fun r7 =>
  (gR r7.1 v0 0).bind fun b9 =>
  if isO L b9 8 = true then
  (f_X8_cut L r7.1 b9 0).bind fun r12 =>
  if r7.2 = (-1) then
    (gR r12.1 v0 16).bind fun b14 =>
    if isO L b14 2 = true then
    if (lg_cmp (gL r12.1 b14 4) 0) = 0 then
      some (r12.1, (-100))
    else
      (gR r12.1 v0 15).bind fun b17 =>
      (gR r12.1 v0 16).bind fun b19 =>
      (some (sR (sR r12.1 v0 15 (some b19)) v0 16 (some b17))).bind fun h21 =>
      (gR h21 v0 7).bind fun b23 =>
      (gR h21 v0 15).bind fun b25 =>
      if isO L b25 2 = true then
      (f_X2_start L h21 b25).bind fun r28 =>
      if isO L b23 6 = true then
      (f_X6_begin L h21 b23 r28).bind fun r31 =>
      (gR r31 v0 5).bind fun b33 =>
      if isO L b33 0 = true then
      (f_X0_clear L r31 b33).bind fun r36 =>
      (gR r36 v0 3).bind fun b38 =>
      if isO L b38 1 = true then
      (f_X1_clear L r36 b38).bind fun r41 =>
      (gR (sI r41 v0 19 0) v0 15).bind fun b43 =>
      if isO L b43 2 = true then
      some (sI r41 v0 19 0, f_J13_bitCount_95d88 (gL (sI r41 v0 19 0) b43 4))
      else none
      else none
      else none
      else none
      else none
    else none
  else
    some (r12.1, (-1) - r7.2)
  else none
  else none
  else none
set_option maxRecDepth 100000 in
set_option maxHeartbeats 4000000 in
theorem m_X10_flat {l : Launch} {d : Nat} {L : eL} {h : eH} {v0 : Nat} {r : eH × Int32} (hd : 4 ≤ d) (hf : f_X10_flat L h v0 = some r) : e_Met l yX10_flat cX10_flat 3 (some .int) d 0 0 true L h [.ref v0] (Qx (some (.int r.2)) L r.1) := by
  refine e_metl (by decide) (Nat.le_of_ble_eq_true rfl) (lv := [(0, .ref v0)]) rfl ?_
  unfold f_X10_flat at hf
  refine e_aload_n 0 dX10_flat_0 rfl rfl ?_
  obtain ⟨hO1, hf⟩ := e_if hf
  obtain ⟨b2, hb3, hf⟩ := e_bd hf
  refine e_getR hO1 fc_10_16 lk_RX10_96 dX10_flat_1 hb3 ?_
  refine e_aload_n 0 dX10_flat_4 rfl rfl ?_
  obtain ⟨b4, hb5, hf⟩ := e_bd hf
  refine e_getR hO1 fc_10_0 lk_RX10_12 dX10_flat_5 hb5 ?_
  obtain ⟨hO6, hf⟩ := e_if hf
  obtain ⟨r7, hr8, hf⟩ := e_bd hf
  refine e_callV (st := []) ml_RX10_124 k_X2_read (m_X2_read (d := d - 1) (by omega) hr8) hO6 ⟨by decide, rfl⟩ rfl rfl (Nat.le_of_ble_eq_true rfl) ⟨by omega, by decide⟩ ⟨Nat.le_refl _, Nat.le_refl _⟩ dX10_flat_8 ?_
  refine e_istore_n (lv' := [(1, .int _), (0, .ref _)]) dX10_flat_11 rfl (by decide) rfl ?_
  refine e_aload_n 1 dX10_flat_12 rfl rfl ?_
  obtain ⟨b9, hb10, hf⟩ := e_bd hf
  refine e_getR hO1 fc_10_0 lk_RX10_12 dX10_flat_13 hb10 ?_
  refine e_iconst (v := 0) dX10_flat_16 (by decide) ?_
  obtain ⟨hO11, hf⟩ := e_if hf
  obtain ⟨r12, hr13, hf⟩ := e_bd hf
  refine e_callV (st := []) ml_RX10_121 k_X8_cut (m_X8_cut (d := d - 1) (by omega) hr13) hO11 ⟨by decide, rfl⟩ rfl rfl (Nat.le_of_ble_eq_true rfl) ⟨by omega, by decide⟩ ⟨Nat.le_refl _, Nat.le_refl _⟩ dX10_flat_17 ?_
  refine e_popI dX10_flat_20 ?_
  refine e_iload_n 0 dX10_flat_21 rfl rfl ?_
  refine e_iconst (v := (-1)) dX10_flat_22 (by decide) ?_
  refine e_icmp_eq (t := 30) dX10_flat_23 (by decide) (fun c => ?_) (fun c => ?_)
  · replace hf := e_it c hf
    refine e_aload_n 1 dX10_flat_30 rfl rfl ?_
    obtain ⟨b14, hb15, hf⟩ := e_bd hf
    refine e_getR hO1 fc_10_16 lk_RX10_96 dX10_flat_31 hb15 ?_
    obtain ⟨hO16, hf⟩ := e_if hf
    refine e_getLN hO16 fc_2_4 lk_RX10_128 dX10_flat_34 ?_
    refine e_lconst (v := 0) dX10_flat_37 (by decide) ?_
    refine e_lcmp dX10_flat_38 ?_
    refine e_if_ne (t := 45) dX10_flat_39 (by decide) (fun c => ?_) (fun c => ?_)
    · replace hf := e_ie c hf
      refine e_aload_n 1 dX10_flat_45 rfl rfl ?_
      obtain ⟨b17, hb18, hf⟩ := e_bd hf
      refine e_getR hO1 fc_10_15 lk_RX10_92 dX10_flat_46 hb18 ?_
      refine e_astore_n (lv' := [(2, .ref _), (1, .int _), (0, .ref _)]) dX10_flat_49 rfl (by decide) rfl ?_
      refine e_aload_n 2 dX10_flat_50 rfl rfl ?_
      refine e_aload_n 2 dX10_flat_51 rfl rfl ?_
      obtain ⟨b19, hb20, hf⟩ := e_bd hf
      refine e_getR hO1 fc_10_16 lk_RX10_96 dX10_flat_52 hb20 ?_
      refine e_putR hO1 fc_10_15 rfl lk_RX10_92 dX10_flat_55 ?_
      refine e_aload_n 2 dX10_flat_58 rfl rfl ?_
      refine e_aload_n 0 dX10_flat_59 rfl rfl ?_
      refine e_putR hO1 fc_10_16 rfl lk_RX10_96 dX10_flat_60 ?_
      obtain ⟨h21, hh22, hf⟩ := e_bd hf
      refine e_hn hh22 ?_
      refine e_aload_n 2 dX10_flat_63 rfl rfl ?_
      obtain ⟨b23, hb24, hf⟩ := e_bd hf
      refine e_getR hO1 fc_10_7 lk_RX10_61 dX10_flat_64 hb24 ?_
      refine e_aload_n 2 dX10_flat_67 rfl rfl ?_
      obtain ⟨b25, hb26, hf⟩ := e_bd hf
      refine e_getR hO1 fc_10_15 lk_RX10_92 dX10_flat_68 hb26 ?_
      obtain ⟨hO27, hf⟩ := e_if hf
      obtain ⟨r28, hr29, hf⟩ := e_bd hf
      refine e_callV (st := [.ref _]) ml_RX10_132 k_X2_start (m_X2_start (d := d - 1) (by omega) hr29) hO27 ⟨by decide, rfl⟩ rfl rfl (Nat.le_of_ble_eq_true rfl) ⟨by omega, by decide⟩ ⟨Nat.le_refl _, Nat.le_refl _⟩ dX10_flat_71 ?_
      obtain ⟨hO30, hf⟩ := e_if hf
      obtain ⟨r31, hr32, hf⟩ := e_bd hf
      refine e_callV (st := []) ml_RX10_135 k_X6_begin (m_X6_begin (d := d - 1) (by omega) hr32) hO30 ⟨by decide, rfl⟩ rfl rfl (Nat.le_of_ble_eq_true rfl) ⟨by omega, by decide⟩ ⟨Nat.le_refl _, Nat.le_refl _⟩ dX10_flat_74 ?_
      refine e_aload_n 2 dX10_flat_77 rfl rfl ?_
      obtain ⟨b33, hb34, hf⟩ := e_bd hf
      refine e_getR hO1 fc_10_5 lk_RX10_47 dX10_flat_78 hb34 ?_
      obtain ⟨hO35, hf⟩ := e_if hf
      obtain ⟨r36, hr37, hf⟩ := e_bd hf
      refine e_callV (st := []) ml_RX10_139 k_X0_clear (m_X0_clear (d := d - 1) (by omega) hr37) hO35 ⟨by decide, rfl⟩ rfl rfl (Nat.le_of_ble_eq_true rfl) ⟨by omega, by decide⟩ ⟨Nat.le_refl _, Nat.le_refl _⟩ dX10_flat_81 ?_
      refine e_aload_n 2 dX10_flat_84 rfl rfl ?_
      obtain ⟨b38, hb39, hf⟩ := e_bd hf
      refine e_getR hO1 fc_10_3 lk_RX10_33 dX10_flat_85 hb39 ?_
      obtain ⟨hO40, hf⟩ := e_if hf
      obtain ⟨r41, hr42, hf⟩ := e_bd hf
      refine e_callV (st := []) ml_RX10_142 k_X1_clear (m_X1_clear (d := d - 1) (by omega) hr42) hO40 ⟨by decide, rfl⟩ rfl rfl (Nat.le_of_ble_eq_true rfl) ⟨by omega, by decide⟩ ⟨Nat.le_refl _, Nat.le_refl _⟩ dX10_flat_88 ?_
      refine e_aload_n 2 dX10_flat_91 rfl rfl ?_
      refine e_iconst (v := 0) dX10_flat_92 (by decide) ?_
      refine e_putI hO1 fc_10_19 rfl lk_RX10_109 dX10_flat_93 ?_
      refine e_aload_n 2 dX10_flat_96 rfl rfl ?_
      obtain ⟨b43, hb44, hf⟩ := e_bd hf
      refine e_getR hO1 fc_10_15 lk_RX10_92 dX10_flat_97 hb44 ?_
      obtain ⟨hO45, hf⟩ := e_if hf
      refine e_getLN hO45 fc_2_4 lk_RX10_128 dX10_flat_100 ?_
      refine e_callS (st := []) ml_RX10_143 k_J13_bitCount_95d88 (m_J13_bitCount_95d88 (d := d - 1) (by omega) rfl) rfl rfl (Nat.le_of_ble_eq_true rfl) ⟨by omega, by decide⟩ ⟨Nat.le_refl _, Nat.le_refl _⟩ dX10_flat_103 ?_
      exact e_iret rfl dX10_flat_106 (qW hf)
    · replace hf := e_it c hf
      refine e_bipush (v := (-100)) dX10_flat_42 (by decide) ?_
      exact e_iret rfl dX10_flat_44 (qW hf)
  · replace hf := e_ie c hf
    refine e_iconst (v := (-1)) dX10_flat_26 (by decide) ?_
    refine e_iload_n 0 dX10_flat_27 rfl rfl ?_
    refine e_isub dX10_flat_28 ?_
    exact e_iret rfl dX10_flat_29 (qW hf)
def f_X4_begin (L : eL) (h : eH) (v0 : Nat) : Option eH :=
  if isO L v0 4 = true then
  some (sI h v0 2 0)
  else none
set_option maxRecDepth 100000 in
set_option maxHeartbeats 4000000 in
theorem m_X4_begin {l : Launch} {d : Nat} {L : eL} {h : eH} {v0 : Nat} {r : eH} (hd : 1 ≤ d) (hf : f_X4_begin L h v0 = some r) : e_Met l yX4_begin cX4_begin 1 none d 0 0 true L h [.ref v0] (Qx none L r) := by
  refine e_metl (by decide) (Nat.le_of_ble_eq_true rfl) (lv := [(0, .ref v0)]) rfl ?_
  unfold f_X4_begin at hf
  refine e_aload_n 0 dX4_begin_0 rfl rfl ?_
  refine e_iconst (v := 0) dX4_begin_1 (by decide) ?_
  obtain ⟨hO1, hf⟩ := e_if hf
  refine e_putI hO1 fc_4_2 rfl lk_RX4_16 dX4_begin_2 ?_
  exact e_vret rfl dX4_begin_5 (qV hf)
def f_X5_here (L : eL) (h : eH) (v0 : Nat) : Option Int32 :=
  if isO L v0 5 = true then
  (gR h v0 0).bind fun b2 =>
  if (gI h v0 2) ≤ (gI h v0 3) then
    some (-1)
  else
    (gR h v0 0).bind fun b4 =>
    if isO L b4 8 = true then
    (f_X8_at L h b4 (gI h v0 3)).bind fun r7 =>
    some r7
    else none
  else none
set_option maxRecDepth 100000 in
set_option maxHeartbeats 4000000 in
theorem m_X5_here {l : Launch} {d : Nat} {L : eL} {h : eH} {v0 : Nat} {r : Int32} (hd : 2 ≤ d) (hf : f_X5_here L h v0 = some r) : e_Met l yX5_here cX5_here 1 (some .int) d 0 0 true L h [.ref v0] (Qx (some (.int r)) L h) := by
  refine e_metl (by decide) (Nat.le_of_ble_eq_true rfl) (lv := [(0, .ref v0)]) rfl ?_
  unfold f_X5_here at hf
  refine e_aload_n 0 dX5_here_0 rfl rfl ?_
  obtain ⟨hO1, hf⟩ := e_if hf
  obtain ⟨b2, hb3, hf⟩ := e_bd hf
  refine e_getR hO1 fc_5_0 lk_RX5_9 dX5_here_1 hb3 ?_
  refine e_ifnull dX5_here_4 ?_
  refine e_aload_n 0 dX5_here_7 rfl rfl ?_
  refine e_getI hO1 fc_5_3 lk_RX5_23 dX5_here_8 ?_
  refine e_aload_n 0 dX5_here_11 rfl rfl ?_
  refine e_getI hO1 fc_5_2 lk_RX5_19 dX5_here_12 ?_
  refine e_icmp_ge (t := 32) dX5_here_15 (by decide) (fun c => ?_) (fun c => ?_)
  · replace hf := e_it c hf
    refine e_iconst (v := (-1)) dX5_here_32 (by decide) ?_
    exact e_iret rfl dX5_here_33 (qP hf)
  · replace hf := e_ie c hf
    refine e_aload_n 0 dX5_here_18 rfl rfl ?_
    obtain ⟨b4, hb5, hf⟩ := e_bd hf
    refine e_getR hO1 fc_5_0 lk_RX5_9 dX5_here_19 hb5 ?_
    refine e_aload_n 0 dX5_here_22 rfl rfl ?_
    refine e_getI hO1 fc_5_3 lk_RX5_23 dX5_here_23 ?_
    obtain ⟨hO6, hf⟩ := e_if hf
    obtain ⟨r7, hr8, hf⟩ := e_bd hf
    refine e_callV (st := []) ml_RX5_47 k_X8_at (m_X8_at (d := d - 1) (by omega) hr8) hO6 ⟨by decide, rfl⟩ rfl rfl (Nat.le_of_ble_eq_true rfl) ⟨by omega, by decide⟩ ⟨Nat.le_refl _, Nat.le_refl _⟩ dX5_here_26 ?_
    refine e_goto (t := 33) dX5_here_29 (by decide) ?_
    exact e_iret rfl dX5_here_33 (qP hf)
def f_X5_isDigit (v0 : Int32) : Int32 :=
  if v0 < 48 then
    0
  else
    if 57 < v0 then
      0
    else
      1
set_option maxRecDepth 100000 in
set_option maxHeartbeats 4000000 in
theorem m_X5_isDigit {l : Launch} {d : Nat} {L : eL} {h : eH} {v0 : Int32} {r : Int32} (hd : 1 ≤ d) (hf : f_X5_isDigit v0 = r) : e_Met l yX5_isDigit cX5_isDigit 1 (some .boolean) d 0 0 true L h [.int v0] (Qx (some (.int r)) L h) := by
  refine e_metl (by decide) (Nat.le_of_ble_eq_true rfl) (lv := [(0, .int v0)]) rfl ?_
  unfold f_X5_isDigit at hf
  refine e_iload_n 0 dX5_isDigit_0 rfl rfl ?_
  refine e_bipush (v := 48) dX5_isDigit_1 (by decide) ?_
  refine e_icmp_lt (t := 16) dX5_isDigit_3 (by decide) (fun c => ?_) (fun c => ?_)
  · replace hf := e_it c hf
    refine e_iconst (v := 0) dX5_isDigit_16 (by decide) ?_
    exact e_zret (ty := .boolean) rfl rfl dX5_isDigit_17 (qT hf)
  · replace hf := e_ie c hf
    refine e_iload_n 0 dX5_isDigit_6 rfl rfl ?_
    refine e_bipush (v := 57) dX5_isDigit_7 (by decide) ?_
    refine e_icmp_gt (t := 16) dX5_isDigit_9 (by decide) (fun c => ?_) (fun c => ?_)
    · replace hf := e_it c hf
      refine e_iconst (v := 0) dX5_isDigit_16 (by decide) ?_
      exact e_zret (ty := .boolean) rfl rfl dX5_isDigit_17 (qT hf)
    · replace hf := e_ie c hf
      refine e_iconst (v := 1) dX5_isDigit_12 (by decide) ?_
      refine e_goto (t := 17) dX5_isDigit_13 (by decide) ?_
      exact e_zret (ty := .boolean) rfl rfl dX5_isDigit_17 (qT hf)
def f_X4_add (L : eL) (h : eH) (v0 : Nat) (v1 : Int32) : Option eH :=
  if isO L v0 4 = true then
  if (gI h v0 2) < 0 then
    some h
  else
    if 40 ≤ (gI h v0 2) then
      some h
    else
      (gR h v0 0).bind fun b2 =>
      if inA L b2 0 (gI h v0 2) = true then
      (some (sI (sI h b2 (gI h v0 2).toNatClampNeg v1) v0 2 ((gI (sI h b2 (gI h v0 2).toNatClampNeg v1) v0 2) + 1))).bind fun h5 =>
      some h5
      else none
  else none
set_option maxRecDepth 100000 in
set_option maxHeartbeats 4000000 in
theorem m_X4_add {l : Launch} {d : Nat} {L : eL} {h : eH} {v0 : Nat} {v1 : Int32} {r : eH} (hd : 1 ≤ d) (hf : f_X4_add L h v0 v1 = some r) : e_Met l yX4_add cX4_add 2 none d 0 0 true L h [.ref v0, .int v1] (Qx none L r) := by
  refine e_metl (by decide) (Nat.le_of_ble_eq_true rfl) (lv := [(0, .ref v0), (1, .int v1)]) rfl ?_
  unfold f_X4_add at hf
  refine e_aload_n 0 dX4_add_0 rfl rfl ?_
  obtain ⟨hO1, hf⟩ := e_if hf
  refine e_getI hO1 fc_4_2 lk_RX4_16 dX4_add_1 ?_
  refine e_if_lt (t := 36) dX4_add_4 (by decide) (fun c => ?_) (fun c => ?_)
  · replace hf := e_it c hf
    exact e_vret rfl dX4_add_36 (qV hf)
  · replace hf := e_ie c hf
    refine e_aload_n 0 dX4_add_7 rfl rfl ?_
    refine e_getI hO1 fc_4_2 lk_RX4_16 dX4_add_8 ?_
    refine e_bipush (v := 40) dX4_add_11 (by decide) ?_
    refine e_icmp_ge (t := 36) dX4_add_13 (by decide) (fun c => ?_) (fun c => ?_)
    · replace hf := e_it c hf
      exact e_vret rfl dX4_add_36 (qV hf)
    · replace hf := e_ie c hf
      refine e_aload_n 0 dX4_add_16 rfl rfl ?_
      obtain ⟨b2, hb3, hf⟩ := e_bd hf
      refine e_getR hO1 fc_4_0 lk_RX4_9 dX4_add_17 hb3 ?_
      refine e_aload_n 0 dX4_add_20 rfl rfl ?_
      refine e_getI hO1 fc_4_2 lk_RX4_16 dX4_add_21 ?_
      refine e_iload_n 1 dX4_add_24 rfl rfl ?_
      obtain ⟨hI4, hf⟩ := e_if hf
      refine e_iast hI4 dX4_add_25 ?_
      refine e_aload_n 0 dX4_add_26 rfl rfl ?_
      refine e_dupR dX4_add_27 ?_
      refine e_getI hO1 fc_4_2 lk_RX4_16 dX4_add_28 ?_
      refine e_iconst (v := 1) dX4_add_31 (by decide) ?_
      refine e_iadd dX4_add_32 ?_
      refine e_putI hO1 fc_4_2 rfl lk_RX4_16 dX4_add_33 ?_
      obtain ⟨h5, hh6, hf⟩ := e_bd hf
      refine e_hn hh6 ?_
      exact e_vret rfl dX4_add_36 (qV hf)
def f_X4_addNumber (L : eL) (h : eH) (v0 : Nat) (v1 : Int32) : Option eH :=
  if isO L v0 4 = true then
  (f_X4_add L h v0 v1).bind fun r2 =>
  some r2
  else none
set_option maxRecDepth 100000 in
set_option maxHeartbeats 4000000 in
theorem m_X4_addNumber {l : Launch} {d : Nat} {L : eL} {h : eH} {v0 : Nat} {v1 : Int32} {r : eH} (hd : 2 ≤ d) (hf : f_X4_addNumber L h v0 v1 = some r) : e_Met l yX4_addNumber cX4_addNumber 2 none d 0 0 true L h [.ref v0, .int v1] (Qx none L r) := by
  refine e_metl (by decide) (Nat.le_of_ble_eq_true rfl) (lv := [(0, .ref v0), (1, .int v1)]) rfl ?_
  unfold f_X4_addNumber at hf
  refine e_aload_n 0 dX4_addNumber_0 rfl rfl ?_
  refine e_iload_n 1 dX4_addNumber_1 rfl rfl ?_
  obtain ⟨hO1, hf⟩ := e_if hf
  obtain ⟨r2, hr3, hf⟩ := e_bd hf
  refine e_callV (st := []) ml_RX4_20 k_X4_add (m_X4_add (d := d - 1) (by omega) hr3) hO1 ⟨by decide, rfl⟩ rfl rfl (Nat.le_of_ble_eq_true rfl) ⟨by omega, by decide⟩ ⟨Nat.le_refl _, Nat.le_refl _⟩ dX4_addNumber_2 ?_
  exact e_vret rfl dX4_addNumber_5 (qV hf)
def f_X5_readNumber_L4 (L : eL) : Nat → (eH → Nat → Int32 → Option eH) → eH → Nat → Int32 → Int32 → Option eH
  | 0, _, _, _, _, _ => none
  | n + 1, k48, h, v0, v1, v2 =>
    if 3 ≤ v2 then
      k48 h v0 v1
    else
      if isO L v0 5 = true then
      (f_X5_here L h v0).bind fun r2 =>
      if (f_X5_isDigit r2) = 0 then
        k48 h v0 v1
      else
        (f_X5_here L h v0).bind fun r4 =>
        f_X5_readNumber_L4 L n k48 (sI h v0 3 ((gI h v0 3) + 1)) v0 (((v1 * 10) + r4) - 48) (v2 + Int32.ofInt 1)
      else none
set_option maxRecDepth 100000 in
set_option maxHeartbeats 4000000 in
theorem m_X5_readNumber_L4 {l : Launch} {d : Nat} {L : eL}  {r : eH} {k48 : eH → Nat → Int32 → Option eH} (hd : 3 ≤ d) (hk48 : ∀ (h : eH) (v0 : Nat) (v1 : Int32), k48 h v0 v1 = some r → E l yX5_readNumber cX5_readNumber 3 none (e_rm d 0 0) 0 0 true L (Qx none L r) L h 0 0 48 [(0, .ref v0), (1, .int v1)] []) : ∀ (n : Nat) (h : eH) (v0 : Nat) (v1 : Int32) (v2 : Int32), f_X5_readNumber_L4 L n k48 h v0 v1 v2 = some r → E l yX5_readNumber cX5_readNumber 3 none (e_rm d 0 0) 0 0 true L (Qx none L r) L h 0 0 4 [(0, .ref v0), (1, .int v1), (2, .int v2)] [] := by
  intro n
  induction n with
  | zero => intro h v0 v1 v2 hf; exact absurd hf (by simp [f_X5_readNumber_L4])
  | succ n ih =>
    intro h v0 v1 v2 hf
    unfold f_X5_readNumber_L4 at hf
    refine e_iload_n 2 dX5_readNumber_4 rfl rfl ?_
    refine e_iconst (v := 3) dX5_readNumber_5 (by decide) ?_
    refine e_icmp_ge (t := 48) dX5_readNumber_6 (by decide) (fun c => ?_) (fun c => ?_)
    · replace hf := e_it c hf
      refine e_sub [0, 1] rfl ?_
      exact hk48 _ _ _ hf
    · replace hf := e_ie c hf
      refine e_aload_n 0 dX5_readNumber_9 rfl rfl ?_
      obtain ⟨hO1, hf⟩ := e_if hf
      obtain ⟨r2, hr3, hf⟩ := e_bd hf
      refine e_callV (st := []) ml_RX5_58 k_X5_here (m_X5_here (d := d - 1) (by omega) hr3) hO1 ⟨by decide, rfl⟩ rfl rfl (Nat.le_of_ble_eq_true rfl) ⟨by omega, by decide⟩ ⟨Nat.le_refl _, Nat.le_refl _⟩ dX5_readNumber_10 ?_
      refine e_callS (st := []) ml_RX5_70 k_X5_isDigit (m_X5_isDigit (d := d - 1) (by omega) rfl) rfl rfl (Nat.le_of_ble_eq_true rfl) ⟨by omega, by decide⟩ ⟨Nat.le_refl _, Nat.le_refl _⟩ dX5_readNumber_13 ?_
      refine e_if_eq (t := 48) dX5_readNumber_16 (by decide) (fun c => ?_) (fun c => ?_)
      · replace hf := e_it c hf
        refine e_sub [0, 1] rfl ?_
        exact hk48 _ _ _ hf
      · replace hf := e_ie c hf
        refine e_iload_n 1 dX5_readNumber_19 rfl rfl ?_
        refine e_bipush (v := 10) dX5_readNumber_20 (by decide) ?_
        refine e_imul dX5_readNumber_22 ?_
        refine e_aload_n 0 dX5_readNumber_23 rfl rfl ?_
        obtain ⟨r4, hr5, hf⟩ := e_bd hf
        refine e_callV (st := [.int _]) ml_RX5_58 k_X5_here (m_X5_here (d := d - 1) (by omega) hr5) hO1 ⟨by decide, rfl⟩ rfl rfl (Nat.le_of_ble_eq_true rfl) ⟨by omega, by decide⟩ ⟨Nat.le_refl _, Nat.le_refl _⟩ dX5_readNumber_24 ?_
        refine e_iadd dX5_readNumber_27 ?_
        refine e_bipush (v := 48) dX5_readNumber_28 (by decide) ?_
        refine e_isub dX5_readNumber_30 ?_
        refine e_istore_n (lv' := [(1, .int _), (0, .ref _), (2, .int _)]) dX5_readNumber_31 rfl (by decide) rfl ?_
        refine e_aload_n 1 dX5_readNumber_32 rfl rfl ?_
        refine e_dupR dX5_readNumber_33 ?_
        refine e_getI hO1 fc_5_3 lk_RX5_23 dX5_readNumber_34 ?_
        refine e_iconst (v := 1) dX5_readNumber_37 (by decide) ?_
        refine e_iadd dX5_readNumber_38 ?_
        refine e_putI hO1 fc_5_3 rfl lk_RX5_23 dX5_readNumber_39 ?_
        refine e_iinc (lv' := [(2, .int _), (1, .int _), (0, .ref _)]) 2 dX5_readNumber_42 rfl (by decide) rfl ?_
        refine e_goto (t := 4) dX5_readNumber_45 (by decide) ?_
        refine e_sub [2, 1, 0] rfl ?_
        exact ih _ _ _ _ hf
def f_X5_readNumber (L : eL) (h : eH) (v0 : Nat) : Option eH :=
  f_X5_readNumber_L4 L e_fu (fun (h6 : eH) (w0_7 : Nat) (w1_8 : Int32) =>
    if isO L w0_7 5 = true then
    (gR h6 w0_7 1).bind fun b10 =>
    (gR h6 w0_7 1).bind fun b12 =>
    if isO L b12 4 = true then
    (f_X4_addNumber L h6 b12 w1_8).bind fun r15 =>
    some r15
    else none
    else none) h v0 0 0
set_option maxRecDepth 100000 in
set_option maxHeartbeats 4000000 in
theorem m_X5_readNumber {l : Launch} {d : Nat} {L : eL} {h : eH} {v0 : Nat} {r : eH} (hd : 3 ≤ d) (hf : f_X5_readNumber L h v0 = some r) : e_Met l yX5_readNumber cX5_readNumber 3 none d 0 0 true L h [.ref v0] (Qx none L r) := by
  refine e_metl (by decide) (Nat.le_of_ble_eq_true rfl) (lv := [(0, .ref v0)]) rfl ?_
  unfold f_X5_readNumber at hf
  refine e_iconst (v := 0) dX5_readNumber_0 (by decide) ?_
  refine e_istore_n (lv' := [(1, .int _), (0, .ref _)]) dX5_readNumber_1 rfl (by decide) rfl ?_
  refine e_iconst (v := 0) dX5_readNumber_2 (by decide) ?_
  refine e_istore_n (lv' := [(2, .int _), (1, .int _), (0, .ref _)]) dX5_readNumber_3 rfl (by decide) rfl ?_
  refine e_sub [2, 1, 0] rfl ?_
  refine m_X5_readNumber_L4 hd ?_ e_fu _ _ _ _ hf
  · intro h6 w0_7 w1_8 hf
    refine e_aload_n 0 dX5_readNumber_48 rfl rfl ?_
    obtain ⟨hO9, hf⟩ := e_if hf
    obtain ⟨b10, hb11, hf⟩ := e_bd hf
    refine e_getR hO9 fc_5_1 lk_RX5_15 dX5_readNumber_49 hb11 ?_
    refine e_ifnull dX5_readNumber_52 ?_
    refine e_aload_n 0 dX5_readNumber_55 rfl rfl ?_
    obtain ⟨b12, hb13, hf⟩ := e_bd hf
    refine e_getR hO9 fc_5_1 lk_RX5_15 dX5_readNumber_56 hb13 ?_
    refine e_iload_n 1 dX5_readNumber_59 rfl rfl ?_
    obtain ⟨hO14, hf⟩ := e_if hf
    obtain ⟨r15, hr16, hf⟩ := e_bd hf
    refine e_callV (st := []) ml_RX5_79 k_X4_addNumber (m_X4_addNumber (d := d - 1) (by omega) hr16) hO14 ⟨by decide, rfl⟩ rfl rfl (Nat.le_of_ble_eq_true rfl) ⟨by omega, by decide⟩ ⟨Nat.le_refl _, Nat.le_refl _⟩ dX5_readNumber_60 ?_
    exact e_vret rfl dX5_readNumber_63 (qV hf)
def f_X4_isThing (v0 : Int32) : Int32 :=
  if v0 = 98 then
    1
  else
    if v0 = 104 then
      1
    else
      if v0 = 115 then
        1
      else
        if v0 = 114 then
          1
        else
          if v0 = 100 then
            1
          else
            0
set_option maxRecDepth 100000 in
set_option maxHeartbeats 4000000 in
theorem m_X4_isThing {l : Launch} {d : Nat} {L : eL} {h : eH} {v0 : Int32} {r : Int32} (hd : 1 ≤ d) (hf : f_X4_isThing v0 = r) : e_Met l yX4_isThing cX4_isThing 1 (some .boolean) d 0 0 true L h [.int v0] (Qx (some (.int r)) L h) := by
  refine e_metl (by decide) (Nat.le_of_ble_eq_true rfl) (lv := [(0, .int v0)]) rfl ?_
  unfold f_X4_isThing at hf
  refine e_iload_n 0 dX4_isThing_0 rfl rfl ?_
  refine e_bipush (v := 98) dX4_isThing_1 (by decide) ?_
  refine e_icmp_eq (t := 30) dX4_isThing_3 (by decide) (fun c => ?_) (fun c => ?_)
  · replace hf := e_it c hf
    refine e_iconst (v := 1) dX4_isThing_30 (by decide) ?_
    refine e_goto (t := 35) dX4_isThing_31 (by decide) ?_
    exact e_zret (ty := .boolean) rfl rfl dX4_isThing_35 (qT hf)
  · replace hf := e_ie c hf
    refine e_iload_n 0 dX4_isThing_6 rfl rfl ?_
    refine e_bipush (v := 104) dX4_isThing_7 (by decide) ?_
    refine e_icmp_eq (t := 30) dX4_isThing_9 (by decide) (fun c => ?_) (fun c => ?_)
    · replace hf := e_it c hf
      refine e_iconst (v := 1) dX4_isThing_30 (by decide) ?_
      refine e_goto (t := 35) dX4_isThing_31 (by decide) ?_
      exact e_zret (ty := .boolean) rfl rfl dX4_isThing_35 (qT hf)
    · replace hf := e_ie c hf
      refine e_iload_n 0 dX4_isThing_12 rfl rfl ?_
      refine e_bipush (v := 115) dX4_isThing_13 (by decide) ?_
      refine e_icmp_eq (t := 30) dX4_isThing_15 (by decide) (fun c => ?_) (fun c => ?_)
      · replace hf := e_it c hf
        refine e_iconst (v := 1) dX4_isThing_30 (by decide) ?_
        refine e_goto (t := 35) dX4_isThing_31 (by decide) ?_
        exact e_zret (ty := .boolean) rfl rfl dX4_isThing_35 (qT hf)
      · replace hf := e_ie c hf
        refine e_iload_n 0 dX4_isThing_18 rfl rfl ?_
        refine e_bipush (v := 114) dX4_isThing_19 (by decide) ?_
        refine e_icmp_eq (t := 30) dX4_isThing_21 (by decide) (fun c => ?_) (fun c => ?_)
        · replace hf := e_it c hf
          refine e_iconst (v := 1) dX4_isThing_30 (by decide) ?_
          refine e_goto (t := 35) dX4_isThing_31 (by decide) ?_
          exact e_zret (ty := .boolean) rfl rfl dX4_isThing_35 (qT hf)
        · replace hf := e_ie c hf
          refine e_iload_n 0 dX4_isThing_24 rfl rfl ?_
          refine e_bipush (v := 100) dX4_isThing_25 (by decide) ?_
          refine e_icmp_ne (t := 34) dX4_isThing_27 (by decide) (fun c => ?_) (fun c => ?_)
          · replace hf := e_ie c hf
            refine e_iconst (v := 0) dX4_isThing_34 (by decide) ?_
            exact e_zret (ty := .boolean) rfl rfl dX4_isThing_35 (qT hf)
          · replace hf := e_it c hf
            refine e_iconst (v := 1) dX4_isThing_30 (by decide) ?_
            refine e_goto (t := 35) dX4_isThing_31 (by decide) ?_
            exact e_zret (ty := .boolean) rfl rfl dX4_isThing_35 (qT hf)
def f_X4_addSign (L : eL) (h : eH) (v0 : Nat) (v1 : Int32) : Option eH :=
  if isO L v0 4 = true then
  (f_X4_add L h v0 (-v1)).bind fun r2 =>
  some r2
  else none
set_option maxRecDepth 100000 in
set_option maxHeartbeats 4000000 in
theorem m_X4_addSign {l : Launch} {d : Nat} {L : eL} {h : eH} {v0 : Nat} {v1 : Int32} {r : eH} (hd : 2 ≤ d) (hf : f_X4_addSign L h v0 v1 = some r) : e_Met l yX4_addSign cX4_addSign 2 none d 0 0 true L h [.ref v0, .int v1] (Qx none L r) := by
  refine e_metl (by decide) (Nat.le_of_ble_eq_true rfl) (lv := [(0, .ref v0), (1, .int v1)]) rfl ?_
  unfold f_X4_addSign at hf
  refine e_aload_n 0 dX4_addSign_0 rfl rfl ?_
  refine e_iload_n 1 dX4_addSign_1 rfl rfl ?_
  refine e_ineg dX4_addSign_2 ?_
  obtain ⟨hO1, hf⟩ := e_if hf
  obtain ⟨r2, hr3, hf⟩ := e_bd hf
  refine e_callV (st := []) ml_RX4_20 k_X4_add (m_X4_add (d := d - 1) (by omega) hr3) hO1 ⟨by decide, rfl⟩ rfl rfl (Nat.le_of_ble_eq_true rfl) ⟨by omega, by decide⟩ ⟨Nat.le_refl _, Nat.le_refl _⟩ dX4_addSign_3 ?_
  exact e_vret rfl dX4_addSign_6 (qV hf)
def f_X5_emit (L : eL) (h : eH) (v0 : Nat) (v1 : Int32) : Option eH :=
  if isO L v0 5 = true then
  (gR h v0 1).bind fun b2 =>
  (gR h v0 1).bind fun b4 =>
  if isO L b4 4 = true then
  (f_X4_addSign L h b4 v1).bind fun r7 =>
  some r7
  else none
  else none
set_option maxRecDepth 100000 in
set_option maxHeartbeats 4000000 in
theorem m_X5_emit {l : Launch} {d : Nat} {L : eL} {h : eH} {v0 : Nat} {v1 : Int32} {r : eH} (hd : 3 ≤ d) (hf : f_X5_emit L h v0 v1 = some r) : e_Met l yX5_emit cX5_emit 2 none d 0 0 true L h [.ref v0, .int v1] (Qx none L r) := by
  refine e_metl (by decide) (Nat.le_of_ble_eq_true rfl) (lv := [(0, .ref v0), (1, .int v1)]) rfl ?_
  unfold f_X5_emit at hf
  refine e_aload_n 0 dX5_emit_0 rfl rfl ?_
  obtain ⟨hO1, hf⟩ := e_if hf
  obtain ⟨b2, hb3, hf⟩ := e_bd hf
  refine e_getR hO1 fc_5_1 lk_RX5_15 dX5_emit_1 hb3 ?_
  refine e_ifnull dX5_emit_4 ?_
  refine e_aload_n 0 dX5_emit_7 rfl rfl ?_
  obtain ⟨b4, hb5, hf⟩ := e_bd hf
  refine e_getR hO1 fc_5_1 lk_RX5_15 dX5_emit_8 hb5 ?_
  refine e_iload_n 1 dX5_emit_11 rfl rfl ?_
  obtain ⟨hO6, hf⟩ := e_if hf
  obtain ⟨r7, hr8, hf⟩ := e_bd hf
  refine e_callV (st := []) ml_RX5_50 k_X4_addSign (m_X4_addSign (d := d - 1) (by omega) hr8) hO6 ⟨by decide, rfl⟩ rfl rfl (Nat.le_of_ble_eq_true rfl) ⟨by omega, by decide⟩ ⟨Nat.le_refl _, Nat.le_refl _⟩ dX5_emit_12 ?_
  exact e_vret rfl dX5_emit_15 (qV hf)
def f_X5_levelOf (v0 : Int32) : Int32 :=
  if v0 = 42 then
    2
  else if v0 = 43 then
    1
  else if v0 = 44 then
    (-1)
  else if v0 = 45 then
    1
  else if v0 = 46 then
    (-1)
  else if v0 = 47 then
    2
  else if v0 = 48 then
    (-1)
  else if v0 = 49 then
    (-1)
  else if v0 = 50 then
    (-1)
  else if v0 = 51 then
    (-1)
  else if v0 = 52 then
    (-1)
  else if v0 = 53 then
    (-1)
  else if v0 = 54 then
    (-1)
  else if v0 = 55 then
    (-1)
  else if v0 = 56 then
    (-1)
  else if v0 = 57 then
    (-1)
  else if v0 = 58 then
    (-1)
  else if v0 = 59 then
    (-1)
  else if v0 = 60 then
    0
  else if v0 = 61 then
    0
  else if v0 = 62 then
    0
  else
    (-1)
set_option maxRecDepth 100000 in
set_option maxHeartbeats 4000000 in
theorem m_X5_levelOf {l : Launch} {d : Nat} {L : eL} {h : eH} {v0 : Int32} {r : Int32} (hd : 1 ≤ d) (hf : f_X5_levelOf v0 = r) : e_Met l yX5_levelOf cX5_levelOf 1 (some .int) d 0 0 true L h [.int v0] (Qx (some (.int r)) L h) := by
  refine e_metl (by decide) (Nat.le_of_ble_eq_true rfl) (lv := [(0, .int v0)]) rfl ?_
  unfold f_X5_levelOf at hf
  refine e_iload_n 0 dX5_levelOf_0 rfl rfl ?_
  by_cases c42 : v0 = 42
  · replace hf := e_it c42 hf
    refine e_tabIn (t := 104) dX5_levelOf_1 (by rw [c42]; decide) (by rw [c42]; decide) (by first | (rw [c42]; done) | (rw [c42]; rfl)) (by decide) ?_
    refine e_iconst (v := 2) dX5_levelOf_104 (by decide) ?_
    exact e_iret rfl dX5_levelOf_105 (qT hf)
  replace hf := e_ie c42 hf
  by_cases c43 : v0 = 43
  · replace hf := e_it c43 hf
    refine e_tabIn (t := 102) dX5_levelOf_1 (by rw [c43]; decide) (by rw [c43]; decide) (by first | (rw [c43]; done) | (rw [c43]; rfl)) (by decide) ?_
    refine e_iconst (v := 1) dX5_levelOf_102 (by decide) ?_
    exact e_iret rfl dX5_levelOf_103 (qT hf)
  replace hf := e_ie c43 hf
  by_cases c44 : v0 = 44
  · replace hf := e_it c44 hf
    refine e_tabIn (t := 106) dX5_levelOf_1 (by rw [c44]; decide) (by rw [c44]; decide) (by first | (rw [c44]; done) | (rw [c44]; rfl)) (by decide) ?_
    refine e_iconst (v := (-1)) dX5_levelOf_106 (by decide) ?_
    exact e_iret rfl dX5_levelOf_107 (qT hf)
  replace hf := e_ie c44 hf
  by_cases c45 : v0 = 45
  · replace hf := e_it c45 hf
    refine e_tabIn (t := 102) dX5_levelOf_1 (by rw [c45]; decide) (by rw [c45]; decide) (by first | (rw [c45]; done) | (rw [c45]; rfl)) (by decide) ?_
    refine e_iconst (v := 1) dX5_levelOf_102 (by decide) ?_
    exact e_iret rfl dX5_levelOf_103 (qT hf)
  replace hf := e_ie c45 hf
  by_cases c46 : v0 = 46
  · replace hf := e_it c46 hf
    refine e_tabIn (t := 106) dX5_levelOf_1 (by rw [c46]; decide) (by rw [c46]; decide) (by first | (rw [c46]; done) | (rw [c46]; rfl)) (by decide) ?_
    refine e_iconst (v := (-1)) dX5_levelOf_106 (by decide) ?_
    exact e_iret rfl dX5_levelOf_107 (qT hf)
  replace hf := e_ie c46 hf
  by_cases c47 : v0 = 47
  · replace hf := e_it c47 hf
    refine e_tabIn (t := 104) dX5_levelOf_1 (by rw [c47]; decide) (by rw [c47]; decide) (by first | (rw [c47]; done) | (rw [c47]; rfl)) (by decide) ?_
    refine e_iconst (v := 2) dX5_levelOf_104 (by decide) ?_
    exact e_iret rfl dX5_levelOf_105 (qT hf)
  replace hf := e_ie c47 hf
  by_cases c48 : v0 = 48
  · replace hf := e_it c48 hf
    refine e_tabIn (t := 106) dX5_levelOf_1 (by rw [c48]; decide) (by rw [c48]; decide) (by first | (rw [c48]; done) | (rw [c48]; rfl)) (by decide) ?_
    refine e_iconst (v := (-1)) dX5_levelOf_106 (by decide) ?_
    exact e_iret rfl dX5_levelOf_107 (qT hf)
  replace hf := e_ie c48 hf
  by_cases c49 : v0 = 49
  · replace hf := e_it c49 hf
    refine e_tabIn (t := 106) dX5_levelOf_1 (by rw [c49]; decide) (by rw [c49]; decide) (by first | (rw [c49]; done) | (rw [c49]; rfl)) (by decide) ?_
    refine e_iconst (v := (-1)) dX5_levelOf_106 (by decide) ?_
    exact e_iret rfl dX5_levelOf_107 (qT hf)
  replace hf := e_ie c49 hf
  by_cases c50 : v0 = 50
  · replace hf := e_it c50 hf
    refine e_tabIn (t := 106) dX5_levelOf_1 (by rw [c50]; decide) (by rw [c50]; decide) (by first | (rw [c50]; done) | (rw [c50]; rfl)) (by decide) ?_
    refine e_iconst (v := (-1)) dX5_levelOf_106 (by decide) ?_
    exact e_iret rfl dX5_levelOf_107 (qT hf)
  replace hf := e_ie c50 hf
  by_cases c51 : v0 = 51
  · replace hf := e_it c51 hf
    refine e_tabIn (t := 106) dX5_levelOf_1 (by rw [c51]; decide) (by rw [c51]; decide) (by first | (rw [c51]; done) | (rw [c51]; rfl)) (by decide) ?_
    refine e_iconst (v := (-1)) dX5_levelOf_106 (by decide) ?_
    exact e_iret rfl dX5_levelOf_107 (qT hf)
  replace hf := e_ie c51 hf
  by_cases c52 : v0 = 52
  · replace hf := e_it c52 hf
    refine e_tabIn (t := 106) dX5_levelOf_1 (by rw [c52]; decide) (by rw [c52]; decide) (by first | (rw [c52]; done) | (rw [c52]; rfl)) (by decide) ?_
    refine e_iconst (v := (-1)) dX5_levelOf_106 (by decide) ?_
    exact e_iret rfl dX5_levelOf_107 (qT hf)
  replace hf := e_ie c52 hf
  by_cases c53 : v0 = 53
  · replace hf := e_it c53 hf
    refine e_tabIn (t := 106) dX5_levelOf_1 (by rw [c53]; decide) (by rw [c53]; decide) (by first | (rw [c53]; done) | (rw [c53]; rfl)) (by decide) ?_
    refine e_iconst (v := (-1)) dX5_levelOf_106 (by decide) ?_
    exact e_iret rfl dX5_levelOf_107 (qT hf)
  replace hf := e_ie c53 hf
  by_cases c54 : v0 = 54
  · replace hf := e_it c54 hf
    refine e_tabIn (t := 106) dX5_levelOf_1 (by rw [c54]; decide) (by rw [c54]; decide) (by first | (rw [c54]; done) | (rw [c54]; rfl)) (by decide) ?_
    refine e_iconst (v := (-1)) dX5_levelOf_106 (by decide) ?_
    exact e_iret rfl dX5_levelOf_107 (qT hf)
  replace hf := e_ie c54 hf
  by_cases c55 : v0 = 55
  · replace hf := e_it c55 hf
    refine e_tabIn (t := 106) dX5_levelOf_1 (by rw [c55]; decide) (by rw [c55]; decide) (by first | (rw [c55]; done) | (rw [c55]; rfl)) (by decide) ?_
    refine e_iconst (v := (-1)) dX5_levelOf_106 (by decide) ?_
    exact e_iret rfl dX5_levelOf_107 (qT hf)
  replace hf := e_ie c55 hf
  by_cases c56 : v0 = 56
  · replace hf := e_it c56 hf
    refine e_tabIn (t := 106) dX5_levelOf_1 (by rw [c56]; decide) (by rw [c56]; decide) (by first | (rw [c56]; done) | (rw [c56]; rfl)) (by decide) ?_
    refine e_iconst (v := (-1)) dX5_levelOf_106 (by decide) ?_
    exact e_iret rfl dX5_levelOf_107 (qT hf)
  replace hf := e_ie c56 hf
  by_cases c57 : v0 = 57
  · replace hf := e_it c57 hf
    refine e_tabIn (t := 106) dX5_levelOf_1 (by rw [c57]; decide) (by rw [c57]; decide) (by first | (rw [c57]; done) | (rw [c57]; rfl)) (by decide) ?_
    refine e_iconst (v := (-1)) dX5_levelOf_106 (by decide) ?_
    exact e_iret rfl dX5_levelOf_107 (qT hf)
  replace hf := e_ie c57 hf
  by_cases c58 : v0 = 58
  · replace hf := e_it c58 hf
    refine e_tabIn (t := 106) dX5_levelOf_1 (by rw [c58]; decide) (by rw [c58]; decide) (by first | (rw [c58]; done) | (rw [c58]; rfl)) (by decide) ?_
    refine e_iconst (v := (-1)) dX5_levelOf_106 (by decide) ?_
    exact e_iret rfl dX5_levelOf_107 (qT hf)
  replace hf := e_ie c58 hf
  by_cases c59 : v0 = 59
  · replace hf := e_it c59 hf
    refine e_tabIn (t := 106) dX5_levelOf_1 (by rw [c59]; decide) (by rw [c59]; decide) (by first | (rw [c59]; done) | (rw [c59]; rfl)) (by decide) ?_
    refine e_iconst (v := (-1)) dX5_levelOf_106 (by decide) ?_
    exact e_iret rfl dX5_levelOf_107 (qT hf)
  replace hf := e_ie c59 hf
  by_cases c60 : v0 = 60
  · replace hf := e_it c60 hf
    refine e_tabIn (t := 100) dX5_levelOf_1 (by rw [c60]; decide) (by rw [c60]; decide) (by first | (rw [c60]; done) | (rw [c60]; rfl)) (by decide) ?_
    refine e_iconst (v := 0) dX5_levelOf_100 (by decide) ?_
    exact e_iret rfl dX5_levelOf_101 (qT hf)
  replace hf := e_ie c60 hf
  by_cases c61 : v0 = 61
  · replace hf := e_it c61 hf
    refine e_tabIn (t := 100) dX5_levelOf_1 (by rw [c61]; decide) (by rw [c61]; decide) (by first | (rw [c61]; done) | (rw [c61]; rfl)) (by decide) ?_
    refine e_iconst (v := 0) dX5_levelOf_100 (by decide) ?_
    exact e_iret rfl dX5_levelOf_101 (qT hf)
  replace hf := e_ie c61 hf
  by_cases c62 : v0 = 62
  · replace hf := e_it c62 hf
    refine e_tabIn (t := 100) dX5_levelOf_1 (by rw [c62]; decide) (by rw [c62]; decide) (by first | (rw [c62]; done) | (rw [c62]; rfl)) (by decide) ?_
    refine e_iconst (v := 0) dX5_levelOf_100 (by decide) ?_
    exact e_iret rfl dX5_levelOf_101 (qT hf)
  replace hf := e_ie c62 hf
  refine e_tabOut (t := 106) dX5_levelOf_1 (e_out (fun j j1 j2 => by
      have j3 : j = 42 ∨ j = 43 ∨ j = 44 ∨ j = 45 ∨ j = 46 ∨ j = 47 ∨ j = 48 ∨ j = 49 ∨ j = 50 ∨ j = 51 ∨ j = 52 ∨ j = 53 ∨ j = 54 ∨ j = 55 ∨ j = 56 ∨ j = 57 ∨ j = 58 ∨ j = 59 ∨ j = 60 ∨ j = 61 ∨ j = 62 := by omega
      rcases j3 with rfl | rfl | rfl | rfl | rfl | rfl | rfl | rfl | rfl | rfl | rfl | rfl | rfl | rfl | rfl | rfl | rfl | rfl | rfl | rfl | rfl <;> assumption)) (by decide) ?_
  refine e_iconst (v := (-1)) dX5_levelOf_106 (by decide) ?_
  exact e_iret rfl dX5_levelOf_107 (qT hf)
def f_X10_entryOf (v0 : Int32) (v1 : Int32) : Int32 :=
  if v0 = 0 then
    v1.toInt8.toInt32
  else
    if v0 = 1 then
      v1.toInt16.toInt32
    else
      v1
set_option maxRecDepth 100000 in
set_option maxHeartbeats 4000000 in
theorem m_X10_entryOf {l : Launch} {d : Nat} {L : eL} {h : eH} {v0 : Int32} {v1 : Int32} {r : Int32} (hd : 1 ≤ d) (hf : f_X10_entryOf v0 v1 = r) : e_Met l yX10_entryOf cX10_entryOf 2 (some .int) d 0 0 true L h [.int v0, .int v1] (Qx (some (.int r)) L h) := by
  refine e_metl (by decide) (Nat.le_of_ble_eq_true rfl) (lv := [(0, .int v0), (1, .int v1)]) rfl ?_
  unfold f_X10_entryOf at hf
  refine e_iload_n 0 dX10_entryOf_0 rfl rfl ?_
  refine e_if_ne (t := 7) dX10_entryOf_1 (by decide) (fun c => ?_) (fun c => ?_)
  · replace hf := e_ie c hf
    refine e_iload_n 0 dX10_entryOf_7 rfl rfl ?_
    refine e_iconst (v := 1) dX10_entryOf_8 (by decide) ?_
    refine e_icmp_ne (t := 17) dX10_entryOf_9 (by decide) (fun c => ?_) (fun c => ?_)
    · replace hf := e_ie c hf
      refine e_iload_n 1 dX10_entryOf_17 rfl rfl ?_
      exact e_iret rfl dX10_entryOf_18 (qT hf)
    · replace hf := e_it c hf
      refine e_iload_n 1 dX10_entryOf_12 rfl rfl ?_
      refine e_i2s dX10_entryOf_13 ?_
      refine e_goto (t := 18) dX10_entryOf_14 (by decide) ?_
      exact e_iret rfl dX10_entryOf_18 (qT hf)
  · replace hf := e_it c hf
    refine e_iload_n 1 dX10_entryOf_4 rfl rfl ?_
    refine e_i2b dX10_entryOf_5 ?_
    exact e_iret rfl dX10_entryOf_6 (qT hf)
def f_X6_putDust (L : eL) (h : eH) (v0 : Nat) (v1 : Int32) (v2 : Int32) : Option eH :=
  if v1 < 0 then
    some h
  else
    if 36 ≤ v1 then
      some h
    else
      if isO L v0 6 = true then
      (gR h v0 0).bind fun b2 =>
      if inA L b2 0 v1 = true then
      some (sI h b2 v1.toNatClampNeg (mxI 0 (mnI v2 99)))
      else none
      else none
set_option maxRecDepth 100000 in
set_option maxHeartbeats 4000000 in
theorem m_X6_putDust {l : Launch} {d : Nat} {L : eL} {h : eH} {v0 : Nat} {v1 : Int32} {v2 : Int32} {r : eH} (hd : 2 ≤ d) (hf : f_X6_putDust L h v0 v1 v2 = some r) : e_Met l yX6_putDust cX6_putDust 3 none d 0 0 true L h [.ref v0, .int v1, .int v2] (Qx none L r) := by
  refine e_metl (by decide) (Nat.le_of_ble_eq_true rfl) (lv := [(0, .ref v0), (1, .int v1), (2, .int v2)]) rfl ?_
  unfold f_X6_putDust at hf
  refine e_iload_n 1 dX6_putDust_0 rfl rfl ?_
  refine e_if_lt (t := 26) dX6_putDust_1 (by decide) (fun c => ?_) (fun c => ?_)
  · replace hf := e_it c hf
    exact e_vret rfl dX6_putDust_26 (qV hf)
  · replace hf := e_ie c hf
    refine e_iload_n 1 dX6_putDust_4 rfl rfl ?_
    refine e_bipush (v := 36) dX6_putDust_5 (by decide) ?_
    refine e_icmp_ge (t := 26) dX6_putDust_7 (by decide) (fun c => ?_) (fun c => ?_)
    · replace hf := e_it c hf
      exact e_vret rfl dX6_putDust_26 (qV hf)
    · replace hf := e_ie c hf
      refine e_aload_n 0 dX6_putDust_10 rfl rfl ?_
      obtain ⟨hO1, hf⟩ := e_if hf
      obtain ⟨b2, hb3, hf⟩ := e_bd hf
      refine e_getR hO1 fc_6_0 lk_RX6_9 dX6_putDust_11 hb3 ?_
      refine e_iload_n 1 dX6_putDust_14 rfl rfl ?_
      refine e_iconst (v := 0) dX6_putDust_15 (by decide) ?_
      refine e_iload_n 2 dX6_putDust_16 rfl rfl ?_
      refine e_bipush (v := 99) dX6_putDust_17 (by decide) ?_
      refine e_mn ml_RX6_56 (by omega) (Nat.le_of_ble_eq_true rfl) ⟨Nat.le_refl _, Nat.le_refl _⟩ dX6_putDust_19 ?_
      refine e_mx ml_RX6_62 (by omega) (Nat.le_of_ble_eq_true rfl) ⟨Nat.le_refl _, Nat.le_refl _⟩ dX6_putDust_22 ?_
      obtain ⟨hI4, hf⟩ := e_if hf
      refine e_iast hI4 dX6_putDust_25 ?_
      exact e_vret rfl dX6_putDust_26 (qV hf)
def f_X6_dustOfAll_L4 (L : eL) (h : eH) : Nat → (Int32 → Option Int32) → Nat → Int32 → Int32 → Option Int32
  | 0, _, _, _, _ => none
  | n + 1, k25, v0, v1, v2 =>
    if 36 ≤ v2 then
      k25 v1
    else
      if isO L v0 6 = true then
      (gR h v0 0).bind fun b2 =>
      if inA L b2 0 v2 = true then
      f_X6_dustOfAll_L4 L h n k25 v0 (v1 + (gI h b2 v2.toNatClampNeg)) (v2 + Int32.ofInt 1)
      else none
      else none
set_option maxRecDepth 100000 in
set_option maxHeartbeats 4000000 in
theorem m_X6_dustOfAll_L4 {l : Launch} {d : Nat} {L : eL} {h : eH} {r : Int32} {k25 : Int32 → Option Int32} (hd : 1 ≤ d) (hk25 : ∀ (v1 : Int32), k25 v1 = some r → E l yX6_dustOfAll cX6_dustOfAll 3 (some .int) (e_rm d 0 0) 0 0 true L (Qx (some (.int r)) L h) L h 0 0 25 [(1, .int v1)] []) : ∀ (n : Nat) (v0 : Nat) (v1 : Int32) (v2 : Int32), f_X6_dustOfAll_L4 L h n k25 v0 v1 v2 = some r → E l yX6_dustOfAll cX6_dustOfAll 3 (some .int) (e_rm d 0 0) 0 0 true L (Qx (some (.int r)) L h) L h 0 0 4 [(0, .ref v0), (1, .int v1), (2, .int v2)] [] := by
  intro n
  induction n with
  | zero => intro v0 v1 v2 hf; exact absurd hf (by simp [f_X6_dustOfAll_L4])
  | succ n ih =>
    intro v0 v1 v2 hf
    unfold f_X6_dustOfAll_L4 at hf
    refine e_iload_n 2 dX6_dustOfAll_4 rfl rfl ?_
    refine e_bipush (v := 36) dX6_dustOfAll_5 (by decide) ?_
    refine e_icmp_ge (t := 25) dX6_dustOfAll_7 (by decide) (fun c => ?_) (fun c => ?_)
    · replace hf := e_it c hf
      refine e_sub [1] rfl ?_
      exact hk25 _ hf
    · replace hf := e_ie c hf
      refine e_iload_n 1 dX6_dustOfAll_10 rfl rfl ?_
      refine e_aload_n 0 dX6_dustOfAll_11 rfl rfl ?_
      obtain ⟨hO1, hf⟩ := e_if hf
      obtain ⟨b2, hb3, hf⟩ := e_bd hf
      refine e_getR hO1 fc_6_0 lk_RX6_9 dX6_dustOfAll_12 hb3 ?_
      refine e_iload_n 2 dX6_dustOfAll_15 rfl rfl ?_
      obtain ⟨hI4, hf⟩ := e_if hf
      refine e_iald hI4 dX6_dustOfAll_16 ?_
      refine e_iadd dX6_dustOfAll_17 ?_
      refine e_istore_n (lv' := [(1, .int _), (0, .ref _), (2, .int _)]) dX6_dustOfAll_18 rfl (by decide) rfl ?_
      refine e_iinc (lv' := [(2, .int _), (1, .int _), (0, .ref _)]) 2 dX6_dustOfAll_19 rfl (by decide) rfl ?_
      refine e_goto (t := 4) dX6_dustOfAll_22 (by decide) ?_
      refine e_sub [2, 1, 0] rfl ?_
      exact ih _ _ _ hf
def f_X6_dustOfAll (L : eL) (h : eH) (v0 : Nat) : Option Int32 :=
  f_X6_dustOfAll_L4 L h e_fu (fun (w1_5 : Int32) =>
    some w1_5) v0 0 0
set_option maxRecDepth 100000 in
set_option maxHeartbeats 4000000 in
theorem m_X6_dustOfAll {l : Launch} {d : Nat} {L : eL} {h : eH} {v0 : Nat} {r : Int32} (hd : 1 ≤ d) (hf : f_X6_dustOfAll L h v0 = some r) : e_Met l yX6_dustOfAll cX6_dustOfAll 3 (some .int) d 0 0 true L h [.ref v0] (Qx (some (.int r)) L h) := by
  refine e_metl (by decide) (Nat.le_of_ble_eq_true rfl) (lv := [(0, .ref v0)]) rfl ?_
  unfold f_X6_dustOfAll at hf
  refine e_iconst (v := 0) dX6_dustOfAll_0 (by decide) ?_
  refine e_istore_n (lv' := [(1, .int _), (0, .ref _)]) dX6_dustOfAll_1 rfl (by decide) rfl ?_
  refine e_iconst (v := 0) dX6_dustOfAll_2 (by decide) ?_
  refine e_istore_n (lv' := [(2, .int _), (1, .int _), (0, .ref _)]) dX6_dustOfAll_3 rfl (by decide) rfl ?_
  refine e_sub [2, 1, 0] rfl ?_
  refine m_X6_dustOfAll_L4 hd ?_ e_fu _ _ _ hf
  · intro w1_5 hf
    refine e_iload_n 0 dX6_dustOfAll_25 rfl rfl ?_
    exact e_iret rfl dX6_dustOfAll_26 (qP hf)
def f_X10_sheet_J75 (L : eL) (k42 : eH → Nat → Int32 → Int32 → Int32 → Int32 → Int32 → Option (eH × Int32)) (k112 : eH → Nat → Option (eH × Int32)) (h : eH) (v0 : Nat) (v1 : Int32) (v2 : Int32) (v3 : Int32) (v4 : Int32) (v5 : Int32) (s0 : Int32) : Option (eH × Int32) :=
  if isO L v0 10 = true then
  (gR h v0 7).bind fun b2 =>
  if s0 = 0 then
    if isO L b2 6 = true then
    (f_X6_putDust L h b2 v5 0).bind fun r5 =>
    k42 r5 v0 v1 v2 v3 v4 (v5 + Int32.ofInt 1)
    else none
  else
    if isO L b2 6 = true then
    (f_X6_putDust L h b2 v5 (f_X10_entryOf v1 (v3 + (v5 * v4)))).bind fun r8 =>
    k42 r8 v0 v1 v2 v3 v4 (v5 + Int32.ofInt 1)
    else none
  else none
set_option maxRecDepth 100000 in
set_option maxHeartbeats 4000000 in
theorem m_X10_sheet_J75 {l : Launch} {d : Nat} {L : eL}  {r : eH × Int32} {k42 : eH → Nat → Int32 → Int32 → Int32 → Int32 → Int32 → Option (eH × Int32)} {k112 : eH → Nat → Option (eH × Int32)} (hd : 3 ≤ d) (hk42 : ∀ (h : eH) (v0 : Nat) (v1 : Int32) (v2 : Int32) (v3 : Int32) (v4 : Int32) (v5 : Int32), k42 h v0 v1 v2 v3 v4 v5 = some r → E l yX10_sheet cX10_sheet 7 (some .int) (e_rm d 0 0) 0 0 true L (Qx (some (.int r.2)) L r.1) L h 0 0 42 [(0, .ref v0), (1, .int v1), (2, .int v2), (3, .int v3), (4, .int v4), (5, .int v5)] []) (hk112 : ∀ (h : eH) (v0 : Nat), k112 h v0 = some r → E l yX10_sheet cX10_sheet 7 (some .int) (e_rm d 0 0) 0 0 true L (Qx (some (.int r.2)) L r.1) L h 0 0 112 [(0, .ref v0)] []) : ∀ (h : eH) (v0 : Nat) (v1 : Int32) (v2 : Int32) (v3 : Int32) (v4 : Int32) (v5 : Int32) (s0 : Int32), f_X10_sheet_J75 L k42 k112 h v0 v1 v2 v3 v4 v5 s0 = some r → E l yX10_sheet cX10_sheet 7 (some .int) (e_rm d 0 0) 0 0 true L (Qx (some (.int r.2)) L r.1) L h 0 0 75 [(0, .ref v0), (1, .int v1), (2, .int v2), (3, .int v3), (4, .int v4), (5, .int v5)] [.int s0] := by
  intro h v0 v1 v2 v3 v4 v5 s0 hf
  unfold f_X10_sheet_J75 at hf
  refine e_istore (lv' := [(6, .int _), (0, .ref _), (1, .int _), (2, .int _), (3, .int _), (4, .int _), (5, .int _)]) dX10_sheet_75 (by decide) rfl ?_
  refine e_aload_n 1 dX10_sheet_77 rfl rfl ?_
  obtain ⟨hO1, hf⟩ := e_if hf
  obtain ⟨b2, hb3, hf⟩ := e_bd hf
  refine e_getR hO1 fc_10_7 lk_RX10_61 dX10_sheet_78 hb3 ?_
  refine e_iload 6 dX10_sheet_81 rfl ?_
  refine e_iload 0 dX10_sheet_83 rfl ?_
  refine e_if_eq (t := 102) dX10_sheet_85 (by decide) (fun c => ?_) (fun c => ?_)
  · replace hf := e_it c hf
    refine e_iconst (v := 0) dX10_sheet_102 (by decide) ?_
    obtain ⟨hO4, hf⟩ := e_if hf
    obtain ⟨r5, hr6, hf⟩ := e_bd hf
    refine e_callV (st := []) ml_RX10_223 k_X6_putDust (m_X6_putDust (d := d - 1) (by omega) hr6) hO4 ⟨by decide, rfl⟩ rfl rfl (Nat.le_of_ble_eq_true rfl) ⟨by omega, by decide⟩ ⟨Nat.le_refl _, Nat.le_refl _⟩ dX10_sheet_103 ?_
    refine e_iinc (lv' := [(5, .int _), (6, .int _), (0, .ref _), (1, .int _), (2, .int _), (3, .int _), (4, .int _)]) 6 dX10_sheet_106 rfl (by decide) rfl ?_
    refine e_goto (t := 42) dX10_sheet_109 (by decide) ?_
    refine e_sub [2, 3, 4, 5, 6, 0] rfl ?_
    exact hk42 _ _ _ _ _ _ _ hf
  · replace hf := e_ie c hf
    refine e_iload_n 2 dX10_sheet_88 rfl rfl ?_
    refine e_iload_n 4 dX10_sheet_89 rfl rfl ?_
    refine e_iload 6 dX10_sheet_90 rfl ?_
    refine e_iload 5 dX10_sheet_92 rfl ?_
    refine e_imul dX10_sheet_94 ?_
    refine e_iadd dX10_sheet_95 ?_
    refine e_callS (st := [.int _, .ref _]) ml_RX10_220 k_X10_entryOf (m_X10_entryOf (d := d - 1) (by omega) rfl) rfl rfl (Nat.le_of_ble_eq_true rfl) ⟨by omega, by decide⟩ ⟨Nat.le_refl _, Nat.le_refl _⟩ dX10_sheet_96 ?_
    refine e_goto (t := 103) dX10_sheet_99 (by decide) ?_
    obtain ⟨hO7, hf⟩ := e_if hf
    obtain ⟨r8, hr9, hf⟩ := e_bd hf
    refine e_callV (st := []) ml_RX10_223 k_X6_putDust (m_X6_putDust (d := d - 1) (by omega) hr9) hO7 ⟨by decide, rfl⟩ rfl rfl (Nat.le_of_ble_eq_true rfl) ⟨by omega, by decide⟩ ⟨Nat.le_refl _, Nat.le_refl _⟩ dX10_sheet_103 ?_
    refine e_iinc (lv' := [(5, .int _), (6, .int _), (0, .ref _), (1, .int _), (2, .int _), (3, .int _), (4, .int _)]) 6 dX10_sheet_106 rfl (by decide) rfl ?_
    refine e_goto (t := 42) dX10_sheet_109 (by decide) ?_
    refine e_sub [2, 3, 4, 5, 6, 0] rfl ?_
    exact hk42 _ _ _ _ _ _ _ hf
def f_X10_sheet_L42 (L : eL) : Nat → (eH → Nat → Option (eH × Int32)) → eH → Nat → Int32 → Int32 → Int32 → Int32 → Int32 → Option (eH × Int32)
  | 0, _, _, _, _, _, _, _, _ => none
  | n + 1, k112, h, v0, v1, v2, v3, v4, v5 =>
    if 36 ≤ v5 then
      k112 h v0
    else
      if v2 ≤ v5 then
        f_X10_sheet_J75 L (f_X10_sheet_L42 L n k112) k112 h v0 v1 v2 v3 v4 v5 0
      else
        if isO L v0 10 = true then
        (gR h v0 15).bind fun b11 =>
        if isO L b11 2 = true then
        if (f_X10_holds (gL h b11 4) v5) = 0 then
          f_X10_sheet_J75 L (f_X10_sheet_L42 L n k112) k112 h v0 v1 v2 v3 v4 v5 0
        else
          f_X10_sheet_J75 L (f_X10_sheet_L42 L n k112) k112 h v0 v1 v2 v3 v4 v5 1
        else none
        else none
set_option maxRecDepth 100000 in
set_option maxHeartbeats 4000000 in
theorem m_X10_sheet_L42 {l : Launch} {d : Nat} {L : eL}  {r : eH × Int32} {k112 : eH → Nat → Option (eH × Int32)} (hd : 3 ≤ d) (hk112 : ∀ (h : eH) (v0 : Nat), k112 h v0 = some r → E l yX10_sheet cX10_sheet 7 (some .int) (e_rm d 0 0) 0 0 true L (Qx (some (.int r.2)) L r.1) L h 0 0 112 [(0, .ref v0)] []) : ∀ (n : Nat) (h : eH) (v0 : Nat) (v1 : Int32) (v2 : Int32) (v3 : Int32) (v4 : Int32) (v5 : Int32), f_X10_sheet_L42 L n k112 h v0 v1 v2 v3 v4 v5 = some r → E l yX10_sheet cX10_sheet 7 (some .int) (e_rm d 0 0) 0 0 true L (Qx (some (.int r.2)) L r.1) L h 0 0 42 [(0, .ref v0), (1, .int v1), (2, .int v2), (3, .int v3), (4, .int v4), (5, .int v5)] [] := by
  intro n
  induction n with
  | zero => intro h v0 v1 v2 v3 v4 v5 hf; exact absurd hf (by simp [f_X10_sheet_L42])
  | succ n ih =>
    intro h v0 v1 v2 v3 v4 v5 hf
    unfold f_X10_sheet_L42 at hf
    refine e_iload 5 dX10_sheet_42 rfl ?_
    refine e_bipush (v := 36) dX10_sheet_44 (by decide) ?_
    refine e_icmp_ge (t := 112) dX10_sheet_46 (by decide) (fun c => ?_) (fun c => ?_)
    · replace hf := e_it c hf
      refine e_sub [0] rfl ?_
      exact hk112 _ _ hf
    · replace hf := e_ie c hf
      refine e_iload 5 dX10_sheet_49 rfl ?_
      refine e_iload_n 2 dX10_sheet_51 rfl rfl ?_
      refine e_icmp_ge (t := 74) dX10_sheet_52 (by decide) (fun c => ?_) (fun c => ?_)
      · replace hf := e_it c hf
        refine e_iconst (v := 0) dX10_sheet_74 (by decide) ?_
        exact m_X10_sheet_J75 hd ih hk112 _ _ _ _ _ _ _ _ hf
      · replace hf := e_ie c hf
        refine e_aload_n 0 dX10_sheet_55 rfl rfl ?_
        obtain ⟨hO10, hf⟩ := e_if hf
        obtain ⟨b11, hb12, hf⟩ := e_bd hf
        refine e_getR hO10 fc_10_15 lk_RX10_92 dX10_sheet_56 hb12 ?_
        obtain ⟨hO13, hf⟩ := e_if hf
        refine e_getLN hO13 fc_2_4 lk_RX10_128 dX10_sheet_59 ?_
        refine e_iload 5 dX10_sheet_62 rfl ?_
        refine e_callS (st := []) ml_RX10_169 k_X10_holds (m_X10_holds (d := d - 1) (by omega) rfl) rfl rfl (Nat.le_of_ble_eq_true rfl) ⟨by omega, by decide⟩ ⟨Nat.le_refl _, Nat.le_refl _⟩ dX10_sheet_64 ?_
        refine e_if_eq (t := 74) dX10_sheet_67 (by decide) (fun c => ?_) (fun c => ?_)
        · replace hf := e_it c hf
          refine e_iconst (v := 0) dX10_sheet_74 (by decide) ?_
          exact m_X10_sheet_J75 hd ih hk112 _ _ _ _ _ _ _ _ hf
        · replace hf := e_ie c hf
          refine e_iconst (v := 1) dX10_sheet_70 (by decide) ?_
          refine e_goto (t := 75) dX10_sheet_71 (by decide) ?_
          exact m_X10_sheet_J75 hd ih hk112 _ _ _ _ _ _ _ _ hf
def f_X10_sheet (L : eL) (h : eH) (v0 : Nat) (v1 : Int32) (v2 : Int32) (v3 : Int32) (v4 : Int32) : Option (eH × Int32) :=
  if v1 < 0 then
    some (h, (-1))
  else
    if 3 < v1 then
      some (h, (-1))
    else
      if v2 ≤ 36 then
        if v1 = 3 then
          if isO L v0 10 = true then
          (gR h v0 7).bind fun b23 =>
          if isO L b23 6 = true then
          (f_X6_clearDust L h b23).bind fun r26 =>
          some (r26, (-3))
          else none
          else none
        else
          if 0 ≤ v2 then
            f_X10_sheet_L42 L e_fu (fun (h14 : eH) (w0_15 : Nat) =>
              if isO L w0_15 10 = true then
              (gR h14 w0_15 7).bind fun b17 =>
              if isO L b17 6 = true then
              (f_X6_dustOfAll L h14 b17).bind fun r20 =>
              some (h14, r20)
              else none
              else none) h v0 v1 v2 v3 v4 0
          else
            some (h, (-2))
      else
        some (h, (-1))
set_option maxRecDepth 100000 in
set_option maxHeartbeats 4000000 in
theorem m_X10_sheet {l : Launch} {d : Nat} {L : eL} {h : eH} {v0 : Nat} {v1 : Int32} {v2 : Int32} {v3 : Int32} {v4 : Int32} {r : eH × Int32} (hd : 3 ≤ d) (hf : f_X10_sheet L h v0 v1 v2 v3 v4 = some r) : e_Met l yX10_sheet cX10_sheet 7 (some .int) d 0 0 true L h [.ref v0, .int v1, .int v2, .int v3, .int v4] (Qx (some (.int r.2)) L r.1) := by
  refine e_metl (by decide) (Nat.le_of_ble_eq_true rfl) (lv := [(0, .ref v0), (1, .int v1), (2, .int v2), (3, .int v3), (4, .int v4)]) rfl ?_
  unfold f_X10_sheet at hf
  refine e_iload_n 1 dX10_sheet_0 rfl rfl ?_
  refine e_if_lt (t := 15) dX10_sheet_1 (by decide) (fun c => ?_) (fun c => ?_)
  · replace hf := e_it c hf
    refine e_iconst (v := (-1)) dX10_sheet_15 (by decide) ?_
    exact e_iret rfl dX10_sheet_16 (qW hf)
  · replace hf := e_ie c hf
    refine e_iload_n 1 dX10_sheet_4 rfl rfl ?_
    refine e_iconst (v := 3) dX10_sheet_5 (by decide) ?_
    refine e_icmp_gt (t := 15) dX10_sheet_6 (by decide) (fun c => ?_) (fun c => ?_)
    · replace hf := e_it c hf
      refine e_iconst (v := (-1)) dX10_sheet_15 (by decide) ?_
      exact e_iret rfl dX10_sheet_16 (qW hf)
    · replace hf := e_ie c hf
      refine e_iload_n 2 dX10_sheet_9 rfl rfl ?_
      refine e_bipush (v := 36) dX10_sheet_10 (by decide) ?_
      refine e_icmp_le (t := 17) dX10_sheet_12 (by decide) (fun c => ?_) (fun c => ?_)
      · replace hf := e_it c hf
        refine e_iload_n 1 dX10_sheet_17 rfl rfl ?_
        refine e_iconst (v := 3) dX10_sheet_18 (by decide) ?_
        refine e_icmp_ne (t := 32) dX10_sheet_19 (by decide) (fun c => ?_) (fun c => ?_)
        · replace hf := e_ie c hf
          refine e_iload_n 2 dX10_sheet_32 rfl rfl ?_
          refine e_if_ge (t := 39) dX10_sheet_33 (by decide) (fun c => ?_) (fun c => ?_)
          · replace hf := e_it c hf
            refine e_iconst (v := 0) dX10_sheet_39 (by decide) ?_
            refine e_istore (lv' := [(5, .int _), (0, .ref _), (1, .int _), (2, .int _), (3, .int _), (4, .int _)]) dX10_sheet_40 (by decide) rfl ?_
            refine e_sub [1, 2, 3, 4, 5, 0] rfl ?_
            refine m_X10_sheet_L42 hd ?_ e_fu _ _ _ _ _ _ _ hf
            · intro h14 w0_15 hf
              refine e_aload_n 0 dX10_sheet_112 rfl rfl ?_
              obtain ⟨hO16, hf⟩ := e_if hf
              obtain ⟨b17, hb18, hf⟩ := e_bd hf
              refine e_getR hO16 fc_10_7 lk_RX10_61 dX10_sheet_113 hb18 ?_
              obtain ⟨hO19, hf⟩ := e_if hf
              obtain ⟨r20, hr21, hf⟩ := e_bd hf
              refine e_callV (st := []) ml_RX10_227 k_X6_dustOfAll (m_X6_dustOfAll (d := d - 1) (by omega) hr21) hO19 ⟨by decide, rfl⟩ rfl rfl (Nat.le_of_ble_eq_true rfl) ⟨by omega, by decide⟩ ⟨Nat.le_refl _, Nat.le_refl _⟩ dX10_sheet_116 ?_
              exact e_iret rfl dX10_sheet_119 (qW hf)
          · replace hf := e_ie c hf
            refine e_bipush (v := (-2)) dX10_sheet_36 (by decide) ?_
            exact e_iret rfl dX10_sheet_38 (qW hf)
        · replace hf := e_it c hf
          refine e_aload_n 0 dX10_sheet_22 rfl rfl ?_
          obtain ⟨hO22, hf⟩ := e_if hf
          obtain ⟨b23, hb24, hf⟩ := e_bd hf
          refine e_getR hO22 fc_10_7 lk_RX10_61 dX10_sheet_23 hb24 ?_
          obtain ⟨hO25, hf⟩ := e_if hf
          obtain ⟨r26, hr27, hf⟩ := e_bd hf
          refine e_callV (st := []) ml_RX10_217 k_X6_clearDust (m_X6_clearDust (d := d - 1) (by omega) hr27) hO25 ⟨by decide, rfl⟩ rfl rfl (Nat.le_of_ble_eq_true rfl) ⟨by omega, by decide⟩ ⟨Nat.le_refl _, Nat.le_refl _⟩ dX10_sheet_26 ?_
          refine e_bipush (v := (-3)) dX10_sheet_29 (by decide) ?_
          exact e_iret rfl dX10_sheet_31 (qW hf)
      · replace hf := e_ie c hf
        refine e_iconst (v := (-1)) dX10_sheet_15 (by decide) ?_
        exact e_iret rfl dX10_sheet_16 (qW hf)
def f_X6_copyFrom (L : eL) (h : eH) (v0 : Nat) (v1 : Nat) : Option eH :=
  if isO L v1 6 = true then
  (gR h v1 0).bind fun b2 =>
  if isO L v0 6 = true then
  (gR h v0 0).bind fun b5 =>
  if cpOK L b2 b5 0 0 0 36 = true then
  (some (sI (cpI h b2 b5 0 0 36) v0 1 (gI (cpI h b2 b5 0 0 36) v1 1))).bind fun h8 =>
  (some (sI (sI h8 v0 2 (gI h8 v1 2)) v0 3 (gI (sI h8 v0 2 (gI h8 v1 2)) v1 3))).bind fun h10 =>
  (some (sI (sI h10 v0 4 (gI h10 v1 4)) v0 5 (gI (sI h10 v0 4 (gI h10 v1 4)) v1 5))).bind fun h12 =>
  (some (sI (sI h12 v0 6 (gI h12 v1 6)) v0 7 (gI (sI h12 v0 6 (gI h12 v1 6)) v1 7))).bind fun h14 =>
  some (sL h14 v0 8 (gL h14 v1 8))
  else none
  else none
  else none
set_option maxRecDepth 100000 in
set_option maxHeartbeats 4000000 in
theorem m_X6_copyFrom {l : Launch} {d : Nat} {L : eL} {h : eH} {v0 : Nat} {v1 : Nat} {r : eH} (hd : 2 ≤ d) (hf : f_X6_copyFrom L h v0 v1 = some r) : e_Met l yX6_copyFrom cX6_copyFrom 2 none d 0 0 true L h [.ref v0, .ref v1] (Qx none L r) := by
  refine e_metl (by decide) (Nat.le_of_ble_eq_true rfl) (lv := [(0, .ref v0), (1, .ref v1)]) rfl ?_
  unfold f_X6_copyFrom at hf
  refine e_aload_n 1 dX6_copyFrom_0 rfl rfl ?_
  refine e_ifnonnull (t := 5) dX6_copyFrom_1 (by decide) ?_
  refine e_aload_n 1 dX6_copyFrom_5 rfl rfl ?_
  obtain ⟨hO1, hf⟩ := e_if hf
  obtain ⟨b2, hb3, hf⟩ := e_bd hf
  refine e_getR hO1 fc_6_0 lk_RX6_9 dX6_copyFrom_6 hb3 ?_
  refine e_iconst (v := 0) dX6_copyFrom_9 (by decide) ?_
  refine e_aload_n 0 dX6_copyFrom_10 rfl rfl ?_
  obtain ⟨hO4, hf⟩ := e_if hf
  obtain ⟨b5, hb6, hf⟩ := e_bd hf
  refine e_getR hO4 fc_6_0 lk_RX6_9 dX6_copyFrom_11 hb6 ?_
  refine e_iconst (v := 0) dX6_copyFrom_14 (by decide) ?_
  refine e_bipush (v := 36) dX6_copyFrom_15 (by decide) ?_
  obtain ⟨hc7, hf⟩ := e_if hf
  refine e_copyI cop_RX6_44 hc7 (by omega) (Nat.le_of_ble_eq_true rfl) dX6_copyFrom_17 ?_
  refine e_aload_n 0 dX6_copyFrom_20 rfl rfl ?_
  refine e_aload_n 1 dX6_copyFrom_21 rfl rfl ?_
  refine e_getI hO1 fc_6_1 lk_RX6_15 dX6_copyFrom_22 ?_
  refine e_putI hO4 fc_6_1 rfl lk_RX6_15 dX6_copyFrom_25 ?_
  obtain ⟨h8, hh9, hf⟩ := e_bd hf
  refine e_hn hh9 ?_
  refine e_aload_n 0 dX6_copyFrom_28 rfl rfl ?_
  refine e_aload_n 1 dX6_copyFrom_29 rfl rfl ?_
  refine e_getI hO1 fc_6_2 lk_RX6_19 dX6_copyFrom_30 ?_
  refine e_putI hO4 fc_6_2 rfl lk_RX6_19 dX6_copyFrom_33 ?_
  refine e_aload_n 0 dX6_copyFrom_36 rfl rfl ?_
  refine e_aload_n 1 dX6_copyFrom_37 rfl rfl ?_
  refine e_getI hO1 fc_6_3 lk_RX6_22 dX6_copyFrom_38 ?_
  refine e_putI hO4 fc_6_3 rfl lk_RX6_22 dX6_copyFrom_41 ?_
  obtain ⟨h10, hh11, hf⟩ := e_bd hf
  refine e_hn hh11 ?_
  refine e_aload_n 0 dX6_copyFrom_44 rfl rfl ?_
  refine e_aload_n 1 dX6_copyFrom_45 rfl rfl ?_
  refine e_getI hO1 fc_6_4 lk_RX6_25 dX6_copyFrom_46 ?_
  refine e_putI hO4 fc_6_4 rfl lk_RX6_25 dX6_copyFrom_49 ?_
  refine e_aload_n 0 dX6_copyFrom_52 rfl rfl ?_
  refine e_aload_n 1 dX6_copyFrom_53 rfl rfl ?_
  refine e_getI hO1 fc_6_5 lk_RX6_28 dX6_copyFrom_54 ?_
  refine e_putI hO4 fc_6_5 rfl lk_RX6_28 dX6_copyFrom_57 ?_
  obtain ⟨h12, hh13, hf⟩ := e_bd hf
  refine e_hn hh13 ?_
  refine e_aload_n 0 dX6_copyFrom_60 rfl rfl ?_
  refine e_aload_n 1 dX6_copyFrom_61 rfl rfl ?_
  refine e_getI hO1 fc_6_6 lk_RX6_31 dX6_copyFrom_62 ?_
  refine e_putI hO4 fc_6_6 rfl lk_RX6_31 dX6_copyFrom_65 ?_
  refine e_aload_n 0 dX6_copyFrom_68 rfl rfl ?_
  refine e_aload_n 1 dX6_copyFrom_69 rfl rfl ?_
  refine e_getI hO1 fc_6_7 lk_RX6_34 dX6_copyFrom_70 ?_
  refine e_putI hO4 fc_6_7 rfl lk_RX6_34 dX6_copyFrom_73 ?_
  obtain ⟨h14, hh15, hf⟩ := e_bd hf
  refine e_hn hh15 ?_
  refine e_aload_n 0 dX6_copyFrom_76 rfl rfl ?_
  refine e_aload_n 1 dX6_copyFrom_77 rfl rfl ?_
  refine e_getL hO1 fc_6_8 lk_RX6_37 dX6_copyFrom_78 ?_
  refine e_putL hO4 fc_6_8 rfl lk_RX6_37 dX6_copyFrom_81 ?_
  exact e_vret rfl dX6_copyFrom_84 (qV hf)
def f_X2_costFrom (L : eL) (h : eH) (v0 : Nat) (v1 : Int32) : Option Int32 :=
  if isO L v0 2 = true then
  if (f_X10_holds (gL h v0 5) v1) = 0 then
    some 1
  else
    some 2
  else none
set_option maxRecDepth 100000 in
set_option maxHeartbeats 4000000 in
theorem m_X2_costFrom {l : Launch} {d : Nat} {L : eL} {h : eH} {v0 : Nat} {v1 : Int32} {r : Int32} (hd : 2 ≤ d) (hf : f_X2_costFrom L h v0 v1 = some r) : e_Met l yX2_costFrom cX2_costFrom 2 (some .int) d 0 0 true L h [.ref v0, .int v1] (Qx (some (.int r)) L h) := by
  refine e_metl (by decide) (Nat.le_of_ble_eq_true rfl) (lv := [(0, .ref v0), (1, .int v1)]) rfl ?_
  unfold f_X2_costFrom at hf
  refine e_aload_n 0 dX2_costFrom_0 rfl rfl ?_
  obtain ⟨hO1, hf⟩ := e_if hf
  refine e_getL hO1 fc_2_5 lk_RX2_29 dX2_costFrom_1 ?_
  refine e_iload_n 1 dX2_costFrom_4 rfl rfl ?_
  refine e_callSN (st := []) ml_RX2_72 k_X10_holds (m_X10_holds (d := d - 1) (by omega) rfl) rfl rfl (Nat.le_of_ble_eq_true rfl) ⟨by omega, by decide⟩ ⟨Nat.le_refl _, Nat.le_refl _⟩ dX2_costFrom_5 ?_
  refine e_if_eq (t := 15) dX2_costFrom_8 (by decide) (fun c => ?_) (fun c => ?_)
  · replace hf := e_it c hf
    refine e_iconst (v := 1) dX2_costFrom_15 (by decide) ?_
    exact e_iret rfl dX2_costFrom_16 (qP hf)
  · replace hf := e_ie c hf
    refine e_iconst (v := 2) dX2_costFrom_11 (by decide) ?_
    refine e_goto (t := 16) dX2_costFrom_12 (by decide) ?_
    exact e_iret rfl dX2_costFrom_16 (qP hf)
def f_X2_has (L : eL) (h : eH) (v0 : Nat) (v1 : Int32) : Option Int32 :=
  if v1 < 0 then
    some 0
  else
    if isO L v0 2 = true then
    if ((gI h v0 1) * (gI h v0 2)) ≤ v1 then
      some 0
    else
      some 1
    else none
set_option maxRecDepth 100000 in
set_option maxHeartbeats 4000000 in
theorem m_X2_has {l : Launch} {d : Nat} {L : eL} {h : eH} {v0 : Nat} {v1 : Int32} {r : Int32} (hd : 1 ≤ d) (hf : f_X2_has L h v0 v1 = some r) : e_Met l yX2_has cX2_has 2 (some .boolean) d 0 0 true L h [.ref v0, .int v1] (Qx (some (.int r)) L h) := by
  refine e_metl (by decide) (Nat.le_of_ble_eq_true rfl) (lv := [(0, .ref v0), (1, .int v1)]) rfl ?_
  unfold f_X2_has at hf
  refine e_iload_n 1 dX2_has_0 rfl rfl ?_
  refine e_if_lt (t := 21) dX2_has_1 (by decide) (fun c => ?_) (fun c => ?_)
  · replace hf := e_it c hf
    refine e_iconst (v := 0) dX2_has_21 (by decide) ?_
    exact e_zret (ty := .boolean) rfl rfl dX2_has_22 (qP hf)
  · replace hf := e_ie c hf
    refine e_iload_n 1 dX2_has_4 rfl rfl ?_
    refine e_aload_n 0 dX2_has_5 rfl rfl ?_
    obtain ⟨hO1, hf⟩ := e_if hf
    refine e_getI hO1 fc_2_1 lk_RX2_15 dX2_has_6 ?_
    refine e_aload_n 0 dX2_has_9 rfl rfl ?_
    refine e_getI hO1 fc_2_2 lk_RX2_19 dX2_has_10 ?_
    refine e_imul dX2_has_13 ?_
    refine e_icmp_ge (t := 21) dX2_has_14 (by decide) (fun c => ?_) (fun c => ?_)
    · replace hf := e_it c hf
      refine e_iconst (v := 0) dX2_has_21 (by decide) ?_
      exact e_zret (ty := .boolean) rfl rfl dX2_has_22 (qP hf)
    · replace hf := e_ie c hf
      refine e_iconst (v := 1) dX2_has_17 (by decide) ?_
      refine e_goto (t := 22) dX2_has_18 (by decide) ?_
      exact e_zret (ty := .boolean) rfl rfl dX2_has_22 (qP hf)
def f_X2_aheadOf (L : eL) (h : eH) (v0 : Nat) (v1 : Int32) (v2 : Int32) : Option Int32 :=
  if isO L v0 2 = true then
  (f_X2_has L h v0 v1).bind fun r2 =>
  if r2 = 0 then
    some (-1)
  else
    if v2 = 0 then
      if v1 < (gI h v0 2) then
        some (-1)
      else
        some (v1 - (gI h v0 2))
    else if v2 = 1 then
      if (f_X10_holds (gL h v0 7) v1) = 0 then
        some (v1 + 1)
      else
        some (-1)
    else if v2 = 2 then
      (f_X2_has L h v0 (v1 + (gI h v0 2))).bind fun r4 =>
      if r4 = 0 then
        some (-1)
      else
        some (v1 + (gI h v0 2))
    else if v2 = 3 then
      if (f_X10_holds (gL h v0 6) v1) = 0 then
        some (v1 - 1)
      else
        some (-1)
    else
      some (-1)
  else none
set_option maxRecDepth 100000 in
set_option maxHeartbeats 4000000 in
theorem m_X2_aheadOf {l : Launch} {d : Nat} {L : eL} {h : eH} {v0 : Nat} {v1 : Int32} {v2 : Int32} {r : Int32} (hd : 2 ≤ d) (hf : f_X2_aheadOf L h v0 v1 v2 = some r) : e_Met l yX2_aheadOf cX2_aheadOf 3 (some .int) d 0 0 true L h [.ref v0, .int v1, .int v2] (Qx (some (.int r)) L h) := by
  refine e_metl (by decide) (Nat.le_of_ble_eq_true rfl) (lv := [(0, .ref v0), (1, .int v1), (2, .int v2)]) rfl ?_
  unfold f_X2_aheadOf at hf
  refine e_aload_n 0 dX2_aheadOf_0 rfl rfl ?_
  refine e_iload_n 1 dX2_aheadOf_1 rfl rfl ?_
  obtain ⟨hO1, hf⟩ := e_if hf
  obtain ⟨r2, hr3, hf⟩ := e_bd hf
  refine e_callV (st := []) ml_RX2_76 k_X2_has (m_X2_has (d := d - 1) (by omega) hr3) hO1 ⟨by decide, rfl⟩ rfl rfl (Nat.le_of_ble_eq_true rfl) ⟨by omega, by decide⟩ ⟨Nat.le_refl _, Nat.le_refl _⟩ dX2_aheadOf_2 ?_
  refine e_if_ne (t := 10) dX2_aheadOf_5 (by decide) (fun c => ?_) (fun c => ?_)
  · replace hf := e_ie c hf
    refine e_iload_n 2 dX2_aheadOf_10 rfl rfl ?_
    by_cases c0 : v2 = 0
    · replace hf := e_it c0 hf
      refine e_tabIn (t := 40) dX2_aheadOf_11 (by rw [c0]; decide) (by rw [c0]; decide) (by first | (rw [c0]; done) | (rw [c0]; rfl)) (by decide) ?_
      refine e_iload_n 1 dX2_aheadOf_40 rfl rfl ?_
      refine e_aload_n 0 dX2_aheadOf_41 rfl rfl ?_
      refine e_getI hO1 fc_2_2 lk_RX2_19 dX2_aheadOf_42 ?_
      refine e_icmp_lt (t := 57) dX2_aheadOf_45 (by decide) (fun c => ?_) (fun c => ?_)
      · replace hf := e_it c hf
        refine e_iconst (v := (-1)) dX2_aheadOf_57 (by decide) ?_
        exact e_iret rfl dX2_aheadOf_58 (qP hf)
      · replace hf := e_ie c hf
        refine e_iload_n 1 dX2_aheadOf_48 rfl rfl ?_
        refine e_aload_n 0 dX2_aheadOf_49 rfl rfl ?_
        refine e_getI hO1 fc_2_2 lk_RX2_19 dX2_aheadOf_50 ?_
        refine e_isub dX2_aheadOf_53 ?_
        refine e_goto (t := 58) dX2_aheadOf_54 (by decide) ?_
        exact e_iret rfl dX2_aheadOf_58 (qP hf)
    replace hf := e_ie c0 hf
    by_cases c1 : v2 = 1
    · replace hf := e_it c1 hf
      refine e_tabIn (t := 59) dX2_aheadOf_11 (by rw [c1]; decide) (by rw [c1]; decide) (by first | (rw [c1]; done) | (rw [c1]; rfl)) (by decide) ?_
      refine e_aload_n 0 dX2_aheadOf_59 rfl rfl ?_
      refine e_getL hO1 fc_2_7 lk_RX2_35 dX2_aheadOf_60 ?_
      refine e_iload_n 1 dX2_aheadOf_63 rfl rfl ?_
      refine e_callSN (st := []) ml_RX2_72 k_X10_holds (m_X10_holds (d := d - 1) (by omega) rfl) rfl rfl (Nat.le_of_ble_eq_true rfl) ⟨by omega, by decide⟩ ⟨Nat.le_refl _, Nat.le_refl _⟩ dX2_aheadOf_64 ?_
      refine e_if_eq (t := 74) dX2_aheadOf_67 (by decide) (fun c => ?_) (fun c => ?_)
      · replace hf := e_it c hf
        refine e_iload_n 1 dX2_aheadOf_74 rfl rfl ?_
        refine e_iconst (v := 1) dX2_aheadOf_75 (by decide) ?_
        refine e_iadd dX2_aheadOf_76 ?_
        exact e_iret rfl dX2_aheadOf_77 (qP hf)
      · replace hf := e_ie c hf
        refine e_iconst (v := (-1)) dX2_aheadOf_70 (by decide) ?_
        refine e_goto (t := 77) dX2_aheadOf_71 (by decide) ?_
        exact e_iret rfl dX2_aheadOf_77 (qP hf)
    replace hf := e_ie c1 hf
    by_cases c2 : v2 = 2
    · replace hf := e_it c2 hf
      refine e_tabIn (t := 78) dX2_aheadOf_11 (by rw [c2]; decide) (by rw [c2]; decide) (by first | (rw [c2]; done) | (rw [c2]; rfl)) (by decide) ?_
      refine e_aload_n 0 dX2_aheadOf_78 rfl rfl ?_
      refine e_iload_n 1 dX2_aheadOf_79 rfl rfl ?_
      refine e_aload_n 0 dX2_aheadOf_80 rfl rfl ?_
      refine e_getI hO1 fc_2_2 lk_RX2_19 dX2_aheadOf_81 ?_
      refine e_iadd dX2_aheadOf_84 ?_
      obtain ⟨r4, hr5, hf⟩ := e_bd hf
      refine e_callV (st := []) ml_RX2_76 k_X2_has (m_X2_has (d := d - 1) (by omega) hr5) hO1 ⟨by decide, rfl⟩ rfl rfl (Nat.le_of_ble_eq_true rfl) ⟨by omega, by decide⟩ ⟨Nat.le_refl _, Nat.le_refl _⟩ dX2_aheadOf_85 ?_
      refine e_if_eq (t := 100) dX2_aheadOf_88 (by decide) (fun c => ?_) (fun c => ?_)
      · replace hf := e_it c hf
        refine e_iconst (v := (-1)) dX2_aheadOf_100 (by decide) ?_
        exact e_iret rfl dX2_aheadOf_101 (qP hf)
      · replace hf := e_ie c hf
        refine e_iload_n 1 dX2_aheadOf_91 rfl rfl ?_
        refine e_aload_n 0 dX2_aheadOf_92 rfl rfl ?_
        refine e_getI hO1 fc_2_2 lk_RX2_19 dX2_aheadOf_93 ?_
        refine e_iadd dX2_aheadOf_96 ?_
        refine e_goto (t := 101) dX2_aheadOf_97 (by decide) ?_
        exact e_iret rfl dX2_aheadOf_101 (qP hf)
    replace hf := e_ie c2 hf
    by_cases c3 : v2 = 3
    · replace hf := e_it c3 hf
      refine e_tabIn (t := 102) dX2_aheadOf_11 (by rw [c3]; decide) (by rw [c3]; decide) (by first | (rw [c3]; done) | (rw [c3]; rfl)) (by decide) ?_
      refine e_aload_n 0 dX2_aheadOf_102 rfl rfl ?_
      refine e_getL hO1 fc_2_6 lk_RX2_32 dX2_aheadOf_103 ?_
      refine e_iload_n 1 dX2_aheadOf_106 rfl rfl ?_
      refine e_callSN (st := []) ml_RX2_72 k_X10_holds (m_X10_holds (d := d - 1) (by omega) rfl) rfl rfl (Nat.le_of_ble_eq_true rfl) ⟨by omega, by decide⟩ ⟨Nat.le_refl _, Nat.le_refl _⟩ dX2_aheadOf_107 ?_
      refine e_if_eq (t := 117) dX2_aheadOf_110 (by decide) (fun c => ?_) (fun c => ?_)
      · replace hf := e_it c hf
        refine e_iload_n 1 dX2_aheadOf_117 rfl rfl ?_
        refine e_iconst (v := 1) dX2_aheadOf_118 (by decide) ?_
        refine e_isub dX2_aheadOf_119 ?_
        exact e_iret rfl dX2_aheadOf_120 (qP hf)
      · replace hf := e_ie c hf
        refine e_iconst (v := (-1)) dX2_aheadOf_113 (by decide) ?_
        refine e_goto (t := 120) dX2_aheadOf_114 (by decide) ?_
        exact e_iret rfl dX2_aheadOf_120 (qP hf)
    replace hf := e_ie c3 hf
    refine e_tabOut (t := 121) dX2_aheadOf_11 (e_out (fun j j1 j2 => by
        have j3 : j = 0 ∨ j = 1 ∨ j = 2 ∨ j = 3 := by omega
        rcases j3 with rfl | rfl | rfl | rfl <;> assumption)) (by decide) ?_
    refine e_iconst (v := (-1)) dX2_aheadOf_121 (by decide) ?_
    exact e_iret rfl dX2_aheadOf_122 (qP hf)
  · replace hf := e_it c hf
    refine e_iconst (v := (-1)) dX2_aheadOf_8 (by decide) ?_
    exact e_iret rfl dX2_aheadOf_9 (qP hf)
def f_X6_dustAt (L : eL) (h : eH) (v0 : Nat) (v1 : Int32) : Option Int32 :=
  if v1 < 0 then
    some 0
  else
    if 36 ≤ v1 then
      some 0
    else
      if isO L v0 6 = true then
      (gR h v0 0).bind fun b2 =>
      if inA L b2 0 v1 = true then
      some (gI h b2 v1.toNatClampNeg)
      else none
      else none
set_option maxRecDepth 100000 in
set_option maxHeartbeats 4000000 in
theorem m_X6_dustAt {l : Launch} {d : Nat} {L : eL} {h : eH} {v0 : Nat} {v1 : Int32} {r : Int32} (hd : 1 ≤ d) (hf : f_X6_dustAt L h v0 v1 = some r) : e_Met l yX6_dustAt cX6_dustAt 2 (some .int) d 0 0 true L h [.ref v0, .int v1] (Qx (some (.int r)) L h) := by
  refine e_metl (by decide) (Nat.le_of_ble_eq_true rfl) (lv := [(0, .ref v0), (1, .int v1)]) rfl ?_
  unfold f_X6_dustAt at hf
  refine e_iload_n 1 dX6_dustAt_0 rfl rfl ?_
  refine e_if_lt (t := 19) dX6_dustAt_1 (by decide) (fun c => ?_) (fun c => ?_)
  · replace hf := e_it c hf
    refine e_iconst (v := 0) dX6_dustAt_19 (by decide) ?_
    exact e_iret rfl dX6_dustAt_20 (qP hf)
  · replace hf := e_ie c hf
    refine e_iload_n 1 dX6_dustAt_4 rfl rfl ?_
    refine e_bipush (v := 36) dX6_dustAt_5 (by decide) ?_
    refine e_icmp_ge (t := 19) dX6_dustAt_7 (by decide) (fun c => ?_) (fun c => ?_)
    · replace hf := e_it c hf
      refine e_iconst (v := 0) dX6_dustAt_19 (by decide) ?_
      exact e_iret rfl dX6_dustAt_20 (qP hf)
    · replace hf := e_ie c hf
      refine e_aload_n 0 dX6_dustAt_10 rfl rfl ?_
      obtain ⟨hO1, hf⟩ := e_if hf
      obtain ⟨b2, hb3, hf⟩ := e_bd hf
      refine e_getR hO1 fc_6_0 lk_RX6_9 dX6_dustAt_11 hb3 ?_
      refine e_iload_n 1 dX6_dustAt_14 rfl rfl ?_
      obtain ⟨hI4, hf⟩ := e_if hf
      refine e_iald hI4 dX6_dustAt_15 ?_
      refine e_goto (t := 20) dX6_dustAt_16 (by decide) ?_
      exact e_iret rfl dX6_dustAt_20 (qP hf)
def f_X6_enter (L : eL) (h : eH) (v0 : Nat) (v1 : Int32) : Option eH :=
  if isO L v0 6 = true then
  (f_X6_dustAt L (sI h v0 1 v1) v0 v1).bind fun r2 =>
  (some (sI (sI h v0 1 v1) v0 4 ((gI (sI h v0 1 v1) v0 4) + r2))).bind fun h4 =>
  (f_X6_putDust L h4 v0 v1 0).bind fun r6 =>
  some r6
  else none
set_option maxRecDepth 100000 in
set_option maxHeartbeats 4000000 in
theorem m_X6_enter {l : Launch} {d : Nat} {L : eL} {h : eH} {v0 : Nat} {v1 : Int32} {r : eH} (hd : 3 ≤ d) (hf : f_X6_enter L h v0 v1 = some r) : e_Met l yX6_enter cX6_enter 2 none d 0 0 true L h [.ref v0, .int v1] (Qx none L r) := by
  refine e_metl (by decide) (Nat.le_of_ble_eq_true rfl) (lv := [(0, .ref v0), (1, .int v1)]) rfl ?_
  unfold f_X6_enter at hf
  refine e_aload_n 0 dX6_enter_0 rfl rfl ?_
  refine e_iload_n 1 dX6_enter_1 rfl rfl ?_
  obtain ⟨hO1, hf⟩ := e_if hf
  refine e_putI hO1 fc_6_1 rfl lk_RX6_15 dX6_enter_2 ?_
  refine e_aload_n 0 dX6_enter_5 rfl rfl ?_
  refine e_dupR dX6_enter_6 ?_
  refine e_getI hO1 fc_6_4 lk_RX6_25 dX6_enter_7 ?_
  refine e_aload_n 0 dX6_enter_10 rfl rfl ?_
  refine e_iload_n 1 dX6_enter_11 rfl rfl ?_
  obtain ⟨r2, hr3, hf⟩ := e_bd hf
  refine e_callV (st := [.int _, .ref _]) ml_RX6_85 k_X6_dustAt (m_X6_dustAt (d := d - 1) (by omega) hr3) hO1 ⟨by decide, rfl⟩ rfl rfl (Nat.le_of_ble_eq_true rfl) ⟨by omega, by decide⟩ ⟨Nat.le_refl _, Nat.le_refl _⟩ dX6_enter_12 ?_
  refine e_iadd dX6_enter_15 ?_
  refine e_putI hO1 fc_6_4 rfl lk_RX6_25 dX6_enter_16 ?_
  obtain ⟨h4, hh5, hf⟩ := e_bd hf
  refine e_hn hh5 ?_
  refine e_aload_n 0 dX6_enter_19 rfl rfl ?_
  refine e_iload_n 1 dX6_enter_20 rfl rfl ?_
  refine e_iconst (v := 0) dX6_enter_21 (by decide) ?_
  obtain ⟨r6, hr7, hf⟩ := e_bd hf
  refine e_callV (st := []) ml_RX6_81 k_X6_putDust (m_X6_putDust (d := d - 1) (by omega) hr7) hO1 ⟨by decide, rfl⟩ rfl rfl (Nat.le_of_ble_eq_true rfl) ⟨by omega, by decide⟩ ⟨Nat.le_refl _, Nat.le_refl _⟩ dX6_enter_22 ?_
  exact e_vret rfl dX6_enter_25 (qV hf)
def f_X10_oneIf (v0 : Int32) : Int32 :=
  if v0 = 0 then
    0
  else
    1
set_option maxRecDepth 100000 in
set_option maxHeartbeats 4000000 in
theorem m_X10_oneIf {l : Launch} {d : Nat} {L : eL} {h : eH} {v0 : Int32} {r : Int32} (hd : 1 ≤ d) (hf : f_X10_oneIf v0 = r) : e_Met l yX10_oneIf cX10_oneIf 1 (some .int) d 0 0 true L h [.int v0] (Qx (some (.int r)) L h) := by
  refine e_metl (by decide) (Nat.le_of_ble_eq_true rfl) (lv := [(0, .int v0)]) rfl ?_
  unfold f_X10_oneIf at hf
  refine e_iload_n 0 dX10_oneIf_0 rfl rfl ?_
  refine e_if_eq (t := 8) dX10_oneIf_1 (by decide) (fun c => ?_) (fun c => ?_)
  · replace hf := e_it c hf
    refine e_iconst (v := 0) dX10_oneIf_8 (by decide) ?_
    exact e_iret rfl dX10_oneIf_9 (qT hf)
  · replace hf := e_ie c hf
    refine e_iconst (v := 1) dX10_oneIf_4 (by decide) ?_
    refine e_goto (t := 9) dX10_oneIf_5 (by decide) ?_
    exact e_iret rfl dX10_oneIf_9 (qT hf)
def f_X4_thing (L : eL) (h : eH) (v0 : Int32) (v1 : Nat) (v2 : Nat) : Option Int32 :=
  if v0 = 98 then
    if isO L v1 6 = true then
    some ((gI h v1 6) &&& 7)
    else none
  else if v0 = 104 then
    if isO L v1 6 = true then
    some (gI h v1 2)
    else none
  else if v0 = 114 then
    if isO L v2 2 = true then
    if isO L v1 6 = true then
    some (f_X10_oneIf (f_X10_holds (gL h v2 5) (gI h v1 1)))
    else none
    else none
  else if v0 = 115 then
    if isO L v1 6 = true then
    some (gI h v1 1)
    else none
  else
    if isO L v1 6 = true then
    (f_X6_dustAt L h v1 (gI h v1 1)).bind fun r7 =>
    some r7
    else none
set_option maxRecDepth 100000 in
set_option maxHeartbeats 4000000 in
theorem m_X4_thing {l : Launch} {d : Nat} {L : eL} {h : eH} {v0 : Int32} {v1 : Nat} {v2 : Nat} {r : Int32} (hd : 2 ≤ d) (hf : f_X4_thing L h v0 v1 v2 = some r) : e_Met l yX4_thing cX4_thing 3 (some .int) d 0 0 true L h [.int v0, .ref v1, .ref v2] (Qx (some (.int r)) L h) := by
  refine e_metl (by decide) (Nat.le_of_ble_eq_true rfl) (lv := [(0, .int v0), (1, .ref v1), (2, .ref v2)]) rfl ?_
  unfold f_X4_thing at hf
  refine e_iload_n 0 dX4_thing_0 rfl rfl ?_
  by_cases c98 : v0 = 98
  · replace hf := e_it c98 hf
    refine e_look (t := 44) dX4_thing_1 (by decide) (by first | (rw [c98]; done) | (rw [c98]; rfl)) (by decide) ?_
    refine e_aload_n 1 dX4_thing_44 rfl rfl ?_
    obtain ⟨hO1, hf⟩ := e_if hf
    refine e_getIN hO1 fc_6_6 lk_RX4_36 dX4_thing_45 ?_
    refine e_bipush (v := 7) dX4_thing_48 (by decide) ?_
    refine e_iand dX4_thing_50 ?_
    exact e_iret rfl dX4_thing_51 (qP hf)
  replace hf := e_ie c98 hf
  by_cases c104 : v0 = 104
  · replace hf := e_it c104 hf
    refine e_look (t := 52) dX4_thing_1 (by decide) (by first | (rw [c104]; done) | (rw [c104]; rfl)) (by decide) ?_
    refine e_aload_n 1 dX4_thing_52 rfl rfl ?_
    obtain ⟨hO2, hf⟩ := e_if hf
    refine e_getIN hO2 fc_6_2 lk_RX4_41 dX4_thing_53 ?_
    exact e_iret rfl dX4_thing_56 (qP hf)
  replace hf := e_ie c104 hf
  by_cases c114 : v0 = 114
  · replace hf := e_it c114 hf
    refine e_look (t := 62) dX4_thing_1 (by decide) (by first | (rw [c114]; done) | (rw [c114]; rfl)) (by decide) ?_
    refine e_aload_n 2 dX4_thing_62 rfl rfl ?_
    obtain ⟨hO3, hf⟩ := e_if hf
    refine e_getLN hO3 fc_2_5 lk_RX4_47 dX4_thing_63 ?_
    refine e_aload_n 1 dX4_thing_66 rfl rfl ?_
    obtain ⟨hO4, hf⟩ := e_if hf
    refine e_getIN hO4 fc_6_1 lk_RX4_44 dX4_thing_67 ?_
    refine e_callSN (st := []) ml_RX4_53 k_X10_holds (m_X10_holds (d := d - 1) (by omega) rfl) rfl rfl (Nat.le_of_ble_eq_true rfl) ⟨by omega, by decide⟩ ⟨Nat.le_refl _, Nat.le_refl _⟩ dX4_thing_70 ?_
    refine e_callSN (st := []) ml_RX4_59 k_X10_oneIf (m_X10_oneIf (d := d - 1) (by omega) rfl) rfl rfl (Nat.le_of_ble_eq_true rfl) ⟨by omega, by decide⟩ ⟨Nat.le_refl _, Nat.le_refl _⟩ dX4_thing_73 ?_
    exact e_iret rfl dX4_thing_76 (qP hf)
  replace hf := e_ie c114 hf
  by_cases c115 : v0 = 115
  · replace hf := e_it c115 hf
    refine e_look (t := 57) dX4_thing_1 (by decide) (by first | (rw [c115]; done) | (rw [c115]; rfl)) (by decide) ?_
    refine e_aload_n 1 dX4_thing_57 rfl rfl ?_
    obtain ⟨hO5, hf⟩ := e_if hf
    refine e_getIN hO5 fc_6_1 lk_RX4_44 dX4_thing_58 ?_
    exact e_iret rfl dX4_thing_61 (qP hf)
  replace hf := e_ie c115 hf
  refine e_look (t := 77) dX4_thing_1 (by decide) (by simp only [Op.lookupswitch.offset]; rw [if_neg (e_ine (j := 98) c98), if_neg (e_ine (j := 104) c104), if_neg (e_ine (j := 114) c114), if_neg (e_ine (j := 115) c115)]) (by decide) ?_
  refine e_aload_n 1 dX4_thing_77 rfl rfl ?_
  refine e_aload_n 1 dX4_thing_78 rfl rfl ?_
  obtain ⟨hO6, hf⟩ := e_if hf
  refine e_getIN hO6 fc_6_1 lk_RX4_44 dX4_thing_79 ?_
  obtain ⟨r7, hr8, hf⟩ := e_bd hf
  refine e_callV (st := []) ml_RX4_63 k_X6_dustAt (m_X6_dustAt (d := d - 1) (by omega) hr8) hO6 ⟨by decide, rfl⟩ rfl rfl (Nat.le_of_ble_eq_true rfl) ⟨by omega, by decide⟩ ⟨Nat.le_refl _, Nat.le_refl _⟩ dX4_thing_82 ?_
  exact e_iret rfl dX4_thing_85 (qP hf)
def f_X4_reckoned (v0 : Int32) (v1 : Int32) (v2 : Int32) : Option Int32 :=
  if v0 = 42 then
    some (v1 * v2)
  else if v0 = 43 then
    some (v1 + v2)
  else if v0 = 45 then
    some (v1 - v2)
  else if v0 = 47 then
    if v2 = 0 then
      some 0
    else
      if v2 = 0 then none else
      some (v1 / v2)
  else if v0 = 60 then
    if v2 ≤ v1 then
      some (f_X10_oneIf 0)
    else
      some (f_X10_oneIf 1)
  else if v0 = 62 then
    if v1 ≤ v2 then
      some (f_X10_oneIf 0)
    else
      some (f_X10_oneIf 1)
  else
    if v1 = v2 then
      some (f_X10_oneIf 1)
    else
      some (f_X10_oneIf 0)
set_option maxRecDepth 100000 in
set_option maxHeartbeats 4000000 in
theorem m_X4_reckoned {l : Launch} {d : Nat} {L : eL} {h : eH} {v0 : Int32} {v1 : Int32} {v2 : Int32} {r : Int32} (hd : 2 ≤ d) (hf : f_X4_reckoned v0 v1 v2 = some r) : e_Met l yX4_reckoned cX4_reckoned 3 (some .int) d 0 0 true L h [.int v0, .int v1, .int v2] (Qx (some (.int r)) L h) := by
  refine e_metl (by decide) (Nat.le_of_ble_eq_true rfl) (lv := [(0, .int v0), (1, .int v1), (2, .int v2)]) rfl ?_
  unfold f_X4_reckoned at hf
  refine e_iload_n 0 dX4_reckoned_0 rfl rfl ?_
  by_cases c42 : v0 = 42
  · replace hf := e_it c42 hf
    refine e_look (t := 68) dX4_reckoned_1 (by decide) (by first | (rw [c42]; done) | (rw [c42]; rfl)) (by decide) ?_
    refine e_iload_n 1 dX4_reckoned_68 rfl rfl ?_
    refine e_iload_n 2 dX4_reckoned_69 rfl rfl ?_
    refine e_imul dX4_reckoned_70 ?_
    exact e_iret rfl dX4_reckoned_71 (qP hf)
  replace hf := e_ie c42 hf
  by_cases c43 : v0 = 43
  · replace hf := e_it c43 hf
    refine e_look (t := 60) dX4_reckoned_1 (by decide) (by first | (rw [c43]; done) | (rw [c43]; rfl)) (by decide) ?_
    refine e_iload_n 1 dX4_reckoned_60 rfl rfl ?_
    refine e_iload_n 2 dX4_reckoned_61 rfl rfl ?_
    refine e_iadd dX4_reckoned_62 ?_
    exact e_iret rfl dX4_reckoned_63 (qP hf)
  replace hf := e_ie c43 hf
  by_cases c45 : v0 = 45
  · replace hf := e_it c45 hf
    refine e_look (t := 64) dX4_reckoned_1 (by decide) (by first | (rw [c45]; done) | (rw [c45]; rfl)) (by decide) ?_
    refine e_iload_n 1 dX4_reckoned_64 rfl rfl ?_
    refine e_iload_n 2 dX4_reckoned_65 rfl rfl ?_
    refine e_isub dX4_reckoned_66 ?_
    exact e_iret rfl dX4_reckoned_67 (qP hf)
  replace hf := e_ie c45 hf
  by_cases c47 : v0 = 47
  · replace hf := e_it c47 hf
    refine e_look (t := 72) dX4_reckoned_1 (by decide) (by first | (rw [c47]; done) | (rw [c47]; rfl)) (by decide) ?_
    refine e_iload_n 2 dX4_reckoned_72 rfl rfl ?_
    refine e_if_ne (t := 80) dX4_reckoned_73 (by decide) (fun c => ?_) (fun c => ?_)
    · replace hf := e_ie c hf
      refine e_iload_n 1 dX4_reckoned_80 rfl rfl ?_
      refine e_iload_n 2 dX4_reckoned_81 rfl rfl ?_
      obtain ⟨hz1, hf⟩ := e_ifp hf
      refine e_idiv dX4_reckoned_82 hz1 ?_
      exact e_iret rfl dX4_reckoned_83 (qP hf)
    · replace hf := e_it c hf
      refine e_iconst (v := 0) dX4_reckoned_76 (by decide) ?_
      refine e_goto (t := 83) dX4_reckoned_77 (by decide) ?_
      exact e_iret rfl dX4_reckoned_83 (qP hf)
  replace hf := e_ie c47 hf
  by_cases c60 : v0 = 60
  · replace hf := e_it c60 hf
    refine e_look (t := 84) dX4_reckoned_1 (by decide) (by first | (rw [c60]; done) | (rw [c60]; rfl)) (by decide) ?_
    refine e_iload_n 1 dX4_reckoned_84 rfl rfl ?_
    refine e_iload_n 2 dX4_reckoned_85 rfl rfl ?_
    refine e_icmp_ge (t := 93) dX4_reckoned_86 (by decide) (fun c => ?_) (fun c => ?_)
    · replace hf := e_it c hf
      refine e_iconst (v := 0) dX4_reckoned_93 (by decide) ?_
      refine e_callSN (st := []) ml_RX4_59 k_X10_oneIf (m_X10_oneIf (d := d - 1) (by omega) rfl) rfl rfl (Nat.le_of_ble_eq_true rfl) ⟨by omega, by decide⟩ ⟨Nat.le_refl _, Nat.le_refl _⟩ dX4_reckoned_94 ?_
      exact e_iret rfl dX4_reckoned_97 (qP hf)
    · replace hf := e_ie c hf
      refine e_iconst (v := 1) dX4_reckoned_89 (by decide) ?_
      refine e_goto (t := 94) dX4_reckoned_90 (by decide) ?_
      refine e_callSN (st := []) ml_RX4_59 k_X10_oneIf (m_X10_oneIf (d := d - 1) (by omega) rfl) rfl rfl (Nat.le_of_ble_eq_true rfl) ⟨by omega, by decide⟩ ⟨Nat.le_refl _, Nat.le_refl _⟩ dX4_reckoned_94 ?_
      exact e_iret rfl dX4_reckoned_97 (qP hf)
  replace hf := e_ie c60 hf
  by_cases c62 : v0 = 62
  · replace hf := e_it c62 hf
    refine e_look (t := 98) dX4_reckoned_1 (by decide) (by first | (rw [c62]; done) | (rw [c62]; rfl)) (by decide) ?_
    refine e_iload_n 1 dX4_reckoned_98 rfl rfl ?_
    refine e_iload_n 2 dX4_reckoned_99 rfl rfl ?_
    refine e_icmp_le (t := 107) dX4_reckoned_100 (by decide) (fun c => ?_) (fun c => ?_)
    · replace hf := e_it c hf
      refine e_iconst (v := 0) dX4_reckoned_107 (by decide) ?_
      refine e_callSN (st := []) ml_RX4_59 k_X10_oneIf (m_X10_oneIf (d := d - 1) (by omega) rfl) rfl rfl (Nat.le_of_ble_eq_true rfl) ⟨by omega, by decide⟩ ⟨Nat.le_refl _, Nat.le_refl _⟩ dX4_reckoned_108 ?_
      exact e_iret rfl dX4_reckoned_111 (qP hf)
    · replace hf := e_ie c hf
      refine e_iconst (v := 1) dX4_reckoned_103 (by decide) ?_
      refine e_goto (t := 108) dX4_reckoned_104 (by decide) ?_
      refine e_callSN (st := []) ml_RX4_59 k_X10_oneIf (m_X10_oneIf (d := d - 1) (by omega) rfl) rfl rfl (Nat.le_of_ble_eq_true rfl) ⟨by omega, by decide⟩ ⟨Nat.le_refl _, Nat.le_refl _⟩ dX4_reckoned_108 ?_
      exact e_iret rfl dX4_reckoned_111 (qP hf)
  replace hf := e_ie c62 hf
  refine e_look (t := 112) dX4_reckoned_1 (by decide) (by simp only [Op.lookupswitch.offset]; rw [if_neg (e_ine (j := 42) c42), if_neg (e_ine (j := 43) c43), if_neg (e_ine (j := 45) c45), if_neg (e_ine (j := 47) c47), if_neg (e_ine (j := 60) c60), if_neg (e_ine (j := 62) c62)]) (by decide) ?_
  refine e_iload_n 1 dX4_reckoned_112 rfl rfl ?_
  refine e_iload_n 2 dX4_reckoned_113 rfl rfl ?_
  refine e_icmp_ne (t := 121) dX4_reckoned_114 (by decide) (fun c => ?_) (fun c => ?_)
  · replace hf := e_ie c hf
    refine e_iconst (v := 0) dX4_reckoned_121 (by decide) ?_
    refine e_callSN (st := []) ml_RX4_59 k_X10_oneIf (m_X10_oneIf (d := d - 1) (by omega) rfl) rfl rfl (Nat.le_of_ble_eq_true rfl) ⟨by omega, by decide⟩ ⟨Nat.le_refl _, Nat.le_refl _⟩ dX4_reckoned_122 ?_
    exact e_iret rfl dX4_reckoned_125 (qP hf)
  · replace hf := e_it c hf
    refine e_iconst (v := 1) dX4_reckoned_117 (by decide) ?_
    refine e_goto (t := 122) dX4_reckoned_118 (by decide) ?_
    refine e_callSN (st := []) ml_RX4_59 k_X10_oneIf (m_X10_oneIf (d := d - 1) (by omega) rfl) rfl rfl (Nat.le_of_ble_eq_true rfl) ⟨by omega, by decide⟩ ⟨Nat.le_refl _, Nat.le_refl _⟩ dX4_reckoned_122 ?_
    exact e_iret rfl dX4_reckoned_125 (qP hf)
def f_X4_turnOf_J44 (L : eL) (k5 : eH → Nat → Nat → Nat → Int32 → Int32 → Option (eH × Int32)) (k155 : eH → Nat → Option (eH × Int32)) (h : eH) (v0 : Nat) (v1 : Nat) (v2 : Nat) (v3 : Int32) (v4 : Int32) (v5 : Int32) : Option (eH × Int32) :=
  if 40 ≤ v3 then
    k5 h v0 v1 v2 v3 (v4 + Int32.ofInt 1)
  else
    if isO L v0 4 = true then
    (gR h v0 1).bind fun b6 =>
    if v5 < 0 then
      (f_X4_thing L h (-v5) v1 v2).bind fun r8 =>
      if inA L b6 0 v3 = true then
      k5 (sI h b6 v3.toNatClampNeg r8) v0 v1 v2 (v3 + Int32.ofInt 1) (v4 + Int32.ofInt 1)
      else none
    else
      if inA L b6 0 v3 = true then
      k5 (sI h b6 v3.toNatClampNeg v5) v0 v1 v2 (v3 + Int32.ofInt 1) (v4 + Int32.ofInt 1)
      else none
    else none
set_option maxRecDepth 100000 in
set_option maxHeartbeats 4000000 in
theorem m_X4_turnOf_J44 {l : Launch} {d : Nat} {L : eL}  {r : eH × Int32} {k5 : eH → Nat → Nat → Nat → Int32 → Int32 → Option (eH × Int32)} {k155 : eH → Nat → Option (eH × Int32)} (hd : 3 ≤ d) (hk5 : ∀ (h : eH) (v0 : Nat) (v1 : Nat) (v2 : Nat) (v3 : Int32) (v4 : Int32), k5 h v0 v1 v2 v3 v4 = some r → E l yX4_turnOf cX4_turnOf 6 (some .int) (e_rm d 0 0) 0 0 true L (Qx (some (.int r.2)) L r.1) L h 0 0 5 [(0, .ref v0), (1, .ref v1), (2, .ref v2), (3, .int v3), (4, .int v4)] []) (hk155 : ∀ (h : eH) (v0 : Nat), k155 h v0 = some r → E l yX4_turnOf cX4_turnOf 6 (some .int) (e_rm d 0 0) 0 0 true L (Qx (some (.int r.2)) L r.1) L h 0 0 155 [(0, .ref v0)] []) : ∀ (h : eH) (v0 : Nat) (v1 : Nat) (v2 : Nat) (v3 : Int32) (v4 : Int32) (v5 : Int32), f_X4_turnOf_J44 L k5 k155 h v0 v1 v2 v3 v4 v5 = some r → E l yX4_turnOf cX4_turnOf 6 (some .int) (e_rm d 0 0) 0 0 true L (Qx (some (.int r.2)) L r.1) L h 0 0 44 [(0, .ref v0), (1, .ref v1), (2, .ref v2), (3, .int v3), (4, .int v4), (5, .int v5)] [] := by
  intro h v0 v1 v2 v3 v4 v5 hf
  unfold f_X4_turnOf_J44 at hf
  refine e_iload_n 3 dX4_turnOf_44 rfl rfl ?_
  refine e_bipush (v := 40) dX4_turnOf_45 (by decide) ?_
  refine e_icmp_ge (t := 149) dX4_turnOf_47 (by decide) (fun c => ?_) (fun c => ?_)
  · replace hf := e_it c hf
    refine e_iinc (lv' := [(4, .int _), (0, .ref _), (1, .ref _), (2, .ref _), (3, .int _), (5, .int _)]) 4 dX4_turnOf_149 rfl (by decide) rfl ?_
    refine e_goto (t := 5) dX4_turnOf_152 (by decide) ?_
    refine e_sub [1, 2, 3, 4, 0] rfl ?_
    exact hk5 _ _ _ _ _ _ hf
  · replace hf := e_ie c hf
    refine e_aload_n 0 dX4_turnOf_50 rfl rfl ?_
    obtain ⟨hO5, hf⟩ := e_if hf
    obtain ⟨b6, hb7, hf⟩ := e_bd hf
    refine e_getR hO5 fc_4_1 lk_RX4_13 dX4_turnOf_51 hb7 ?_
    refine e_iload_n 3 dX4_turnOf_54 rfl rfl ?_
    refine e_iload 5 dX4_turnOf_55 rfl ?_
    refine e_if_lt (t := 65) dX4_turnOf_57 (by decide) (fun c => ?_) (fun c => ?_)
    · replace hf := e_it c hf
      refine e_iload 5 dX4_turnOf_65 rfl ?_
      refine e_ineg dX4_turnOf_67 ?_
      refine e_aload_n 1 dX4_turnOf_68 rfl rfl ?_
      refine e_aload_n 2 dX4_turnOf_69 rfl rfl ?_
      obtain ⟨r8, hr9, hf⟩ := e_bd hf
      refine e_callS (st := [.int _, .ref _]) ml_RX4_28 k_X4_thing (m_X4_thing (d := d - 1) (by omega) hr9) rfl rfl (Nat.le_of_ble_eq_true rfl) ⟨by omega, by decide⟩ ⟨Nat.le_refl _, Nat.le_refl _⟩ dX4_turnOf_70 ?_
      obtain ⟨hI10, hf⟩ := e_if hf
      refine e_iast hI10 dX4_turnOf_73 ?_
      refine e_iinc (lv' := [(3, .int _), (0, .ref _), (1, .ref _), (2, .ref _), (4, .int _), (5, .int _)]) 3 dX4_turnOf_74 rfl (by decide) rfl ?_
      refine e_goto (t := 149) dX4_turnOf_77 (by decide) ?_
      refine e_iinc (lv' := [(4, .int _), (3, .int _), (0, .ref _), (1, .ref _), (2, .ref _), (5, .int _)]) 4 dX4_turnOf_149 rfl (by decide) rfl ?_
      refine e_goto (t := 5) dX4_turnOf_152 (by decide) ?_
      refine e_sub [2, 3, 4, 1, 0] rfl ?_
      exact hk5 _ _ _ _ _ _ hf
    · replace hf := e_ie c hf
      refine e_iload 5 dX4_turnOf_60 rfl ?_
      refine e_goto (t := 73) dX4_turnOf_62 (by decide) ?_
      obtain ⟨hI11, hf⟩ := e_if hf
      refine e_iast hI11 dX4_turnOf_73 ?_
      refine e_iinc (lv' := [(3, .int _), (0, .ref _), (1, .ref _), (2, .ref _), (4, .int _), (5, .int _)]) 3 dX4_turnOf_74 rfl (by decide) rfl ?_
      refine e_goto (t := 149) dX4_turnOf_77 (by decide) ?_
      refine e_iinc (lv' := [(4, .int _), (3, .int _), (0, .ref _), (1, .ref _), (2, .ref _), (5, .int _)]) 4 dX4_turnOf_149 rfl (by decide) rfl ?_
      refine e_goto (t := 5) dX4_turnOf_152 (by decide) ?_
      refine e_sub [2, 3, 4, 1, 0] rfl ?_
      exact hk5 _ _ _ _ _ _ hf
def f_X4_turnOf_L5 (L : eL) : Nat → (eH → Nat → Option (eH × Int32)) → eH → Nat → Nat → Nat → Int32 → Int32 → Option (eH × Int32)
  | 0, _, _, _, _, _, _, _ => none
  | n + 1, k155, h, v0, v1, v2, v3, v4 =>
    if isO L v0 4 = true then
    if (gI h v0 2) ≤ v4 then
      k155 h v0
    else
      if 40 ≤ v4 then
        k155 h v0
      else
        (gR h v0 0).bind fun b2 =>
        if inA L b2 0 v4 = true then
        if 0 ≤ (gI h b2 v4.toNatClampNeg) then
          f_X4_turnOf_J44 L (f_X4_turnOf_L5 L n k155) k155 h v0 v1 v2 v3 v4 (gI h b2 v4.toNatClampNeg)
        else
          if (f_X4_isThing (-(gI h b2 v4.toNatClampNeg))) = 0 then
            if (-(gI h b2 v4.toNatClampNeg)) = 126 then
              if v3 < 1 then
                f_X4_turnOf_L5 L n k155 h v0 v1 v2 v3 (v4 + Int32.ofInt 1)
              else
                (gR h v0 1).bind fun b25 =>
                (gR h v0 1).bind fun b27 =>
                if inA L b27 0 (v3 - 1) = true then
                if inA L b25 0 (v3 - 1) = true then
                (some (sI h b25 (v3 - 1).toNatClampNeg (-(gI h b27 (v3 - 1).toNatClampNeg)))).bind fun h31 =>
                f_X4_turnOf_L5 L n k155 h31 v0 v1 v2 v3 (v4 + Int32.ofInt 1)
                else none
                else none
            else
              if v3 < 2 then
                f_X4_turnOf_L5 L n k155 h v0 v1 v2 v3 (v4 + Int32.ofInt 1)
              else
                (gR h v0 1).bind fun b12 =>
                (gR h v0 1).bind fun b14 =>
                if inA L b14 0 ((v3 + Int32.ofInt (-1)) - 1) = true then
                (gR h v0 1).bind fun b17 =>
                if inA L b17 0 (v3 + Int32.ofInt (-1)) = true then
                (f_X4_reckoned (-(gI h b2 v4.toNatClampNeg)) (gI h b14 ((v3 + Int32.ofInt (-1)) - 1).toNatClampNeg) (gI h b17 (v3 + Int32.ofInt (-1)).toNatClampNeg)).bind fun r20 =>
                if inA L b12 0 ((v3 + Int32.ofInt (-1)) - 1) = true then
                (some (sI h b12 ((v3 + Int32.ofInt (-1)) - 1).toNatClampNeg r20)).bind fun h23 =>
                f_X4_turnOf_L5 L n k155 h23 v0 v1 v2 (v3 + Int32.ofInt (-1)) (v4 + Int32.ofInt 1)
                else none
                else none
                else none
          else
            f_X4_turnOf_J44 L (f_X4_turnOf_L5 L n k155) k155 h v0 v1 v2 v3 v4 (gI h b2 v4.toNatClampNeg)
        else none
    else none
set_option maxRecDepth 100000 in
set_option maxHeartbeats 4000000 in
theorem m_X4_turnOf_L5 {l : Launch} {d : Nat} {L : eL}  {r : eH × Int32} {k155 : eH → Nat → Option (eH × Int32)} (hd : 3 ≤ d) (hk155 : ∀ (h : eH) (v0 : Nat), k155 h v0 = some r → E l yX4_turnOf cX4_turnOf 6 (some .int) (e_rm d 0 0) 0 0 true L (Qx (some (.int r.2)) L r.1) L h 0 0 155 [(0, .ref v0)] []) : ∀ (n : Nat) (h : eH) (v0 : Nat) (v1 : Nat) (v2 : Nat) (v3 : Int32) (v4 : Int32), f_X4_turnOf_L5 L n k155 h v0 v1 v2 v3 v4 = some r → E l yX4_turnOf cX4_turnOf 6 (some .int) (e_rm d 0 0) 0 0 true L (Qx (some (.int r.2)) L r.1) L h 0 0 5 [(0, .ref v0), (1, .ref v1), (2, .ref v2), (3, .int v3), (4, .int v4)] [] := by
  intro n
  induction n with
  | zero => intro h v0 v1 v2 v3 v4 hf; exact absurd hf (by simp [f_X4_turnOf_L5])
  | succ n ih =>
    intro h v0 v1 v2 v3 v4 hf
    unfold f_X4_turnOf_L5 at hf
    refine e_iload 4 dX4_turnOf_5 rfl ?_
    refine e_aload_n 0 dX4_turnOf_7 rfl rfl ?_
    obtain ⟨hO1, hf⟩ := e_if hf
    refine e_getI hO1 fc_4_2 lk_RX4_16 dX4_turnOf_8 ?_
    refine e_icmp_ge (t := 155) dX4_turnOf_11 (by decide) (fun c => ?_) (fun c => ?_)
    · replace hf := e_it c hf
      refine e_sub [0] rfl ?_
      exact hk155 _ _ hf
    · replace hf := e_ie c hf
      refine e_iload 4 dX4_turnOf_14 rfl ?_
      refine e_bipush (v := 40) dX4_turnOf_16 (by decide) ?_
      refine e_icmp_ge (t := 155) dX4_turnOf_18 (by decide) (fun c => ?_) (fun c => ?_)
      · replace hf := e_it c hf
        refine e_sub [0] rfl ?_
        exact hk155 _ _ hf
      · replace hf := e_ie c hf
        refine e_aload_n 0 dX4_turnOf_21 rfl rfl ?_
        obtain ⟨b2, hb3, hf⟩ := e_bd hf
        refine e_getR hO1 fc_4_0 lk_RX4_9 dX4_turnOf_22 hb3 ?_
        refine e_iload 4 dX4_turnOf_25 rfl ?_
        obtain ⟨hI4, hf⟩ := e_if hf
        refine e_iald hI4 dX4_turnOf_27 ?_
        refine e_istore (lv' := [(5, .int _), (0, .ref _), (1, .ref _), (2, .ref _), (3, .int _), (4, .int _)]) dX4_turnOf_28 (by decide) rfl ?_
        refine e_iload 0 dX4_turnOf_30 rfl ?_
        refine e_if_ge (t := 44) dX4_turnOf_32 (by decide) (fun c => ?_) (fun c => ?_)
        · replace hf := e_it c hf
          refine e_sub [1, 2, 3, 4, 5, 0] rfl ?_
          exact m_X4_turnOf_J44 hd ih hk155 _ _ _ _ _ _ _ hf
        · replace hf := e_ie c hf
          refine e_iload 0 dX4_turnOf_35 rfl ?_
          refine e_ineg dX4_turnOf_37 ?_
          refine e_callS (st := []) ml_RX4_24 k_X4_isThing (m_X4_isThing (d := d - 1) (by omega) rfl) rfl rfl (Nat.le_of_ble_eq_true rfl) ⟨by omega, by decide⟩ ⟨Nat.le_refl _, Nat.le_refl _⟩ dX4_turnOf_38 ?_
          refine e_if_eq (t := 80) dX4_turnOf_41 (by decide) (fun c => ?_) (fun c => ?_)
          · replace hf := e_it c hf
            refine e_iload 0 dX4_turnOf_80 rfl ?_
            refine e_ineg dX4_turnOf_82 ?_
            refine e_bipush (v := 126) dX4_turnOf_83 (by decide) ?_
            refine e_icmp_ne (t := 113) dX4_turnOf_85 (by decide) (fun c => ?_) (fun c => ?_)
            · replace hf := e_ie c hf
              refine e_iload_n 4 dX4_turnOf_113 rfl rfl ?_
              refine e_iconst (v := 2) dX4_turnOf_114 (by decide) ?_
              refine e_icmp_lt (t := 149) dX4_turnOf_115 (by decide) (fun c => ?_) (fun c => ?_)
              · replace hf := e_it c hf
                refine e_iinc (lv' := [(4, .int _), (5, .int _), (0, .ref _), (1, .ref _), (2, .ref _), (3, .int _)]) 5 dX4_turnOf_149 rfl (by decide) rfl ?_
                refine e_goto (t := 5) dX4_turnOf_152 (by decide) ?_
                refine e_sub [2, 3, 4, 5, 0] rfl ?_
                exact ih _ _ _ _ _ _ hf
              · replace hf := e_ie c hf
                refine e_iinc (lv' := [(3, .int _), (5, .int _), (0, .ref _), (1, .ref _), (2, .ref _), (4, .int _)]) 4 dX4_turnOf_118 rfl (by decide) rfl ?_
                refine e_aload_n 2 dX4_turnOf_121 rfl rfl ?_
                obtain ⟨b12, hb13, hf⟩ := e_bd hf
                refine e_getR hO1 fc_4_1 lk_RX4_13 dX4_turnOf_122 hb13 ?_
                refine e_iload_n 0 dX4_turnOf_125 rfl rfl ?_
                refine e_iconst (v := 1) dX4_turnOf_126 (by decide) ?_
                refine e_isub dX4_turnOf_127 ?_
                refine e_iload 1 dX4_turnOf_128 rfl ?_
                refine e_ineg dX4_turnOf_130 ?_
                refine e_aload_n 2 dX4_turnOf_131 rfl rfl ?_
                obtain ⟨b14, hb15, hf⟩ := e_bd hf
                refine e_getR hO1 fc_4_1 lk_RX4_13 dX4_turnOf_132 hb15 ?_
                refine e_iload_n 0 dX4_turnOf_135 rfl rfl ?_
                refine e_iconst (v := 1) dX4_turnOf_136 (by decide) ?_
                refine e_isub dX4_turnOf_137 ?_
                obtain ⟨hI16, hf⟩ := e_if hf
                refine e_iald hI16 dX4_turnOf_138 ?_
                refine e_aload_n 2 dX4_turnOf_139 rfl rfl ?_
                obtain ⟨b17, hb18, hf⟩ := e_bd hf
                refine e_getR hO1 fc_4_1 lk_RX4_13 dX4_turnOf_140 hb18 ?_
                refine e_iload_n 0 dX4_turnOf_143 rfl rfl ?_
                obtain ⟨hI19, hf⟩ := e_if hf
                refine e_iald hI19 dX4_turnOf_144 ?_
                obtain ⟨r20, hr21, hf⟩ := e_bd hf
                refine e_callS (st := [.int _, .ref _]) ml_RX4_32 k_X4_reckoned (m_X4_reckoned (d := d - 1) (by omega) hr21) rfl rfl (Nat.le_of_ble_eq_true rfl) ⟨by omega, by decide⟩ ⟨Nat.le_refl _, Nat.le_refl _⟩ dX4_turnOf_145 ?_
                obtain ⟨hI22, hf⟩ := e_if hf
                refine e_iast hI22 dX4_turnOf_148 ?_
                obtain ⟨h23, hh24, hf⟩ := e_bd hf
                refine e_hn hh24 ?_
                refine e_iinc (lv' := [(4, .int _), (3, .int _), (5, .int _), (0, .ref _), (1, .ref _), (2, .ref _)]) 5 dX4_turnOf_149 rfl (by decide) rfl ?_
                refine e_goto (t := 5) dX4_turnOf_152 (by decide) ?_
                refine e_sub [3, 4, 5, 1, 0] rfl ?_
                exact ih _ _ _ _ _ _ hf
            · replace hf := e_it c hf
              refine e_iload_n 4 dX4_turnOf_88 rfl rfl ?_
              refine e_iconst (v := 1) dX4_turnOf_89 (by decide) ?_
              refine e_icmp_lt (t := 149) dX4_turnOf_90 (by decide) (fun c => ?_) (fun c => ?_)
              · replace hf := e_it c hf
                refine e_iinc (lv' := [(4, .int _), (5, .int _), (0, .ref _), (1, .ref _), (2, .ref _), (3, .int _)]) 5 dX4_turnOf_149 rfl (by decide) rfl ?_
                refine e_goto (t := 5) dX4_turnOf_152 (by decide) ?_
                refine e_sub [2, 3, 4, 5, 0] rfl ?_
                exact ih _ _ _ _ _ _ hf
              · replace hf := e_ie c hf
                refine e_aload_n 1 dX4_turnOf_93 rfl rfl ?_
                obtain ⟨b25, hb26, hf⟩ := e_bd hf
                refine e_getR hO1 fc_4_1 lk_RX4_13 dX4_turnOf_94 hb26 ?_
                refine e_iload_n 4 dX4_turnOf_97 rfl rfl ?_
                refine e_iconst (v := 1) dX4_turnOf_98 (by decide) ?_
                refine e_isub dX4_turnOf_99 ?_
                refine e_aload_n 1 dX4_turnOf_100 rfl rfl ?_
                obtain ⟨b27, hb28, hf⟩ := e_bd hf
                refine e_getR hO1 fc_4_1 lk_RX4_13 dX4_turnOf_101 hb28 ?_
                refine e_iload_n 4 dX4_turnOf_104 rfl rfl ?_
                refine e_iconst (v := 1) dX4_turnOf_105 (by decide) ?_
                refine e_isub dX4_turnOf_106 ?_
                obtain ⟨hI29, hf⟩ := e_if hf
                refine e_iald hI29 dX4_turnOf_107 ?_
                refine e_ineg dX4_turnOf_108 ?_
                obtain ⟨hI30, hf⟩ := e_if hf
                refine e_iast hI30 dX4_turnOf_109 ?_
                obtain ⟨h31, hh32, hf⟩ := e_bd hf
                refine e_hn hh32 ?_
                refine e_goto (t := 149) dX4_turnOf_110 (by decide) ?_
                refine e_iinc (lv' := [(4, .int _), (5, .int _), (0, .ref _), (1, .ref _), (2, .ref _), (3, .int _)]) 5 dX4_turnOf_149 rfl (by decide) rfl ?_
                refine e_goto (t := 5) dX4_turnOf_152 (by decide) ?_
                refine e_sub [2, 3, 4, 5, 0] rfl ?_
                exact ih _ _ _ _ _ _ hf
          · replace hf := e_ie c hf
            refine e_sub [1, 2, 3, 4, 5, 0] rfl ?_
            exact m_X4_turnOf_J44 hd ih hk155 _ _ _ _ _ _ _ hf
def f_X4_turnOf_J174 (L : eL) (h : eH) (s0 : Int32) : Option (eH × Int32) :=
  if 0 ≤ s0 then
    some (h, s0)
  else
    some (h, s0 + 4)
set_option maxRecDepth 100000 in
set_option maxHeartbeats 4000000 in
theorem m_X4_turnOf_J174 {l : Launch} {d : Nat} {L : eL}  {r : eH × Int32} (hd : 3 ≤ d)  : ∀ (h : eH) (s0 : Int32), f_X4_turnOf_J174 L h s0 = some r → E l yX4_turnOf cX4_turnOf 6 (some .int) (e_rm d 0 0) 0 0 true L (Qx (some (.int r.2)) L r.1) L h 0 0 174 [] [.int s0] := by
  intro h s0 hf
  unfold f_X4_turnOf_J174 at hf
  refine e_istore (lv' := [(4, .int _)]) dX4_turnOf_174 (by decide) rfl ?_
  refine e_iload 0 dX4_turnOf_176 rfl ?_
  refine e_if_ge (t := 188) dX4_turnOf_178 (by decide) (fun c => ?_) (fun c => ?_)
  · replace hf := e_it c hf
    refine e_iload 0 dX4_turnOf_188 rfl ?_
    exact e_iret rfl dX4_turnOf_190 (qW hf)
  · replace hf := e_ie c hf
    refine e_iload 0 dX4_turnOf_181 rfl ?_
    refine e_iconst (v := 4) dX4_turnOf_183 (by decide) ?_
    refine e_iadd dX4_turnOf_184 ?_
    refine e_goto (t := 190) dX4_turnOf_185 (by decide) ?_
    exact e_iret rfl dX4_turnOf_190 (qW hf)
def f_X4_turnOf_J155 (L : eL) (h : eH) (v0 : Nat) : Option (eH × Int32) :=
  if isO L v0 4 = true then
  if (gI h v0 2) = 0 then
    f_X4_turnOf_J174 L h 1
  else
    (gR h v0 1).bind fun b36 =>
    if inA L b36 0 0 = true then
    f_X4_turnOf_J174 L h ((gI h b36 (0 : Int32).toNatClampNeg) - (gI h b36 (0 : Int32).toNatClampNeg) / 4 * 4)
    else none
  else none
set_option maxRecDepth 100000 in
set_option maxHeartbeats 4000000 in
theorem m_X4_turnOf_J155 {l : Launch} {d : Nat} {L : eL}  {r : eH × Int32} (hd : 3 ≤ d)  : ∀ (h : eH) (v0 : Nat), f_X4_turnOf_J155 L h v0 = some r → E l yX4_turnOf cX4_turnOf 6 (some .int) (e_rm d 0 0) 0 0 true L (Qx (some (.int r.2)) L r.1) L h 0 0 155 [(0, .ref v0)] [] := by
  intro h v0 hf
  unfold f_X4_turnOf_J155 at hf
  refine e_aload_n 0 dX4_turnOf_155 rfl rfl ?_
  obtain ⟨hO35, hf⟩ := e_if hf
  refine e_getI hO35 fc_4_2 lk_RX4_16 dX4_turnOf_156 ?_
  refine e_if_ne (t := 166) dX4_turnOf_159 (by decide) (fun c => ?_) (fun c => ?_)
  · replace hf := e_ie c hf
    refine e_aload_n 0 dX4_turnOf_166 rfl rfl ?_
    obtain ⟨b36, hb37, hf⟩ := e_bd hf
    refine e_getR hO35 fc_4_1 lk_RX4_13 dX4_turnOf_167 hb37 ?_
    refine e_iconst (v := 0) dX4_turnOf_170 (by decide) ?_
    obtain ⟨hI38, hf⟩ := e_if hf
    refine e_iald hI38 dX4_turnOf_171 ?_
    refine e_iconst (v := 4) dX4_turnOf_172 (by decide) ?_
    refine e_irem dX4_turnOf_173 (by decide) ?_
    refine e_sub [] rfl ?_
    exact m_X4_turnOf_J174 hd _ _ hf
  · replace hf := e_it c hf
    refine e_iconst (v := 1) dX4_turnOf_162 (by decide) ?_
    refine e_goto (t := 174) dX4_turnOf_163 (by decide) ?_
    refine e_sub [] rfl ?_
    exact m_X4_turnOf_J174 hd _ _ hf
def f_X4_turnOf (L : eL) (h : eH) (v0 : Nat) (v1 : Nat) (v2 : Nat) : Option (eH × Int32) :=
  f_X4_turnOf_L5 L e_fu (fun (h33 : eH) (w0_34 : Nat) =>
    f_X4_turnOf_J155 L h33 w0_34) h v0 v1 v2 0 0
set_option maxRecDepth 100000 in
set_option maxHeartbeats 4000000 in
theorem m_X4_turnOf {l : Launch} {d : Nat} {L : eL} {h : eH} {v0 : Nat} {v1 : Nat} {v2 : Nat} {r : eH × Int32} (hd : 3 ≤ d) (hf : f_X4_turnOf L h v0 v1 v2 = some r) : e_Met l yX4_turnOf cX4_turnOf 6 (some .int) d 0 0 true L h [.ref v0, .ref v1, .ref v2] (Qx (some (.int r.2)) L r.1) := by
  refine e_metl (by decide) (Nat.le_of_ble_eq_true rfl) (lv := [(0, .ref v0), (1, .ref v1), (2, .ref v2)]) rfl ?_
  unfold f_X4_turnOf at hf
  refine e_iconst (v := 0) dX4_turnOf_0 (by decide) ?_
  refine e_istore_n (lv' := [(3, .int _), (0, .ref _), (1, .ref _), (2, .ref _)]) dX4_turnOf_1 rfl (by decide) rfl ?_
  refine e_iconst (v := 0) dX4_turnOf_2 (by decide) ?_
  refine e_istore (lv' := [(4, .int _), (3, .int _), (0, .ref _), (1, .ref _), (2, .ref _)]) dX4_turnOf_3 (by decide) rfl ?_
  refine e_sub [2, 3, 4, 1, 0] rfl ?_
  refine m_X4_turnOf_L5 hd ?_ e_fu _ _ _ _ _ _ hf
  · intro h33 w0_34 hf
    exact m_X4_turnOf_J155 hd _ _ hf
def f_X6_turnBy (L : eL) (h : eH) (v0 : Nat) (v1 : Int32) : Option eH :=
  if isO L v0 6 = true then
  some (sI h v0 2 (((gI h v0 2) + v1) &&& 3))
  else none
set_option maxRecDepth 100000 in
set_option maxHeartbeats 4000000 in
theorem m_X6_turnBy {l : Launch} {d : Nat} {L : eL} {h : eH} {v0 : Nat} {v1 : Int32} {r : eH} (hd : 1 ≤ d) (hf : f_X6_turnBy L h v0 v1 = some r) : e_Met l yX6_turnBy cX6_turnBy 2 none d 0 0 true L h [.ref v0, .int v1] (Qx none L r) := by
  refine e_metl (by decide) (Nat.le_of_ble_eq_true rfl) (lv := [(0, .ref v0), (1, .int v1)]) rfl ?_
  unfold f_X6_turnBy at hf
  refine e_aload_n 0 dX6_turnBy_0 rfl rfl ?_
  refine e_aload_n 0 dX6_turnBy_1 rfl rfl ?_
  obtain ⟨hO1, hf⟩ := e_if hf
  refine e_getI hO1 fc_6_2 lk_RX6_19 dX6_turnBy_2 ?_
  refine e_iload_n 1 dX6_turnBy_5 rfl rfl ?_
  refine e_iadd dX6_turnBy_6 ?_
  refine e_iconst (v := 3) dX6_turnBy_7 (by decide) ?_
  refine e_iand dX6_turnBy_8 ?_
  refine e_putI hO1 fc_6_2 rfl lk_RX6_19 dX6_turnBy_9 ?_
  exact e_vret rfl dX6_turnBy_12 (qV hf)
def f_X6_strike (L : eL) (h : eH) (v0 : Nat) (v1 : Int32) : Option eH :=
  if isO L v0 6 = true then
  (f_X6_turnBy L h v0 v1).bind fun r2 =>
  some (sI r2 v0 6 ((gI r2 v0 6) + 1))
  else none
set_option maxRecDepth 100000 in
set_option maxHeartbeats 4000000 in
theorem m_X6_strike {l : Launch} {d : Nat} {L : eL} {h : eH} {v0 : Nat} {v1 : Int32} {r : eH} (hd : 2 ≤ d) (hf : f_X6_strike L h v0 v1 = some r) : e_Met l yX6_strike cX6_strike 2 none d 0 0 true L h [.ref v0, .int v1] (Qx none L r) := by
  refine e_metl (by decide) (Nat.le_of_ble_eq_true rfl) (lv := [(0, .ref v0), (1, .int v1)]) rfl ?_
  unfold f_X6_strike at hf
  refine e_aload_n 0 dX6_strike_0 rfl rfl ?_
  refine e_iload_n 1 dX6_strike_1 rfl rfl ?_
  obtain ⟨hO1, hf⟩ := e_if hf
  obtain ⟨r2, hr3, hf⟩ := e_bd hf
  refine e_callV (st := []) ml_RX6_89 k_X6_turnBy (m_X6_turnBy (d := d - 1) (by omega) hr3) hO1 ⟨by decide, rfl⟩ rfl rfl (Nat.le_of_ble_eq_true rfl) ⟨by omega, by decide⟩ ⟨Nat.le_refl _, Nat.le_refl _⟩ dX6_strike_2 ?_
  refine e_aload_n 0 dX6_strike_5 rfl rfl ?_
  refine e_dupR dX6_strike_6 ?_
  refine e_getI hO1 fc_6_6 lk_RX6_31 dX6_strike_7 ?_
  refine e_iconst (v := 1) dX6_strike_10 (by decide) ?_
  refine e_iadd dX6_strike_11 ?_
  refine e_putI hO1 fc_6_6 rfl lk_RX6_31 dX6_strike_12 ?_
  exact e_vret rfl dX6_strike_15 (qV hf)
def f_X10_goOn_J19 (L : eL) (h : eH) (v0 : Nat) (v1 : Nat) (v3 : Int32) (s0 : Int32) : Option (eH × Int32) :=
  if isO L v1 6 = true then
  if s0 ≤ (gI h v1 3) then
    (some (sI (sI h v1 3 ((gI h v1 3) - s0)) v1 5 ((gI (sI h v1 3 ((gI h v1 3) - s0)) v1 5) + 1))).bind fun h2 =>
    if isO L v0 10 = true then
    (gR h2 v0 15).bind fun b5 =>
    if isO L b5 2 = true then
    (f_X2_aheadOf L h2 b5 (gI h2 v1 1) (gI h2 v1 2)).bind fun r8 =>
    (gR h2 v0 15).bind fun b10 =>
    if isO L b10 2 = true then
    if (f_X10_holds ((gL h2 b10 4) &&& ((gL h2 v1 8) ^^^ (-1))) r8) = 0 then
      if v3 = (-1) then
        (gR h2 v0 17).bind fun b15 =>
        (gR h2 v0 15).bind fun b17 =>
        if isO L b15 4 = true then
        (f_X4_turnOf L h2 b15 v1 b17).bind fun r20 =>
        (f_X6_strike L r20.1 v1 r20.2).bind fun r22 =>
        some (r22, 1)
        else none
      else
        (f_X6_strike L h2 v1 v3).bind fun r13 =>
        some (r13, 1)
    else
      (f_X6_enter L h2 v1 r8).bind fun r24 =>
      some (r24, 1)
    else none
    else none
    else none
  else
    some (h, 0)
  else none
set_option maxRecDepth 100000 in
set_option maxHeartbeats 4000000 in
theorem m_X10_goOn_J19 {l : Launch} {d : Nat} {L : eL}  {r : eH × Int32} (hd : 4 ≤ d)  : ∀ (h : eH) (v0 : Nat) (v1 : Nat) (v3 : Int32) (s0 : Int32), f_X10_goOn_J19 L h v0 v1 v3 s0 = some r → E l yX10_goOn cX10_goOn 6 (some .boolean) (e_rm d 0 0) 0 0 true L (Qx (some (.int r.2)) L r.1) L h 0 0 19 [(0, .ref v0), (1, .ref v1), (3, .int v3)] [.int s0] := by
  intro h v0 v1 v3 s0 hf
  unfold f_X10_goOn_J19 at hf
  refine e_istore (lv' := [(4, .int _), (0, .ref _), (1, .ref _), (3, .int _)]) dX10_goOn_19 (by decide) rfl ?_
  refine e_aload_n 2 dX10_goOn_21 rfl rfl ?_
  obtain ⟨hO1, hf⟩ := e_if hf
  refine e_getIN hO1 fc_6_3 lk_RX10_195 dX10_goOn_22 ?_
  refine e_iload 0 dX10_goOn_25 rfl ?_
  refine e_icmp_ge (t := 32) dX10_goOn_27 (by decide) (fun c => ?_) (fun c => ?_)
  · replace hf := e_it c hf
    refine e_aload_n 2 dX10_goOn_32 rfl rfl ?_
    refine e_dupR dX10_goOn_33 ?_
    refine e_getIN hO1 fc_6_3 lk_RX10_195 dX10_goOn_34 ?_
    refine e_iload 0 dX10_goOn_37 rfl ?_
    refine e_isub dX10_goOn_39 ?_
    refine e_putIN hO1 fc_6_3 rfl lk_RX10_195 dX10_goOn_40 ?_
    refine e_aload_n 2 dX10_goOn_43 rfl rfl ?_
    refine e_dupR dX10_goOn_44 ?_
    refine e_getIN hO1 fc_6_5 lk_RX10_201 dX10_goOn_45 ?_
    refine e_iconst (v := 1) dX10_goOn_48 (by decide) ?_
    refine e_iadd dX10_goOn_49 ?_
    refine e_putIN hO1 fc_6_5 rfl lk_RX10_201 dX10_goOn_50 ?_
    obtain ⟨h2, hh3, hf⟩ := e_bd hf
    refine e_hn hh3 ?_
    refine e_aload_n 1 dX10_goOn_53 rfl rfl ?_
    obtain ⟨hO4, hf⟩ := e_if hf
    obtain ⟨b5, hb6, hf⟩ := e_bd hf
    refine e_getR hO4 fc_10_15 lk_RX10_92 dX10_goOn_54 hb6 ?_
    refine e_aload_n 2 dX10_goOn_57 rfl rfl ?_
    refine e_getIN hO1 fc_6_1 lk_RX10_183 dX10_goOn_58 ?_
    refine e_aload_n 2 dX10_goOn_61 rfl rfl ?_
    refine e_getIN hO1 fc_6_2 lk_RX10_192 dX10_goOn_62 ?_
    obtain ⟨hO7, hf⟩ := e_if hf
    obtain ⟨r8, hr9, hf⟩ := e_bd hf
    refine e_callV (st := []) ml_RX10_211 k_X2_aheadOf (m_X2_aheadOf (d := d - 1) (by omega) hr9) hO7 ⟨by decide, rfl⟩ rfl rfl (Nat.le_of_ble_eq_true rfl) ⟨by omega, by decide⟩ ⟨Nat.le_refl _, Nat.le_refl _⟩ dX10_goOn_65 ?_
    refine e_istore (lv' := [(5, .int _), (4, .int _), (0, .ref _), (1, .ref _), (3, .int _)]) dX10_goOn_68 (by decide) rfl ?_
    refine e_aload_n 2 dX10_goOn_70 rfl rfl ?_
    obtain ⟨b10, hb11, hf⟩ := e_bd hf
    refine e_getR hO4 fc_10_15 lk_RX10_92 dX10_goOn_71 hb11 ?_
    obtain ⟨hO12, hf⟩ := e_if hf
    refine e_getLN hO12 fc_2_4 lk_RX10_128 dX10_goOn_74 ?_
    refine e_aload_n 3 dX10_goOn_77 rfl rfl ?_
    refine e_getLN hO1 fc_6_8 lk_RX10_166 dX10_goOn_78 ?_
    refine e_ldc2 kc_RX10_305 dX10_goOn_81 ?_
    refine e_lxor dX10_goOn_84 ?_
    refine e_land dX10_goOn_85 ?_
    refine e_iload 0 dX10_goOn_86 rfl ?_
    refine e_callS (st := []) ml_RX10_169 k_X10_holds (m_X10_holds (d := d - 1) (by omega) rfl) rfl rfl (Nat.le_of_ble_eq_true rfl) ⟨by omega, by decide⟩ ⟨Nat.le_refl _, Nat.le_refl _⟩ dX10_goOn_88 ?_
    refine e_if_eq (t := 103) dX10_goOn_91 (by decide) (fun c => ?_) (fun c => ?_)
    · replace hf := e_it c hf
      refine e_aload_n 3 dX10_goOn_103 rfl rfl ?_
      refine e_iload_n 4 dX10_goOn_104 rfl rfl ?_
      refine e_iconst (v := (-1)) dX10_goOn_105 (by decide) ?_
      refine e_icmp_ne (t := 124) dX10_goOn_106 (by decide) (fun c => ?_) (fun c => ?_)
      · replace hf := e_ie c hf
        refine e_iload_n 4 dX10_goOn_124 rfl rfl ?_
        obtain ⟨r13, hr14, hf⟩ := e_bd hf
        refine e_callV (st := []) ml_RX10_310 k_X6_strike (m_X6_strike (d := d - 1) (by omega) hr14) hO1 ⟨by decide, rfl⟩ rfl rfl (Nat.le_of_ble_eq_true rfl) ⟨by omega, by decide⟩ ⟨Nat.le_refl _, Nat.le_refl _⟩ dX10_goOn_125 ?_
        refine e_iconst (v := 1) dX10_goOn_128 (by decide) ?_
        exact e_zret (ty := .boolean) rfl rfl dX10_goOn_129 (qW hf)
      · replace hf := e_it c hf
        refine e_aload_n 2 dX10_goOn_109 rfl rfl ?_
        obtain ⟨b15, hb16, hf⟩ := e_bd hf
        refine e_getR hO4 fc_10_17 lk_RX10_102 dX10_goOn_110 hb16 ?_
        refine e_aload_n 3 dX10_goOn_113 rfl rfl ?_
        refine e_aload_n 2 dX10_goOn_114 rfl rfl ?_
        obtain ⟨b17, hb18, hf⟩ := e_bd hf
        refine e_getR hO4 fc_10_15 lk_RX10_92 dX10_goOn_115 hb18 ?_
        obtain ⟨hO19, hf⟩ := e_if hf
        obtain ⟨r20, hr21, hf⟩ := e_bd hf
        refine e_callV (st := [.ref _]) ml_RX10_207 k_X4_turnOf (m_X4_turnOf (d := d - 1) (by omega) hr21) hO19 ⟨by decide, rfl⟩ rfl rfl (Nat.le_of_ble_eq_true rfl) ⟨by omega, by decide⟩ ⟨Nat.le_refl _, Nat.le_refl _⟩ dX10_goOn_118 ?_
        refine e_goto (t := 125) dX10_goOn_121 (by decide) ?_
        obtain ⟨r22, hr23, hf⟩ := e_bd hf
        refine e_callV (st := []) ml_RX10_310 k_X6_strike (m_X6_strike (d := d - 1) (by omega) hr23) hO1 ⟨by decide, rfl⟩ rfl rfl (Nat.le_of_ble_eq_true rfl) ⟨by omega, by decide⟩ ⟨Nat.le_refl _, Nat.le_refl _⟩ dX10_goOn_125 ?_
        refine e_iconst (v := 1) dX10_goOn_128 (by decide) ?_
        exact e_zret (ty := .boolean) rfl rfl dX10_goOn_129 (qW hf)
    · replace hf := e_ie c hf
      refine e_aload_n 3 dX10_goOn_94 rfl rfl ?_
      refine e_iload 0 dX10_goOn_95 rfl ?_
      obtain ⟨r24, hr25, hf⟩ := e_bd hf
      refine e_callV (st := []) ml_RX10_307 k_X6_enter (m_X6_enter (d := d - 1) (by omega) hr25) hO1 ⟨by decide, rfl⟩ rfl rfl (Nat.le_of_ble_eq_true rfl) ⟨by omega, by decide⟩ ⟨Nat.le_refl _, Nat.le_refl _⟩ dX10_goOn_97 ?_
      refine e_goto (t := 128) dX10_goOn_100 (by decide) ?_
      refine e_iconst (v := 1) dX10_goOn_128 (by decide) ?_
      exact e_zret (ty := .boolean) rfl rfl dX10_goOn_129 (qW hf)
  · replace hf := e_ie c hf
    refine e_iconst (v := 0) dX10_goOn_30 (by decide) ?_
    exact e_zret (ty := .boolean) rfl rfl dX10_goOn_31 (qW hf)
def f_X10_goOn (L : eL) (h : eH) (v0 : Nat) (v1 : Nat) (v2 : Int32) (v3 : Int32) : Option (eH × Int32) :=
  if v2 = 0 then
    f_X10_goOn_J19 L h v0 v1 v3 0
  else
    if isO L v0 10 = true then
    (gR h v0 15).bind fun b27 =>
    if isO L v1 6 = true then
    if isO L b27 2 = true then
    (f_X2_costFrom L h b27 (gI h v1 1)).bind fun r31 =>
    f_X10_goOn_J19 L h v0 v1 v3 r31
    else none
    else none
    else none
set_option maxRecDepth 100000 in
set_option maxHeartbeats 4000000 in
theorem m_X10_goOn {l : Launch} {d : Nat} {L : eL} {h : eH} {v0 : Nat} {v1 : Nat} {v2 : Int32} {v3 : Int32} {r : eH × Int32} (hd : 4 ≤ d) (hf : f_X10_goOn L h v0 v1 v2 v3 = some r) : e_Met l yX10_goOn cX10_goOn 6 (some .boolean) d 0 0 true L h [.ref v0, .ref v1, .int v2, .int v3] (Qx (some (.int r.2)) L r.1) := by
  refine e_metl (by decide) (Nat.le_of_ble_eq_true rfl) (lv := [(0, .ref v0), (1, .ref v1), (2, .int v2), (3, .int v3)]) rfl ?_
  unfold f_X10_goOn at hf
  refine e_iload_n 2 dX10_goOn_0 rfl rfl ?_
  refine e_if_eq (t := 18) dX10_goOn_1 (by decide) (fun c => ?_) (fun c => ?_)
  · replace hf := e_it c hf
    refine e_iconst (v := 0) dX10_goOn_18 (by decide) ?_
    refine e_sub [0, 1, 3] rfl ?_
    exact m_X10_goOn_J19 hd _ _ _ _ _ hf
  · replace hf := e_ie c hf
    refine e_aload_n 0 dX10_goOn_4 rfl rfl ?_
    obtain ⟨hO26, hf⟩ := e_if hf
    obtain ⟨b27, hb28, hf⟩ := e_bd hf
    refine e_getR hO26 fc_10_15 lk_RX10_92 dX10_goOn_5 hb28 ?_
    refine e_aload_n 1 dX10_goOn_8 rfl rfl ?_
    obtain ⟨hO29, hf⟩ := e_if hf
    refine e_getIN hO29 fc_6_1 lk_RX10_183 dX10_goOn_9 ?_
    obtain ⟨hO30, hf⟩ := e_if hf
    obtain ⟨r31, hr32, hf⟩ := e_bd hf
    refine e_callV (st := []) ml_RX10_302 k_X2_costFrom (m_X2_costFrom (d := d - 1) (by omega) hr32) hO30 ⟨by decide, rfl⟩ rfl rfl (Nat.le_of_ble_eq_true rfl) ⟨by omega, by decide⟩ ⟨Nat.le_refl _, Nat.le_refl _⟩ dX10_goOn_12 ?_
    refine e_goto (t := 19) dX10_goOn_15 (by decide) ?_
    refine e_sub [0, 1, 3] rfl ?_
    exact m_X10_goOn_J19 hd _ _ _ _ _ hf
def f_X3_begin (L : eL) (h : eH) (v0 : Nat) : Option eH :=
  if isO L v0 3 = true then
  some (sI h v0 1 0)
  else none
set_option maxRecDepth 100000 in
set_option maxHeartbeats 4000000 in
theorem m_X3_begin {l : Launch} {d : Nat} {L : eL} {h : eH} {v0 : Nat} {r : eH} (hd : 1 ≤ d) (hf : f_X3_begin L h v0 = some r) : e_Met l yX3_begin cX3_begin 1 none d 0 0 true L h [.ref v0] (Qx none L r) := by
  refine e_metl (by decide) (Nat.le_of_ble_eq_true rfl) (lv := [(0, .ref v0)]) rfl ?_
  unfold f_X3_begin at hf
  refine e_aload_n 0 dX3_begin_0 rfl rfl ?_
  refine e_iconst (v := 0) dX3_begin_1 (by decide) ?_
  obtain ⟨hO1, hf⟩ := e_if hf
  refine e_putI hO1 fc_3_1 rfl lk_RX3_15 dX3_begin_2 ?_
  exact e_vret rfl dX3_begin_5 (qV hf)
def f_X3_add (L : eL) (h : eH) (v0 : Nat) (v1 : Int64) : Option eH :=
  if isO L v0 3 = true then
  if (gI h v0 1) < 0 then
    some h
  else
    if 37 ≤ (gI h v0 1) then
      some h
    else
      (gR h v0 0).bind fun b2 =>
      if inA L b2 1 (gI h v0 1) = true then
      (some (sI (sL h b2 (gI h v0 1).toNatClampNeg v1) v0 1 ((gI (sL h b2 (gI h v0 1).toNatClampNeg v1) v0 1) + 1))).bind fun h5 =>
      some h5
      else none
  else none
set_option maxRecDepth 100000 in
set_option maxHeartbeats 4000000 in
theorem m_X3_add {l : Launch} {d : Nat} {L : eL} {h : eH} {v0 : Nat} {v1 : Int64} {r : eH} (hd : 1 ≤ d) (hf : f_X3_add L h v0 v1 = some r) : e_Met l yX3_add cX3_add 3 none d 0 0 true L h [.ref v0, .long v1] (Qx none L r) := by
  refine e_metl (by decide) (Nat.le_of_ble_eq_true rfl) (lv := [(0, .ref v0), (1, .long v1)]) rfl ?_
  unfold f_X3_add at hf
  refine e_aload_n 0 dX3_add_0 rfl rfl ?_
  obtain ⟨hO1, hf⟩ := e_if hf
  refine e_getI hO1 fc_3_1 lk_RX3_15 dX3_add_1 ?_
  refine e_if_lt (t := 36) dX3_add_4 (by decide) (fun c => ?_) (fun c => ?_)
  · replace hf := e_it c hf
    exact e_vret rfl dX3_add_36 (qV hf)
  · replace hf := e_ie c hf
    refine e_aload_n 0 dX3_add_7 rfl rfl ?_
    refine e_getI hO1 fc_3_1 lk_RX3_15 dX3_add_8 ?_
    refine e_bipush (v := 37) dX3_add_11 (by decide) ?_
    refine e_icmp_ge (t := 36) dX3_add_13 (by decide) (fun c => ?_) (fun c => ?_)
    · replace hf := e_it c hf
      exact e_vret rfl dX3_add_36 (qV hf)
    · replace hf := e_ie c hf
      refine e_aload_n 0 dX3_add_16 rfl rfl ?_
      obtain ⟨b2, hb3, hf⟩ := e_bd hf
      refine e_getR hO1 fc_3_0 lk_RX3_11 dX3_add_17 hb3 ?_
      refine e_aload_n 0 dX3_add_20 rfl rfl ?_
      refine e_getI hO1 fc_3_1 lk_RX3_15 dX3_add_21 ?_
      refine e_lload_n 1 dX3_add_24 rfl rfl ?_
      obtain ⟨hI4, hf⟩ := e_if hf
      refine e_last hI4 dX3_add_25 ?_
      refine e_aload_n 0 dX3_add_26 rfl rfl ?_
      refine e_dupR dX3_add_27 ?_
      refine e_getI hO1 fc_3_1 lk_RX3_15 dX3_add_28 ?_
      refine e_iconst (v := 1) dX3_add_31 (by decide) ?_
      refine e_iadd dX3_add_32 ?_
      refine e_putI hO1 fc_3_1 rfl lk_RX3_15 dX3_add_33 ?_
      obtain ⟨h5, hh6, hf⟩ := e_bd hf
      refine e_hn hh6 ?_
      exact e_vret rfl dX3_add_36 (qV hf)
def f_X10_takeSteps_L35 (L : eL) : Nat → (eH → Nat → Int32 → Int32 → Int32 → Option (eH × Int32)) → eH → Nat → Int32 → Int32 → Int32 → Int32 → Int32 → Option (eH × Int32)
  | 0, _, _, _, _, _, _, _, _ => none
  | n + 1, k63, h, v0, v1, v2, v3, v4, v5 =>
    if v1 ≤ v5 then
      k63 h v0 v2 v3 v4
    else
      if isO L v0 10 = true then
      (gR h v0 7).bind fun b9 =>
      (f_X10_goOn L h v0 b9 1 (-1)).bind fun r11 =>
      if r11.2 = 0 then
        k63 r11.1 v0 v2 v3 v4
      else
        f_X10_takeSteps_L35 L n k63 r11.1 v0 v1 v2 v3 (v4 + Int32.ofInt 1) (v5 + Int32.ofInt 1)
      else none
set_option maxRecDepth 100000 in
set_option maxHeartbeats 4000000 in
theorem m_X10_takeSteps_L35 {l : Launch} {d : Nat} {L : eL}  {r : eH × Int32} {k63 : eH → Nat → Int32 → Int32 → Int32 → Option (eH × Int32)} (hd : 5 ≤ d) (hk63 : ∀ (h : eH) (v0 : Nat) (v2 : Int32) (v3 : Int32) (v4 : Int32), k63 h v0 v2 v3 v4 = some r → E l yX10_takeSteps cX10_takeSteps 6 (some .int) (e_rm d 0 0) 0 0 true L (Qx (some (.int r.2)) L r.1) L h 0 0 63 [(0, .ref v0), (2, .int v2), (3, .int v3), (4, .int v4)] []) : ∀ (n : Nat) (h : eH) (v0 : Nat) (v1 : Int32) (v2 : Int32) (v3 : Int32) (v4 : Int32) (v5 : Int32), f_X10_takeSteps_L35 L n k63 h v0 v1 v2 v3 v4 v5 = some r → E l yX10_takeSteps cX10_takeSteps 6 (some .int) (e_rm d 0 0) 0 0 true L (Qx (some (.int r.2)) L r.1) L h 0 0 35 [(0, .ref v0), (1, .int v1), (2, .int v2), (3, .int v3), (4, .int v4), (5, .int v5)] [] := by
  intro n
  induction n with
  | zero => intro h v0 v1 v2 v3 v4 v5 hf; exact absurd hf (by simp [f_X10_takeSteps_L35])
  | succ n ih =>
    intro h v0 v1 v2 v3 v4 v5 hf
    unfold f_X10_takeSteps_L35 at hf
    refine e_iload 5 dX10_takeSteps_35 rfl ?_
    refine e_iload_n 1 dX10_takeSteps_37 rfl rfl ?_
    refine e_icmp_ge (t := 63) dX10_takeSteps_38 (by decide) (fun c => ?_) (fun c => ?_)
    · replace hf := e_it c hf
      refine e_sub [0, 2, 3, 4] rfl ?_
      exact hk63 _ _ _ _ _ hf
    · replace hf := e_ie c hf
      refine e_aload_n 0 dX10_takeSteps_41 rfl rfl ?_
      refine e_aload_n 0 dX10_takeSteps_42 rfl rfl ?_
      obtain ⟨hO8, hf⟩ := e_if hf
      obtain ⟨b9, hb10, hf⟩ := e_bd hf
      refine e_getR hO8 fc_10_7 lk_RX10_61 dX10_takeSteps_43 hb10 ?_
      refine e_iconst (v := 1) dX10_takeSteps_46 (by decide) ?_
      refine e_iconst (v := (-1)) dX10_takeSteps_47 (by decide) ?_
      obtain ⟨r11, hr12, hf⟩ := e_bd hf
      refine e_callV (st := []) ml_RX10_278 k_X10_goOn (m_X10_goOn (d := d - 1) (by omega) hr12) hO8 ⟨by decide, rfl⟩ rfl rfl (Nat.le_of_ble_eq_true rfl) ⟨by omega, by decide⟩ ⟨Nat.le_refl _, Nat.le_refl _⟩ dX10_takeSteps_48 ?_
      refine e_if_eq (t := 63) dX10_takeSteps_51 (by decide) (fun c => ?_) (fun c => ?_)
      · replace hf := e_it c hf
        refine e_sub [0, 2, 3, 4] rfl ?_
        exact hk63 _ _ _ _ _ hf
      · replace hf := e_ie c hf
        refine e_iinc (lv' := [(4, .int _), (0, .ref _), (1, .int _), (2, .int _), (3, .int _), (5, .int _)]) 4 dX10_takeSteps_54 rfl (by decide) rfl ?_
        refine e_iinc (lv' := [(5, .int _), (4, .int _), (0, .ref _), (1, .int _), (2, .int _), (3, .int _)]) 5 dX10_takeSteps_57 rfl (by decide) rfl ?_
        refine e_goto (t := 35) dX10_takeSteps_60 (by decide) ?_
        refine e_sub [2, 3, 4, 5, 1, 0] rfl ?_
        exact ih _ _ _ _ _ _ _ hf
def f_X10_takeSteps_J63 (L : eL) (h : eH) (v0 : Nat) (v2 : Int32) (v3 : Int32) (v4 : Int32) : Option (eH × Int32) :=
  if isO L v0 10 = true then
  (gR h v0 1).bind fun b19 =>
  if isO L b19 3 = true then
  (f_X3_begin L h b19).bind fun r22 =>
  (gR r22 v0 1).bind fun b24 =>
  (gR r22 v0 7).bind fun b26 =>
  if isO L b26 6 = true then
  if isO L b24 3 = true then
  (f_X3_add L r22 b24 (((gI r22 b26 4) - v2).toInt64)).bind fun r30 =>
  (gR r30 v0 1).bind fun b32 =>
  (gR r30 v0 7).bind fun b34 =>
  if isO L b34 6 = true then
  if isO L b32 3 = true then
  (f_X3_add L r30 b32 (((gI r30 b34 6) - v3).toInt64)).bind fun r38 =>
  some (r38, v4)
  else none
  else none
  else none
  else none
  else none
  else none
set_option maxRecDepth 100000 in
set_option maxHeartbeats 4000000 in
theorem m_X10_takeSteps_J63 {l : Launch} {d : Nat} {L : eL}  {r : eH × Int32} (hd : 5 ≤ d)  : ∀ (h : eH) (v0 : Nat) (v2 : Int32) (v3 : Int32) (v4 : Int32), f_X10_takeSteps_J63 L h v0 v2 v3 v4 = some r → E l yX10_takeSteps cX10_takeSteps 6 (some .int) (e_rm d 0 0) 0 0 true L (Qx (some (.int r.2)) L r.1) L h 0 0 63 [(0, .ref v0), (2, .int v2), (3, .int v3), (4, .int v4)] [] := by
  intro h v0 v2 v3 v4 hf
  unfold f_X10_takeSteps_J63 at hf
  refine e_aload_n 0 dX10_takeSteps_63 rfl rfl ?_
  obtain ⟨hO18, hf⟩ := e_if hf
  obtain ⟨b19, hb20, hf⟩ := e_bd hf
  refine e_getR hO18 fc_10_1 lk_RX10_19 dX10_takeSteps_64 hb20 ?_
  obtain ⟨hO21, hf⟩ := e_if hf
  obtain ⟨r22, hr23, hf⟩ := e_bd hf
  refine e_callV (st := []) ml_RX10_267 k_X3_begin (m_X3_begin (d := d - 1) (by omega) hr23) hO21 ⟨by decide, rfl⟩ rfl rfl (Nat.le_of_ble_eq_true rfl) ⟨by omega, by decide⟩ ⟨Nat.le_refl _, Nat.le_refl _⟩ dX10_takeSteps_67 ?_
  refine e_aload_n 0 dX10_takeSteps_70 rfl rfl ?_
  obtain ⟨b24, hb25, hf⟩ := e_bd hf
  refine e_getR hO18 fc_10_1 lk_RX10_19 dX10_takeSteps_71 hb25 ?_
  refine e_aload_n 0 dX10_takeSteps_74 rfl rfl ?_
  obtain ⟨b26, hb27, hf⟩ := e_bd hf
  refine e_getR hO18 fc_10_7 lk_RX10_61 dX10_takeSteps_75 hb27 ?_
  obtain ⟨hO28, hf⟩ := e_if hf
  refine e_getIN hO28 fc_6_4 lk_RX10_198 dX10_takeSteps_78 ?_
  refine e_iload_n 1 dX10_takeSteps_81 rfl rfl ?_
  refine e_isub dX10_takeSteps_82 ?_
  refine e_i2l dX10_takeSteps_83 ?_
  obtain ⟨hO29, hf⟩ := e_if hf
  obtain ⟨r30, hr31, hf⟩ := e_bd hf
  refine e_callV (st := []) ml_RX10_269 k_X3_add (m_X3_add (d := d - 1) (by omega) hr31) hO29 ⟨by decide, rfl⟩ rfl rfl (Nat.le_of_ble_eq_true rfl) ⟨by omega, by decide⟩ ⟨Nat.le_refl _, Nat.le_refl _⟩ dX10_takeSteps_84 ?_
  refine e_aload_n 0 dX10_takeSteps_87 rfl rfl ?_
  obtain ⟨b32, hb33, hf⟩ := e_bd hf
  refine e_getR hO18 fc_10_1 lk_RX10_19 dX10_takeSteps_88 hb33 ?_
  refine e_aload_n 0 dX10_takeSteps_91 rfl rfl ?_
  obtain ⟨b34, hb35, hf⟩ := e_bd hf
  refine e_getR hO18 fc_10_7 lk_RX10_61 dX10_takeSteps_92 hb35 ?_
  obtain ⟨hO36, hf⟩ := e_if hf
  refine e_getIN hO36 fc_6_6 lk_RX10_204 dX10_takeSteps_95 ?_
  refine e_iload_n 2 dX10_takeSteps_98 rfl rfl ?_
  refine e_isub dX10_takeSteps_99 ?_
  refine e_i2l dX10_takeSteps_100 ?_
  obtain ⟨hO37, hf⟩ := e_if hf
  obtain ⟨r38, hr39, hf⟩ := e_bd hf
  refine e_callV (st := []) ml_RX10_269 k_X3_add (m_X3_add (d := d - 1) (by omega) hr39) hO37 ⟨by decide, rfl⟩ rfl rfl (Nat.le_of_ble_eq_true rfl) ⟨by omega, by decide⟩ ⟨Nat.le_refl _, Nat.le_refl _⟩ dX10_takeSteps_101 ?_
  refine e_iload 3 dX10_takeSteps_104 rfl ?_
  exact e_iret rfl dX10_takeSteps_106 (qW hf)
def f_X10_takeSteps (L : eL) (h : eH) (v0 : Nat) (v1 : Int32) : Option (eH × Int32) :=
  if v1 < 0 then
    some (h, (-1))
  else
    if v1 ≤ 200 then
      if isO L v0 10 = true then
      (gR h v0 7).bind fun b2 =>
      if isO L b2 6 = true then
      (gR h v0 7).bind fun b5 =>
      if isO L b5 6 = true then
      f_X10_takeSteps_L35 L e_fu (fun (h13 : eH) (w0_14 : Nat) (w2_15 : Int32) (w3_16 : Int32) (w4_17 : Int32) =>
        f_X10_takeSteps_J63 L h13 w0_14 w2_15 w3_16 w4_17) h v0 v1 (gI h b2 4) (gI h b5 6) 0 0
      else none
      else none
      else none
    else
      some (h, (-1))
set_option maxRecDepth 100000 in
set_option maxHeartbeats 4000000 in
theorem m_X10_takeSteps {l : Launch} {d : Nat} {L : eL} {h : eH} {v0 : Nat} {v1 : Int32} {r : eH × Int32} (hd : 5 ≤ d) (hf : f_X10_takeSteps L h v0 v1 = some r) : e_Met l yX10_takeSteps cX10_takeSteps 6 (some .int) d 0 0 true L h [.ref v0, .int v1] (Qx (some (.int r.2)) L r.1) := by
  refine e_metl (by decide) (Nat.le_of_ble_eq_true rfl) (lv := [(0, .ref v0), (1, .int v1)]) rfl ?_
  unfold f_X10_takeSteps at hf
  refine e_iload_n 1 dX10_takeSteps_0 rfl rfl ?_
  refine e_if_lt (t := 11) dX10_takeSteps_1 (by decide) (fun c => ?_) (fun c => ?_)
  · replace hf := e_it c hf
    refine e_iconst (v := (-1)) dX10_takeSteps_11 (by decide) ?_
    exact e_iret rfl dX10_takeSteps_12 (qW hf)
  · replace hf := e_ie c hf
    refine e_iload_n 1 dX10_takeSteps_4 rfl rfl ?_
    refine e_sipush (v := 200) dX10_takeSteps_5 (by decide) ?_
    refine e_icmp_le (t := 13) dX10_takeSteps_8 (by decide) (fun c => ?_) (fun c => ?_)
    · replace hf := e_it c hf
      refine e_aload_n 0 dX10_takeSteps_13 rfl rfl ?_
      obtain ⟨hO1, hf⟩ := e_if hf
      obtain ⟨b2, hb3, hf⟩ := e_bd hf
      refine e_getR hO1 fc_10_7 lk_RX10_61 dX10_takeSteps_14 hb3 ?_
      obtain ⟨hO4, hf⟩ := e_if hf
      refine e_getIN hO4 fc_6_4 lk_RX10_198 dX10_takeSteps_17 ?_
      refine e_istore_n (lv' := [(2, .int _), (0, .ref _), (1, .int _)]) dX10_takeSteps_20 rfl (by decide) rfl ?_
      refine e_aload_n 1 dX10_takeSteps_21 rfl rfl ?_
      obtain ⟨b5, hb6, hf⟩ := e_bd hf
      refine e_getR hO1 fc_10_7 lk_RX10_61 dX10_takeSteps_22 hb6 ?_
      obtain ⟨hO7, hf⟩ := e_if hf
      refine e_getIN hO7 fc_6_6 lk_RX10_204 dX10_takeSteps_25 ?_
      refine e_istore_n (lv' := [(3, .int _), (2, .int _), (0, .ref _), (1, .int _)]) dX10_takeSteps_28 rfl (by decide) rfl ?_
      refine e_iconst (v := 0) dX10_takeSteps_29 (by decide) ?_
      refine e_istore (lv' := [(4, .int _), (3, .int _), (2, .int _), (0, .ref _), (1, .int _)]) dX10_takeSteps_30 (by decide) rfl ?_
      refine e_iconst (v := 0) dX10_takeSteps_32 (by decide) ?_
      refine e_istore (lv' := [(5, .int _), (4, .int _), (3, .int _), (2, .int _), (0, .ref _), (1, .int _)]) dX10_takeSteps_33 (by decide) rfl ?_
      refine e_sub [4, 5, 3, 2, 1, 0] rfl ?_
      refine m_X10_takeSteps_L35 hd ?_ e_fu _ _ _ _ _ _ _ hf
      · intro h13 w0_14 w2_15 w3_16 w4_17 hf
        exact m_X10_takeSteps_J63 hd _ _ _ _ _ hf
    · replace hf := e_ie c hf
      refine e_iconst (v := (-1)) dX10_takeSteps_11 (by decide) ?_
      exact e_iret rfl dX10_takeSteps_12 (qW hf)
def f_X1_push_J64 (L : eL) (h : eH) (v0 : Nat) (s0 : Nat) (s1 : Int32) : Option eH :=
  if isO L s0 1 = true then
  if isO L v0 1 = true then
  (some (sI (sI h s0 1 s1) v0 2 (mnI ((gI (sI h s0 1 s1) v0 2) + 1) 15))).bind fun h17 =>
  some h17
  else none
  else none
set_option maxRecDepth 100000 in
set_option maxHeartbeats 4000000 in
theorem m_X1_push_J64 {l : Launch} {d : Nat} {L : eL}  {r : eH} (hd : 4 ≤ d)  : ∀ (h : eH) (v0 : Nat) (s0 : Nat) (s1 : Int32), f_X1_push_J64 L h v0 s0 s1 = some r → E l yX1_push cX1_push 2 none (e_rm d 0 0) 0 0 true L (Qx none L r) L h 0 0 64 [(0, .ref v0)] [.int s1, .ref s0] := by
  intro h v0 s0 s1 hf
  unfold f_X1_push_J64 at hf
  obtain ⟨hO15, hf⟩ := e_if hf
  refine e_putI hO15 fc_1_1 rfl lk_RX1_15 dX1_push_64 ?_
  refine e_aload_n 0 dX1_push_67 rfl rfl ?_
  refine e_aload_n 0 dX1_push_68 rfl rfl ?_
  obtain ⟨hO16, hf⟩ := e_if hf
  refine e_getI hO16 fc_1_2 lk_RX1_19 dX1_push_69 ?_
  refine e_iconst (v := 1) dX1_push_72 (by decide) ?_
  refine e_iadd dX1_push_73 ?_
  refine e_bipush (v := 15) dX1_push_74 (by decide) ?_
  refine e_mn ml_RX1_27 (by omega) (Nat.le_of_ble_eq_true rfl) ⟨Nat.le_refl _, Nat.le_refl _⟩ dX1_push_76 ?_
  refine e_putI hO16 fc_1_2 rfl lk_RX1_19 dX1_push_79 ?_
  obtain ⟨h17, hh18, hf⟩ := e_bd hf
  refine e_hn hh18 ?_
  exact e_vret rfl dX1_push_82 (qV hf)
def f_X1_push (L : eL) (h : eH) (v0 : Nat) (v1 : Nat) : Option eH :=
  if isO L v0 1 = true then
  if (gI h v0 1) < 0 then
    some h
  else
    if 15 ≤ (gI h v0 1) then
      some h
    else
      (gR h v0 0).bind fun b2 =>
      if inA L b2 3 (gI h v0 1) = true then
      (gR h b2 (gI h v0 1).toNatClampNeg).bind fun b5 =>
      (gR h v0 0).bind fun b7 =>
      if inA L b7 3 (gI h v0 1) = true then
      (gR h b7 (gI h v0 1).toNatClampNeg).bind fun b10 =>
      if isO L b10 6 = true then
      (f_X6_copyFrom L h b10 v1).bind fun r13 =>
      if 15 ≤ ((gI r13 v0 1) + 1) then
        f_X1_push_J64 L r13 v0 v0 0
      else
        f_X1_push_J64 L r13 v0 v0 ((gI r13 v0 1) + 1)
      else none
      else none
      else none
  else none
set_option maxRecDepth 100000 in
set_option maxHeartbeats 4000000 in
theorem m_X1_push {l : Launch} {d : Nat} {L : eL} {h : eH} {v0 : Nat} {v1 : Nat} {r : eH} (hd : 4 ≤ d) (hf : f_X1_push L h v0 v1 = some r) : e_Met l yX1_push cX1_push 2 none d 0 0 true L h [.ref v0, .ref v1] (Qx none L r) := by
  refine e_metl (by decide) (Nat.le_of_ble_eq_true rfl) (lv := [(0, .ref v0), (1, .ref v1)]) rfl ?_
  unfold f_X1_push at hf
  refine e_aload_n 0 dX1_push_0 rfl rfl ?_
  obtain ⟨hO1, hf⟩ := e_if hf
  refine e_getI hO1 fc_1_1 lk_RX1_15 dX1_push_1 ?_
  refine e_if_lt (t := 28) dX1_push_4 (by decide) (fun c => ?_) (fun c => ?_)
  · replace hf := e_it c hf
    exact e_vret rfl dX1_push_28 (qV hf)
  · replace hf := e_ie c hf
    refine e_aload_n 0 dX1_push_7 rfl rfl ?_
    refine e_getI hO1 fc_1_1 lk_RX1_15 dX1_push_8 ?_
    refine e_bipush (v := 15) dX1_push_11 (by decide) ?_
    refine e_icmp_ge (t := 28) dX1_push_13 (by decide) (fun c => ?_) (fun c => ?_)
    · replace hf := e_it c hf
      exact e_vret rfl dX1_push_28 (qV hf)
    · replace hf := e_ie c hf
      refine e_aload_n 0 dX1_push_16 rfl rfl ?_
      obtain ⟨b2, hb3, hf⟩ := e_bd hf
      refine e_getR hO1 fc_1_0 lk_RX1_11 dX1_push_17 hb3 ?_
      refine e_aload_n 0 dX1_push_20 rfl rfl ?_
      refine e_getI hO1 fc_1_1 lk_RX1_15 dX1_push_21 ?_
      obtain ⟨hI4, hf⟩ := e_if hf
      obtain ⟨b5, hb6, hf⟩ := e_bd hf
      refine e_rald hI4 hb6 dX1_push_24 ?_
      refine e_ifnonnull (t := 29) dX1_push_25 (by decide) ?_
      refine e_aload_n 0 dX1_push_29 rfl rfl ?_
      obtain ⟨b7, hb8, hf⟩ := e_bd hf
      refine e_getR hO1 fc_1_0 lk_RX1_11 dX1_push_30 hb8 ?_
      refine e_aload_n 0 dX1_push_33 rfl rfl ?_
      refine e_getI hO1 fc_1_1 lk_RX1_15 dX1_push_34 ?_
      obtain ⟨hI9, hf⟩ := e_if hf
      obtain ⟨b10, hb11, hf⟩ := e_bd hf
      refine e_rald hI9 hb11 dX1_push_37 ?_
      refine e_aload_n 1 dX1_push_38 rfl rfl ?_
      obtain ⟨hO12, hf⟩ := e_if hf
      obtain ⟨r13, hr14, hf⟩ := e_bd hf
      refine e_callV (st := []) ml_RX1_23 k_X6_copyFrom (m_X6_copyFrom (d := d - 1) (by omega) hr14) hO12 ⟨by decide, rfl⟩ rfl rfl (Nat.le_of_ble_eq_true rfl) ⟨by omega, by decide⟩ ⟨Nat.le_refl _, Nat.le_refl _⟩ dX1_push_39 ?_
      refine e_aload_n 0 dX1_push_42 rfl rfl ?_
      refine e_aload_n 0 dX1_push_43 rfl rfl ?_
      refine e_getI hO1 fc_1_1 lk_RX1_15 dX1_push_44 ?_
      refine e_iconst (v := 1) dX1_push_47 (by decide) ?_
      refine e_iadd dX1_push_48 ?_
      refine e_bipush (v := 15) dX1_push_49 (by decide) ?_
      refine e_icmp_ge (t := 63) dX1_push_51 (by decide) (fun c => ?_) (fun c => ?_)
      · replace hf := e_it c hf
        refine e_iconst (v := 0) dX1_push_63 (by decide) ?_
        refine e_sub [0] rfl ?_
        exact m_X1_push_J64 hd _ _ _ _ hf
      · replace hf := e_ie c hf
        refine e_aload_n 0 dX1_push_54 rfl rfl ?_
        refine e_getI hO1 fc_1_1 lk_RX1_15 dX1_push_55 ?_
        refine e_iconst (v := 1) dX1_push_58 (by decide) ?_
        refine e_iadd dX1_push_59 ?_
        refine e_goto (t := 64) dX1_push_60 (by decide) ?_
        refine e_sub [0] rfl ?_
        exact m_X1_push_J64 hd _ _ _ _ hf
def f_X10_remembered (L : eL) (h : eH) (v0 : Nat) (v1 : Int32) : Option (eH × Int32) :=
  if v1 < 0 then
    some (h, v1)
  else
    if isO L v0 10 = true then
    (gR h v0 3).bind fun b2 =>
    (gR h v0 8).bind fun b4 =>
    if isO L b2 1 = true then
    (f_X1_push L h b2 b4).bind fun r7 =>
    some (r7, v1)
    else none
    else none
set_option maxRecDepth 100000 in
set_option maxHeartbeats 4000000 in
theorem m_X10_remembered {l : Launch} {d : Nat} {L : eL} {h : eH} {v0 : Nat} {v1 : Int32} {r : eH × Int32} (hd : 5 ≤ d) (hf : f_X10_remembered L h v0 v1 = some r) : e_Met l yX10_remembered cX10_remembered 2 (some .int) d 0 0 true L h [.ref v0, .int v1] (Qx (some (.int r.2)) L r.1) := by
  refine e_metl (by decide) (Nat.le_of_ble_eq_true rfl) (lv := [(0, .ref v0), (1, .int v1)]) rfl ?_
  unfold f_X10_remembered at hf
  refine e_iload_n 1 dX10_remembered_0 rfl rfl ?_
  refine e_if_lt (t := 15) dX10_remembered_1 (by decide) (fun c => ?_) (fun c => ?_)
  · replace hf := e_it c hf
    refine e_iload_n 1 dX10_remembered_15 rfl rfl ?_
    exact e_iret rfl dX10_remembered_16 (qW hf)
  · replace hf := e_ie c hf
    refine e_aload_n 0 dX10_remembered_4 rfl rfl ?_
    obtain ⟨hO1, hf⟩ := e_if hf
    obtain ⟨b2, hb3, hf⟩ := e_bd hf
    refine e_getR hO1 fc_10_3 lk_RX10_33 dX10_remembered_5 hb3 ?_
    refine e_aload_n 0 dX10_remembered_8 rfl rfl ?_
    obtain ⟨b4, hb5, hf⟩ := e_bd hf
    refine e_getR hO1 fc_10_8 lk_RX10_65 dX10_remembered_9 hb5 ?_
    obtain ⟨hO6, hf⟩ := e_if hf
    obtain ⟨r7, hr8, hf⟩ := e_bd hf
    refine e_callV (st := []) ml_RX10_264 k_X1_push (m_X1_push (d := d - 1) (by omega) hr8) hO6 ⟨by decide, rfl⟩ rfl rfl (Nat.le_of_ble_eq_true rfl) ⟨by omega, by decide⟩ ⟨Nat.le_refl _, Nat.le_refl _⟩ dX10_remembered_12 ?_
    refine e_iload_n 1 dX10_remembered_15 rfl rfl ?_
    exact e_iret rfl dX10_remembered_16 (qW hf)
def f_X10_steps (L : eL) (h : eH) (v0 : Nat) (v1 : Int32) : Option (eH × Int32) :=
  if isO L v0 10 = true then
  (gR h v0 8).bind fun b2 =>
  (gR h v0 7).bind fun b4 =>
  if isO L b2 6 = true then
  (f_X6_copyFrom L h b2 b4).bind fun r7 =>
  (f_X10_takeSteps L r7 v0 v1).bind fun r9 =>
  (f_X10_remembered L r9.1 v0 r9.2).bind fun r11 =>
  some (r11.1, r11.2)
  else none
  else none
set_option maxRecDepth 100000 in
set_option maxHeartbeats 4000000 in
theorem m_X10_steps {l : Launch} {d : Nat} {L : eL} {h : eH} {v0 : Nat} {v1 : Int32} {r : eH × Int32} (hd : 6 ≤ d) (hf : f_X10_steps L h v0 v1 = some r) : e_Met l yX10_steps cX10_steps 2 (some .int) d 0 0 true L h [.ref v0, .int v1] (Qx (some (.int r.2)) L r.1) := by
  refine e_metl (by decide) (Nat.le_of_ble_eq_true rfl) (lv := [(0, .ref v0), (1, .int v1)]) rfl ?_
  unfold f_X10_steps at hf
  refine e_aload_n 0 dX10_steps_0 rfl rfl ?_
  obtain ⟨hO1, hf⟩ := e_if hf
  obtain ⟨b2, hb3, hf⟩ := e_bd hf
  refine e_getR hO1 fc_10_8 lk_RX10_65 dX10_steps_1 hb3 ?_
  refine e_aload_n 0 dX10_steps_4 rfl rfl ?_
  obtain ⟨b4, hb5, hf⟩ := e_bd hf
  refine e_getR hO1 fc_10_7 lk_RX10_61 dX10_steps_5 hb5 ?_
  obtain ⟨hO6, hf⟩ := e_if hf
  obtain ⟨r7, hr8, hf⟩ := e_bd hf
  refine e_callV (st := []) ml_RX10_230 k_X6_copyFrom (m_X6_copyFrom (d := d - 1) (by omega) hr8) hO6 ⟨by decide, rfl⟩ rfl rfl (Nat.le_of_ble_eq_true rfl) ⟨by omega, by decide⟩ ⟨Nat.le_refl _, Nat.le_refl _⟩ dX10_steps_8 ?_
  refine e_aload_n 0 dX10_steps_11 rfl rfl ?_
  refine e_aload_n 0 dX10_steps_12 rfl rfl ?_
  refine e_iload_n 1 dX10_steps_13 rfl rfl ?_
  obtain ⟨r9, hr10, hf⟩ := e_bd hf
  refine e_callV (st := [.ref _]) ml_RX10_234 k_X10_takeSteps (m_X10_takeSteps (d := d - 1) (by omega) hr10) hO1 ⟨by decide, rfl⟩ rfl rfl (Nat.le_of_ble_eq_true rfl) ⟨by omega, by decide⟩ ⟨Nat.le_refl _, Nat.le_refl _⟩ dX10_steps_14 ?_
  obtain ⟨r11, hr12, hf⟩ := e_bd hf
  refine e_callV (st := []) ml_RX10_237 k_X10_remembered (m_X10_remembered (d := d - 1) (by omega) hr12) hO1 ⟨by decide, rfl⟩ rfl rfl (Nat.le_of_ble_eq_true rfl) ⟨by omega, by decide⟩ ⟨Nat.le_refl _, Nat.le_refl _⟩ dX10_steps_17 ?_
  exact e_iret rfl dX10_steps_20 (qW hf)
def f_X10_turnRight (L : eL) (h : eH) (v0 : Nat) (v1 : Int32) : Option (eH × Int32) :=
  if v1 < 0 then
    some (h, (-1))
  else
    if v1 < 4 then
      if isO L v0 10 = true then
      (gR h v0 7).bind fun b2 =>
      if isO L b2 6 = true then
      (f_X6_turnBy L h b2 v1).bind fun r5 =>
      (gR r5 v0 7).bind fun b7 =>
      if isO L b7 6 = true then
      some (r5, gI r5 b7 2)
      else none
      else none
      else none
    else
      some (h, (-1))
set_option maxRecDepth 100000 in
set_option maxHeartbeats 4000000 in
theorem m_X10_turnRight {l : Launch} {d : Nat} {L : eL} {h : eH} {v0 : Nat} {v1 : Int32} {r : eH × Int32} (hd : 2 ≤ d) (hf : f_X10_turnRight L h v0 v1 = some r) : e_Met l yX10_turnRight cX10_turnRight 2 (some .int) d 0 0 true L h [.ref v0, .int v1] (Qx (some (.int r.2)) L r.1) := by
  refine e_metl (by decide) (Nat.le_of_ble_eq_true rfl) (lv := [(0, .ref v0), (1, .int v1)]) rfl ?_
  unfold f_X10_turnRight at hf
  refine e_iload_n 1 dX10_turnRight_0 rfl rfl ?_
  refine e_if_lt (t := 9) dX10_turnRight_1 (by decide) (fun c => ?_) (fun c => ?_)
  · replace hf := e_it c hf
    refine e_iconst (v := (-1)) dX10_turnRight_9 (by decide) ?_
    exact e_iret rfl dX10_turnRight_10 (qW hf)
  · replace hf := e_ie c hf
    refine e_iload_n 1 dX10_turnRight_4 rfl rfl ?_
    refine e_iconst (v := 4) dX10_turnRight_5 (by decide) ?_
    refine e_icmp_lt (t := 11) dX10_turnRight_6 (by decide) (fun c => ?_) (fun c => ?_)
    · replace hf := e_it c hf
      refine e_aload_n 0 dX10_turnRight_11 rfl rfl ?_
      obtain ⟨hO1, hf⟩ := e_if hf
      obtain ⟨b2, hb3, hf⟩ := e_bd hf
      refine e_getR hO1 fc_10_7 lk_RX10_61 dX10_turnRight_12 hb3 ?_
      refine e_iload_n 1 dX10_turnRight_15 rfl rfl ?_
      obtain ⟨hO4, hf⟩ := e_if hf
      obtain ⟨r5, hr6, hf⟩ := e_bd hf
      refine e_callV (st := []) ml_RX10_282 k_X6_turnBy (m_X6_turnBy (d := d - 1) (by omega) hr6) hO4 ⟨by decide, rfl⟩ rfl rfl (Nat.le_of_ble_eq_true rfl) ⟨by omega, by decide⟩ ⟨Nat.le_refl _, Nat.le_refl _⟩ dX10_turnRight_16 ?_
      refine e_aload_n 0 dX10_turnRight_19 rfl rfl ?_
      obtain ⟨b7, hb8, hf⟩ := e_bd hf
      refine e_getR hO1 fc_10_7 lk_RX10_61 dX10_turnRight_20 hb8 ?_
      obtain ⟨hO9, hf⟩ := e_if hf
      refine e_getIN hO9 fc_6_2 lk_RX10_192 dX10_turnRight_23 ?_
      exact e_iret rfl dX10_turnRight_26 (qW hf)
    · replace hf := e_ie c hf
      refine e_iconst (v := (-1)) dX10_turnRight_9 (by decide) ?_
      exact e_iret rfl dX10_turnRight_10 (qW hf)
def f_X10_turn (L : eL) (h : eH) (v0 : Nat) (v1 : Int32) : Option (eH × Int32) :=
  if isO L v0 10 = true then
  (gR h v0 8).bind fun b2 =>
  (gR h v0 7).bind fun b4 =>
  if isO L b2 6 = true then
  (f_X6_copyFrom L h b2 b4).bind fun r7 =>
  (f_X10_turnRight L r7 v0 v1).bind fun r9 =>
  (f_X10_remembered L r9.1 v0 r9.2).bind fun r11 =>
  some (r11.1, r11.2)
  else none
  else none
set_option maxRecDepth 100000 in
set_option maxHeartbeats 4000000 in
theorem m_X10_turn {l : Launch} {d : Nat} {L : eL} {h : eH} {v0 : Nat} {v1 : Int32} {r : eH × Int32} (hd : 6 ≤ d) (hf : f_X10_turn L h v0 v1 = some r) : e_Met l yX10_turn cX10_turn 2 (some .int) d 0 0 true L h [.ref v0, .int v1] (Qx (some (.int r.2)) L r.1) := by
  refine e_metl (by decide) (Nat.le_of_ble_eq_true rfl) (lv := [(0, .ref v0), (1, .int v1)]) rfl ?_
  unfold f_X10_turn at hf
  refine e_aload_n 0 dX10_turn_0 rfl rfl ?_
  obtain ⟨hO1, hf⟩ := e_if hf
  obtain ⟨b2, hb3, hf⟩ := e_bd hf
  refine e_getR hO1 fc_10_8 lk_RX10_65 dX10_turn_1 hb3 ?_
  refine e_aload_n 0 dX10_turn_4 rfl rfl ?_
  obtain ⟨b4, hb5, hf⟩ := e_bd hf
  refine e_getR hO1 fc_10_7 lk_RX10_61 dX10_turn_5 hb5 ?_
  obtain ⟨hO6, hf⟩ := e_if hf
  obtain ⟨r7, hr8, hf⟩ := e_bd hf
  refine e_callV (st := []) ml_RX10_230 k_X6_copyFrom (m_X6_copyFrom (d := d - 1) (by omega) hr8) hO6 ⟨by decide, rfl⟩ rfl rfl (Nat.le_of_ble_eq_true rfl) ⟨by omega, by decide⟩ ⟨Nat.le_refl _, Nat.le_refl _⟩ dX10_turn_8 ?_
  refine e_aload_n 0 dX10_turn_11 rfl rfl ?_
  refine e_aload_n 0 dX10_turn_12 rfl rfl ?_
  refine e_iload_n 1 dX10_turn_13 rfl rfl ?_
  obtain ⟨r9, hr10, hf⟩ := e_bd hf
  refine e_callV (st := [.ref _]) ml_RX10_240 k_X10_turnRight (m_X10_turnRight (d := d - 1) (by omega) hr10) hO1 ⟨by decide, rfl⟩ rfl rfl (Nat.le_of_ble_eq_true rfl) ⟨by omega, by decide⟩ ⟨Nat.le_refl _, Nat.le_refl _⟩ dX10_turn_14 ?_
  obtain ⟨r11, hr12, hf⟩ := e_bd hf
  refine e_callV (st := []) ml_RX10_237 k_X10_remembered (m_X10_remembered (d := d - 1) (by omega) hr12) hO1 ⟨by decide, rfl⟩ rfl rfl (Nat.le_of_ble_eq_true rfl) ⟨by omega, by decide⟩ ⟨Nat.le_refl _, Nat.le_refl _⟩ dX10_turn_17 ?_
  exact e_iret rfl dX10_turn_20 (qW hf)
def f_X6_dayFalls_L12 (L : eL) : Nat → (eH → Option eH) → eH → Nat → Nat → Int32 → Option eH
  | 0, _, _, _, _, _ => none
  | n + 1, k63, h, v0, v1, v2 =>
    if 36 ≤ v2 then
      k63 h
    else
      if isO L v1 2 = true then
      if (f_X10_holds (gL h v1 4) v2) = 0 then
        f_X6_dayFalls_L12 L n k63 h v0 v1 (v2 + Int32.ofInt 1)
      else
        if isO L v0 6 = true then
        (gR h v0 0).bind fun b4 =>
        if inA L b4 0 v2 = true then
        if (f_X10_holds (gL h v1 5) v2) = 0 then
          (f_X6_putDust L h v0 v2 ((gI h b4 v2.toNatClampNeg) + 1)).bind fun r7 =>
          f_X6_dayFalls_L12 L n k63 r7 v0 v1 (v2 + Int32.ofInt 1)
        else
          (f_X6_putDust L h v0 v2 ((gI h b4 v2.toNatClampNeg) + 2)).bind fun r9 =>
          f_X6_dayFalls_L12 L n k63 r9 v0 v1 (v2 + Int32.ofInt 1)
        else none
        else none
      else none
set_option maxRecDepth 100000 in
set_option maxHeartbeats 4000000 in
theorem m_X6_dayFalls_L12 {l : Launch} {d : Nat} {L : eL}  {r : eH} {k63 : eH → Option eH} (hd : 3 ≤ d) (hk63 : ∀ (h : eH), k63 h = some r → E l yX6_dayFalls cX6_dayFalls 3 none (e_rm d 0 0) 0 0 true L (Qx none L r) L h 0 0 63 [] []) : ∀ (n : Nat) (h : eH) (v0 : Nat) (v1 : Nat) (v2 : Int32), f_X6_dayFalls_L12 L n k63 h v0 v1 v2 = some r → E l yX6_dayFalls cX6_dayFalls 3 none (e_rm d 0 0) 0 0 true L (Qx none L r) L h 0 0 12 [(0, .ref v0), (1, .ref v1), (2, .int v2)] [] := by
  intro n
  induction n with
  | zero => intro h v0 v1 v2 hf; exact absurd hf (by simp [f_X6_dayFalls_L12])
  | succ n ih =>
    intro h v0 v1 v2 hf
    unfold f_X6_dayFalls_L12 at hf
    refine e_iload_n 2 dX6_dayFalls_12 rfl rfl ?_
    refine e_bipush (v := 36) dX6_dayFalls_13 (by decide) ?_
    refine e_icmp_ge (t := 63) dX6_dayFalls_15 (by decide) (fun c => ?_) (fun c => ?_)
    · replace hf := e_it c hf
      refine e_sub [] rfl ?_
      exact hk63 _ hf
    · replace hf := e_ie c hf
      refine e_aload_n 1 dX6_dayFalls_18 rfl rfl ?_
      obtain ⟨hO2, hf⟩ := e_if hf
      refine e_getLN hO2 fc_2_4 lk_RX6_69 dX6_dayFalls_19 ?_
      refine e_iload_n 2 dX6_dayFalls_22 rfl rfl ?_
      refine e_callSN (st := []) ml_RX6_74 k_X10_holds (m_X10_holds (d := d - 1) (by omega) rfl) rfl rfl (Nat.le_of_ble_eq_true rfl) ⟨by omega, by decide⟩ ⟨Nat.le_refl _, Nat.le_refl _⟩ dX6_dayFalls_23 ?_
      refine e_if_eq (t := 57) dX6_dayFalls_26 (by decide) (fun c => ?_) (fun c => ?_)
      · replace hf := e_it c hf
        refine e_iinc (lv' := [(2, .int _), (0, .ref _), (1, .ref _)]) 2 dX6_dayFalls_57 rfl (by decide) rfl ?_
        refine e_goto (t := 12) dX6_dayFalls_60 (by decide) ?_
        refine e_sub [1, 2, 0] rfl ?_
        exact ih _ _ _ _ hf
      · replace hf := e_ie c hf
        refine e_aload_n 0 dX6_dayFalls_29 rfl rfl ?_
        refine e_iload_n 2 dX6_dayFalls_30 rfl rfl ?_
        refine e_aload_n 0 dX6_dayFalls_31 rfl rfl ?_
        obtain ⟨hO3, hf⟩ := e_if hf
        obtain ⟨b4, hb5, hf⟩ := e_bd hf
        refine e_getR hO3 fc_6_0 lk_RX6_9 dX6_dayFalls_32 hb5 ?_
        refine e_iload_n 2 dX6_dayFalls_35 rfl rfl ?_
        obtain ⟨hI6, hf⟩ := e_if hf
        refine e_iald hI6 dX6_dayFalls_36 ?_
        refine e_aload_n 1 dX6_dayFalls_37 rfl rfl ?_
        refine e_getLN hO2 fc_2_5 lk_RX6_78 dX6_dayFalls_38 ?_
        refine e_iload_n 2 dX6_dayFalls_41 rfl rfl ?_
        refine e_callSN (st := [.int _, .int _, .ref _]) ml_RX6_74 k_X10_holds (m_X10_holds (d := d - 1) (by omega) rfl) rfl rfl (Nat.le_of_ble_eq_true rfl) ⟨by omega, by decide⟩ ⟨Nat.le_refl _, Nat.le_refl _⟩ dX6_dayFalls_42 ?_
        refine e_if_eq (t := 52) dX6_dayFalls_45 (by decide) (fun c => ?_) (fun c => ?_)
        · replace hf := e_it c hf
          refine e_iconst (v := 1) dX6_dayFalls_52 (by decide) ?_
          refine e_iadd dX6_dayFalls_53 ?_
          obtain ⟨r7, hr8, hf⟩ := e_bd hf
          refine e_callV (st := []) ml_RX6_81 k_X6_putDust (m_X6_putDust (d := d - 1) (by omega) hr8) hO3 ⟨by decide, rfl⟩ rfl rfl (Nat.le_of_ble_eq_true rfl) ⟨by omega, by decide⟩ ⟨Nat.le_refl _, Nat.le_refl _⟩ dX6_dayFalls_54 ?_
          refine e_iinc (lv' := [(2, .int _), (0, .ref _), (1, .ref _)]) 2 dX6_dayFalls_57 rfl (by decide) rfl ?_
          refine e_goto (t := 12) dX6_dayFalls_60 (by decide) ?_
          refine e_sub [1, 2, 0] rfl ?_
          exact ih _ _ _ _ hf
        · replace hf := e_ie c hf
          refine e_iconst (v := 2) dX6_dayFalls_48 (by decide) ?_
          refine e_goto (t := 53) dX6_dayFalls_49 (by decide) ?_
          refine e_iadd dX6_dayFalls_53 ?_
          obtain ⟨r9, hr10, hf⟩ := e_bd hf
          refine e_callV (st := []) ml_RX6_81 k_X6_putDust (m_X6_putDust (d := d - 1) (by omega) hr10) hO3 ⟨by decide, rfl⟩ rfl rfl (Nat.le_of_ble_eq_true rfl) ⟨by omega, by decide⟩ ⟨Nat.le_refl _, Nat.le_refl _⟩ dX6_dayFalls_54 ?_
          refine e_iinc (lv' := [(2, .int _), (0, .ref _), (1, .ref _)]) 2 dX6_dayFalls_57 rfl (by decide) rfl ?_
          refine e_goto (t := 12) dX6_dayFalls_60 (by decide) ?_
          refine e_sub [1, 2, 0] rfl ?_
          exact ih _ _ _ _ hf
def f_X6_dayFalls (L : eL) (h : eH) (v0 : Nat) (v1 : Nat) : Option eH :=
  if isO L v0 6 = true then
  f_X6_dayFalls_L12 L e_fu (fun (h11 : eH) =>
    some h11) (sI h v0 7 ((gI h v0 7) + 1)) v0 v1 0
  else none
set_option maxRecDepth 100000 in
set_option maxHeartbeats 4000000 in
theorem m_X6_dayFalls {l : Launch} {d : Nat} {L : eL} {h : eH} {v0 : Nat} {v1 : Nat} {r : eH} (hd : 3 ≤ d) (hf : f_X6_dayFalls L h v0 v1 = some r) : e_Met l yX6_dayFalls cX6_dayFalls 3 none d 0 0 true L h [.ref v0, .ref v1] (Qx none L r) := by
  refine e_metl (by decide) (Nat.le_of_ble_eq_true rfl) (lv := [(0, .ref v0), (1, .ref v1)]) rfl ?_
  unfold f_X6_dayFalls at hf
  refine e_aload_n 0 dX6_dayFalls_0 rfl rfl ?_
  refine e_dupR dX6_dayFalls_1 ?_
  obtain ⟨hO1, hf⟩ := e_if hf
  refine e_getI hO1 fc_6_7 lk_RX6_34 dX6_dayFalls_2 ?_
  refine e_iconst (v := 1) dX6_dayFalls_5 (by decide) ?_
  refine e_iadd dX6_dayFalls_6 ?_
  refine e_putI hO1 fc_6_7 rfl lk_RX6_34 dX6_dayFalls_7 ?_
  refine e_iconst (v := 0) dX6_dayFalls_10 (by decide) ?_
  refine e_istore_n (lv' := [(2, .int _), (0, .ref _), (1, .ref _)]) dX6_dayFalls_11 rfl (by decide) rfl ?_
  refine e_sub [1, 2, 0] rfl ?_
  refine m_X6_dayFalls_L12 hd ?_ e_fu _ _ _ _ hf
  · intro h11 hf
    exact e_vret rfl dX6_dayFalls_63 (qV hf)
def f_X10_passDays_L15 (L : eL) : Nat → (eH → Nat → Option (eH × Int32)) → eH → Nat → Int32 → Int32 → Option (eH × Int32)
  | 0, _, _, _, _, _ => none
  | n + 1, k37, h, v0, v1, v2 =>
    if v1 ≤ v2 then
      k37 h v0
    else
      if isO L v0 10 = true then
      (gR h v0 7).bind fun b2 =>
      (gR h v0 15).bind fun b4 =>
      if isO L b2 6 = true then
      (f_X6_dayFalls L h b2 b4).bind fun r7 =>
      f_X10_passDays_L15 L n k37 r7 v0 v1 (v2 + Int32.ofInt 1)
      else none
      else none
set_option maxRecDepth 100000 in
set_option maxHeartbeats 4000000 in
theorem m_X10_passDays_L15 {l : Launch} {d : Nat} {L : eL}  {r : eH × Int32} {k37 : eH → Nat → Option (eH × Int32)} (hd : 4 ≤ d) (hk37 : ∀ (h : eH) (v0 : Nat), k37 h v0 = some r → E l yX10_passDays cX10_passDays 3 (some .int) (e_rm d 0 0) 0 0 true L (Qx (some (.int r.2)) L r.1) L h 0 0 37 [(0, .ref v0)] []) : ∀ (n : Nat) (h : eH) (v0 : Nat) (v1 : Int32) (v2 : Int32), f_X10_passDays_L15 L n k37 h v0 v1 v2 = some r → E l yX10_passDays cX10_passDays 3 (some .int) (e_rm d 0 0) 0 0 true L (Qx (some (.int r.2)) L r.1) L h 0 0 15 [(0, .ref v0), (1, .int v1), (2, .int v2)] [] := by
  intro n
  induction n with
  | zero => intro h v0 v1 v2 hf; exact absurd hf (by simp [f_X10_passDays_L15])
  | succ n ih =>
    intro h v0 v1 v2 hf
    unfold f_X10_passDays_L15 at hf
    refine e_iload_n 2 dX10_passDays_15 rfl rfl ?_
    refine e_iload_n 1 dX10_passDays_16 rfl rfl ?_
    refine e_icmp_ge (t := 37) dX10_passDays_17 (by decide) (fun c => ?_) (fun c => ?_)
    · replace hf := e_it c hf
      refine e_sub [0] rfl ?_
      exact hk37 _ _ hf
    · replace hf := e_ie c hf
      refine e_aload_n 0 dX10_passDays_20 rfl rfl ?_
      obtain ⟨hO1, hf⟩ := e_if hf
      obtain ⟨b2, hb3, hf⟩ := e_bd hf
      refine e_getR hO1 fc_10_7 lk_RX10_61 dX10_passDays_21 hb3 ?_
      refine e_aload_n 0 dX10_passDays_24 rfl rfl ?_
      obtain ⟨b4, hb5, hf⟩ := e_bd hf
      refine e_getR hO1 fc_10_15 lk_RX10_92 dX10_passDays_25 hb5 ?_
      obtain ⟨hO6, hf⟩ := e_if hf
      obtain ⟨r7, hr8, hf⟩ := e_bd hf
      refine e_callV (st := []) ml_RX10_285 k_X6_dayFalls (m_X6_dayFalls (d := d - 1) (by omega) hr8) hO6 ⟨by decide, rfl⟩ rfl rfl (Nat.le_of_ble_eq_true rfl) ⟨by omega, by decide⟩ ⟨Nat.le_refl _, Nat.le_refl _⟩ dX10_passDays_28 ?_
      refine e_iinc (lv' := [(2, .int _), (0, .ref _), (1, .int _)]) 2 dX10_passDays_31 rfl (by decide) rfl ?_
      refine e_goto (t := 15) dX10_passDays_34 (by decide) ?_
      refine e_sub [1, 2, 0] rfl ?_
      exact ih _ _ _ _ hf
def f_X10_passDays (L : eL) (h : eH) (v0 : Nat) (v1 : Int32) : Option (eH × Int32) :=
  if v1 < 1 then
    some (h, (-1))
  else
    if v1 ≤ 30 then
      f_X10_passDays_L15 L e_fu (fun (h9 : eH) (w0_10 : Nat) =>
        if isO L w0_10 10 = true then
        (gR h9 w0_10 7).bind fun b12 =>
        if isO L b12 6 = true then
        (f_X6_dustOfAll L h9 b12).bind fun r15 =>
        some (h9, r15)
        else none
        else none) h v0 v1 0
    else
      some (h, (-1))
set_option maxRecDepth 100000 in
set_option maxHeartbeats 4000000 in
theorem m_X10_passDays {l : Launch} {d : Nat} {L : eL} {h : eH} {v0 : Nat} {v1 : Int32} {r : eH × Int32} (hd : 4 ≤ d) (hf : f_X10_passDays L h v0 v1 = some r) : e_Met l yX10_passDays cX10_passDays 3 (some .int) d 0 0 true L h [.ref v0, .int v1] (Qx (some (.int r.2)) L r.1) := by
  refine e_metl (by decide) (Nat.le_of_ble_eq_true rfl) (lv := [(0, .ref v0), (1, .int v1)]) rfl ?_
  unfold f_X10_passDays at hf
  refine e_iload_n 1 dX10_passDays_0 rfl rfl ?_
  refine e_iconst (v := 1) dX10_passDays_1 (by decide) ?_
  refine e_icmp_lt (t := 11) dX10_passDays_2 (by decide) (fun c => ?_) (fun c => ?_)
  · replace hf := e_it c hf
    refine e_iconst (v := (-1)) dX10_passDays_11 (by decide) ?_
    exact e_iret rfl dX10_passDays_12 (qW hf)
  · replace hf := e_ie c hf
    refine e_iload_n 1 dX10_passDays_5 rfl rfl ?_
    refine e_bipush (v := 30) dX10_passDays_6 (by decide) ?_
    refine e_icmp_le (t := 13) dX10_passDays_8 (by decide) (fun c => ?_) (fun c => ?_)
    · replace hf := e_it c hf
      refine e_iconst (v := 0) dX10_passDays_13 (by decide) ?_
      refine e_istore_n (lv' := [(2, .int _), (0, .ref _), (1, .int _)]) dX10_passDays_14 rfl (by decide) rfl ?_
      refine e_sub [1, 2, 0] rfl ?_
      refine m_X10_passDays_L15 hd ?_ e_fu _ _ _ _ hf
      · intro h9 w0_10 hf
        refine e_aload_n 0 dX10_passDays_37 rfl rfl ?_
        obtain ⟨hO11, hf⟩ := e_if hf
        obtain ⟨b12, hb13, hf⟩ := e_bd hf
        refine e_getR hO11 fc_10_7 lk_RX10_61 dX10_passDays_38 hb13 ?_
        obtain ⟨hO14, hf⟩ := e_if hf
        obtain ⟨r15, hr16, hf⟩ := e_bd hf
        refine e_callV (st := []) ml_RX10_227 k_X6_dustOfAll (m_X6_dustOfAll (d := d - 1) (by omega) hr16) hO14 ⟨by decide, rfl⟩ rfl rfl (Nat.le_of_ble_eq_true rfl) ⟨by omega, by decide⟩ ⟨Nat.le_refl _, Nat.le_refl _⟩ dX10_passDays_41 ?_
        exact e_iret rfl dX10_passDays_44 (qW hf)
    · replace hf := e_ie c hf
      refine e_iconst (v := (-1)) dX10_passDays_11 (by decide) ?_
      exact e_iret rfl dX10_passDays_12 (qW hf)
def f_X10_days (L : eL) (h : eH) (v0 : Nat) (v1 : Int32) : Option (eH × Int32) :=
  if isO L v0 10 = true then
  (gR h v0 8).bind fun b2 =>
  (gR h v0 7).bind fun b4 =>
  if isO L b2 6 = true then
  (f_X6_copyFrom L h b2 b4).bind fun r7 =>
  (f_X10_passDays L r7 v0 v1).bind fun r9 =>
  (f_X10_remembered L r9.1 v0 r9.2).bind fun r11 =>
  some (r11.1, r11.2)
  else none
  else none
set_option maxRecDepth 100000 in
set_option maxHeartbeats 4000000 in
theorem m_X10_days {l : Launch} {d : Nat} {L : eL} {h : eH} {v0 : Nat} {v1 : Int32} {r : eH × Int32} (hd : 6 ≤ d) (hf : f_X10_days L h v0 v1 = some r) : e_Met l yX10_days cX10_days 2 (some .int) d 0 0 true L h [.ref v0, .int v1] (Qx (some (.int r.2)) L r.1) := by
  refine e_metl (by decide) (Nat.le_of_ble_eq_true rfl) (lv := [(0, .ref v0), (1, .int v1)]) rfl ?_
  unfold f_X10_days at hf
  refine e_aload_n 0 dX10_days_0 rfl rfl ?_
  obtain ⟨hO1, hf⟩ := e_if hf
  obtain ⟨b2, hb3, hf⟩ := e_bd hf
  refine e_getR hO1 fc_10_8 lk_RX10_65 dX10_days_1 hb3 ?_
  refine e_aload_n 0 dX10_days_4 rfl rfl ?_
  obtain ⟨b4, hb5, hf⟩ := e_bd hf
  refine e_getR hO1 fc_10_7 lk_RX10_61 dX10_days_5 hb5 ?_
  obtain ⟨hO6, hf⟩ := e_if hf
  obtain ⟨r7, hr8, hf⟩ := e_bd hf
  refine e_callV (st := []) ml_RX10_230 k_X6_copyFrom (m_X6_copyFrom (d := d - 1) (by omega) hr8) hO6 ⟨by decide, rfl⟩ rfl rfl (Nat.le_of_ble_eq_true rfl) ⟨by omega, by decide⟩ ⟨Nat.le_refl _, Nat.le_refl _⟩ dX10_days_8 ?_
  refine e_aload_n 0 dX10_days_11 rfl rfl ?_
  refine e_aload_n 0 dX10_days_12 rfl rfl ?_
  refine e_iload_n 1 dX10_days_13 rfl rfl ?_
  obtain ⟨r9, hr10, hf⟩ := e_bd hf
  refine e_callV (st := [.ref _]) ml_RX10_243 k_X10_passDays (m_X10_passDays (d := d - 1) (by omega) hr10) hO1 ⟨by decide, rfl⟩ rfl rfl (Nat.le_of_ble_eq_true rfl) ⟨by omega, by decide⟩ ⟨Nat.le_refl _, Nat.le_refl _⟩ dX10_days_14 ?_
  obtain ⟨r11, hr12, hf⟩ := e_bd hf
  refine e_callV (st := []) ml_RX10_237 k_X10_remembered (m_X10_remembered (d := d - 1) (by omega) hr12) hO1 ⟨by decide, rfl⟩ rfl rfl (Nat.le_of_ble_eq_true rfl) ⟨by omega, by decide⟩ ⟨Nat.le_refl _, Nat.le_refl _⟩ dX10_days_17 ?_
  exact e_iret rfl dX10_days_20 (qW hf)
def f_X10_moveChair (L : eL) (h : eH) (v0 : Nat) (v1 : Int32) : Option (eH × Int32) :=
  if isO L v0 10 = true then
  (gR h v0 15).bind fun b2 =>
  if isO L b2 2 = true then
  (f_X2_has L h b2 v1).bind fun r5 =>
  if r5 = 0 then
    some (h, (-1))
  else
    (gR h v0 15).bind fun b7 =>
    if isO L b7 2 = true then
    if (f_X10_holds (gL h b7 4) v1) = 0 then
      some (h, (-2))
    else
      (gR h v0 7).bind fun b10 =>
      if isO L b10 6 = true then
      if v1 = (gI h b10 1) then
        some (h, (-2))
      else
        (gR h v0 7).bind fun b13 =>
        if isO L b13 6 = true then
        (gR (sL h b13 8 ((gL h b13 8) ^^^ (f_X10_bit v1))) v0 7).bind fun b16 =>
        if isO L b16 6 = true then
        some (sL h b13 8 ((gL h b13 8) ^^^ (f_X10_bit v1)), f_J13_bitCount_95d88 (gL (sL h b13 8 ((gL h b13 8) ^^^ (f_X10_bit v1))) b16 8))
        else none
        else none
      else none
    else none
  else none
  else none
set_option maxRecDepth 100000 in
set_option maxHeartbeats 4000000 in
theorem m_X10_moveChair {l : Launch} {d : Nat} {L : eL} {h : eH} {v0 : Nat} {v1 : Int32} {r : eH × Int32} (hd : 2 ≤ d) (hf : f_X10_moveChair L h v0 v1 = some r) : e_Met l yX10_moveChair cX10_moveChair 2 (some .int) d 0 0 true L h [.ref v0, .int v1] (Qx (some (.int r.2)) L r.1) := by
  refine e_metl (by decide) (Nat.le_of_ble_eq_true rfl) (lv := [(0, .ref v0), (1, .int v1)]) rfl ?_
  unfold f_X10_moveChair at hf
  refine e_aload_n 0 dX10_moveChair_0 rfl rfl ?_
  obtain ⟨hO1, hf⟩ := e_if hf
  obtain ⟨b2, hb3, hf⟩ := e_bd hf
  refine e_getR hO1 fc_10_15 lk_RX10_92 dX10_moveChair_1 hb3 ?_
  refine e_iload_n 1 dX10_moveChair_4 rfl rfl ?_
  obtain ⟨hO4, hf⟩ := e_if hf
  obtain ⟨r5, hr6, hf⟩ := e_bd hf
  refine e_callV (st := []) ml_RX10_152 k_X2_has (m_X2_has (d := d - 1) (by omega) hr6) hO4 ⟨by decide, rfl⟩ rfl rfl (Nat.le_of_ble_eq_true rfl) ⟨by omega, by decide⟩ ⟨Nat.le_refl _, Nat.le_refl _⟩ dX10_moveChair_5 ?_
  refine e_if_ne (t := 13) dX10_moveChair_8 (by decide) (fun c => ?_) (fun c => ?_)
  · replace hf := e_ie c hf
    refine e_aload_n 0 dX10_moveChair_13 rfl rfl ?_
    obtain ⟨b7, hb8, hf⟩ := e_bd hf
    refine e_getR hO1 fc_10_15 lk_RX10_92 dX10_moveChair_14 hb8 ?_
    obtain ⟨hO9, hf⟩ := e_if hf
    refine e_getLN hO9 fc_2_4 lk_RX10_128 dX10_moveChair_17 ?_
    refine e_iload_n 1 dX10_moveChair_20 rfl rfl ?_
    refine e_callS (st := []) ml_RX10_169 k_X10_holds (m_X10_holds (d := d - 1) (by omega) rfl) rfl rfl (Nat.le_of_ble_eq_true rfl) ⟨by omega, by decide⟩ ⟨Nat.le_refl _, Nat.le_refl _⟩ dX10_moveChair_21 ?_
    refine e_if_eq (t := 38) dX10_moveChair_24 (by decide) (fun c => ?_) (fun c => ?_)
    · replace hf := e_it c hf
      refine e_bipush (v := (-2)) dX10_moveChair_38 (by decide) ?_
      exact e_iret rfl dX10_moveChair_40 (qW hf)
    · replace hf := e_ie c hf
      refine e_iload_n 1 dX10_moveChair_27 rfl rfl ?_
      refine e_aload_n 0 dX10_moveChair_28 rfl rfl ?_
      obtain ⟨b10, hb11, hf⟩ := e_bd hf
      refine e_getR hO1 fc_10_7 lk_RX10_61 dX10_moveChair_29 hb11 ?_
      obtain ⟨hO12, hf⟩ := e_if hf
      refine e_getIN hO12 fc_6_1 lk_RX10_183 dX10_moveChair_32 ?_
      refine e_icmp_ne (t := 41) dX10_moveChair_35 (by decide) (fun c => ?_) (fun c => ?_)
      · replace hf := e_ie c hf
        refine e_aload_n 0 dX10_moveChair_41 rfl rfl ?_
        obtain ⟨b13, hb14, hf⟩ := e_bd hf
        refine e_getR hO1 fc_10_7 lk_RX10_61 dX10_moveChair_42 hb14 ?_
        refine e_dupR dX10_moveChair_45 ?_
        obtain ⟨hO15, hf⟩ := e_if hf
        refine e_getLN hO15 fc_6_8 lk_RX10_166 dX10_moveChair_46 ?_
        refine e_iload_n 1 dX10_moveChair_49 rfl rfl ?_
        refine e_callS (st := [.long _, .ref _]) ml_RX10_289 k_X10_bit (m_X10_bit (d := d - 1) (by omega) rfl) rfl rfl (Nat.le_of_ble_eq_true rfl) ⟨by omega, by decide⟩ ⟨Nat.le_refl _, Nat.le_refl _⟩ dX10_moveChair_50 ?_
        refine e_lxor dX10_moveChair_53 ?_
        refine e_putLN hO15 fc_6_8 rfl lk_RX10_166 dX10_moveChair_54 ?_
        refine e_aload_n 0 dX10_moveChair_57 rfl rfl ?_
        obtain ⟨b16, hb17, hf⟩ := e_bd hf
        refine e_getR hO1 fc_10_7 lk_RX10_61 dX10_moveChair_58 hb17 ?_
        obtain ⟨hO18, hf⟩ := e_if hf
        refine e_getLN hO18 fc_6_8 lk_RX10_166 dX10_moveChair_61 ?_
        refine e_callS (st := []) ml_RX10_143 k_J13_bitCount_95d88 (m_J13_bitCount_95d88 (d := d - 1) (by omega) rfl) rfl rfl (Nat.le_of_ble_eq_true rfl) ⟨by omega, by decide⟩ ⟨Nat.le_refl _, Nat.le_refl _⟩ dX10_moveChair_64 ?_
        exact e_iret rfl dX10_moveChair_67 (qW hf)
      · replace hf := e_it c hf
        refine e_bipush (v := (-2)) dX10_moveChair_38 (by decide) ?_
        exact e_iret rfl dX10_moveChair_40 (qW hf)
  · replace hf := e_it c hf
    refine e_iconst (v := (-1)) dX10_moveChair_11 (by decide) ?_
    exact e_iret rfl dX10_moveChair_12 (qW hf)
def f_X10_chair (L : eL) (h : eH) (v0 : Nat) (v1 : Int32) : Option (eH × Int32) :=
  if isO L v0 10 = true then
  (gR h v0 8).bind fun b2 =>
  (gR h v0 7).bind fun b4 =>
  if isO L b2 6 = true then
  (f_X6_copyFrom L h b2 b4).bind fun r7 =>
  (f_X10_moveChair L r7 v0 v1).bind fun r9 =>
  (f_X10_remembered L r9.1 v0 r9.2).bind fun r11 =>
  some (r11.1, r11.2)
  else none
  else none
set_option maxRecDepth 100000 in
set_option maxHeartbeats 4000000 in
theorem m_X10_chair {l : Launch} {d : Nat} {L : eL} {h : eH} {v0 : Nat} {v1 : Int32} {r : eH × Int32} (hd : 6 ≤ d) (hf : f_X10_chair L h v0 v1 = some r) : e_Met l yX10_chair cX10_chair 2 (some .int) d 0 0 true L h [.ref v0, .int v1] (Qx (some (.int r.2)) L r.1) := by
  refine e_metl (by decide) (Nat.le_of_ble_eq_true rfl) (lv := [(0, .ref v0), (1, .int v1)]) rfl ?_
  unfold f_X10_chair at hf
  refine e_aload_n 0 dX10_chair_0 rfl rfl ?_
  obtain ⟨hO1, hf⟩ := e_if hf
  obtain ⟨b2, hb3, hf⟩ := e_bd hf
  refine e_getR hO1 fc_10_8 lk_RX10_65 dX10_chair_1 hb3 ?_
  refine e_aload_n 0 dX10_chair_4 rfl rfl ?_
  obtain ⟨b4, hb5, hf⟩ := e_bd hf
  refine e_getR hO1 fc_10_7 lk_RX10_61 dX10_chair_5 hb5 ?_
  obtain ⟨hO6, hf⟩ := e_if hf
  obtain ⟨r7, hr8, hf⟩ := e_bd hf
  refine e_callV (st := []) ml_RX10_230 k_X6_copyFrom (m_X6_copyFrom (d := d - 1) (by omega) hr8) hO6 ⟨by decide, rfl⟩ rfl rfl (Nat.le_of_ble_eq_true rfl) ⟨by omega, by decide⟩ ⟨Nat.le_refl _, Nat.le_refl _⟩ dX10_chair_8 ?_
  refine e_aload_n 0 dX10_chair_11 rfl rfl ?_
  refine e_aload_n 0 dX10_chair_12 rfl rfl ?_
  refine e_iload_n 1 dX10_chair_13 rfl rfl ?_
  obtain ⟨r9, hr10, hf⟩ := e_bd hf
  refine e_callV (st := [.ref _]) ml_RX10_246 k_X10_moveChair (m_X10_moveChair (d := d - 1) (by omega) hr10) hO1 ⟨by decide, rfl⟩ rfl rfl (Nat.le_of_ble_eq_true rfl) ⟨by omega, by decide⟩ ⟨Nat.le_refl _, Nat.le_refl _⟩ dX10_chair_14 ?_
  obtain ⟨r11, hr12, hf⟩ := e_bd hf
  refine e_callV (st := []) ml_RX10_237 k_X10_remembered (m_X10_remembered (d := d - 1) (by omega) hr12) hO1 ⟨by decide, rfl⟩ rfl rfl (Nat.le_of_ble_eq_true rfl) ⟨by omega, by decide⟩ ⟨Nat.le_refl _, Nat.le_refl _⟩ dX10_chair_17 ?_
  exact e_iret rfl dX10_chair_20 (qW hf)
def f_X10_free (L : eL) (h : eH) (v0 : Nat) : Option Int64 :=
  if isO L v0 10 = true then
  (gR h v0 15).bind fun b2 =>
  if isO L b2 2 = true then
  (gR h v0 7).bind fun b5 =>
  if isO L b5 6 = true then
  some ((gL h b2 4) &&& ((gL h b5 8) ^^^ (-1)))
  else none
  else none
  else none
set_option maxRecDepth 100000 in
set_option maxHeartbeats 4000000 in
theorem m_X10_free {l : Launch} {d : Nat} {L : eL} {h : eH} {v0 : Nat} {r : Int64} (hd : 1 ≤ d) (hf : f_X10_free L h v0 = some r) : e_Met l yX10_free cX10_free 1 (some .long) d 0 0 true L h [.ref v0] (Qx (some (.long r)) L h) := by
  refine e_metl (by decide) (Nat.le_of_ble_eq_true rfl) (lv := [(0, .ref v0)]) rfl ?_
  unfold f_X10_free at hf
  refine e_aload_n 0 dX10_free_0 rfl rfl ?_
  obtain ⟨hO1, hf⟩ := e_if hf
  obtain ⟨b2, hb3, hf⟩ := e_bd hf
  refine e_getR hO1 fc_10_15 lk_RX10_92 dX10_free_1 hb3 ?_
  obtain ⟨hO4, hf⟩ := e_if hf
  refine e_getLN hO4 fc_2_4 lk_RX10_128 dX10_free_4 ?_
  refine e_aload_n 0 dX10_free_7 rfl rfl ?_
  obtain ⟨b5, hb6, hf⟩ := e_bd hf
  refine e_getR hO1 fc_10_7 lk_RX10_61 dX10_free_8 hb6 ?_
  obtain ⟨hO7, hf⟩ := e_if hf
  refine e_getLN hO7 fc_6_8 lk_RX10_166 dX10_free_11 ?_
  refine e_ldc2 kc_RX10_305 dX10_free_14 ?_
  refine e_lxor dX10_free_17 ?_
  refine e_land dX10_free_18 ?_
  exact e_lret rfl dX10_free_19 (qPL hf)
def f_X10_carry (L : eL) (h : eH) (v0 : Nat) (v1 : Int32) (v2 : Int32) : Option (eH × Int32) :=
  if isO L v0 10 = true then
  (gR h v0 15).bind fun b2 =>
  if isO L b2 2 = true then
  (f_X2_has L h b2 v1).bind fun r5 =>
  if r5 = 0 then
    some (h, (-1))
  else
    if v2 < 0 then
      some (h, (-1))
    else
      if v2 < 4 then
        (f_X10_free L h v0).bind fun r7 =>
        if (f_X10_holds r7 v1) = 0 then
          some (h, (-2))
        else
          (gR h v0 8).bind fun b9 =>
          (gR h v0 7).bind fun b11 =>
          if isO L b9 6 = true then
          (f_X6_copyFrom L h b9 b11).bind fun r14 =>
          (gR r14 v0 7).bind fun b16 =>
          if isO L b16 6 = true then
          (gR r14 v0 7).bind fun b19 =>
          if isO L b19 6 = true then
          (gR (sI r14 b19 1 v1) v0 7).bind fun b22 =>
          if isO L b22 6 = true then
          (f_X10_remembered L (sI (sI r14 b19 1 v1) b22 2 v2) v0 (gI r14 b16 1)).bind fun r25 =>
          some (r25.1, r25.2)
          else none
          else none
          else none
          else none
      else
        some (h, (-1))
  else none
  else none
set_option maxRecDepth 100000 in
set_option maxHeartbeats 4000000 in
theorem m_X10_carry {l : Launch} {d : Nat} {L : eL} {h : eH} {v0 : Nat} {v1 : Int32} {v2 : Int32} {r : eH × Int32} (hd : 6 ≤ d) (hf : f_X10_carry L h v0 v1 v2 = some r) : e_Met l yX10_carry cX10_carry 4 (some .int) d 0 0 true L h [.ref v0, .int v1, .int v2] (Qx (some (.int r.2)) L r.1) := by
  refine e_metl (by decide) (Nat.le_of_ble_eq_true rfl) (lv := [(0, .ref v0), (1, .int v1), (2, .int v2)]) rfl ?_
  unfold f_X10_carry at hf
  refine e_aload_n 0 dX10_carry_0 rfl rfl ?_
  obtain ⟨hO1, hf⟩ := e_if hf
  obtain ⟨b2, hb3, hf⟩ := e_bd hf
  refine e_getR hO1 fc_10_15 lk_RX10_92 dX10_carry_1 hb3 ?_
  refine e_iload_n 1 dX10_carry_4 rfl rfl ?_
  obtain ⟨hO4, hf⟩ := e_if hf
  obtain ⟨r5, hr6, hf⟩ := e_bd hf
  refine e_callV (st := []) ml_RX10_152 k_X2_has (m_X2_has (d := d - 1) (by omega) hr6) hO4 ⟨by decide, rfl⟩ rfl rfl (Nat.le_of_ble_eq_true rfl) ⟨by omega, by decide⟩ ⟨Nat.le_refl _, Nat.le_refl _⟩ dX10_carry_5 ?_
  refine e_if_eq (t := 20) dX10_carry_8 (by decide) (fun c => ?_) (fun c => ?_)
  · replace hf := e_it c hf
    refine e_iconst (v := (-1)) dX10_carry_20 (by decide) ?_
    exact e_iret rfl dX10_carry_21 (qW hf)
  · replace hf := e_ie c hf
    refine e_iload_n 2 dX10_carry_11 rfl rfl ?_
    refine e_if_lt (t := 20) dX10_carry_12 (by decide) (fun c => ?_) (fun c => ?_)
    · replace hf := e_it c hf
      refine e_iconst (v := (-1)) dX10_carry_20 (by decide) ?_
      exact e_iret rfl dX10_carry_21 (qW hf)
    · replace hf := e_ie c hf
      refine e_iload_n 2 dX10_carry_15 rfl rfl ?_
      refine e_iconst (v := 4) dX10_carry_16 (by decide) ?_
      refine e_icmp_lt (t := 22) dX10_carry_17 (by decide) (fun c => ?_) (fun c => ?_)
      · replace hf := e_it c hf
        refine e_aload_n 0 dX10_carry_22 rfl rfl ?_
        obtain ⟨r7, hr8, hf⟩ := e_bd hf
        refine e_callV (st := []) ml_RX10_186 k_X10_free (m_X10_free (d := d - 1) (by omega) hr8) hO1 ⟨by decide, rfl⟩ rfl rfl (Nat.le_of_ble_eq_true rfl) ⟨by omega, by decide⟩ ⟨Nat.le_refl _, Nat.le_refl _⟩ dX10_carry_23 ?_
        refine e_iload_n 1 dX10_carry_26 rfl rfl ?_
        refine e_callS (st := []) ml_RX10_169 k_X10_holds (m_X10_holds (d := d - 1) (by omega) rfl) rfl rfl (Nat.le_of_ble_eq_true rfl) ⟨by omega, by decide⟩ ⟨Nat.le_refl _, Nat.le_refl _⟩ dX10_carry_27 ?_
        refine e_if_ne (t := 36) dX10_carry_30 (by decide) (fun c => ?_) (fun c => ?_)
        · replace hf := e_ie c hf
          refine e_aload_n 0 dX10_carry_36 rfl rfl ?_
          obtain ⟨b9, hb10, hf⟩ := e_bd hf
          refine e_getR hO1 fc_10_8 lk_RX10_65 dX10_carry_37 hb10 ?_
          refine e_aload_n 0 dX10_carry_40 rfl rfl ?_
          obtain ⟨b11, hb12, hf⟩ := e_bd hf
          refine e_getR hO1 fc_10_7 lk_RX10_61 dX10_carry_41 hb12 ?_
          obtain ⟨hO13, hf⟩ := e_if hf
          obtain ⟨r14, hr15, hf⟩ := e_bd hf
          refine e_callV (st := []) ml_RX10_230 k_X6_copyFrom (m_X6_copyFrom (d := d - 1) (by omega) hr15) hO13 ⟨by decide, rfl⟩ rfl rfl (Nat.le_of_ble_eq_true rfl) ⟨by omega, by decide⟩ ⟨Nat.le_refl _, Nat.le_refl _⟩ dX10_carry_44 ?_
          refine e_aload_n 0 dX10_carry_47 rfl rfl ?_
          obtain ⟨b16, hb17, hf⟩ := e_bd hf
          refine e_getR hO1 fc_10_7 lk_RX10_61 dX10_carry_48 hb17 ?_
          obtain ⟨hO18, hf⟩ := e_if hf
          refine e_getIN hO18 fc_6_1 lk_RX10_183 dX10_carry_51 ?_
          refine e_istore_n (lv' := [(3, .int _), (0, .ref _), (1, .int _), (2, .int _)]) dX10_carry_54 rfl (by decide) rfl ?_
          refine e_aload_n 1 dX10_carry_55 rfl rfl ?_
          obtain ⟨b19, hb20, hf⟩ := e_bd hf
          refine e_getR hO1 fc_10_7 lk_RX10_61 dX10_carry_56 hb20 ?_
          refine e_iload_n 2 dX10_carry_59 rfl rfl ?_
          obtain ⟨hO21, hf⟩ := e_if hf
          refine e_putIN hO21 fc_6_1 rfl lk_RX10_183 dX10_carry_60 ?_
          refine e_aload_n 1 dX10_carry_63 rfl rfl ?_
          obtain ⟨b22, hb23, hf⟩ := e_bd hf
          refine e_getR hO1 fc_10_7 lk_RX10_61 dX10_carry_64 hb23 ?_
          refine e_iload_n 3 dX10_carry_67 rfl rfl ?_
          obtain ⟨hO24, hf⟩ := e_if hf
          refine e_putIN hO24 fc_6_2 rfl lk_RX10_192 dX10_carry_68 ?_
          refine e_aload_n 1 dX10_carry_71 rfl rfl ?_
          refine e_iload_n 0 dX10_carry_72 rfl rfl ?_
          obtain ⟨r25, hr26, hf⟩ := e_bd hf
          refine e_callV (st := []) ml_RX10_237 k_X10_remembered (m_X10_remembered (d := d - 1) (by omega) hr26) hO1 ⟨by decide, rfl⟩ rfl rfl (Nat.le_of_ble_eq_true rfl) ⟨by omega, by decide⟩ ⟨Nat.le_refl _, Nat.le_refl _⟩ dX10_carry_73 ?_
          exact e_iret rfl dX10_carry_76 (qW hf)
        · replace hf := e_it c hf
          refine e_bipush (v := (-2)) dX10_carry_33 (by decide) ?_
          exact e_iret rfl dX10_carry_35 (qW hf)
      · replace hf := e_ie c hf
        refine e_iconst (v := (-1)) dX10_carry_20 (by decide) ?_
        exact e_iret rfl dX10_carry_21 (qW hf)
def f_X10_loadUp (L : eL) (h : eH) (v0 : Nat) (v1 : Int32) : Option (eH × Int32) :=
  if v1 < 1 then
    some (h, (-1))
  else
    if v1 ≤ 999 then
      if isO L v0 10 = true then
      (gR h v0 7).bind fun b2 =>
      if isO L b2 6 = true then
      (gR h v0 15).bind fun b5 =>
      if isO L b5 2 = true then
      if (gI h b2 1) = (gI h b5 3) then
        (gR h v0 7).bind fun b8 =>
        if isO L b8 6 = true then
        (gR h v0 7).bind fun b11 =>
        if isO L b11 6 = true then
        (gR (sI h b11 3 v1) v0 7).bind fun b14 =>
        if isO L b14 6 = true then
        some (sI (sI h b11 3 v1) b14 4 0, gI h b8 4)
        else none
        else none
        else none
      else
        some (h, (-2))
      else none
      else none
      else none
    else
      some (h, (-1))
set_option maxRecDepth 100000 in
set_option maxHeartbeats 4000000 in
theorem m_X10_loadUp {l : Launch} {d : Nat} {L : eL} {h : eH} {v0 : Nat} {v1 : Int32} {r : eH × Int32} (hd : 1 ≤ d) (hf : f_X10_loadUp L h v0 v1 = some r) : e_Met l yX10_loadUp cX10_loadUp 3 (some .int) d 0 0 true L h [.ref v0, .int v1] (Qx (some (.int r.2)) L r.1) := by
  refine e_metl (by decide) (Nat.le_of_ble_eq_true rfl) (lv := [(0, .ref v0), (1, .int v1)]) rfl ?_
  unfold f_X10_loadUp at hf
  refine e_iload_n 1 dX10_loadUp_0 rfl rfl ?_
  refine e_iconst (v := 1) dX10_loadUp_1 (by decide) ?_
  refine e_icmp_lt (t := 12) dX10_loadUp_2 (by decide) (fun c => ?_) (fun c => ?_)
  · replace hf := e_it c hf
    refine e_iconst (v := (-1)) dX10_loadUp_12 (by decide) ?_
    exact e_iret rfl dX10_loadUp_13 (qW hf)
  · replace hf := e_ie c hf
    refine e_iload_n 1 dX10_loadUp_5 rfl rfl ?_
    refine e_sipush (v := 999) dX10_loadUp_6 (by decide) ?_
    refine e_icmp_le (t := 14) dX10_loadUp_9 (by decide) (fun c => ?_) (fun c => ?_)
    · replace hf := e_it c hf
      refine e_aload_n 0 dX10_loadUp_14 rfl rfl ?_
      obtain ⟨hO1, hf⟩ := e_if hf
      obtain ⟨b2, hb3, hf⟩ := e_bd hf
      refine e_getR hO1 fc_10_7 lk_RX10_61 dX10_loadUp_15 hb3 ?_
      obtain ⟨hO4, hf⟩ := e_if hf
      refine e_getIN hO4 fc_6_1 lk_RX10_183 dX10_loadUp_18 ?_
      refine e_aload_n 0 dX10_loadUp_21 rfl rfl ?_
      obtain ⟨b5, hb6, hf⟩ := e_bd hf
      refine e_getR hO1 fc_10_15 lk_RX10_92 dX10_loadUp_22 hb6 ?_
      obtain ⟨hO7, hf⟩ := e_if hf
      refine e_getIN hO7 fc_2_3 lk_RX10_180 dX10_loadUp_25 ?_
      refine e_icmp_eq (t := 34) dX10_loadUp_28 (by decide) (fun c => ?_) (fun c => ?_)
      · replace hf := e_it c hf
        refine e_aload_n 0 dX10_loadUp_34 rfl rfl ?_
        obtain ⟨b8, hb9, hf⟩ := e_bd hf
        refine e_getR hO1 fc_10_7 lk_RX10_61 dX10_loadUp_35 hb9 ?_
        obtain ⟨hO10, hf⟩ := e_if hf
        refine e_getIN hO10 fc_6_4 lk_RX10_198 dX10_loadUp_38 ?_
        refine e_istore_n (lv' := [(2, .int _), (0, .ref _), (1, .int _)]) dX10_loadUp_41 rfl (by decide) rfl ?_
        refine e_aload_n 1 dX10_loadUp_42 rfl rfl ?_
        obtain ⟨b11, hb12, hf⟩ := e_bd hf
        refine e_getR hO1 fc_10_7 lk_RX10_61 dX10_loadUp_43 hb12 ?_
        refine e_iload_n 2 dX10_loadUp_46 rfl rfl ?_
        obtain ⟨hO13, hf⟩ := e_if hf
        refine e_putIN hO13 fc_6_3 rfl lk_RX10_195 dX10_loadUp_47 ?_
        refine e_aload_n 1 dX10_loadUp_50 rfl rfl ?_
        obtain ⟨b14, hb15, hf⟩ := e_bd hf
        refine e_getR hO1 fc_10_7 lk_RX10_61 dX10_loadUp_51 hb15 ?_
        refine e_iconst (v := 0) dX10_loadUp_54 (by decide) ?_
        obtain ⟨hO16, hf⟩ := e_if hf
        refine e_putIN hO16 fc_6_4 rfl lk_RX10_198 dX10_loadUp_55 ?_
        refine e_iload_n 0 dX10_loadUp_58 rfl rfl ?_
        exact e_iret rfl dX10_loadUp_59 (qW hf)
      · replace hf := e_ie c hf
        refine e_bipush (v := (-2)) dX10_loadUp_31 (by decide) ?_
        exact e_iret rfl dX10_loadUp_33 (qW hf)
    · replace hf := e_ie c hf
      refine e_iconst (v := (-1)) dX10_loadUp_12 (by decide) ?_
      exact e_iret rfl dX10_loadUp_13 (qW hf)
def f_X10_load (L : eL) (h : eH) (v0 : Nat) (v1 : Int32) : Option (eH × Int32) :=
  if isO L v0 10 = true then
  (gR h v0 8).bind fun b2 =>
  (gR h v0 7).bind fun b4 =>
  if isO L b2 6 = true then
  (f_X6_copyFrom L h b2 b4).bind fun r7 =>
  (f_X10_loadUp L r7 v0 v1).bind fun r9 =>
  (f_X10_remembered L r9.1 v0 r9.2).bind fun r11 =>
  some (r11.1, r11.2)
  else none
  else none
set_option maxRecDepth 100000 in
set_option maxHeartbeats 4000000 in
theorem m_X10_load {l : Launch} {d : Nat} {L : eL} {h : eH} {v0 : Nat} {v1 : Int32} {r : eH × Int32} (hd : 6 ≤ d) (hf : f_X10_load L h v0 v1 = some r) : e_Met l yX10_load cX10_load 2 (some .int) d 0 0 true L h [.ref v0, .int v1] (Qx (some (.int r.2)) L r.1) := by
  refine e_metl (by decide) (Nat.le_of_ble_eq_true rfl) (lv := [(0, .ref v0), (1, .int v1)]) rfl ?_
  unfold f_X10_load at hf
  refine e_aload_n 0 dX10_load_0 rfl rfl ?_
  obtain ⟨hO1, hf⟩ := e_if hf
  obtain ⟨b2, hb3, hf⟩ := e_bd hf
  refine e_getR hO1 fc_10_8 lk_RX10_65 dX10_load_1 hb3 ?_
  refine e_aload_n 0 dX10_load_4 rfl rfl ?_
  obtain ⟨b4, hb5, hf⟩ := e_bd hf
  refine e_getR hO1 fc_10_7 lk_RX10_61 dX10_load_5 hb5 ?_
  obtain ⟨hO6, hf⟩ := e_if hf
  obtain ⟨r7, hr8, hf⟩ := e_bd hf
  refine e_callV (st := []) ml_RX10_230 k_X6_copyFrom (m_X6_copyFrom (d := d - 1) (by omega) hr8) hO6 ⟨by decide, rfl⟩ rfl rfl (Nat.le_of_ble_eq_true rfl) ⟨by omega, by decide⟩ ⟨Nat.le_refl _, Nat.le_refl _⟩ dX10_load_8 ?_
  refine e_aload_n 0 dX10_load_11 rfl rfl ?_
  refine e_aload_n 0 dX10_load_12 rfl rfl ?_
  refine e_iload_n 1 dX10_load_13 rfl rfl ?_
  obtain ⟨r9, hr10, hf⟩ := e_bd hf
  refine e_callV (st := [.ref _]) ml_RX10_249 k_X10_loadUp (m_X10_loadUp (d := d - 1) (by omega) hr10) hO1 ⟨by decide, rfl⟩ rfl rfl (Nat.le_of_ble_eq_true rfl) ⟨by omega, by decide⟩ ⟨Nat.le_refl _, Nat.le_refl _⟩ dX10_load_14 ?_
  obtain ⟨r11, hr12, hf⟩ := e_bd hf
  refine e_callV (st := []) ml_RX10_237 k_X10_remembered (m_X10_remembered (d := d - 1) (by omega) hr12) hO1 ⟨by decide, rfl⟩ rfl rfl (Nat.le_of_ble_eq_true rfl) ⟨by omega, by decide⟩ ⟨Nat.le_refl _, Nat.le_refl _⟩ dX10_load_17 ?_
  exact e_iret rfl dX10_load_20 (qW hf)
def f_X10_digitsBehind (v0 : Int32) : Int32 :=
  if v0 = 99 then
    2
  else if v0 = 100 then
    1
  else if v0 = 108 then
    2
  else if v0 = 115 then
    1
  else if v0 = 116 then
    1
  else
    0
set_option maxRecDepth 100000 in
set_option maxHeartbeats 4000000 in
theorem m_X10_digitsBehind {l : Launch} {d : Nat} {L : eL} {h : eH} {v0 : Int32} {r : Int32} (hd : 1 ≤ d) (hf : f_X10_digitsBehind v0 = r) : e_Met l yX10_digitsBehind cX10_digitsBehind 1 (some .int) d 0 0 true L h [.int v0] (Qx (some (.int r)) L h) := by
  refine e_metl (by decide) (Nat.le_of_ble_eq_true rfl) (lv := [(0, .int v0)]) rfl ?_
  unfold f_X10_digitsBehind at hf
  refine e_iload_n 0 dX10_digitsBehind_0 rfl rfl ?_
  by_cases c99 : v0 = 99
  · replace hf := e_it c99 hf
    refine e_look (t := 54) dX10_digitsBehind_1 (by decide) (by first | (rw [c99]; done) | (rw [c99]; rfl)) (by decide) ?_
    refine e_iconst (v := 2) dX10_digitsBehind_54 (by decide) ?_
    exact e_iret rfl dX10_digitsBehind_55 (qT hf)
  replace hf := e_ie c99 hf
  by_cases c100 : v0 = 100
  · replace hf := e_it c100 hf
    refine e_look (t := 52) dX10_digitsBehind_1 (by decide) (by first | (rw [c100]; done) | (rw [c100]; rfl)) (by decide) ?_
    refine e_iconst (v := 1) dX10_digitsBehind_52 (by decide) ?_
    exact e_iret rfl dX10_digitsBehind_53 (qT hf)
  replace hf := e_ie c100 hf
  by_cases c108 : v0 = 108
  · replace hf := e_it c108 hf
    refine e_look (t := 54) dX10_digitsBehind_1 (by decide) (by first | (rw [c108]; done) | (rw [c108]; rfl)) (by decide) ?_
    refine e_iconst (v := 2) dX10_digitsBehind_54 (by decide) ?_
    exact e_iret rfl dX10_digitsBehind_55 (qT hf)
  replace hf := e_ie c108 hf
  by_cases c115 : v0 = 115
  · replace hf := e_it c115 hf
    refine e_look (t := 52) dX10_digitsBehind_1 (by decide) (by first | (rw [c115]; done) | (rw [c115]; rfl)) (by decide) ?_
    refine e_iconst (v := 1) dX10_digitsBehind_52 (by decide) ?_
    exact e_iret rfl dX10_digitsBehind_53 (qT hf)
  replace hf := e_ie c115 hf
  by_cases c116 : v0 = 116
  · replace hf := e_it c116 hf
    refine e_look (t := 52) dX10_digitsBehind_1 (by decide) (by first | (rw [c116]; done) | (rw [c116]; rfl)) (by decide) ?_
    refine e_iconst (v := 1) dX10_digitsBehind_52 (by decide) ?_
    exact e_iret rfl dX10_digitsBehind_53 (qT hf)
  replace hf := e_ie c116 hf
  refine e_look (t := 56) dX10_digitsBehind_1 (by decide) (by simp only [Op.lookupswitch.offset]; rw [if_neg (e_ine (j := 99) c99), if_neg (e_ine (j := 100) c100), if_neg (e_ine (j := 108) c108), if_neg (e_ine (j := 115) c115), if_neg (e_ine (j := 116) c116)]) (by decide) ?_
  refine e_iconst (v := 0) dX10_digitsBehind_56 (by decide) ?_
  exact e_iret rfl dX10_digitsBehind_57 (qT hf)
def f_X10_canStandBehind_J38 (v1 : Int32) (s0 : Int32) (s1 : Int32) : Int32 :=
  if s0 < s1 then
    0
  else
    if 57 < v1 then
      0
    else
      1
set_option maxRecDepth 100000 in
set_option maxHeartbeats 4000000 in
theorem m_X10_canStandBehind_J38 {l : Launch} {d : Nat} {L : eL} {h : eH} {r : Int32} (hd : 1 ≤ d)  : ∀ (v1 : Int32) (s0 : Int32) (s1 : Int32), f_X10_canStandBehind_J38 v1 s0 s1 = r → E l yX10_canStandBehind cX10_canStandBehind 2 (some .boolean) (e_rm d 0 0) 0 0 true L (Qx (some (.int r)) L h) L h 0 0 38 [(1, .int v1)] [.int s1, .int s0] := by
  intro v1 s0 s1 hf
  unfold f_X10_canStandBehind_J38 at hf
  refine e_icmp_lt (t := 51) dX10_canStandBehind_38 (by decide) (fun c => ?_) (fun c => ?_)
  · replace hf := e_it c hf
    refine e_iconst (v := 0) dX10_canStandBehind_51 (by decide) ?_
    exact e_zret (ty := .boolean) rfl rfl dX10_canStandBehind_52 (qT hf)
  · replace hf := e_ie c hf
    refine e_iload_n 0 dX10_canStandBehind_41 rfl rfl ?_
    refine e_bipush (v := 57) dX10_canStandBehind_42 (by decide) ?_
    refine e_icmp_gt (t := 51) dX10_canStandBehind_44 (by decide) (fun c => ?_) (fun c => ?_)
    · replace hf := e_it c hf
      refine e_iconst (v := 0) dX10_canStandBehind_51 (by decide) ?_
      exact e_zret (ty := .boolean) rfl rfl dX10_canStandBehind_52 (qT hf)
    · replace hf := e_ie c hf
      refine e_iconst (v := 1) dX10_canStandBehind_47 (by decide) ?_
      refine e_goto (t := 52) dX10_canStandBehind_48 (by decide) ?_
      exact e_zret (ty := .boolean) rfl rfl dX10_canStandBehind_52 (qT hf)
def f_X10_canStandBehind (v0 : Int32) (v1 : Int32) : Int32 :=
  if v0 = 116 then
    if v1 < 48 then
      0
    else
      if 51 < v1 then
        0
      else
        1
  else
    if v0 = 100 then
      f_X10_canStandBehind_J38 v1 v1 49
    else
      f_X10_canStandBehind_J38 v1 v1 48
set_option maxRecDepth 100000 in
set_option maxHeartbeats 4000000 in
theorem m_X10_canStandBehind {l : Launch} {d : Nat} {L : eL} {h : eH} {v0 : Int32} {v1 : Int32} {r : Int32} (hd : 1 ≤ d) (hf : f_X10_canStandBehind v0 v1 = r) : e_Met l yX10_canStandBehind cX10_canStandBehind 2 (some .boolean) d 0 0 true L h [.int v0, .int v1] (Qx (some (.int r)) L h) := by
  refine e_metl (by decide) (Nat.le_of_ble_eq_true rfl) (lv := [(0, .int v0), (1, .int v1)]) rfl ?_
  unfold f_X10_canStandBehind at hf
  refine e_iload_n 0 dX10_canStandBehind_0 rfl rfl ?_
  refine e_bipush (v := 116) dX10_canStandBehind_1 (by decide) ?_
  refine e_icmp_ne (t := 24) dX10_canStandBehind_3 (by decide) (fun c => ?_) (fun c => ?_)
  · replace hf := e_ie c hf
    refine e_iload_n 1 dX10_canStandBehind_24 rfl rfl ?_
    refine e_iload_n 0 dX10_canStandBehind_25 rfl rfl ?_
    refine e_bipush (v := 100) dX10_canStandBehind_26 (by decide) ?_
    refine e_icmp_ne (t := 36) dX10_canStandBehind_28 (by decide) (fun c => ?_) (fun c => ?_)
    · replace hf := e_ie c hf
      refine e_bipush (v := 48) dX10_canStandBehind_36 (by decide) ?_
      refine e_sub [1] rfl ?_
      exact m_X10_canStandBehind_J38 hd _ _ _ hf
    · replace hf := e_it c hf
      refine e_bipush (v := 49) dX10_canStandBehind_31 (by decide) ?_
      refine e_goto (t := 38) dX10_canStandBehind_33 (by decide) ?_
      refine e_sub [1] rfl ?_
      exact m_X10_canStandBehind_J38 hd _ _ _ hf
  · replace hf := e_it c hf
    refine e_iload_n 1 dX10_canStandBehind_6 rfl rfl ?_
    refine e_bipush (v := 48) dX10_canStandBehind_7 (by decide) ?_
    refine e_icmp_lt (t := 22) dX10_canStandBehind_9 (by decide) (fun c => ?_) (fun c => ?_)
    · replace hf := e_it c hf
      refine e_iconst (v := 0) dX10_canStandBehind_22 (by decide) ?_
      exact e_zret (ty := .boolean) rfl rfl dX10_canStandBehind_23 (qT hf)
    · replace hf := e_ie c hf
      refine e_iload_n 1 dX10_canStandBehind_12 rfl rfl ?_
      refine e_bipush (v := 51) dX10_canStandBehind_13 (by decide) ?_
      refine e_icmp_gt (t := 22) dX10_canStandBehind_15 (by decide) (fun c => ?_) (fun c => ?_)
      · replace hf := e_it c hf
        refine e_iconst (v := 0) dX10_canStandBehind_22 (by decide) ?_
        exact e_zret (ty := .boolean) rfl rfl dX10_canStandBehind_23 (qT hf)
      · replace hf := e_ie c hf
        refine e_iconst (v := 1) dX10_canStandBehind_18 (by decide) ?_
        refine e_goto (t := 23) dX10_canStandBehind_19 (by decide) ?_
        exact e_zret (ty := .boolean) rfl rfl dX10_canStandBehind_23 (qT hf)
def f_X10_wrongSignOfRun_L20 (L : eL) (h : eH) : Nat → (Int32 → Option Int32) → (Int32 → Option Int32) → (Nat → Int32 → Int32 → Option Int32) → Nat → Int32 → Int32 → Int32 → Int32 → Option Int32
  | 0, _, _, _, _, _, _, _, _ => none
  | n + 1, k54, k72, k81, v0, v1, v2, v3, v4 =>
    if v1 ≤ v4 then
      k81 v0 v1 v3
    else
      if isO L v0 10 = true then
      (gR h v0 0).bind fun b8 =>
      if isO L b8 8 = true then
      (f_X8_at L h b8 v4).bind fun r11 =>
      if v3 = 0 then
        if (f_X10_digitsBehind r11) = 0 then
          k54 v4
        else
          f_X10_wrongSignOfRun_L20 L h n k54 k72 k81 v0 v1 r11 (f_X10_digitsBehind r11) (v4 + Int32.ofInt 1)
      else
        if (f_X10_canStandBehind v2 r11) = 0 then
          k72 v4
        else
          f_X10_wrongSignOfRun_L20 L h n k54 k72 k81 v0 v1 v2 (v3 + Int32.ofInt (-1)) (v4 + Int32.ofInt 1)
      else none
      else none
set_option maxRecDepth 100000 in
set_option maxHeartbeats 4000000 in
theorem m_X10_wrongSignOfRun_L20 {l : Launch} {d : Nat} {L : eL} {h : eH} {r : Int32} {k54 : Int32 → Option Int32} {k72 : Int32 → Option Int32} {k81 : Nat → Int32 → Int32 → Option Int32} (hd : 3 ≤ d) (hk54 : ∀ (v4 : Int32), k54 v4 = some r → E l yX10_wrongSignOfRun cX10_wrongSignOfRun 6 (some .int) (e_rm d 0 0) 0 0 true L (Qx (some (.int r)) L h) L h 0 0 54 [(4, .int v4)] []) (hk72 : ∀ (v4 : Int32), k72 v4 = some r → E l yX10_wrongSignOfRun cX10_wrongSignOfRun 6 (some .int) (e_rm d 0 0) 0 0 true L (Qx (some (.int r)) L h) L h 0 0 72 [(4, .int v4)] []) (hk81 : ∀ (v0 : Nat) (v1 : Int32) (v3 : Int32), k81 v0 v1 v3 = some r → E l yX10_wrongSignOfRun cX10_wrongSignOfRun 6 (some .int) (e_rm d 0 0) 0 0 true L (Qx (some (.int r)) L h) L h 0 0 81 [(0, .ref v0), (1, .int v1), (3, .int v3)] []) : ∀ (n : Nat) (v0 : Nat) (v1 : Int32) (v2 : Int32) (v3 : Int32) (v4 : Int32), f_X10_wrongSignOfRun_L20 L h n k54 k72 k81 v0 v1 v2 v3 v4 = some r → E l yX10_wrongSignOfRun cX10_wrongSignOfRun 6 (some .int) (e_rm d 0 0) 0 0 true L (Qx (some (.int r)) L h) L h 0 0 20 [(0, .ref v0), (1, .int v1), (2, .int v2), (3, .int v3), (4, .int v4)] [] := by
  intro n
  induction n with
  | zero => intro v0 v1 v2 v3 v4 hf; exact absurd hf (by simp [f_X10_wrongSignOfRun_L20])
  | succ n ih =>
    intro v0 v1 v2 v3 v4 hf
    unfold f_X10_wrongSignOfRun_L20 at hf
    refine e_iload 4 dX10_wrongSignOfRun_20 rfl ?_
    refine e_iload_n 1 dX10_wrongSignOfRun_22 rfl rfl ?_
    refine e_icmp_ge (t := 81) dX10_wrongSignOfRun_23 (by decide) (fun c => ?_) (fun c => ?_)
    · replace hf := e_it c hf
      refine e_sub [0, 1, 3] rfl ?_
      exact hk81 _ _ _ hf
    · replace hf := e_ie c hf
      refine e_aload_n 0 dX10_wrongSignOfRun_26 rfl rfl ?_
      obtain ⟨hO7, hf⟩ := e_if hf
      obtain ⟨b8, hb9, hf⟩ := e_bd hf
      refine e_getR hO7 fc_10_0 lk_RX10_12 dX10_wrongSignOfRun_27 hb9 ?_
      refine e_iload 4 dX10_wrongSignOfRun_30 rfl ?_
      obtain ⟨hO10, hf⟩ := e_if hf
      obtain ⟨r11, hr12, hf⟩ := e_bd hf
      refine e_callV (st := []) ml_RX10_258 k_X8_at (m_X8_at (d := d - 1) (by omega) hr12) hO10 ⟨by decide, rfl⟩ rfl rfl (Nat.le_of_ble_eq_true rfl) ⟨by omega, by decide⟩ ⟨Nat.le_refl _, Nat.le_refl _⟩ dX10_wrongSignOfRun_32 ?_
      refine e_istore (lv' := [(5, .int _), (0, .ref _), (1, .int _), (2, .int _), (3, .int _), (4, .int _)]) dX10_wrongSignOfRun_35 (by decide) rfl ?_
      refine e_iload_n 4 dX10_wrongSignOfRun_37 rfl rfl ?_
      refine e_if_ne (t := 57) dX10_wrongSignOfRun_38 (by decide) (fun c => ?_) (fun c => ?_)
      · replace hf := e_ie c hf
        refine e_iload_n 3 dX10_wrongSignOfRun_57 rfl rfl ?_
        refine e_iload 0 dX10_wrongSignOfRun_58 rfl ?_
        refine e_callS (st := []) ml_RX10_298 k_X10_canStandBehind (m_X10_canStandBehind (d := d - 1) (by omega) rfl) rfl rfl (Nat.le_of_ble_eq_true rfl) ⟨by omega, by decide⟩ ⟨Nat.le_refl _, Nat.le_refl _⟩ dX10_wrongSignOfRun_60 ?_
        refine e_if_eq (t := 72) dX10_wrongSignOfRun_63 (by decide) (fun c => ?_) (fun c => ?_)
        · replace hf := e_it c hf
          refine e_sub [5] rfl ?_
          exact hk72 _ hf
        · replace hf := e_ie c hf
          refine e_iinc (lv' := [(3, .int _), (5, .int _), (0, .ref _), (1, .int _), (2, .int _), (4, .int _)]) 4 dX10_wrongSignOfRun_66 rfl (by decide) rfl ?_
          refine e_goto (t := 75) dX10_wrongSignOfRun_69 (by decide) ?_
          refine e_iinc (lv' := [(4, .int _), (3, .int _), (5, .int _), (0, .ref _), (1, .int _), (2, .int _)]) 5 dX10_wrongSignOfRun_75 rfl (by decide) rfl ?_
          refine e_goto (t := 20) dX10_wrongSignOfRun_78 (by decide) ?_
          refine e_sub [3, 4, 5, 1, 0] rfl ?_
          exact ih _ _ _ _ _ hf
      · replace hf := e_it c hf
        refine e_iload 0 dX10_wrongSignOfRun_41 rfl ?_
        refine e_istore_n (lv' := [(2, .int _), (5, .int _), (0, .ref _), (1, .int _), (3, .int _), (4, .int _)]) dX10_wrongSignOfRun_43 rfl (by decide) rfl ?_
        refine e_iload 1 dX10_wrongSignOfRun_44 rfl ?_
        refine e_callS (st := []) ml_RX10_261 k_X10_digitsBehind (m_X10_digitsBehind (d := d - 1) (by omega) rfl) rfl rfl (Nat.le_of_ble_eq_true rfl) ⟨by omega, by decide⟩ ⟨Nat.le_refl _, Nat.le_refl _⟩ dX10_wrongSignOfRun_46 ?_
        refine e_istore_n (lv' := [(3, .int _), (2, .int _), (5, .int _), (0, .ref _), (1, .int _), (4, .int _)]) dX10_wrongSignOfRun_49 rfl (by decide) rfl ?_
        refine e_iload_n 0 dX10_wrongSignOfRun_50 rfl rfl ?_
        refine e_if_ne (t := 75) dX10_wrongSignOfRun_51 (by decide) (fun c => ?_) (fun c => ?_)
        · replace hf := e_ie c hf
          refine e_iinc (lv' := [(4, .int _), (3, .int _), (2, .int _), (5, .int _), (0, .ref _), (1, .int _)]) 5 dX10_wrongSignOfRun_75 rfl (by decide) rfl ?_
          refine e_goto (t := 20) dX10_wrongSignOfRun_78 (by decide) ?_
          refine e_sub [4, 5, 2, 1, 0] rfl ?_
          exact ih _ _ _ _ _ hf
        · replace hf := e_it c hf
          refine e_sub [5] rfl ?_
          exact hk54 _ hf
def f_X10_wrongSignOfRun (L : eL) (h : eH) (v0 : Nat) : Option Int32 :=
  if isO L v0 10 = true then
  (gR h v0 0).bind fun b2 =>
  if isO L b2 8 = true then
  (f_X8_size L h b2).bind fun r5 =>
  f_X10_wrongSignOfRun_L20 L h e_fu (fun (w4_13 : Int32) =>
    some w4_13) (fun (w4_14 : Int32) =>
    some w4_14) (fun (w0_15 : Nat) (w1_16 : Int32) (w3_17 : Int32) =>
    if 0 < w3_17 then
      some w1_16
    else
      if isO L w0_15 10 = true then
      (gR h w0_15 0).bind fun b19 =>
      if isO L b19 8 = true then
      (f_X8_size L h b19).bind fun r22 =>
      if r22 ≤ 60 then
        some (-1)
      else
        some w1_16
      else none
      else none) v0 (mnI r5 60) (-1) 0 0
  else none
  else none
set_option maxRecDepth 100000 in
set_option maxHeartbeats 4000000 in
theorem m_X10_wrongSignOfRun {l : Launch} {d : Nat} {L : eL} {h : eH} {v0 : Nat} {r : Int32} (hd : 3 ≤ d) (hf : f_X10_wrongSignOfRun L h v0 = some r) : e_Met l yX10_wrongSignOfRun cX10_wrongSignOfRun 6 (some .int) d 0 0 true L h [.ref v0] (Qx (some (.int r)) L h) := by
  refine e_metl (by decide) (Nat.le_of_ble_eq_true rfl) (lv := [(0, .ref v0)]) rfl ?_
  unfold f_X10_wrongSignOfRun at hf
  refine e_aload_n 0 dX10_wrongSignOfRun_0 rfl rfl ?_
  obtain ⟨hO1, hf⟩ := e_if hf
  obtain ⟨b2, hb3, hf⟩ := e_bd hf
  refine e_getR hO1 fc_10_0 lk_RX10_12 dX10_wrongSignOfRun_1 hb3 ?_
  obtain ⟨hO4, hf⟩ := e_if hf
  obtain ⟨r5, hr6, hf⟩ := e_bd hf
  refine e_callV (st := []) ml_RX10_117 k_X8_size (m_X8_size (d := d - 1) (by omega) hr6) hO4 ⟨by decide, rfl⟩ rfl rfl (Nat.le_of_ble_eq_true rfl) ⟨by omega, by decide⟩ ⟨Nat.le_refl _, Nat.le_refl _⟩ dX10_wrongSignOfRun_4 ?_
  refine e_bipush (v := 60) dX10_wrongSignOfRun_7 (by decide) ?_
  refine e_mn ml_RX10_293 (by omega) (Nat.le_of_ble_eq_true rfl) ⟨Nat.le_refl _, Nat.le_refl _⟩ dX10_wrongSignOfRun_9 ?_
  refine e_istore_n (lv' := [(1, .int _), (0, .ref _)]) dX10_wrongSignOfRun_12 rfl (by decide) rfl ?_
  refine e_iconst (v := (-1)) dX10_wrongSignOfRun_13 (by decide) ?_
  refine e_istore_n (lv' := [(2, .int _), (1, .int _), (0, .ref _)]) dX10_wrongSignOfRun_14 rfl (by decide) rfl ?_
  refine e_iconst (v := 0) dX10_wrongSignOfRun_15 (by decide) ?_
  refine e_istore_n (lv' := [(3, .int _), (2, .int _), (1, .int _), (0, .ref _)]) dX10_wrongSignOfRun_16 rfl (by decide) rfl ?_
  refine e_iconst (v := 0) dX10_wrongSignOfRun_17 (by decide) ?_
  refine e_istore (lv' := [(4, .int _), (3, .int _), (2, .int _), (1, .int _), (0, .ref _)]) dX10_wrongSignOfRun_18 (by decide) rfl ?_
  refine e_sub [4, 3, 2, 1, 0] rfl ?_
  refine m_X10_wrongSignOfRun_L20 hd ?_ ?_ ?_ e_fu _ _ _ _ _ hf
  · intro w4_13 hf
    refine e_iload 0 dX10_wrongSignOfRun_54 rfl ?_
    exact e_iret rfl dX10_wrongSignOfRun_56 (qP hf)
  · intro w4_14 hf
    refine e_iload 0 dX10_wrongSignOfRun_72 rfl ?_
    exact e_iret rfl dX10_wrongSignOfRun_74 (qP hf)
  · intro w0_15 w1_16 w3_17 hf
    refine e_iload_n 2 dX10_wrongSignOfRun_81 rfl rfl ?_
    refine e_if_gt (t := 97) dX10_wrongSignOfRun_82 (by decide) (fun c => ?_) (fun c => ?_)
    · replace hf := e_it c hf
      refine e_iload_n 1 dX10_wrongSignOfRun_97 rfl rfl ?_
      refine e_goto (t := 102) dX10_wrongSignOfRun_98 (by decide) ?_
      exact e_iret rfl dX10_wrongSignOfRun_102 (qP hf)
    · replace hf := e_ie c hf
      refine e_aload_n 0 dX10_wrongSignOfRun_85 rfl rfl ?_
      obtain ⟨hO18, hf⟩ := e_if hf
      obtain ⟨b19, hb20, hf⟩ := e_bd hf
      refine e_getR hO18 fc_10_0 lk_RX10_12 dX10_wrongSignOfRun_86 hb20 ?_
      obtain ⟨hO21, hf⟩ := e_if hf
      obtain ⟨r22, hr23, hf⟩ := e_bd hf
      refine e_callV (st := []) ml_RX10_117 k_X8_size (m_X8_size (d := d - 1) (by omega) hr23) hO21 ⟨by decide, rfl⟩ rfl rfl (Nat.le_of_ble_eq_true rfl) ⟨by omega, by decide⟩ ⟨Nat.le_refl _, Nat.le_refl _⟩ dX10_wrongSignOfRun_89 ?_
      refine e_bipush (v := 60) dX10_wrongSignOfRun_92 (by decide) ?_
      refine e_icmp_le (t := 101) dX10_wrongSignOfRun_94 (by decide) (fun c => ?_) (fun c => ?_)
      · replace hf := e_it c hf
        refine e_iconst (v := (-1)) dX10_wrongSignOfRun_101 (by decide) ?_
        exact e_iret rfl dX10_wrongSignOfRun_102 (qP hf)
      · replace hf := e_ie c hf
        refine e_iload_n 1 dX10_wrongSignOfRun_97 rfl rfl ?_
        refine e_goto (t := 102) dX10_wrongSignOfRun_98 (by decide) ?_
        exact e_iret rfl dX10_wrongSignOfRun_102 (qP hf)
def f_X10_actOfRun (L : eL) (h : eH) (v0 : Nat) (v1 : Int32) : Option (eH × Int32) :=
  if isO L v0 10 = true then
  (gR h v0 0).bind fun b2 =>
  if isO L b2 8 = true then
  (f_X8_at L h b2 (v1 + 1)).bind fun r5 =>
  (gR h v0 0).bind fun b7 =>
  if isO L b7 8 = true then
  (f_X8_at L h b7 (v1 + 2)).bind fun r10 =>
  (gR h v0 0).bind fun b12 =>
  if isO L b12 8 = true then
  (f_X8_at L h b12 v1).bind fun r15 =>
  if r15 = 99 then
    (f_X10_moveChair L h v0 ((((r5 - 48) * 10) + r10) - 48)).bind fun r17 =>
    if r17.2 < 0 then
      some (r17.1, 0)
    else
      some (r17.1, 1)
  else if r15 = 100 then
    (f_X10_passDays L h v0 (r5 - 48)).bind fun r19 =>
    if r19.2 < 0 then
      some (r19.1, 0)
    else
      some (r19.1, 1)
  else if r15 = 108 then
    (f_X10_loadUp L h v0 (((((r5 - 48) * 10) + r10) - 48) * 10)).bind fun r21 =>
    if r21.2 < 0 then
      some (r21.1, 0)
    else
      some (r21.1, 1)
  else if r15 = 115 then
    (f_X10_takeSteps L h v0 (r5 - 48)).bind fun r23 =>
    if 0 < r23.2 then
      some (r23.1, 1)
    else
      if (r5 - 48) = 0 then
        some (r23.1, 1)
      else
        some (r23.1, 0)
  else if r15 = 116 then
    (f_X10_turnRight L h v0 (r5 - 48)).bind fun r25 =>
    if r25.2 < 0 then
      some (r25.1, 0)
    else
      some (r25.1, 1)
  else
    some (h, 0)
  else none
  else none
  else none
  else none
set_option maxRecDepth 100000 in
set_option maxHeartbeats 4000000 in
theorem m_X10_actOfRun {l : Launch} {d : Nat} {L : eL} {h : eH} {v0 : Nat} {v1 : Int32} {r : eH × Int32} (hd : 6 ≤ d) (hf : f_X10_actOfRun L h v0 v1 = some r) : e_Met l yX10_actOfRun cX10_actOfRun 4 (some .boolean) d 0 0 true L h [.ref v0, .int v1] (Qx (some (.int r.2)) L r.1) := by
  refine e_metl (by decide) (Nat.le_of_ble_eq_true rfl) (lv := [(0, .ref v0), (1, .int v1)]) rfl ?_
  unfold f_X10_actOfRun at hf
  refine e_aload_n 0 dX10_actOfRun_0 rfl rfl ?_
  obtain ⟨hO1, hf⟩ := e_if hf
  obtain ⟨b2, hb3, hf⟩ := e_bd hf
  refine e_getR hO1 fc_10_0 lk_RX10_12 dX10_actOfRun_1 hb3 ?_
  refine e_iload_n 1 dX10_actOfRun_4 rfl rfl ?_
  refine e_iconst (v := 1) dX10_actOfRun_5 (by decide) ?_
  refine e_iadd dX10_actOfRun_6 ?_
  obtain ⟨hO4, hf⟩ := e_if hf
  obtain ⟨r5, hr6, hf⟩ := e_bd hf
  refine e_callV (st := []) ml_RX10_258 k_X8_at (m_X8_at (d := d - 1) (by omega) hr6) hO4 ⟨by decide, rfl⟩ rfl rfl (Nat.le_of_ble_eq_true rfl) ⟨by omega, by decide⟩ ⟨Nat.le_refl _, Nat.le_refl _⟩ dX10_actOfRun_7 ?_
  refine e_bipush (v := 48) dX10_actOfRun_10 (by decide) ?_
  refine e_isub dX10_actOfRun_12 ?_
  refine e_istore_n (lv' := [(2, .int _), (0, .ref _), (1, .int _)]) dX10_actOfRun_13 rfl (by decide) rfl ?_
  refine e_iload_n 0 dX10_actOfRun_14 rfl rfl ?_
  refine e_bipush (v := 10) dX10_actOfRun_15 (by decide) ?_
  refine e_imul dX10_actOfRun_17 ?_
  refine e_aload_n 1 dX10_actOfRun_18 rfl rfl ?_
  obtain ⟨b7, hb8, hf⟩ := e_bd hf
  refine e_getR hO1 fc_10_0 lk_RX10_12 dX10_actOfRun_19 hb8 ?_
  refine e_iload_n 2 dX10_actOfRun_22 rfl rfl ?_
  refine e_iconst (v := 2) dX10_actOfRun_23 (by decide) ?_
  refine e_iadd dX10_actOfRun_24 ?_
  obtain ⟨hO9, hf⟩ := e_if hf
  obtain ⟨r10, hr11, hf⟩ := e_bd hf
  refine e_callV (st := [.int _]) ml_RX10_258 k_X8_at (m_X8_at (d := d - 1) (by omega) hr11) hO9 ⟨by decide, rfl⟩ rfl rfl (Nat.le_of_ble_eq_true rfl) ⟨by omega, by decide⟩ ⟨Nat.le_refl _, Nat.le_refl _⟩ dX10_actOfRun_25 ?_
  refine e_iadd dX10_actOfRun_28 ?_
  refine e_bipush (v := 48) dX10_actOfRun_29 (by decide) ?_
  refine e_isub dX10_actOfRun_31 ?_
  refine e_istore_n (lv' := [(3, .int _), (2, .int _), (0, .ref _), (1, .int _)]) dX10_actOfRun_32 rfl (by decide) rfl ?_
  refine e_aload_n 2 dX10_actOfRun_33 rfl rfl ?_
  obtain ⟨b12, hb13, hf⟩ := e_bd hf
  refine e_getR hO1 fc_10_0 lk_RX10_12 dX10_actOfRun_34 hb13 ?_
  refine e_iload_n 3 dX10_actOfRun_37 rfl rfl ?_
  obtain ⟨hO14, hf⟩ := e_if hf
  obtain ⟨r15, hr16, hf⟩ := e_bd hf
  refine e_callV (st := []) ml_RX10_258 k_X8_at (m_X8_at (d := d - 1) (by omega) hr16) hO14 ⟨by decide, rfl⟩ rfl rfl (Nat.le_of_ble_eq_true rfl) ⟨by omega, by decide⟩ ⟨Nat.le_refl _, Nat.le_refl _⟩ dX10_actOfRun_38 ?_
  by_cases c99 : r15 = 99
  · replace hf := e_it c99 hf
    refine e_look (t := 138) dX10_actOfRun_41 (by decide) (by first | (rw [c99]; done) | (rw [c99]; rfl)) (by decide) ?_
    refine e_aload_n 2 dX10_actOfRun_138 rfl rfl ?_
    refine e_iload_n 0 dX10_actOfRun_139 rfl rfl ?_
    obtain ⟨r17, hr18, hf⟩ := e_bd hf
    refine e_callV (st := []) ml_RX10_246 k_X10_moveChair (m_X10_moveChair (d := d - 1) (by omega) hr18) hO1 ⟨by decide, rfl⟩ rfl rfl (Nat.le_of_ble_eq_true rfl) ⟨by omega, by decide⟩ ⟨Nat.le_refl _, Nat.le_refl _⟩ dX10_actOfRun_140 ?_
    refine e_if_lt (t := 150) dX10_actOfRun_143 (by decide) (fun c => ?_) (fun c => ?_)
    · replace hf := e_it c hf
      refine e_iconst (v := 0) dX10_actOfRun_150 (by decide) ?_
      exact e_zret (ty := .boolean) rfl rfl dX10_actOfRun_151 (qW hf)
    · replace hf := e_ie c hf
      refine e_iconst (v := 1) dX10_actOfRun_146 (by decide) ?_
      refine e_goto (t := 151) dX10_actOfRun_147 (by decide) ?_
      exact e_zret (ty := .boolean) rfl rfl dX10_actOfRun_151 (qW hf)
  replace hf := e_ie c99 hf
  by_cases c100 : r15 = 100
  · replace hf := e_it c100 hf
    refine e_look (t := 124) dX10_actOfRun_41 (by decide) (by first | (rw [c100]; done) | (rw [c100]; rfl)) (by decide) ?_
    refine e_aload_n 2 dX10_actOfRun_124 rfl rfl ?_
    refine e_iload_n 1 dX10_actOfRun_125 rfl rfl ?_
    obtain ⟨r19, hr20, hf⟩ := e_bd hf
    refine e_callV (st := []) ml_RX10_243 k_X10_passDays (m_X10_passDays (d := d - 1) (by omega) hr20) hO1 ⟨by decide, rfl⟩ rfl rfl (Nat.le_of_ble_eq_true rfl) ⟨by omega, by decide⟩ ⟨Nat.le_refl _, Nat.le_refl _⟩ dX10_actOfRun_126 ?_
    refine e_if_lt (t := 136) dX10_actOfRun_129 (by decide) (fun c => ?_) (fun c => ?_)
    · replace hf := e_it c hf
      refine e_iconst (v := 0) dX10_actOfRun_136 (by decide) ?_
      exact e_zret (ty := .boolean) rfl rfl dX10_actOfRun_137 (qW hf)
    · replace hf := e_ie c hf
      refine e_iconst (v := 1) dX10_actOfRun_132 (by decide) ?_
      refine e_goto (t := 137) dX10_actOfRun_133 (by decide) ?_
      exact e_zret (ty := .boolean) rfl rfl dX10_actOfRun_137 (qW hf)
  replace hf := e_ie c100 hf
  by_cases c108 : r15 = 108
  · replace hf := e_it c108 hf
    refine e_look (t := 152) dX10_actOfRun_41 (by decide) (by first | (rw [c108]; done) | (rw [c108]; rfl)) (by decide) ?_
    refine e_aload_n 2 dX10_actOfRun_152 rfl rfl ?_
    refine e_iload_n 0 dX10_actOfRun_153 rfl rfl ?_
    refine e_bipush (v := 10) dX10_actOfRun_154 (by decide) ?_
    refine e_imul dX10_actOfRun_156 ?_
    obtain ⟨r21, hr22, hf⟩ := e_bd hf
    refine e_callV (st := []) ml_RX10_249 k_X10_loadUp (m_X10_loadUp (d := d - 1) (by omega) hr22) hO1 ⟨by decide, rfl⟩ rfl rfl (Nat.le_of_ble_eq_true rfl) ⟨by omega, by decide⟩ ⟨Nat.le_refl _, Nat.le_refl _⟩ dX10_actOfRun_157 ?_
    refine e_if_lt (t := 167) dX10_actOfRun_160 (by decide) (fun c => ?_) (fun c => ?_)
    · replace hf := e_it c hf
      refine e_iconst (v := 0) dX10_actOfRun_167 (by decide) ?_
      exact e_zret (ty := .boolean) rfl rfl dX10_actOfRun_168 (qW hf)
    · replace hf := e_ie c hf
      refine e_iconst (v := 1) dX10_actOfRun_163 (by decide) ?_
      refine e_goto (t := 168) dX10_actOfRun_164 (by decide) ?_
      exact e_zret (ty := .boolean) rfl rfl dX10_actOfRun_168 (qW hf)
  replace hf := e_ie c108 hf
  by_cases c115 : r15 = 115
  · replace hf := e_it c115 hf
    refine e_look (t := 92) dX10_actOfRun_41 (by decide) (by first | (rw [c115]; done) | (rw [c115]; rfl)) (by decide) ?_
    refine e_aload_n 2 dX10_actOfRun_92 rfl rfl ?_
    refine e_iload_n 1 dX10_actOfRun_93 rfl rfl ?_
    obtain ⟨r23, hr24, hf⟩ := e_bd hf
    refine e_callV (st := []) ml_RX10_234 k_X10_takeSteps (m_X10_takeSteps (d := d - 1) (by omega) hr24) hO1 ⟨by decide, rfl⟩ rfl rfl (Nat.le_of_ble_eq_true rfl) ⟨by omega, by decide⟩ ⟨Nat.le_refl _, Nat.le_refl _⟩ dX10_actOfRun_94 ?_
    refine e_if_gt (t := 104) dX10_actOfRun_97 (by decide) (fun c => ?_) (fun c => ?_)
    · replace hf := e_it c hf
      refine e_iconst (v := 1) dX10_actOfRun_104 (by decide) ?_
      refine e_goto (t := 109) dX10_actOfRun_105 (by decide) ?_
      exact e_zret (ty := .boolean) rfl rfl dX10_actOfRun_109 (qW hf)
    · replace hf := e_ie c hf
      refine e_iload_n 1 dX10_actOfRun_100 rfl rfl ?_
      refine e_if_ne (t := 108) dX10_actOfRun_101 (by decide) (fun c => ?_) (fun c => ?_)
      · replace hf := e_ie c hf
        refine e_iconst (v := 0) dX10_actOfRun_108 (by decide) ?_
        exact e_zret (ty := .boolean) rfl rfl dX10_actOfRun_109 (qW hf)
      · replace hf := e_it c hf
        refine e_iconst (v := 1) dX10_actOfRun_104 (by decide) ?_
        refine e_goto (t := 109) dX10_actOfRun_105 (by decide) ?_
        exact e_zret (ty := .boolean) rfl rfl dX10_actOfRun_109 (qW hf)
  replace hf := e_ie c115 hf
  by_cases c116 : r15 = 116
  · replace hf := e_it c116 hf
    refine e_look (t := 110) dX10_actOfRun_41 (by decide) (by first | (rw [c116]; done) | (rw [c116]; rfl)) (by decide) ?_
    refine e_aload_n 2 dX10_actOfRun_110 rfl rfl ?_
    refine e_iload_n 1 dX10_actOfRun_111 rfl rfl ?_
    obtain ⟨r25, hr26, hf⟩ := e_bd hf
    refine e_callV (st := []) ml_RX10_240 k_X10_turnRight (m_X10_turnRight (d := d - 1) (by omega) hr26) hO1 ⟨by decide, rfl⟩ rfl rfl (Nat.le_of_ble_eq_true rfl) ⟨by omega, by decide⟩ ⟨Nat.le_refl _, Nat.le_refl _⟩ dX10_actOfRun_112 ?_
    refine e_if_lt (t := 122) dX10_actOfRun_115 (by decide) (fun c => ?_) (fun c => ?_)
    · replace hf := e_it c hf
      refine e_iconst (v := 0) dX10_actOfRun_122 (by decide) ?_
      exact e_zret (ty := .boolean) rfl rfl dX10_actOfRun_123 (qW hf)
    · replace hf := e_ie c hf
      refine e_iconst (v := 1) dX10_actOfRun_118 (by decide) ?_
      refine e_goto (t := 123) dX10_actOfRun_119 (by decide) ?_
      exact e_zret (ty := .boolean) rfl rfl dX10_actOfRun_123 (qW hf)
  replace hf := e_ie c116 hf
  refine e_look (t := 169) dX10_actOfRun_41 (by decide) (by simp only [Op.lookupswitch.offset]; rw [if_neg (e_ine (j := 99) c99), if_neg (e_ine (j := 100) c100), if_neg (e_ine (j := 108) c108), if_neg (e_ine (j := 115) c115), if_neg (e_ine (j := 116) c116)]) (by decide) ?_
  refine e_iconst (v := 0) dX10_actOfRun_169 (by decide) ?_
  exact e_zret (ty := .boolean) rfl rfl dX10_actOfRun_170 (qW hf)
def f_X10_run_J93 (L : eL) (k44 : eH → Nat → Int32 → Int32 → Int32 → Int32 → Option (eH × Int32)) (k117 : eH → Nat → Int32 → Int32 → Option (eH × Int32)) (h : eH) (v0 : Nat) (v2 : Int32) (v4 : Int32) (v5 : Int32) (s0 : Int32) (s1 : Int32) : Option (eH × Int32) :=
  if isO L v0 10 = true then
  (gR h v0 0).bind fun b20 =>
  if isO L b20 8 = true then
  (f_X8_at L h b20 v2).bind fun r23 =>
  k44 h v0 (v2 + (1 + (f_X10_digitsBehind r23))) (s0 + s1) v4 (v5 + Int32.ofInt 1)
  else none
  else none
set_option maxRecDepth 100000 in
set_option maxHeartbeats 4000000 in
theorem m_X10_run_J93 {l : Launch} {d : Nat} {L : eL}  {r : eH × Int32} {k44 : eH → Nat → Int32 → Int32 → Int32 → Int32 → Option (eH × Int32)} {k117 : eH → Nat → Int32 → Int32 → Option (eH × Int32)} (hd : 7 ≤ d) (hk44 : ∀ (h : eH) (v0 : Nat) (v2 : Int32) (v3 : Int32) (v4 : Int32) (v5 : Int32), k44 h v0 v2 v3 v4 v5 = some r → E l yX10_run cX10_run 6 (some .int) (e_rm d 0 0) 0 0 true L (Qx (some (.int r.2)) L r.1) L h 0 0 44 [(0, .ref v0), (2, .int v2), (3, .int v3), (4, .int v4), (5, .int v5)] []) (hk117 : ∀ (h : eH) (v0 : Nat) (v3 : Int32) (v4 : Int32), k117 h v0 v3 v4 = some r → E l yX10_run cX10_run 6 (some .int) (e_rm d 0 0) 0 0 true L (Qx (some (.int r.2)) L r.1) L h 0 0 117 [(0, .ref v0), (3, .int v3), (4, .int v4)] []) : ∀ (h : eH) (v0 : Nat) (v2 : Int32) (v4 : Int32) (v5 : Int32) (s0 : Int32) (s1 : Int32), f_X10_run_J93 L k44 k117 h v0 v2 v4 v5 s0 s1 = some r → E l yX10_run cX10_run 6 (some .int) (e_rm d 0 0) 0 0 true L (Qx (some (.int r.2)) L r.1) L h 0 0 93 [(0, .ref v0), (2, .int v2), (4, .int v4), (5, .int v5)] [.int s1, .int s0] := by
  intro h v0 v2 v4 v5 s0 s1 hf
  unfold f_X10_run_J93 at hf
  refine e_iadd dX10_run_93 ?_
  refine e_istore_n (lv' := [(3, .int _), (0, .ref _), (2, .int _), (4, .int _), (5, .int _)]) dX10_run_94 rfl (by decide) rfl ?_
  refine e_iload_n 2 dX10_run_95 rfl rfl ?_
  refine e_iconst (v := 1) dX10_run_96 (by decide) ?_
  refine e_aload_n 1 dX10_run_97 rfl rfl ?_
  obtain ⟨hO19, hf⟩ := e_if hf
  obtain ⟨b20, hb21, hf⟩ := e_bd hf
  refine e_getR hO19 fc_10_0 lk_RX10_12 dX10_run_98 hb21 ?_
  refine e_iload_n 2 dX10_run_101 rfl rfl ?_
  obtain ⟨hO22, hf⟩ := e_if hf
  obtain ⟨r23, hr24, hf⟩ := e_bd hf
  refine e_callV (st := [.int _, .int _]) ml_RX10_258 k_X8_at (m_X8_at (d := d - 1) (by omega) hr24) hO22 ⟨by decide, rfl⟩ rfl rfl (Nat.le_of_ble_eq_true rfl) ⟨by omega, by decide⟩ ⟨Nat.le_refl _, Nat.le_refl _⟩ dX10_run_102 ?_
  refine e_callS (st := [.int _, .int _]) ml_RX10_261 k_X10_digitsBehind (m_X10_digitsBehind (d := d - 1) (by omega) rfl) rfl rfl (Nat.le_of_ble_eq_true rfl) ⟨by omega, by decide⟩ ⟨Nat.le_refl _, Nat.le_refl _⟩ dX10_run_105 ?_
  refine e_iadd dX10_run_108 ?_
  refine e_iadd dX10_run_109 ?_
  refine e_istore_n (lv' := [(2, .int _), (3, .int _), (0, .ref _), (4, .int _), (5, .int _)]) dX10_run_110 rfl (by decide) rfl ?_
  refine e_iinc (lv' := [(5, .int _), (2, .int _), (3, .int _), (0, .ref _), (4, .int _)]) 4 dX10_run_111 rfl (by decide) rfl ?_
  refine e_goto (t := 44) dX10_run_114 (by decide) ?_
  refine e_sub [3, 1, 2, 4, 0] rfl ?_
  exact hk44 _ _ _ _ _ _ hf
def f_X10_run_L44 (L : eL) : Nat → (eH → Nat → Int32 → Int32 → Option (eH × Int32)) → eH → Nat → Int32 → Int32 → Int32 → Int32 → Option (eH × Int32)
  | 0, _, _, _, _, _, _, _ => none
  | n + 1, k117, h, v0, v2, v3, v4, v5 =>
    if 60 ≤ v5 then
      k117 h v0 v3 v4
    else
      if isO L v0 10 = true then
      (gR h v0 0).bind fun b12 =>
      if isO L b12 8 = true then
      (f_X8_size L h b12).bind fun r15 =>
      if r15 ≤ v2 then
        k117 h v0 v3 v4
      else
        if v4 = 0 then
          (f_X10_actOfRun L h v0 v2).bind fun r17 =>
          if r17.2 = 0 then
            f_X10_run_J93 L (f_X10_run_L44 L n k117) k117 r17.1 v0 v2 1 v5 v3 0
          else
            f_X10_run_J93 L (f_X10_run_L44 L n k117) k117 r17.1 v0 v2 0 v5 v3 1
        else
          k117 h v0 v3 v4
      else none
      else none
set_option maxRecDepth 100000 in
set_option maxHeartbeats 4000000 in
theorem m_X10_run_L44 {l : Launch} {d : Nat} {L : eL}  {r : eH × Int32} {k117 : eH → Nat → Int32 → Int32 → Option (eH × Int32)} (hd : 7 ≤ d) (hk117 : ∀ (h : eH) (v0 : Nat) (v3 : Int32) (v4 : Int32), k117 h v0 v3 v4 = some r → E l yX10_run cX10_run 6 (some .int) (e_rm d 0 0) 0 0 true L (Qx (some (.int r.2)) L r.1) L h 0 0 117 [(0, .ref v0), (3, .int v3), (4, .int v4)] []) : ∀ (n : Nat) (h : eH) (v0 : Nat) (v2 : Int32) (v3 : Int32) (v4 : Int32) (v5 : Int32), f_X10_run_L44 L n k117 h v0 v2 v3 v4 v5 = some r → E l yX10_run cX10_run 6 (some .int) (e_rm d 0 0) 0 0 true L (Qx (some (.int r.2)) L r.1) L h 0 0 44 [(0, .ref v0), (2, .int v2), (3, .int v3), (4, .int v4), (5, .int v5)] [] := by
  intro n
  induction n with
  | zero => intro h v0 v2 v3 v4 v5 hf; exact absurd hf (by simp [f_X10_run_L44])
  | succ n ih =>
    intro h v0 v2 v3 v4 v5 hf
    unfold f_X10_run_L44 at hf
    refine e_iload 4 dX10_run_44 rfl ?_
    refine e_bipush (v := 60) dX10_run_46 (by decide) ?_
    refine e_icmp_ge (t := 117) dX10_run_48 (by decide) (fun c => ?_) (fun c => ?_)
    · replace hf := e_it c hf
      refine e_sub [0, 2, 3] rfl ?_
      exact hk117 _ _ _ _ hf
    · replace hf := e_ie c hf
      refine e_iload_n 1 dX10_run_51 rfl rfl ?_
      refine e_aload_n 0 dX10_run_52 rfl rfl ?_
      obtain ⟨hO11, hf⟩ := e_if hf
      obtain ⟨b12, hb13, hf⟩ := e_bd hf
      refine e_getR hO11 fc_10_0 lk_RX10_12 dX10_run_53 hb13 ?_
      obtain ⟨hO14, hf⟩ := e_if hf
      obtain ⟨r15, hr16, hf⟩ := e_bd hf
      refine e_callV (st := [.int _]) ml_RX10_117 k_X8_size (m_X8_size (d := d - 1) (by omega) hr16) hO14 ⟨by decide, rfl⟩ rfl rfl (Nat.le_of_ble_eq_true rfl) ⟨by omega, by decide⟩ ⟨Nat.le_refl _, Nat.le_refl _⟩ dX10_run_56 ?_
      refine e_icmp_ge (t := 117) dX10_run_59 (by decide) (fun c => ?_) (fun c => ?_)
      · replace hf := e_it c hf
        refine e_sub [0, 2, 3] rfl ?_
        exact hk117 _ _ _ _ hf
      · replace hf := e_ie c hf
        refine e_iload 3 dX10_run_62 rfl ?_
        refine e_if_ne (t := 117) dX10_run_64 (by decide) (fun c => ?_) (fun c => ?_)
        · replace hf := e_ie c hf
          refine e_sub [0, 2, 3] rfl ?_
          exact hk117 _ _ _ _ hf
        · replace hf := e_it c hf
          refine e_aload_n 0 dX10_run_67 rfl rfl ?_
          refine e_iload_n 1 dX10_run_68 rfl rfl ?_
          obtain ⟨r17, hr18, hf⟩ := e_bd hf
          refine e_callV (st := []) ml_RX10_255 k_X10_actOfRun (m_X10_actOfRun (d := d - 1) (by omega) hr18) hO11 ⟨by decide, rfl⟩ rfl rfl (Nat.le_of_ble_eq_true rfl) ⟨by omega, by decide⟩ ⟨Nat.le_refl _, Nat.le_refl _⟩ dX10_run_69 ?_
          refine e_if_ne (t := 79) dX10_run_72 (by decide) (fun c => ?_) (fun c => ?_)
          · replace hf := e_ie c hf
            refine e_iconst (v := 0) dX10_run_79 (by decide) ?_
            refine e_istore (lv' := [(4, .int _), (0, .ref _), (2, .int _), (3, .int _), (5, .int _)]) dX10_run_80 (by decide) rfl ?_
            refine e_iload_n 3 dX10_run_82 rfl rfl ?_
            refine e_iload 0 dX10_run_83 rfl ?_
            refine e_if_eq (t := 92) dX10_run_85 (by decide) (fun _ => ?_) (fun c => absurd c (by decide))
            refine e_iconst (v := 1) dX10_run_92 (by decide) ?_
            refine e_sub [1, 2, 0, 4] rfl ?_
            exact m_X10_run_J93 hd ih hk117 _ _ _ _ _ _ _ hf
          · replace hf := e_it c hf
            refine e_iconst (v := 1) dX10_run_75 (by decide) ?_
            refine e_goto (t := 80) dX10_run_76 (by decide) ?_
            refine e_istore (lv' := [(4, .int _), (0, .ref _), (2, .int _), (3, .int _), (5, .int _)]) dX10_run_80 (by decide) rfl ?_
            refine e_iload_n 3 dX10_run_82 rfl rfl ?_
            refine e_iload 0 dX10_run_83 rfl ?_
            refine e_if_eq (t := 92) dX10_run_85 (by decide) (fun c => absurd c (by decide)) (fun _ => ?_)
            refine e_iconst (v := 0) dX10_run_88 (by decide) ?_
            refine e_goto (t := 93) dX10_run_89 (by decide) ?_
            refine e_sub [1, 2, 0, 4] rfl ?_
            exact m_X10_run_J93 hd ih hk117 _ _ _ _ _ _ _ hf
def f_X10_run_J141 (L : eL) (h : eH) (v0 : Nat) (v3 : Int32) (v4 : Int32) : Option (eH × Int32) :=
  if isO L v0 10 = true then
  (gR h v0 1).bind fun b36 =>
  if isO L b36 3 = true then
  (f_X3_begin L h b36).bind fun r39 =>
  (gR r39 v0 1).bind fun b41 =>
  if isO L b41 3 = true then
  (f_X3_add L r39 b41 ((f_X10_oneIf v4).toInt64)).bind fun r44 =>
  (gR r44 v0 1).bind fun b46 =>
  (gR r44 v0 7).bind fun b48 =>
  if isO L b48 6 = true then
  if isO L b46 3 = true then
  (f_X3_add L r44 b46 ((gI r44 b48 4).toInt64)).bind fun r52 =>
  some (r52, v3)
  else none
  else none
  else none
  else none
  else none
set_option maxRecDepth 100000 in
set_option maxHeartbeats 4000000 in
theorem m_X10_run_J141 {l : Launch} {d : Nat} {L : eL}  {r : eH × Int32} (hd : 7 ≤ d)  : ∀ (h : eH) (v0 : Nat) (v3 : Int32) (v4 : Int32), f_X10_run_J141 L h v0 v3 v4 = some r → E l yX10_run cX10_run 6 (some .int) (e_rm d 0 0) 0 0 true L (Qx (some (.int r.2)) L r.1) L h 0 0 141 [(0, .ref v0), (3, .int v3), (4, .int v4)] [] := by
  intro h v0 v3 v4 hf
  unfold f_X10_run_J141 at hf
  refine e_aload_n 0 dX10_run_141 rfl rfl ?_
  obtain ⟨hO35, hf⟩ := e_if hf
  obtain ⟨b36, hb37, hf⟩ := e_bd hf
  refine e_getR hO35 fc_10_1 lk_RX10_19 dX10_run_142 hb37 ?_
  obtain ⟨hO38, hf⟩ := e_if hf
  obtain ⟨r39, hr40, hf⟩ := e_bd hf
  refine e_callV (st := []) ml_RX10_267 k_X3_begin (m_X3_begin (d := d - 1) (by omega) hr40) hO38 ⟨by decide, rfl⟩ rfl rfl (Nat.le_of_ble_eq_true rfl) ⟨by omega, by decide⟩ ⟨Nat.le_refl _, Nat.le_refl _⟩ dX10_run_145 ?_
  refine e_aload_n 0 dX10_run_148 rfl rfl ?_
  obtain ⟨b41, hb42, hf⟩ := e_bd hf
  refine e_getR hO35 fc_10_1 lk_RX10_19 dX10_run_149 hb42 ?_
  refine e_iload 2 dX10_run_152 rfl ?_
  refine e_callS (st := [.ref _]) ml_RX10_173 k_X10_oneIf (m_X10_oneIf (d := d - 1) (by omega) rfl) rfl rfl (Nat.le_of_ble_eq_true rfl) ⟨by omega, by decide⟩ ⟨Nat.le_refl _, Nat.le_refl _⟩ dX10_run_154 ?_
  refine e_i2l dX10_run_157 ?_
  obtain ⟨hO43, hf⟩ := e_if hf
  obtain ⟨r44, hr45, hf⟩ := e_bd hf
  refine e_callV (st := []) ml_RX10_269 k_X3_add (m_X3_add (d := d - 1) (by omega) hr45) hO43 ⟨by decide, rfl⟩ rfl rfl (Nat.le_of_ble_eq_true rfl) ⟨by omega, by decide⟩ ⟨Nat.le_refl _, Nat.le_refl _⟩ dX10_run_158 ?_
  refine e_aload_n 0 dX10_run_161 rfl rfl ?_
  obtain ⟨b46, hb47, hf⟩ := e_bd hf
  refine e_getR hO35 fc_10_1 lk_RX10_19 dX10_run_162 hb47 ?_
  refine e_aload_n 0 dX10_run_165 rfl rfl ?_
  obtain ⟨b48, hb49, hf⟩ := e_bd hf
  refine e_getR hO35 fc_10_7 lk_RX10_61 dX10_run_166 hb49 ?_
  obtain ⟨hO50, hf⟩ := e_if hf
  refine e_getIN hO50 fc_6_4 lk_RX10_198 dX10_run_169 ?_
  refine e_i2l dX10_run_172 ?_
  obtain ⟨hO51, hf⟩ := e_if hf
  obtain ⟨r52, hr53, hf⟩ := e_bd hf
  refine e_callV (st := []) ml_RX10_269 k_X3_add (m_X3_add (d := d - 1) (by omega) hr53) hO51 ⟨by decide, rfl⟩ rfl rfl (Nat.le_of_ble_eq_true rfl) ⟨by omega, by decide⟩ ⟨Nat.le_refl _, Nat.le_refl _⟩ dX10_run_173 ?_
  refine e_iload_n 1 dX10_run_176 rfl rfl ?_
  exact e_iret rfl dX10_run_177 (qW hf)
def f_X10_run_J117 (L : eL) (h : eH) (v0 : Nat) (v3 : Int32) (v4 : Int32) : Option (eH × Int32) :=
  if isO L v0 10 = true then
  (gR h v0 0).bind fun b30 =>
  if isO L b30 8 = true then
  (f_X8_cut L h b30 0).bind fun r33 =>
  if v3 ≤ 0 then
    f_X10_run_J141 L r33.1 v0 v3 v4
  else
    (gR r33.1 v0 3).bind fun b54 =>
    (gR r33.1 v0 8).bind fun b56 =>
    if isO L b54 1 = true then
    (f_X1_push L r33.1 b54 b56).bind fun r59 =>
    f_X10_run_J141 L r59 v0 v3 v4
    else none
  else none
  else none
set_option maxRecDepth 100000 in
set_option maxHeartbeats 4000000 in
theorem m_X10_run_J117 {l : Launch} {d : Nat} {L : eL}  {r : eH × Int32} (hd : 7 ≤ d)  : ∀ (h : eH) (v0 : Nat) (v3 : Int32) (v4 : Int32), f_X10_run_J117 L h v0 v3 v4 = some r → E l yX10_run cX10_run 6 (some .int) (e_rm d 0 0) 0 0 true L (Qx (some (.int r.2)) L r.1) L h 0 0 117 [(0, .ref v0), (3, .int v3), (4, .int v4)] [] := by
  intro h v0 v3 v4 hf
  unfold f_X10_run_J117 at hf
  refine e_aload_n 0 dX10_run_117 rfl rfl ?_
  obtain ⟨hO29, hf⟩ := e_if hf
  obtain ⟨b30, hb31, hf⟩ := e_bd hf
  refine e_getR hO29 fc_10_0 lk_RX10_12 dX10_run_118 hb31 ?_
  refine e_iconst (v := 0) dX10_run_121 (by decide) ?_
  obtain ⟨hO32, hf⟩ := e_if hf
  obtain ⟨r33, hr34, hf⟩ := e_bd hf
  refine e_callV (st := []) ml_RX10_121 k_X8_cut (m_X8_cut (d := d - 1) (by omega) hr34) hO32 ⟨by decide, rfl⟩ rfl rfl (Nat.le_of_ble_eq_true rfl) ⟨by omega, by decide⟩ ⟨Nat.le_refl _, Nat.le_refl _⟩ dX10_run_122 ?_
  refine e_popI dX10_run_125 ?_
  refine e_iload_n 1 dX10_run_126 rfl rfl ?_
  refine e_if_le (t := 141) dX10_run_127 (by decide) (fun c => ?_) (fun c => ?_)
  · replace hf := e_it c hf
    exact m_X10_run_J141 hd _ _ _ _ hf
  · replace hf := e_ie c hf
    refine e_aload_n 0 dX10_run_130 rfl rfl ?_
    obtain ⟨b54, hb55, hf⟩ := e_bd hf
    refine e_getR hO29 fc_10_3 lk_RX10_33 dX10_run_131 hb55 ?_
    refine e_aload_n 0 dX10_run_134 rfl rfl ?_
    obtain ⟨b56, hb57, hf⟩ := e_bd hf
    refine e_getR hO29 fc_10_8 lk_RX10_65 dX10_run_135 hb57 ?_
    obtain ⟨hO58, hf⟩ := e_if hf
    obtain ⟨r59, hr60, hf⟩ := e_bd hf
    refine e_callV (st := []) ml_RX10_264 k_X1_push (m_X1_push (d := d - 1) (by omega) hr60) hO58 ⟨by decide, rfl⟩ rfl rfl (Nat.le_of_ble_eq_true rfl) ⟨by omega, by decide⟩ ⟨Nat.le_refl _, Nat.le_refl _⟩ dX10_run_138 ?_
    exact m_X10_run_J141 hd _ _ _ _ hf
def f_X10_run (L : eL) (h : eH) (v0 : Nat) : Option (eH × Int32) :=
  if isO L v0 10 = true then
  (f_X10_wrongSignOfRun L h v0).bind fun r2 =>
  if r2 = (-1) then
    (gR h v0 8).bind fun b4 =>
    (gR h v0 7).bind fun b6 =>
    if isO L b4 6 = true then
    (f_X6_copyFrom L h b4 b6).bind fun r9 =>
    f_X10_run_L44 L e_fu (fun (h25 : eH) (w0_26 : Nat) (w3_27 : Int32) (w4_28 : Int32) =>
      f_X10_run_J117 L h25 w0_26 w3_27 w4_28) r9 v0 0 0 0 0
    else none
  else
    (gR h v0 0).bind fun b61 =>
    if isO L b61 8 = true then
    (f_X8_cut L h b61 0).bind fun r64 =>
    some (r64.1, (-1) - r2)
    else none
  else none
set_option maxRecDepth 100000 in
set_option maxHeartbeats 4000000 in
theorem m_X10_run {l : Launch} {d : Nat} {L : eL} {h : eH} {v0 : Nat} {r : eH × Int32} (hd : 7 ≤ d) (hf : f_X10_run L h v0 = some r) : e_Met l yX10_run cX10_run 6 (some .int) d 0 0 true L h [.ref v0] (Qx (some (.int r.2)) L r.1) := by
  refine e_metl (by decide) (Nat.le_of_ble_eq_true rfl) (lv := [(0, .ref v0)]) rfl ?_
  unfold f_X10_run at hf
  refine e_aload_n 0 dX10_run_0 rfl rfl ?_
  obtain ⟨hO1, hf⟩ := e_if hf
  obtain ⟨r2, hr3, hf⟩ := e_bd hf
  refine e_callV (st := []) ml_RX10_252 k_X10_wrongSignOfRun (m_X10_wrongSignOfRun (d := d - 1) (by omega) hr3) hO1 ⟨by decide, rfl⟩ rfl rfl (Nat.le_of_ble_eq_true rfl) ⟨by omega, by decide⟩ ⟨Nat.le_refl _, Nat.le_refl _⟩ dX10_run_1 ?_
  refine e_istore_n (lv' := [(1, .int _), (0, .ref _)]) dX10_run_4 rfl (by decide) rfl ?_
  refine e_iload_n 0 dX10_run_5 rfl rfl ?_
  refine e_iconst (v := (-1)) dX10_run_6 (by decide) ?_
  refine e_icmp_eq (t := 23) dX10_run_7 (by decide) (fun c => ?_) (fun c => ?_)
  · replace hf := e_it c hf
    refine e_aload_n 1 dX10_run_23 rfl rfl ?_
    obtain ⟨b4, hb5, hf⟩ := e_bd hf
    refine e_getR hO1 fc_10_8 lk_RX10_65 dX10_run_24 hb5 ?_
    refine e_aload_n 1 dX10_run_27 rfl rfl ?_
    obtain ⟨b6, hb7, hf⟩ := e_bd hf
    refine e_getR hO1 fc_10_7 lk_RX10_61 dX10_run_28 hb7 ?_
    obtain ⟨hO8, hf⟩ := e_if hf
    obtain ⟨r9, hr10, hf⟩ := e_bd hf
    refine e_callV (st := []) ml_RX10_230 k_X6_copyFrom (m_X6_copyFrom (d := d - 1) (by omega) hr10) hO8 ⟨by decide, rfl⟩ rfl rfl (Nat.le_of_ble_eq_true rfl) ⟨by omega, by decide⟩ ⟨Nat.le_refl _, Nat.le_refl _⟩ dX10_run_31 ?_
    refine e_iconst (v := 0) dX10_run_34 (by decide) ?_
    refine e_istore_n (lv' := [(2, .int _), (1, .int _), (0, .ref _)]) dX10_run_35 rfl (by decide) rfl ?_
    refine e_iconst (v := 0) dX10_run_36 (by decide) ?_
    refine e_istore_n (lv' := [(3, .int _), (2, .int _), (1, .int _), (0, .ref _)]) dX10_run_37 rfl (by decide) rfl ?_
    refine e_iconst (v := 0) dX10_run_38 (by decide) ?_
    refine e_istore (lv' := [(4, .int _), (3, .int _), (2, .int _), (1, .int _), (0, .ref _)]) dX10_run_39 (by decide) rfl ?_
    refine e_iconst (v := 0) dX10_run_41 (by decide) ?_
    refine e_istore (lv' := [(5, .int _), (4, .int _), (3, .int _), (2, .int _), (1, .int _), (0, .ref _)]) dX10_run_42 (by decide) rfl ?_
    refine e_sub [5, 3, 2, 1, 0] rfl ?_
    refine m_X10_run_L44 hd ?_ e_fu _ _ _ _ _ _ hf
    · intro h25 w0_26 w3_27 w4_28 hf
      exact m_X10_run_J117 hd _ _ _ _ hf
  · replace hf := e_ie c hf
    refine e_aload_n 1 dX10_run_10 rfl rfl ?_
    obtain ⟨b61, hb62, hf⟩ := e_bd hf
    refine e_getR hO1 fc_10_0 lk_RX10_12 dX10_run_11 hb62 ?_
    refine e_iconst (v := 0) dX10_run_14 (by decide) ?_
    obtain ⟨hO63, hf⟩ := e_if hf
    obtain ⟨r64, hr65, hf⟩ := e_bd hf
    refine e_callV (st := []) ml_RX10_121 k_X8_cut (m_X8_cut (d := d - 1) (by omega) hr65) hO63 ⟨by decide, rfl⟩ rfl rfl (Nat.le_of_ble_eq_true rfl) ⟨by omega, by decide⟩ ⟨Nat.le_refl _, Nat.le_refl _⟩ dX10_run_15 ?_
    refine e_popI dX10_run_18 ?_
    refine e_iconst (v := (-1)) dX10_run_19 (by decide) ?_
    refine e_iload_n 0 dX10_run_20 rfl rfl ?_
    refine e_isub dX10_run_21 ?_
    exact e_iret rfl dX10_run_22 (qW hf)
def f_X1_pop_J28 (L : eL) (h : eH) (v0 : Nat) (v1 : Nat) (s0 : Nat) (s1 : Int32) : Option (eH × Int32) :=
  if isO L s0 1 = true then
  if isO L v0 1 = true then
  (some (sI (sI h s0 1 s1) v0 2 ((gI (sI h s0 1 s1) v0 2) - 1))).bind fun h4 =>
  if 15 ≤ (gI h4 v0 1) then
    some (h4, 1)
  else
    (gR h4 v0 0).bind fun b6 =>
    if inA L b6 3 (gI h4 v0 1) = true then
    (gR h4 b6 (gI h4 v0 1).toNatClampNeg).bind fun b9 =>
    if isO L v1 6 = true then
    (f_X6_copyFrom L h4 v1 b9).bind fun r12 =>
    some (r12, 1)
    else none
    else none
  else none
  else none
set_option maxRecDepth 100000 in
set_option maxHeartbeats 4000000 in
theorem m_X1_pop_J28 {l : Launch} {d : Nat} {L : eL}  {r : eH × Int32} (hd : 3 ≤ d)  : ∀ (h : eH) (v0 : Nat) (v1 : Nat) (s0 : Nat) (s1 : Int32), f_X1_pop_J28 L h v0 v1 s0 s1 = some r → E l yX1_pop cX1_pop 2 (some .boolean) (e_rm d 0 0) 0 0 true L (Qx (some (.int r.2)) L r.1) L h 0 0 28 [(0, .ref v0), (1, .ref v1)] [.int s1, .ref s0] := by
  intro h v0 v1 s0 s1 hf
  unfold f_X1_pop_J28 at hf
  obtain ⟨hO2, hf⟩ := e_if hf
  refine e_putI hO2 fc_1_1 rfl lk_RX1_15 dX1_pop_28 ?_
  refine e_aload_n 0 dX1_pop_31 rfl rfl ?_
  refine e_dupR dX1_pop_32 ?_
  obtain ⟨hO3, hf⟩ := e_if hf
  refine e_getI hO3 fc_1_2 lk_RX1_19 dX1_pop_33 ?_
  refine e_iconst (v := 1) dX1_pop_36 (by decide) ?_
  refine e_isub dX1_pop_37 ?_
  refine e_putI hO3 fc_1_2 rfl lk_RX1_19 dX1_pop_38 ?_
  obtain ⟨h4, hh5, hf⟩ := e_bd hf
  refine e_hn hh5 ?_
  refine e_aload_n 0 dX1_pop_41 rfl rfl ?_
  refine e_getI hO3 fc_1_1 lk_RX1_15 dX1_pop_42 ?_
  refine e_bipush (v := 15) dX1_pop_45 (by decide) ?_
  refine e_icmp_ge (t := 63) dX1_pop_47 (by decide) (fun c => ?_) (fun c => ?_)
  · replace hf := e_it c hf
    refine e_iconst (v := 1) dX1_pop_63 (by decide) ?_
    exact e_zret (ty := .boolean) rfl rfl dX1_pop_64 (qW hf)
  · replace hf := e_ie c hf
    refine e_aload_n 1 dX1_pop_50 rfl rfl ?_
    refine e_aload_n 0 dX1_pop_51 rfl rfl ?_
    obtain ⟨b6, hb7, hf⟩ := e_bd hf
    refine e_getR hO3 fc_1_0 lk_RX1_11 dX1_pop_52 hb7 ?_
    refine e_aload_n 0 dX1_pop_55 rfl rfl ?_
    refine e_getI hO3 fc_1_1 lk_RX1_15 dX1_pop_56 ?_
    obtain ⟨hI8, hf⟩ := e_if hf
    obtain ⟨b9, hb10, hf⟩ := e_bd hf
    refine e_rald hI8 hb10 dX1_pop_59 ?_
    obtain ⟨hO11, hf⟩ := e_if hf
    obtain ⟨r12, hr13, hf⟩ := e_bd hf
    refine e_callV (st := []) ml_RX1_23 k_X6_copyFrom (m_X6_copyFrom (d := d - 1) (by omega) hr13) hO11 ⟨by decide, rfl⟩ rfl rfl (Nat.le_of_ble_eq_true rfl) ⟨by omega, by decide⟩ ⟨Nat.le_refl _, Nat.le_refl _⟩ dX1_pop_60 ?_
    refine e_iconst (v := 1) dX1_pop_63 (by decide) ?_
    exact e_zret (ty := .boolean) rfl rfl dX1_pop_64 (qW hf)
def f_X1_pop (L : eL) (h : eH) (v0 : Nat) (v1 : Nat) : Option (eH × Int32) :=
  if isO L v0 1 = true then
  if 0 < (gI h v0 2) then
    if (gI h v0 1) ≤ 0 then
      f_X1_pop_J28 L h v0 v1 v0 14
    else
      f_X1_pop_J28 L h v0 v1 v0 ((gI h v0 1) - 1)
  else
    some (h, 0)
  else none
set_option maxRecDepth 100000 in
set_option maxHeartbeats 4000000 in
theorem m_X1_pop {l : Launch} {d : Nat} {L : eL} {h : eH} {v0 : Nat} {v1 : Nat} {r : eH × Int32} (hd : 3 ≤ d) (hf : f_X1_pop L h v0 v1 = some r) : e_Met l yX1_pop cX1_pop 2 (some .boolean) d 0 0 true L h [.ref v0, .ref v1] (Qx (some (.int r.2)) L r.1) := by
  refine e_metl (by decide) (Nat.le_of_ble_eq_true rfl) (lv := [(0, .ref v0), (1, .ref v1)]) rfl ?_
  unfold f_X1_pop at hf
  refine e_aload_n 0 dX1_pop_0 rfl rfl ?_
  obtain ⟨hO1, hf⟩ := e_if hf
  refine e_getI hO1 fc_1_2 lk_RX1_19 dX1_pop_1 ?_
  refine e_if_gt (t := 9) dX1_pop_4 (by decide) (fun c => ?_) (fun c => ?_)
  · replace hf := e_it c hf
    refine e_aload_n 0 dX1_pop_9 rfl rfl ?_
    refine e_aload_n 0 dX1_pop_10 rfl rfl ?_
    refine e_getI hO1 fc_1_1 lk_RX1_15 dX1_pop_11 ?_
    refine e_if_le (t := 26) dX1_pop_14 (by decide) (fun c => ?_) (fun c => ?_)
    · replace hf := e_it c hf
      refine e_bipush (v := 14) dX1_pop_26 (by decide) ?_
      exact m_X1_pop_J28 hd _ _ _ _ _ hf
    · replace hf := e_ie c hf
      refine e_aload_n 0 dX1_pop_17 rfl rfl ?_
      refine e_getI hO1 fc_1_1 lk_RX1_15 dX1_pop_18 ?_
      refine e_iconst (v := 1) dX1_pop_21 (by decide) ?_
      refine e_isub dX1_pop_22 ?_
      refine e_goto (t := 28) dX1_pop_23 (by decide) ?_
      exact m_X1_pop_J28 hd _ _ _ _ _ hf
  · replace hf := e_ie c hf
    refine e_iconst (v := 0) dX1_pop_7 (by decide) ?_
    exact e_zret (ty := .boolean) rfl rfl dX1_pop_8 (qW hf)
def f_X1_size (L : eL) (h : eH) (v0 : Nat) : Option Int32 :=
  if isO L v0 1 = true then
  some (gI h v0 2)
  else none
set_option maxRecDepth 100000 in
set_option maxHeartbeats 4000000 in
theorem m_X1_size {l : Launch} {d : Nat} {L : eL} {h : eH} {v0 : Nat} {r : Int32} (hd : 1 ≤ d) (hf : f_X1_size L h v0 = some r) : e_Met l yX1_size cX1_size 1 (some .int) d 0 0 true L h [.ref v0] (Qx (some (.int r)) L h) := by
  refine e_metl (by decide) (Nat.le_of_ble_eq_true rfl) (lv := [(0, .ref v0)]) rfl ?_
  unfold f_X1_size at hf
  refine e_aload_n 0 dX1_size_0 rfl rfl ?_
  obtain ⟨hO1, hf⟩ := e_if hf
  refine e_getI hO1 fc_1_2 lk_RX1_19 dX1_size_1 ?_
  exact e_iret rfl dX1_size_4 (qP hf)
def f_X10_undo (L : eL) (h : eH) (v0 : Nat) : Option (eH × Int32) :=
  if isO L v0 10 = true then
  (gR h v0 3).bind fun b2 =>
  (gR h v0 7).bind fun b4 =>
  if isO L b2 1 = true then
  (f_X1_pop L h b2 b4).bind fun r7 =>
  if r7.2 = 0 then
    some (r7.1, (-1))
  else
    (gR r7.1 v0 3).bind fun b9 =>
    if isO L b9 1 = true then
    (f_X1_size L r7.1 b9).bind fun r12 =>
    some (r7.1, r12)
    else none
  else none
  else none
set_option maxRecDepth 100000 in
set_option maxHeartbeats 4000000 in
theorem m_X10_undo {l : Launch} {d : Nat} {L : eL} {h : eH} {v0 : Nat} {r : eH × Int32} (hd : 4 ≤ d) (hf : f_X10_undo L h v0 = some r) : e_Met l yX10_undo cX10_undo 1 (some .int) d 0 0 true L h [.ref v0] (Qx (some (.int r.2)) L r.1) := by
  refine e_metl (by decide) (Nat.le_of_ble_eq_true rfl) (lv := [(0, .ref v0)]) rfl ?_
  unfold f_X10_undo at hf
  refine e_aload_n 0 dX10_undo_0 rfl rfl ?_
  obtain ⟨hO1, hf⟩ := e_if hf
  obtain ⟨b2, hb3, hf⟩ := e_bd hf
  refine e_getR hO1 fc_10_3 lk_RX10_33 dX10_undo_1 hb3 ?_
  refine e_aload_n 0 dX10_undo_4 rfl rfl ?_
  obtain ⟨b4, hb5, hf⟩ := e_bd hf
  refine e_getR hO1 fc_10_7 lk_RX10_61 dX10_undo_5 hb5 ?_
  obtain ⟨hO6, hf⟩ := e_if hf
  obtain ⟨r7, hr8, hf⟩ := e_bd hf
  refine e_callV (st := []) ml_RX10_273 k_X1_pop (m_X1_pop (d := d - 1) (by omega) hr8) hO6 ⟨by decide, rfl⟩ rfl rfl (Nat.le_of_ble_eq_true rfl) ⟨by omega, by decide⟩ ⟨Nat.le_refl _, Nat.le_refl _⟩ dX10_undo_8 ?_
  refine e_if_eq (t := 24) dX10_undo_11 (by decide) (fun c => ?_) (fun c => ?_)
  · replace hf := e_it c hf
    refine e_iconst (v := (-1)) dX10_undo_24 (by decide) ?_
    exact e_iret rfl dX10_undo_25 (qW hf)
  · replace hf := e_ie c hf
    refine e_aload_n 0 dX10_undo_14 rfl rfl ?_
    obtain ⟨b9, hb10, hf⟩ := e_bd hf
    refine e_getR hO1 fc_10_3 lk_RX10_33 dX10_undo_15 hb10 ?_
    obtain ⟨hO11, hf⟩ := e_if hf
    obtain ⟨r12, hr13, hf⟩ := e_bd hf
    refine e_callV (st := []) ml_RX10_277 k_X1_size (m_X1_size (d := d - 1) (by omega) hr13) hO11 ⟨by decide, rfl⟩ rfl rfl (Nat.le_of_ble_eq_true rfl) ⟨by omega, by decide⟩ ⟨Nat.le_refl _, Nat.le_refl _⟩ dX10_undo_18 ?_
    refine e_goto (t := 25) dX10_undo_21 (by decide) ?_
    exact e_iret rfl dX10_undo_25 (qW hf)
def f_X10_been_L38 (L : eL) : Nat → (eH → Nat → Int64 → Option (eH × Int32)) → eH → Nat → Int32 → Int64 → Int32 → Option (eH × Int32)
  | 0, _, _, _, _, _, _ => none
  | n + 1, k76, h, v0, v1, v2, v4 =>
    if v1 ≤ v4 then
      k76 h v0 v2
    else
      if isO L v0 10 = true then
      (gR h v0 9).bind fun b13 =>
      (f_X10_goOn L h v0 b13 1 (-1)).bind fun r15 =>
      if r15.2 = 0 then
        k76 r15.1 v0 v2
      else
        (gR r15.1 v0 9).bind fun b17 =>
        if isO L b17 6 = true then
        f_X10_been_L38 L n k76 r15.1 v0 v1 (v2 ||| (f_X10_bit (gI r15.1 b17 1))) (v4 + Int32.ofInt 1)
        else none
      else none
set_option maxRecDepth 100000 in
set_option maxHeartbeats 4000000 in
theorem m_X10_been_L38 {l : Launch} {d : Nat} {L : eL}  {r : eH × Int32} {k76 : eH → Nat → Int64 → Option (eH × Int32)} (hd : 5 ≤ d) (hk76 : ∀ (h : eH) (v0 : Nat) (v2 : Int64), k76 h v0 v2 = some r → E l yX10_been cX10_been 5 (some .int) (e_rm d 0 0) 0 0 true L (Qx (some (.int r.2)) L r.1) L h 0 0 76 [(0, .ref v0), (2, .long v2)] []) : ∀ (n : Nat) (h : eH) (v0 : Nat) (v1 : Int32) (v2 : Int64) (v4 : Int32), f_X10_been_L38 L n k76 h v0 v1 v2 v4 = some r → E l yX10_been cX10_been 5 (some .int) (e_rm d 0 0) 0 0 true L (Qx (some (.int r.2)) L r.1) L h 0 0 38 [(0, .ref v0), (1, .int v1), (2, .long v2), (4, .int v4)] [] := by
  intro n
  induction n with
  | zero => intro h v0 v1 v2 v4 hf; exact absurd hf (by simp [f_X10_been_L38])
  | succ n ih =>
    intro h v0 v1 v2 v4 hf
    unfold f_X10_been_L38 at hf
    refine e_iload 3 dX10_been_38 rfl ?_
    refine e_iload_n 1 dX10_been_40 rfl rfl ?_
    refine e_icmp_ge (t := 76) dX10_been_41 (by decide) (fun c => ?_) (fun c => ?_)
    · replace hf := e_it c hf
      refine e_sub [0, 2] rfl ?_
      exact hk76 _ _ _ hf
    · replace hf := e_ie c hf
      refine e_aload_n 0 dX10_been_44 rfl rfl ?_
      refine e_aload_n 0 dX10_been_45 rfl rfl ?_
      obtain ⟨hO12, hf⟩ := e_if hf
      obtain ⟨b13, hb14, hf⟩ := e_bd hf
      refine e_getR hO12 fc_10_9 lk_RX10_68 dX10_been_46 hb14 ?_
      refine e_iconst (v := 1) dX10_been_49 (by decide) ?_
      refine e_iconst (v := (-1)) dX10_been_50 (by decide) ?_
      obtain ⟨r15, hr16, hf⟩ := e_bd hf
      refine e_callV (st := []) ml_RX10_278 k_X10_goOn (m_X10_goOn (d := d - 1) (by omega) hr16) hO12 ⟨by decide, rfl⟩ rfl rfl (Nat.le_of_ble_eq_true rfl) ⟨by omega, by decide⟩ ⟨Nat.le_refl _, Nat.le_refl _⟩ dX10_been_51 ?_
      refine e_if_eq (t := 76) dX10_been_54 (by decide) (fun c => ?_) (fun c => ?_)
      · replace hf := e_it c hf
        refine e_sub [0, 2] rfl ?_
        exact hk76 _ _ _ hf
      · replace hf := e_ie c hf
        refine e_lload_n 2 dX10_been_57 rfl rfl ?_
        refine e_aload_n 0 dX10_been_58 rfl rfl ?_
        obtain ⟨b17, hb18, hf⟩ := e_bd hf
        refine e_getR hO12 fc_10_9 lk_RX10_68 dX10_been_59 hb18 ?_
        obtain ⟨hO19, hf⟩ := e_if hf
        refine e_getIN hO19 fc_6_1 lk_RX10_183 dX10_been_62 ?_
        refine e_callS (st := [.long _]) ml_RX10_289 k_X10_bit (m_X10_bit (d := d - 1) (by omega) rfl) rfl rfl (Nat.le_of_ble_eq_true rfl) ⟨by omega, by decide⟩ ⟨Nat.le_refl _, Nat.le_refl _⟩ dX10_been_65 ?_
        refine e_lor dX10_been_68 ?_
        refine e_lstore_n (lv' := [(2, .long _), (0, .ref _), (1, .int _), (4, .int _)]) dX10_been_69 rfl (by decide) rfl ?_
        refine e_iinc (lv' := [(4, .int _), (2, .long _), (0, .ref _), (1, .int _)]) 3 dX10_been_70 rfl (by decide) rfl ?_
        refine e_goto (t := 38) dX10_been_73 (by decide) ?_
        refine e_sub [2, 3, 1, 0] rfl ?_
        exact ih _ _ _ _ _ hf
def f_X10_been_J76 (L : eL) (h : eH) (v0 : Nat) (v2 : Int64) : Option (eH × Int32) :=
  if isO L v0 10 = true then
  (gR h v0 1).bind fun b24 =>
  if isO L b24 3 = true then
  (f_X3_begin L h b24).bind fun r27 =>
  (gR r27 v0 1).bind fun b29 =>
  if isO L b29 3 = true then
  (f_X3_add L r27 b29 v2).bind fun r32 =>
  (gR r32 v0 1).bind fun b34 =>
  (gR r32 v0 9).bind fun b36 =>
  if isO L b36 6 = true then
  if isO L b34 3 = true then
  (f_X3_add L r32 b34 ((gI r32 b36 1).toInt64)).bind fun r40 =>
  (gR r40 v0 1).bind fun b42 =>
  (gR r40 v0 9).bind fun b44 =>
  if isO L b44 6 = true then
  if isO L b42 3 = true then
  (f_X3_add L r40 b42 ((gI r40 b44 3).toInt64)).bind fun r48 =>
  some (r48, f_J13_bitCount_95d88 v2)
  else none
  else none
  else none
  else none
  else none
  else none
  else none
set_option maxRecDepth 100000 in
set_option maxHeartbeats 4000000 in
theorem m_X10_been_J76 {l : Launch} {d : Nat} {L : eL}  {r : eH × Int32} (hd : 5 ≤ d)  : ∀ (h : eH) (v0 : Nat) (v2 : Int64), f_X10_been_J76 L h v0 v2 = some r → E l yX10_been cX10_been 5 (some .int) (e_rm d 0 0) 0 0 true L (Qx (some (.int r.2)) L r.1) L h 0 0 76 [(0, .ref v0), (2, .long v2)] [] := by
  intro h v0 v2 hf
  unfold f_X10_been_J76 at hf
  refine e_aload_n 0 dX10_been_76 rfl rfl ?_
  obtain ⟨hO23, hf⟩ := e_if hf
  obtain ⟨b24, hb25, hf⟩ := e_bd hf
  refine e_getR hO23 fc_10_1 lk_RX10_19 dX10_been_77 hb25 ?_
  obtain ⟨hO26, hf⟩ := e_if hf
  obtain ⟨r27, hr28, hf⟩ := e_bd hf
  refine e_callV (st := []) ml_RX10_267 k_X3_begin (m_X3_begin (d := d - 1) (by omega) hr28) hO26 ⟨by decide, rfl⟩ rfl rfl (Nat.le_of_ble_eq_true rfl) ⟨by omega, by decide⟩ ⟨Nat.le_refl _, Nat.le_refl _⟩ dX10_been_80 ?_
  refine e_aload_n 0 dX10_been_83 rfl rfl ?_
  obtain ⟨b29, hb30, hf⟩ := e_bd hf
  refine e_getR hO23 fc_10_1 lk_RX10_19 dX10_been_84 hb30 ?_
  refine e_lload_n 1 dX10_been_87 rfl rfl ?_
  obtain ⟨hO31, hf⟩ := e_if hf
  obtain ⟨r32, hr33, hf⟩ := e_bd hf
  refine e_callV (st := []) ml_RX10_269 k_X3_add (m_X3_add (d := d - 1) (by omega) hr33) hO31 ⟨by decide, rfl⟩ rfl rfl (Nat.le_of_ble_eq_true rfl) ⟨by omega, by decide⟩ ⟨Nat.le_refl _, Nat.le_refl _⟩ dX10_been_88 ?_
  refine e_aload_n 0 dX10_been_91 rfl rfl ?_
  obtain ⟨b34, hb35, hf⟩ := e_bd hf
  refine e_getR hO23 fc_10_1 lk_RX10_19 dX10_been_92 hb35 ?_
  refine e_aload_n 0 dX10_been_95 rfl rfl ?_
  obtain ⟨b36, hb37, hf⟩ := e_bd hf
  refine e_getR hO23 fc_10_9 lk_RX10_68 dX10_been_96 hb37 ?_
  obtain ⟨hO38, hf⟩ := e_if hf
  refine e_getIN hO38 fc_6_1 lk_RX10_183 dX10_been_99 ?_
  refine e_i2l dX10_been_102 ?_
  obtain ⟨hO39, hf⟩ := e_if hf
  obtain ⟨r40, hr41, hf⟩ := e_bd hf
  refine e_callV (st := []) ml_RX10_269 k_X3_add (m_X3_add (d := d - 1) (by omega) hr41) hO39 ⟨by decide, rfl⟩ rfl rfl (Nat.le_of_ble_eq_true rfl) ⟨by omega, by decide⟩ ⟨Nat.le_refl _, Nat.le_refl _⟩ dX10_been_103 ?_
  refine e_aload_n 0 dX10_been_106 rfl rfl ?_
  obtain ⟨b42, hb43, hf⟩ := e_bd hf
  refine e_getR hO23 fc_10_1 lk_RX10_19 dX10_been_107 hb43 ?_
  refine e_aload_n 0 dX10_been_110 rfl rfl ?_
  obtain ⟨b44, hb45, hf⟩ := e_bd hf
  refine e_getR hO23 fc_10_9 lk_RX10_68 dX10_been_111 hb45 ?_
  obtain ⟨hO46, hf⟩ := e_if hf
  refine e_getIN hO46 fc_6_3 lk_RX10_195 dX10_been_114 ?_
  refine e_i2l dX10_been_117 ?_
  obtain ⟨hO47, hf⟩ := e_if hf
  obtain ⟨r48, hr49, hf⟩ := e_bd hf
  refine e_callV (st := []) ml_RX10_269 k_X3_add (m_X3_add (d := d - 1) (by omega) hr49) hO47 ⟨by decide, rfl⟩ rfl rfl (Nat.le_of_ble_eq_true rfl) ⟨by omega, by decide⟩ ⟨Nat.le_refl _, Nat.le_refl _⟩ dX10_been_118 ?_
  refine e_lload_n 1 dX10_been_121 rfl rfl ?_
  refine e_callS (st := []) ml_RX10_143 k_J13_bitCount_95d88 (m_J13_bitCount_95d88 (d := d - 1) (by omega) rfl) rfl rfl (Nat.le_of_ble_eq_true rfl) ⟨by omega, by decide⟩ ⟨Nat.le_refl _, Nat.le_refl _⟩ dX10_been_122 ?_
  exact e_iret rfl dX10_been_125 (qW hf)
def f_X10_been (L : eL) (h : eH) (v0 : Nat) (v1 : Int32) : Option (eH × Int32) :=
  if v1 < 0 then
    some (h, (-1))
  else
    if v1 ≤ 200 then
      if isO L v0 10 = true then
      (gR h v0 9).bind fun b2 =>
      (gR h v0 7).bind fun b4 =>
      if isO L b2 6 = true then
      (f_X6_copyFrom L h b2 b4).bind fun r7 =>
      (gR r7 v0 9).bind fun b9 =>
      if isO L b9 6 = true then
      f_X10_been_L38 L e_fu (fun (h20 : eH) (w0_21 : Nat) (w2_22 : Int64) =>
        f_X10_been_J76 L h20 w0_21 w2_22) r7 v0 v1 (f_X10_bit (gI r7 b9 1)) 0
      else none
      else none
      else none
    else
      some (h, (-1))
set_option maxRecDepth 100000 in
set_option maxHeartbeats 4000000 in
theorem m_X10_been {l : Launch} {d : Nat} {L : eL} {h : eH} {v0 : Nat} {v1 : Int32} {r : eH × Int32} (hd : 5 ≤ d) (hf : f_X10_been L h v0 v1 = some r) : e_Met l yX10_been cX10_been 5 (some .int) d 0 0 true L h [.ref v0, .int v1] (Qx (some (.int r.2)) L r.1) := by
  refine e_metl (by decide) (Nat.le_of_ble_eq_true rfl) (lv := [(0, .ref v0), (1, .int v1)]) rfl ?_
  unfold f_X10_been at hf
  refine e_iload_n 1 dX10_been_0 rfl rfl ?_
  refine e_if_lt (t := 11) dX10_been_1 (by decide) (fun c => ?_) (fun c => ?_)
  · replace hf := e_it c hf
    refine e_iconst (v := (-1)) dX10_been_11 (by decide) ?_
    exact e_iret rfl dX10_been_12 (qW hf)
  · replace hf := e_ie c hf
    refine e_iload_n 1 dX10_been_4 rfl rfl ?_
    refine e_sipush (v := 200) dX10_been_5 (by decide) ?_
    refine e_icmp_le (t := 13) dX10_been_8 (by decide) (fun c => ?_) (fun c => ?_)
    · replace hf := e_it c hf
      refine e_aload_n 0 dX10_been_13 rfl rfl ?_
      obtain ⟨hO1, hf⟩ := e_if hf
      obtain ⟨b2, hb3, hf⟩ := e_bd hf
      refine e_getR hO1 fc_10_9 lk_RX10_68 dX10_been_14 hb3 ?_
      refine e_aload_n 0 dX10_been_17 rfl rfl ?_
      obtain ⟨b4, hb5, hf⟩ := e_bd hf
      refine e_getR hO1 fc_10_7 lk_RX10_61 dX10_been_18 hb5 ?_
      obtain ⟨hO6, hf⟩ := e_if hf
      obtain ⟨r7, hr8, hf⟩ := e_bd hf
      refine e_callV (st := []) ml_RX10_230 k_X6_copyFrom (m_X6_copyFrom (d := d - 1) (by omega) hr8) hO6 ⟨by decide, rfl⟩ rfl rfl (Nat.le_of_ble_eq_true rfl) ⟨by omega, by decide⟩ ⟨Nat.le_refl _, Nat.le_refl _⟩ dX10_been_21 ?_
      refine e_aload_n 0 dX10_been_24 rfl rfl ?_
      obtain ⟨b9, hb10, hf⟩ := e_bd hf
      refine e_getR hO1 fc_10_9 lk_RX10_68 dX10_been_25 hb10 ?_
      obtain ⟨hO11, hf⟩ := e_if hf
      refine e_getIN hO11 fc_6_1 lk_RX10_183 dX10_been_28 ?_
      refine e_callS (st := []) ml_RX10_289 k_X10_bit (m_X10_bit (d := d - 1) (by omega) rfl) rfl rfl (Nat.le_of_ble_eq_true rfl) ⟨by omega, by decide⟩ ⟨Nat.le_refl _, Nat.le_refl _⟩ dX10_been_31 ?_
      refine e_lstore_n (lv' := [(2, .long _), (0, .ref _), (1, .int _)]) dX10_been_34 rfl (by decide) rfl ?_
      refine e_iconst (v := 0) dX10_been_35 (by decide) ?_
      refine e_istore (lv' := [(4, .int _), (2, .long _), (0, .ref _), (1, .int _)]) dX10_been_36 (by decide) rfl ?_
      refine e_sub [2, 3, 1, 0] rfl ?_
      refine m_X10_been_L38 hd ?_ e_fu _ _ _ _ _ hf
      · intro h20 w0_21 w2_22 hf
        exact m_X10_been_J76 hd _ _ _ hf
    · replace hf := e_ie c hf
      refine e_iconst (v := (-1)) dX10_been_11 (by decide) ?_
      exact e_iret rfl dX10_been_12 (qW hf)
def f_X2_moved (L : eL) (h : eH) (v0 : Nat) (v1 : Int64) (v3 : Int32) : Option Int64 :=
  if v3 = 0 then
    if isO L v0 2 = true then
    some ((v1.toUInt64 >>> ((gI h v0 2).toInt64.toUInt64 &&& Int64.toUInt64 63)).toInt64)
    else none
  else if v3 = 1 then
    if isO L v0 2 = true then
    some ((v1 &&& ((gL h v0 7) ^^^ (-1))) <<< ((1 : Int32).toInt64 &&& 63))
    else none
  else if v3 = 2 then
    if isO L v0 2 = true then
    some (v1 <<< ((gI h v0 2).toInt64 &&& 63))
    else none
  else
    if isO L v0 2 = true then
    some (((v1 &&& ((gL h v0 6) ^^^ (-1))).toUInt64 >>> ((1 : Int32).toInt64.toUInt64 &&& Int64.toUInt64 63)).toInt64)
    else none
set_option maxRecDepth 100000 in
set_option maxHeartbeats 4000000 in
theorem m_X2_moved {l : Launch} {d : Nat} {L : eL} {h : eH} {v0 : Nat} {v1 : Int64} {v3 : Int32} {r : Int64} (hd : 1 ≤ d) (hf : f_X2_moved L h v0 v1 v3 = some r) : e_Met l yX2_moved cX2_moved 4 (some .long) d 0 0 true L h [.ref v0, .long v1, .int v3] (Qx (some (.long r)) L h) := by
  refine e_metl (by decide) (Nat.le_of_ble_eq_true rfl) (lv := [(0, .ref v0), (1, .long v1), (3, .int v3)]) rfl ?_
  unfold f_X2_moved at hf
  refine e_iload_n 2 dX2_moved_0 rfl rfl ?_
  by_cases c0 : v3 = 0
  · replace hf := e_it c0 hf
    refine e_tabIn (t := 28) dX2_moved_1 (by rw [c0]; decide) (by rw [c0]; decide) (by first | (rw [c0]; done) | (rw [c0]; rfl)) (by decide) ?_
    refine e_lload_n 1 dX2_moved_28 rfl rfl ?_
    refine e_aload_n 0 dX2_moved_29 rfl rfl ?_
    obtain ⟨hO1, hf⟩ := e_if hf
    refine e_getI hO1 fc_2_2 lk_RX2_19 dX2_moved_30 ?_
    refine e_lushr dX2_moved_33 ?_
    exact e_lret rfl dX2_moved_34 (qPL hf)
  replace hf := e_ie c0 hf
  by_cases c1 : v3 = 1
  · replace hf := e_it c1 hf
    refine e_tabIn (t := 35) dX2_moved_1 (by rw [c1]; decide) (by rw [c1]; decide) (by first | (rw [c1]; done) | (rw [c1]; rfl)) (by decide) ?_
    refine e_lload_n 1 dX2_moved_35 rfl rfl ?_
    refine e_aload_n 0 dX2_moved_36 rfl rfl ?_
    obtain ⟨hO2, hf⟩ := e_if hf
    refine e_getL hO2 fc_2_7 lk_RX2_35 dX2_moved_37 ?_
    refine e_ldc2 kc_RX2_80 dX2_moved_40 ?_
    refine e_lxor dX2_moved_43 ?_
    refine e_land dX2_moved_44 ?_
    refine e_iconst (v := 1) dX2_moved_45 (by decide) ?_
    refine e_lshl dX2_moved_46 ?_
    exact e_lret rfl dX2_moved_47 (qPL hf)
  replace hf := e_ie c1 hf
  by_cases c2 : v3 = 2
  · replace hf := e_it c2 hf
    refine e_tabIn (t := 48) dX2_moved_1 (by rw [c2]; decide) (by rw [c2]; decide) (by first | (rw [c2]; done) | (rw [c2]; rfl)) (by decide) ?_
    refine e_lload_n 1 dX2_moved_48 rfl rfl ?_
    refine e_aload_n 0 dX2_moved_49 rfl rfl ?_
    obtain ⟨hO3, hf⟩ := e_if hf
    refine e_getI hO3 fc_2_2 lk_RX2_19 dX2_moved_50 ?_
    refine e_lshl dX2_moved_53 ?_
    exact e_lret rfl dX2_moved_54 (qPL hf)
  replace hf := e_ie c2 hf
  refine e_tabOut (t := 55) dX2_moved_1 (e_out (fun j j1 j2 => by
      have j3 : j = 0 ∨ j = 1 ∨ j = 2 := by omega
      rcases j3 with rfl | rfl | rfl <;> assumption)) (by decide) ?_
  refine e_lload_n 1 dX2_moved_55 rfl rfl ?_
  refine e_aload_n 0 dX2_moved_56 rfl rfl ?_
  obtain ⟨hO4, hf⟩ := e_if hf
  refine e_getL hO4 fc_2_6 lk_RX2_32 dX2_moved_57 ?_
  refine e_ldc2 kc_RX2_80 dX2_moved_60 ?_
  refine e_lxor dX2_moved_63 ?_
  refine e_land dX2_moved_64 ?_
  refine e_iconst (v := 1) dX2_moved_65 (by decide) ?_
  refine e_lushr dX2_moved_66 ?_
  exact e_lret rfl dX2_moved_67 (qPL hf)
def f_X2_around (L : eL) (h : eH) (v0 : Nat) (v1 : Int64) : Option Int64 :=
  if isO L v0 2 = true then
  (f_X2_moved L h v0 v1 0).bind fun r2 =>
  (f_X2_moved L h v0 v1 1).bind fun r4 =>
  (f_X2_moved L h v0 v1 2).bind fun r6 =>
  (f_X2_moved L h v0 v1 3).bind fun r8 =>
  some (((r2 ||| r4) ||| r6) ||| r8)
  else none
set_option maxRecDepth 100000 in
set_option maxHeartbeats 4000000 in
theorem m_X2_around {l : Launch} {d : Nat} {L : eL} {h : eH} {v0 : Nat} {v1 : Int64} {r : Int64} (hd : 2 ≤ d) (hf : f_X2_around L h v0 v1 = some r) : e_Met l yX2_around cX2_around 3 (some .long) d 0 0 true L h [.ref v0, .long v1] (Qx (some (.long r)) L h) := by
  refine e_metl (by decide) (Nat.le_of_ble_eq_true rfl) (lv := [(0, .ref v0), (1, .long v1)]) rfl ?_
  unfold f_X2_around at hf
  refine e_aload_n 0 dX2_around_0 rfl rfl ?_
  refine e_lload_n 1 dX2_around_1 rfl rfl ?_
  refine e_iconst (v := 0) dX2_around_2 (by decide) ?_
  obtain ⟨hO1, hf⟩ := e_if hf
  obtain ⟨r2, hr3, hf⟩ := e_bd hf
  refine e_callV (st := []) ml_RX2_82 k_X2_moved (m_X2_moved (d := d - 1) (by omega) hr3) hO1 ⟨by decide, rfl⟩ rfl rfl (Nat.le_of_ble_eq_true rfl) ⟨by omega, by decide⟩ ⟨Nat.le_refl _, Nat.le_refl _⟩ dX2_around_3 ?_
  refine e_aload_n 0 dX2_around_6 rfl rfl ?_
  refine e_lload_n 1 dX2_around_7 rfl rfl ?_
  refine e_iconst (v := 1) dX2_around_8 (by decide) ?_
  obtain ⟨r4, hr5, hf⟩ := e_bd hf
  refine e_callV (st := [.long _]) ml_RX2_82 k_X2_moved (m_X2_moved (d := d - 1) (by omega) hr5) hO1 ⟨by decide, rfl⟩ rfl rfl (Nat.le_of_ble_eq_true rfl) ⟨by omega, by decide⟩ ⟨Nat.le_refl _, Nat.le_refl _⟩ dX2_around_9 ?_
  refine e_lor dX2_around_12 ?_
  refine e_aload_n 0 dX2_around_13 rfl rfl ?_
  refine e_lload_n 1 dX2_around_14 rfl rfl ?_
  refine e_iconst (v := 2) dX2_around_15 (by decide) ?_
  obtain ⟨r6, hr7, hf⟩ := e_bd hf
  refine e_callV (st := [.long _]) ml_RX2_82 k_X2_moved (m_X2_moved (d := d - 1) (by omega) hr7) hO1 ⟨by decide, rfl⟩ rfl rfl (Nat.le_of_ble_eq_true rfl) ⟨by omega, by decide⟩ ⟨Nat.le_refl _, Nat.le_refl _⟩ dX2_around_16 ?_
  refine e_lor dX2_around_19 ?_
  refine e_aload_n 0 dX2_around_20 rfl rfl ?_
  refine e_lload_n 1 dX2_around_21 rfl rfl ?_
  refine e_iconst (v := 3) dX2_around_22 (by decide) ?_
  obtain ⟨r8, hr9, hf⟩ := e_bd hf
  refine e_callV (st := [.long _]) ml_RX2_82 k_X2_moved (m_X2_moved (d := d - 1) (by omega) hr9) hO1 ⟨by decide, rfl⟩ rfl rfl (Nat.le_of_ble_eq_true rfl) ⟨by omega, by decide⟩ ⟨Nat.le_refl _, Nat.le_refl _⟩ dX2_around_23 ?_
  refine e_lor dX2_around_26 ?_
  exact e_lret rfl dX2_around_27 (qPL hf)
def f_X2_reach_L13 (L : eL) (h : eH) : Nat → (Int64 → Option Int64) → Nat → Int64 → Int64 → Int64 → Int32 → Option Int64
  | 0, _, _, _, _, _, _ => none
  | n + 1, k57, v0, v1, v4, v6, v8 =>
    if 36 ≤ v8 then
      k57 v4
    else
      if (lg_cmp v6 0) = 0 then
        k57 v4
      else
        if isO L v0 2 = true then
        (f_X2_around L h v0 v6).bind fun r2 =>
        f_X2_reach_L13 L h n k57 v0 v1 (v4 ||| ((r2 &&& v1) &&& (v4 ^^^ (-1)))) ((r2 &&& v1) &&& (v4 ^^^ (-1))) (v8 + Int32.ofInt 1)
        else none
set_option maxRecDepth 100000 in
set_option maxHeartbeats 4000000 in
theorem m_X2_reach_L13 {l : Launch} {d : Nat} {L : eL} {h : eH} {r : Int64} {k57 : Int64 → Option Int64} (hd : 3 ≤ d) (hk57 : ∀ (v4 : Int64), k57 v4 = some r → E l yX2_reach cX2_reach 9 (some .long) (e_rm d 0 0) 0 0 true L (Qx (some (.long r)) L h) L h 0 0 57 [(4, .long v4)] []) : ∀ (n : Nat) (v0 : Nat) (v1 : Int64) (v4 : Int64) (v6 : Int64) (v8 : Int32), f_X2_reach_L13 L h n k57 v0 v1 v4 v6 v8 = some r → E l yX2_reach cX2_reach 9 (some .long) (e_rm d 0 0) 0 0 true L (Qx (some (.long r)) L h) L h 0 0 13 [(0, .ref v0), (1, .long v1), (4, .long v4), (6, .long v6), (8, .int v8)] [] := by
  intro n
  induction n with
  | zero => intro v0 v1 v4 v6 v8 hf; exact absurd hf (by simp [f_X2_reach_L13])
  | succ n ih =>
    intro v0 v1 v4 v6 v8 hf
    unfold f_X2_reach_L13 at hf
    refine e_iload 4 dX2_reach_13 rfl ?_
    refine e_bipush (v := 36) dX2_reach_15 (by decide) ?_
    refine e_icmp_ge (t := 57) dX2_reach_17 (by decide) (fun c => ?_) (fun c => ?_)
    · replace hf := e_it c hf
      refine e_sub [2] rfl ?_
      exact hk57 _ hf
    · replace hf := e_ie c hf
      refine e_lload 3 dX2_reach_20 rfl ?_
      refine e_lconst (v := 0) dX2_reach_22 (by decide) ?_
      refine e_lcmp dX2_reach_23 ?_
      refine e_if_eq (t := 57) dX2_reach_24 (by decide) (fun c => ?_) (fun c => ?_)
      · replace hf := e_it c hf
        refine e_sub [2] rfl ?_
        exact hk57 _ hf
      · replace hf := e_ie c hf
        refine e_aload_n 0 dX2_reach_27 rfl rfl ?_
        refine e_lload 3 dX2_reach_28 rfl ?_
        obtain ⟨hO1, hf⟩ := e_if hf
        obtain ⟨r2, hr3, hf⟩ := e_bd hf
        refine e_callV (st := []) ml_RX2_86 k_X2_around (m_X2_around (d := d - 1) (by omega) hr3) hO1 ⟨by decide, rfl⟩ rfl rfl (Nat.le_of_ble_eq_true rfl) ⟨by omega, by decide⟩ ⟨Nat.le_refl _, Nat.le_refl _⟩ dX2_reach_30 ?_
        refine e_lload_n 1 dX2_reach_33 rfl rfl ?_
        refine e_land dX2_reach_34 ?_
        refine e_lload 2 dX2_reach_35 rfl ?_
        refine e_ldc2 kc_RX2_80 dX2_reach_37 ?_
        refine e_lxor dX2_reach_40 ?_
        refine e_land dX2_reach_41 ?_
        refine e_lstore (lv' := [(6, .long _), (0, .ref _), (1, .long _), (4, .long _), (8, .int _)]) dX2_reach_42 (by decide) rfl ?_
        refine e_lload 3 dX2_reach_44 rfl ?_
        refine e_lload 0 dX2_reach_46 rfl ?_
        refine e_lor dX2_reach_48 ?_
        refine e_lstore (lv' := [(4, .long _), (6, .long _), (0, .ref _), (1, .long _), (8, .int _)]) dX2_reach_49 (by decide) rfl ?_
        refine e_iinc (lv' := [(8, .int _), (4, .long _), (6, .long _), (0, .ref _), (1, .long _)]) 4 dX2_reach_51 rfl (by decide) rfl ?_
        refine e_goto (t := 13) dX2_reach_54 (by decide) ?_
        refine e_sub [3, 4, 1, 2, 0] rfl ?_
        exact ih _ _ _ _ _ hf
def f_X2_reach (L : eL) (h : eH) (v0 : Nat) (v1 : Int64) (v3 : Int32) : Option Int64 :=
  f_X2_reach_L13 L h e_fu (fun (w4_4 : Int64) =>
    some w4_4) v0 v1 (f_X10_bit v3) (f_X10_bit v3) 0
set_option maxRecDepth 100000 in
set_option maxHeartbeats 4000000 in
theorem m_X2_reach {l : Launch} {d : Nat} {L : eL} {h : eH} {v0 : Nat} {v1 : Int64} {v3 : Int32} {r : Int64} (hd : 3 ≤ d) (hf : f_X2_reach L h v0 v1 v3 = some r) : e_Met l yX2_reach cX2_reach 9 (some .long) d 0 0 true L h [.ref v0, .long v1, .int v3] (Qx (some (.long r)) L h) := by
  refine e_metl (by decide) (Nat.le_of_ble_eq_true rfl) (lv := [(0, .ref v0), (1, .long v1), (3, .int v3)]) rfl ?_
  unfold f_X2_reach at hf
  refine e_iload_n 2 dX2_reach_0 rfl rfl ?_
  refine e_callSN (st := []) ml_RX2_64 k_X10_bit (m_X10_bit (d := d - 1) (by omega) rfl) rfl rfl (Nat.le_of_ble_eq_true rfl) ⟨by omega, by decide⟩ ⟨Nat.le_refl _, Nat.le_refl _⟩ dX2_reach_1 ?_
  refine e_lstore (lv' := [(4, .long _), (0, .ref _), (1, .long _), (3, .int _)]) dX2_reach_4 (by decide) rfl ?_
  refine e_lload 0 dX2_reach_6 rfl ?_
  refine e_lstore (lv' := [(6, .long _), (4, .long _), (0, .ref _), (1, .long _), (3, .int _)]) dX2_reach_8 (by decide) rfl ?_
  refine e_iconst (v := 0) dX2_reach_10 (by decide) ?_
  refine e_istore (lv' := [(8, .int _), (6, .long _), (4, .long _), (0, .ref _), (1, .long _), (3, .int _)]) dX2_reach_11 (by decide) rfl ?_
  refine e_sub [3, 4, 2, 1, 0] rfl ?_
  refine m_X2_reach_L13 hd ?_ e_fu _ _ _ _ _ hf
  · intro w4_4 hf
    refine e_lload 0 dX2_reach_57 rfl ?_
    exact e_lret rfl dX2_reach_59 (qPL hf)
def f_X10_stepsToSee_L32 (L : eL) : Nat → (eH → Int64 → Int32 → Option (eH × Int32)) → eH → Nat → Int32 → Int64 → Int32 → Option (eH × Int32)
  | 0, _, _, _, _, _, _ => none
  | n + 1, k83, h, v0, v3, v4, v6 =>
    if 999 ≤ v6 then
      k83 h v4 v6
    else
      if (lg_cmp v4 0) = 0 then
        k83 h v4 v6
      else
        if isO L v0 10 = true then
        (gR h v0 9).bind fun b13 =>
        (f_X10_goOn L h v0 b13 0 v3).bind fun r15 =>
        (gR r15.1 v0 9).bind fun b17 =>
        if isO L b17 6 = true then
        f_X10_stepsToSee_L32 L n k83 r15.1 v0 v3 (v4 &&& ((f_X10_bit (gI r15.1 b17 1)) ^^^ (-1))) (v6 + Int32.ofInt 1)
        else none
        else none
set_option maxRecDepth 100000 in
set_option maxHeartbeats 4000000 in
theorem m_X10_stepsToSee_L32 {l : Launch} {d : Nat} {L : eL}  {r : eH × Int32} {k83 : eH → Int64 → Int32 → Option (eH × Int32)} (hd : 5 ≤ d) (hk83 : ∀ (h : eH) (v4 : Int64) (v6 : Int32), k83 h v4 v6 = some r → E l yX10_stepsToSee cX10_stepsToSee 7 (some .int) (e_rm d 0 0) 0 0 true L (Qx (some (.int r.2)) L r.1) L h 0 0 83 [(4, .long v4), (6, .int v6)] []) : ∀ (n : Nat) (h : eH) (v0 : Nat) (v3 : Int32) (v4 : Int64) (v6 : Int32), f_X10_stepsToSee_L32 L n k83 h v0 v3 v4 v6 = some r → E l yX10_stepsToSee cX10_stepsToSee 7 (some .int) (e_rm d 0 0) 0 0 true L (Qx (some (.int r.2)) L r.1) L h 0 0 32 [(0, .ref v0), (3, .int v3), (4, .long v4), (6, .int v6)] [] := by
  intro n
  induction n with
  | zero => intro h v0 v3 v4 v6 hf; exact absurd hf (by simp [f_X10_stepsToSee_L32])
  | succ n ih =>
    intro h v0 v3 v4 v6 hf
    unfold f_X10_stepsToSee_L32 at hf
    refine e_iload 3 dX10_stepsToSee_32 rfl ?_
    refine e_sipush (v := 999) dX10_stepsToSee_34 (by decide) ?_
    refine e_icmp_ge (t := 83) dX10_stepsToSee_37 (by decide) (fun c => ?_) (fun c => ?_)
    · replace hf := e_it c hf
      refine e_sub [2, 3] rfl ?_
      exact hk83 _ _ _ hf
    · replace hf := e_ie c hf
      refine e_lload 2 dX10_stepsToSee_40 rfl ?_
      refine e_lconst (v := 0) dX10_stepsToSee_42 (by decide) ?_
      refine e_lcmp dX10_stepsToSee_43 ?_
      refine e_if_eq (t := 83) dX10_stepsToSee_44 (by decide) (fun c => ?_) (fun c => ?_)
      · replace hf := e_it c hf
        refine e_sub [2, 3] rfl ?_
        exact hk83 _ _ _ hf
      · replace hf := e_ie c hf
        refine e_aload_n 0 dX10_stepsToSee_47 rfl rfl ?_
        refine e_aload_n 0 dX10_stepsToSee_48 rfl rfl ?_
        obtain ⟨hO12, hf⟩ := e_if hf
        obtain ⟨b13, hb14, hf⟩ := e_bd hf
        refine e_getR hO12 fc_10_9 lk_RX10_68 dX10_stepsToSee_49 hb14 ?_
        refine e_iconst (v := 0) dX10_stepsToSee_52 (by decide) ?_
        refine e_iload_n 1 dX10_stepsToSee_53 rfl rfl ?_
        obtain ⟨r15, hr16, hf⟩ := e_bd hf
        refine e_callV (st := []) ml_RX10_278 k_X10_goOn (m_X10_goOn (d := d - 1) (by omega) hr16) hO12 ⟨by decide, rfl⟩ rfl rfl (Nat.le_of_ble_eq_true rfl) ⟨by omega, by decide⟩ ⟨Nat.le_refl _, Nat.le_refl _⟩ dX10_stepsToSee_54 ?_
        refine e_popI dX10_stepsToSee_57 ?_
        refine e_lload 2 dX10_stepsToSee_58 rfl ?_
        refine e_aload_n 0 dX10_stepsToSee_60 rfl rfl ?_
        obtain ⟨b17, hb18, hf⟩ := e_bd hf
        refine e_getR hO12 fc_10_9 lk_RX10_68 dX10_stepsToSee_61 hb18 ?_
        obtain ⟨hO19, hf⟩ := e_if hf
        refine e_getIN hO19 fc_6_1 lk_RX10_183 dX10_stepsToSee_64 ?_
        refine e_callS (st := [.long _]) ml_RX10_289 k_X10_bit (m_X10_bit (d := d - 1) (by omega) rfl) rfl rfl (Nat.le_of_ble_eq_true rfl) ⟨by omega, by decide⟩ ⟨Nat.le_refl _, Nat.le_refl _⟩ dX10_stepsToSee_67 ?_
        refine e_ldc2 kc_RX10_305 dX10_stepsToSee_70 ?_
        refine e_lxor dX10_stepsToSee_73 ?_
        refine e_land dX10_stepsToSee_74 ?_
        refine e_lstore (lv' := [(4, .long _), (0, .ref _), (3, .int _), (6, .int _)]) dX10_stepsToSee_75 (by decide) rfl ?_
        refine e_iinc (lv' := [(6, .int _), (4, .long _), (0, .ref _), (3, .int _)]) 3 dX10_stepsToSee_77 rfl (by decide) rfl ?_
        refine e_goto (t := 32) dX10_stepsToSee_80 (by decide) ?_
        refine e_sub [2, 3, 1, 0] rfl ?_
        exact ih _ _ _ _ _ hf
def f_X10_stepsToSee (L : eL) (h : eH) (v0 : Nat) (v1 : Int64) (v3 : Int32) : Option (eH × Int32) :=
  if isO L v0 10 = true then
  (gR h v0 9).bind fun b2 =>
  (gR h v0 7).bind fun b4 =>
  if isO L b2 6 = true then
  (f_X6_copyFrom L h b2 b4).bind fun r7 =>
  (gR r7 v0 9).bind fun b9 =>
  if isO L b9 6 = true then
  f_X10_stepsToSee_L32 L e_fu (fun (h20 : eH) (w4_21 : Int64) (w6_22 : Int32) =>
    if (lg_cmp w4_21 0) = 0 then
      some (h20, w6_22)
    else
      some (h20, 1000)) r7 v0 v3 (v1 &&& ((f_X10_bit (gI r7 b9 1)) ^^^ (-1))) 0
  else none
  else none
  else none
set_option maxRecDepth 100000 in
set_option maxHeartbeats 4000000 in
theorem m_X10_stepsToSee {l : Launch} {d : Nat} {L : eL} {h : eH} {v0 : Nat} {v1 : Int64} {v3 : Int32} {r : eH × Int32} (hd : 5 ≤ d) (hf : f_X10_stepsToSee L h v0 v1 v3 = some r) : e_Met l yX10_stepsToSee cX10_stepsToSee 7 (some .int) d 0 0 true L h [.ref v0, .long v1, .int v3] (Qx (some (.int r.2)) L r.1) := by
  refine e_metl (by decide) (Nat.le_of_ble_eq_true rfl) (lv := [(0, .ref v0), (1, .long v1), (3, .int v3)]) rfl ?_
  unfold f_X10_stepsToSee at hf
  refine e_aload_n 0 dX10_stepsToSee_0 rfl rfl ?_
  obtain ⟨hO1, hf⟩ := e_if hf
  obtain ⟨b2, hb3, hf⟩ := e_bd hf
  refine e_getR hO1 fc_10_9 lk_RX10_68 dX10_stepsToSee_1 hb3 ?_
  refine e_aload_n 0 dX10_stepsToSee_4 rfl rfl ?_
  obtain ⟨b4, hb5, hf⟩ := e_bd hf
  refine e_getR hO1 fc_10_7 lk_RX10_61 dX10_stepsToSee_5 hb5 ?_
  obtain ⟨hO6, hf⟩ := e_if hf
  obtain ⟨r7, hr8, hf⟩ := e_bd hf
  refine e_callV (st := []) ml_RX10_230 k_X6_copyFrom (m_X6_copyFrom (d := d - 1) (by omega) hr8) hO6 ⟨by decide, rfl⟩ rfl rfl (Nat.le_of_ble_eq_true rfl) ⟨by omega, by decide⟩ ⟨Nat.le_refl _, Nat.le_refl _⟩ dX10_stepsToSee_8 ?_
  refine e_lload_n 1 dX10_stepsToSee_11 rfl rfl ?_
  refine e_aload_n 0 dX10_stepsToSee_12 rfl rfl ?_
  obtain ⟨b9, hb10, hf⟩ := e_bd hf
  refine e_getR hO1 fc_10_9 lk_RX10_68 dX10_stepsToSee_13 hb10 ?_
  obtain ⟨hO11, hf⟩ := e_if hf
  refine e_getIN hO11 fc_6_1 lk_RX10_183 dX10_stepsToSee_16 ?_
  refine e_callS (st := [.long _]) ml_RX10_289 k_X10_bit (m_X10_bit (d := d - 1) (by omega) rfl) rfl rfl (Nat.le_of_ble_eq_true rfl) ⟨by omega, by decide⟩ ⟨Nat.le_refl _, Nat.le_refl _⟩ dX10_stepsToSee_19 ?_
  refine e_ldc2 kc_RX10_305 dX10_stepsToSee_22 ?_
  refine e_lxor dX10_stepsToSee_25 ?_
  refine e_land dX10_stepsToSee_26 ?_
  refine e_lstore (lv' := [(4, .long _), (0, .ref _), (1, .long _), (3, .int _)]) dX10_stepsToSee_27 (by decide) rfl ?_
  refine e_iconst (v := 0) dX10_stepsToSee_29 (by decide) ?_
  refine e_istore (lv' := [(6, .int _), (4, .long _), (0, .ref _), (1, .long _), (3, .int _)]) dX10_stepsToSee_30 (by decide) rfl ?_
  refine e_sub [2, 4, 1, 0] rfl ?_
  refine m_X10_stepsToSee_L32 hd ?_ e_fu _ _ _ _ _ hf
  · intro h20 w4_21 w6_22 hf
    refine e_lload 0 dX10_stepsToSee_83 rfl ?_
    refine e_lconst (v := 0) dX10_stepsToSee_85 (by decide) ?_
    refine e_lcmp dX10_stepsToSee_86 ?_
    refine e_if_ne (t := 95) dX10_stepsToSee_87 (by decide) (fun c => ?_) (fun c => ?_)
    · replace hf := e_ie c hf
      refine e_sipush (v := 1000) dX10_stepsToSee_95 (by decide) ?_
      exact e_iret rfl dX10_stepsToSee_98 (qW hf)
    · replace hf := e_it c hf
      refine e_iload 1 dX10_stepsToSee_90 rfl ?_
      refine e_goto (t := 98) dX10_stepsToSee_92 (by decide) ?_
      exact e_iret rfl dX10_stepsToSee_98 (qW hf)
def f_X10_all (L : eL) (h : eH) (v0 : Nat) : Option (eH × Int32) :=
  if isO L v0 10 = true then
  (gR h v0 15).bind fun b2 =>
  (f_X10_free L h v0).bind fun r4 =>
  (gR h v0 7).bind fun b6 =>
  if isO L b6 6 = true then
  if isO L b2 2 = true then
  (f_X2_reach L h b2 r4 (gI h b6 1)).bind fun r10 =>
  (f_X10_stepsToSee L h v0 r10 (-1)).bind fun r12 =>
  if r12.2 ≤ 999 then
    (gR r12.1 v0 1).bind fun b14 =>
    if isO L b14 3 = true then
    (f_X3_begin L r12.1 b14).bind fun r17 =>
    (gR r17 v0 1).bind fun b19 =>
    if isO L b19 3 = true then
    (f_X3_add L r17 b19 ((f_J13_bitCount_95d88 r10).toInt64)).bind fun r22 =>
    some (r22, r12.2)
    else none
    else none
  else
    some (r12.1, (-2))
  else none
  else none
  else none
set_option maxRecDepth 100000 in
set_option maxHeartbeats 4000000 in
theorem m_X10_all {l : Launch} {d : Nat} {L : eL} {h : eH} {v0 : Nat} {r : eH × Int32} (hd : 6 ≤ d) (hf : f_X10_all L h v0 = some r) : e_Met l yX10_all cX10_all 4 (some .int) d 0 0 true L h [.ref v0] (Qx (some (.int r.2)) L r.1) := by
  refine e_metl (by decide) (Nat.le_of_ble_eq_true rfl) (lv := [(0, .ref v0)]) rfl ?_
  unfold f_X10_all at hf
  refine e_aload_n 0 dX10_all_0 rfl rfl ?_
  obtain ⟨hO1, hf⟩ := e_if hf
  obtain ⟨b2, hb3, hf⟩ := e_bd hf
  refine e_getR hO1 fc_10_15 lk_RX10_92 dX10_all_1 hb3 ?_
  refine e_aload_n 0 dX10_all_4 rfl rfl ?_
  obtain ⟨r4, hr5, hf⟩ := e_bd hf
  refine e_callV (st := [.ref _]) ml_RX10_186 k_X10_free (m_X10_free (d := d - 1) (by omega) hr5) hO1 ⟨by decide, rfl⟩ rfl rfl (Nat.le_of_ble_eq_true rfl) ⟨by omega, by decide⟩ ⟨Nat.le_refl _, Nat.le_refl _⟩ dX10_all_5 ?_
  refine e_aload_n 0 dX10_all_8 rfl rfl ?_
  obtain ⟨b6, hb7, hf⟩ := e_bd hf
  refine e_getR hO1 fc_10_7 lk_RX10_61 dX10_all_9 hb7 ?_
  obtain ⟨hO8, hf⟩ := e_if hf
  refine e_getIN hO8 fc_6_1 lk_RX10_183 dX10_all_12 ?_
  obtain ⟨hO9, hf⟩ := e_if hf
  obtain ⟨r10, hr11, hf⟩ := e_bd hf
  refine e_callV (st := []) ml_RX10_313 k_X2_reach (m_X2_reach (d := d - 1) (by omega) hr11) hO9 ⟨by decide, rfl⟩ rfl rfl (Nat.le_of_ble_eq_true rfl) ⟨by omega, by decide⟩ ⟨Nat.le_refl _, Nat.le_refl _⟩ dX10_all_15 ?_
  refine e_lstore_n (lv' := [(1, .long _), (0, .ref _)]) dX10_all_18 rfl (by decide) rfl ?_
  refine e_aload_n 1 dX10_all_19 rfl rfl ?_
  refine e_lload_n 0 dX10_all_20 rfl rfl ?_
  refine e_iconst (v := (-1)) dX10_all_21 (by decide) ?_
  obtain ⟨r12, hr13, hf⟩ := e_bd hf
  refine e_callV (st := []) ml_RX10_317 k_X10_stepsToSee (m_X10_stepsToSee (d := d - 1) (by omega) hr13) hO1 ⟨by decide, rfl⟩ rfl rfl (Nat.le_of_ble_eq_true rfl) ⟨by omega, by decide⟩ ⟨Nat.le_refl _, Nat.le_refl _⟩ dX10_all_22 ?_
  refine e_istore_n (lv' := [(3, .int _), (1, .long _), (0, .ref _)]) dX10_all_25 rfl (by decide) rfl ?_
  refine e_iload_n 0 dX10_all_26 rfl rfl ?_
  refine e_sipush (v := 999) dX10_all_27 (by decide) ?_
  refine e_icmp_le (t := 36) dX10_all_30 (by decide) (fun c => ?_) (fun c => ?_)
  · replace hf := e_it c hf
    refine e_aload_n 2 dX10_all_36 rfl rfl ?_
    obtain ⟨b14, hb15, hf⟩ := e_bd hf
    refine e_getR hO1 fc_10_1 lk_RX10_19 dX10_all_37 hb15 ?_
    obtain ⟨hO16, hf⟩ := e_if hf
    obtain ⟨r17, hr18, hf⟩ := e_bd hf
    refine e_callV (st := []) ml_RX10_267 k_X3_begin (m_X3_begin (d := d - 1) (by omega) hr18) hO16 ⟨by decide, rfl⟩ rfl rfl (Nat.le_of_ble_eq_true rfl) ⟨by omega, by decide⟩ ⟨Nat.le_refl _, Nat.le_refl _⟩ dX10_all_40 ?_
    refine e_aload_n 2 dX10_all_43 rfl rfl ?_
    obtain ⟨b19, hb20, hf⟩ := e_bd hf
    refine e_getR hO1 fc_10_1 lk_RX10_19 dX10_all_44 hb20 ?_
    refine e_lload_n 1 dX10_all_47 rfl rfl ?_
    refine e_callS (st := [.ref _]) ml_RX10_143 k_J13_bitCount_95d88 (m_J13_bitCount_95d88 (d := d - 1) (by omega) rfl) rfl rfl (Nat.le_of_ble_eq_true rfl) ⟨by omega, by decide⟩ ⟨Nat.le_refl _, Nat.le_refl _⟩ dX10_all_48 ?_
    refine e_i2l dX10_all_51 ?_
    obtain ⟨hO21, hf⟩ := e_if hf
    obtain ⟨r22, hr23, hf⟩ := e_bd hf
    refine e_callV (st := []) ml_RX10_269 k_X3_add (m_X3_add (d := d - 1) (by omega) hr23) hO21 ⟨by decide, rfl⟩ rfl rfl (Nat.le_of_ble_eq_true rfl) ⟨by omega, by decide⟩ ⟨Nat.le_refl _, Nat.le_refl _⟩ dX10_all_52 ?_
    refine e_iload_n 0 dX10_all_55 rfl rfl ?_
    exact e_iret rfl dX10_all_56 (qW hf)
  · replace hf := e_ie c hf
    refine e_bipush (v := (-2)) dX10_all_33 (by decide) ?_
    exact e_iret rfl dX10_all_35 (qW hf)
def f_X10_never_L47 (L : eL) : Nat → (eH → Nat → Int64 → Option (eH × Int32)) → eH → Nat → Int64 → Int32 → Option (eH × Int32)
  | 0, _, _, _, _, _ => none
  | n + 1, k96, h, v0, v1, v3 =>
    if 999 ≤ v3 then
      k96 h v0 v1
    else
      if (lg_cmp v1 0) = 0 then
        k96 h v0 v1
      else
        if isO L v0 10 = true then
        (gR h v0 9).bind fun b23 =>
        (f_X10_goOn L h v0 b23 0 (-1)).bind fun r25 =>
        if r25.2 = 0 then
          k96 r25.1 v0 v1
        else
          (gR r25.1 v0 9).bind fun b27 =>
          if isO L b27 6 = true then
          f_X10_never_L47 L n k96 r25.1 v0 (v1 &&& ((f_X10_bit (gI r25.1 b27 1)) ^^^ (-1))) (v3 + Int32.ofInt 1)
          else none
        else none
set_option maxRecDepth 100000 in
set_option maxHeartbeats 4000000 in
theorem m_X10_never_L47 {l : Launch} {d : Nat} {L : eL}  {r : eH × Int32} {k96 : eH → Nat → Int64 → Option (eH × Int32)} (hd : 5 ≤ d) (hk96 : ∀ (h : eH) (v0 : Nat) (v1 : Int64), k96 h v0 v1 = some r → E l yX10_never cX10_never 4 (some .int) (e_rm d 0 0) 0 0 true L (Qx (some (.int r.2)) L r.1) L h 0 0 96 [(0, .ref v0), (1, .long v1)] []) : ∀ (n : Nat) (h : eH) (v0 : Nat) (v1 : Int64) (v3 : Int32), f_X10_never_L47 L n k96 h v0 v1 v3 = some r → E l yX10_never cX10_never 4 (some .int) (e_rm d 0 0) 0 0 true L (Qx (some (.int r.2)) L r.1) L h 0 0 47 [(0, .ref v0), (1, .long v1), (3, .int v3)] [] := by
  intro n
  induction n with
  | zero => intro h v0 v1 v3 hf; exact absurd hf (by simp [f_X10_never_L47])
  | succ n ih =>
    intro h v0 v1 v3 hf
    unfold f_X10_never_L47 at hf
    refine e_iload_n 2 dX10_never_47 rfl rfl ?_
    refine e_sipush (v := 999) dX10_never_48 (by decide) ?_
    refine e_icmp_ge (t := 96) dX10_never_51 (by decide) (fun c => ?_) (fun c => ?_)
    · replace hf := e_it c hf
      refine e_sub [0, 1] rfl ?_
      exact hk96 _ _ _ hf
    · replace hf := e_ie c hf
      refine e_lload_n 1 dX10_never_54 rfl rfl ?_
      refine e_lconst (v := 0) dX10_never_55 (by decide) ?_
      refine e_lcmp dX10_never_56 ?_
      refine e_if_eq (t := 96) dX10_never_57 (by decide) (fun c => ?_) (fun c => ?_)
      · replace hf := e_it c hf
        refine e_sub [0, 1] rfl ?_
        exact hk96 _ _ _ hf
      · replace hf := e_ie c hf
        refine e_aload_n 0 dX10_never_60 rfl rfl ?_
        refine e_aload_n 0 dX10_never_61 rfl rfl ?_
        obtain ⟨hO22, hf⟩ := e_if hf
        obtain ⟨b23, hb24, hf⟩ := e_bd hf
        refine e_getR hO22 fc_10_9 lk_RX10_68 dX10_never_62 hb24 ?_
        refine e_iconst (v := 0) dX10_never_65 (by decide) ?_
        refine e_iconst (v := (-1)) dX10_never_66 (by decide) ?_
        obtain ⟨r25, hr26, hf⟩ := e_bd hf
        refine e_callV (st := []) ml_RX10_278 k_X10_goOn (m_X10_goOn (d := d - 1) (by omega) hr26) hO22 ⟨by decide, rfl⟩ rfl rfl (Nat.le_of_ble_eq_true rfl) ⟨by omega, by decide⟩ ⟨Nat.le_refl _, Nat.le_refl _⟩ dX10_never_67 ?_
        refine e_if_eq (t := 96) dX10_never_70 (by decide) (fun c => ?_) (fun c => ?_)
        · replace hf := e_it c hf
          refine e_sub [0, 1] rfl ?_
          exact hk96 _ _ _ hf
        · replace hf := e_ie c hf
          refine e_lload_n 1 dX10_never_73 rfl rfl ?_
          refine e_aload_n 0 dX10_never_74 rfl rfl ?_
          obtain ⟨b27, hb28, hf⟩ := e_bd hf
          refine e_getR hO22 fc_10_9 lk_RX10_68 dX10_never_75 hb28 ?_
          obtain ⟨hO29, hf⟩ := e_if hf
          refine e_getIN hO29 fc_6_1 lk_RX10_183 dX10_never_78 ?_
          refine e_callS (st := [.long _]) ml_RX10_289 k_X10_bit (m_X10_bit (d := d - 1) (by omega) rfl) rfl rfl (Nat.le_of_ble_eq_true rfl) ⟨by omega, by decide⟩ ⟨Nat.le_refl _, Nat.le_refl _⟩ dX10_never_81 ?_
          refine e_ldc2 kc_RX10_305 dX10_never_84 ?_
          refine e_lxor dX10_never_87 ?_
          refine e_land dX10_never_88 ?_
          refine e_lstore_n (lv' := [(1, .long _), (0, .ref _), (3, .int _)]) dX10_never_89 rfl (by decide) rfl ?_
          refine e_iinc (lv' := [(3, .int _), (1, .long _), (0, .ref _)]) 2 dX10_never_90 rfl (by decide) rfl ?_
          refine e_goto (t := 47) dX10_never_93 (by decide) ?_
          refine e_sub [2, 1, 0] rfl ?_
          exact ih _ _ _ _ hf
def f_X10_never_J96 (L : eL) (h : eH) (v0 : Nat) (v1 : Int64) : Option (eH × Int32) :=
  if isO L v0 10 = true then
  (gR h v0 1).bind fun b34 =>
  if isO L b34 3 = true then
  (f_X3_begin L h b34).bind fun r37 =>
  (gR r37 v0 1).bind fun b39 =>
  if isO L b39 3 = true then
  (f_X3_add L r37 b39 v1).bind fun r42 =>
  some (r42, f_J13_bitCount_95d88 v1)
  else none
  else none
  else none
set_option maxRecDepth 100000 in
set_option maxHeartbeats 4000000 in
theorem m_X10_never_J96 {l : Launch} {d : Nat} {L : eL}  {r : eH × Int32} (hd : 5 ≤ d)  : ∀ (h : eH) (v0 : Nat) (v1 : Int64), f_X10_never_J96 L h v0 v1 = some r → E l yX10_never cX10_never 4 (some .int) (e_rm d 0 0) 0 0 true L (Qx (some (.int r.2)) L r.1) L h 0 0 96 [(0, .ref v0), (1, .long v1)] [] := by
  intro h v0 v1 hf
  unfold f_X10_never_J96 at hf
  refine e_aload_n 0 dX10_never_96 rfl rfl ?_
  obtain ⟨hO33, hf⟩ := e_if hf
  obtain ⟨b34, hb35, hf⟩ := e_bd hf
  refine e_getR hO33 fc_10_1 lk_RX10_19 dX10_never_97 hb35 ?_
  obtain ⟨hO36, hf⟩ := e_if hf
  obtain ⟨r37, hr38, hf⟩ := e_bd hf
  refine e_callV (st := []) ml_RX10_267 k_X3_begin (m_X3_begin (d := d - 1) (by omega) hr38) hO36 ⟨by decide, rfl⟩ rfl rfl (Nat.le_of_ble_eq_true rfl) ⟨by omega, by decide⟩ ⟨Nat.le_refl _, Nat.le_refl _⟩ dX10_never_100 ?_
  refine e_aload_n 0 dX10_never_103 rfl rfl ?_
  obtain ⟨b39, hb40, hf⟩ := e_bd hf
  refine e_getR hO33 fc_10_1 lk_RX10_19 dX10_never_104 hb40 ?_
  refine e_lload_n 1 dX10_never_107 rfl rfl ?_
  obtain ⟨hO41, hf⟩ := e_if hf
  obtain ⟨r42, hr43, hf⟩ := e_bd hf
  refine e_callV (st := []) ml_RX10_269 k_X3_add (m_X3_add (d := d - 1) (by omega) hr43) hO41 ⟨by decide, rfl⟩ rfl rfl (Nat.le_of_ble_eq_true rfl) ⟨by omega, by decide⟩ ⟨Nat.le_refl _, Nat.le_refl _⟩ dX10_never_108 ?_
  refine e_lload_n 1 dX10_never_111 rfl rfl ?_
  refine e_callS (st := []) ml_RX10_143 k_J13_bitCount_95d88 (m_J13_bitCount_95d88 (d := d - 1) (by omega) rfl) rfl rfl (Nat.le_of_ble_eq_true rfl) ⟨by omega, by decide⟩ ⟨Nat.le_refl _, Nat.le_refl _⟩ dX10_never_112 ?_
  exact e_iret rfl dX10_never_115 (qW hf)
def f_X10_never (L : eL) (h : eH) (v0 : Nat) : Option (eH × Int32) :=
  if isO L v0 10 = true then
  (gR h v0 15).bind fun b2 =>
  (f_X10_free L h v0).bind fun r4 =>
  (gR h v0 7).bind fun b6 =>
  if isO L b6 6 = true then
  if isO L b2 2 = true then
  (f_X2_reach L h b2 r4 (gI h b6 1)).bind fun r10 =>
  (gR h v0 7).bind fun b12 =>
  if isO L b12 6 = true then
  (gR h v0 9).bind fun b15 =>
  (gR h v0 7).bind fun b17 =>
  if isO L b15 6 = true then
  (f_X6_copyFrom L h b15 b17).bind fun r20 =>
  f_X10_never_L47 L e_fu (fun (h30 : eH) (w0_31 : Nat) (w1_32 : Int64) =>
    f_X10_never_J96 L h30 w0_31 w1_32) r20 v0 (r10 &&& ((f_X10_bit (gI h b12 1)) ^^^ (-1))) 0
  else none
  else none
  else none
  else none
  else none
set_option maxRecDepth 100000 in
set_option maxHeartbeats 4000000 in
theorem m_X10_never {l : Launch} {d : Nat} {L : eL} {h : eH} {v0 : Nat} {r : eH × Int32} (hd : 5 ≤ d) (hf : f_X10_never L h v0 = some r) : e_Met l yX10_never cX10_never 4 (some .int) d 0 0 true L h [.ref v0] (Qx (some (.int r.2)) L r.1) := by
  refine e_metl (by decide) (Nat.le_of_ble_eq_true rfl) (lv := [(0, .ref v0)]) rfl ?_
  unfold f_X10_never at hf
  refine e_aload_n 0 dX10_never_0 rfl rfl ?_
  obtain ⟨hO1, hf⟩ := e_if hf
  obtain ⟨b2, hb3, hf⟩ := e_bd hf
  refine e_getR hO1 fc_10_15 lk_RX10_92 dX10_never_1 hb3 ?_
  refine e_aload_n 0 dX10_never_4 rfl rfl ?_
  obtain ⟨r4, hr5, hf⟩ := e_bd hf
  refine e_callV (st := [.ref _]) ml_RX10_186 k_X10_free (m_X10_free (d := d - 1) (by omega) hr5) hO1 ⟨by decide, rfl⟩ rfl rfl (Nat.le_of_ble_eq_true rfl) ⟨by omega, by decide⟩ ⟨Nat.le_refl _, Nat.le_refl _⟩ dX10_never_5 ?_
  refine e_aload_n 0 dX10_never_8 rfl rfl ?_
  obtain ⟨b6, hb7, hf⟩ := e_bd hf
  refine e_getR hO1 fc_10_7 lk_RX10_61 dX10_never_9 hb7 ?_
  obtain ⟨hO8, hf⟩ := e_if hf
  refine e_getIN hO8 fc_6_1 lk_RX10_183 dX10_never_12 ?_
  obtain ⟨hO9, hf⟩ := e_if hf
  obtain ⟨r10, hr11, hf⟩ := e_bd hf
  refine e_callV (st := []) ml_RX10_313 k_X2_reach (m_X2_reach (d := d - 1) (by omega) hr11) hO9 ⟨by decide, rfl⟩ rfl rfl (Nat.le_of_ble_eq_true rfl) ⟨by omega, by decide⟩ ⟨Nat.le_refl _, Nat.le_refl _⟩ dX10_never_15 ?_
  refine e_aload_n 0 dX10_never_18 rfl rfl ?_
  obtain ⟨b12, hb13, hf⟩ := e_bd hf
  refine e_getR hO1 fc_10_7 lk_RX10_61 dX10_never_19 hb13 ?_
  obtain ⟨hO14, hf⟩ := e_if hf
  refine e_getIN hO14 fc_6_1 lk_RX10_183 dX10_never_22 ?_
  refine e_callS (st := [.long _]) ml_RX10_289 k_X10_bit (m_X10_bit (d := d - 1) (by omega) rfl) rfl rfl (Nat.le_of_ble_eq_true rfl) ⟨by omega, by decide⟩ ⟨Nat.le_refl _, Nat.le_refl _⟩ dX10_never_25 ?_
  refine e_ldc2 kc_RX10_305 dX10_never_28 ?_
  refine e_lxor dX10_never_31 ?_
  refine e_land dX10_never_32 ?_
  refine e_lstore_n (lv' := [(1, .long _), (0, .ref _)]) dX10_never_33 rfl (by decide) rfl ?_
  refine e_aload_n 1 dX10_never_34 rfl rfl ?_
  obtain ⟨b15, hb16, hf⟩ := e_bd hf
  refine e_getR hO1 fc_10_9 lk_RX10_68 dX10_never_35 hb16 ?_
  refine e_aload_n 1 dX10_never_38 rfl rfl ?_
  obtain ⟨b17, hb18, hf⟩ := e_bd hf
  refine e_getR hO1 fc_10_7 lk_RX10_61 dX10_never_39 hb18 ?_
  obtain ⟨hO19, hf⟩ := e_if hf
  obtain ⟨r20, hr21, hf⟩ := e_bd hf
  refine e_callV (st := []) ml_RX10_230 k_X6_copyFrom (m_X6_copyFrom (d := d - 1) (by omega) hr21) hO19 ⟨by decide, rfl⟩ rfl rfl (Nat.le_of_ble_eq_true rfl) ⟨by omega, by decide⟩ ⟨Nat.le_refl _, Nat.le_refl _⟩ dX10_never_42 ?_
  refine e_iconst (v := 0) dX10_never_45 (by decide) ?_
  refine e_istore_n (lv' := [(3, .int _), (1, .long _), (0, .ref _)]) dX10_never_46 rfl (by decide) rfl ?_
  refine e_sub [2, 1, 0] rfl ?_
  refine m_X10_never_L47 hd ?_ e_fu _ _ _ _ hf
  · intro h30 w0_31 w1_32 hf
    exact m_X10_never_J96 hd _ _ _ hf

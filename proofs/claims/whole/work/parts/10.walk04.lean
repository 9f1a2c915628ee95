def f_X5_readThing_o (L : eL) (rec_X5_readLevel : eH → Nat → Int32 → Int32 → Option (eH × Int32)) (h : eH) (v0 : Nat) (v1 : Int32) : Option (eH × Int32) :=
  if isO L v0 5 = true then
  (f_X5_here L h v0).bind fun r2 =>
  if (f_X5_isDigit r2) = 0 then
    if (f_X4_isThing r2) = 0 then
      if r2 = 40 then
        if v1 < 4 then
          (rec_X5_readLevel (sI h v0 3 ((gI h v0 3) + 1)) v0 0 (v1 + 1)).bind fun r4 =>
          if r4.2 = 0 then
            some (r4.1, 0)
          else
            (f_X5_here L r4.1 v0).bind fun r6 =>
            if r6 = 41 then
              some (sI r4.1 v0 3 ((gI r4.1 v0 3) + 1), 1)
            else
              some (r4.1, 0)
        else
          some (h, 0)
      else
        some (h, 0)
    else
      (f_X5_emit L (sI h v0 3 ((gI h v0 3) + 1)) v0 r2).bind fun r8 =>
      some (r8, 1)
  else
    (f_X5_readNumber L h v0).bind fun r10 =>
    some (r10, 1)
  else none
set_option maxRecDepth 100000 in
set_option maxHeartbeats 4000000 in
theorem m_X5_readThing_o {l : Launch} {d : Nat} {L : eL} {h : eH} {rec_X5_readLevel : eH → Nat → Int32 → Int32 → Option (eH × Int32)} {v0 : Nat} {v1 : Int32} {r : eH × Int32} (hd : 4 ≤ d) (hrec_X5_readLevel : ∀ {h : eH} {a0 : Nat} {a1 : Int32} {a2 : Int32} {z : eH × Int32}, rec_X5_readLevel h a0 a1 a2 = some z → e_Met l yX5_readLevel cX5_readLevel 6 (some .boolean) (d - 1) 0 0 true L h [.ref a0, .int a1, .int a2] (Qx (some (.int z.2)) L z.1)) (hf : f_X5_readThing_o L rec_X5_readLevel h v0 v1 = some r) : e_Met l yX5_readThing cX5_readThing 3 (some .boolean) d 0 0 true L h [.ref v0, .int v1] (Qx (some (.int r.2)) L r.1) := by
  refine e_metl (by decide) (Nat.le_of_ble_eq_true rfl) (lv := [(0, .ref v0), (1, .int v1)]) rfl ?_
  unfold f_X5_readThing_o at hf
  refine e_aload_n 0 dX5_readThing_0 rfl rfl ?_
  obtain ⟨hO1, hf⟩ := e_if hf
  obtain ⟨r2, hr3, hf⟩ := e_bd hf
  refine e_callV (st := []) ml_RX5_58 k_X5_here (m_X5_here (d := d - 1) (by omega) hr3) hO1 ⟨by decide, rfl⟩ rfl rfl (Nat.le_of_ble_eq_true rfl) ⟨by omega, by decide⟩ ⟨Nat.le_refl _, Nat.le_refl _⟩ dX5_readThing_1 ?_
  refine e_istore_n (lv' := [(2, .int _), (0, .ref _), (1, .int _)]) dX5_readThing_4 rfl (by decide) rfl ?_
  refine e_iload_n 0 dX5_readThing_5 rfl rfl ?_
  refine e_callS (st := []) ml_RX5_70 k_X5_isDigit (m_X5_isDigit (d := d - 1) (by omega) rfl) rfl rfl (Nat.le_of_ble_eq_true rfl) ⟨by omega, by decide⟩ ⟨Nat.le_refl _, Nat.le_refl _⟩ dX5_readThing_6 ?_
  refine e_if_eq (t := 18) dX5_readThing_9 (by decide) (fun c => ?_) (fun c => ?_)
  · replace hf := e_it c hf
    refine e_iload_n 0 dX5_readThing_18 rfl rfl ?_
    refine e_callS (st := []) ml_RX5_76 k_X4_isThing (m_X4_isThing (d := d - 1) (by omega) rfl) rfl rfl (Nat.le_of_ble_eq_true rfl) ⟨by omega, by decide⟩ ⟨Nat.le_refl _, Nat.le_refl _⟩ dX5_readThing_19 ?_
    refine e_if_eq (t := 42) dX5_readThing_22 (by decide) (fun c => ?_) (fun c => ?_)
    · replace hf := e_it c hf
      refine e_iload_n 0 dX5_readThing_42 rfl rfl ?_
      refine e_bipush (v := 40) dX5_readThing_43 (by decide) ?_
      refine e_icmp_ne (t := 53) dX5_readThing_45 (by decide) (fun c => ?_) (fun c => ?_)
      · replace hf := e_ie c hf
        refine e_iconst (v := 0) dX5_readThing_53 (by decide) ?_
        exact e_zret (ty := .boolean) rfl rfl dX5_readThing_54 (qW hf)
      · replace hf := e_it c hf
        refine e_iload_n 2 dX5_readThing_48 rfl rfl ?_
        refine e_iconst (v := 4) dX5_readThing_49 (by decide) ?_
        refine e_icmp_lt (t := 55) dX5_readThing_50 (by decide) (fun c => ?_) (fun c => ?_)
        · replace hf := e_it c hf
          refine e_aload_n 1 dX5_readThing_55 rfl rfl ?_
          refine e_dupR dX5_readThing_56 ?_
          refine e_getI hO1 fc_5_3 lk_RX5_23 dX5_readThing_57 ?_
          refine e_iconst (v := 1) dX5_readThing_60 (by decide) ?_
          refine e_iadd dX5_readThing_61 ?_
          refine e_putI hO1 fc_5_3 rfl lk_RX5_23 dX5_readThing_62 ?_
          refine e_aload_n 1 dX5_readThing_65 rfl rfl ?_
          refine e_iconst (v := 0) dX5_readThing_66 (by decide) ?_
          refine e_iload_n 2 dX5_readThing_67 rfl rfl ?_
          refine e_iconst (v := 1) dX5_readThing_68 (by decide) ?_
          refine e_iadd dX5_readThing_69 ?_
          obtain ⟨r4, hr5, hf⟩ := e_bd hf
          refine e_callV (st := []) ml_RX5_43 k_X5_readLevel (hrec_X5_readLevel hr5) hO1 ⟨by decide, rfl⟩ rfl rfl (Nat.le_of_ble_eq_true rfl) ⟨by omega, by decide⟩ ⟨Nat.le_refl _, Nat.le_refl _⟩ dX5_readThing_70 ?_
          refine e_if_eq (t := 85) dX5_readThing_73 (by decide) (fun c => ?_) (fun c => ?_)
          · replace hf := e_it c hf
            refine e_iconst (v := 0) dX5_readThing_85 (by decide) ?_
            exact e_zret (ty := .boolean) rfl rfl dX5_readThing_86 (qW hf)
          · replace hf := e_ie c hf
            refine e_aload_n 1 dX5_readThing_76 rfl rfl ?_
            obtain ⟨r6, hr7, hf⟩ := e_bd hf
            refine e_callV (st := []) ml_RX5_58 k_X5_here (m_X5_here (d := d - 1) (by omega) hr7) hO1 ⟨by decide, rfl⟩ rfl rfl (Nat.le_of_ble_eq_true rfl) ⟨by omega, by decide⟩ ⟨Nat.le_refl _, Nat.le_refl _⟩ dX5_readThing_77 ?_
            refine e_bipush (v := 41) dX5_readThing_80 (by decide) ?_
            refine e_icmp_eq (t := 87) dX5_readThing_82 (by decide) (fun c => ?_) (fun c => ?_)
            · replace hf := e_it c hf
              refine e_aload_n 1 dX5_readThing_87 rfl rfl ?_
              refine e_dupR dX5_readThing_88 ?_
              refine e_getI hO1 fc_5_3 lk_RX5_23 dX5_readThing_89 ?_
              refine e_iconst (v := 1) dX5_readThing_92 (by decide) ?_
              refine e_iadd dX5_readThing_93 ?_
              refine e_putI hO1 fc_5_3 rfl lk_RX5_23 dX5_readThing_94 ?_
              refine e_iconst (v := 1) dX5_readThing_97 (by decide) ?_
              exact e_zret (ty := .boolean) rfl rfl dX5_readThing_98 (qW hf)
            · replace hf := e_ie c hf
              refine e_iconst (v := 0) dX5_readThing_85 (by decide) ?_
              exact e_zret (ty := .boolean) rfl rfl dX5_readThing_86 (qW hf)
        · replace hf := e_ie c hf
          refine e_iconst (v := 0) dX5_readThing_53 (by decide) ?_
          exact e_zret (ty := .boolean) rfl rfl dX5_readThing_54 (qW hf)
    · replace hf := e_ie c hf
      refine e_aload_n 1 dX5_readThing_25 rfl rfl ?_
      refine e_dupR dX5_readThing_26 ?_
      refine e_getI hO1 fc_5_3 lk_RX5_23 dX5_readThing_27 ?_
      refine e_iconst (v := 1) dX5_readThing_30 (by decide) ?_
      refine e_iadd dX5_readThing_31 ?_
      refine e_putI hO1 fc_5_3 rfl lk_RX5_23 dX5_readThing_32 ?_
      refine e_aload_n 1 dX5_readThing_35 rfl rfl ?_
      refine e_iload_n 0 dX5_readThing_36 rfl rfl ?_
      obtain ⟨r8, hr9, hf⟩ := e_bd hf
      refine e_callV (st := []) ml_RX5_64 k_X5_emit (m_X5_emit (d := d - 1) (by omega) hr9) hO1 ⟨by decide, rfl⟩ rfl rfl (Nat.le_of_ble_eq_true rfl) ⟨by omega, by decide⟩ ⟨Nat.le_refl _, Nat.le_refl _⟩ dX5_readThing_37 ?_
      refine e_iconst (v := 1) dX5_readThing_40 (by decide) ?_
      exact e_zret (ty := .boolean) rfl rfl dX5_readThing_41 (qW hf)
  · replace hf := e_ie c hf
    refine e_aload_n 1 dX5_readThing_12 rfl rfl ?_
    obtain ⟨r10, hr11, hf⟩ := e_bd hf
    refine e_callV (st := []) ml_RX5_73 k_X5_readNumber (m_X5_readNumber (d := d - 1) (by omega) hr11) hO1 ⟨by decide, rfl⟩ rfl rfl (Nat.le_of_ble_eq_true rfl) ⟨by omega, by decide⟩ ⟨Nat.le_refl _, Nat.le_refl _⟩ dX5_readThing_13 ?_
    refine e_iconst (v := 1) dX5_readThing_16 (by decide) ?_
    exact e_zret (ty := .boolean) rfl rfl dX5_readThing_17 (qW hf)
def f_X5_readSigned_o_L2 (L : eL) (rec_X5_readThing : eH → Nat → Int32 → Option (eH × Int32)) : Nat → (eH → Nat → Int32 → Int32 → Option (eH × Int32)) → eH → Nat → Int32 → Int32 → Option (eH × Int32)
  | 0, _, _, _, _, _ => none
  | n + 1, k33, h, v0, v1, v2 =>
    if 40 ≤ v2 then
      k33 h v0 v1 v2
    else
      if isO L v0 5 = true then
      (f_X5_here L h v0).bind fun r2 =>
      if r2 = 45 then
        f_X5_readSigned_o_L2 L rec_X5_readThing n k33 (sI h v0 3 ((gI h v0 3) + 1)) v0 v1 (v2 + Int32.ofInt 1)
      else
        k33 h v0 v1 v2
      else none
set_option maxRecDepth 100000 in
set_option maxHeartbeats 4000000 in
theorem m_X5_readSigned_o_L2 {l : Launch} {d : Nat} {L : eL} {rec_X5_readThing : eH → Nat → Int32 → Option (eH × Int32)} {r : eH × Int32} {k33 : eH → Nat → Int32 → Int32 → Option (eH × Int32)} (hd : 4 ≤ d) (hrec_X5_readThing : ∀ {h : eH} {a0 : Nat} {a1 : Int32} {z : eH × Int32}, rec_X5_readThing h a0 a1 = some z → e_Met l yX5_readThing cX5_readThing 3 (some .boolean) (d - 1) 0 0 true L h [.ref a0, .int a1] (Qx (some (.int z.2)) L z.1)) (hk33 : ∀ (h : eH) (v0 : Nat) (v1 : Int32) (v2 : Int32), k33 h v0 v1 v2 = some r → E l yX5_readSigned cX5_readSigned 4 (some .boolean) (e_rm d 0 0) 0 0 true L (Qx (some (.int r.2)) L r.1) L h 0 0 33 [(0, .ref v0), (1, .int v1), (2, .int v2)] []) : ∀ (n : Nat) (h : eH) (v0 : Nat) (v1 : Int32) (v2 : Int32), f_X5_readSigned_o_L2 L rec_X5_readThing n k33 h v0 v1 v2 = some r → E l yX5_readSigned cX5_readSigned 4 (some .boolean) (e_rm d 0 0) 0 0 true L (Qx (some (.int r.2)) L r.1) L h 0 0 2 [(0, .ref v0), (1, .int v1), (2, .int v2)] [] := by
  intro n
  induction n with
  | zero => intro h v0 v1 v2 hf; exact absurd hf (by simp [f_X5_readSigned_o_L2])
  | succ n ih =>
    intro h v0 v1 v2 hf
    unfold f_X5_readSigned_o_L2 at hf
    refine e_iload_n 2 dX5_readSigned_2 rfl rfl ?_
    refine e_bipush (v := 40) dX5_readSigned_3 (by decide) ?_
    refine e_icmp_ge (t := 33) dX5_readSigned_5 (by decide) (fun c => ?_) (fun c => ?_)
    · replace hf := e_it c hf
      exact hk33 _ _ _ _ hf
    · replace hf := e_ie c hf
      refine e_aload_n 0 dX5_readSigned_8 rfl rfl ?_
      obtain ⟨hO1, hf⟩ := e_if hf
      obtain ⟨r2, hr3, hf⟩ := e_bd hf
      refine e_callV (st := []) ml_RX5_58 k_X5_here (m_X5_here (d := d - 1) (by omega) hr3) hO1 ⟨by decide, rfl⟩ rfl rfl (Nat.le_of_ble_eq_true rfl) ⟨by omega, by decide⟩ ⟨Nat.le_refl _, Nat.le_refl _⟩ dX5_readSigned_9 ?_
      refine e_bipush (v := 45) dX5_readSigned_12 (by decide) ?_
      refine e_icmp_ne (t := 33) dX5_readSigned_14 (by decide) (fun c => ?_) (fun c => ?_)
      · replace hf := e_ie c hf
        exact hk33 _ _ _ _ hf
      · replace hf := e_it c hf
        refine e_aload_n 0 dX5_readSigned_17 rfl rfl ?_
        refine e_dupR dX5_readSigned_18 ?_
        refine e_getI hO1 fc_5_3 lk_RX5_23 dX5_readSigned_19 ?_
        refine e_iconst (v := 1) dX5_readSigned_22 (by decide) ?_
        refine e_iadd dX5_readSigned_23 ?_
        refine e_putI hO1 fc_5_3 rfl lk_RX5_23 dX5_readSigned_24 ?_
        refine e_iinc (lv' := [(2, .int _), (0, .ref _), (1, .int _)]) 2 dX5_readSigned_27 rfl (by decide) rfl ?_
        refine e_goto (t := 2) dX5_readSigned_30 (by decide) ?_
        refine e_sub [1, 2, 0] rfl ?_
        exact ih _ _ _ _ hf
def f_X5_readSigned_o_L45 (L : eL) (rec_X5_readThing : eH → Nat → Int32 → Option (eH × Int32)) : Nat → (eH → Option (eH × Int32)) → eH → Nat → Int32 → Int32 → Option (eH × Int32)
  | 0, _, _, _, _, _ => none
  | n + 1, k62, h, v0, v2, v3 =>
    if v2 ≤ v3 then
      k62 h
    else
      if isO L v0 5 = true then
      (f_X5_emit L h v0 126).bind fun r12 =>
      f_X5_readSigned_o_L45 L rec_X5_readThing n k62 r12 v0 v2 (v3 + Int32.ofInt 1)
      else none
set_option maxRecDepth 100000 in
set_option maxHeartbeats 4000000 in
theorem m_X5_readSigned_o_L45 {l : Launch} {d : Nat} {L : eL} {rec_X5_readThing : eH → Nat → Int32 → Option (eH × Int32)} {r : eH × Int32} {k62 : eH → Option (eH × Int32)} (hd : 4 ≤ d) (hrec_X5_readThing : ∀ {h : eH} {a0 : Nat} {a1 : Int32} {z : eH × Int32}, rec_X5_readThing h a0 a1 = some z → e_Met l yX5_readThing cX5_readThing 3 (some .boolean) (d - 1) 0 0 true L h [.ref a0, .int a1] (Qx (some (.int z.2)) L z.1)) (hk62 : ∀ (h : eH), k62 h = some r → E l yX5_readSigned cX5_readSigned 4 (some .boolean) (e_rm d 0 0) 0 0 true L (Qx (some (.int r.2)) L r.1) L h 0 0 62 [] []) : ∀ (n : Nat) (h : eH) (v0 : Nat) (v2 : Int32) (v3 : Int32), f_X5_readSigned_o_L45 L rec_X5_readThing n k62 h v0 v2 v3 = some r → E l yX5_readSigned cX5_readSigned 4 (some .boolean) (e_rm d 0 0) 0 0 true L (Qx (some (.int r.2)) L r.1) L h 0 0 45 [(0, .ref v0), (2, .int v2), (3, .int v3)] [] := by
  intro n
  induction n with
  | zero => intro h v0 v2 v3 hf; exact absurd hf (by simp [f_X5_readSigned_o_L45])
  | succ n ih =>
    intro h v0 v2 v3 hf
    unfold f_X5_readSigned_o_L45 at hf
    refine e_iload_n 2 dX5_readSigned_45 rfl rfl ?_
    refine e_iload_n 1 dX5_readSigned_46 rfl rfl ?_
    refine e_icmp_ge (t := 62) dX5_readSigned_47 (by decide) (fun c => ?_) (fun c => ?_)
    · replace hf := e_it c hf
      refine e_sub [] rfl ?_
      exact hk62 _ hf
    · replace hf := e_ie c hf
      refine e_aload_n 0 dX5_readSigned_50 rfl rfl ?_
      refine e_bipush (v := 126) dX5_readSigned_51 (by decide) ?_
      obtain ⟨hO11, hf⟩ := e_if hf
      obtain ⟨r12, hr13, hf⟩ := e_bd hf
      refine e_callV (st := []) ml_RX5_64 k_X5_emit (m_X5_emit (d := d - 1) (by omega) hr13) hO11 ⟨by decide, rfl⟩ rfl rfl (Nat.le_of_ble_eq_true rfl) ⟨by omega, by decide⟩ ⟨Nat.le_refl _, Nat.le_refl _⟩ dX5_readSigned_53 ?_
      refine e_iinc (lv' := [(3, .int _), (0, .ref _), (2, .int _)]) 2 dX5_readSigned_56 rfl (by decide) rfl ?_
      refine e_goto (t := 45) dX5_readSigned_59 (by decide) ?_
      refine e_sub [1, 2, 0] rfl ?_
      exact ih _ _ _ _ hf
def f_X5_readSigned_o (L : eL) (rec_X5_readThing : eH → Nat → Int32 → Option (eH × Int32)) (h : eH) (v0 : Nat) (v1 : Int32) : Option (eH × Int32) :=
  f_X5_readSigned_o_L2 L rec_X5_readThing e_fu (fun (h4 : eH) (w0_5 : Nat) (w1_6 : Int32) (w2_7 : Int32) =>
    if isO L w0_5 5 = true then
    (rec_X5_readThing h4 w0_5 w1_6).bind fun r9 =>
    if r9.2 = 0 then
      some (r9.1, 0)
    else
      f_X5_readSigned_o_L45 L rec_X5_readThing e_fu (fun (h14 : eH) =>
        some (h14, 1)) r9.1 w0_5 w2_7 0
    else none) h v0 v1 0
set_option maxRecDepth 100000 in
set_option maxHeartbeats 4000000 in
theorem m_X5_readSigned_o {l : Launch} {d : Nat} {L : eL} {h : eH} {rec_X5_readThing : eH → Nat → Int32 → Option (eH × Int32)} {v0 : Nat} {v1 : Int32} {r : eH × Int32} (hd : 4 ≤ d) (hrec_X5_readThing : ∀ {h : eH} {a0 : Nat} {a1 : Int32} {z : eH × Int32}, rec_X5_readThing h a0 a1 = some z → e_Met l yX5_readThing cX5_readThing 3 (some .boolean) (d - 1) 0 0 true L h [.ref a0, .int a1] (Qx (some (.int z.2)) L z.1)) (hf : f_X5_readSigned_o L rec_X5_readThing h v0 v1 = some r) : e_Met l yX5_readSigned cX5_readSigned 4 (some .boolean) d 0 0 true L h [.ref v0, .int v1] (Qx (some (.int r.2)) L r.1) := by
  refine e_metl (by decide) (Nat.le_of_ble_eq_true rfl) (lv := [(0, .ref v0), (1, .int v1)]) rfl ?_
  unfold f_X5_readSigned_o at hf
  refine e_iconst (v := 0) dX5_readSigned_0 (by decide) ?_
  refine e_istore_n (lv' := [(2, .int _), (0, .ref _), (1, .int _)]) dX5_readSigned_1 rfl (by decide) rfl ?_
  refine e_sub [1, 2, 0] rfl ?_
  refine m_X5_readSigned_o_L2 hd hrec_X5_readThing ?_ e_fu _ _ _ _ hf
  · intro h4 w0_5 w1_6 w2_7 hf
    refine e_aload_n 0 dX5_readSigned_33 rfl rfl ?_
    refine e_iload_n 1 dX5_readSigned_34 rfl rfl ?_
    obtain ⟨hO8, hf⟩ := e_if hf
    obtain ⟨r9, hr10, hf⟩ := e_bd hf
    refine e_callV (st := []) ml_RX5_67 k_X5_readThing (hrec_X5_readThing hr10) hO8 ⟨by decide, rfl⟩ rfl rfl (Nat.le_of_ble_eq_true rfl) ⟨by omega, by decide⟩ ⟨Nat.le_refl _, Nat.le_refl _⟩ dX5_readSigned_35 ?_
    refine e_if_ne (t := 43) dX5_readSigned_38 (by decide) (fun c => ?_) (fun c => ?_)
    · replace hf := e_ie c hf
      refine e_iconst (v := 0) dX5_readSigned_43 (by decide) ?_
      refine e_istore_n (lv' := [(3, .int _), (0, .ref _), (1, .int _), (2, .int _)]) dX5_readSigned_44 rfl (by decide) rfl ?_
      refine e_sub [1, 3, 0] rfl ?_
      refine m_X5_readSigned_o_L45 hd hrec_X5_readThing ?_ e_fu _ _ _ _ hf
      · intro h14 hf
        refine e_iconst (v := 1) dX5_readSigned_62 (by decide) ?_
        exact e_zret (ty := .boolean) rfl rfl dX5_readSigned_63 (qW hf)
    · replace hf := e_it c hf
      refine e_iconst (v := 0) dX5_readSigned_41 (by decide) ?_
      exact e_zret (ty := .boolean) rfl rfl dX5_readSigned_42 (qW hf)
def f_X5_readLevel_o_L42 (L : eL) (rec_X5_readSigned : eH → Nat → Int32 → Option (eH × Int32)) (rec_X5_readLevel : eH → Nat → Int32 → Int32 → Option (eH × Int32)) : Nat → (eH → Option (eH × Int32)) → (eH → Option (eH × Int32)) → eH → Nat → Int32 → Int32 → Int32 → Int32 → Option (eH × Int32)
  | 0, _, _, _, _, _, _, _, _ => none
  | n + 1, k86, k100, h, v0, v1, v2, v3, v4 =>
    if v3 ≤ v4 then
      k100 h
    else
      if isO L v0 5 = true then
      (f_X5_here L h v0).bind fun r5 =>
      if (f_X5_levelOf r5) = v1 then
        (f_X5_here L h v0).bind fun r7 =>
        (rec_X5_readLevel (sI h v0 3 ((gI h v0 3) + 1)) v0 (v1 + 1) v2).bind fun r9 =>
        if r9.2 = 0 then
          k86 r9.1
        else
          (f_X5_emit L r9.1 v0 r7).bind fun r11 =>
          f_X5_readLevel_o_L42 L rec_X5_readSigned rec_X5_readLevel n k86 k100 r11 v0 v1 v2 v3 (v4 + Int32.ofInt 1)
      else
        k100 h
      else none
set_option maxRecDepth 100000 in
set_option maxHeartbeats 4000000 in
theorem m_X5_readLevel_o_L42 {l : Launch} {d : Nat} {L : eL} {rec_X5_readSigned : eH → Nat → Int32 → Option (eH × Int32)} {rec_X5_readLevel : eH → Nat → Int32 → Int32 → Option (eH × Int32)} {r : eH × Int32} {k86 : eH → Option (eH × Int32)} {k100 : eH → Option (eH × Int32)} (hd : 4 ≤ d) (hrec_X5_readSigned : ∀ {h : eH} {a0 : Nat} {a1 : Int32} {z : eH × Int32}, rec_X5_readSigned h a0 a1 = some z → e_Met l yX5_readSigned cX5_readSigned 4 (some .boolean) (d - 1) 0 0 true L h [.ref a0, .int a1] (Qx (some (.int z.2)) L z.1)) (hrec_X5_readLevel : ∀ {h : eH} {a0 : Nat} {a1 : Int32} {a2 : Int32} {z : eH × Int32}, rec_X5_readLevel h a0 a1 a2 = some z → e_Met l yX5_readLevel cX5_readLevel 6 (some .boolean) (d - 1) 0 0 true L h [.ref a0, .int a1, .int a2] (Qx (some (.int z.2)) L z.1)) (hk86 : ∀ (h : eH), k86 h = some r → E l yX5_readLevel cX5_readLevel 6 (some .boolean) (e_rm d 0 0) 0 0 true L (Qx (some (.int r.2)) L r.1) L h 0 0 86 [] []) (hk100 : ∀ (h : eH), k100 h = some r → E l yX5_readLevel cX5_readLevel 6 (some .boolean) (e_rm d 0 0) 0 0 true L (Qx (some (.int r.2)) L r.1) L h 0 0 100 [] []) : ∀ (n : Nat) (h : eH) (v0 : Nat) (v1 : Int32) (v2 : Int32) (v3 : Int32) (v4 : Int32), f_X5_readLevel_o_L42 L rec_X5_readSigned rec_X5_readLevel n k86 k100 h v0 v1 v2 v3 v4 = some r → E l yX5_readLevel cX5_readLevel 6 (some .boolean) (e_rm d 0 0) 0 0 true L (Qx (some (.int r.2)) L r.1) L h 0 0 42 [(0, .ref v0), (1, .int v1), (2, .int v2), (3, .int v3), (4, .int v4)] [] := by
  intro n
  induction n with
  | zero => intro h v0 v1 v2 v3 v4 hf; exact absurd hf (by simp [f_X5_readLevel_o_L42])
  | succ n ih =>
    intro h v0 v1 v2 v3 v4 hf
    unfold f_X5_readLevel_o_L42 at hf
    refine e_iload 4 dX5_readLevel_42 rfl ?_
    refine e_iload_n 3 dX5_readLevel_44 rfl rfl ?_
    refine e_icmp_ge (t := 100) dX5_readLevel_45 (by decide) (fun c => ?_) (fun c => ?_)
    · replace hf := e_it c hf
      refine e_sub [] rfl ?_
      exact hk100 _ hf
    · replace hf := e_ie c hf
      refine e_aload_n 0 dX5_readLevel_48 rfl rfl ?_
      obtain ⟨hO4, hf⟩ := e_if hf
      obtain ⟨r5, hr6, hf⟩ := e_bd hf
      refine e_callV (st := []) ml_RX5_58 k_X5_here (m_X5_here (d := d - 1) (by omega) hr6) hO4 ⟨by decide, rfl⟩ rfl rfl (Nat.le_of_ble_eq_true rfl) ⟨by omega, by decide⟩ ⟨Nat.le_refl _, Nat.le_refl _⟩ dX5_readLevel_49 ?_
      refine e_callS (st := []) ml_RX5_61 k_X5_levelOf (m_X5_levelOf (d := d - 1) (by omega) rfl) rfl rfl (Nat.le_of_ble_eq_true rfl) ⟨by omega, by decide⟩ ⟨Nat.le_refl _, Nat.le_refl _⟩ dX5_readLevel_52 ?_
      refine e_iload_n 1 dX5_readLevel_55 rfl rfl ?_
      refine e_icmp_ne (t := 100) dX5_readLevel_56 (by decide) (fun c => ?_) (fun c => ?_)
      · replace hf := e_ie c hf
        refine e_sub [] rfl ?_
        exact hk100 _ hf
      · replace hf := e_it c hf
        refine e_aload_n 0 dX5_readLevel_59 rfl rfl ?_
        obtain ⟨r7, hr8, hf⟩ := e_bd hf
        refine e_callV (st := []) ml_RX5_58 k_X5_here (m_X5_here (d := d - 1) (by omega) hr8) hO4 ⟨by decide, rfl⟩ rfl rfl (Nat.le_of_ble_eq_true rfl) ⟨by omega, by decide⟩ ⟨Nat.le_refl _, Nat.le_refl _⟩ dX5_readLevel_60 ?_
        refine e_istore (lv' := [(5, .int _), (0, .ref _), (1, .int _), (2, .int _), (3, .int _), (4, .int _)]) dX5_readLevel_63 (by decide) rfl ?_
        refine e_aload_n 1 dX5_readLevel_65 rfl rfl ?_
        refine e_dupR dX5_readLevel_66 ?_
        refine e_getI hO4 fc_5_3 lk_RX5_23 dX5_readLevel_67 ?_
        refine e_iconst (v := 1) dX5_readLevel_70 (by decide) ?_
        refine e_iadd dX5_readLevel_71 ?_
        refine e_putI hO4 fc_5_3 rfl lk_RX5_23 dX5_readLevel_72 ?_
        refine e_aload_n 1 dX5_readLevel_75 rfl rfl ?_
        refine e_iload_n 2 dX5_readLevel_76 rfl rfl ?_
        refine e_iconst (v := 1) dX5_readLevel_77 (by decide) ?_
        refine e_iadd dX5_readLevel_78 ?_
        refine e_iload_n 3 dX5_readLevel_79 rfl rfl ?_
        obtain ⟨r9, hr10, hf⟩ := e_bd hf
        refine e_callV (st := []) ml_RX5_43 k_X5_readLevel (hrec_X5_readLevel hr10) hO4 ⟨by decide, rfl⟩ rfl rfl (Nat.le_of_ble_eq_true rfl) ⟨by omega, by decide⟩ ⟨Nat.le_refl _, Nat.le_refl _⟩ dX5_readLevel_80 ?_
        refine e_if_ne (t := 88) dX5_readLevel_83 (by decide) (fun c => ?_) (fun c => ?_)
        · replace hf := e_ie c hf
          refine e_aload_n 1 dX5_readLevel_88 rfl rfl ?_
          refine e_iload 0 dX5_readLevel_89 rfl ?_
          obtain ⟨r11, hr12, hf⟩ := e_bd hf
          refine e_callV (st := []) ml_RX5_64 k_X5_emit (m_X5_emit (d := d - 1) (by omega) hr12) hO4 ⟨by decide, rfl⟩ rfl rfl (Nat.le_of_ble_eq_true rfl) ⟨by omega, by decide⟩ ⟨Nat.le_refl _, Nat.le_refl _⟩ dX5_readLevel_91 ?_
          refine e_iinc (lv' := [(4, .int _), (5, .int _), (0, .ref _), (1, .int _), (2, .int _), (3, .int _)]) 5 dX5_readLevel_94 rfl (by decide) rfl ?_
          refine e_goto (t := 42) dX5_readLevel_97 (by decide) ?_
          refine e_sub [2, 3, 4, 5, 0] rfl ?_
          exact ih _ _ _ _ _ _ hf
        · replace hf := e_it c hf
          refine e_sub [] rfl ?_
          exact hk86 _ hf
def f_X5_readLevel_o (L : eL) (rec_X5_readSigned : eH → Nat → Int32 → Option (eH × Int32)) (rec_X5_readLevel : eH → Nat → Int32 → Int32 → Option (eH × Int32)) (h : eH) (v0 : Nat) (v1 : Int32) (v2 : Int32) : Option (eH × Int32) :=
  if v1 < 3 then
    if v1 < 0 then
      some (h, 0)
    else
      if isO L v0 5 = true then
      (rec_X5_readLevel h v0 (v1 + 1) v2).bind fun r2 =>
      if r2.2 = 0 then
        some (r2.1, 0)
      else
        if v1 = 0 then
          f_X5_readLevel_o_L42 L rec_X5_readSigned rec_X5_readLevel e_fu (fun (h15 : eH) =>
            some (h15, 0)) (fun (h16 : eH) =>
            some (h16, 1)) r2.1 v0 v1 v2 1 0
        else
          f_X5_readLevel_o_L42 L rec_X5_readSigned rec_X5_readLevel e_fu (fun (h13 : eH) =>
            some (h13, 0)) (fun (h14 : eH) =>
            some (h14, 1)) r2.1 v0 v1 v2 40 0
      else none
  else
    if isO L v0 5 = true then
    (rec_X5_readSigned h v0 v2).bind fun r18 =>
    if isB r18.2 = true then
    some (r18.1, r18.2)
    else none
    else none
set_option maxRecDepth 100000 in
set_option maxHeartbeats 4000000 in
theorem m_X5_readLevel_o {l : Launch} {d : Nat} {L : eL} {h : eH} {rec_X5_readSigned : eH → Nat → Int32 → Option (eH × Int32)} {rec_X5_readLevel : eH → Nat → Int32 → Int32 → Option (eH × Int32)} {v0 : Nat} {v1 : Int32} {v2 : Int32} {r : eH × Int32} (hd : 4 ≤ d) (hrec_X5_readSigned : ∀ {h : eH} {a0 : Nat} {a1 : Int32} {z : eH × Int32}, rec_X5_readSigned h a0 a1 = some z → e_Met l yX5_readSigned cX5_readSigned 4 (some .boolean) (d - 1) 0 0 true L h [.ref a0, .int a1] (Qx (some (.int z.2)) L z.1)) (hrec_X5_readLevel : ∀ {h : eH} {a0 : Nat} {a1 : Int32} {a2 : Int32} {z : eH × Int32}, rec_X5_readLevel h a0 a1 a2 = some z → e_Met l yX5_readLevel cX5_readLevel 6 (some .boolean) (d - 1) 0 0 true L h [.ref a0, .int a1, .int a2] (Qx (some (.int z.2)) L z.1)) (hf : f_X5_readLevel_o L rec_X5_readSigned rec_X5_readLevel h v0 v1 v2 = some r) : e_Met l yX5_readLevel cX5_readLevel 6 (some .boolean) d 0 0 true L h [.ref v0, .int v1, .int v2] (Qx (some (.int r.2)) L r.1) := by
  refine e_metl (by decide) (Nat.le_of_ble_eq_true rfl) (lv := [(0, .ref v0), (1, .int v1), (2, .int v2)]) rfl ?_
  unfold f_X5_readLevel_o at hf
  refine e_iload_n 1 dX5_readLevel_0 rfl rfl ?_
  refine e_iconst (v := 3) dX5_readLevel_1 (by decide) ?_
  refine e_icmp_lt (t := 11) dX5_readLevel_2 (by decide) (fun c => ?_) (fun c => ?_)
  · replace hf := e_it c hf
    refine e_iload_n 1 dX5_readLevel_11 rfl rfl ?_
    refine e_if_lt (t := 26) dX5_readLevel_12 (by decide) (fun c => ?_) (fun c => ?_)
    · replace hf := e_it c hf
      refine e_iconst (v := 0) dX5_readLevel_26 (by decide) ?_
      exact e_zret (ty := .boolean) rfl rfl dX5_readLevel_27 (qW hf)
    · replace hf := e_ie c hf
      refine e_aload_n 0 dX5_readLevel_15 rfl rfl ?_
      refine e_iload_n 1 dX5_readLevel_16 rfl rfl ?_
      refine e_iconst (v := 1) dX5_readLevel_17 (by decide) ?_
      refine e_iadd dX5_readLevel_18 ?_
      refine e_iload_n 2 dX5_readLevel_19 rfl rfl ?_
      obtain ⟨hO1, hf⟩ := e_if hf
      obtain ⟨r2, hr3, hf⟩ := e_bd hf
      refine e_callV (st := []) ml_RX5_43 k_X5_readLevel (hrec_X5_readLevel hr3) hO1 ⟨by decide, rfl⟩ rfl rfl (Nat.le_of_ble_eq_true rfl) ⟨by omega, by decide⟩ ⟨Nat.le_refl _, Nat.le_refl _⟩ dX5_readLevel_20 ?_
      refine e_if_ne (t := 28) dX5_readLevel_23 (by decide) (fun c => ?_) (fun c => ?_)
      · replace hf := e_ie c hf
        refine e_iload_n 1 dX5_readLevel_28 rfl rfl ?_
        refine e_if_ne (t := 36) dX5_readLevel_29 (by decide) (fun c => ?_) (fun c => ?_)
        · replace hf := e_ie c hf
          refine e_bipush (v := 40) dX5_readLevel_36 (by decide) ?_
          refine e_istore_n (lv' := [(3, .int _), (0, .ref _), (1, .int _), (2, .int _)]) dX5_readLevel_38 rfl (by decide) rfl ?_
          refine e_iconst (v := 0) dX5_readLevel_39 (by decide) ?_
          refine e_istore (lv' := [(4, .int _), (3, .int _), (0, .ref _), (1, .int _), (2, .int _)]) dX5_readLevel_40 (by decide) rfl ?_
          refine e_sub [2, 3, 4, 1, 0] rfl ?_
          refine m_X5_readLevel_o_L42 hd hrec_X5_readSigned hrec_X5_readLevel ?_ ?_ e_fu _ _ _ _ _ _ hf
          · intro h13 hf
            refine e_iconst (v := 0) dX5_readLevel_86 (by decide) ?_
            exact e_zret (ty := .boolean) rfl rfl dX5_readLevel_87 (qW hf)
          · intro h14 hf
            refine e_iconst (v := 1) dX5_readLevel_100 (by decide) ?_
            exact e_zret (ty := .boolean) rfl rfl dX5_readLevel_101 (qW hf)
        · replace hf := e_it c hf
          refine e_iconst (v := 1) dX5_readLevel_32 (by decide) ?_
          refine e_goto (t := 38) dX5_readLevel_33 (by decide) ?_
          refine e_istore_n (lv' := [(3, .int _), (0, .ref _), (1, .int _), (2, .int _)]) dX5_readLevel_38 rfl (by decide) rfl ?_
          refine e_iconst (v := 0) dX5_readLevel_39 (by decide) ?_
          refine e_istore (lv' := [(4, .int _), (3, .int _), (0, .ref _), (1, .int _), (2, .int _)]) dX5_readLevel_40 (by decide) rfl ?_
          refine e_sub [2, 3, 4, 1, 0] rfl ?_
          refine m_X5_readLevel_o_L42 hd hrec_X5_readSigned hrec_X5_readLevel ?_ ?_ e_fu _ _ _ _ _ _ hf
          · intro h15 hf
            refine e_iconst (v := 0) dX5_readLevel_86 (by decide) ?_
            exact e_zret (ty := .boolean) rfl rfl dX5_readLevel_87 (qW hf)
          · intro h16 hf
            refine e_iconst (v := 1) dX5_readLevel_100 (by decide) ?_
            exact e_zret (ty := .boolean) rfl rfl dX5_readLevel_101 (qW hf)
      · replace hf := e_it c hf
        refine e_iconst (v := 0) dX5_readLevel_26 (by decide) ?_
        exact e_zret (ty := .boolean) rfl rfl dX5_readLevel_27 (qW hf)
  · replace hf := e_ie c hf
    refine e_aload_n 0 dX5_readLevel_5 rfl rfl ?_
    refine e_iload_n 2 dX5_readLevel_6 rfl rfl ?_
    obtain ⟨hO17, hf⟩ := e_if hf
    obtain ⟨r18, hr19, hf⟩ := e_bd hf
    refine e_callV (st := []) ml_RX5_54 k_X5_readSigned (hrec_X5_readSigned hr19) hO17 ⟨by decide, rfl⟩ rfl rfl (Nat.le_of_ble_eq_true rfl) ⟨by omega, by decide⟩ ⟨Nat.le_refl _, Nat.le_refl _⟩ dX5_readLevel_7 ?_
    obtain ⟨hB20, hf⟩ := e_if hf
    exact e_zret (ty := .boolean) rfl (isB_n hB20) dX5_readLevel_10 (qW hf)
def fg_X5_readLevel (L : eL) : Nat → Nat → eH → Nat → Int32 → Int32 → Option (eH × Int32)
  | 0, _, _, _, _, _ => none
  | n + 1, t, h, x0, x1, x2 =>
    if t = 0 then f_X5_readLevel_o L (fun h y0 y1 => fg_X5_readLevel L n 1 h y0 y1 0) (fun h y0 y1 y2 => fg_X5_readLevel L n 0 h y0 y1 y2) h x0 x1 x2
    else if t = 1 then f_X5_readSigned_o L (fun h y0 y1 => fg_X5_readLevel L n 2 h y0 y1 0) h x0 x1
    else f_X5_readThing_o L (fun h y0 y1 y2 => fg_X5_readLevel L n 0 h y0 y1 y2) h x0 x1
theorem mg_X5_readLevel {l : Launch} {L : eL} : ∀ (n d : Nat), 4 + n ≤ d → ∀ (t : Nat) (h : eH) (x0 : Nat) (x1 : Int32) (x2 : Int32) (r : eH × Int32), fg_X5_readLevel L n t h x0 x1 x2 = some r → (t = 0 → e_Met l yX5_readLevel cX5_readLevel 6 (some .boolean) d 0 0 true L h [.ref x0, .int x1, .int x2] (Qx (some (.int r.2)) L r.1)) ∧ (t = 1 → e_Met l yX5_readSigned cX5_readSigned 4 (some .boolean) d 0 0 true L h [.ref x0, .int x1] (Qx (some (.int r.2)) L r.1)) ∧ (t ≠ 0 ∧ t ≠ 1 → e_Met l yX5_readThing cX5_readThing 3 (some .boolean) d 0 0 true L h [.ref x0, .int x1] (Qx (some (.int r.2)) L r.1)) := by
  intro n
  induction n with
  | zero => intro d hd t h x0 x1 x2 r hf; exact absurd hf (by simp [fg_X5_readLevel])
  | succ n ih =>
    intro d hd t h x0 x1 x2 r hf
    unfold fg_X5_readLevel at hf
    refine ⟨?_, ?_, ?_⟩
    · intro ht
      subst ht
      exact m_X5_readLevel_o (by omega) (fun hz => (ih (d - 1) (by omega) 1 _ _ _ _ _ hz).2.1 (rfl)) (fun hz => (ih (d - 1) (by omega) 0 _ _ _ _ _ hz).1 (rfl)) (by simpa using hf)
    · intro ht
      subst ht
      exact m_X5_readSigned_o (by omega) (fun hz => (ih (d - 1) (by omega) 2 _ _ _ _ _ hz).2.2 (⟨by decide, by decide⟩)) (by simpa using hf)
    · intro ht
      exact m_X5_readThing_o (by omega) (fun hz => (ih (d - 1) (by omega) 0 _ _ _ _ _ hz).1 (rfl)) (by simpa [ht] using hf)
def f_X5_readLevel (L : eL) (h : eH) (x0 : Nat) (x1 : Int32) (x2 : Int32) : Option (eH × Int32) := fg_X5_readLevel L 100 0 h x0 x1 x2
theorem m_X5_readLevel {l : Launch} {d : Nat} {L : eL} {h : eH} {x0 : Nat} {x1 : Int32} {x2 : Int32} {r : eH × Int32} (hd : 104 ≤ d) (hf : f_X5_readLevel L h x0 x1 x2 = some r) : e_Met l yX5_readLevel cX5_readLevel 6 (some .boolean) d 0 0 true L h [.ref x0, .int x1, .int x2] (Qx (some (.int r.2)) L r.1) := (mg_X5_readLevel 100 d (by omega) 0 h x0 x1 x2 r hf).1 (rfl)
def f_X5_readSigned (L : eL) (h : eH) (x0 : Nat) (x1 : Int32) : Option (eH × Int32) := fg_X5_readLevel L 100 1 h x0 x1 0
theorem m_X5_readSigned {l : Launch} {d : Nat} {L : eL} {h : eH} {x0 : Nat} {x1 : Int32} {r : eH × Int32} (hd : 104 ≤ d) (hf : f_X5_readSigned L h x0 x1 = some r) : e_Met l yX5_readSigned cX5_readSigned 4 (some .boolean) d 0 0 true L h [.ref x0, .int x1] (Qx (some (.int r.2)) L r.1) := (mg_X5_readLevel 100 d (by omega) 1 h x0 x1 0 r hf).2.1 (rfl)
def f_X5_readThing (L : eL) (h : eH) (x0 : Nat) (x1 : Int32) : Option (eH × Int32) := fg_X5_readLevel L 100 2 h x0 x1 0
theorem m_X5_readThing {l : Launch} {d : Nat} {L : eL} {h : eH} {x0 : Nat} {x1 : Int32} {r : eH × Int32} (hd : 104 ≤ d) (hf : f_X5_readThing L h x0 x1 = some r) : e_Met l yX5_readThing cX5_readThing 3 (some .boolean) d 0 0 true L h [.ref x0, .int x1] (Qx (some (.int r.2)) L r.1) := (mg_X5_readLevel 100 d (by omega) 2 h x0 x1 0 r hf).2.2 (⟨by decide, by decide⟩)
def f_X5_read_J76 (L : eL) (h : eH) (v0 : Nat) : Option (eH × Int32) :=
  if isO L v0 5 = true then
  some (h, gI h v0 3)
  else none
set_option maxRecDepth 100000 in
set_option maxHeartbeats 4000000 in
theorem m_X5_read_J76 {l : Launch} {d : Nat} {L : eL}  {r : eH × Int32} (hd : 106 ≤ d)  : ∀ (h : eH) (v0 : Nat), f_X5_read_J76 L h v0 = some r → E l yX5_read cX5_read 4 (some .int) (e_rm d 0 0) 0 0 true L (Qx (some (.int r.2)) L r.1) L h 0 0 76 [(0, .ref v0)] [] := by
  intro h v0 hf
  unfold f_X5_read_J76 at hf
  refine e_iconst (v := 0) dX5_read_76 (by decide) ?_
  refine e_istore_n (lv' := [(3, .int _), (0, .ref _)]) dX5_read_77 rfl (by decide) rfl ?_
  refine e_iload_n 0 dX5_read_78 rfl rfl ?_
  refine e_if_eq (t := 86) dX5_read_79 (by decide) (fun _ => ?_) (fun c => absurd c (by decide))
  refine e_aload_n 1 dX5_read_86 rfl rfl ?_
  obtain ⟨hO14, hf⟩ := e_if hf
  refine e_getI hO14 fc_5_3 lk_RX5_23 dX5_read_87 ?_
  exact e_iret rfl dX5_read_90 (qW hf)
def f_X5_read (L : eL) (h : eH) (v0 : Nat) (v1 : Nat) (v2 : Nat) : Option (eH × Int32) :=
  if isO L v0 5 = true then
  if isO L v1 8 = true then
  (f_X8_size L (sR (sR h v0 0 (some v1)) v0 1 (some v2)) v1).bind fun r3 =>
  (some (sI (sR (sR h v0 0 (some v1)) v0 1 (some v2)) v0 2 (mnI r3 40))).bind fun h5 =>
  if isO L v2 4 = true then
  (f_X4_begin L (sI h5 v0 3 0) v2).bind fun r8 =>
  (f_X8_size L r8 v1).bind fun r10 =>
  if r10 = 0 then
    some (r8, (-1))
  else
    (f_X5_readLevel L r8 v0 0 0).bind fun r12 =>
    if r12.2 = 0 then
      f_X5_read_J76 L r12.1 v0
    else
      if (gI r12.1 v0 3) = (gI r12.1 v0 2) then
        (f_X8_size L r12.1 v1).bind fun r15 =>
        if r15 = (gI r12.1 v0 2) then
          some (r12.1, (-1))
        else
          f_X5_read_J76 L r12.1 v0
      else
        f_X5_read_J76 L r12.1 v0
  else none
  else none
  else none
set_option maxRecDepth 100000 in
set_option maxHeartbeats 4000000 in
theorem m_X5_read {l : Launch} {d : Nat} {L : eL} {h : eH} {v0 : Nat} {v1 : Nat} {v2 : Nat} {r : eH × Int32} (hd : 106 ≤ d) (hf : f_X5_read L h v0 v1 v2 = some r) : e_Met l yX5_read cX5_read 4 (some .int) d 0 0 true L h [.ref v0, .ref v1, .ref v2] (Qx (some (.int r.2)) L r.1) := by
  refine e_metl (by decide) (Nat.le_of_ble_eq_true rfl) (lv := [(0, .ref v0), (1, .ref v1), (2, .ref v2)]) rfl ?_
  unfold f_X5_read at hf
  refine e_aload_n 0 dX5_read_0 rfl rfl ?_
  refine e_aload_n 1 dX5_read_1 rfl rfl ?_
  obtain ⟨hO1, hf⟩ := e_if hf
  refine e_putR hO1 fc_5_0 rfl lk_RX5_9 dX5_read_2 ?_
  refine e_aload_n 0 dX5_read_5 rfl rfl ?_
  refine e_aload_n 2 dX5_read_6 rfl rfl ?_
  refine e_putR hO1 fc_5_1 rfl lk_RX5_15 dX5_read_7 ?_
  refine e_aload_n 0 dX5_read_10 rfl rfl ?_
  refine e_aload_n 1 dX5_read_11 rfl rfl ?_
  obtain ⟨hO2, hf⟩ := e_if hf
  obtain ⟨r3, hr4, hf⟩ := e_bd hf
  refine e_callV (st := [.ref _]) ml_RX5_26 k_X8_size (m_X8_size (d := d - 1) (by omega) hr4) hO2 ⟨by decide, rfl⟩ rfl rfl (Nat.le_of_ble_eq_true rfl) ⟨by omega, by decide⟩ ⟨Nat.le_refl _, Nat.le_refl _⟩ dX5_read_12 ?_
  refine e_bipush (v := 40) dX5_read_15 (by decide) ?_
  refine e_mn ml_RX5_34 (by omega) (Nat.le_of_ble_eq_true rfl) ⟨Nat.le_refl _, Nat.le_refl _⟩ dX5_read_17 ?_
  refine e_putI hO1 fc_5_2 rfl lk_RX5_19 dX5_read_20 ?_
  obtain ⟨h5, hh6, hf⟩ := e_bd hf
  refine e_hn hh6 ?_
  refine e_aload_n 0 dX5_read_23 rfl rfl ?_
  refine e_iconst (v := 0) dX5_read_24 (by decide) ?_
  refine e_putI hO1 fc_5_3 rfl lk_RX5_23 dX5_read_25 ?_
  refine e_aload_n 2 dX5_read_28 rfl rfl ?_
  obtain ⟨hO7, hf⟩ := e_if hf
  obtain ⟨r8, hr9, hf⟩ := e_bd hf
  refine e_callV (st := []) ml_RX5_40 k_X4_begin (m_X4_begin (d := d - 1) (by omega) hr9) hO7 ⟨by decide, rfl⟩ rfl rfl (Nat.le_of_ble_eq_true rfl) ⟨by omega, by decide⟩ ⟨Nat.le_refl _, Nat.le_refl _⟩ dX5_read_29 ?_
  refine e_aload_n 1 dX5_read_32 rfl rfl ?_
  obtain ⟨r10, hr11, hf⟩ := e_bd hf
  refine e_callV (st := []) ml_RX5_26 k_X8_size (m_X8_size (d := d - 1) (by omega) hr11) hO2 ⟨by decide, rfl⟩ rfl rfl (Nat.le_of_ble_eq_true rfl) ⟨by omega, by decide⟩ ⟨Nat.le_refl _, Nat.le_refl _⟩ dX5_read_33 ?_
  refine e_if_ne (t := 41) dX5_read_36 (by decide) (fun c => ?_) (fun c => ?_)
  · replace hf := e_ie c hf
    refine e_aload_n 0 dX5_read_41 rfl rfl ?_
    refine e_iconst (v := 0) dX5_read_42 (by decide) ?_
    refine e_iconst (v := 0) dX5_read_43 (by decide) ?_
    obtain ⟨r12, hr13, hf⟩ := e_bd hf
    refine e_callV (st := []) ml_RX5_43 k_X5_readLevel (m_X5_readLevel (d := d - 1) (by omega) hr13) hO1 ⟨by decide, rfl⟩ rfl rfl (Nat.le_of_ble_eq_true rfl) ⟨by omega, by decide⟩ ⟨Nat.le_refl _, Nat.le_refl _⟩ dX5_read_44 ?_
    refine e_if_eq (t := 76) dX5_read_47 (by decide) (fun c => ?_) (fun c => ?_)
    · replace hf := e_it c hf
      refine e_sub [0] rfl ?_
      exact m_X5_read_J76 hd _ _ hf
    · replace hf := e_ie c hf
      refine e_aload_n 0 dX5_read_50 rfl rfl ?_
      refine e_getI hO1 fc_5_3 lk_RX5_23 dX5_read_51 ?_
      refine e_aload_n 0 dX5_read_54 rfl rfl ?_
      refine e_getI hO1 fc_5_2 lk_RX5_19 dX5_read_55 ?_
      refine e_icmp_ne (t := 76) dX5_read_58 (by decide) (fun c => ?_) (fun c => ?_)
      · replace hf := e_ie c hf
        refine e_sub [0] rfl ?_
        exact m_X5_read_J76 hd _ _ hf
      · replace hf := e_it c hf
        refine e_aload_n 1 dX5_read_61 rfl rfl ?_
        obtain ⟨r15, hr16, hf⟩ := e_bd hf
        refine e_callV (st := []) ml_RX5_26 k_X8_size (m_X8_size (d := d - 1) (by omega) hr16) hO2 ⟨by decide, rfl⟩ rfl rfl (Nat.le_of_ble_eq_true rfl) ⟨by omega, by decide⟩ ⟨Nat.le_refl _, Nat.le_refl _⟩ dX5_read_62 ?_
        refine e_aload_n 0 dX5_read_65 rfl rfl ?_
        refine e_getI hO1 fc_5_2 lk_RX5_19 dX5_read_66 ?_
        refine e_icmp_ne (t := 76) dX5_read_69 (by decide) (fun c => ?_) (fun c => ?_)
        · replace hf := e_ie c hf
          refine e_sub [0] rfl ?_
          exact m_X5_read_J76 hd _ _ hf
        · replace hf := e_it c hf
          refine e_iconst (v := 1) dX5_read_72 (by decide) ?_
          refine e_goto (t := 77) dX5_read_73 (by decide) ?_
          refine e_istore_n (lv' := [(3, .int _), (0, .ref _), (1, .ref _), (2, .ref _)]) dX5_read_77 rfl (by decide) rfl ?_
          refine e_iload_n 0 dX5_read_78 rfl rfl ?_
          refine e_if_eq (t := 86) dX5_read_79 (by decide) (fun c => absurd c (by decide)) (fun _ => ?_)
          refine e_iconst (v := (-1)) dX5_read_82 (by decide) ?_
          refine e_goto (t := 90) dX5_read_83 (by decide) ?_
          exact e_iret rfl dX5_read_90 (qW hf)
  · replace hf := e_it c hf
    refine e_iconst (v := (-1)) dX5_read_39 (by decide) ?_
    exact e_iret rfl dX5_read_40 (qW hf)
def f_X10_rule (L : eL) (h : eH) (v0 : Nat) : Option (eH × Int32) :=
  if isO L v0 10 = true then
  (gR h v0 2).bind fun b2 =>
  (gR h v0 0).bind fun b4 =>
  (gR h v0 18).bind fun b6 =>
  if isO L b2 5 = true then
  (f_X5_read L h b2 b4 b6).bind fun r9 =>
  (gR r9.1 v0 0).bind fun b11 =>
  if isO L b11 8 = true then
  (f_X8_cut L r9.1 b11 0).bind fun r14 =>
  if r9.2 = (-1) then
    (gR r14.1 v0 17).bind fun b16 =>
    (gR r14.1 v0 18).bind fun b18 =>
    (some (sR (sR r14.1 v0 17 (some b18)) v0 18 (some b16))).bind fun h20 =>
    some (h20, 0)
  else
    some (r14.1, (-1) - r9.2)
  else none
  else none
  else none
set_option maxRecDepth 100000 in
set_option maxHeartbeats 4000000 in
theorem m_X10_rule {l : Launch} {d : Nat} {L : eL} {h : eH} {v0 : Nat} {r : eH × Int32} (hd : 107 ≤ d) (hf : f_X10_rule L h v0 = some r) : e_Met l yX10_rule cX10_rule 3 (some .int) d 0 0 true L h [.ref v0] (Qx (some (.int r.2)) L r.1) := by
  refine e_metl (by decide) (Nat.le_of_ble_eq_true rfl) (lv := [(0, .ref v0)]) rfl ?_
  unfold f_X10_rule at hf
  refine e_aload_n 0 dX10_rule_0 rfl rfl ?_
  obtain ⟨hO1, hf⟩ := e_if hf
  obtain ⟨b2, hb3, hf⟩ := e_bd hf
  refine e_getR hO1 fc_10_2 lk_RX10_26 dX10_rule_1 hb3 ?_
  refine e_aload_n 0 dX10_rule_4 rfl rfl ?_
  obtain ⟨b4, hb5, hf⟩ := e_bd hf
  refine e_getR hO1 fc_10_0 lk_RX10_12 dX10_rule_5 hb5 ?_
  refine e_aload_n 0 dX10_rule_8 rfl rfl ?_
  obtain ⟨b6, hb7, hf⟩ := e_bd hf
  refine e_getR hO1 fc_10_18 lk_RX10_106 dX10_rule_9 hb7 ?_
  obtain ⟨hO8, hf⟩ := e_if hf
  obtain ⟨r9, hr10, hf⟩ := e_bd hf
  refine e_callV (st := []) ml_RX10_149 k_X5_read (m_X5_read (d := d - 1) (by omega) hr10) hO8 ⟨by decide, rfl⟩ rfl rfl (Nat.le_of_ble_eq_true rfl) ⟨by omega, by decide⟩ ⟨Nat.le_refl _, Nat.le_refl _⟩ dX10_rule_12 ?_
  refine e_istore_n (lv' := [(1, .int _), (0, .ref _)]) dX10_rule_15 rfl (by decide) rfl ?_
  refine e_aload_n 1 dX10_rule_16 rfl rfl ?_
  obtain ⟨b11, hb12, hf⟩ := e_bd hf
  refine e_getR hO1 fc_10_0 lk_RX10_12 dX10_rule_17 hb12 ?_
  refine e_iconst (v := 0) dX10_rule_20 (by decide) ?_
  obtain ⟨hO13, hf⟩ := e_if hf
  obtain ⟨r14, hr15, hf⟩ := e_bd hf
  refine e_callV (st := []) ml_RX10_121 k_X8_cut (m_X8_cut (d := d - 1) (by omega) hr15) hO13 ⟨by decide, rfl⟩ rfl rfl (Nat.le_of_ble_eq_true rfl) ⟨by omega, by decide⟩ ⟨Nat.le_refl _, Nat.le_refl _⟩ dX10_rule_21 ?_
  refine e_popI dX10_rule_24 ?_
  refine e_iload_n 0 dX10_rule_25 rfl rfl ?_
  refine e_iconst (v := (-1)) dX10_rule_26 (by decide) ?_
  refine e_icmp_eq (t := 34) dX10_rule_27 (by decide) (fun c => ?_) (fun c => ?_)
  · replace hf := e_it c hf
    refine e_aload_n 1 dX10_rule_34 rfl rfl ?_
    obtain ⟨b16, hb17, hf⟩ := e_bd hf
    refine e_getR hO1 fc_10_17 lk_RX10_102 dX10_rule_35 hb17 ?_
    refine e_astore_n (lv' := [(2, .ref _), (1, .int _), (0, .ref _)]) dX10_rule_38 rfl (by decide) rfl ?_
    refine e_aload_n 2 dX10_rule_39 rfl rfl ?_
    refine e_aload_n 2 dX10_rule_40 rfl rfl ?_
    obtain ⟨b18, hb19, hf⟩ := e_bd hf
    refine e_getR hO1 fc_10_18 lk_RX10_106 dX10_rule_41 hb19 ?_
    refine e_putR hO1 fc_10_17 rfl lk_RX10_102 dX10_rule_44 ?_
    refine e_aload_n 2 dX10_rule_47 rfl rfl ?_
    refine e_aload_n 0 dX10_rule_48 rfl rfl ?_
    refine e_putR hO1 fc_10_18 rfl lk_RX10_106 dX10_rule_49 ?_
    obtain ⟨h20, hh21, hf⟩ := e_bd hf
    refine e_hn hh21 ?_
    refine e_iconst (v := 0) dX10_rule_52 (by decide) ?_
    exact e_iret rfl dX10_rule_53 (qW hf)
  · replace hf := e_ie c hf
    refine e_iconst (v := (-1)) dX10_rule_30 (by decide) ?_
    refine e_iload_n 0 dX10_rule_31 rfl rfl ?_
    refine e_isub dX10_rule_32 ?_
    exact e_iret rfl dX10_rule_33 (qW hf)

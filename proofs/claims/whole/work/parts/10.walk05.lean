def f_X7_goFarther_o_J144 (L : eL) (rec_X7_goFarther : eH → Nat → Int32 → Int32 → Int32 → Int64 → Option eH) (k76 : eH → Nat → Int32 → Int32 → Int32 → Int64 → Int32 → Option eH) (k173 : eH → Option eH) (h : eH) (v0 : Nat) (v1 : Int32) (v2 : Int32) (v3 : Int32) (v4 : Int64) (v6 : Int32) (v7 : Int32) (s0 : Int32) : Option eH :=
  if isO L v0 7 = true then
  (rec_X7_goFarther h v0 v7 (v2 + 1) (v3 + s0) (v4 ||| (f_X10_bit v7))).bind fun r27 =>
  k76 r27 v0 v1 v2 v3 v4 (v6 + Int32.ofInt 1)
  else none
set_option maxRecDepth 100000 in
set_option maxHeartbeats 4000000 in
theorem m_X7_goFarther_o_J144 {l : Launch} {d : Nat} {L : eL} {rec_X7_goFarther : eH → Nat → Int32 → Int32 → Int32 → Int64 → Option eH} {r : eH} {k76 : eH → Nat → Int32 → Int32 → Int32 → Int64 → Int32 → Option eH} {k173 : eH → Option eH} (hd : 3 ≤ d) (hrec_X7_goFarther : ∀ {h : eH} {a0 : Nat} {a1 : Int32} {a2 : Int32} {a3 : Int32} {a4 : Int64} {z : eH}, rec_X7_goFarther h a0 a1 a2 a3 a4 = some z → e_Met l yX7_goFarther cX7_goFarther 9 none (d - 1) 0 0 true L h [.ref a0, .int a1, .int a2, .int a3, .long a4] (Qx none L z)) (hk76 : ∀ (h : eH) (v0 : Nat) (v1 : Int32) (v2 : Int32) (v3 : Int32) (v4 : Int64) (v6 : Int32), k76 h v0 v1 v2 v3 v4 v6 = some r → E l yX7_goFarther cX7_goFarther 9 none (e_rm d 0 0) 0 0 true L (Qx none L r) L h 0 0 76 [(0, .ref v0), (1, .int v1), (2, .int v2), (3, .int v3), (4, .long v4), (6, .int v6)] []) (hk173 : ∀ (h : eH), k173 h = some r → E l yX7_goFarther cX7_goFarther 9 none (e_rm d 0 0) 0 0 true L (Qx none L r) L h 0 0 173 [] []) : ∀ (h : eH) (v0 : Nat) (v1 : Int32) (v2 : Int32) (v3 : Int32) (v4 : Int64) (v6 : Int32) (v7 : Int32) (s0 : Int32), f_X7_goFarther_o_J144 L rec_X7_goFarther k76 k173 h v0 v1 v2 v3 v4 v6 v7 s0 = some r → E l yX7_goFarther cX7_goFarther 9 none (e_rm d 0 0) 0 0 true L (Qx none L r) L h 0 0 144 [(0, .ref v0), (1, .int v1), (2, .int v2), (3, .int v3), (4, .long v4), (6, .int v6), (7, .int v7)] [.int s0] := by
  intro h v0 v1 v2 v3 v4 v6 v7 s0 hf
  unfold f_X7_goFarther_o_J144 at hf
  refine e_istore (lv' := [(8, .int _), (0, .ref _), (1, .int _), (2, .int _), (3, .int _), (4, .long _), (6, .int _), (7, .int _)]) dX7_goFarther_144 (by decide) rfl ?_
  refine e_aload_n 1 dX7_goFarther_146 rfl rfl ?_
  refine e_iload 7 dX7_goFarther_147 rfl ?_
  refine e_iload_n 3 dX7_goFarther_149 rfl rfl ?_
  refine e_iconst (v := 1) dX7_goFarther_150 (by decide) ?_
  refine e_iadd dX7_goFarther_151 ?_
  refine e_iload_n 4 dX7_goFarther_152 rfl rfl ?_
  refine e_iload 0 dX7_goFarther_153 rfl ?_
  refine e_iadd dX7_goFarther_155 ?_
  refine e_lload 5 dX7_goFarther_156 rfl ?_
  refine e_iload 7 dX7_goFarther_158 rfl ?_
  refine e_callSN (st := [.long _, .int _, .int _, .int _, .ref _]) ml_RX7_75 k_X10_bit (m_X10_bit (d := d - 1) (by omega) rfl) rfl rfl (Nat.le_of_ble_eq_true rfl) ⟨by omega, by decide⟩ ⟨Nat.le_refl _, Nat.le_refl _⟩ dX7_goFarther_160 ?_
  refine e_lor dX7_goFarther_163 ?_
  obtain ⟨hO26, hf⟩ := e_if hf
  obtain ⟨r27, hr28, hf⟩ := e_bd hf
  refine e_callV (st := []) ml_RX7_79 k_X7_goFarther (hrec_X7_goFarther hr28) hO26 ⟨by decide, rfl⟩ rfl rfl (Nat.le_of_ble_eq_true rfl) ⟨by omega, by decide⟩ ⟨Nat.le_refl _, Nat.le_refl _⟩ dX7_goFarther_164 ?_
  refine e_iinc (lv' := [(6, .int _), (8, .int _), (0, .ref _), (1, .int _), (2, .int _), (3, .int _), (4, .long _), (7, .int _)]) 6 dX7_goFarther_167 rfl (by decide) rfl ?_
  refine e_goto (t := 76) dX7_goFarther_170 (by decide) ?_
  refine e_sub [2, 3, 4, 5, 6, 0] rfl ?_
  exact hk76 _ _ _ _ _ _ _ hf
def f_X7_goFarther_o_L76 (L : eL) (rec_X7_goFarther : eH → Nat → Int32 → Int32 → Int32 → Int64 → Option eH) : Nat → (eH → Option eH) → eH → Nat → Int32 → Int32 → Int32 → Int64 → Int32 → Option eH
  | 0, _, _, _, _, _, _, _, _ => none
  | n + 1, k173, h, v0, v1, v2, v3, v4, v6 =>
    if 4 ≤ v6 then
      k173 h
    else
      if isO L v0 7 = true then
      (gR h v0 2).bind fun b12 =>
      if inR v6 = true then
      if isO L b12 2 = true then
      (f_X2_aheadOf L h b12 v1 (risv v6)).bind fun r16 =>
      if (f_X10_holds (gL h v0 4) r16) = 0 then
        f_X7_goFarther_o_L76 L rec_X7_goFarther n k173 h v0 v1 v2 v3 v4 (v6 + Int32.ofInt 1)
      else
        (gR h v0 0).bind fun b18 =>
        if inA L b18 0 v2 = true then
        if (f_X10_holds v4 r16) = 0 then
          (gR (sI h b18 v2.toNatClampNeg r16) v0 3).bind fun b21 =>
          if isO L b21 6 = true then
          (f_X6_dustAt L (sI h b18 v2.toNatClampNeg r16) b21 r16).bind fun r24 =>
          f_X7_goFarther_o_J144 L rec_X7_goFarther (f_X7_goFarther_o_L76 L rec_X7_goFarther n k173) k173 (sI h b18 v2.toNatClampNeg r16) v0 v1 v2 v3 v4 v6 r16 r24
          else none
        else
          f_X7_goFarther_o_J144 L rec_X7_goFarther (f_X7_goFarther_o_L76 L rec_X7_goFarther n k173) k173 (sI h b18 v2.toNatClampNeg r16) v0 v1 v2 v3 v4 v6 r16 0
        else none
      else none
      else none
      else none
set_option maxRecDepth 100000 in
set_option maxHeartbeats 4000000 in
theorem m_X7_goFarther_o_L76 {l : Launch} {d : Nat} {L : eL} {rec_X7_goFarther : eH → Nat → Int32 → Int32 → Int32 → Int64 → Option eH} {r : eH} {k173 : eH → Option eH} (hd : 3 ≤ d) (hrec_X7_goFarther : ∀ {h : eH} {a0 : Nat} {a1 : Int32} {a2 : Int32} {a3 : Int32} {a4 : Int64} {z : eH}, rec_X7_goFarther h a0 a1 a2 a3 a4 = some z → e_Met l yX7_goFarther cX7_goFarther 9 none (d - 1) 0 0 true L h [.ref a0, .int a1, .int a2, .int a3, .long a4] (Qx none L z)) (hk173 : ∀ (h : eH), k173 h = some r → E l yX7_goFarther cX7_goFarther 9 none (e_rm d 0 0) 0 0 true L (Qx none L r) L h 0 0 173 [] []) : ∀ (n : Nat) (h : eH) (v0 : Nat) (v1 : Int32) (v2 : Int32) (v3 : Int32) (v4 : Int64) (v6 : Int32), f_X7_goFarther_o_L76 L rec_X7_goFarther n k173 h v0 v1 v2 v3 v4 v6 = some r → E l yX7_goFarther cX7_goFarther 9 none (e_rm d 0 0) 0 0 true L (Qx none L r) L h 0 0 76 [(0, .ref v0), (1, .int v1), (2, .int v2), (3, .int v3), (4, .long v4), (6, .int v6)] [] := by
  intro n
  induction n with
  | zero => intro h v0 v1 v2 v3 v4 v6 hf; exact absurd hf (by simp [f_X7_goFarther_o_L76])
  | succ n ih =>
    intro h v0 v1 v2 v3 v4 v6 hf
    unfold f_X7_goFarther_o_L76 at hf
    refine e_iload 5 dX7_goFarther_76 rfl ?_
    refine e_risS ris_w dX7_goFarther_78 ?_
    refine e_risL dX7_goFarther_81 ?_
    refine e_icmp_ge (t := 173) dX7_goFarther_82 (by decide) (fun c => ?_) (fun c => ?_)
    · replace hf := e_it c hf
      refine e_sub [] rfl ?_
      exact hk173 _ hf
    · replace hf := e_ie c hf
      refine e_aload_n 0 dX7_goFarther_85 rfl rfl ?_
      obtain ⟨hO11, hf⟩ := e_if hf
      obtain ⟨b12, hb13, hf⟩ := e_bd hf
      refine e_getR hO11 fc_7_2 lk_RX7_18 dX7_goFarther_86 hb13 ?_
      refine e_iload_n 1 dX7_goFarther_89 rfl rfl ?_
      refine e_risS ris_w dX7_goFarther_90 ?_
      refine e_iload 5 dX7_goFarther_93 rfl ?_
      obtain ⟨hR14, hf⟩ := e_if hf
      refine e_risA (inR_in hR14) dX7_goFarther_95 ?_
      obtain ⟨hO15, hf⟩ := e_if hf
      obtain ⟨r16, hr17, hf⟩ := e_bd hf
      refine e_callV (st := []) ml_RX7_94 k_X2_aheadOf (m_X2_aheadOf (d := d - 1) (by omega) hr17) hO15 ⟨by decide, rfl⟩ rfl rfl (Nat.le_of_ble_eq_true rfl) ⟨by omega, by decide⟩ ⟨Nat.le_refl _, Nat.le_refl _⟩ dX7_goFarther_96 ?_
      refine e_istore (lv' := [(7, .int _), (0, .ref _), (1, .int _), (2, .int _), (3, .int _), (4, .long _), (6, .int _)]) dX7_goFarther_99 (by decide) rfl ?_
      refine e_aload_n 1 dX7_goFarther_101 rfl rfl ?_
      refine e_getL hO11 fc_7_4 lk_RX7_26 dX7_goFarther_102 ?_
      refine e_iload 0 dX7_goFarther_105 rfl ?_
      refine e_callSN (st := []) ml_RX7_61 k_X10_holds (m_X10_holds (d := d - 1) (by omega) rfl) rfl rfl (Nat.le_of_ble_eq_true rfl) ⟨by omega, by decide⟩ ⟨Nat.le_refl _, Nat.le_refl _⟩ dX7_goFarther_107 ?_
      refine e_if_eq (t := 167) dX7_goFarther_110 (by decide) (fun c => ?_) (fun c => ?_)
      · replace hf := e_it c hf
        refine e_iinc (lv' := [(6, .int _), (7, .int _), (0, .ref _), (1, .int _), (2, .int _), (3, .int _), (4, .long _)]) 6 dX7_goFarther_167 rfl (by decide) rfl ?_
        refine e_goto (t := 76) dX7_goFarther_170 (by decide) ?_
        refine e_sub [2, 3, 4, 5, 6, 0] rfl ?_
        exact ih _ _ _ _ _ _ _ hf
      · replace hf := e_ie c hf
        refine e_aload_n 1 dX7_goFarther_113 rfl rfl ?_
        obtain ⟨b18, hb19, hf⟩ := e_bd hf
        refine e_getR hO11 fc_7_0 lk_RX7_11 dX7_goFarther_114 hb19 ?_
        refine e_iload_n 3 dX7_goFarther_117 rfl rfl ?_
        refine e_iload 0 dX7_goFarther_118 rfl ?_
        obtain ⟨hI20, hf⟩ := e_if hf
        refine e_iast hI20 dX7_goFarther_120 ?_
        refine e_lload 5 dX7_goFarther_121 rfl ?_
        refine e_iload 0 dX7_goFarther_123 rfl ?_
        refine e_callSN (st := []) ml_RX7_61 k_X10_holds (m_X10_holds (d := d - 1) (by omega) rfl) rfl rfl (Nat.le_of_ble_eq_true rfl) ⟨by omega, by decide⟩ ⟨Nat.le_refl _, Nat.le_refl _⟩ dX7_goFarther_125 ?_
        refine e_if_eq (t := 135) dX7_goFarther_128 (by decide) (fun c => ?_) (fun c => ?_)
        · replace hf := e_it c hf
          refine e_aload_n 1 dX7_goFarther_135 rfl rfl ?_
          obtain ⟨b21, hb22, hf⟩ := e_bd hf
          refine e_getR hO11 fc_7_3 lk_RX7_22 dX7_goFarther_136 hb22 ?_
          refine e_iload 0 dX7_goFarther_139 rfl ?_
          obtain ⟨hO23, hf⟩ := e_if hf
          obtain ⟨r24, hr25, hf⟩ := e_bd hf
          refine e_callV (st := []) ml_RX7_65 k_X6_dustAt (m_X6_dustAt (d := d - 1) (by omega) hr25) hO23 ⟨by decide, rfl⟩ rfl rfl (Nat.le_of_ble_eq_true rfl) ⟨by omega, by decide⟩ ⟨Nat.le_refl _, Nat.le_refl _⟩ dX7_goFarther_141 ?_
          refine e_sub [1, 2, 3, 4, 5, 6, 0] rfl ?_
          exact m_X7_goFarther_o_J144 hd hrec_X7_goFarther ih hk173 _ _ _ _ _ _ _ _ _ hf
        · replace hf := e_ie c hf
          refine e_iconst (v := 0) dX7_goFarther_131 (by decide) ?_
          refine e_goto (t := 144) dX7_goFarther_132 (by decide) ?_
          refine e_sub [1, 2, 3, 4, 5, 6, 0] rfl ?_
          exact m_X7_goFarther_o_J144 hd hrec_X7_goFarther ih hk173 _ _ _ _ _ _ _ _ _ hf
def f_X7_goFarther_o_J30 (L : eL) (rec_X7_goFarther : eH → Nat → Int32 → Int32 → Int32 → Int64 → Option eH) (h : eH) (v0 : Nat) (v1 : Int32) (v2 : Int32) (v3 : Int32) (v4 : Int64) : Option eH :=
  if v2 < 0 then
    some h
  else
    if isO L v0 7 = true then
    if (gI h v0 5) ≤ v2 then
      some h
    else
      if 6 ≤ v2 then
        some h
      else
        (f_X7_canBeBetter L h v0 v2 v3).bind fun r5 =>
        if r5 = 0 then
          some h
        else
          (gR h v0 2).bind fun b7 =>
          (gR h v0 3).bind fun b9 =>
          f_X7_goFarther_o_L76 L rec_X7_goFarther e_fu (fun (h29 : eH) =>
            some h29) h v0 v1 v2 v3 v4 0
    else none
set_option maxRecDepth 100000 in
set_option maxHeartbeats 4000000 in
theorem m_X7_goFarther_o_J30 {l : Launch} {d : Nat} {L : eL} {rec_X7_goFarther : eH → Nat → Int32 → Int32 → Int32 → Int64 → Option eH} {r : eH} (hd : 3 ≤ d) (hrec_X7_goFarther : ∀ {h : eH} {a0 : Nat} {a1 : Int32} {a2 : Int32} {a3 : Int32} {a4 : Int64} {z : eH}, rec_X7_goFarther h a0 a1 a2 a3 a4 = some z → e_Met l yX7_goFarther cX7_goFarther 9 none (d - 1) 0 0 true L h [.ref a0, .int a1, .int a2, .int a3, .long a4] (Qx none L z))  : ∀ (h : eH) (v0 : Nat) (v1 : Int32) (v2 : Int32) (v3 : Int32) (v4 : Int64), f_X7_goFarther_o_J30 L rec_X7_goFarther h v0 v1 v2 v3 v4 = some r → E l yX7_goFarther cX7_goFarther 9 none (e_rm d 0 0) 0 0 true L (Qx none L r) L h 0 0 30 [(0, .ref v0), (1, .int v1), (2, .int v2), (3, .int v3), (4, .long v4)] [] := by
  intro h v0 v1 v2 v3 v4 hf
  unfold f_X7_goFarther_o_J30 at hf
  refine e_iload_n 2 dX7_goFarther_30 rfl rfl ?_
  refine e_if_lt (t := 57) dX7_goFarther_31 (by decide) (fun c => ?_) (fun c => ?_)
  · replace hf := e_it c hf
    exact e_vret rfl dX7_goFarther_57 (qV hf)
  · replace hf := e_ie c hf
    refine e_iload_n 2 dX7_goFarther_34 rfl rfl ?_
    refine e_aload_n 0 dX7_goFarther_35 rfl rfl ?_
    obtain ⟨hO4, hf⟩ := e_if hf
    refine e_getI hO4 fc_7_5 lk_RX7_30 dX7_goFarther_36 ?_
    refine e_icmp_ge (t := 57) dX7_goFarther_39 (by decide) (fun c => ?_) (fun c => ?_)
    · replace hf := e_it c hf
      exact e_vret rfl dX7_goFarther_57 (qV hf)
    · replace hf := e_ie c hf
      refine e_iload_n 2 dX7_goFarther_42 rfl rfl ?_
      refine e_bipush (v := 6) dX7_goFarther_43 (by decide) ?_
      refine e_icmp_ge (t := 57) dX7_goFarther_45 (by decide) (fun c => ?_) (fun c => ?_)
      · replace hf := e_it c hf
        exact e_vret rfl dX7_goFarther_57 (qV hf)
      · replace hf := e_ie c hf
        refine e_aload_n 0 dX7_goFarther_48 rfl rfl ?_
        refine e_iload_n 2 dX7_goFarther_49 rfl rfl ?_
        refine e_iload_n 3 dX7_goFarther_50 rfl rfl ?_
        obtain ⟨r5, hr6, hf⟩ := e_bd hf
        refine e_callV (st := []) ml_RX7_87 k_X7_canBeBetter (m_X7_canBeBetter (d := d - 1) (by omega) hr6) hO4 ⟨by decide, rfl⟩ rfl rfl (Nat.le_of_ble_eq_true rfl) ⟨by omega, by decide⟩ ⟨Nat.le_refl _, Nat.le_refl _⟩ dX7_goFarther_51 ?_
        refine e_if_ne (t := 58) dX7_goFarther_54 (by decide) (fun c => ?_) (fun c => ?_)
        · replace hf := e_ie c hf
          refine e_aload_n 0 dX7_goFarther_58 rfl rfl ?_
          obtain ⟨b7, hb8, hf⟩ := e_bd hf
          refine e_getR hO4 fc_7_2 lk_RX7_18 dX7_goFarther_59 hb8 ?_
          refine e_ifnull dX7_goFarther_62 ?_
          refine e_aload_n 0 dX7_goFarther_65 rfl rfl ?_
          obtain ⟨b9, hb10, hf⟩ := e_bd hf
          refine e_getR hO4 fc_7_3 lk_RX7_22 dX7_goFarther_66 hb10 ?_
          refine e_ifnonnull (t := 73) dX7_goFarther_69 (by decide) ?_
          refine e_iconst (v := 0) dX7_goFarther_73 (by decide) ?_
          refine e_istore (lv' := [(6, .int _), (0, .ref _), (1, .int _), (2, .int _), (3, .int _), (4, .long _)]) dX7_goFarther_74 (by decide) rfl ?_
          refine e_sub [1, 2, 3, 4, 5, 0] rfl ?_
          refine m_X7_goFarther_o_L76 hd hrec_X7_goFarther ?_ e_fu _ _ _ _ _ _ _ hf
          · intro h29 hf
            exact e_vret rfl dX7_goFarther_173 (qV hf)
        · replace hf := e_it c hf
          exact e_vret rfl dX7_goFarther_57 (qV hf)
def f_X7_goFarther_o (L : eL) (rec_X7_goFarther : eH → Nat → Int32 → Int32 → Int32 → Int64 → Option eH) (h : eH) (v0 : Nat) (v1 : Int32) (v2 : Int32) (v3 : Int32) (v4 : Int64) : Option eH :=
  if isO L v0 7 = true then
  if (gI h v0 7) < v3 then
    (f_X7_noteFound L h v0 v2 v3).bind fun r2 =>
    f_X7_goFarther_o_J30 L rec_X7_goFarther r2 v0 v1 v2 v3 v4
  else
    if v3 = (gI h v0 7) then
      if (gI h v0 8) ≤ v2 then
        f_X7_goFarther_o_J30 L rec_X7_goFarther h v0 v1 v2 v3 v4
      else
        (f_X7_noteFound L h v0 v2 v3).bind fun r30 =>
        f_X7_goFarther_o_J30 L rec_X7_goFarther r30 v0 v1 v2 v3 v4
    else
      f_X7_goFarther_o_J30 L rec_X7_goFarther h v0 v1 v2 v3 v4
  else none
set_option maxRecDepth 100000 in
set_option maxHeartbeats 4000000 in
theorem m_X7_goFarther_o {l : Launch} {d : Nat} {L : eL} {h : eH} {rec_X7_goFarther : eH → Nat → Int32 → Int32 → Int32 → Int64 → Option eH} {v0 : Nat} {v1 : Int32} {v2 : Int32} {v3 : Int32} {v4 : Int64} {r : eH} (hd : 3 ≤ d) (hrec_X7_goFarther : ∀ {h : eH} {a0 : Nat} {a1 : Int32} {a2 : Int32} {a3 : Int32} {a4 : Int64} {z : eH}, rec_X7_goFarther h a0 a1 a2 a3 a4 = some z → e_Met l yX7_goFarther cX7_goFarther 9 none (d - 1) 0 0 true L h [.ref a0, .int a1, .int a2, .int a3, .long a4] (Qx none L z)) (hf : f_X7_goFarther_o L rec_X7_goFarther h v0 v1 v2 v3 v4 = some r) : e_Met l yX7_goFarther cX7_goFarther 9 none d 0 0 true L h [.ref v0, .int v1, .int v2, .int v3, .long v4] (Qx none L r) := by
  refine e_metl (by decide) (Nat.le_of_ble_eq_true rfl) (lv := [(0, .ref v0), (1, .int v1), (2, .int v2), (3, .int v3), (4, .long v4)]) rfl ?_
  unfold f_X7_goFarther_o at hf
  refine e_iload_n 3 dX7_goFarther_0 rfl rfl ?_
  refine e_aload_n 0 dX7_goFarther_1 rfl rfl ?_
  obtain ⟨hO1, hf⟩ := e_if hf
  refine e_getI hO1 fc_7_7 lk_RX7_37 dX7_goFarther_2 ?_
  refine e_icmp_gt (t := 24) dX7_goFarther_5 (by decide) (fun c => ?_) (fun c => ?_)
  · replace hf := e_it c hf
    refine e_aload_n 0 dX7_goFarther_24 rfl rfl ?_
    refine e_iload_n 2 dX7_goFarther_25 rfl rfl ?_
    refine e_iload_n 3 dX7_goFarther_26 rfl rfl ?_
    obtain ⟨r2, hr3, hf⟩ := e_bd hf
    refine e_callV (st := []) ml_RX7_83 k_X7_noteFound (m_X7_noteFound (d := d - 1) (by omega) hr3) hO1 ⟨by decide, rfl⟩ rfl rfl (Nat.le_of_ble_eq_true rfl) ⟨by omega, by decide⟩ ⟨Nat.le_refl _, Nat.le_refl _⟩ dX7_goFarther_27 ?_
    exact m_X7_goFarther_o_J30 hd hrec_X7_goFarther _ _ _ _ _ _ hf
  · replace hf := e_ie c hf
    refine e_iload_n 3 dX7_goFarther_8 rfl rfl ?_
    refine e_aload_n 0 dX7_goFarther_9 rfl rfl ?_
    refine e_getI hO1 fc_7_7 lk_RX7_37 dX7_goFarther_10 ?_
    refine e_icmp_ne (t := 30) dX7_goFarther_13 (by decide) (fun c => ?_) (fun c => ?_)
    · replace hf := e_ie c hf
      exact m_X7_goFarther_o_J30 hd hrec_X7_goFarther _ _ _ _ _ _ hf
    · replace hf := e_it c hf
      refine e_iload_n 2 dX7_goFarther_16 rfl rfl ?_
      refine e_aload_n 0 dX7_goFarther_17 rfl rfl ?_
      refine e_getI hO1 fc_7_8 lk_RX7_40 dX7_goFarther_18 ?_
      refine e_icmp_ge (t := 30) dX7_goFarther_21 (by decide) (fun c => ?_) (fun c => ?_)
      · replace hf := e_it c hf
        exact m_X7_goFarther_o_J30 hd hrec_X7_goFarther _ _ _ _ _ _ hf
      · replace hf := e_ie c hf
        refine e_aload_n 0 dX7_goFarther_24 rfl rfl ?_
        refine e_iload_n 2 dX7_goFarther_25 rfl rfl ?_
        refine e_iload_n 3 dX7_goFarther_26 rfl rfl ?_
        obtain ⟨r30, hr31, hf⟩ := e_bd hf
        refine e_callV (st := []) ml_RX7_83 k_X7_noteFound (m_X7_noteFound (d := d - 1) (by omega) hr31) hO1 ⟨by decide, rfl⟩ rfl rfl (Nat.le_of_ble_eq_true rfl) ⟨by omega, by decide⟩ ⟨Nat.le_refl _, Nat.le_refl _⟩ dX7_goFarther_27 ?_
        exact m_X7_goFarther_o_J30 hd hrec_X7_goFarther _ _ _ _ _ _ hf
def fg_X7_goFarther (L : eL) : Nat → Nat → eH → Nat → Int32 → Int32 → Int32 → Int64 → Option eH
  | 0, _, _, _, _, _, _, _ => none
  | n + 1, t, h, x0, x1, x2, x3, x4 =>
    f_X7_goFarther_o L (fun h y0 y1 y2 y3 y4 => fg_X7_goFarther L n 0 h y0 y1 y2 y3 y4) h x0 x1 x2 x3 x4
theorem mg_X7_goFarther {l : Launch} {L : eL} : ∀ (n d : Nat), 3 + n ≤ d → ∀ (t : Nat) (h : eH) (x0 : Nat) (x1 : Int32) (x2 : Int32) (x3 : Int32) (x4 : Int64) (r : eH), fg_X7_goFarther L n t h x0 x1 x2 x3 x4 = some r → (True → e_Met l yX7_goFarther cX7_goFarther 9 none d 0 0 true L h [.ref x0, .int x1, .int x2, .int x3, .long x4] (Qx none L r)) := by
  intro n
  induction n with
  | zero => intro d hd t h x0 x1 x2 x3 x4 r hf; exact absurd hf (by simp [fg_X7_goFarther])
  | succ n ih =>
    intro d hd t h x0 x1 x2 x3 x4 r hf
    unfold fg_X7_goFarther at hf
    refine ?_
    exact fun _ => m_X7_goFarther_o (by omega) (fun hz => (ih (d - 1) (by omega) 0 _ _ _ _ _ _ _ hz) (trivial)) hf
def f_X7_goFarther (L : eL) (h : eH) (x0 : Nat) (x1 : Int32) (x2 : Int32) (x3 : Int32) (x4 : Int64) : Option eH := fg_X7_goFarther L 100 0 h x0 x1 x2 x3 x4
theorem m_X7_goFarther {l : Launch} {d : Nat} {L : eL} {h : eH} {x0 : Nat} {x1 : Int32} {x2 : Int32} {x3 : Int32} {x4 : Int64} {r : eH} (hd : 103 ≤ d) (hf : f_X7_goFarther L h x0 x1 x2 x3 x4 = some r) : e_Met l yX7_goFarther cX7_goFarther 9 none d 0 0 true L h [.ref x0, .int x1, .int x2, .int x3, .long x4] (Qx none L r) := (mg_X7_goFarther 100 d (by omega) 0 h x0 x1 x2 x3 x4 r hf) (trivial)
def f_X7_seek_L55 (L : eL) : Nat → (eH → Nat → Nat → Option eH) → eH → Nat → Nat → Int32 → Option eH
  | 0, _, _, _, _, _ => none
  | n + 1, k101, h, v0, v2, v4 =>
    if 36 ≤ v4 then
      k101 h v0 v2
    else
      if isO L v0 7 = true then
      if (f_X10_holds (gL h v0 4) v4) = 0 then
        f_X7_seek_L55 L n k101 (sI h v0 6 (mxI (gI h v0 6) 0)) v0 v2 (v4 + Int32.ofInt 1)
      else
        if isO L v2 6 = true then
        (f_X6_dustAt L h v2 v4).bind fun r10 =>
        f_X7_seek_L55 L n k101 (sI h v0 6 (mxI (gI h v0 6) r10)) v0 v2 (v4 + Int32.ofInt 1)
        else none
      else none
set_option maxRecDepth 100000 in
set_option maxHeartbeats 4000000 in
theorem m_X7_seek_L55 {l : Launch} {d : Nat} {L : eL}  {r : eH} {k101 : eH → Nat → Nat → Option eH} (hd : 105 ≤ d) (hk101 : ∀ (h : eH) (v0 : Nat) (v2 : Nat), k101 h v0 v2 = some r → E l yX7_seek cX7_seek 5 none (e_rm d 0 0) 0 0 true L (Qx none L r) L h 0 0 101 [(0, .ref v0), (2, .ref v2)] []) : ∀ (n : Nat) (h : eH) (v0 : Nat) (v2 : Nat) (v4 : Int32), f_X7_seek_L55 L n k101 h v0 v2 v4 = some r → E l yX7_seek cX7_seek 5 none (e_rm d 0 0) 0 0 true L (Qx none L r) L h 0 0 55 [(0, .ref v0), (2, .ref v2), (4, .int v4)] [] := by
  intro n
  induction n with
  | zero => intro h v0 v2 v4 hf; exact absurd hf (by simp [f_X7_seek_L55])
  | succ n ih =>
    intro h v0 v2 v4 hf
    unfold f_X7_seek_L55 at hf
    refine e_iload 2 dX7_seek_55 rfl ?_
    refine e_bipush (v := 36) dX7_seek_57 (by decide) ?_
    refine e_icmp_ge (t := 101) dX7_seek_59 (by decide) (fun c => ?_) (fun c => ?_)
    · replace hf := e_it c hf
      refine e_sub [0, 1] rfl ?_
      exact hk101 _ _ _ hf
    · replace hf := e_ie c hf
      refine e_aload_n 0 dX7_seek_62 rfl rfl ?_
      refine e_aload_n 0 dX7_seek_63 rfl rfl ?_
      obtain ⟨hO8, hf⟩ := e_if hf
      refine e_getI hO8 fc_7_6 lk_RX7_34 dX7_seek_64 ?_
      refine e_aload_n 0 dX7_seek_67 rfl rfl ?_
      refine e_getL hO8 fc_7_4 lk_RX7_26 dX7_seek_68 ?_
      refine e_iload 2 dX7_seek_71 rfl ?_
      refine e_callSN (st := [.int _, .ref _]) ml_RX7_61 k_X10_holds (m_X10_holds (d := d - 1) (by omega) rfl) rfl rfl (Nat.le_of_ble_eq_true rfl) ⟨by omega, by decide⟩ ⟨Nat.le_refl _, Nat.le_refl _⟩ dX7_seek_73 ?_
      refine e_if_eq (t := 88) dX7_seek_76 (by decide) (fun c => ?_) (fun c => ?_)
      · replace hf := e_it c hf
        refine e_iconst (v := 0) dX7_seek_88 (by decide) ?_
        refine e_mx ml_RX7_69 (by omega) (Nat.le_of_ble_eq_true rfl) ⟨Nat.le_refl _, Nat.le_refl _⟩ dX7_seek_89 ?_
        refine e_putI hO8 fc_7_6 rfl lk_RX7_34 dX7_seek_92 ?_
        refine e_iinc (lv' := [(4, .int _), (0, .ref _), (2, .ref _)]) 2 dX7_seek_95 rfl (by decide) rfl ?_
        refine e_goto (t := 55) dX7_seek_98 (by decide) ?_
        refine e_sub [1, 2, 0] rfl ?_
        exact ih _ _ _ _ hf
      · replace hf := e_ie c hf
        refine e_aload_n 1 dX7_seek_79 rfl rfl ?_
        refine e_iload 2 dX7_seek_80 rfl ?_
        obtain ⟨hO9, hf⟩ := e_if hf
        obtain ⟨r10, hr11, hf⟩ := e_bd hf
        refine e_callV (st := [.int _, .ref _]) ml_RX7_65 k_X6_dustAt (m_X6_dustAt (d := d - 1) (by omega) hr11) hO9 ⟨by decide, rfl⟩ rfl rfl (Nat.le_of_ble_eq_true rfl) ⟨by omega, by decide⟩ ⟨Nat.le_refl _, Nat.le_refl _⟩ dX7_seek_82 ?_
        refine e_goto (t := 89) dX7_seek_85 (by decide) ?_
        refine e_mx ml_RX7_69 (by omega) (Nat.le_of_ble_eq_true rfl) ⟨Nat.le_refl _, Nat.le_refl _⟩ dX7_seek_89 ?_
        refine e_putI hO8 fc_7_6 rfl lk_RX7_34 dX7_seek_92 ?_
        refine e_iinc (lv' := [(4, .int _), (0, .ref _), (2, .ref _)]) 2 dX7_seek_95 rfl (by decide) rfl ?_
        refine e_goto (t := 55) dX7_seek_98 (by decide) ?_
        refine e_sub [1, 2, 0] rfl ?_
        exact ih _ _ _ _ hf
def f_X7_seek (L : eL) (h : eH) (v0 : Nat) (v1 : Nat) (v2 : Nat) (v3 : Int32) : Option eH :=
  if isO L v0 7 = true then
  if isO L v1 2 = true then
  if isO L v2 6 = true then
  (some (sL (sR (sR h v0 2 (some v1)) v0 3 (some v2)) v0 4 ((gL (sR (sR h v0 2 (some v1)) v0 3 (some v2)) v1 4) &&& ((gL (sR (sR h v0 2 (some v1)) v0 3 (some v2)) v2 8) ^^^ (-1))))).bind fun h4 =>
  (some (sI (sI (sI h4 v0 5 (mnI v3 6)) v0 7 0) v0 8 0)).bind fun h6 =>
  f_X7_seek_L55 L e_fu (fun (h12 : eH) (w0_13 : Nat) (w2_14 : Nat) =>
    if isO L w2_14 6 = true then
    if isO L w0_13 7 = true then
    (f_X7_goFarther L h12 w0_13 (gI h12 w2_14 1) 0 0 (f_X10_bit (gI h12 w2_14 1))).bind fun r17 =>
    some r17
    else none
    else none) (sI h6 v0 6 0) v0 v2 0
  else none
  else none
  else none
set_option maxRecDepth 100000 in
set_option maxHeartbeats 4000000 in
theorem m_X7_seek {l : Launch} {d : Nat} {L : eL} {h : eH} {v0 : Nat} {v1 : Nat} {v2 : Nat} {v3 : Int32} {r : eH} (hd : 105 ≤ d) (hf : f_X7_seek L h v0 v1 v2 v3 = some r) : e_Met l yX7_seek cX7_seek 5 none d 0 0 true L h [.ref v0, .ref v1, .ref v2, .int v3] (Qx none L r) := by
  refine e_metl (by decide) (Nat.le_of_ble_eq_true rfl) (lv := [(0, .ref v0), (1, .ref v1), (2, .ref v2), (3, .int v3)]) rfl ?_
  unfold f_X7_seek at hf
  refine e_aload_n 0 dX7_seek_0 rfl rfl ?_
  refine e_aload_n 1 dX7_seek_1 rfl rfl ?_
  obtain ⟨hO1, hf⟩ := e_if hf
  refine e_putR hO1 fc_7_2 rfl lk_RX7_18 dX7_seek_2 ?_
  refine e_aload_n 0 dX7_seek_5 rfl rfl ?_
  refine e_aload_n 2 dX7_seek_6 rfl rfl ?_
  refine e_putR hO1 fc_7_3 rfl lk_RX7_22 dX7_seek_7 ?_
  refine e_aload_n 0 dX7_seek_10 rfl rfl ?_
  refine e_aload_n 1 dX7_seek_11 rfl rfl ?_
  obtain ⟨hO2, hf⟩ := e_if hf
  refine e_getLN hO2 fc_2_4 lk_RX7_43 dX7_seek_12 ?_
  refine e_aload_n 2 dX7_seek_15 rfl rfl ?_
  obtain ⟨hO3, hf⟩ := e_if hf
  refine e_getLN hO3 fc_6_8 lk_RX7_48 dX7_seek_16 ?_
  refine e_ldc2 kc_RX7_53 dX7_seek_19 ?_
  refine e_lxor dX7_seek_22 ?_
  refine e_land dX7_seek_23 ?_
  refine e_putL hO1 fc_7_4 rfl lk_RX7_26 dX7_seek_24 ?_
  obtain ⟨h4, hh5, hf⟩ := e_bd hf
  refine e_hn hh5 ?_
  refine e_aload_n 0 dX7_seek_27 rfl rfl ?_
  refine e_iload_n 3 dX7_seek_28 rfl rfl ?_
  refine e_bipush (v := 6) dX7_seek_29 (by decide) ?_
  refine e_mn ml_RX7_55 (by omega) (Nat.le_of_ble_eq_true rfl) ⟨Nat.le_refl _, Nat.le_refl _⟩ dX7_seek_31 ?_
  refine e_putI hO1 fc_7_5 rfl lk_RX7_30 dX7_seek_34 ?_
  refine e_aload_n 0 dX7_seek_37 rfl rfl ?_
  refine e_iconst (v := 0) dX7_seek_38 (by decide) ?_
  refine e_putI hO1 fc_7_7 rfl lk_RX7_37 dX7_seek_39 ?_
  refine e_aload_n 0 dX7_seek_42 rfl rfl ?_
  refine e_iconst (v := 0) dX7_seek_43 (by decide) ?_
  refine e_putI hO1 fc_7_8 rfl lk_RX7_40 dX7_seek_44 ?_
  obtain ⟨h6, hh7, hf⟩ := e_bd hf
  refine e_hn hh7 ?_
  refine e_aload_n 0 dX7_seek_47 rfl rfl ?_
  refine e_iconst (v := 0) dX7_seek_48 (by decide) ?_
  refine e_putI hO1 fc_7_6 rfl lk_RX7_34 dX7_seek_49 ?_
  refine e_iconst (v := 0) dX7_seek_52 (by decide) ?_
  refine e_istore (lv' := [(4, .int _), (0, .ref _), (1, .ref _), (2, .ref _), (3, .int _)]) dX7_seek_53 (by decide) rfl ?_
  refine e_sub [1, 3, 0] rfl ?_
  refine m_X7_seek_L55 hd ?_ e_fu _ _ _ _ hf
  · intro h12 w0_13 w2_14 hf
    refine e_aload_n 0 dX7_seek_101 rfl rfl ?_
    refine e_aload_n 1 dX7_seek_102 rfl rfl ?_
    obtain ⟨hO15, hf⟩ := e_if hf
    refine e_getIN hO15 fc_6_1 lk_RX7_72 dX7_seek_103 ?_
    refine e_iconst (v := 0) dX7_seek_106 (by decide) ?_
    refine e_iconst (v := 0) dX7_seek_107 (by decide) ?_
    refine e_aload_n 1 dX7_seek_108 rfl rfl ?_
    refine e_getIN hO15 fc_6_1 lk_RX7_72 dX7_seek_109 ?_
    refine e_callSN (st := [.int _, .int _, .int _, .ref _]) ml_RX7_75 k_X10_bit (m_X10_bit (d := d - 1) (by omega) rfl) rfl rfl (Nat.le_of_ble_eq_true rfl) ⟨by omega, by decide⟩ ⟨Nat.le_refl _, Nat.le_refl _⟩ dX7_seek_112 ?_
    obtain ⟨hO16, hf⟩ := e_if hf
    obtain ⟨r17, hr18, hf⟩ := e_bd hf
    refine e_callV (st := []) ml_RX7_79 k_X7_goFarther (m_X7_goFarther (d := d - 1) (by omega) hr18) hO16 ⟨by decide, rfl⟩ rfl rfl (Nat.le_of_ble_eq_true rfl) ⟨by omega, by decide⟩ ⟨Nat.le_refl _, Nat.le_refl _⟩ dX7_seek_115 ?_
    exact e_vret rfl dX7_seek_118 (qV hf)
def f_X10_best_L37 (L : eL) : Nat → (eH → Nat → Option (eH × Int32)) → eH → Nat → Int32 → Option (eH × Int32)
  | 0, _, _, _, _ => none
  | n + 1, k70, h, v0, v2 =>
    if isO L v0 10 = true then
    (gR h v0 6).bind fun b17 =>
    if isO L b17 7 = true then
    if (gI h b17 8) ≤ v2 then
      k70 h v0
    else
      (gR h v0 1).bind fun b20 =>
      (gR h v0 6).bind fun b22 =>
      if isO L b22 7 = true then
      (f_X7_foundAt L h b22 v2).bind fun r25 =>
      if isO L b20 3 = true then
      (f_X3_add L h b20 r25.toInt64).bind fun r28 =>
      f_X10_best_L37 L n k70 r28 v0 (v2 + Int32.ofInt 1)
      else none
      else none
    else none
    else none
set_option maxRecDepth 100000 in
set_option maxHeartbeats 4000000 in
theorem m_X10_best_L37 {l : Launch} {d : Nat} {L : eL}  {r : eH × Int32} {k70 : eH → Nat → Option (eH × Int32)} (hd : 106 ≤ d) (hk70 : ∀ (h : eH) (v0 : Nat), k70 h v0 = some r → E l yX10_best cX10_best 3 (some .int) (e_rm d 0 0) 0 0 true L (Qx (some (.int r.2)) L r.1) L h 0 0 70 [(0, .ref v0)] []) : ∀ (n : Nat) (h : eH) (v0 : Nat) (v2 : Int32), f_X10_best_L37 L n k70 h v0 v2 = some r → E l yX10_best cX10_best 3 (some .int) (e_rm d 0 0) 0 0 true L (Qx (some (.int r.2)) L r.1) L h 0 0 37 [(0, .ref v0), (2, .int v2)] [] := by
  intro n
  induction n with
  | zero => intro h v0 v2 hf; exact absurd hf (by simp [f_X10_best_L37])
  | succ n ih =>
    intro h v0 v2 hf
    unfold f_X10_best_L37 at hf
    refine e_iload_n 1 dX10_best_37 rfl rfl ?_
    refine e_aload_n 0 dX10_best_38 rfl rfl ?_
    obtain ⟨hO16, hf⟩ := e_if hf
    obtain ⟨b17, hb18, hf⟩ := e_bd hf
    refine e_getR hO16 fc_10_6 lk_RX10_54 dX10_best_39 hb18 ?_
    obtain ⟨hO19, hf⟩ := e_if hf
    refine e_getIN hO19 fc_7_8 lk_RX10_347 dX10_best_42 ?_
    refine e_icmp_ge (t := 70) dX10_best_45 (by decide) (fun c => ?_) (fun c => ?_)
    · replace hf := e_it c hf
      refine e_sub [0] rfl ?_
      exact hk70 _ _ hf
    · replace hf := e_ie c hf
      refine e_aload_n 0 dX10_best_48 rfl rfl ?_
      obtain ⟨b20, hb21, hf⟩ := e_bd hf
      refine e_getR hO16 fc_10_1 lk_RX10_19 dX10_best_49 hb21 ?_
      refine e_aload_n 0 dX10_best_52 rfl rfl ?_
      obtain ⟨b22, hb23, hf⟩ := e_bd hf
      refine e_getR hO16 fc_10_6 lk_RX10_54 dX10_best_53 hb23 ?_
      refine e_iload_n 1 dX10_best_56 rfl rfl ?_
      obtain ⟨hO24, hf⟩ := e_if hf
      obtain ⟨r25, hr26, hf⟩ := e_bd hf
      refine e_callV (st := [.ref _]) ml_RX10_350 k_X7_foundAt (m_X7_foundAt (d := d - 1) (by omega) hr26) hO24 ⟨by decide, rfl⟩ rfl rfl (Nat.le_of_ble_eq_true rfl) ⟨by omega, by decide⟩ ⟨Nat.le_refl _, Nat.le_refl _⟩ dX10_best_57 ?_
      refine e_i2l dX10_best_60 ?_
      obtain ⟨hO27, hf⟩ := e_if hf
      obtain ⟨r28, hr29, hf⟩ := e_bd hf
      refine e_callV (st := []) ml_RX10_269 k_X3_add (m_X3_add (d := d - 1) (by omega) hr29) hO27 ⟨by decide, rfl⟩ rfl rfl (Nat.le_of_ble_eq_true rfl) ⟨by omega, by decide⟩ ⟨Nat.le_refl _, Nat.le_refl _⟩ dX10_best_61 ?_
      refine e_iinc (lv' := [(2, .int _), (0, .ref _)]) 1 dX10_best_64 rfl (by decide) rfl ?_
      refine e_goto (t := 37) dX10_best_67 (by decide) ?_
      refine e_sub [1, 0] rfl ?_
      exact ih _ _ _ hf
def f_X10_best (L : eL) (h : eH) (v0 : Nat) (v1 : Int32) : Option (eH × Int32) :=
  if v1 < 0 then
    some (h, (-1))
  else
    if v1 ≤ 6 then
      if isO L v0 10 = true then
      (gR h v0 6).bind fun b2 =>
      (gR h v0 15).bind fun b4 =>
      (gR h v0 7).bind fun b6 =>
      if isO L b2 7 = true then
      (f_X7_seek L h b2 b4 b6 v1).bind fun r9 =>
      (gR r9 v0 1).bind fun b11 =>
      if isO L b11 3 = true then
      (f_X3_begin L r9 b11).bind fun r14 =>
      f_X10_best_L37 L e_fu (fun (h30 : eH) (w0_31 : Nat) =>
        if isO L w0_31 10 = true then
        (gR h30 w0_31 6).bind fun b33 =>
        if isO L b33 7 = true then
        some (h30, gI h30 b33 7)
        else none
        else none) r14 v0 0
      else none
      else none
      else none
    else
      some (h, (-1))
set_option maxRecDepth 100000 in
set_option maxHeartbeats 4000000 in
theorem m_X10_best {l : Launch} {d : Nat} {L : eL} {h : eH} {v0 : Nat} {v1 : Int32} {r : eH × Int32} (hd : 106 ≤ d) (hf : f_X10_best L h v0 v1 = some r) : e_Met l yX10_best cX10_best 3 (some .int) d 0 0 true L h [.ref v0, .int v1] (Qx (some (.int r.2)) L r.1) := by
  refine e_metl (by decide) (Nat.le_of_ble_eq_true rfl) (lv := [(0, .ref v0), (1, .int v1)]) rfl ?_
  unfold f_X10_best at hf
  refine e_iload_n 1 dX10_best_0 rfl rfl ?_
  refine e_if_lt (t := 10) dX10_best_1 (by decide) (fun c => ?_) (fun c => ?_)
  · replace hf := e_it c hf
    refine e_iconst (v := (-1)) dX10_best_10 (by decide) ?_
    exact e_iret rfl dX10_best_11 (qW hf)
  · replace hf := e_ie c hf
    refine e_iload_n 1 dX10_best_4 rfl rfl ?_
    refine e_bipush (v := 6) dX10_best_5 (by decide) ?_
    refine e_icmp_le (t := 12) dX10_best_7 (by decide) (fun c => ?_) (fun c => ?_)
    · replace hf := e_it c hf
      refine e_aload_n 0 dX10_best_12 rfl rfl ?_
      obtain ⟨hO1, hf⟩ := e_if hf
      obtain ⟨b2, hb3, hf⟩ := e_bd hf
      refine e_getR hO1 fc_10_6 lk_RX10_54 dX10_best_13 hb3 ?_
      refine e_aload_n 0 dX10_best_16 rfl rfl ?_
      obtain ⟨b4, hb5, hf⟩ := e_bd hf
      refine e_getR hO1 fc_10_15 lk_RX10_92 dX10_best_17 hb5 ?_
      refine e_aload_n 0 dX10_best_20 rfl rfl ?_
      obtain ⟨b6, hb7, hf⟩ := e_bd hf
      refine e_getR hO1 fc_10_7 lk_RX10_61 dX10_best_21 hb7 ?_
      refine e_iload_n 1 dX10_best_24 rfl rfl ?_
      obtain ⟨hO8, hf⟩ := e_if hf
      obtain ⟨r9, hr10, hf⟩ := e_bd hf
      refine e_callV (st := []) ml_RX10_343 k_X7_seek (m_X7_seek (d := d - 1) (by omega) hr10) hO8 ⟨by decide, rfl⟩ rfl rfl (Nat.le_of_ble_eq_true rfl) ⟨by omega, by decide⟩ ⟨Nat.le_refl _, Nat.le_refl _⟩ dX10_best_25 ?_
      refine e_aload_n 0 dX10_best_28 rfl rfl ?_
      obtain ⟨b11, hb12, hf⟩ := e_bd hf
      refine e_getR hO1 fc_10_1 lk_RX10_19 dX10_best_29 hb12 ?_
      obtain ⟨hO13, hf⟩ := e_if hf
      obtain ⟨r14, hr15, hf⟩ := e_bd hf
      refine e_callV (st := []) ml_RX10_267 k_X3_begin (m_X3_begin (d := d - 1) (by omega) hr15) hO13 ⟨by decide, rfl⟩ rfl rfl (Nat.le_of_ble_eq_true rfl) ⟨by omega, by decide⟩ ⟨Nat.le_refl _, Nat.le_refl _⟩ dX10_best_32 ?_
      refine e_iconst (v := 0) dX10_best_35 (by decide) ?_
      refine e_istore_n (lv' := [(2, .int _), (0, .ref _), (1, .int _)]) dX10_best_36 rfl (by decide) rfl ?_
      refine e_sub [1, 0] rfl ?_
      refine m_X10_best_L37 hd ?_ e_fu _ _ _ hf
      · intro h30 w0_31 hf
        refine e_aload_n 0 dX10_best_70 rfl rfl ?_
        obtain ⟨hO32, hf⟩ := e_if hf
        obtain ⟨b33, hb34, hf⟩ := e_bd hf
        refine e_getR hO32 fc_10_6 lk_RX10_54 dX10_best_71 hb34 ?_
        obtain ⟨hO35, hf⟩ := e_if hf
        refine e_getIN hO35 fc_7_7 lk_RX10_353 dX10_best_74 ?_
        exact e_iret rfl dX10_best_77 (qW hf)
    · replace hf := e_ie c hf
      refine e_iconst (v := (-1)) dX10_best_10 (by decide) ?_
      exact e_iret rfl dX10_best_11 (qW hf)
def f_X11_among_L2 (L : eL) (h : eH) : Nat → (Int32 → Option Int32) → (Option Int32) → Nat → Nat → Int32 → Option Int32
  | 0, _, _, _, _, _ => none
  | n + 1, k38, k46, v0, v1, v2 =>
    (sLen v1).bind fun r1 =>
    if r1 ≤ v2 then
      k46
    else
      if isO L v0 11 = true then
      if (gI h v0 12) ≤ (gI h v0 11) then
        k46
      else
        (sAt v1 v2).bind fun r4 =>
        (gR h v0 9).bind fun b6 =>
        if inA L b6 0 (gI h v0 11) = true then
        if r4 = (gI h b6 (gI h v0 11).toNatClampNeg) then
          k38 v2
        else
          f_X11_among_L2 L h n k38 k46 v0 v1 (v2 + Int32.ofInt 1)
        else none
      else none
set_option maxRecDepth 100000 in
set_option maxHeartbeats 4000000 in
theorem m_X11_among_L2 {l : Launch} {d : Nat} {L : eL} {h : eH} {r : Int32} {k38 : Int32 → Option Int32} {k46 : Option Int32} (hd : 7 ≤ d) (hk38 : ∀ (v2 : Int32), k38 v2 = some r → E l yX11_among cX11_among 3 (some .int) (e_rm d 0 0) 0 0 true L (Qx (some (.int r)) L h) L h 0 0 38 [(2, .int v2)] []) (hk46 : k46 = some r → E l yX11_among cX11_among 3 (some .int) (e_rm d 0 0) 0 0 true L (Qx (some (.int r)) L h) L h 0 0 46 [] []) : ∀ (n : Nat) (v0 : Nat) (v1 : Nat) (v2 : Int32), f_X11_among_L2 L h n k38 k46 v0 v1 v2 = some r → E l yX11_among cX11_among 3 (some .int) (e_rm d 0 0) 0 0 true L (Qx (some (.int r)) L h) L h 0 0 2 [(0, .ref v0), (1, .ref v1), (2, .int v2)] [] := by
  intro n
  induction n with
  | zero => intro v0 v1 v2 hf; exact absurd hf (by simp [f_X11_among_L2])
  | succ n ih =>
    intro v0 v1 v2 hf
    unfold f_X11_among_L2 at hf
    refine e_iload_n 2 dX11_among_2 rfl rfl ?_
    refine e_aload_n 1 dX11_among_3 rfl rfl ?_
    obtain ⟨r1, hr2, hf⟩ := e_bd hf
    refine e_slen' ml_RX11_148 hr2 (by omega) (Nat.le_of_ble_eq_true rfl) ⟨Nat.le_refl _, Nat.le_refl _⟩ dX11_among_4 ?_
    refine e_icmp_ge (t := 46) dX11_among_7 (by decide) (fun c => ?_) (fun c => ?_)
    · replace hf := e_it c hf
      refine e_sub [] rfl ?_
      exact hk46  hf
    · replace hf := e_ie c hf
      refine e_aload_n 0 dX11_among_10 rfl rfl ?_
      obtain ⟨hO3, hf⟩ := e_if hf
      refine e_getI hO3 fc_11_11 lk_RX11_129 dX11_among_11 ?_
      refine e_aload_n 0 dX11_among_14 rfl rfl ?_
      refine e_getI hO3 fc_11_12 lk_RX11_141 dX11_among_15 ?_
      refine e_icmp_ge (t := 46) dX11_among_18 (by decide) (fun c => ?_) (fun c => ?_)
      · replace hf := e_it c hf
        refine e_sub [] rfl ?_
        exact hk46  hf
      · replace hf := e_ie c hf
        refine e_aload_n 1 dX11_among_21 rfl rfl ?_
        refine e_iload_n 2 dX11_among_22 rfl rfl ?_
        obtain ⟨r4, hr5, hf⟩ := e_bd hf
        refine e_sat ml_RX11_153 hr5 (by omega) (Nat.le_of_ble_eq_true rfl) ⟨Nat.le_refl _, Nat.le_refl _⟩ dX11_among_23 ?_
        refine e_aload_n 0 dX11_among_26 rfl rfl ?_
        obtain ⟨b6, hb7, hf⟩ := e_bd hf
        refine e_getR hO3 fc_11_9 lk_RX11_47 dX11_among_27 hb7 ?_
        refine e_aload_n 0 dX11_among_30 rfl rfl ?_
        refine e_getI hO3 fc_11_11 lk_RX11_129 dX11_among_31 ?_
        obtain ⟨hI8, hf⟩ := e_if hf
        refine e_iald hI8 dX11_among_34 ?_
        refine e_icmp_ne (t := 40) dX11_among_35 (by decide) (fun c => ?_) (fun c => ?_)
        · replace hf := e_ie c hf
          refine e_iinc (lv' := [(2, .int _), (0, .ref _), (1, .ref _)]) 2 dX11_among_40 rfl (by decide) rfl ?_
          refine e_goto (t := 2) dX11_among_43 (by decide) ?_
          refine e_sub [1, 2, 0] rfl ?_
          exact ih _ _ _ hf
        · replace hf := e_it c hf
          refine e_sub [2] rfl ?_
          exact hk38 _ hf
def f_X11_among (L : eL) (h : eH) (v0 : Nat) (v1 : Nat) : Option Int32 :=
  f_X11_among_L2 L h e_fu (fun (w2_9 : Int32) =>
    some w2_9) (
    some (-1)) v0 v1 0
set_option maxRecDepth 100000 in
set_option maxHeartbeats 4000000 in
theorem m_X11_among {l : Launch} {d : Nat} {L : eL} {h : eH} {v0 : Nat} {v1 : Nat} {r : Int32} (hd : 7 ≤ d) (hf : f_X11_among L h v0 v1 = some r) : e_Met l yX11_among cX11_among 3 (some .int) d 0 0 true L h [.ref v0, .ref v1] (Qx (some (.int r)) L h) := by
  refine e_metl (by decide) (Nat.le_of_ble_eq_true rfl) (lv := [(0, .ref v0), (1, .ref v1)]) rfl ?_
  unfold f_X11_among at hf
  refine e_iconst (v := 0) dX11_among_0 (by decide) ?_
  refine e_istore_n (lv' := [(2, .int _), (0, .ref _), (1, .ref _)]) dX11_among_1 rfl (by decide) rfl ?_
  refine e_sub [1, 2, 0] rfl ?_
  refine m_X11_among_L2 hd ?_ ?_ e_fu _ _ _ hf
  · intro w2_9 hf
    refine e_iload_n 0 dX11_among_38 rfl rfl ?_
    exact e_iret rfl dX11_among_39 (qP hf)
  · intro  hf
    refine e_iconst (v := (-1)) dX11_among_46 (by decide) ?_
    exact e_iret rfl dX11_among_47 (qP hf)

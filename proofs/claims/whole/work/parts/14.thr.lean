def f_X10_spot (L : eL) (h : eH) (v0 : Nat) (v1 : Int32) (v2 : Int32) : Option Int32 :=
  if isO L v0 10 = true then
  (gR h v0 15).bind fun b2 =>
  if isO L b2 2 = true then
  (f_X2_has L h b2 v1).bind fun r5 =>
  if r5 = 0 then
    none
  else
    if v2 = 0 then
      (gR h v0 15).bind fun b7 =>
      if isO L b7 2 = true then
      (f_X2_kindOf L h b7 v1).bind fun r10 =>
      some r10
      else none
    else if v2 = 1 then
      (gR h v0 7).bind fun b12 =>
      if isO L b12 6 = true then
      some (f_X10_oneIf (f_X10_holds (gL h b12 8) v1))
      else none
    else if v2 = 2 then
      (gR h v0 7).bind fun b15 =>
      if isO L b15 6 = true then
      (f_X6_dustAt L h b15 v1).bind fun r18 =>
      some r18
      else none
    else if v2 = 3 then
      (gR h v0 15).bind fun b20 =>
      if isO L b20 2 = true then
      if v1 = (gI h b20 3) then
        some (f_X10_oneIf 1)
      else
        some (f_X10_oneIf 0)
      else none
    else if v2 = 4 then
      (gR h v0 7).bind fun b23 =>
      if isO L b23 6 = true then
      if v1 = (gI h b23 1) then
        some (f_X10_oneIf 1)
      else
        some (f_X10_oneIf 0)
      else none
    else if v2 = 5 then
      (f_X10_free L h v0).bind fun r26 =>
      some (f_X10_oneIf (f_X10_holds r26 v1))
    else
      none
  else none
  else none
set_option maxRecDepth 100000 in
set_option maxHeartbeats 4000000 in
theorem m_X10_spot {l : Launch} {d : Nat} {L : eL} {h : eH} {v0 : Nat} {v1 : Int32} {v2 : Int32} {r : Int32} (hd : 2 ≤ d) (hf : f_X10_spot L h v0 v1 v2 = some r) : e_Met l yX10_spot cX10_spot 3 (some .int) d 0 0 true L h [.ref v0, .int v1, .int v2] (Qx (some (.int r)) L h) := by
  refine e_metl (by decide) (Nat.le_of_ble_eq_true rfl) (lv := [(0, .ref v0), (1, .int v1), (2, .int v2)]) rfl ?_
  unfold f_X10_spot at hf
  refine e_aload_n 0 dX10_spot_0 rfl rfl ?_
  obtain ⟨hO1, hf⟩ := e_if hf
  obtain ⟨b2, hb3, hf⟩ := e_bd hf
  refine e_getR hO1 fc_10_15 lk_RX10_92 dX10_spot_1 hb3 ?_
  refine e_iload_n 1 dX10_spot_4 rfl rfl ?_
  obtain ⟨hO4, hf⟩ := e_if hf
  obtain ⟨r5, hr6, hf⟩ := e_bd hf
  refine e_callV (st := []) ml_RX10_152 k_X2_has (m_X2_has (d := d - 1) (by omega) hr6) hO4 ⟨by decide, rfl⟩ rfl rfl (Nat.le_of_ble_eq_true rfl) ⟨by omega, by decide⟩ ⟨Nat.le_refl _, Nat.le_refl _⟩ dX10_spot_5 ?_
  refine e_if_ne (t := 21) dX10_spot_8 (by decide) (fun c => ?_) (fun c => ?_)
  · replace hf := e_ie c hf
    refine e_iload_n 2 dX10_spot_21 rfl rfl ?_
    by_cases c0 : v2 = 0
    · replace hf := e_it c0 hf
      refine e_tabIn (t := 60) dX10_spot_22 (by rw [c0]; decide) (by rw [c0]; decide) (by first | (rw [c0]; done) | (rw [c0]; rfl)) (by decide) ?_
      refine e_aload_n 0 dX10_spot_60 rfl rfl ?_
      obtain ⟨b7, hb8, hf⟩ := e_bd hf
      refine e_getR hO1 fc_10_15 lk_RX10_92 dX10_spot_61 hb8 ?_
      refine e_iload_n 1 dX10_spot_64 rfl rfl ?_
      obtain ⟨hO9, hf⟩ := e_if hf
      obtain ⟨r10, hr11, hf⟩ := e_bd hf
      refine e_callV (st := []) ml_RX10_162 k_X2_kindOf (m_X2_kindOf (d := d - 1) (by omega) hr11) hO9 ⟨by decide, rfl⟩ rfl rfl (Nat.le_of_ble_eq_true rfl) ⟨by omega, by decide⟩ ⟨Nat.le_refl _, Nat.le_refl _⟩ dX10_spot_65 ?_
      exact e_iret rfl dX10_spot_68 (qP hf)
    replace hf := e_ie c0 hf
    by_cases c1 : v2 = 1
    · replace hf := e_it c1 hf
      refine e_tabIn (t := 69) dX10_spot_22 (by rw [c1]; decide) (by rw [c1]; decide) (by first | (rw [c1]; done) | (rw [c1]; rfl)) (by decide) ?_
      refine e_aload_n 0 dX10_spot_69 rfl rfl ?_
      obtain ⟨b12, hb13, hf⟩ := e_bd hf
      refine e_getR hO1 fc_10_7 lk_RX10_61 dX10_spot_70 hb13 ?_
      obtain ⟨hO14, hf⟩ := e_if hf
      refine e_getLN hO14 fc_6_8 lk_RX10_166 dX10_spot_73 ?_
      refine e_iload_n 1 dX10_spot_76 rfl rfl ?_
      refine e_callS (st := []) ml_RX10_169 k_X10_holds (m_X10_holds (d := d - 1) (by omega) rfl) rfl rfl (Nat.le_of_ble_eq_true rfl) ⟨by omega, by decide⟩ ⟨Nat.le_refl _, Nat.le_refl _⟩ dX10_spot_77 ?_
      refine e_callS (st := []) ml_RX10_173 k_X10_oneIf (m_X10_oneIf (d := d - 1) (by omega) rfl) rfl rfl (Nat.le_of_ble_eq_true rfl) ⟨by omega, by decide⟩ ⟨Nat.le_refl _, Nat.le_refl _⟩ dX10_spot_80 ?_
      exact e_iret rfl dX10_spot_83 (qP hf)
    replace hf := e_ie c1 hf
    by_cases c2 : v2 = 2
    · replace hf := e_it c2 hf
      refine e_tabIn (t := 84) dX10_spot_22 (by rw [c2]; decide) (by rw [c2]; decide) (by first | (rw [c2]; done) | (rw [c2]; rfl)) (by decide) ?_
      refine e_aload_n 0 dX10_spot_84 rfl rfl ?_
      obtain ⟨b15, hb16, hf⟩ := e_bd hf
      refine e_getR hO1 fc_10_7 lk_RX10_61 dX10_spot_85 hb16 ?_
      refine e_iload_n 1 dX10_spot_88 rfl rfl ?_
      obtain ⟨hO17, hf⟩ := e_if hf
      obtain ⟨r18, hr19, hf⟩ := e_bd hf
      refine e_callV (st := []) ml_RX10_177 k_X6_dustAt (m_X6_dustAt (d := d - 1) (by omega) hr19) hO17 ⟨by decide, rfl⟩ rfl rfl (Nat.le_of_ble_eq_true rfl) ⟨by omega, by decide⟩ ⟨Nat.le_refl _, Nat.le_refl _⟩ dX10_spot_89 ?_
      exact e_iret rfl dX10_spot_92 (qP hf)
    replace hf := e_ie c2 hf
    by_cases c3 : v2 = 3
    · replace hf := e_it c3 hf
      refine e_tabIn (t := 93) dX10_spot_22 (by rw [c3]; decide) (by rw [c3]; decide) (by first | (rw [c3]; done) | (rw [c3]; rfl)) (by decide) ?_
      refine e_iload_n 1 dX10_spot_93 rfl rfl ?_
      refine e_aload_n 0 dX10_spot_94 rfl rfl ?_
      obtain ⟨b20, hb21, hf⟩ := e_bd hf
      refine e_getR hO1 fc_10_15 lk_RX10_92 dX10_spot_95 hb21 ?_
      obtain ⟨hO22, hf⟩ := e_if hf
      refine e_getIN hO22 fc_2_3 lk_RX10_180 dX10_spot_98 ?_
      refine e_icmp_ne (t := 108) dX10_spot_101 (by decide) (fun c => ?_) (fun c => ?_)
      · replace hf := e_ie c hf
        refine e_iconst (v := 0) dX10_spot_108 (by decide) ?_
        refine e_callS (st := []) ml_RX10_173 k_X10_oneIf (m_X10_oneIf (d := d - 1) (by omega) rfl) rfl rfl (Nat.le_of_ble_eq_true rfl) ⟨by omega, by decide⟩ ⟨Nat.le_refl _, Nat.le_refl _⟩ dX10_spot_109 ?_
        exact e_iret rfl dX10_spot_112 (qP hf)
      · replace hf := e_it c hf
        refine e_iconst (v := 1) dX10_spot_104 (by decide) ?_
        refine e_goto (t := 109) dX10_spot_105 (by decide) ?_
        refine e_callS (st := []) ml_RX10_173 k_X10_oneIf (m_X10_oneIf (d := d - 1) (by omega) rfl) rfl rfl (Nat.le_of_ble_eq_true rfl) ⟨by omega, by decide⟩ ⟨Nat.le_refl _, Nat.le_refl _⟩ dX10_spot_109 ?_
        exact e_iret rfl dX10_spot_112 (qP hf)
    replace hf := e_ie c3 hf
    by_cases c4 : v2 = 4
    · replace hf := e_it c4 hf
      refine e_tabIn (t := 113) dX10_spot_22 (by rw [c4]; decide) (by rw [c4]; decide) (by first | (rw [c4]; done) | (rw [c4]; rfl)) (by decide) ?_
      refine e_iload_n 1 dX10_spot_113 rfl rfl ?_
      refine e_aload_n 0 dX10_spot_114 rfl rfl ?_
      obtain ⟨b23, hb24, hf⟩ := e_bd hf
      refine e_getR hO1 fc_10_7 lk_RX10_61 dX10_spot_115 hb24 ?_
      obtain ⟨hO25, hf⟩ := e_if hf
      refine e_getIN hO25 fc_6_1 lk_RX10_183 dX10_spot_118 ?_
      refine e_icmp_ne (t := 128) dX10_spot_121 (by decide) (fun c => ?_) (fun c => ?_)
      · replace hf := e_ie c hf
        refine e_iconst (v := 0) dX10_spot_128 (by decide) ?_
        refine e_callS (st := []) ml_RX10_173 k_X10_oneIf (m_X10_oneIf (d := d - 1) (by omega) rfl) rfl rfl (Nat.le_of_ble_eq_true rfl) ⟨by omega, by decide⟩ ⟨Nat.le_refl _, Nat.le_refl _⟩ dX10_spot_129 ?_
        exact e_iret rfl dX10_spot_132 (qP hf)
      · replace hf := e_it c hf
        refine e_iconst (v := 1) dX10_spot_124 (by decide) ?_
        refine e_goto (t := 129) dX10_spot_125 (by decide) ?_
        refine e_callS (st := []) ml_RX10_173 k_X10_oneIf (m_X10_oneIf (d := d - 1) (by omega) rfl) rfl rfl (Nat.le_of_ble_eq_true rfl) ⟨by omega, by decide⟩ ⟨Nat.le_refl _, Nat.le_refl _⟩ dX10_spot_129 ?_
        exact e_iret rfl dX10_spot_132 (qP hf)
    replace hf := e_ie c4 hf
    by_cases c5 : v2 = 5
    · replace hf := e_it c5 hf
      refine e_tabIn (t := 133) dX10_spot_22 (by rw [c5]; decide) (by rw [c5]; decide) (by first | (rw [c5]; done) | (rw [c5]; rfl)) (by decide) ?_
      refine e_aload_n 0 dX10_spot_133 rfl rfl ?_
      obtain ⟨r26, hr27, hf⟩ := e_bd hf
      refine e_callV (st := []) ml_RX10_186 k_X10_free (m_X10_free (d := d - 1) (by omega) hr27) hO1 ⟨by decide, rfl⟩ rfl rfl (Nat.le_of_ble_eq_true rfl) ⟨by omega, by decide⟩ ⟨Nat.le_refl _, Nat.le_refl _⟩ dX10_spot_134 ?_
      refine e_iload_n 1 dX10_spot_137 rfl rfl ?_
      refine e_callS (st := []) ml_RX10_169 k_X10_holds (m_X10_holds (d := d - 1) (by omega) rfl) rfl rfl (Nat.le_of_ble_eq_true rfl) ⟨by omega, by decide⟩ ⟨Nat.le_refl _, Nat.le_refl _⟩ dX10_spot_138 ?_
      refine e_callS (st := []) ml_RX10_173 k_X10_oneIf (m_X10_oneIf (d := d - 1) (by omega) rfl) rfl rfl (Nat.le_of_ble_eq_true rfl) ⟨by omega, by decide⟩ ⟨Nat.le_refl _, Nat.le_refl _⟩ dX10_spot_141 ?_
      exact e_iret rfl dX10_spot_144 (qP hf)
    replace hf := e_ie c5 hf
    refine e_tabOut (t := 145) dX10_spot_22 (e_out (fun j j1 j2 => by
        have j3 : j = 0 ∨ j = 1 ∨ j = 2 ∨ j = 3 ∨ j = 4 ∨ j = 5 := by omega
        rcases j3 with rfl | rfl | rfl | rfl | rfl | rfl <;> assumption)) (by decide) ?_
    exact absurd hf (by simp)
  · replace hf := e_it c hf
    exact absurd hf (by simp)
def f_X10_machine (L : eL) (h : eH) (v0 : Nat) (v1 : Int32) : Option (eH × Int32) :=
  if v1 = 0 then
    if isO L v0 10 = true then
    (gR h v0 7).bind fun b2 =>
    if isO L b2 6 = true then
    some (h, gI h b2 1)
    else none
    else none
  else if v1 = 1 then
    if isO L v0 10 = true then
    (gR h v0 7).bind fun b6 =>
    if isO L b6 6 = true then
    some (h, gI h b6 2)
    else none
    else none
  else if v1 = 2 then
    if isO L v0 10 = true then
    (gR h v0 7).bind fun b10 =>
    if isO L b10 6 = true then
    some (h, gI h b10 3)
    else none
    else none
  else if v1 = 3 then
    if isO L v0 10 = true then
    (gR h v0 7).bind fun b14 =>
    if isO L b14 6 = true then
    some (h, gI h b14 4)
    else none
    else none
  else if v1 = 4 then
    if isO L v0 10 = true then
    (gR h v0 7).bind fun b18 =>
    if isO L b18 6 = true then
    some (h, gI h b18 5)
    else none
    else none
  else if v1 = 5 then
    if isO L v0 10 = true then
    (gR h v0 7).bind fun b22 =>
    if isO L b22 6 = true then
    some (h, gI h b22 6)
    else none
    else none
  else if v1 = 6 then
    if isO L v0 10 = true then
    (gR h v0 17).bind fun b26 =>
    (gR h v0 7).bind fun b28 =>
    (gR h v0 15).bind fun b30 =>
    if isO L b26 4 = true then
    (f_X4_turnOf L h b26 b28 b30).bind fun r33 =>
    some (r33.1, r33.2)
    else none
    else none
  else if v1 = 7 then
    if isO L v0 10 = true then
    (gR h v0 15).bind fun b36 =>
    (gR h v0 7).bind fun b38 =>
    if isO L b38 6 = true then
    (gR h v0 7).bind fun b41 =>
    if isO L b41 6 = true then
    if isO L b36 2 = true then
    (f_X2_aheadOf L h b36 (gI h b38 1) (gI h b41 2)).bind fun r45 =>
    some (h, r45)
    else none
    else none
    else none
    else none
  else
    none
set_option maxRecDepth 100000 in
set_option maxHeartbeats 4000000 in
theorem m_X10_machine {l : Launch} {d : Nat} {L : eL} {h : eH} {v0 : Nat} {v1 : Int32} {r : eH × Int32} (hd : 4 ≤ d) (hf : f_X10_machine L h v0 v1 = some r) : e_Met l yX10_machine cX10_machine 2 (some .int) d 0 0 true L h [.ref v0, .int v1] (Qx (some (.int r.2)) L r.1) := by
  refine e_metl (by decide) (Nat.le_of_ble_eq_true rfl) (lv := [(0, .ref v0), (1, .int v1)]) rfl ?_
  unfold f_X10_machine at hf
  refine e_iload_n 1 dX10_machine_0 rfl rfl ?_
  by_cases c0 : v1 = 0
  · replace hf := e_it c0 hf
    refine e_tabIn (t := 48) dX10_machine_1 (by rw [c0]; decide) (by rw [c0]; decide) (by first | (rw [c0]; done) | (rw [c0]; rfl)) (by decide) ?_
    refine e_aload_n 0 dX10_machine_48 rfl rfl ?_
    obtain ⟨hO1, hf⟩ := e_if hf
    obtain ⟨b2, hb3, hf⟩ := e_bd hf
    refine e_getR hO1 fc_10_7 lk_RX10_61 dX10_machine_49 hb3 ?_
    obtain ⟨hO4, hf⟩ := e_if hf
    refine e_getIN hO4 fc_6_1 lk_RX10_183 dX10_machine_52 ?_
    exact e_iret rfl dX10_machine_55 (qW hf)
  replace hf := e_ie c0 hf
  by_cases c1 : v1 = 1
  · replace hf := e_it c1 hf
    refine e_tabIn (t := 56) dX10_machine_1 (by rw [c1]; decide) (by rw [c1]; decide) (by first | (rw [c1]; done) | (rw [c1]; rfl)) (by decide) ?_
    refine e_aload_n 0 dX10_machine_56 rfl rfl ?_
    obtain ⟨hO5, hf⟩ := e_if hf
    obtain ⟨b6, hb7, hf⟩ := e_bd hf
    refine e_getR hO5 fc_10_7 lk_RX10_61 dX10_machine_57 hb7 ?_
    obtain ⟨hO8, hf⟩ := e_if hf
    refine e_getIN hO8 fc_6_2 lk_RX10_192 dX10_machine_60 ?_
    exact e_iret rfl dX10_machine_63 (qW hf)
  replace hf := e_ie c1 hf
  by_cases c2 : v1 = 2
  · replace hf := e_it c2 hf
    refine e_tabIn (t := 64) dX10_machine_1 (by rw [c2]; decide) (by rw [c2]; decide) (by first | (rw [c2]; done) | (rw [c2]; rfl)) (by decide) ?_
    refine e_aload_n 0 dX10_machine_64 rfl rfl ?_
    obtain ⟨hO9, hf⟩ := e_if hf
    obtain ⟨b10, hb11, hf⟩ := e_bd hf
    refine e_getR hO9 fc_10_7 lk_RX10_61 dX10_machine_65 hb11 ?_
    obtain ⟨hO12, hf⟩ := e_if hf
    refine e_getIN hO12 fc_6_3 lk_RX10_195 dX10_machine_68 ?_
    exact e_iret rfl dX10_machine_71 (qW hf)
  replace hf := e_ie c2 hf
  by_cases c3 : v1 = 3
  · replace hf := e_it c3 hf
    refine e_tabIn (t := 72) dX10_machine_1 (by rw [c3]; decide) (by rw [c3]; decide) (by first | (rw [c3]; done) | (rw [c3]; rfl)) (by decide) ?_
    refine e_aload_n 0 dX10_machine_72 rfl rfl ?_
    obtain ⟨hO13, hf⟩ := e_if hf
    obtain ⟨b14, hb15, hf⟩ := e_bd hf
    refine e_getR hO13 fc_10_7 lk_RX10_61 dX10_machine_73 hb15 ?_
    obtain ⟨hO16, hf⟩ := e_if hf
    refine e_getIN hO16 fc_6_4 lk_RX10_198 dX10_machine_76 ?_
    exact e_iret rfl dX10_machine_79 (qW hf)
  replace hf := e_ie c3 hf
  by_cases c4 : v1 = 4
  · replace hf := e_it c4 hf
    refine e_tabIn (t := 80) dX10_machine_1 (by rw [c4]; decide) (by rw [c4]; decide) (by first | (rw [c4]; done) | (rw [c4]; rfl)) (by decide) ?_
    refine e_aload_n 0 dX10_machine_80 rfl rfl ?_
    obtain ⟨hO17, hf⟩ := e_if hf
    obtain ⟨b18, hb19, hf⟩ := e_bd hf
    refine e_getR hO17 fc_10_7 lk_RX10_61 dX10_machine_81 hb19 ?_
    obtain ⟨hO20, hf⟩ := e_if hf
    refine e_getIN hO20 fc_6_5 lk_RX10_201 dX10_machine_84 ?_
    exact e_iret rfl dX10_machine_87 (qW hf)
  replace hf := e_ie c4 hf
  by_cases c5 : v1 = 5
  · replace hf := e_it c5 hf
    refine e_tabIn (t := 88) dX10_machine_1 (by rw [c5]; decide) (by rw [c5]; decide) (by first | (rw [c5]; done) | (rw [c5]; rfl)) (by decide) ?_
    refine e_aload_n 0 dX10_machine_88 rfl rfl ?_
    obtain ⟨hO21, hf⟩ := e_if hf
    obtain ⟨b22, hb23, hf⟩ := e_bd hf
    refine e_getR hO21 fc_10_7 lk_RX10_61 dX10_machine_89 hb23 ?_
    obtain ⟨hO24, hf⟩ := e_if hf
    refine e_getIN hO24 fc_6_6 lk_RX10_204 dX10_machine_92 ?_
    exact e_iret rfl dX10_machine_95 (qW hf)
  replace hf := e_ie c5 hf
  by_cases c6 : v1 = 6
  · replace hf := e_it c6 hf
    refine e_tabIn (t := 96) dX10_machine_1 (by rw [c6]; decide) (by rw [c6]; decide) (by first | (rw [c6]; done) | (rw [c6]; rfl)) (by decide) ?_
    refine e_aload_n 0 dX10_machine_96 rfl rfl ?_
    obtain ⟨hO25, hf⟩ := e_if hf
    obtain ⟨b26, hb27, hf⟩ := e_bd hf
    refine e_getR hO25 fc_10_17 lk_RX10_102 dX10_machine_97 hb27 ?_
    refine e_aload_n 0 dX10_machine_100 rfl rfl ?_
    obtain ⟨b28, hb29, hf⟩ := e_bd hf
    refine e_getR hO25 fc_10_7 lk_RX10_61 dX10_machine_101 hb29 ?_
    refine e_aload_n 0 dX10_machine_104 rfl rfl ?_
    obtain ⟨b30, hb31, hf⟩ := e_bd hf
    refine e_getR hO25 fc_10_15 lk_RX10_92 dX10_machine_105 hb31 ?_
    obtain ⟨hO32, hf⟩ := e_if hf
    obtain ⟨r33, hr34, hf⟩ := e_bd hf
    refine e_callV (st := []) ml_RX10_207 k_X4_turnOf (m_X4_turnOf (d := d - 1) (by omega) hr34) hO32 ⟨by decide, rfl⟩ rfl rfl (Nat.le_of_ble_eq_true rfl) ⟨by omega, by decide⟩ ⟨Nat.le_refl _, Nat.le_refl _⟩ dX10_machine_108 ?_
    exact e_iret rfl dX10_machine_111 (qW hf)
  replace hf := e_ie c6 hf
  by_cases c7 : v1 = 7
  · replace hf := e_it c7 hf
    refine e_tabIn (t := 112) dX10_machine_1 (by rw [c7]; decide) (by rw [c7]; decide) (by first | (rw [c7]; done) | (rw [c7]; rfl)) (by decide) ?_
    refine e_aload_n 0 dX10_machine_112 rfl rfl ?_
    obtain ⟨hO35, hf⟩ := e_if hf
    obtain ⟨b36, hb37, hf⟩ := e_bd hf
    refine e_getR hO35 fc_10_15 lk_RX10_92 dX10_machine_113 hb37 ?_
    refine e_aload_n 0 dX10_machine_116 rfl rfl ?_
    obtain ⟨b38, hb39, hf⟩ := e_bd hf
    refine e_getR hO35 fc_10_7 lk_RX10_61 dX10_machine_117 hb39 ?_
    obtain ⟨hO40, hf⟩ := e_if hf
    refine e_getIN hO40 fc_6_1 lk_RX10_183 dX10_machine_120 ?_
    refine e_aload_n 0 dX10_machine_123 rfl rfl ?_
    obtain ⟨b41, hb42, hf⟩ := e_bd hf
    refine e_getR hO35 fc_10_7 lk_RX10_61 dX10_machine_124 hb42 ?_
    obtain ⟨hO43, hf⟩ := e_if hf
    refine e_getIN hO43 fc_6_2 lk_RX10_192 dX10_machine_127 ?_
    obtain ⟨hO44, hf⟩ := e_if hf
    obtain ⟨r45, hr46, hf⟩ := e_bd hf
    refine e_callV (st := []) ml_RX10_211 k_X2_aheadOf (m_X2_aheadOf (d := d - 1) (by omega) hr46) hO44 ⟨by decide, rfl⟩ rfl rfl (Nat.le_of_ble_eq_true rfl) ⟨by omega, by decide⟩ ⟨Nat.le_refl _, Nat.le_refl _⟩ dX10_machine_130 ?_
    exact e_iret rfl dX10_machine_133 (qW hf)
  replace hf := e_ie c7 hf
  refine e_tabOut (t := 134) dX10_machine_1 (e_out (fun j j1 j2 => by
      have j3 : j = 0 ∨ j = 1 ∨ j = 2 ∨ j = 3 ∨ j = 4 ∨ j = 5 ∨ j = 6 ∨ j = 7 := by omega
      rcases j3 with rfl | rfl | rfl | rfl | rfl | rfl | rfl | rfl <;> assumption)) (by decide) ?_
  exact absurd hf (by simp)
def f_X10_row (L : eL) (h : eH) (v0 : Nat) (v1 : Int32) : Option Int64 :=
  if v1 < 0 then
    none
  else
    if isO L v0 10 = true then
    (gR h v0 1).bind fun b2 =>
    if isO L b2 3 = true then
    (f_X3_size L h b2).bind fun r5 =>
    if v1 < r5 then
      (gR h v0 1).bind fun b7 =>
      if isO L b7 3 = true then
      (f_X3_at L h b7 v1).bind fun r10 =>
      some r10
      else none
    else
      none
    else none
    else none
set_option maxRecDepth 100000 in
set_option maxHeartbeats 4000000 in
theorem m_X10_row {l : Launch} {d : Nat} {L : eL} {h : eH} {v0 : Nat} {v1 : Int32} {r : Int64} (hd : 2 ≤ d) (hf : f_X10_row L h v0 v1 = some r) : e_Met l yX10_row cX10_row 2 (some .long) d 0 0 true L h [.ref v0, .int v1] (Qx (some (.long r)) L h) := by
  refine e_metl (by decide) (Nat.le_of_ble_eq_true rfl) (lv := [(0, .ref v0), (1, .int v1)]) rfl ?_
  unfold f_X10_row at hf
  refine e_iload_n 1 dX10_row_0 rfl rfl ?_
  refine e_if_lt (t := 15) dX10_row_1 (by decide) (fun c => ?_) (fun c => ?_)
  · replace hf := e_it c hf
    exact absurd hf (by simp)
  · replace hf := e_ie c hf
    refine e_iload_n 1 dX10_row_4 rfl rfl ?_
    refine e_aload_n 0 dX10_row_5 rfl rfl ?_
    obtain ⟨hO1, hf⟩ := e_if hf
    obtain ⟨b2, hb3, hf⟩ := e_bd hf
    refine e_getR hO1 fc_10_1 lk_RX10_19 dX10_row_6 hb3 ?_
    obtain ⟨hO4, hf⟩ := e_if hf
    obtain ⟨r5, hr6, hf⟩ := e_bd hf
    refine e_callV (st := [.int _]) ml_RX10_452 k_X3_size (m_X3_size (d := d - 1) (by omega) hr6) hO4 ⟨by decide, rfl⟩ rfl rfl (Nat.le_of_ble_eq_true rfl) ⟨by omega, by decide⟩ ⟨Nat.le_refl _, Nat.le_refl _⟩ dX10_row_9 ?_
    refine e_icmp_lt (t := 26) dX10_row_12 (by decide) (fun c => ?_) (fun c => ?_)
    · replace hf := e_it c hf
      refine e_aload_n 0 dX10_row_26 rfl rfl ?_
      obtain ⟨b7, hb8, hf⟩ := e_bd hf
      refine e_getR hO1 fc_10_1 lk_RX10_19 dX10_row_27 hb8 ?_
      refine e_iload_n 1 dX10_row_30 rfl rfl ?_
      obtain ⟨hO9, hf⟩ := e_if hf
      obtain ⟨r10, hr11, hf⟩ := e_bd hf
      refine e_callV (st := []) ml_RX10_455 k_X3_at (m_X3_at (d := d - 1) (by omega) hr11) hO9 ⟨by decide, rfl⟩ rfl rfl (Nat.le_of_ble_eq_true rfl) ⟨by omega, by decide⟩ ⟨Nat.le_refl _, Nat.le_refl _⟩ dX10_row_31 ?_
      exact e_lret rfl dX10_row_34 (qPL hf)
    · replace hf := e_ie c hf
      exact absurd hf (by simp)

def f_X11_doors_L27 (L : eL) : Nat → (eH → Nat → Int64 → Option (eH × Int32)) → eH → Nat → Int64 → Int32 → Option (eH × Int32)
  | 0, _, _, _, _, _ => none
  | n + 1, k90, h, v0, v1, v3 =>
    if isO L v0 11 = true then
    (f_X11_spots L h v0).bind fun r5 =>
    if r5 ≤ v3 then
      k90 h v0 v1
    else
      if v3 = (gI h v0 5) then
        f_X11_doors_L27 L n k90 h v0 (v1 ||| 0) (v3 + Int32.ofInt 1)
      else
        (gR h v0 7).bind fun b7 =>
        if inA L b7 0 72 = true then
        if v3 = (gI h b7 (72 : Int32).toNatClampNeg) then
          f_X11_doors_L27 L n k90 h v0 (v1 ||| 0) (v3 + Int32.ofInt 1)
        else
          (gR h v0 7).bind fun b10 =>
          (f_X11_isFree L h v0 b10 v3).bind fun r12 =>
          if r12 = 0 then
            f_X11_doors_L27 L n k90 h v0 (v1 ||| 0) (v3 + Int32.ofInt 1)
          else
            (f_X11_canMeet L h v0 v3).bind fun r14 =>
            if r14 = 0 then
              f_X11_doors_L27 L n k90 h v0 (v1 ||| ((1 : Int64) <<< (v3.toInt64 &&& 63))) (v3 + Int32.ofInt 1)
            else
              f_X11_doors_L27 L n k90 h v0 (v1 ||| 0) (v3 + Int32.ofInt 1)
        else none
    else none
set_option maxRecDepth 100000 in
set_option maxHeartbeats 4000000 in
theorem m_X11_doors_L27 {l : Launch} {d : Nat} {L : eL}  {r : eH × Int32} {k90 : eH → Nat → Int64 → Option (eH × Int32)} (hd : 5 ≤ d) (hk90 : ∀ (h : eH) (v0 : Nat) (v1 : Int64), k90 h v0 v1 = some r → E l yX11_doors cX11_doors 4 (some .int) (e_rm d 0 0) 0 0 true L (Qx (some (.int r.2)) L r.1) L h 0 0 90 [(0, .ref v0), (1, .long v1)] []) : ∀ (n : Nat) (h : eH) (v0 : Nat) (v1 : Int64) (v3 : Int32), f_X11_doors_L27 L n k90 h v0 v1 v3 = some r → E l yX11_doors cX11_doors 4 (some .int) (e_rm d 0 0) 0 0 true L (Qx (some (.int r.2)) L r.1) L h 0 0 27 [(0, .ref v0), (1, .long v1), (3, .int v3)] [] := by
  intro n
  induction n with
  | zero => intro h v0 v1 v3 hf; exact absurd hf (by simp [f_X11_doors_L27])
  | succ n ih =>
    intro h v0 v1 v3 hf
    unfold f_X11_doors_L27 at hf
    refine e_iload_n 2 dX11_doors_27 rfl rfl ?_
    refine e_aload_n 0 dX11_doors_28 rfl rfl ?_
    obtain ⟨hO4, hf⟩ := e_if hf
    obtain ⟨r5, hr6, hf⟩ := e_bd hf
    refine e_callV (st := [.int _]) ml_RX11_114 k_X11_spots (m_X11_spots (d := d - 1) (by omega) hr6) hO4 ⟨by decide, rfl⟩ rfl rfl (Nat.le_of_ble_eq_true rfl) ⟨by omega, by decide⟩ ⟨Nat.le_refl _, Nat.le_refl _⟩ dX11_doors_29 ?_
    refine e_icmp_ge (t := 90) dX11_doors_32 (by decide) (fun c => ?_) (fun c => ?_)
    · replace hf := e_it c hf
      refine e_sub [0, 1] rfl ?_
      exact hk90 _ _ _ hf
    · replace hf := e_ie c hf
      refine e_lload_n 1 dX11_doors_35 rfl rfl ?_
      refine e_iload_n 2 dX11_doors_36 rfl rfl ?_
      refine e_aload_n 0 dX11_doors_37 rfl rfl ?_
      refine e_getI hO4 fc_11_5 lk_RX11_34 dX11_doors_38 ?_
      refine e_icmp_eq (t := 81) dX11_doors_41 (by decide) (fun c => ?_) (fun c => ?_)
      · replace hf := e_it c hf
        refine e_lconst (v := 0) dX11_doors_81 (by decide) ?_
        refine e_lor dX11_doors_82 ?_
        refine e_lstore_n (lv' := [(1, .long _), (0, .ref _), (3, .int _)]) dX11_doors_83 rfl (by decide) rfl ?_
        refine e_iinc (lv' := [(3, .int _), (1, .long _), (0, .ref _)]) 2 dX11_doors_84 rfl (by decide) rfl ?_
        refine e_goto (t := 27) dX11_doors_87 (by decide) ?_
        refine e_sub [2, 1, 0] rfl ?_
        exact ih _ _ _ _ hf
      · replace hf := e_ie c hf
        refine e_iload_n 2 dX11_doors_44 rfl rfl ?_
        refine e_aload_n 0 dX11_doors_45 rfl rfl ?_
        obtain ⟨b7, hb8, hf⟩ := e_bd hf
        refine e_getR hO4 fc_11_7 lk_RX11_41 dX11_doors_46 hb8 ?_
        refine e_bipush (v := 72) dX11_doors_49 (by decide) ?_
        obtain ⟨hI9, hf⟩ := e_if hf
        refine e_iald hI9 dX11_doors_51 ?_
        refine e_icmp_eq (t := 81) dX11_doors_52 (by decide) (fun c => ?_) (fun c => ?_)
        · replace hf := e_it c hf
          refine e_lconst (v := 0) dX11_doors_81 (by decide) ?_
          refine e_lor dX11_doors_82 ?_
          refine e_lstore_n (lv' := [(1, .long _), (0, .ref _), (3, .int _)]) dX11_doors_83 rfl (by decide) rfl ?_
          refine e_iinc (lv' := [(3, .int _), (1, .long _), (0, .ref _)]) 2 dX11_doors_84 rfl (by decide) rfl ?_
          refine e_goto (t := 27) dX11_doors_87 (by decide) ?_
          refine e_sub [2, 1, 0] rfl ?_
          exact ih _ _ _ _ hf
        · replace hf := e_ie c hf
          refine e_aload_n 0 dX11_doors_55 rfl rfl ?_
          refine e_aload_n 0 dX11_doors_56 rfl rfl ?_
          obtain ⟨b10, hb11, hf⟩ := e_bd hf
          refine e_getR hO4 fc_11_7 lk_RX11_41 dX11_doors_57 hb11 ?_
          refine e_iload_n 2 dX11_doors_60 rfl rfl ?_
          obtain ⟨r12, hr13, hf⟩ := e_bd hf
          refine e_callV (st := [.long _]) ml_RX11_241 k_X11_isFree (m_X11_isFree (d := d - 1) (by omega) hr13) hO4 ⟨by decide, rfl⟩ rfl rfl (Nat.le_of_ble_eq_true rfl) ⟨by omega, by decide⟩ ⟨Nat.le_refl _, Nat.le_refl _⟩ dX11_doors_61 ?_
          refine e_if_eq (t := 81) dX11_doors_64 (by decide) (fun c => ?_) (fun c => ?_)
          · replace hf := e_it c hf
            refine e_lconst (v := 0) dX11_doors_81 (by decide) ?_
            refine e_lor dX11_doors_82 ?_
            refine e_lstore_n (lv' := [(1, .long _), (0, .ref _), (3, .int _)]) dX11_doors_83 rfl (by decide) rfl ?_
            refine e_iinc (lv' := [(3, .int _), (1, .long _), (0, .ref _)]) 2 dX11_doors_84 rfl (by decide) rfl ?_
            refine e_goto (t := 27) dX11_doors_87 (by decide) ?_
            refine e_sub [2, 1, 0] rfl ?_
            exact ih _ _ _ _ hf
          · replace hf := e_ie c hf
            refine e_aload_n 0 dX11_doors_67 rfl rfl ?_
            refine e_iload_n 2 dX11_doors_68 rfl rfl ?_
            obtain ⟨r14, hr15, hf⟩ := e_bd hf
            refine e_callV (st := [.long _]) ml_RX11_344 k_X11_canMeet (m_X11_canMeet (d := d - 1) (by omega) hr15) hO4 ⟨by decide, rfl⟩ rfl rfl (Nat.le_of_ble_eq_true rfl) ⟨by omega, by decide⟩ ⟨Nat.le_refl _, Nat.le_refl _⟩ dX11_doors_69 ?_
            refine e_if_ne (t := 81) dX11_doors_72 (by decide) (fun c => ?_) (fun c => ?_)
            · replace hf := e_ie c hf
              refine e_lconst (v := 0) dX11_doors_81 (by decide) ?_
              refine e_lor dX11_doors_82 ?_
              refine e_lstore_n (lv' := [(1, .long _), (0, .ref _), (3, .int _)]) dX11_doors_83 rfl (by decide) rfl ?_
              refine e_iinc (lv' := [(3, .int _), (1, .long _), (0, .ref _)]) 2 dX11_doors_84 rfl (by decide) rfl ?_
              refine e_goto (t := 27) dX11_doors_87 (by decide) ?_
              refine e_sub [2, 1, 0] rfl ?_
              exact ih _ _ _ _ hf
            · replace hf := e_it c hf
              refine e_lconst (v := 1) dX11_doors_75 (by decide) ?_
              refine e_iload_n 2 dX11_doors_76 rfl rfl ?_
              refine e_lshl dX11_doors_77 ?_
              refine e_goto (t := 82) dX11_doors_78 (by decide) ?_
              refine e_lor dX11_doors_82 ?_
              refine e_lstore_n (lv' := [(1, .long _), (0, .ref _), (3, .int _)]) dX11_doors_83 rfl (by decide) rfl ?_
              refine e_iinc (lv' := [(3, .int _), (1, .long _), (0, .ref _)]) 2 dX11_doors_84 rfl (by decide) rfl ?_
              refine e_goto (t := 27) dX11_doors_87 (by decide) ?_
              refine e_sub [2, 1, 0] rfl ?_
              exact ih _ _ _ _ hf
def f_X11_doors (L : eL) (h : eH) (v0 : Nat) : Option (eH × Int32) :=
  if isO L v0 11 = true then
  if (gI (sI h v0 0 0) v0 5) < 0 then
    some (sI h v0 0 0, (-2))
  else
    (f_X11_canMeet L (sI h v0 0 0) v0 (-1)).bind fun r2 =>
    if r2 = 0 then
      some (sI h v0 0 0, (-2))
    else
      f_X11_doors_L27 L e_fu (fun (h16 : eH) (w0_17 : Nat) (w1_18 : Int64) =>
        if isO L w0_17 11 = true then
        (f_X11_enters L (sI h16 w0_17 1 0) w0_17 w1_18).bind fun r20 =>
        some (r20, f_J13_bitCount_95d88 w1_18)
        else none) (sI h v0 0 0) v0 0 0
  else none
set_option maxRecDepth 100000 in
set_option maxHeartbeats 4000000 in
theorem m_X11_doors {l : Launch} {d : Nat} {L : eL} {h : eH} {v0 : Nat} {r : eH × Int32} (hd : 5 ≤ d) (hf : f_X11_doors L h v0 = some r) : e_Met l yX11_doors cX11_doors 4 (some .int) d 0 0 true L h [.ref v0] (Qx (some (.int r.2)) L r.1) := by
  refine e_metl (by decide) (Nat.le_of_ble_eq_true rfl) (lv := [(0, .ref v0)]) rfl ?_
  unfold f_X11_doors at hf
  refine e_aload_n 0 dX11_doors_0 rfl rfl ?_
  refine e_iconst (v := 0) dX11_doors_1 (by decide) ?_
  obtain ⟨hO1, hf⟩ := e_if hf
  refine e_putI hO1 fc_11_0 rfl lk_RX11_3 dX11_doors_2 ?_
  refine e_aload_n 0 dX11_doors_5 rfl rfl ?_
  refine e_getI hO1 fc_11_5 lk_RX11_34 dX11_doors_6 ?_
  refine e_if_lt (t := 20) dX11_doors_9 (by decide) (fun c => ?_) (fun c => ?_)
  · replace hf := e_it c hf
    refine e_bipush (v := (-2)) dX11_doors_20 (by decide) ?_
    exact e_iret rfl dX11_doors_22 (qW hf)
  · replace hf := e_ie c hf
    refine e_aload_n 0 dX11_doors_12 rfl rfl ?_
    refine e_iconst (v := (-1)) dX11_doors_13 (by decide) ?_
    obtain ⟨r2, hr3, hf⟩ := e_bd hf
    refine e_callV (st := []) ml_RX11_344 k_X11_canMeet (m_X11_canMeet (d := d - 1) (by omega) hr3) hO1 ⟨by decide, rfl⟩ rfl rfl (Nat.le_of_ble_eq_true rfl) ⟨by omega, by decide⟩ ⟨Nat.le_refl _, Nat.le_refl _⟩ dX11_doors_14 ?_
    refine e_if_ne (t := 23) dX11_doors_17 (by decide) (fun c => ?_) (fun c => ?_)
    · replace hf := e_ie c hf
      refine e_lconst (v := 0) dX11_doors_23 (by decide) ?_
      refine e_lstore_n (lv' := [(1, .long _), (0, .ref _)]) dX11_doors_24 rfl (by decide) rfl ?_
      refine e_iconst (v := 0) dX11_doors_25 (by decide) ?_
      refine e_istore_n (lv' := [(3, .int _), (1, .long _), (0, .ref _)]) dX11_doors_26 rfl (by decide) rfl ?_
      refine e_sub [2, 1, 0] rfl ?_
      refine m_X11_doors_L27 hd ?_ e_fu _ _ _ _ hf
      · intro h16 w0_17 w1_18 hf
        refine e_aload_n 0 dX11_doors_90 rfl rfl ?_
        refine e_iconst (v := 0) dX11_doors_91 (by decide) ?_
        obtain ⟨hO19, hf⟩ := e_if hf
        refine e_putI hO19 fc_11_1 rfl lk_RX11_15 dX11_doors_92 ?_
        refine e_aload_n 0 dX11_doors_95 rfl rfl ?_
        refine e_lload_n 1 dX11_doors_96 rfl rfl ?_
        obtain ⟨r20, hr21, hf⟩ := e_bd hf
        refine e_callV (st := []) ml_RX11_18 k_X11_enters (m_X11_enters (d := d - 1) (by omega) hr21) hO19 ⟨by decide, rfl⟩ rfl rfl (Nat.le_of_ble_eq_true rfl) ⟨by omega, by decide⟩ ⟨Nat.le_refl _, Nat.le_refl _⟩ dX11_doors_97 ?_
        refine e_lload_n 1 dX11_doors_100 rfl rfl ?_
        refine e_callS (st := []) ml_RX11_320 k_J13_bitCount_95d88 (m_J13_bitCount_95d88 (d := d - 1) (by omega) rfl) rfl rfl (Nat.le_of_ble_eq_true rfl) ⟨by omega, by decide⟩ ⟨Nat.le_refl _, Nat.le_refl _⟩ dX11_doors_101 ?_
        exact e_iret rfl dX11_doors_104 (qW hf)
    · replace hf := e_it c hf
      refine e_bipush (v := (-2)) dX11_doors_20 (by decide) ?_
      exact e_iret rfl dX11_doors_22 (qW hf)
def f_X11_chairs_L37 (L : eL) : Nat → (eH → Nat → Int32 → Int32 → Option (eH × Int32)) → eH → Nat → Int32 → Int32 → Int32 → Int32 → Option (eH × Int32)
  | 0, _, _, _, _, _, _, _ => none
  | n + 1, k131, h, v0, v1, v2, v3, v4 =>
    if isO L v0 11 = true then
    (f_X11_spots L h v0).bind fun r12 =>
    if r12 ≤ v4 then
      k131 h v0 v2 v3
    else
      (gR h v0 7).bind fun b14 =>
      if inA L b14 0 (36 + v4) = true then
      if (gI h b14 (36 + v4).toNatClampNeg) = 1 then
        (gR h v0 8).bind fun b17 =>
        if inA L b17 0 (36 + v4) = true then
        (gR (sI h b17 (36 + v4).toNatClampNeg 0) v0 8).bind fun b20 =>
        (gR (sI h b17 (36 + v4).toNatClampNeg 0) v0 7).bind fun b22 =>
        if inA L b22 0 72 = true then
        (f_X11_reachedFrom L (sI h b17 (36 + v4).toNatClampNeg 0) v0 b20 (gI (sI h b17 (36 + v4).toNatClampNeg 0) b22 (72 : Int32).toNatClampNeg) (-1)).bind fun r25 =>
        (gR (sI h b17 (36 + v4).toNatClampNeg 0) v0 8).bind fun b27 =>
        if inA L b27 0 (36 + v4) = true then
        (some (sI (sI h b17 (36 + v4).toNatClampNeg 0) b27 (36 + v4).toNatClampNeg 1)).bind fun h30 =>
        if ((f_J13_bitCount_95d88 r25) - v1) ≤ v3 then
          f_X11_chairs_L37 L n k131 h30 v0 v1 v2 (mxI v3 ((f_J13_bitCount_95d88 r25) - v1)) (v4 + Int32.ofInt 1)
        else
          f_X11_chairs_L37 L n k131 h30 v0 v1 v4 (mxI v3 ((f_J13_bitCount_95d88 r25) - v1)) (v4 + Int32.ofInt 1)
        else none
        else none
        else none
      else
        f_X11_chairs_L37 L n k131 h v0 v1 v2 v3 (v4 + Int32.ofInt 1)
      else none
    else none
set_option maxRecDepth 100000 in
set_option maxHeartbeats 4000000 in
theorem m_X11_chairs_L37 {l : Launch} {d : Nat} {L : eL}  {r : eH × Int32} {k131 : eH → Nat → Int32 → Int32 → Option (eH × Int32)} (hd : 5 ≤ d) (hk131 : ∀ (h : eH) (v0 : Nat) (v2 : Int32) (v3 : Int32), k131 h v0 v2 v3 = some r → E l yX11_chairs cX11_chairs 6 (some .int) (e_rm d 0 0) 0 0 true L (Qx (some (.int r.2)) L r.1) L h 0 0 131 [(0, .ref v0), (2, .int v2), (3, .int v3)] []) : ∀ (n : Nat) (h : eH) (v0 : Nat) (v1 : Int32) (v2 : Int32) (v3 : Int32) (v4 : Int32), f_X11_chairs_L37 L n k131 h v0 v1 v2 v3 v4 = some r → E l yX11_chairs cX11_chairs 6 (some .int) (e_rm d 0 0) 0 0 true L (Qx (some (.int r.2)) L r.1) L h 0 0 37 [(0, .ref v0), (1, .int v1), (2, .int v2), (3, .int v3), (4, .int v4)] [] := by
  intro n
  induction n with
  | zero => intro h v0 v1 v2 v3 v4 hf; exact absurd hf (by simp [f_X11_chairs_L37])
  | succ n ih =>
    intro h v0 v1 v2 v3 v4 hf
    unfold f_X11_chairs_L37 at hf
    refine e_iload 4 dX11_chairs_37 rfl ?_
    refine e_aload_n 0 dX11_chairs_39 rfl rfl ?_
    obtain ⟨hO11, hf⟩ := e_if hf
    obtain ⟨r12, hr13, hf⟩ := e_bd hf
    refine e_callV (st := [.int _]) ml_RX11_114 k_X11_spots (m_X11_spots (d := d - 1) (by omega) hr13) hO11 ⟨by decide, rfl⟩ rfl rfl (Nat.le_of_ble_eq_true rfl) ⟨by omega, by decide⟩ ⟨Nat.le_refl _, Nat.le_refl _⟩ dX11_chairs_40 ?_
    refine e_icmp_ge (t := 131) dX11_chairs_43 (by decide) (fun c => ?_) (fun c => ?_)
    · replace hf := e_it c hf
      refine e_sub [0, 2, 3] rfl ?_
      exact hk131 _ _ _ _ hf
    · replace hf := e_ie c hf
      refine e_aload_n 0 dX11_chairs_46 rfl rfl ?_
      obtain ⟨b14, hb15, hf⟩ := e_bd hf
      refine e_getR hO11 fc_11_7 lk_RX11_41 dX11_chairs_47 hb15 ?_
      refine e_bipush (v := 36) dX11_chairs_50 (by decide) ?_
      refine e_iload 4 dX11_chairs_52 rfl ?_
      refine e_iadd dX11_chairs_54 ?_
      obtain ⟨hI16, hf⟩ := e_if hf
      refine e_iald hI16 dX11_chairs_55 ?_
      refine e_iconst (v := 1) dX11_chairs_56 (by decide) ?_
      refine e_icmp_ne (t := 125) dX11_chairs_57 (by decide) (fun c => ?_) (fun c => ?_)
      · replace hf := e_ie c hf
        refine e_iinc (lv' := [(4, .int _), (0, .ref _), (1, .int _), (2, .int _), (3, .int _)]) 4 dX11_chairs_125 rfl (by decide) rfl ?_
        refine e_goto (t := 37) dX11_chairs_128 (by decide) ?_
        refine e_sub [1, 2, 3, 4, 0] rfl ?_
        exact ih _ _ _ _ _ _ hf
      · replace hf := e_it c hf
        refine e_aload_n 0 dX11_chairs_60 rfl rfl ?_
        obtain ⟨b17, hb18, hf⟩ := e_bd hf
        refine e_getR hO11 fc_11_8 lk_RX11_44 dX11_chairs_61 hb18 ?_
        refine e_bipush (v := 36) dX11_chairs_64 (by decide) ?_
        refine e_iload 4 dX11_chairs_66 rfl ?_
        refine e_iadd dX11_chairs_68 ?_
        refine e_iconst (v := 0) dX11_chairs_69 (by decide) ?_
        obtain ⟨hI19, hf⟩ := e_if hf
        refine e_iast hI19 dX11_chairs_70 ?_
        refine e_aload_n 0 dX11_chairs_71 rfl rfl ?_
        refine e_aload_n 0 dX11_chairs_72 rfl rfl ?_
        obtain ⟨b20, hb21, hf⟩ := e_bd hf
        refine e_getR hO11 fc_11_8 lk_RX11_44 dX11_chairs_73 hb21 ?_
        refine e_aload_n 0 dX11_chairs_76 rfl rfl ?_
        obtain ⟨b22, hb23, hf⟩ := e_bd hf
        refine e_getR hO11 fc_11_7 lk_RX11_41 dX11_chairs_77 hb23 ?_
        refine e_bipush (v := 72) dX11_chairs_80 (by decide) ?_
        obtain ⟨hI24, hf⟩ := e_if hf
        refine e_iald hI24 dX11_chairs_82 ?_
        refine e_iconst (v := (-1)) dX11_chairs_83 (by decide) ?_
        obtain ⟨r25, hr26, hf⟩ := e_bd hf
        refine e_callV (st := []) ml_RX11_332 k_X11_reachedFrom (m_X11_reachedFrom (d := d - 1) (by omega) hr26) hO11 ⟨by decide, rfl⟩ rfl rfl (Nat.le_of_ble_eq_true rfl) ⟨by omega, by decide⟩ ⟨Nat.le_refl _, Nat.le_refl _⟩ dX11_chairs_84 ?_
        refine e_callS (st := []) ml_RX11_320 k_J13_bitCount_95d88 (m_J13_bitCount_95d88 (d := d - 1) (by omega) rfl) rfl rfl (Nat.le_of_ble_eq_true rfl) ⟨by omega, by decide⟩ ⟨Nat.le_refl _, Nat.le_refl _⟩ dX11_chairs_87 ?_
        refine e_iload_n 1 dX11_chairs_90 rfl rfl ?_
        refine e_isub dX11_chairs_91 ?_
        refine e_istore (lv' := [(5, .int _), (0, .ref _), (1, .int _), (2, .int _), (3, .int _), (4, .int _)]) dX11_chairs_92 (by decide) rfl ?_
        refine e_aload_n 1 dX11_chairs_94 rfl rfl ?_
        obtain ⟨b27, hb28, hf⟩ := e_bd hf
        refine e_getR hO11 fc_11_8 lk_RX11_44 dX11_chairs_95 hb28 ?_
        refine e_bipush (v := 36) dX11_chairs_98 (by decide) ?_
        refine e_iload 5 dX11_chairs_100 rfl ?_
        refine e_iadd dX11_chairs_102 ?_
        refine e_iconst (v := 1) dX11_chairs_103 (by decide) ?_
        obtain ⟨hI29, hf⟩ := e_if hf
        refine e_iast hI29 dX11_chairs_104 ?_
        obtain ⟨h30, hh31, hf⟩ := e_bd hf
        refine e_hn hh31 ?_
        refine e_iload 0 dX11_chairs_105 rfl ?_
        refine e_iload_n 4 dX11_chairs_107 rfl rfl ?_
        refine e_icmp_le (t := 116) dX11_chairs_108 (by decide) (fun c => ?_) (fun c => ?_)
        · replace hf := e_it c hf
          refine e_iload_n 3 dX11_chairs_116 rfl rfl ?_
          refine e_istore_n (lv' := [(2, .int _), (5, .int _), (0, .ref _), (1, .int _), (3, .int _), (4, .int _)]) dX11_chairs_117 rfl (by decide) rfl ?_
          refine e_iload_n 4 dX11_chairs_118 rfl rfl ?_
          refine e_iload 1 dX11_chairs_119 rfl ?_
          refine e_mx ml_RX11_256 (by omega) (Nat.le_of_ble_eq_true rfl) ⟨Nat.le_refl _, Nat.le_refl _⟩ dX11_chairs_121 ?_
          refine e_istore_n (lv' := [(3, .int _), (2, .int _), (5, .int _), (0, .ref _), (1, .int _), (4, .int _)]) dX11_chairs_124 rfl (by decide) rfl ?_
          refine e_iinc (lv' := [(4, .int _), (3, .int _), (2, .int _), (5, .int _), (0, .ref _), (1, .int _)]) 5 dX11_chairs_125 rfl (by decide) rfl ?_
          refine e_goto (t := 37) dX11_chairs_128 (by decide) ?_
          refine e_sub [4, 5, 2, 1, 0] rfl ?_
          exact ih _ _ _ _ _ _ hf
        · replace hf := e_ie c hf
          refine e_iload 5 dX11_chairs_111 rfl ?_
          refine e_goto (t := 117) dX11_chairs_113 (by decide) ?_
          refine e_istore_n (lv' := [(2, .int _), (5, .int _), (0, .ref _), (1, .int _), (3, .int _), (4, .int _)]) dX11_chairs_117 rfl (by decide) rfl ?_
          refine e_iload_n 4 dX11_chairs_118 rfl rfl ?_
          refine e_iload 1 dX11_chairs_119 rfl ?_
          refine e_mx ml_RX11_256 (by omega) (Nat.le_of_ble_eq_true rfl) ⟨Nat.le_refl _, Nat.le_refl _⟩ dX11_chairs_121 ?_
          refine e_istore_n (lv' := [(3, .int _), (2, .int _), (5, .int _), (0, .ref _), (1, .int _), (4, .int _)]) dX11_chairs_124 rfl (by decide) rfl ?_
          refine e_iinc (lv' := [(4, .int _), (3, .int _), (2, .int _), (5, .int _), (0, .ref _), (1, .int _)]) 5 dX11_chairs_125 rfl (by decide) rfl ?_
          refine e_goto (t := 37) dX11_chairs_128 (by decide) ?_
          refine e_sub [4, 5, 2, 1, 0] rfl ?_
          exact ih _ _ _ _ _ _ hf
def f_X11_chairs (L : eL) (h : eH) (v0 : Nat) : Option (eH × Int32) :=
  if isO L v0 11 = true then
  (gR (sI h v0 0 0) v0 7).bind fun b2 =>
  (gR (sI h v0 0 0) v0 7).bind fun b4 =>
  if inA L b4 0 72 = true then
  (f_X11_reachedFrom L (sI h v0 0 0) v0 b2 (gI (sI h v0 0 0) b4 (72 : Int32).toNatClampNeg) (-1)).bind fun r7 =>
  (f_X11_puts L (sI h v0 0 0) v0).bind fun r9 =>
  f_X11_chairs_L37 L e_fu (fun (h32 : eH) (w0_33 : Nat) (w2_34 : Int32) (w3_35 : Int32) =>
    if w2_34 < 0 then
      some (h32, w2_34)
    else
      if isO L w0_33 11 = true then
      (f_X11_enters L (sI h32 w0_33 1 0) w0_33 w3_35.toInt64).bind fun r37 =>
      some (r37, w2_34)
      else none) r9 v0 (f_J13_bitCount_95d88 r7) (-2) (-1) 0
  else none
  else none
set_option maxRecDepth 100000 in
set_option maxHeartbeats 4000000 in
theorem m_X11_chairs {l : Launch} {d : Nat} {L : eL} {h : eH} {v0 : Nat} {r : eH × Int32} (hd : 5 ≤ d) (hf : f_X11_chairs L h v0 = some r) : e_Met l yX11_chairs cX11_chairs 6 (some .int) d 0 0 true L h [.ref v0] (Qx (some (.int r.2)) L r.1) := by
  refine e_metl (by decide) (Nat.le_of_ble_eq_true rfl) (lv := [(0, .ref v0)]) rfl ?_
  unfold f_X11_chairs at hf
  refine e_aload_n 0 dX11_chairs_0 rfl rfl ?_
  refine e_iconst (v := 0) dX11_chairs_1 (by decide) ?_
  obtain ⟨hO1, hf⟩ := e_if hf
  refine e_putI hO1 fc_11_0 rfl lk_RX11_3 dX11_chairs_2 ?_
  refine e_aload_n 0 dX11_chairs_5 rfl rfl ?_
  refine e_aload_n 0 dX11_chairs_6 rfl rfl ?_
  obtain ⟨b2, hb3, hf⟩ := e_bd hf
  refine e_getR hO1 fc_11_7 lk_RX11_41 dX11_chairs_7 hb3 ?_
  refine e_aload_n 0 dX11_chairs_10 rfl rfl ?_
  obtain ⟨b4, hb5, hf⟩ := e_bd hf
  refine e_getR hO1 fc_11_7 lk_RX11_41 dX11_chairs_11 hb5 ?_
  refine e_bipush (v := 72) dX11_chairs_14 (by decide) ?_
  obtain ⟨hI6, hf⟩ := e_if hf
  refine e_iald hI6 dX11_chairs_16 ?_
  refine e_iconst (v := (-1)) dX11_chairs_17 (by decide) ?_
  obtain ⟨r7, hr8, hf⟩ := e_bd hf
  refine e_callV (st := []) ml_RX11_332 k_X11_reachedFrom (m_X11_reachedFrom (d := d - 1) (by omega) hr8) hO1 ⟨by decide, rfl⟩ rfl rfl (Nat.le_of_ble_eq_true rfl) ⟨by omega, by decide⟩ ⟨Nat.le_refl _, Nat.le_refl _⟩ dX11_chairs_18 ?_
  refine e_callS (st := []) ml_RX11_320 k_J13_bitCount_95d88 (m_J13_bitCount_95d88 (d := d - 1) (by omega) rfl) rfl rfl (Nat.le_of_ble_eq_true rfl) ⟨by omega, by decide⟩ ⟨Nat.le_refl _, Nat.le_refl _⟩ dX11_chairs_21 ?_
  refine e_istore_n (lv' := [(1, .int _), (0, .ref _)]) dX11_chairs_24 rfl (by decide) rfl ?_
  refine e_bipush (v := (-2)) dX11_chairs_25 (by decide) ?_
  refine e_istore_n (lv' := [(2, .int _), (1, .int _), (0, .ref _)]) dX11_chairs_27 rfl (by decide) rfl ?_
  refine e_iconst (v := (-1)) dX11_chairs_28 (by decide) ?_
  refine e_istore_n (lv' := [(3, .int _), (2, .int _), (1, .int _), (0, .ref _)]) dX11_chairs_29 rfl (by decide) rfl ?_
  refine e_aload_n 3 dX11_chairs_30 rfl rfl ?_
  obtain ⟨r9, hr10, hf⟩ := e_bd hf
  refine e_callV (st := []) ml_RX11_317 k_X11_puts (m_X11_puts (d := d - 1) (by omega) hr10) hO1 ⟨by decide, rfl⟩ rfl rfl (Nat.le_of_ble_eq_true rfl) ⟨by omega, by decide⟩ ⟨Nat.le_refl _, Nat.le_refl _⟩ dX11_chairs_31 ?_
  refine e_iconst (v := 0) dX11_chairs_34 (by decide) ?_
  refine e_istore (lv' := [(4, .int _), (3, .int _), (2, .int _), (1, .int _), (0, .ref _)]) dX11_chairs_35 (by decide) rfl ?_
  refine e_sub [4, 3, 2, 1, 0] rfl ?_
  refine m_X11_chairs_L37 hd ?_ e_fu _ _ _ _ _ _ hf
  · intro h32 w0_33 w2_34 w3_35 hf
    refine e_iload_n 1 dX11_chairs_131 rfl rfl ?_
    refine e_if_lt (t := 146) dX11_chairs_132 (by decide) (fun c => ?_) (fun c => ?_)
    · replace hf := e_it c hf
      refine e_iload_n 1 dX11_chairs_146 rfl rfl ?_
      exact e_iret rfl dX11_chairs_147 (qW hf)
    · replace hf := e_ie c hf
      refine e_aload_n 0 dX11_chairs_135 rfl rfl ?_
      refine e_iconst (v := 0) dX11_chairs_136 (by decide) ?_
      obtain ⟨hO36, hf⟩ := e_if hf
      refine e_putI hO36 fc_11_1 rfl lk_RX11_15 dX11_chairs_137 ?_
      refine e_aload_n 0 dX11_chairs_140 rfl rfl ?_
      refine e_iload_n 2 dX11_chairs_141 rfl rfl ?_
      refine e_i2l dX11_chairs_142 ?_
      obtain ⟨r37, hr38, hf⟩ := e_bd hf
      refine e_callV (st := []) ml_RX11_18 k_X11_enters (m_X11_enters (d := d - 1) (by omega) hr38) hO36 ⟨by decide, rfl⟩ rfl rfl (Nat.le_of_ble_eq_true rfl) ⟨by omega, by decide⟩ ⟨Nat.le_refl _, Nat.le_refl _⟩ dX11_chairs_143 ?_
      refine e_iload_n 1 dX11_chairs_146 rfl rfl ?_
      exact e_iret rfl dX11_chairs_147 (qW hf)
def f_X11_goesBy_J69 (L : eL) (h : eH) (v0 : Nat) (v1 : Int32) (v2 : Int32) (v3 : Int32) (v4 : Int32) : Option eH :=
  if v2 = 0 then
    if v4 = 0 then
      some h
    else
      if isO L v0 11 = true then
      (gR h v0 39).bind fun b9 =>
      if inA L b9 2 ((4 * v3) + (v1 - v1 / 4 * 4)) = true then
      (some (sI h b9 ((4 * v3) + (v1 - v1 / 4 * 4)).toNatClampNeg (vp_nar .boolean 1))).bind fun h12 =>
      some h12
      else none
      else none
  else
    some h
set_option maxRecDepth 100000 in
set_option maxHeartbeats 4000000 in
theorem m_X11_goesBy_J69 {l : Launch} {d : Nat} {L : eL}  {r : eH} (hd : 3 ≤ d)  : ∀ (h : eH) (v0 : Nat) (v1 : Int32) (v2 : Int32) (v3 : Int32) (v4 : Int32), f_X11_goesBy_J69 L h v0 v1 v2 v3 v4 = some r → E l yX11_goesBy cX11_goesBy 5 none (e_rm d 0 0) 0 0 true L (Qx none L r) L h 0 0 69 [(0, .ref v0), (1, .int v1), (2, .int v2), (3, .int v3), (4, .int v4)] [] := by
  intro h v0 v1 v2 v3 v4 hf
  unfold f_X11_goesBy_J69 at hf
  refine e_iload_n 2 dX11_goesBy_69 rfl rfl ?_
  refine e_if_ne (t := 91) dX11_goesBy_70 (by decide) (fun c => ?_) (fun c => ?_)
  · replace hf := e_ie c hf
    exact e_vret rfl dX11_goesBy_91 (qV hf)
  · replace hf := e_it c hf
    refine e_iload 4 dX11_goesBy_73 rfl ?_
    refine e_if_eq (t := 91) dX11_goesBy_75 (by decide) (fun c => ?_) (fun c => ?_)
    · replace hf := e_it c hf
      exact e_vret rfl dX11_goesBy_91 (qV hf)
    · replace hf := e_ie c hf
      refine e_aload_n 0 dX11_goesBy_78 rfl rfl ?_
      obtain ⟨hO8, hf⟩ := e_if hf
      obtain ⟨b9, hb10, hf⟩ := e_bd hf
      refine e_getR hO8 fc_11_39 lk_RX11_96 dX11_goesBy_79 hb10 ?_
      refine e_iconst (v := 4) dX11_goesBy_82 (by decide) ?_
      refine e_iload_n 3 dX11_goesBy_83 rfl rfl ?_
      refine e_imul dX11_goesBy_84 ?_
      refine e_iload_n 1 dX11_goesBy_85 rfl rfl ?_
      refine e_iconst (v := 4) dX11_goesBy_86 (by decide) ?_
      refine e_irem dX11_goesBy_87 (by decide) ?_
      refine e_iadd dX11_goesBy_88 ?_
      refine e_iconst (v := 1) dX11_goesBy_89 (by decide) ?_
      obtain ⟨hI11, hf⟩ := e_if hf
      refine e_zast hI11 dX11_goesBy_90 ?_
      obtain ⟨h12, hh13, hf⟩ := e_bd hf
      refine e_hn hh13 ?_
      exact e_vret rfl dX11_goesBy_91 (qV hf)
def f_X11_goesBy (L : eL) (h : eH) (v0 : Nat) (v1 : Int32) (v2 : Int32) : Option eH :=
  if isO L v0 11 = true then
  (f_X11_beside L h v0 (v1 / 4) (v1 - v1 / 4 * 4)).bind fun r2 =>
  (gR h v0 7).bind fun b4 =>
  (f_X11_isFree L h v0 b4 r2).bind fun r6 =>
  if v2 ≤ 1 then
    if v2 = 1 then
      if r6 = 0 then
        (gR h v0 39).bind fun b14 =>
        if inA L b14 2 v1 = true then
        (some (sI h b14 v1.toNatClampNeg (vp_nar .boolean 1))).bind fun h17 =>
        some h17
        else none
      else
        f_X11_goesBy_J69 L h v0 v1 v2 r2 r6
    else
      f_X11_goesBy_J69 L h v0 v1 v2 r2 r6
  else
    (gR h v0 39).bind fun b19 =>
    if inA L b19 2 (((v1 / 4) * 4) + (((v1 + v2) - 1) - ((v1 + v2) - 1) / 4 * 4)) = true then
    (some (sI h b19 (((v1 / 4) * 4) + (((v1 + v2) - 1) - ((v1 + v2) - 1) / 4 * 4)).toNatClampNeg (vp_nar .boolean 1))).bind fun h22 =>
    some h22
    else none
  else none
set_option maxRecDepth 100000 in
set_option maxHeartbeats 4000000 in
theorem m_X11_goesBy {l : Launch} {d : Nat} {L : eL} {h : eH} {v0 : Nat} {v1 : Int32} {v2 : Int32} {r : eH} (hd : 3 ≤ d) (hf : f_X11_goesBy L h v0 v1 v2 = some r) : e_Met l yX11_goesBy cX11_goesBy 5 none d 0 0 true L h [.ref v0, .int v1, .int v2] (Qx none L r) := by
  refine e_metl (by decide) (Nat.le_of_ble_eq_true rfl) (lv := [(0, .ref v0), (1, .int v1), (2, .int v2)]) rfl ?_
  unfold f_X11_goesBy at hf
  refine e_aload_n 0 dX11_goesBy_0 rfl rfl ?_
  refine e_iload_n 1 dX11_goesBy_1 rfl rfl ?_
  refine e_iconst (v := 4) dX11_goesBy_2 (by decide) ?_
  refine e_idiv dX11_goesBy_3 (by decide) ?_
  refine e_iload_n 1 dX11_goesBy_4 rfl rfl ?_
  refine e_iconst (v := 4) dX11_goesBy_5 (by decide) ?_
  refine e_irem dX11_goesBy_6 (by decide) ?_
  obtain ⟨hO1, hf⟩ := e_if hf
  obtain ⟨r2, hr3, hf⟩ := e_bd hf
  refine e_callV (st := []) ml_RX11_251 k_X11_beside (m_X11_beside (d := d - 1) (by omega) hr3) hO1 ⟨by decide, rfl⟩ rfl rfl (Nat.le_of_ble_eq_true rfl) ⟨by omega, by decide⟩ ⟨Nat.le_refl _, Nat.le_refl _⟩ dX11_goesBy_7 ?_
  refine e_istore_n (lv' := [(3, .int _), (0, .ref _), (1, .int _), (2, .int _)]) dX11_goesBy_10 rfl (by decide) rfl ?_
  refine e_aload_n 1 dX11_goesBy_11 rfl rfl ?_
  refine e_aload_n 1 dX11_goesBy_12 rfl rfl ?_
  obtain ⟨b4, hb5, hf⟩ := e_bd hf
  refine e_getR hO1 fc_11_7 lk_RX11_41 dX11_goesBy_13 hb5 ?_
  refine e_iload_n 0 dX11_goesBy_16 rfl rfl ?_
  obtain ⟨r6, hr7, hf⟩ := e_bd hf
  refine e_callV (st := []) ml_RX11_241 k_X11_isFree (m_X11_isFree (d := d - 1) (by omega) hr7) hO1 ⟨by decide, rfl⟩ rfl rfl (Nat.le_of_ble_eq_true rfl) ⟨by omega, by decide⟩ ⟨Nat.le_refl _, Nat.le_refl _⟩ dX11_goesBy_17 ?_
  refine e_istore (lv' := [(4, .int _), (3, .int _), (0, .ref _), (1, .int _), (2, .int _)]) dX11_goesBy_20 (by decide) rfl ?_
  refine e_iload_n 4 dX11_goesBy_22 rfl rfl ?_
  refine e_iconst (v := 1) dX11_goesBy_23 (by decide) ?_
  refine e_icmp_le (t := 49) dX11_goesBy_24 (by decide) (fun c => ?_) (fun c => ?_)
  · replace hf := e_it c hf
    refine e_iload_n 4 dX11_goesBy_49 rfl rfl ?_
    refine e_iconst (v := 1) dX11_goesBy_50 (by decide) ?_
    refine e_icmp_ne (t := 69) dX11_goesBy_51 (by decide) (fun c => ?_) (fun c => ?_)
    · replace hf := e_ie c hf
      refine e_sub [2, 3, 4, 1, 0] rfl ?_
      exact m_X11_goesBy_J69 hd _ _ _ _ _ _ hf
    · replace hf := e_it c hf
      refine e_iload 0 dX11_goesBy_54 rfl ?_
      refine e_if_ne (t := 69) dX11_goesBy_56 (by decide) (fun c => ?_) (fun c => ?_)
      · replace hf := e_ie c hf
        refine e_sub [2, 3, 4, 1, 0] rfl ?_
        exact m_X11_goesBy_J69 hd _ _ _ _ _ _ hf
      · replace hf := e_it c hf
        refine e_aload_n 2 dX11_goesBy_59 rfl rfl ?_
        obtain ⟨b14, hb15, hf⟩ := e_bd hf
        refine e_getR hO1 fc_11_39 lk_RX11_96 dX11_goesBy_60 hb15 ?_
        refine e_iload_n 3 dX11_goesBy_63 rfl rfl ?_
        refine e_iconst (v := 1) dX11_goesBy_64 (by decide) ?_
        obtain ⟨hI16, hf⟩ := e_if hf
        refine e_zast hI16 dX11_goesBy_65 ?_
        obtain ⟨h17, hh18, hf⟩ := e_bd hf
        refine e_hn hh18 ?_
        refine e_goto (t := 91) dX11_goesBy_66 (by decide) ?_
        exact e_vret rfl dX11_goesBy_91 (qV hf)
  · replace hf := e_ie c hf
    refine e_aload_n 2 dX11_goesBy_27 rfl rfl ?_
    obtain ⟨b19, hb20, hf⟩ := e_bd hf
    refine e_getR hO1 fc_11_39 lk_RX11_96 dX11_goesBy_28 hb20 ?_
    refine e_iload_n 3 dX11_goesBy_31 rfl rfl ?_
    refine e_iconst (v := 4) dX11_goesBy_32 (by decide) ?_
    refine e_idiv dX11_goesBy_33 (by decide) ?_
    refine e_iconst (v := 4) dX11_goesBy_34 (by decide) ?_
    refine e_imul dX11_goesBy_35 ?_
    refine e_iload_n 3 dX11_goesBy_36 rfl rfl ?_
    refine e_iload_n 4 dX11_goesBy_37 rfl rfl ?_
    refine e_iadd dX11_goesBy_38 ?_
    refine e_iconst (v := 1) dX11_goesBy_39 (by decide) ?_
    refine e_isub dX11_goesBy_40 ?_
    refine e_iconst (v := 4) dX11_goesBy_41 (by decide) ?_
    refine e_irem dX11_goesBy_42 (by decide) ?_
    refine e_iadd dX11_goesBy_43 ?_
    refine e_iconst (v := 1) dX11_goesBy_44 (by decide) ?_
    obtain ⟨hI21, hf⟩ := e_if hf
    refine e_zast hI21 dX11_goesBy_45 ?_
    obtain ⟨h22, hh23, hf⟩ := e_bd hf
    refine e_hn hh23 ?_
    refine e_goto (t := 91) dX11_goesBy_46 (by decide) ?_
    exact e_vret rfl dX11_goesBy_91 (qV hf)
def f_X11_laysPlaces_L2 (L : eL) : Nat → (eH → Nat → Option eH) → eH → Nat → Int32 → Option eH
  | 0, _, _, _, _ => none
  | n + 1, k32, h, v0, v1 =>
    if 144 ≤ v1 then
      k32 h v0
    else
      if isO L v0 11 = true then
      (gR h v0 38).bind fun b2 =>
      (gR h v0 7).bind fun b4 =>
      (f_X11_isFree L h v0 b4 (v1 / 4)).bind fun r6 =>
      if inA L b2 2 v1 = true then
      (some (sI h b2 v1.toNatClampNeg (vp_nar .boolean r6))).bind fun h9 =>
      f_X11_laysPlaces_L2 L n k32 h9 v0 (v1 + Int32.ofInt 1)
      else none
      else none
set_option maxRecDepth 100000 in
set_option maxHeartbeats 4000000 in
theorem m_X11_laysPlaces_L2 {l : Launch} {d : Nat} {L : eL}  {r : eH} {k32 : eH → Nat → Option eH} (hd : 4 ≤ d) (hk32 : ∀ (h : eH) (v0 : Nat), k32 h v0 = some r → E l yX11_laysPlaces cX11_laysPlaces 3 none (e_rm d 0 0) 0 0 true L (Qx none L r) L h 0 0 32 [(0, .ref v0)] []) : ∀ (n : Nat) (h : eH) (v0 : Nat) (v1 : Int32), f_X11_laysPlaces_L2 L n k32 h v0 v1 = some r → E l yX11_laysPlaces cX11_laysPlaces 3 none (e_rm d 0 0) 0 0 true L (Qx none L r) L h 0 0 2 [(0, .ref v0), (1, .int v1)] [] := by
  intro n
  induction n with
  | zero => intro h v0 v1 hf; exact absurd hf (by simp [f_X11_laysPlaces_L2])
  | succ n ih =>
    intro h v0 v1 hf
    unfold f_X11_laysPlaces_L2 at hf
    refine e_iload_n 1 dX11_laysPlaces_2 rfl rfl ?_
    refine e_sipush (v := 144) dX11_laysPlaces_3 (by decide) ?_
    refine e_icmp_ge (t := 32) dX11_laysPlaces_6 (by decide) (fun c => ?_) (fun c => ?_)
    · replace hf := e_it c hf
      refine e_sub [0] rfl ?_
      exact hk32 _ _ hf
    · replace hf := e_ie c hf
      refine e_aload_n 0 dX11_laysPlaces_9 rfl rfl ?_
      obtain ⟨hO1, hf⟩ := e_if hf
      obtain ⟨b2, hb3, hf⟩ := e_bd hf
      refine e_getR hO1 fc_11_38 lk_RX11_92 dX11_laysPlaces_10 hb3 ?_
      refine e_iload_n 1 dX11_laysPlaces_13 rfl rfl ?_
      refine e_aload_n 0 dX11_laysPlaces_14 rfl rfl ?_
      refine e_aload_n 0 dX11_laysPlaces_15 rfl rfl ?_
      obtain ⟨b4, hb5, hf⟩ := e_bd hf
      refine e_getR hO1 fc_11_7 lk_RX11_41 dX11_laysPlaces_16 hb5 ?_
      refine e_iload_n 1 dX11_laysPlaces_19 rfl rfl ?_
      refine e_iconst (v := 4) dX11_laysPlaces_20 (by decide) ?_
      refine e_idiv dX11_laysPlaces_21 (by decide) ?_
      obtain ⟨r6, hr7, hf⟩ := e_bd hf
      refine e_callV (st := [.int _, .ref _]) ml_RX11_241 k_X11_isFree (m_X11_isFree (d := d - 1) (by omega) hr7) hO1 ⟨by decide, rfl⟩ rfl rfl (Nat.le_of_ble_eq_true rfl) ⟨by omega, by decide⟩ ⟨Nat.le_refl _, Nat.le_refl _⟩ dX11_laysPlaces_22 ?_
      obtain ⟨hI8, hf⟩ := e_if hf
      refine e_zast hI8 dX11_laysPlaces_25 ?_
      obtain ⟨h9, hh10, hf⟩ := e_bd hf
      refine e_hn hh10 ?_
      refine e_iinc (lv' := [(1, .int _), (0, .ref _)]) 1 dX11_laysPlaces_26 rfl (by decide) rfl ?_
      refine e_goto (t := 2) dX11_laysPlaces_29 (by decide) ?_
      refine e_sub [1, 0] rfl ?_
      exact ih _ _ _ hf
def f_X11_laysPlaces_L44 (L : eL) : Nat → (eH → Nat → Int32 → Option eH) → eH → Nat → Int32 → Int32 → Option eH
  | 0, _, _, _, _, _ => none
  | n + 1, k64, h, v0, v1, v2 =>
    if 144 ≤ v2 then
      k64 h v0 v1
    else
      if isO L v0 11 = true then
      (gR h v0 39).bind fun b15 =>
      if inA L b15 2 v2 = true then
      (some (sI h b15 v2.toNatClampNeg (vp_nar .boolean 0))).bind fun h18 =>
      f_X11_laysPlaces_L44 L n k64 h18 v0 v1 (v2 + Int32.ofInt 1)
      else none
      else none
set_option maxRecDepth 100000 in
set_option maxHeartbeats 4000000 in
theorem m_X11_laysPlaces_L44 {l : Launch} {d : Nat} {L : eL}  {r : eH} {k64 : eH → Nat → Int32 → Option eH} (hd : 4 ≤ d) (hk64 : ∀ (h : eH) (v0 : Nat) (v1 : Int32), k64 h v0 v1 = some r → E l yX11_laysPlaces cX11_laysPlaces 3 none (e_rm d 0 0) 0 0 true L (Qx none L r) L h 0 0 64 [(0, .ref v0), (1, .int v1)] []) : ∀ (n : Nat) (h : eH) (v0 : Nat) (v1 : Int32) (v2 : Int32), f_X11_laysPlaces_L44 L n k64 h v0 v1 v2 = some r → E l yX11_laysPlaces cX11_laysPlaces 3 none (e_rm d 0 0) 0 0 true L (Qx none L r) L h 0 0 44 [(0, .ref v0), (1, .int v1), (2, .int v2)] [] := by
  intro n
  induction n with
  | zero => intro h v0 v1 v2 hf; exact absurd hf (by simp [f_X11_laysPlaces_L44])
  | succ n ih =>
    intro h v0 v1 v2 hf
    unfold f_X11_laysPlaces_L44 at hf
    refine e_iload_n 2 dX11_laysPlaces_44 rfl rfl ?_
    refine e_sipush (v := 144) dX11_laysPlaces_45 (by decide) ?_
    refine e_icmp_ge (t := 64) dX11_laysPlaces_48 (by decide) (fun c => ?_) (fun c => ?_)
    · replace hf := e_it c hf
      refine e_sub [0, 1] rfl ?_
      exact hk64 _ _ _ hf
    · replace hf := e_ie c hf
      refine e_aload_n 0 dX11_laysPlaces_51 rfl rfl ?_
      obtain ⟨hO14, hf⟩ := e_if hf
      obtain ⟨b15, hb16, hf⟩ := e_bd hf
      refine e_getR hO14 fc_11_39 lk_RX11_96 dX11_laysPlaces_52 hb16 ?_
      refine e_iload_n 2 dX11_laysPlaces_55 rfl rfl ?_
      refine e_iconst (v := 0) dX11_laysPlaces_56 (by decide) ?_
      obtain ⟨hI17, hf⟩ := e_if hf
      refine e_zast hI17 dX11_laysPlaces_57 ?_
      obtain ⟨h18, hh19, hf⟩ := e_bd hf
      refine e_hn hh19 ?_
      refine e_iinc (lv' := [(2, .int _), (0, .ref _), (1, .int _)]) 2 dX11_laysPlaces_58 rfl (by decide) rfl ?_
      refine e_goto (t := 44) dX11_laysPlaces_61 (by decide) ?_
      refine e_sub [1, 2, 0] rfl ?_
      exact ih _ _ _ _ hf
def f_X11_laysPlaces_L66 (L : eL) : Nat → (eH → Nat → Int32 → Option eH) → eH → Nat → Int32 → Int32 → Option eH
  | 0, _, _, _, _, _ => none
  | n + 1, k99, h, v0, v1, v2 =>
    if 144 ≤ v2 then
      k99 h v0 v1
    else
      if isO L v0 11 = true then
      (gR h v0 38).bind fun b24 =>
      if inA L b24 2 v2 = true then
      if (gI h b24 v2.toNatClampNeg) = 0 then
        f_X11_laysPlaces_L66 L n k99 h v0 v1 (v2 + Int32.ofInt 1)
      else
        (gR h v0 37).bind fun b27 =>
        if inA L b27 0 v1 = true then
        (f_X11_goesBy L h v0 v2 (gI h b27 v1.toNatClampNeg)).bind fun r30 =>
        f_X11_laysPlaces_L66 L n k99 r30 v0 v1 (v2 + Int32.ofInt 1)
        else none
      else none
      else none
set_option maxRecDepth 100000 in
set_option maxHeartbeats 4000000 in
theorem m_X11_laysPlaces_L66 {l : Launch} {d : Nat} {L : eL}  {r : eH} {k99 : eH → Nat → Int32 → Option eH} (hd : 4 ≤ d) (hk99 : ∀ (h : eH) (v0 : Nat) (v1 : Int32), k99 h v0 v1 = some r → E l yX11_laysPlaces cX11_laysPlaces 3 none (e_rm d 0 0) 0 0 true L (Qx none L r) L h 0 0 99 [(0, .ref v0), (1, .int v1)] []) : ∀ (n : Nat) (h : eH) (v0 : Nat) (v1 : Int32) (v2 : Int32), f_X11_laysPlaces_L66 L n k99 h v0 v1 v2 = some r → E l yX11_laysPlaces cX11_laysPlaces 3 none (e_rm d 0 0) 0 0 true L (Qx none L r) L h 0 0 66 [(0, .ref v0), (1, .int v1), (2, .int v2)] [] := by
  intro n
  induction n with
  | zero => intro h v0 v1 v2 hf; exact absurd hf (by simp [f_X11_laysPlaces_L66])
  | succ n ih =>
    intro h v0 v1 v2 hf
    unfold f_X11_laysPlaces_L66 at hf
    refine e_iload_n 2 dX11_laysPlaces_66 rfl rfl ?_
    refine e_sipush (v := 144) dX11_laysPlaces_67 (by decide) ?_
    refine e_icmp_ge (t := 99) dX11_laysPlaces_70 (by decide) (fun c => ?_) (fun c => ?_)
    · replace hf := e_it c hf
      refine e_sub [0, 1] rfl ?_
      exact hk99 _ _ _ hf
    · replace hf := e_ie c hf
      refine e_aload_n 0 dX11_laysPlaces_73 rfl rfl ?_
      obtain ⟨hO23, hf⟩ := e_if hf
      obtain ⟨b24, hb25, hf⟩ := e_bd hf
      refine e_getR hO23 fc_11_38 lk_RX11_92 dX11_laysPlaces_74 hb25 ?_
      refine e_iload_n 2 dX11_laysPlaces_77 rfl rfl ?_
      obtain ⟨hI26, hf⟩ := e_if hf
      refine e_zald hI26 dX11_laysPlaces_78 ?_
      refine e_if_eq (t := 93) dX11_laysPlaces_79 (by decide) (fun c => ?_) (fun c => ?_)
      · replace hf := e_it c hf
        refine e_iinc (lv' := [(2, .int _), (0, .ref _), (1, .int _)]) 2 dX11_laysPlaces_93 rfl (by decide) rfl ?_
        refine e_goto (t := 66) dX11_laysPlaces_96 (by decide) ?_
        refine e_sub [1, 2, 0] rfl ?_
        exact ih _ _ _ _ hf
      · replace hf := e_ie c hf
        refine e_aload_n 0 dX11_laysPlaces_82 rfl rfl ?_
        refine e_iload_n 2 dX11_laysPlaces_83 rfl rfl ?_
        refine e_aload_n 0 dX11_laysPlaces_84 rfl rfl ?_
        obtain ⟨b27, hb28, hf⟩ := e_bd hf
        refine e_getR hO23 fc_11_37 lk_RX11_89 dX11_laysPlaces_85 hb28 ?_
        refine e_iload_n 1 dX11_laysPlaces_88 rfl rfl ?_
        obtain ⟨hI29, hf⟩ := e_if hf
        refine e_iald hI29 dX11_laysPlaces_89 ?_
        obtain ⟨r30, hr31, hf⟩ := e_bd hf
        refine e_callV (st := []) ml_RX11_359 k_X11_goesBy (m_X11_goesBy (d := d - 1) (by omega) hr31) hO23 ⟨by decide, rfl⟩ rfl rfl (Nat.le_of_ble_eq_true rfl) ⟨by omega, by decide⟩ ⟨Nat.le_refl _, Nat.le_refl _⟩ dX11_laysPlaces_90 ?_
        refine e_iinc (lv' := [(2, .int _), (0, .ref _), (1, .int _)]) 2 dX11_laysPlaces_93 rfl (by decide) rfl ?_
        refine e_goto (t := 66) dX11_laysPlaces_96 (by decide) ?_
        refine e_sub [1, 2, 0] rfl ?_
        exact ih _ _ _ _ hf
def f_X11_laysPlaces_L101 (L : eL) : Nat → (eH → Nat → Int32 → Option eH) → eH → Nat → Int32 → Int32 → Option eH
  | 0, _, _, _, _, _ => none
  | n + 1, k126, h, v0, v1, v2 =>
    if 144 ≤ v2 then
      k126 h v0 v1
    else
      if isO L v0 11 = true then
      (gR h v0 38).bind fun b36 =>
      (gR h v0 39).bind fun b38 =>
      if inA L b38 2 v2 = true then
      if inA L b36 2 v2 = true then
      (some (sI h b36 v2.toNatClampNeg (vp_nar .boolean (gI h b38 v2.toNatClampNeg)))).bind fun h42 =>
      f_X11_laysPlaces_L101 L n k126 h42 v0 v1 (v2 + Int32.ofInt 1)
      else none
      else none
      else none
set_option maxRecDepth 100000 in
set_option maxHeartbeats 4000000 in
theorem m_X11_laysPlaces_L101 {l : Launch} {d : Nat} {L : eL}  {r : eH} {k126 : eH → Nat → Int32 → Option eH} (hd : 4 ≤ d) (hk126 : ∀ (h : eH) (v0 : Nat) (v1 : Int32), k126 h v0 v1 = some r → E l yX11_laysPlaces cX11_laysPlaces 3 none (e_rm d 0 0) 0 0 true L (Qx none L r) L h 0 0 126 [(0, .ref v0), (1, .int v1)] []) : ∀ (n : Nat) (h : eH) (v0 : Nat) (v1 : Int32) (v2 : Int32), f_X11_laysPlaces_L101 L n k126 h v0 v1 v2 = some r → E l yX11_laysPlaces cX11_laysPlaces 3 none (e_rm d 0 0) 0 0 true L (Qx none L r) L h 0 0 101 [(0, .ref v0), (1, .int v1), (2, .int v2)] [] := by
  intro n
  induction n with
  | zero => intro h v0 v1 v2 hf; exact absurd hf (by simp [f_X11_laysPlaces_L101])
  | succ n ih =>
    intro h v0 v1 v2 hf
    unfold f_X11_laysPlaces_L101 at hf
    refine e_iload_n 2 dX11_laysPlaces_101 rfl rfl ?_
    refine e_sipush (v := 144) dX11_laysPlaces_102 (by decide) ?_
    refine e_icmp_ge (t := 126) dX11_laysPlaces_105 (by decide) (fun c => ?_) (fun c => ?_)
    · replace hf := e_it c hf
      refine e_sub [0, 1] rfl ?_
      exact hk126 _ _ _ hf
    · replace hf := e_ie c hf
      refine e_aload_n 0 dX11_laysPlaces_108 rfl rfl ?_
      obtain ⟨hO35, hf⟩ := e_if hf
      obtain ⟨b36, hb37, hf⟩ := e_bd hf
      refine e_getR hO35 fc_11_38 lk_RX11_92 dX11_laysPlaces_109 hb37 ?_
      refine e_iload_n 2 dX11_laysPlaces_112 rfl rfl ?_
      refine e_aload_n 0 dX11_laysPlaces_113 rfl rfl ?_
      obtain ⟨b38, hb39, hf⟩ := e_bd hf
      refine e_getR hO35 fc_11_39 lk_RX11_96 dX11_laysPlaces_114 hb39 ?_
      refine e_iload_n 2 dX11_laysPlaces_117 rfl rfl ?_
      obtain ⟨hI40, hf⟩ := e_if hf
      refine e_zald hI40 dX11_laysPlaces_118 ?_
      obtain ⟨hI41, hf⟩ := e_if hf
      refine e_zast hI41 dX11_laysPlaces_119 ?_
      obtain ⟨h42, hh43, hf⟩ := e_bd hf
      refine e_hn hh43 ?_
      refine e_iinc (lv' := [(2, .int _), (0, .ref _), (1, .int _)]) 2 dX11_laysPlaces_120 rfl (by decide) rfl ?_
      refine e_goto (t := 101) dX11_laysPlaces_123 (by decide) ?_
      refine e_sub [1, 2, 0] rfl ?_
      exact ih _ _ _ _ hf
def f_X11_laysPlaces_L34 (L : eL) : Nat → (eH → Option eH) → eH → Nat → Int32 → Option eH
  | 0, _, _, _, _ => none
  | n + 1, k132, h, v0, v1 =>
    if isO L v0 11 = true then
    if (gI h v0 36) ≤ v1 then
      k132 h
    else
      f_X11_laysPlaces_L44 L e_fu (fun (h20 : eH) (w0_21 : Nat) (w1_22 : Int32) =>
        f_X11_laysPlaces_L66 L e_fu (fun (h32 : eH) (w0_33 : Nat) (w1_34 : Int32) =>
          f_X11_laysPlaces_L101 L e_fu (fun (h44 : eH) (w0_45 : Nat) (w1_46 : Int32) =>
            f_X11_laysPlaces_L34 L n k132 h44 w0_45 (w1_46 + Int32.ofInt 1)) h32 w0_33 w1_34 0) h20 w0_21 w1_22 0) h v0 v1 0
    else none
set_option maxRecDepth 100000 in
set_option maxHeartbeats 4000000 in
theorem m_X11_laysPlaces_L34 {l : Launch} {d : Nat} {L : eL}  {r : eH} {k132 : eH → Option eH} (hd : 4 ≤ d) (hk132 : ∀ (h : eH), k132 h = some r → E l yX11_laysPlaces cX11_laysPlaces 3 none (e_rm d 0 0) 0 0 true L (Qx none L r) L h 0 0 132 [] []) : ∀ (n : Nat) (h : eH) (v0 : Nat) (v1 : Int32), f_X11_laysPlaces_L34 L n k132 h v0 v1 = some r → E l yX11_laysPlaces cX11_laysPlaces 3 none (e_rm d 0 0) 0 0 true L (Qx none L r) L h 0 0 34 [(0, .ref v0), (1, .int v1)] [] := by
  intro n
  induction n with
  | zero => intro h v0 v1 hf; exact absurd hf (by simp [f_X11_laysPlaces_L34])
  | succ n ih =>
    intro h v0 v1 hf
    unfold f_X11_laysPlaces_L34 at hf
    refine e_iload_n 1 dX11_laysPlaces_34 rfl rfl ?_
    refine e_aload_n 0 dX11_laysPlaces_35 rfl rfl ?_
    obtain ⟨hO13, hf⟩ := e_if hf
    refine e_getI hO13 fc_11_36 lk_RX11_186 dX11_laysPlaces_36 ?_
    refine e_icmp_ge (t := 132) dX11_laysPlaces_39 (by decide) (fun c => ?_) (fun c => ?_)
    · replace hf := e_it c hf
      refine e_sub [] rfl ?_
      exact hk132 _ hf
    · replace hf := e_ie c hf
      refine e_iconst (v := 0) dX11_laysPlaces_42 (by decide) ?_
      refine e_istore_n (lv' := [(2, .int _), (0, .ref _), (1, .int _)]) dX11_laysPlaces_43 rfl (by decide) rfl ?_
      refine e_sub [1, 2, 0] rfl ?_
      refine m_X11_laysPlaces_L44 hd ?_ e_fu _ _ _ _ hf
      · intro h20 w0_21 w1_22 hf
        refine e_iconst (v := 0) dX11_laysPlaces_64 (by decide) ?_
        refine e_istore_n (lv' := [(2, .int _), (0, .ref _), (1, .int _)]) dX11_laysPlaces_65 rfl (by decide) rfl ?_
        refine e_sub [1, 2, 0] rfl ?_
        refine m_X11_laysPlaces_L66 hd ?_ e_fu _ _ _ _ hf
        · intro h32 w0_33 w1_34 hf
          refine e_iconst (v := 0) dX11_laysPlaces_99 (by decide) ?_
          refine e_istore_n (lv' := [(2, .int _), (0, .ref _), (1, .int _)]) dX11_laysPlaces_100 rfl (by decide) rfl ?_
          refine e_sub [1, 2, 0] rfl ?_
          refine m_X11_laysPlaces_L101 hd ?_ e_fu _ _ _ _ hf
          · intro h44 w0_45 w1_46 hf
            refine e_iinc (lv' := [(1, .int _), (0, .ref _)]) 1 dX11_laysPlaces_126 rfl (by decide) rfl ?_
            refine e_goto (t := 34) dX11_laysPlaces_129 (by decide) ?_
            refine e_sub [1, 0] rfl ?_
            exact ih _ _ _ hf
def f_X11_laysPlaces (L : eL) (h : eH) (v0 : Nat) : Option eH :=
  f_X11_laysPlaces_L2 L e_fu (fun (h11 : eH) (w0_12 : Nat) =>
    f_X11_laysPlaces_L34 L e_fu (fun (h47 : eH) =>
      some h47) h11 w0_12 0) h v0 0
set_option maxRecDepth 100000 in
set_option maxHeartbeats 4000000 in
theorem m_X11_laysPlaces {l : Launch} {d : Nat} {L : eL} {h : eH} {v0 : Nat} {r : eH} (hd : 4 ≤ d) (hf : f_X11_laysPlaces L h v0 = some r) : e_Met l yX11_laysPlaces cX11_laysPlaces 3 none d 0 0 true L h [.ref v0] (Qx none L r) := by
  refine e_metl (by decide) (Nat.le_of_ble_eq_true rfl) (lv := [(0, .ref v0)]) rfl ?_
  unfold f_X11_laysPlaces at hf
  refine e_iconst (v := 0) dX11_laysPlaces_0 (by decide) ?_
  refine e_istore_n (lv' := [(1, .int _), (0, .ref _)]) dX11_laysPlaces_1 rfl (by decide) rfl ?_
  refine e_sub [1, 0] rfl ?_
  refine m_X11_laysPlaces_L2 hd ?_ e_fu _ _ _ hf
  · intro h11 w0_12 hf
    refine e_iconst (v := 0) dX11_laysPlaces_32 (by decide) ?_
    refine e_istore_n (lv' := [(1, .int _), (0, .ref _)]) dX11_laysPlaces_33 rfl (by decide) rfl ?_
    refine e_sub [1, 0] rfl ?_
    refine m_X11_laysPlaces_L34 hd ?_ e_fu _ _ _ hf
    · intro h47 hf
      exact e_vret rfl dX11_laysPlaces_132 (qV hf)
def f_X11_placeMany_L4 (L : eL) (h : eH) : Nat → (Int32 → Option Int32) → Nat → Int32 → Int32 → Option Int32
  | 0, _, _, _, _ => none
  | n + 1, k29, v0, v1, v2 =>
    if 144 ≤ v2 then
      k29 v1
    else
      if isO L v0 11 = true then
      (gR h v0 38).bind fun b2 =>
      if inA L b2 2 v2 = true then
      f_X11_placeMany_L4 L h n k29 v0 (v1 + (f_X11_flag (gI h b2 v2.toNatClampNeg))) (v2 + Int32.ofInt 1)
      else none
      else none
set_option maxRecDepth 100000 in
set_option maxHeartbeats 4000000 in
theorem m_X11_placeMany_L4 {l : Launch} {d : Nat} {L : eL} {h : eH} {r : Int32} {k29 : Int32 → Option Int32} (hd : 2 ≤ d) (hk29 : ∀ (v1 : Int32), k29 v1 = some r → E l yX11_placeMany cX11_placeMany 3 (some .int) (e_rm d 0 0) 0 0 true L (Qx (some (.int r)) L h) L h 0 0 29 [(1, .int v1)] []) : ∀ (n : Nat) (v0 : Nat) (v1 : Int32) (v2 : Int32), f_X11_placeMany_L4 L h n k29 v0 v1 v2 = some r → E l yX11_placeMany cX11_placeMany 3 (some .int) (e_rm d 0 0) 0 0 true L (Qx (some (.int r)) L h) L h 0 0 4 [(0, .ref v0), (1, .int v1), (2, .int v2)] [] := by
  intro n
  induction n with
  | zero => intro v0 v1 v2 hf; exact absurd hf (by simp [f_X11_placeMany_L4])
  | succ n ih =>
    intro v0 v1 v2 hf
    unfold f_X11_placeMany_L4 at hf
    refine e_iload_n 2 dX11_placeMany_4 rfl rfl ?_
    refine e_sipush (v := 144) dX11_placeMany_5 (by decide) ?_
    refine e_icmp_ge (t := 29) dX11_placeMany_8 (by decide) (fun c => ?_) (fun c => ?_)
    · replace hf := e_it c hf
      refine e_sub [1] rfl ?_
      exact hk29 _ hf
    · replace hf := e_ie c hf
      refine e_iload_n 1 dX11_placeMany_11 rfl rfl ?_
      refine e_aload_n 0 dX11_placeMany_12 rfl rfl ?_
      obtain ⟨hO1, hf⟩ := e_if hf
      obtain ⟨b2, hb3, hf⟩ := e_bd hf
      refine e_getR hO1 fc_11_38 lk_RX11_92 dX11_placeMany_13 hb3 ?_
      refine e_iload_n 2 dX11_placeMany_16 rfl rfl ?_
      obtain ⟨hI4, hf⟩ := e_if hf
      refine e_zald hI4 dX11_placeMany_17 ?_
      refine e_callS (st := [.int _]) ml_RX11_122 k_X11_flag (m_X11_flag (d := d - 1) (by omega) rfl) rfl rfl (Nat.le_of_ble_eq_true rfl) ⟨by omega, by decide⟩ ⟨Nat.le_refl _, Nat.le_refl _⟩ dX11_placeMany_18 ?_
      refine e_iadd dX11_placeMany_21 ?_
      refine e_istore_n (lv' := [(1, .int _), (0, .ref _), (2, .int _)]) dX11_placeMany_22 rfl (by decide) rfl ?_
      refine e_iinc (lv' := [(2, .int _), (1, .int _), (0, .ref _)]) 2 dX11_placeMany_23 rfl (by decide) rfl ?_
      refine e_goto (t := 4) dX11_placeMany_26 (by decide) ?_
      refine e_sub [2, 1, 0] rfl ?_
      exact ih _ _ _ hf
def f_X11_placeMany (L : eL) (h : eH) (v0 : Nat) : Option Int32 :=
  f_X11_placeMany_L4 L h e_fu (fun (w1_5 : Int32) =>
    some w1_5) v0 0 0
set_option maxRecDepth 100000 in
set_option maxHeartbeats 4000000 in
theorem m_X11_placeMany {l : Launch} {d : Nat} {L : eL} {h : eH} {v0 : Nat} {r : Int32} (hd : 2 ≤ d) (hf : f_X11_placeMany L h v0 = some r) : e_Met l yX11_placeMany cX11_placeMany 3 (some .int) d 0 0 true L h [.ref v0] (Qx (some (.int r)) L h) := by
  refine e_metl (by decide) (Nat.le_of_ble_eq_true rfl) (lv := [(0, .ref v0)]) rfl ?_
  unfold f_X11_placeMany at hf
  refine e_iconst (v := 0) dX11_placeMany_0 (by decide) ?_
  refine e_istore_n (lv' := [(1, .int _), (0, .ref _)]) dX11_placeMany_1 rfl (by decide) rfl ?_
  refine e_iconst (v := 0) dX11_placeMany_2 (by decide) ?_
  refine e_istore_n (lv' := [(2, .int _), (1, .int _), (0, .ref _)]) dX11_placeMany_3 rfl (by decide) rfl ?_
  refine e_sub [2, 1, 0] rfl ?_
  refine m_X11_placeMany_L4 hd ?_ e_fu _ _ _ hf
  · intro w1_5 hf
    refine e_iload_n 0 dX11_placeMany_29 rfl rfl ?_
    exact e_iret rfl dX11_placeMany_30 (qP hf)
def f_X11_feels (L : eL) (h : eH) (v0 : Nat) (v1 : Int32) : Option (eH × Int32) :=
  if isO L v0 11 = true then
  (gR h v0 37).bind fun b2 =>
  if inA L b2 0 (gI h v0 36) = true then
  (some (sI (sI h b2 (gI h v0 36).toNatClampNeg v1) v0 36 ((gI (sI h b2 (gI h v0 36).toNatClampNeg v1) v0 36) + 1))).bind fun h5 =>
  (f_X11_laysPlaces L h5 v0).bind fun r7 =>
  (f_X11_placeMany L r7 v0).bind fun r9 =>
  some (r7, r9)
  else none
  else none
set_option maxRecDepth 100000 in
set_option maxHeartbeats 4000000 in
theorem m_X11_feels {l : Launch} {d : Nat} {L : eL} {h : eH} {v0 : Nat} {v1 : Int32} {r : eH × Int32} (hd : 5 ≤ d) (hf : f_X11_feels L h v0 v1 = some r) : e_Met l yX11_feels cX11_feels 2 (some .int) d 0 0 true L h [.ref v0, .int v1] (Qx (some (.int r.2)) L r.1) := by
  refine e_metl (by decide) (Nat.le_of_ble_eq_true rfl) (lv := [(0, .ref v0), (1, .int v1)]) rfl ?_
  unfold f_X11_feels at hf
  refine e_aload_n 0 dX11_feels_0 rfl rfl ?_
  obtain ⟨hO1, hf⟩ := e_if hf
  obtain ⟨b2, hb3, hf⟩ := e_bd hf
  refine e_getR hO1 fc_11_37 lk_RX11_89 dX11_feels_1 hb3 ?_
  refine e_aload_n 0 dX11_feels_4 rfl rfl ?_
  refine e_getI hO1 fc_11_36 lk_RX11_186 dX11_feels_5 ?_
  refine e_iload_n 1 dX11_feels_8 rfl rfl ?_
  obtain ⟨hI4, hf⟩ := e_if hf
  refine e_iast hI4 dX11_feels_9 ?_
  refine e_aload_n 0 dX11_feels_10 rfl rfl ?_
  refine e_dupR dX11_feels_11 ?_
  refine e_getI hO1 fc_11_36 lk_RX11_186 dX11_feels_12 ?_
  refine e_iconst (v := 1) dX11_feels_15 (by decide) ?_
  refine e_iadd dX11_feels_16 ?_
  refine e_putI hO1 fc_11_36 rfl lk_RX11_186 dX11_feels_17 ?_
  obtain ⟨h5, hh6, hf⟩ := e_bd hf
  refine e_hn hh6 ?_
  refine e_aload_n 0 dX11_feels_20 rfl rfl ?_
  obtain ⟨r7, hr8, hf⟩ := e_bd hf
  refine e_callV (st := []) ml_RX11_363 k_X11_laysPlaces (m_X11_laysPlaces (d := d - 1) (by omega) hr8) hO1 ⟨by decide, rfl⟩ rfl rfl (Nat.le_of_ble_eq_true rfl) ⟨by omega, by decide⟩ ⟨Nat.le_refl _, Nat.le_refl _⟩ dX11_feels_21 ?_
  refine e_aload_n 0 dX11_feels_24 rfl rfl ?_
  obtain ⟨r9, hr10, hf⟩ := e_bd hf
  refine e_callV (st := []) ml_RX11_366 k_X11_placeMany (m_X11_placeMany (d := d - 1) (by omega) hr10) hO1 ⟨by decide, rfl⟩ rfl rfl (Nat.le_of_ble_eq_true rfl) ⟨by omega, by decide⟩ ⟨Nat.le_refl _, Nat.le_refl _⟩ dX11_feels_25 ?_
  exact e_iret rfl dX11_feels_28 (qW hf)
def f_X11_felt (L : eL) (h : eH) (v0 : Nat) (v1 : Int32) : Option (eH × Int32) :=
  if isO L v0 11 = true then
  if (f_X11_in v1.toInt64 0 1) = 0 then
    some (sI h v0 0 0, (-1))
  else
    if 12 ≤ (gI (sI h v0 0 0) v0 36) then
      some (sI h v0 0 0, (-1))
    else
      (f_X11_feels L (sI h v0 0 0) v0 v1).bind fun r2 =>
      some (r2.1, r2.2)
  else none
set_option maxRecDepth 100000 in
set_option maxHeartbeats 4000000 in
theorem m_X11_felt {l : Launch} {d : Nat} {L : eL} {h : eH} {v0 : Nat} {v1 : Int32} {r : eH × Int32} (hd : 6 ≤ d) (hf : f_X11_felt L h v0 v1 = some r) : e_Met l yX11_felt cX11_felt 2 (some .int) d 0 0 true L h [.ref v0, .int v1] (Qx (some (.int r.2)) L r.1) := by
  refine e_metl (by decide) (Nat.le_of_ble_eq_true rfl) (lv := [(0, .ref v0), (1, .int v1)]) rfl ?_
  unfold f_X11_felt at hf
  refine e_aload_n 0 dX11_felt_0 rfl rfl ?_
  refine e_iconst (v := 0) dX11_felt_1 (by decide) ?_
  obtain ⟨hO1, hf⟩ := e_if hf
  refine e_putI hO1 fc_11_0 rfl lk_RX11_3 dX11_felt_2 ?_
  refine e_iload_n 1 dX11_felt_5 rfl rfl ?_
  refine e_i2l dX11_felt_6 ?_
  refine e_lconst (v := 0) dX11_felt_7 (by decide) ?_
  refine e_lconst (v := 1) dX11_felt_8 (by decide) ?_
  refine e_callS (st := []) ml_RX11_118 k_X11_in (m_X11_in (d := d - 1) (by omega) rfl) rfl rfl (Nat.le_of_ble_eq_true rfl) ⟨by omega, by decide⟩ ⟨Nat.le_refl _, Nat.le_refl _⟩ dX11_felt_9 ?_
  refine e_if_eq (t := 32) dX11_felt_12 (by decide) (fun c => ?_) (fun c => ?_)
  · replace hf := e_it c hf
    refine e_iconst (v := (-1)) dX11_felt_32 (by decide) ?_
    exact e_iret rfl dX11_felt_33 (qW hf)
  · replace hf := e_ie c hf
    refine e_aload_n 0 dX11_felt_15 rfl rfl ?_
    refine e_getI hO1 fc_11_36 lk_RX11_186 dX11_felt_16 ?_
    refine e_bipush (v := 12) dX11_felt_19 (by decide) ?_
    refine e_icmp_ge (t := 32) dX11_felt_21 (by decide) (fun c => ?_) (fun c => ?_)
    · replace hf := e_it c hf
      refine e_iconst (v := (-1)) dX11_felt_32 (by decide) ?_
      exact e_iret rfl dX11_felt_33 (qW hf)
    · replace hf := e_ie c hf
      refine e_aload_n 0 dX11_felt_24 rfl rfl ?_
      refine e_iload_n 1 dX11_felt_25 rfl rfl ?_
      obtain ⟨r2, hr3, hf⟩ := e_bd hf
      refine e_callV (st := []) ml_RX11_369 k_X11_feels (m_X11_feels (d := d - 1) (by omega) hr3) hO1 ⟨by decide, rfl⟩ rfl rfl (Nat.le_of_ble_eq_true rfl) ⟨by omega, by decide⟩ ⟨Nat.le_refl _, Nat.le_refl _⟩ dX11_felt_26 ?_
      refine e_goto (t := 33) dX11_felt_29 (by decide) ?_
      exact e_iret rfl dX11_felt_33 (qW hf)
def f_X11_swung (L : eL) (h : eH) (v0 : Nat) (v1 : Int32) : Option (eH × Int32) :=
  if isO L v0 11 = true then
  if (f_X11_in v1.toInt64 1 3) = 0 then
    some (sI h v0 0 0, (-1))
  else
    if 12 ≤ (gI (sI h v0 0 0) v0 36) then
      some (sI h v0 0 0, (-1))
    else
      (f_X11_feels L (sI h v0 0 0) v0 (1 + v1)).bind fun r2 =>
      some (r2.1, r2.2)
  else none
set_option maxRecDepth 100000 in
set_option maxHeartbeats 4000000 in
theorem m_X11_swung {l : Launch} {d : Nat} {L : eL} {h : eH} {v0 : Nat} {v1 : Int32} {r : eH × Int32} (hd : 6 ≤ d) (hf : f_X11_swung L h v0 v1 = some r) : e_Met l yX11_swung cX11_swung 2 (some .int) d 0 0 true L h [.ref v0, .int v1] (Qx (some (.int r.2)) L r.1) := by
  refine e_metl (by decide) (Nat.le_of_ble_eq_true rfl) (lv := [(0, .ref v0), (1, .int v1)]) rfl ?_
  unfold f_X11_swung at hf
  refine e_aload_n 0 dX11_swung_0 rfl rfl ?_
  refine e_iconst (v := 0) dX11_swung_1 (by decide) ?_
  obtain ⟨hO1, hf⟩ := e_if hf
  refine e_putI hO1 fc_11_0 rfl lk_RX11_3 dX11_swung_2 ?_
  refine e_iload_n 1 dX11_swung_5 rfl rfl ?_
  refine e_i2l dX11_swung_6 ?_
  refine e_lconst (v := 1) dX11_swung_7 (by decide) ?_
  refine e_ldc2 kc_RX11_254 dX11_swung_8 ?_
  refine e_callS (st := []) ml_RX11_118 k_X11_in (m_X11_in (d := d - 1) (by omega) rfl) rfl rfl (Nat.le_of_ble_eq_true rfl) ⟨by omega, by decide⟩ ⟨Nat.le_refl _, Nat.le_refl _⟩ dX11_swung_11 ?_
  refine e_if_eq (t := 36) dX11_swung_14 (by decide) (fun c => ?_) (fun c => ?_)
  · replace hf := e_it c hf
    refine e_iconst (v := (-1)) dX11_swung_36 (by decide) ?_
    exact e_iret rfl dX11_swung_37 (qW hf)
  · replace hf := e_ie c hf
    refine e_aload_n 0 dX11_swung_17 rfl rfl ?_
    refine e_getI hO1 fc_11_36 lk_RX11_186 dX11_swung_18 ?_
    refine e_bipush (v := 12) dX11_swung_21 (by decide) ?_
    refine e_icmp_ge (t := 36) dX11_swung_23 (by decide) (fun c => ?_) (fun c => ?_)
    · replace hf := e_it c hf
      refine e_iconst (v := (-1)) dX11_swung_36 (by decide) ?_
      exact e_iret rfl dX11_swung_37 (qW hf)
    · replace hf := e_ie c hf
      refine e_aload_n 0 dX11_swung_26 rfl rfl ?_
      refine e_iconst (v := 1) dX11_swung_27 (by decide) ?_
      refine e_iload_n 1 dX11_swung_28 rfl rfl ?_
      refine e_iadd dX11_swung_29 ?_
      obtain ⟨r2, hr3, hf⟩ := e_bd hf
      refine e_callV (st := []) ml_RX11_369 k_X11_feels (m_X11_feels (d := d - 1) (by omega) hr3) hO1 ⟨by decide, rfl⟩ rfl rfl (Nat.le_of_ble_eq_true rfl) ⟨by omega, by decide⟩ ⟨Nat.le_refl _, Nat.le_refl _⟩ dX11_swung_30 ?_
      refine e_goto (t := 37) dX11_swung_33 (by decide) ?_
      exact e_iret rfl dX11_swung_37 (qW hf)
def f_X11_forget (L : eL) (h : eH) (v0 : Nat) : Option (eH × Int32) :=
  if isO L v0 11 = true then
  some (sI (sI h v0 0 0) v0 36 0, gI (sI h v0 0 0) v0 36)
  else none
set_option maxRecDepth 100000 in
set_option maxHeartbeats 4000000 in
theorem m_X11_forget {l : Launch} {d : Nat} {L : eL} {h : eH} {v0 : Nat} {r : eH × Int32} (hd : 1 ≤ d) (hf : f_X11_forget L h v0 = some r) : e_Met l yX11_forget cX11_forget 2 (some .int) d 0 0 true L h [.ref v0] (Qx (some (.int r.2)) L r.1) := by
  refine e_metl (by decide) (Nat.le_of_ble_eq_true rfl) (lv := [(0, .ref v0)]) rfl ?_
  unfold f_X11_forget at hf
  refine e_aload_n 0 dX11_forget_0 rfl rfl ?_
  refine e_iconst (v := 0) dX11_forget_1 (by decide) ?_
  obtain ⟨hO1, hf⟩ := e_if hf
  refine e_putI hO1 fc_11_0 rfl lk_RX11_3 dX11_forget_2 ?_
  refine e_aload_n 0 dX11_forget_5 rfl rfl ?_
  refine e_getI hO1 fc_11_36 lk_RX11_186 dX11_forget_6 ?_
  refine e_istore_n (lv' := [(1, .int _), (0, .ref _)]) dX11_forget_9 rfl (by decide) rfl ?_
  refine e_aload_n 1 dX11_forget_10 rfl rfl ?_
  refine e_iconst (v := 0) dX11_forget_11 (by decide) ?_
  refine e_putI hO1 fc_11_36 rfl lk_RX11_186 dX11_forget_12 ?_
  refine e_iload_n 0 dX11_forget_15 rfl rfl ?_
  exact e_iret rfl dX11_forget_16 (qW hf)
def f_X11_held_L13 (L : eL) : Nat → (eH → Nat → Int64 → Option (eH × Int32)) → eH → Nat → Int64 → Int32 → Option (eH × Int32)
  | 0, _, _, _, _, _ => none
  | n + 1, k47, h, v0, v1, v3 =>
    if 144 ≤ v3 then
      k47 h v0 v1
    else
      if isO L v0 11 = true then
      (gR h v0 38).bind fun b5 =>
      if inA L b5 2 v3 = true then
      if (gI h b5 v3.toNatClampNeg) = 0 then
        f_X11_held_L13 L n k47 h v0 (v1 ||| 0) (v3 + Int32.ofInt 1)
      else
        f_X11_held_L13 L n k47 h v0 (v1 ||| ((1 : Int64) <<< ((v3 / 4).toInt64 &&& 63))) (v3 + Int32.ofInt 1)
      else none
      else none
set_option maxRecDepth 100000 in
set_option maxHeartbeats 4000000 in
theorem m_X11_held_L13 {l : Launch} {d : Nat} {L : eL}  {r : eH × Int32} {k47 : eH → Nat → Int64 → Option (eH × Int32)} (hd : 5 ≤ d) (hk47 : ∀ (h : eH) (v0 : Nat) (v1 : Int64), k47 h v0 v1 = some r → E l yX11_held cX11_held 4 (some .int) (e_rm d 0 0) 0 0 true L (Qx (some (.int r.2)) L r.1) L h 0 0 47 [(0, .ref v0), (1, .long v1)] []) : ∀ (n : Nat) (h : eH) (v0 : Nat) (v1 : Int64) (v3 : Int32), f_X11_held_L13 L n k47 h v0 v1 v3 = some r → E l yX11_held cX11_held 4 (some .int) (e_rm d 0 0) 0 0 true L (Qx (some (.int r.2)) L r.1) L h 0 0 13 [(0, .ref v0), (1, .long v1), (3, .int v3)] [] := by
  intro n
  induction n with
  | zero => intro h v0 v1 v3 hf; exact absurd hf (by simp [f_X11_held_L13])
  | succ n ih =>
    intro h v0 v1 v3 hf
    unfold f_X11_held_L13 at hf
    refine e_iload_n 2 dX11_held_13 rfl rfl ?_
    refine e_sipush (v := 144) dX11_held_14 (by decide) ?_
    refine e_icmp_ge (t := 47) dX11_held_17 (by decide) (fun c => ?_) (fun c => ?_)
    · replace hf := e_it c hf
      refine e_sub [0, 1] rfl ?_
      exact hk47 _ _ _ hf
    · replace hf := e_ie c hf
      refine e_lload_n 1 dX11_held_20 rfl rfl ?_
      refine e_aload_n 0 dX11_held_21 rfl rfl ?_
      obtain ⟨hO4, hf⟩ := e_if hf
      obtain ⟨b5, hb6, hf⟩ := e_bd hf
      refine e_getR hO4 fc_11_38 lk_RX11_92 dX11_held_22 hb6 ?_
      refine e_iload_n 2 dX11_held_25 rfl rfl ?_
      obtain ⟨hI7, hf⟩ := e_if hf
      refine e_zald hI7 dX11_held_26 ?_
      refine e_if_eq (t := 38) dX11_held_27 (by decide) (fun c => ?_) (fun c => ?_)
      · replace hf := e_it c hf
        refine e_lconst (v := 0) dX11_held_38 (by decide) ?_
        refine e_lor dX11_held_39 ?_
        refine e_lstore_n (lv' := [(1, .long _), (0, .ref _), (3, .int _)]) dX11_held_40 rfl (by decide) rfl ?_
        refine e_iinc (lv' := [(3, .int _), (1, .long _), (0, .ref _)]) 2 dX11_held_41 rfl (by decide) rfl ?_
        refine e_goto (t := 13) dX11_held_44 (by decide) ?_
        refine e_sub [2, 1, 0] rfl ?_
        exact ih _ _ _ _ hf
      · replace hf := e_ie c hf
        refine e_lconst (v := 1) dX11_held_30 (by decide) ?_
        refine e_iload_n 2 dX11_held_31 rfl rfl ?_
        refine e_iconst (v := 4) dX11_held_32 (by decide) ?_
        refine e_idiv dX11_held_33 (by decide) ?_
        refine e_lshl dX11_held_34 ?_
        refine e_goto (t := 39) dX11_held_35 (by decide) ?_
        refine e_lor dX11_held_39 ?_
        refine e_lstore_n (lv' := [(1, .long _), (0, .ref _), (3, .int _)]) dX11_held_40 rfl (by decide) rfl ?_
        refine e_iinc (lv' := [(3, .int _), (1, .long _), (0, .ref _)]) 2 dX11_held_41 rfl (by decide) rfl ?_
        refine e_goto (t := 13) dX11_held_44 (by decide) ?_
        refine e_sub [2, 1, 0] rfl ?_
        exact ih _ _ _ _ hf
def f_X11_held (L : eL) (h : eH) (v0 : Nat) : Option (eH × Int32) :=
  if isO L v0 11 = true then
  (f_X11_laysPlaces L (sI h v0 0 0) v0).bind fun r2 =>
  f_X11_held_L13 L e_fu (fun (h8 : eH) (w0_9 : Nat) (w1_10 : Int64) =>
    if isO L w0_9 11 = true then
    (f_X11_enters L (sI h8 w0_9 1 0) w0_9 w1_10).bind fun r12 =>
    (f_X11_placeMany L r12 w0_9).bind fun r14 =>
    (f_X11_enters L r12 w0_9 r14.toInt64).bind fun r16 =>
    some (r16, f_J13_bitCount_95d88 w1_10)
    else none) r2 v0 0 0
  else none
set_option maxRecDepth 100000 in
set_option maxHeartbeats 4000000 in
theorem m_X11_held {l : Launch} {d : Nat} {L : eL} {h : eH} {v0 : Nat} {r : eH × Int32} (hd : 5 ≤ d) (hf : f_X11_held L h v0 = some r) : e_Met l yX11_held cX11_held 4 (some .int) d 0 0 true L h [.ref v0] (Qx (some (.int r.2)) L r.1) := by
  refine e_metl (by decide) (Nat.le_of_ble_eq_true rfl) (lv := [(0, .ref v0)]) rfl ?_
  unfold f_X11_held at hf
  refine e_aload_n 0 dX11_held_0 rfl rfl ?_
  refine e_iconst (v := 0) dX11_held_1 (by decide) ?_
  obtain ⟨hO1, hf⟩ := e_if hf
  refine e_putI hO1 fc_11_0 rfl lk_RX11_3 dX11_held_2 ?_
  refine e_aload_n 0 dX11_held_5 rfl rfl ?_
  obtain ⟨r2, hr3, hf⟩ := e_bd hf
  refine e_callV (st := []) ml_RX11_363 k_X11_laysPlaces (m_X11_laysPlaces (d := d - 1) (by omega) hr3) hO1 ⟨by decide, rfl⟩ rfl rfl (Nat.le_of_ble_eq_true rfl) ⟨by omega, by decide⟩ ⟨Nat.le_refl _, Nat.le_refl _⟩ dX11_held_6 ?_
  refine e_lconst (v := 0) dX11_held_9 (by decide) ?_
  refine e_lstore_n (lv' := [(1, .long _), (0, .ref _)]) dX11_held_10 rfl (by decide) rfl ?_
  refine e_iconst (v := 0) dX11_held_11 (by decide) ?_
  refine e_istore_n (lv' := [(3, .int _), (1, .long _), (0, .ref _)]) dX11_held_12 rfl (by decide) rfl ?_
  refine e_sub [2, 1, 0] rfl ?_
  refine m_X11_held_L13 hd ?_ e_fu _ _ _ _ hf
  · intro h8 w0_9 w1_10 hf
    refine e_aload_n 0 dX11_held_47 rfl rfl ?_
    refine e_iconst (v := 0) dX11_held_48 (by decide) ?_
    obtain ⟨hO11, hf⟩ := e_if hf
    refine e_putI hO11 fc_11_1 rfl lk_RX11_15 dX11_held_49 ?_
    refine e_aload_n 0 dX11_held_52 rfl rfl ?_
    refine e_lload_n 1 dX11_held_53 rfl rfl ?_
    obtain ⟨r12, hr13, hf⟩ := e_bd hf
    refine e_callV (st := []) ml_RX11_18 k_X11_enters (m_X11_enters (d := d - 1) (by omega) hr13) hO11 ⟨by decide, rfl⟩ rfl rfl (Nat.le_of_ble_eq_true rfl) ⟨by omega, by decide⟩ ⟨Nat.le_refl _, Nat.le_refl _⟩ dX11_held_54 ?_
    refine e_aload_n 0 dX11_held_57 rfl rfl ?_
    refine e_aload_n 0 dX11_held_58 rfl rfl ?_
    obtain ⟨r14, hr15, hf⟩ := e_bd hf
    refine e_callV (st := [.ref _]) ml_RX11_366 k_X11_placeMany (m_X11_placeMany (d := d - 1) (by omega) hr15) hO11 ⟨by decide, rfl⟩ rfl rfl (Nat.le_of_ble_eq_true rfl) ⟨by omega, by decide⟩ ⟨Nat.le_refl _, Nat.le_refl _⟩ dX11_held_59 ?_
    refine e_i2l dX11_held_62 ?_
    obtain ⟨r16, hr17, hf⟩ := e_bd hf
    refine e_callV (st := []) ml_RX11_18 k_X11_enters (m_X11_enters (d := d - 1) (by omega) hr17) hO11 ⟨by decide, rfl⟩ rfl rfl (Nat.le_of_ble_eq_true rfl) ⟨by omega, by decide⟩ ⟨Nat.le_refl _, Nat.le_refl _⟩ dX11_held_63 ?_
    refine e_lload_n 1 dX11_held_66 rfl rfl ?_
    refine e_callS (st := []) ml_RX11_320 k_J13_bitCount_95d88 (m_J13_bitCount_95d88 (d := d - 1) (by omega) rfl) rfl rfl (Nat.le_of_ble_eq_true rfl) ⟨by omega, by decide⟩ ⟨Nat.le_refl _, Nat.le_refl _⟩ dX11_held_67 ?_
    exact e_iret rfl dX11_held_70 (qW hf)
def f_X11_feel_L38 (L : eL) : Nat → (eH → Nat → Int32 → Int32 → Int32 → Int32 → Option (eH × Int32)) → eH → Nat → Int32 → Int32 → Int32 → Int32 → Int32 → Option (eH × Int32)
  | 0, _, _, _, _, _, _, _, _ => none
  | n + 1, k100, h, v0, v1, v2, v3, v4, v5 =>
    if 144 ≤ v5 then
      k100 h v0 v1 v2 v3 v4
    else
      if isO L v0 11 = true then
      (gR h v0 38).bind fun b7 =>
      if inA L b7 2 v5 = true then
      if (gI h b7 v5.toNatClampNeg) = 0 then
        f_X11_feel_L38 L n k100 h v0 v1 v2 v3 (v4 + (f_X11_flag 0)) (v5 + Int32.ofInt 1)
      else
        (gR h v0 7).bind fun b10 =>
        (f_X11_beside L h v0 (v5 / 4) ((v5 + v3) - (v5 + v3) / 4 * 4)).bind fun r12 =>
        (f_X11_isFree L h v0 b10 r12).bind fun r14 =>
        if r14 = 0 then
          f_X11_feel_L38 L n k100 h v0 v1 v2 v3 (v4 + (f_X11_flag 0)) (v5 + Int32.ofInt 1)
        else
          f_X11_feel_L38 L n k100 h v0 v1 v2 v3 (v4 + (f_X11_flag 1)) (v5 + Int32.ofInt 1)
      else none
      else none
set_option maxRecDepth 100000 in
set_option maxHeartbeats 4000000 in
theorem m_X11_feel_L38 {l : Launch} {d : Nat} {L : eL}  {r : eH × Int32} {k100 : eH → Nat → Int32 → Int32 → Int32 → Int32 → Option (eH × Int32)} (hd : 6 ≤ d) (hk100 : ∀ (h : eH) (v0 : Nat) (v1 : Int32) (v2 : Int32) (v3 : Int32) (v4 : Int32), k100 h v0 v1 v2 v3 v4 = some r → E l yX11_feel cX11_feel 6 (some .int) (e_rm d 0 0) 0 0 true L (Qx (some (.int r.2)) L r.1) L h 0 0 100 [(0, .ref v0), (1, .int v1), (2, .int v2), (3, .int v3), (4, .int v4)] []) : ∀ (n : Nat) (h : eH) (v0 : Nat) (v1 : Int32) (v2 : Int32) (v3 : Int32) (v4 : Int32) (v5 : Int32), f_X11_feel_L38 L n k100 h v0 v1 v2 v3 v4 v5 = some r → E l yX11_feel cX11_feel 6 (some .int) (e_rm d 0 0) 0 0 true L (Qx (some (.int r.2)) L r.1) L h 0 0 38 [(0, .ref v0), (1, .int v1), (2, .int v2), (3, .int v3), (4, .int v4), (5, .int v5)] [] := by
  intro n
  induction n with
  | zero => intro h v0 v1 v2 v3 v4 v5 hf; exact absurd hf (by simp [f_X11_feel_L38])
  | succ n ih =>
    intro h v0 v1 v2 v3 v4 v5 hf
    unfold f_X11_feel_L38 at hf
    refine e_iload 5 dX11_feel_38 rfl ?_
    refine e_sipush (v := 144) dX11_feel_40 (by decide) ?_
    refine e_icmp_ge (t := 100) dX11_feel_43 (by decide) (fun c => ?_) (fun c => ?_)
    · replace hf := e_it c hf
      refine e_sub [0, 1, 2, 3, 4] rfl ?_
      exact hk100 _ _ _ _ _ _ hf
    · replace hf := e_ie c hf
      refine e_iload 4 dX11_feel_46 rfl ?_
      refine e_aload_n 0 dX11_feel_48 rfl rfl ?_
      obtain ⟨hO6, hf⟩ := e_if hf
      obtain ⟨b7, hb8, hf⟩ := e_bd hf
      refine e_getR hO6 fc_11_38 lk_RX11_92 dX11_feel_49 hb8 ?_
      refine e_iload 5 dX11_feel_52 rfl ?_
      obtain ⟨hI9, hf⟩ := e_if hf
      refine e_zald hI9 dX11_feel_54 ?_
      refine e_if_eq (t := 87) dX11_feel_55 (by decide) (fun c => ?_) (fun c => ?_)
      · replace hf := e_it c hf
        refine e_iconst (v := 0) dX11_feel_87 (by decide) ?_
        refine e_callS (st := [.int _]) ml_RX11_122 k_X11_flag (m_X11_flag (d := d - 1) (by omega) rfl) rfl rfl (Nat.le_of_ble_eq_true rfl) ⟨by omega, by decide⟩ ⟨Nat.le_refl _, Nat.le_refl _⟩ dX11_feel_88 ?_
        refine e_iadd dX11_feel_91 ?_
        refine e_istore (lv' := [(4, .int _), (0, .ref _), (1, .int _), (2, .int _), (3, .int _), (5, .int _)]) dX11_feel_92 (by decide) rfl ?_
        refine e_iinc (lv' := [(5, .int _), (4, .int _), (0, .ref _), (1, .int _), (2, .int _), (3, .int _)]) 5 dX11_feel_94 rfl (by decide) rfl ?_
        refine e_goto (t := 38) dX11_feel_97 (by decide) ?_
        refine e_sub [2, 3, 4, 5, 1, 0] rfl ?_
        exact ih _ _ _ _ _ _ _ hf
      · replace hf := e_ie c hf
        refine e_aload_n 0 dX11_feel_58 rfl rfl ?_
        refine e_aload_n 0 dX11_feel_59 rfl rfl ?_
        obtain ⟨b10, hb11, hf⟩ := e_bd hf
        refine e_getR hO6 fc_11_7 lk_RX11_41 dX11_feel_60 hb11 ?_
        refine e_aload_n 0 dX11_feel_63 rfl rfl ?_
        refine e_iload 5 dX11_feel_64 rfl ?_
        refine e_iconst (v := 4) dX11_feel_66 (by decide) ?_
        refine e_idiv dX11_feel_67 (by decide) ?_
        refine e_iload 5 dX11_feel_68 rfl ?_
        refine e_iload_n 3 dX11_feel_70 rfl rfl ?_
        refine e_iadd dX11_feel_71 ?_
        refine e_iconst (v := 4) dX11_feel_72 (by decide) ?_
        refine e_irem dX11_feel_73 (by decide) ?_
        obtain ⟨r12, hr13, hf⟩ := e_bd hf
        refine e_callV (st := [.ref _, .ref _, .int _]) ml_RX11_251 k_X11_beside (m_X11_beside (d := d - 1) (by omega) hr13) hO6 ⟨by decide, rfl⟩ rfl rfl (Nat.le_of_ble_eq_true rfl) ⟨by omega, by decide⟩ ⟨Nat.le_refl _, Nat.le_refl _⟩ dX11_feel_74 ?_
        obtain ⟨r14, hr15, hf⟩ := e_bd hf
        refine e_callV (st := [.int _]) ml_RX11_241 k_X11_isFree (m_X11_isFree (d := d - 1) (by omega) hr15) hO6 ⟨by decide, rfl⟩ rfl rfl (Nat.le_of_ble_eq_true rfl) ⟨by omega, by decide⟩ ⟨Nat.le_refl _, Nat.le_refl _⟩ dX11_feel_77 ?_
        refine e_if_eq (t := 87) dX11_feel_80 (by decide) (fun c => ?_) (fun c => ?_)
        · replace hf := e_it c hf
          refine e_iconst (v := 0) dX11_feel_87 (by decide) ?_
          refine e_callS (st := [.int _]) ml_RX11_122 k_X11_flag (m_X11_flag (d := d - 1) (by omega) rfl) rfl rfl (Nat.le_of_ble_eq_true rfl) ⟨by omega, by decide⟩ ⟨Nat.le_refl _, Nat.le_refl _⟩ dX11_feel_88 ?_
          refine e_iadd dX11_feel_91 ?_
          refine e_istore (lv' := [(4, .int _), (0, .ref _), (1, .int _), (2, .int _), (3, .int _), (5, .int _)]) dX11_feel_92 (by decide) rfl ?_
          refine e_iinc (lv' := [(5, .int _), (4, .int _), (0, .ref _), (1, .int _), (2, .int _), (3, .int _)]) 5 dX11_feel_94 rfl (by decide) rfl ?_
          refine e_goto (t := 38) dX11_feel_97 (by decide) ?_
          refine e_sub [2, 3, 4, 5, 1, 0] rfl ?_
          exact ih _ _ _ _ _ _ _ hf
        · replace hf := e_ie c hf
          refine e_iconst (v := 1) dX11_feel_83 (by decide) ?_
          refine e_goto (t := 88) dX11_feel_84 (by decide) ?_
          refine e_callS (st := [.int _]) ml_RX11_122 k_X11_flag (m_X11_flag (d := d - 1) (by omega) rfl) rfl rfl (Nat.le_of_ble_eq_true rfl) ⟨by omega, by decide⟩ ⟨Nat.le_refl _, Nat.le_refl _⟩ dX11_feel_88 ?_
          refine e_iadd dX11_feel_91 ?_
          refine e_istore (lv' := [(4, .int _), (0, .ref _), (1, .int _), (2, .int _), (3, .int _), (5, .int _)]) dX11_feel_92 (by decide) rfl ?_
          refine e_iinc (lv' := [(5, .int _), (4, .int _), (0, .ref _), (1, .int _), (2, .int _), (3, .int _)]) 5 dX11_feel_94 rfl (by decide) rfl ?_
          refine e_goto (t := 38) dX11_feel_97 (by decide) ?_
          refine e_sub [2, 3, 4, 5, 1, 0] rfl ?_
          exact ih _ _ _ _ _ _ _ hf
def f_X11_feel_L27 (L : eL) : Nat → (eH → Nat → Int32 → Int32 → Option (eH × Int32)) → eH → Nat → Int32 → Int32 → Int32 → Option (eH × Int32)
  | 0, _, _, _, _, _, _ => none
  | n + 1, k139, h, v0, v1, v2, v3 =>
    if 4 ≤ v3 then
      k139 h v0 v1 v2
    else
      f_X11_feel_L38 L e_fu (fun (h16 : eH) (w0_17 : Nat) (w1_18 : Int32) (w2_19 : Int32) (w3_20 : Int32) (w4_21 : Int32) =>
        if isO L w0_17 11 = true then
        (f_X11_placeMany L h16 w0_17).bind fun r23 =>
        if w2_19 ≤ (mxI w4_21 (r23 - w4_21)) then
          f_X11_feel_L27 L n k139 h16 w0_17 w1_18 (mnI w2_19 (mxI w4_21 (r23 - w4_21))) (w3_20 + Int32.ofInt 1)
        else
          f_X11_feel_L27 L n k139 h16 w0_17 w3_20 (mnI w2_19 (mxI w4_21 (r23 - w4_21))) (w3_20 + Int32.ofInt 1)
        else none) h v0 v1 v2 v3 0 0
set_option maxRecDepth 100000 in
set_option maxHeartbeats 4000000 in
theorem m_X11_feel_L27 {l : Launch} {d : Nat} {L : eL}  {r : eH × Int32} {k139 : eH → Nat → Int32 → Int32 → Option (eH × Int32)} (hd : 6 ≤ d) (hk139 : ∀ (h : eH) (v0 : Nat) (v1 : Int32) (v2 : Int32), k139 h v0 v1 v2 = some r → E l yX11_feel cX11_feel 6 (some .int) (e_rm d 0 0) 0 0 true L (Qx (some (.int r.2)) L r.1) L h 0 0 139 [(0, .ref v0), (1, .int v1), (2, .int v2)] []) : ∀ (n : Nat) (h : eH) (v0 : Nat) (v1 : Int32) (v2 : Int32) (v3 : Int32), f_X11_feel_L27 L n k139 h v0 v1 v2 v3 = some r → E l yX11_feel cX11_feel 6 (some .int) (e_rm d 0 0) 0 0 true L (Qx (some (.int r.2)) L r.1) L h 0 0 27 [(0, .ref v0), (1, .int v1), (2, .int v2), (3, .int v3)] [] := by
  intro n
  induction n with
  | zero => intro h v0 v1 v2 v3 hf; exact absurd hf (by simp [f_X11_feel_L27])
  | succ n ih =>
    intro h v0 v1 v2 v3 hf
    unfold f_X11_feel_L27 at hf
    refine e_iload_n 3 dX11_feel_27 rfl rfl ?_
    refine e_iconst (v := 4) dX11_feel_28 (by decide) ?_
    refine e_icmp_ge (t := 139) dX11_feel_29 (by decide) (fun c => ?_) (fun c => ?_)
    · replace hf := e_it c hf
      refine e_sub [0, 1, 2] rfl ?_
      exact hk139 _ _ _ _ hf
    · replace hf := e_ie c hf
      refine e_iconst (v := 0) dX11_feel_32 (by decide) ?_
      refine e_istore (lv' := [(4, .int _), (0, .ref _), (1, .int _), (2, .int _), (3, .int _)]) dX11_feel_33 (by decide) rfl ?_
      refine e_iconst (v := 0) dX11_feel_35 (by decide) ?_
      refine e_istore (lv' := [(5, .int _), (4, .int _), (0, .ref _), (1, .int _), (2, .int _), (3, .int _)]) dX11_feel_36 (by decide) rfl ?_
      refine e_sub [2, 3, 4, 5, 1, 0] rfl ?_
      refine m_X11_feel_L38 hd ?_ e_fu _ _ _ _ _ _ _ hf
      · intro h16 w0_17 w1_18 w2_19 w3_20 w4_21 hf
        refine e_iload 4 dX11_feel_100 rfl ?_
        refine e_aload_n 0 dX11_feel_102 rfl rfl ?_
        obtain ⟨hO22, hf⟩ := e_if hf
        obtain ⟨r23, hr24, hf⟩ := e_bd hf
        refine e_callV (st := [.int _]) ml_RX11_366 k_X11_placeMany (m_X11_placeMany (d := d - 1) (by omega) hr24) hO22 ⟨by decide, rfl⟩ rfl rfl (Nat.le_of_ble_eq_true rfl) ⟨by omega, by decide⟩ ⟨Nat.le_refl _, Nat.le_refl _⟩ dX11_feel_103 ?_
        refine e_iload 4 dX11_feel_106 rfl ?_
        refine e_isub dX11_feel_108 ?_
        refine e_mx ml_RX11_256 (by omega) (Nat.le_of_ble_eq_true rfl) ⟨Nat.le_refl _, Nat.le_refl _⟩ dX11_feel_109 ?_
        refine e_istore (lv' := [(5, .int _), (0, .ref _), (1, .int _), (2, .int _), (3, .int _), (4, .int _)]) dX11_feel_112 (by decide) rfl ?_
        refine e_iload 0 dX11_feel_114 rfl ?_
        refine e_iload_n 3 dX11_feel_116 rfl rfl ?_
        refine e_icmp_ge (t := 124) dX11_feel_117 (by decide) (fun c => ?_) (fun c => ?_)
        · replace hf := e_it c hf
          refine e_iload_n 2 dX11_feel_124 rfl rfl ?_
          refine e_istore_n (lv' := [(1, .int _), (5, .int _), (0, .ref _), (2, .int _), (3, .int _), (4, .int _)]) dX11_feel_125 rfl (by decide) rfl ?_
          refine e_iload_n 3 dX11_feel_126 rfl rfl ?_
          refine e_iload 1 dX11_feel_127 rfl ?_
          refine e_mn ml_RX11_135 (by omega) (Nat.le_of_ble_eq_true rfl) ⟨Nat.le_refl _, Nat.le_refl _⟩ dX11_feel_129 ?_
          refine e_istore_n (lv' := [(2, .int _), (1, .int _), (5, .int _), (0, .ref _), (3, .int _), (4, .int _)]) dX11_feel_132 rfl (by decide) rfl ?_
          refine e_iinc (lv' := [(3, .int _), (2, .int _), (1, .int _), (5, .int _), (0, .ref _), (4, .int _)]) 4 dX11_feel_133 rfl (by decide) rfl ?_
          refine e_goto (t := 27) dX11_feel_136 (by decide) ?_
          refine e_sub [4, 2, 1, 0] rfl ?_
          exact ih _ _ _ _ _ hf
        · replace hf := e_ie c hf
          refine e_iload_n 4 dX11_feel_120 rfl rfl ?_
          refine e_goto (t := 125) dX11_feel_121 (by decide) ?_
          refine e_istore_n (lv' := [(1, .int _), (5, .int _), (0, .ref _), (2, .int _), (3, .int _), (4, .int _)]) dX11_feel_125 rfl (by decide) rfl ?_
          refine e_iload_n 3 dX11_feel_126 rfl rfl ?_
          refine e_iload 1 dX11_feel_127 rfl ?_
          refine e_mn ml_RX11_135 (by omega) (Nat.le_of_ble_eq_true rfl) ⟨Nat.le_refl _, Nat.le_refl _⟩ dX11_feel_129 ?_
          refine e_istore_n (lv' := [(2, .int _), (1, .int _), (5, .int _), (0, .ref _), (3, .int _), (4, .int _)]) dX11_feel_132 rfl (by decide) rfl ?_
          refine e_iinc (lv' := [(3, .int _), (2, .int _), (1, .int _), (5, .int _), (0, .ref _), (4, .int _)]) 4 dX11_feel_133 rfl (by decide) rfl ?_
          refine e_goto (t := 27) dX11_feel_136 (by decide) ?_
          refine e_sub [4, 2, 1, 0] rfl ?_
          exact ih _ _ _ _ _ hf
def f_X11_feel (L : eL) (h : eH) (v0 : Nat) : Option (eH × Int32) :=
  if isO L v0 11 = true then
  (f_X11_laysPlaces L (sI h v0 0 0) v0).bind fun r2 =>
  (f_X11_placeMany L r2 v0).bind fun r4 =>
  if r4 = 0 then
    some (r2, (-2))
  else
    f_X11_feel_L27 L e_fu (fun (h25 : eH) (w0_26 : Nat) (w1_27 : Int32) (w2_28 : Int32) =>
      if isO L w0_26 11 = true then
      (f_X11_enters L (sI h25 w0_26 1 0) w0_26 w2_28.toInt64).bind fun r30 =>
      some (r30, w1_27)
      else none) r2 v0 (-1) 1000000 0
  else none
set_option maxRecDepth 100000 in
set_option maxHeartbeats 4000000 in
theorem m_X11_feel {l : Launch} {d : Nat} {L : eL} {h : eH} {v0 : Nat} {r : eH × Int32} (hd : 6 ≤ d) (hf : f_X11_feel L h v0 = some r) : e_Met l yX11_feel cX11_feel 6 (some .int) d 0 0 true L h [.ref v0] (Qx (some (.int r.2)) L r.1) := by
  refine e_metl (by decide) (Nat.le_of_ble_eq_true rfl) (lv := [(0, .ref v0)]) rfl ?_
  unfold f_X11_feel at hf
  refine e_aload_n 0 dX11_feel_0 rfl rfl ?_
  refine e_iconst (v := 0) dX11_feel_1 (by decide) ?_
  obtain ⟨hO1, hf⟩ := e_if hf
  refine e_putI hO1 fc_11_0 rfl lk_RX11_3 dX11_feel_2 ?_
  refine e_aload_n 0 dX11_feel_5 rfl rfl ?_
  obtain ⟨r2, hr3, hf⟩ := e_bd hf
  refine e_callV (st := []) ml_RX11_363 k_X11_laysPlaces (m_X11_laysPlaces (d := d - 1) (by omega) hr3) hO1 ⟨by decide, rfl⟩ rfl rfl (Nat.le_of_ble_eq_true rfl) ⟨by omega, by decide⟩ ⟨Nat.le_refl _, Nat.le_refl _⟩ dX11_feel_6 ?_
  refine e_aload_n 0 dX11_feel_9 rfl rfl ?_
  obtain ⟨r4, hr5, hf⟩ := e_bd hf
  refine e_callV (st := []) ml_RX11_366 k_X11_placeMany (m_X11_placeMany (d := d - 1) (by omega) hr5) hO1 ⟨by decide, rfl⟩ rfl rfl (Nat.le_of_ble_eq_true rfl) ⟨by omega, by decide⟩ ⟨Nat.le_refl _, Nat.le_refl _⟩ dX11_feel_10 ?_
  refine e_if_ne (t := 19) dX11_feel_13 (by decide) (fun c => ?_) (fun c => ?_)
  · replace hf := e_ie c hf
    refine e_iconst (v := (-1)) dX11_feel_19 (by decide) ?_
    refine e_istore_n (lv' := [(1, .int _), (0, .ref _)]) dX11_feel_20 rfl (by decide) rfl ?_
    refine e_ldcw kc_RX11_339 dX11_feel_21 ?_
    refine e_istore_n (lv' := [(2, .int _), (1, .int _), (0, .ref _)]) dX11_feel_24 rfl (by decide) rfl ?_
    refine e_iconst (v := 0) dX11_feel_25 (by decide) ?_
    refine e_istore_n (lv' := [(3, .int _), (2, .int _), (1, .int _), (0, .ref _)]) dX11_feel_26 rfl (by decide) rfl ?_
    refine e_sub [3, 2, 1, 0] rfl ?_
    refine m_X11_feel_L27 hd ?_ e_fu _ _ _ _ _ hf
    · intro h25 w0_26 w1_27 w2_28 hf
      refine e_aload_n 0 dX11_feel_139 rfl rfl ?_
      refine e_iconst (v := 0) dX11_feel_140 (by decide) ?_
      obtain ⟨hO29, hf⟩ := e_if hf
      refine e_putI hO29 fc_11_1 rfl lk_RX11_15 dX11_feel_141 ?_
      refine e_aload_n 0 dX11_feel_144 rfl rfl ?_
      refine e_iload_n 2 dX11_feel_145 rfl rfl ?_
      refine e_i2l dX11_feel_146 ?_
      obtain ⟨r30, hr31, hf⟩ := e_bd hf
      refine e_callV (st := []) ml_RX11_18 k_X11_enters (m_X11_enters (d := d - 1) (by omega) hr31) hO29 ⟨by decide, rfl⟩ rfl rfl (Nat.le_of_ble_eq_true rfl) ⟨by omega, by decide⟩ ⟨Nat.le_refl _, Nat.le_refl _⟩ dX11_feel_147 ?_
      refine e_iload_n 1 dX11_feel_150 rfl rfl ?_
      exact e_iret rfl dX11_feel_151 (qW hf)
  · replace hf := e_it c hf
    refine e_bipush (v := (-2)) dX11_feel_16 (by decide) ?_
    exact e_iret rfl dX11_feel_18 (qW hf)
def f_X11_week_L58 (L : eL) : Nat → (eH → Nat → Int32 → Int32 → Int32 → Int32 → Int32 → Int32 → Option (eH × Int32)) → eH → Nat → Int32 → Int32 → Int32 → Int32 → Int32 → Int32 → Int32 → Int32 → Option (eH × Int32)
  | 0, _, _, _, _, _, _, _, _, _, _, _ => none
  | n + 1, k99, h, v0, v1, v2, v3, v4, v5, v6, v7, v8 =>
    if 7 ≤ v8 then
      k99 h v0 v1 v2 v3 v4 v5 v7
    else
      if ((v5 >>> (v8 &&& 31)) &&& 1) = 1 then
        f_X11_week_L58 L n k99 h v0 v1 v2 v3 v4 v5 0 (v7 + 0) (v8 + Int32.ofInt 1)
      else
        f_X11_week_L58 L n k99 h v0 v1 v2 v3 v4 v5 (v6 + v2) (v7 + (v6 + v2)) (v8 + Int32.ofInt 1)
set_option maxRecDepth 100000 in
set_option maxHeartbeats 4000000 in
theorem m_X11_week_L58 {l : Launch} {d : Nat} {L : eL}  {r : eH × Int32} {k99 : eH → Nat → Int32 → Int32 → Int32 → Int32 → Int32 → Int32 → Option (eH × Int32)} (hd : 2 ≤ d) (hk99 : ∀ (h : eH) (v0 : Nat) (v1 : Int32) (v2 : Int32) (v3 : Int32) (v4 : Int32) (v5 : Int32) (v7 : Int32), k99 h v0 v1 v2 v3 v4 v5 v7 = some r → E l yX11_week cX11_week 9 (some .int) (e_rm d 0 0) 0 0 true L (Qx (some (.int r.2)) L r.1) L h 0 0 99 [(0, .ref v0), (1, .int v1), (2, .int v2), (3, .int v3), (4, .int v4), (5, .int v5), (7, .int v7)] []) : ∀ (n : Nat) (h : eH) (v0 : Nat) (v1 : Int32) (v2 : Int32) (v3 : Int32) (v4 : Int32) (v5 : Int32) (v6 : Int32) (v7 : Int32) (v8 : Int32), f_X11_week_L58 L n k99 h v0 v1 v2 v3 v4 v5 v6 v7 v8 = some r → E l yX11_week cX11_week 9 (some .int) (e_rm d 0 0) 0 0 true L (Qx (some (.int r.2)) L r.1) L h 0 0 58 [(0, .ref v0), (1, .int v1), (2, .int v2), (3, .int v3), (4, .int v4), (5, .int v5), (6, .int v6), (7, .int v7), (8, .int v8)] [] := by
  intro n
  induction n with
  | zero => intro h v0 v1 v2 v3 v4 v5 v6 v7 v8 hf; exact absurd hf (by simp [f_X11_week_L58])
  | succ n ih =>
    intro h v0 v1 v2 v3 v4 v5 v6 v7 v8 hf
    unfold f_X11_week_L58 at hf
    refine e_iload 8 dX11_week_58 rfl ?_
    refine e_bipush (v := 7) dX11_week_60 (by decide) ?_
    refine e_icmp_ge (t := 99) dX11_week_62 (by decide) (fun c => ?_) (fun c => ?_)
    · replace hf := e_it c hf
      refine e_sub [0, 1, 2, 3, 4, 5, 7] rfl ?_
      exact hk99 _ _ _ _ _ _ _ _ hf
    · replace hf := e_ie c hf
      refine e_iload 5 dX11_week_65 rfl ?_
      refine e_iload 8 dX11_week_67 rfl ?_
      refine e_ishr dX11_week_69 ?_
      refine e_iconst (v := 1) dX11_week_70 (by decide) ?_
      refine e_iand dX11_week_71 ?_
      refine e_iconst (v := 1) dX11_week_72 (by decide) ?_
      refine e_icmp_ne (t := 80) dX11_week_73 (by decide) (fun c => ?_) (fun c => ?_)
      · replace hf := e_ie c hf
        refine e_iload 6 dX11_week_80 rfl ?_
        refine e_iload_n 2 dX11_week_82 rfl rfl ?_
        refine e_iadd dX11_week_83 ?_
        refine e_istore (lv' := [(6, .int _), (0, .ref _), (1, .int _), (2, .int _), (3, .int _), (4, .int _), (5, .int _), (7, .int _), (8, .int _)]) dX11_week_84 (by decide) rfl ?_
        refine e_iload 7 dX11_week_86 rfl ?_
        refine e_iload 0 dX11_week_88 rfl ?_
        refine e_iadd dX11_week_90 ?_
        refine e_istore (lv' := [(7, .int _), (6, .int _), (0, .ref _), (1, .int _), (2, .int _), (3, .int _), (4, .int _), (5, .int _), (8, .int _)]) dX11_week_91 (by decide) rfl ?_
        refine e_iinc (lv' := [(8, .int _), (7, .int _), (6, .int _), (0, .ref _), (1, .int _), (2, .int _), (3, .int _), (4, .int _), (5, .int _)]) 8 dX11_week_93 rfl (by decide) rfl ?_
        refine e_goto (t := 58) dX11_week_96 (by decide) ?_
        refine e_sub [3, 4, 5, 6, 7, 8, 2, 1, 0] rfl ?_
        exact ih _ _ _ _ _ _ _ _ _ _ hf
      · replace hf := e_it c hf
        refine e_iconst (v := 0) dX11_week_76 (by decide) ?_
        refine e_goto (t := 84) dX11_week_77 (by decide) ?_
        refine e_istore (lv' := [(6, .int _), (0, .ref _), (1, .int _), (2, .int _), (3, .int _), (4, .int _), (5, .int _), (7, .int _), (8, .int _)]) dX11_week_84 (by decide) rfl ?_
        refine e_iload 7 dX11_week_86 rfl ?_
        refine e_iload 0 dX11_week_88 rfl ?_
        refine e_iadd dX11_week_90 ?_
        refine e_istore (lv' := [(7, .int _), (6, .int _), (0, .ref _), (1, .int _), (2, .int _), (3, .int _), (4, .int _), (5, .int _), (8, .int _)]) dX11_week_91 (by decide) rfl ?_
        refine e_iinc (lv' := [(8, .int _), (7, .int _), (6, .int _), (0, .ref _), (1, .int _), (2, .int _), (3, .int _), (4, .int _), (5, .int _)]) 8 dX11_week_93 rfl (by decide) rfl ?_
        refine e_goto (t := 58) dX11_week_96 (by decide) ?_
        refine e_sub [3, 4, 5, 6, 7, 8, 2, 1, 0] rfl ?_
        exact ih _ _ _ _ _ _ _ _ _ _ hf
def f_X11_week_J133 (L : eL) (k41 : eH → Nat → Int32 → Int32 → Int32 → Int32 → Int32 → Option (eH × Int32)) (k154 : eH → Nat → Int32 → Int32 → Option (eH × Int32)) (h : eH) (v0 : Nat) (v1 : Int32) (v2 : Int32) (v4 : Int32) (v5 : Int32) (v7 : Int32) (v8 : Int32) (s0 : Int32) : Option (eH × Int32) :=
  if v8 = 0 then
    k41 h v0 v1 v2 s0 v4 (v5 + Int32.ofInt 1)
  else
    k41 h v0 v1 v2 s0 v7 (v5 + Int32.ofInt 1)
set_option maxRecDepth 100000 in
set_option maxHeartbeats 4000000 in
theorem m_X11_week_J133 {l : Launch} {d : Nat} {L : eL}  {r : eH × Int32} {k41 : eH → Nat → Int32 → Int32 → Int32 → Int32 → Int32 → Option (eH × Int32)} {k154 : eH → Nat → Int32 → Int32 → Option (eH × Int32)} (hd : 2 ≤ d) (hk41 : ∀ (h : eH) (v0 : Nat) (v1 : Int32) (v2 : Int32) (v3 : Int32) (v4 : Int32) (v5 : Int32), k41 h v0 v1 v2 v3 v4 v5 = some r → E l yX11_week cX11_week 9 (some .int) (e_rm d 0 0) 0 0 true L (Qx (some (.int r.2)) L r.1) L h 0 0 41 [(0, .ref v0), (1, .int v1), (2, .int v2), (3, .int v3), (4, .int v4), (5, .int v5)] []) (hk154 : ∀ (h : eH) (v0 : Nat) (v3 : Int32) (v4 : Int32), k154 h v0 v3 v4 = some r → E l yX11_week cX11_week 9 (some .int) (e_rm d 0 0) 0 0 true L (Qx (some (.int r.2)) L r.1) L h 0 0 154 [(0, .ref v0), (3, .int v3), (4, .int v4)] []) : ∀ (h : eH) (v0 : Nat) (v1 : Int32) (v2 : Int32) (v4 : Int32) (v5 : Int32) (v7 : Int32) (v8 : Int32) (s0 : Int32), f_X11_week_J133 L k41 k154 h v0 v1 v2 v4 v5 v7 v8 s0 = some r → E l yX11_week cX11_week 9 (some .int) (e_rm d 0 0) 0 0 true L (Qx (some (.int r.2)) L r.1) L h 0 0 133 [(0, .ref v0), (1, .int v1), (2, .int v2), (4, .int v4), (5, .int v5), (7, .int v7), (8, .int v8)] [.int s0] := by
  intro h v0 v1 v2 v4 v5 v7 v8 s0 hf
  unfold f_X11_week_J133 at hf
  refine e_istore_n (lv' := [(3, .int _), (0, .ref _), (1, .int _), (2, .int _), (4, .int _), (5, .int _), (7, .int _), (8, .int _)]) dX11_week_133 rfl (by decide) rfl ?_
  refine e_iload 7 dX11_week_134 rfl ?_
  refine e_if_eq (t := 144) dX11_week_136 (by decide) (fun c => ?_) (fun c => ?_)
  · replace hf := e_it c hf
    refine e_iload 4 dX11_week_144 rfl ?_
    refine e_istore (lv' := [(4, .int _), (3, .int _), (0, .ref _), (1, .int _), (2, .int _), (5, .int _), (7, .int _), (8, .int _)]) dX11_week_146 (by decide) rfl ?_
    refine e_iinc (lv' := [(5, .int _), (4, .int _), (3, .int _), (0, .ref _), (1, .int _), (2, .int _), (7, .int _), (8, .int _)]) 5 dX11_week_148 rfl (by decide) rfl ?_
    refine e_goto (t := 41) dX11_week_151 (by decide) ?_
    refine e_sub [3, 4, 5, 2, 1, 0] rfl ?_
    exact hk41 _ _ _ _ _ _ _ hf
  · replace hf := e_ie c hf
    refine e_iload 6 dX11_week_139 rfl ?_
    refine e_goto (t := 146) dX11_week_141 (by decide) ?_
    refine e_istore (lv' := [(4, .int _), (3, .int _), (0, .ref _), (1, .int _), (2, .int _), (5, .int _), (7, .int _), (8, .int _)]) dX11_week_146 (by decide) rfl ?_
    refine e_iinc (lv' := [(5, .int _), (4, .int _), (3, .int _), (0, .ref _), (1, .int _), (2, .int _), (7, .int _), (8, .int _)]) 5 dX11_week_148 rfl (by decide) rfl ?_
    refine e_goto (t := 41) dX11_week_151 (by decide) ?_
    refine e_sub [3, 4, 5, 2, 1, 0] rfl ?_
    exact hk41 _ _ _ _ _ _ _ hf
def f_X11_week_L41 (L : eL) : Nat → (eH → Nat → Int32 → Int32 → Option (eH × Int32)) → eH → Nat → Int32 → Int32 → Int32 → Int32 → Int32 → Option (eH × Int32)
  | 0, _, _, _, _, _, _, _, _ => none
  | n + 1, k154, h, v0, v1, v2, v3, v4, v5 =>
    if 128 ≤ v5 then
      k154 h v0 v3 v4
    else
      f_X11_week_L58 L e_fu (fun (h2 : eH) (w0_3 : Nat) (w1_4 : Int32) (w2_5 : Int32) (w3_6 : Int32) (w4_7 : Int32) (w5_8 : Int32) (w7_9 : Int32) =>
        if (f_J6_bitCount_0f7a4 w5_8) = w1_4 then
          if w4_7 ≤ w7_9 then
            f_X11_week_J133 L (f_X11_week_L41 L n k154) k154 h2 w0_3 w1_4 w2_5 w4_7 w5_8 w7_9 0 w3_6
          else
            f_X11_week_J133 L (f_X11_week_L41 L n k154) k154 h2 w0_3 w1_4 w2_5 w4_7 w5_8 w7_9 1 w5_8
        else
          f_X11_week_J133 L (f_X11_week_L41 L n k154) k154 h2 w0_3 w1_4 w2_5 w4_7 w5_8 w7_9 0 w3_6) h v0 v1 v2 v3 v4 v5 0 0 0
set_option maxRecDepth 100000 in
set_option maxHeartbeats 4000000 in
theorem m_X11_week_L41 {l : Launch} {d : Nat} {L : eL}  {r : eH × Int32} {k154 : eH → Nat → Int32 → Int32 → Option (eH × Int32)} (hd : 2 ≤ d) (hk154 : ∀ (h : eH) (v0 : Nat) (v3 : Int32) (v4 : Int32), k154 h v0 v3 v4 = some r → E l yX11_week cX11_week 9 (some .int) (e_rm d 0 0) 0 0 true L (Qx (some (.int r.2)) L r.1) L h 0 0 154 [(0, .ref v0), (3, .int v3), (4, .int v4)] []) : ∀ (n : Nat) (h : eH) (v0 : Nat) (v1 : Int32) (v2 : Int32) (v3 : Int32) (v4 : Int32) (v5 : Int32), f_X11_week_L41 L n k154 h v0 v1 v2 v3 v4 v5 = some r → E l yX11_week cX11_week 9 (some .int) (e_rm d 0 0) 0 0 true L (Qx (some (.int r.2)) L r.1) L h 0 0 41 [(0, .ref v0), (1, .int v1), (2, .int v2), (3, .int v3), (4, .int v4), (5, .int v5)] [] := by
  intro n
  induction n with
  | zero => intro h v0 v1 v2 v3 v4 v5 hf; exact absurd hf (by simp [f_X11_week_L41])
  | succ n ih =>
    intro h v0 v1 v2 v3 v4 v5 hf
    unfold f_X11_week_L41 at hf
    refine e_iload 5 dX11_week_41 rfl ?_
    refine e_sipush (v := 128) dX11_week_43 (by decide) ?_
    refine e_icmp_ge (t := 154) dX11_week_46 (by decide) (fun c => ?_) (fun c => ?_)
    · replace hf := e_it c hf
      refine e_sub [0, 3, 4] rfl ?_
      exact hk154 _ _ _ _ hf
    · replace hf := e_ie c hf
      refine e_iconst (v := 0) dX11_week_49 (by decide) ?_
      refine e_istore (lv' := [(6, .int _), (0, .ref _), (1, .int _), (2, .int _), (3, .int _), (4, .int _), (5, .int _)]) dX11_week_50 (by decide) rfl ?_
      refine e_iconst (v := 0) dX11_week_52 (by decide) ?_
      refine e_istore (lv' := [(7, .int _), (6, .int _), (0, .ref _), (1, .int _), (2, .int _), (3, .int _), (4, .int _), (5, .int _)]) dX11_week_53 (by decide) rfl ?_
      refine e_iconst (v := 0) dX11_week_55 (by decide) ?_
      refine e_istore (lv' := [(8, .int _), (7, .int _), (6, .int _), (0, .ref _), (1, .int _), (2, .int _), (3, .int _), (4, .int _), (5, .int _)]) dX11_week_56 (by decide) rfl ?_
      refine e_sub [3, 4, 5, 6, 7, 8, 2, 1, 0] rfl ?_
      refine m_X11_week_L58 hd ?_ e_fu _ _ _ _ _ _ _ _ _ _ hf
      · intro h2 w0_3 w1_4 w2_5 w3_6 w4_7 w5_8 w7_9 hf
        refine e_iload 5 dX11_week_99 rfl ?_
        refine e_callS (st := []) ml_RX11_382 k_J6_bitCount_0f7a4 (m_J6_bitCount_0f7a4 (d := d - 1) (by omega) rfl) rfl rfl (Nat.le_of_ble_eq_true rfl) ⟨by omega, by decide⟩ ⟨Nat.le_refl _, Nat.le_refl _⟩ dX11_week_101 ?_
        refine e_iload_n 1 dX11_week_104 rfl rfl ?_
        refine e_icmp_ne (t := 119) dX11_week_105 (by decide) (fun c => ?_) (fun c => ?_)
        · replace hf := e_ie c hf
          refine e_iconst (v := 0) dX11_week_119 (by decide) ?_
          refine e_istore (lv' := [(8, .int _), (0, .ref _), (1, .int _), (2, .int _), (3, .int _), (4, .int _), (5, .int _), (7, .int _)]) dX11_week_120 (by decide) rfl ?_
          refine e_iload 0 dX11_week_122 rfl ?_
          refine e_if_eq (t := 132) dX11_week_124 (by decide) (fun _ => ?_) (fun c => absurd c (by decide))
          refine e_iload_n 4 dX11_week_132 rfl rfl ?_
          refine e_sub [1, 2, 3, 5, 6, 7, 0] rfl ?_
          exact m_X11_week_J133 hd ih hk154 _ _ _ _ _ _ _ _ _ hf
        · replace hf := e_it c hf
          refine e_iload 6 dX11_week_108 rfl ?_
          refine e_iload 4 dX11_week_110 rfl ?_
          refine e_icmp_ge (t := 119) dX11_week_112 (by decide) (fun c => ?_) (fun c => ?_)
          · replace hf := e_it c hf
            refine e_iconst (v := 0) dX11_week_119 (by decide) ?_
            refine e_istore (lv' := [(8, .int _), (0, .ref _), (1, .int _), (2, .int _), (3, .int _), (4, .int _), (5, .int _), (7, .int _)]) dX11_week_120 (by decide) rfl ?_
            refine e_iload 0 dX11_week_122 rfl ?_
            refine e_if_eq (t := 132) dX11_week_124 (by decide) (fun _ => ?_) (fun c => absurd c (by decide))
            refine e_iload_n 4 dX11_week_132 rfl rfl ?_
            refine e_sub [1, 2, 3, 5, 6, 7, 0] rfl ?_
            exact m_X11_week_J133 hd ih hk154 _ _ _ _ _ _ _ _ _ hf
          · replace hf := e_ie c hf
            refine e_iconst (v := 1) dX11_week_115 (by decide) ?_
            refine e_goto (t := 120) dX11_week_116 (by decide) ?_
            refine e_istore (lv' := [(8, .int _), (0, .ref _), (1, .int _), (2, .int _), (3, .int _), (4, .int _), (5, .int _), (7, .int _)]) dX11_week_120 (by decide) rfl ?_
            refine e_iload 0 dX11_week_122 rfl ?_
            refine e_if_eq (t := 132) dX11_week_124 (by decide) (fun c => absurd c (by decide)) (fun _ => ?_)
            refine e_iload 6 dX11_week_127 rfl ?_
            refine e_goto (t := 133) dX11_week_129 (by decide) ?_
            refine e_sub [1, 2, 3, 5, 6, 7, 0] rfl ?_
            exact m_X11_week_J133 hd ih hk154 _ _ _ _ _ _ _ _ _ hf
def f_X11_week (L : eL) (h : eH) (v0 : Nat) (v1 : Int32) (v2 : Int32) : Option (eH × Int32) :=
  if isO L v0 11 = true then
  if (f_X11_in v1.toInt64 0 7) = 0 then
    some (sI h v0 0 0, (-1))
  else
    if (f_X11_in v2.toInt64 1 9) = 0 then
      some (sI h v0 0 0, (-1))
    else
      f_X11_week_L41 L e_fu (fun (h10 : eH) (w0_11 : Nat) (w3_12 : Int32) (w4_13 : Int32) =>
        if isO L w0_11 11 = true then
        (f_X11_enters L (sI h10 w0_11 1 0) w0_11 w3_12.toInt64).bind fun r15 =>
        some (r15, w4_13)
        else none) (sI h v0 0 0) v0 v1 v2 (-1) 1000000 0
  else none
set_option maxRecDepth 100000 in
set_option maxHeartbeats 4000000 in
theorem m_X11_week {l : Launch} {d : Nat} {L : eL} {h : eH} {v0 : Nat} {v1 : Int32} {v2 : Int32} {r : eH × Int32} (hd : 2 ≤ d) (hf : f_X11_week L h v0 v1 v2 = some r) : e_Met l yX11_week cX11_week 9 (some .int) d 0 0 true L h [.ref v0, .int v1, .int v2] (Qx (some (.int r.2)) L r.1) := by
  refine e_metl (by decide) (Nat.le_of_ble_eq_true rfl) (lv := [(0, .ref v0), (1, .int v1), (2, .int v2)]) rfl ?_
  unfold f_X11_week at hf
  refine e_aload_n 0 dX11_week_0 rfl rfl ?_
  refine e_iconst (v := 0) dX11_week_1 (by decide) ?_
  obtain ⟨hO1, hf⟩ := e_if hf
  refine e_putI hO1 fc_11_0 rfl lk_RX11_3 dX11_week_2 ?_
  refine e_iload_n 1 dX11_week_5 rfl rfl ?_
  refine e_i2l dX11_week_6 ?_
  refine e_lconst (v := 0) dX11_week_7 (by decide) ?_
  refine e_ldc2 kc_RX11_245 dX11_week_8 ?_
  refine e_callS (st := []) ml_RX11_118 k_X11_in (m_X11_in (d := d - 1) (by omega) rfl) rfl rfl (Nat.le_of_ble_eq_true rfl) ⟨by omega, by decide⟩ ⟨Nat.le_refl _, Nat.le_refl _⟩ dX11_week_11 ?_
  refine e_if_eq (t := 29) dX11_week_14 (by decide) (fun c => ?_) (fun c => ?_)
  · replace hf := e_it c hf
    refine e_iconst (v := (-1)) dX11_week_29 (by decide) ?_
    exact e_iret rfl dX11_week_30 (qW hf)
  · replace hf := e_ie c hf
    refine e_iload_n 2 dX11_week_17 rfl rfl ?_
    refine e_i2l dX11_week_18 ?_
    refine e_lconst (v := 1) dX11_week_19 (by decide) ?_
    refine e_ldc2 kc_RX11_380 dX11_week_20 ?_
    refine e_callS (st := []) ml_RX11_118 k_X11_in (m_X11_in (d := d - 1) (by omega) rfl) rfl rfl (Nat.le_of_ble_eq_true rfl) ⟨by omega, by decide⟩ ⟨Nat.le_refl _, Nat.le_refl _⟩ dX11_week_23 ?_
    refine e_if_ne (t := 31) dX11_week_26 (by decide) (fun c => ?_) (fun c => ?_)
    · replace hf := e_ie c hf
      refine e_iconst (v := (-1)) dX11_week_31 (by decide) ?_
      refine e_istore_n (lv' := [(3, .int _), (0, .ref _), (1, .int _), (2, .int _)]) dX11_week_32 rfl (by decide) rfl ?_
      refine e_ldcw kc_RX11_339 dX11_week_33 ?_
      refine e_istore (lv' := [(4, .int _), (3, .int _), (0, .ref _), (1, .int _), (2, .int _)]) dX11_week_36 (by decide) rfl ?_
      refine e_iconst (v := 0) dX11_week_38 (by decide) ?_
      refine e_istore (lv' := [(5, .int _), (4, .int _), (3, .int _), (0, .ref _), (1, .int _), (2, .int _)]) dX11_week_39 (by decide) rfl ?_
      refine e_sub [3, 4, 5, 2, 1, 0] rfl ?_
      refine m_X11_week_L41 hd ?_ e_fu _ _ _ _ _ _ _ hf
      · intro h10 w0_11 w3_12 w4_13 hf
        refine e_aload_n 0 dX11_week_154 rfl rfl ?_
        refine e_iconst (v := 0) dX11_week_155 (by decide) ?_
        obtain ⟨hO14, hf⟩ := e_if hf
        refine e_putI hO14 fc_11_1 rfl lk_RX11_15 dX11_week_156 ?_
        refine e_aload_n 0 dX11_week_159 rfl rfl ?_
        refine e_iload_n 1 dX11_week_160 rfl rfl ?_
        refine e_i2l dX11_week_161 ?_
        obtain ⟨r15, hr16, hf⟩ := e_bd hf
        refine e_callV (st := []) ml_RX11_18 k_X11_enters (m_X11_enters (d := d - 1) (by omega) hr16) hO14 ⟨by decide, rfl⟩ rfl rfl (Nat.le_of_ble_eq_true rfl) ⟨by omega, by decide⟩ ⟨Nat.le_refl _, Nat.le_refl _⟩ dX11_week_162 ?_
        refine e_iload 2 dX11_week_165 rfl ?_
        exact e_iret rfl dX11_week_167 (qW hf)
    · replace hf := e_it c hf
      refine e_iconst (v := (-1)) dX11_week_29 (by decide) ?_
      exact e_iret rfl dX11_week_30 (qW hf)
def f_X11_turnedTo (L : eL) (h : eH) (v0 : Nat) (v1 : Int32) (v2 : Int32) : Option Int32 :=
  if isO L v0 11 = true then
  if (gI h v0 4) = 0 then none else
  if (gI h v0 4) = 0 then none else
  if v2 = 1 then
    some (((((v1 - v1 / (gI h v0 4) * (gI h v0 4)) * (gI h v0 4)) + (gI h v0 4)) - 1) - (v1 / (gI h v0 4)))
  else if v2 = 2 then
    some (((((((gI h v0 3) - 1) - (v1 / (gI h v0 4))) * (gI h v0 4)) + (gI h v0 4)) - 1) - (v1 - v1 / (gI h v0 4) * (gI h v0 4)))
  else if v2 = 3 then
    some (((((gI h v0 4) - 1) - (v1 - v1 / (gI h v0 4) * (gI h v0 4))) * (gI h v0 4)) + (v1 / (gI h v0 4)))
  else
    some (((((v1 / (gI h v0 4)) * (gI h v0 4)) + (gI h v0 4)) - 1) - (v1 - v1 / (gI h v0 4) * (gI h v0 4)))
  else none
set_option maxRecDepth 100000 in
set_option maxHeartbeats 4000000 in
theorem m_X11_turnedTo {l : Launch} {d : Nat} {L : eL} {h : eH} {v0 : Nat} {v1 : Int32} {v2 : Int32} {r : Int32} (hd : 1 ≤ d) (hf : f_X11_turnedTo L h v0 v1 v2 = some r) : e_Met l yX11_turnedTo cX11_turnedTo 5 (some .int) d 0 0 true L h [.ref v0, .int v1, .int v2] (Qx (some (.int r)) L h) := by
  refine e_metl (by decide) (Nat.le_of_ble_eq_true rfl) (lv := [(0, .ref v0), (1, .int v1), (2, .int v2)]) rfl ?_
  unfold f_X11_turnedTo at hf
  refine e_iload_n 1 dX11_turnedTo_0 rfl rfl ?_
  refine e_aload_n 0 dX11_turnedTo_1 rfl rfl ?_
  obtain ⟨hO1, hf⟩ := e_if hf
  refine e_getI hO1 fc_11_4 lk_RX11_31 dX11_turnedTo_2 ?_
  obtain ⟨hz2, hf⟩ := e_ifp hf
  refine e_idiv dX11_turnedTo_5 hz2 ?_
  refine e_istore_n (lv' := [(3, .int _), (0, .ref _), (1, .int _), (2, .int _)]) dX11_turnedTo_6 rfl (by decide) rfl ?_
  refine e_iload_n 2 dX11_turnedTo_7 rfl rfl ?_
  refine e_aload_n 1 dX11_turnedTo_8 rfl rfl ?_
  refine e_getI hO1 fc_11_4 lk_RX11_31 dX11_turnedTo_9 ?_
  obtain ⟨hz3, hf⟩ := e_ifp hf
  refine e_irem dX11_turnedTo_12 hz3 ?_
  refine e_istore (lv' := [(4, .int _), (3, .int _), (0, .ref _), (1, .int _), (2, .int _)]) dX11_turnedTo_13 (by decide) rfl ?_
  refine e_iload_n 4 dX11_turnedTo_15 rfl rfl ?_
  by_cases c1 : v2 = 1
  · replace hf := e_it c1 hf
    refine e_tabIn (t := 44) dX11_turnedTo_16 (by rw [c1]; decide) (by rw [c1]; decide) (by first | (rw [c1]; done) | (rw [c1]; rfl)) (by decide) ?_
    refine e_iload 0 dX11_turnedTo_44 rfl ?_
    refine e_aload_n 2 dX11_turnedTo_46 rfl rfl ?_
    refine e_getI hO1 fc_11_4 lk_RX11_31 dX11_turnedTo_47 ?_
    refine e_imul dX11_turnedTo_50 ?_
    refine e_aload_n 2 dX11_turnedTo_51 rfl rfl ?_
    refine e_getI hO1 fc_11_4 lk_RX11_31 dX11_turnedTo_52 ?_
    refine e_iadd dX11_turnedTo_55 ?_
    refine e_iconst (v := 1) dX11_turnedTo_56 (by decide) ?_
    refine e_isub dX11_turnedTo_57 ?_
    refine e_iload_n 1 dX11_turnedTo_58 rfl rfl ?_
    refine e_isub dX11_turnedTo_59 ?_
    exact e_iret rfl dX11_turnedTo_60 (qP hf)
  replace hf := e_ie c1 hf
  by_cases c2 : v2 = 2
  · replace hf := e_it c2 hf
    refine e_tabIn (t := 61) dX11_turnedTo_16 (by rw [c2]; decide) (by rw [c2]; decide) (by first | (rw [c2]; done) | (rw [c2]; rfl)) (by decide) ?_
    refine e_aload_n 2 dX11_turnedTo_61 rfl rfl ?_
    refine e_getI hO1 fc_11_3 lk_RX11_28 dX11_turnedTo_62 ?_
    refine e_iconst (v := 1) dX11_turnedTo_65 (by decide) ?_
    refine e_isub dX11_turnedTo_66 ?_
    refine e_iload_n 1 dX11_turnedTo_67 rfl rfl ?_
    refine e_isub dX11_turnedTo_68 ?_
    refine e_aload_n 2 dX11_turnedTo_69 rfl rfl ?_
    refine e_getI hO1 fc_11_4 lk_RX11_31 dX11_turnedTo_70 ?_
    refine e_imul dX11_turnedTo_73 ?_
    refine e_aload_n 2 dX11_turnedTo_74 rfl rfl ?_
    refine e_getI hO1 fc_11_4 lk_RX11_31 dX11_turnedTo_75 ?_
    refine e_iadd dX11_turnedTo_78 ?_
    refine e_iconst (v := 1) dX11_turnedTo_79 (by decide) ?_
    refine e_isub dX11_turnedTo_80 ?_
    refine e_iload 0 dX11_turnedTo_81 rfl ?_
    refine e_isub dX11_turnedTo_83 ?_
    exact e_iret rfl dX11_turnedTo_84 (qP hf)
  replace hf := e_ie c2 hf
  by_cases c3 : v2 = 3
  · replace hf := e_it c3 hf
    refine e_tabIn (t := 85) dX11_turnedTo_16 (by rw [c3]; decide) (by rw [c3]; decide) (by first | (rw [c3]; done) | (rw [c3]; rfl)) (by decide) ?_
    refine e_aload_n 2 dX11_turnedTo_85 rfl rfl ?_
    refine e_getI hO1 fc_11_4 lk_RX11_31 dX11_turnedTo_86 ?_
    refine e_iconst (v := 1) dX11_turnedTo_89 (by decide) ?_
    refine e_isub dX11_turnedTo_90 ?_
    refine e_iload 0 dX11_turnedTo_91 rfl ?_
    refine e_isub dX11_turnedTo_93 ?_
    refine e_aload_n 2 dX11_turnedTo_94 rfl rfl ?_
    refine e_getI hO1 fc_11_4 lk_RX11_31 dX11_turnedTo_95 ?_
    refine e_imul dX11_turnedTo_98 ?_
    refine e_iload_n 1 dX11_turnedTo_99 rfl rfl ?_
    refine e_iadd dX11_turnedTo_100 ?_
    exact e_iret rfl dX11_turnedTo_101 (qP hf)
  replace hf := e_ie c3 hf
  refine e_tabOut (t := 102) dX11_turnedTo_16 (e_out (fun j j1 j2 => by
      have j3 : j = 1 ∨ j = 2 ∨ j = 3 := by omega
      rcases j3 with rfl | rfl | rfl <;> assumption)) (by decide) ?_
  refine e_iload_n 1 dX11_turnedTo_102 rfl rfl ?_
  refine e_aload_n 2 dX11_turnedTo_103 rfl rfl ?_
  refine e_getI hO1 fc_11_4 lk_RX11_31 dX11_turnedTo_104 ?_
  refine e_imul dX11_turnedTo_107 ?_
  refine e_aload_n 2 dX11_turnedTo_108 rfl rfl ?_
  refine e_getI hO1 fc_11_4 lk_RX11_31 dX11_turnedTo_109 ?_
  refine e_iadd dX11_turnedTo_112 ?_
  refine e_iconst (v := 1) dX11_turnedTo_113 (by decide) ?_
  refine e_isub dX11_turnedTo_114 ?_
  refine e_iload 0 dX11_turnedTo_115 rfl ?_
  refine e_isub dX11_turnedTo_117 ?_
  exact e_iret rfl dX11_turnedTo_118 (qP hf)
def f_X11_looksSame_L25 (L : eL) (h : eH) : Nat → (Int32 → Option Int32) → Nat → Int32 → Int32 → Int32 → Option Int32
  | 0, _, _, _, _, _ => none
  | n + 1, k69, v0, v1, v2, v3 =>
    if isO L v0 11 = true then
    (f_X11_spots L h v0).bind fun r2 =>
    if r2 ≤ v3 then
      k69 v2
    else
      if v2 = 0 then
        k69 v2
      else
        (gR h v0 6).bind fun b4 =>
        if inA L b4 0 v3 = true then
        (gR h v0 6).bind fun b7 =>
        (f_X11_turnedTo L h v0 v3 v1).bind fun r9 =>
        if inA L b7 0 r9 = true then
        if (gI h b4 v3.toNatClampNeg) = (gI h b7 r9.toNatClampNeg) then
          f_X11_looksSame_L25 L h n k69 v0 v1 1 (v3 + Int32.ofInt 1)
        else
          f_X11_looksSame_L25 L h n k69 v0 v1 0 (v3 + Int32.ofInt 1)
        else none
        else none
    else none
set_option maxRecDepth 100000 in
set_option maxHeartbeats 4000000 in
theorem m_X11_looksSame_L25 {l : Launch} {d : Nat} {L : eL} {h : eH} {r : Int32} {k69 : Int32 → Option Int32} (hd : 2 ≤ d) (hk69 : ∀ (v2 : Int32), k69 v2 = some r → E l yX11_looksSame cX11_looksSame 4 (some .boolean) (e_rm d 0 0) 0 0 true L (Qx (some (.int r)) L h) L h 0 0 69 [(2, .int v2)] []) : ∀ (n : Nat) (v0 : Nat) (v1 : Int32) (v2 : Int32) (v3 : Int32), f_X11_looksSame_L25 L h n k69 v0 v1 v2 v3 = some r → E l yX11_looksSame cX11_looksSame 4 (some .boolean) (e_rm d 0 0) 0 0 true L (Qx (some (.int r)) L h) L h 0 0 25 [(0, .ref v0), (1, .int v1), (2, .int v2), (3, .int v3)] [] := by
  intro n
  induction n with
  | zero => intro v0 v1 v2 v3 hf; exact absurd hf (by simp [f_X11_looksSame_L25])
  | succ n ih =>
    intro v0 v1 v2 v3 hf
    unfold f_X11_looksSame_L25 at hf
    refine e_iload_n 3 dX11_looksSame_25 rfl rfl ?_
    refine e_aload_n 0 dX11_looksSame_26 rfl rfl ?_
    obtain ⟨hO1, hf⟩ := e_if hf
    obtain ⟨r2, hr3, hf⟩ := e_bd hf
    refine e_callV (st := [.int _]) ml_RX11_114 k_X11_spots (m_X11_spots (d := d - 1) (by omega) hr3) hO1 ⟨by decide, rfl⟩ rfl rfl (Nat.le_of_ble_eq_true rfl) ⟨by omega, by decide⟩ ⟨Nat.le_refl _, Nat.le_refl _⟩ dX11_looksSame_27 ?_
    refine e_icmp_ge (t := 69) dX11_looksSame_30 (by decide) (fun c => ?_) (fun c => ?_)
    · replace hf := e_it c hf
      refine e_sub [2] rfl ?_
      exact hk69 _ hf
    · replace hf := e_ie c hf
      refine e_iload_n 2 dX11_looksSame_33 rfl rfl ?_
      refine e_if_eq (t := 69) dX11_looksSame_34 (by decide) (fun c => ?_) (fun c => ?_)
      · replace hf := e_it c hf
        refine e_sub [2] rfl ?_
        exact hk69 _ hf
      · replace hf := e_ie c hf
        refine e_aload_n 0 dX11_looksSame_37 rfl rfl ?_
        obtain ⟨b4, hb5, hf⟩ := e_bd hf
        refine e_getR hO1 fc_11_6 lk_RX11_37 dX11_looksSame_38 hb5 ?_
        refine e_iload_n 3 dX11_looksSame_41 rfl rfl ?_
        obtain ⟨hI6, hf⟩ := e_if hf
        refine e_iald hI6 dX11_looksSame_42 ?_
        refine e_aload_n 0 dX11_looksSame_43 rfl rfl ?_
        obtain ⟨b7, hb8, hf⟩ := e_bd hf
        refine e_getR hO1 fc_11_6 lk_RX11_37 dX11_looksSame_44 hb8 ?_
        refine e_aload_n 0 dX11_looksSame_47 rfl rfl ?_
        refine e_iload_n 3 dX11_looksSame_48 rfl rfl ?_
        refine e_iload_n 1 dX11_looksSame_49 rfl rfl ?_
        obtain ⟨r9, hr10, hf⟩ := e_bd hf
        refine e_callV (st := [.ref _, .int _]) ml_RX11_386 k_X11_turnedTo (m_X11_turnedTo (d := d - 1) (by omega) hr10) hO1 ⟨by decide, rfl⟩ rfl rfl (Nat.le_of_ble_eq_true rfl) ⟨by omega, by decide⟩ ⟨Nat.le_refl _, Nat.le_refl _⟩ dX11_looksSame_50 ?_
        obtain ⟨hI11, hf⟩ := e_if hf
        refine e_iald hI11 dX11_looksSame_53 ?_
        refine e_icmp_ne (t := 61) dX11_looksSame_54 (by decide) (fun c => ?_) (fun c => ?_)
        · replace hf := e_ie c hf
          refine e_iconst (v := 0) dX11_looksSame_61 (by decide) ?_
          refine e_istore_n (lv' := [(2, .int _), (0, .ref _), (1, .int _), (3, .int _)]) dX11_looksSame_62 rfl (by decide) rfl ?_
          refine e_iinc (lv' := [(3, .int _), (2, .int _), (0, .ref _), (1, .int _)]) 3 dX11_looksSame_63 rfl (by decide) rfl ?_
          refine e_goto (t := 25) dX11_looksSame_66 (by decide) ?_
          refine e_sub [2, 3, 1, 0] rfl ?_
          exact ih _ _ _ _ hf
        · replace hf := e_it c hf
          refine e_iconst (v := 1) dX11_looksSame_57 (by decide) ?_
          refine e_goto (t := 62) dX11_looksSame_58 (by decide) ?_
          refine e_istore_n (lv' := [(2, .int _), (0, .ref _), (1, .int _), (3, .int _)]) dX11_looksSame_62 rfl (by decide) rfl ?_
          refine e_iinc (lv' := [(3, .int _), (2, .int _), (0, .ref _), (1, .int _)]) 3 dX11_looksSame_63 rfl (by decide) rfl ?_
          refine e_goto (t := 25) dX11_looksSame_66 (by decide) ?_
          refine e_sub [2, 3, 1, 0] rfl ?_
          exact ih _ _ _ _ hf
def f_X11_looksSame (L : eL) (h : eH) (v0 : Nat) (v1 : Int32) : Option Int32 :=
  if (v1 - v1 / 2 * 2) = 0 then
    f_X11_looksSame_L25 L h e_fu (fun (w2_12 : Int32) =>
      if isB w2_12 = true then
      some w2_12
      else none) v0 v1 1 0
  else
    if isO L v0 11 = true then
    if (gI h v0 3) = (gI h v0 4) then
      f_X11_looksSame_L25 L h e_fu (fun (w2_17 : Int32) =>
        if isB w2_17 = true then
        some w2_17
        else none) v0 v1 1 0
    else
      f_X11_looksSame_L25 L h e_fu (fun (w2_15 : Int32) =>
        if isB w2_15 = true then
        some w2_15
        else none) v0 v1 0 0
    else none
set_option maxRecDepth 100000 in
set_option maxHeartbeats 4000000 in
theorem m_X11_looksSame {l : Launch} {d : Nat} {L : eL} {h : eH} {v0 : Nat} {v1 : Int32} {r : Int32} (hd : 2 ≤ d) (hf : f_X11_looksSame L h v0 v1 = some r) : e_Met l yX11_looksSame cX11_looksSame 4 (some .boolean) d 0 0 true L h [.ref v0, .int v1] (Qx (some (.int r)) L h) := by
  refine e_metl (by decide) (Nat.le_of_ble_eq_true rfl) (lv := [(0, .ref v0), (1, .int v1)]) rfl ?_
  unfold f_X11_looksSame at hf
  refine e_iload_n 1 dX11_looksSame_0 rfl rfl ?_
  refine e_iconst (v := 2) dX11_looksSame_1 (by decide) ?_
  refine e_irem dX11_looksSame_2 (by decide) ?_
  refine e_if_eq (t := 17) dX11_looksSame_3 (by decide) (fun c => ?_) (fun c => ?_)
  · replace hf := e_it c hf
    refine e_iconst (v := 1) dX11_looksSame_17 (by decide) ?_
    refine e_goto (t := 22) dX11_looksSame_18 (by decide) ?_
    refine e_istore_n (lv' := [(2, .int _), (0, .ref _), (1, .int _)]) dX11_looksSame_22 rfl (by decide) rfl ?_
    refine e_iconst (v := 0) dX11_looksSame_23 (by decide) ?_
    refine e_istore_n (lv' := [(3, .int _), (2, .int _), (0, .ref _), (1, .int _)]) dX11_looksSame_24 rfl (by decide) rfl ?_
    refine e_sub [2, 3, 1, 0] rfl ?_
    refine m_X11_looksSame_L25 hd ?_ e_fu _ _ _ _ hf
    · intro w2_12 hf
      refine e_iload_n 0 dX11_looksSame_69 rfl rfl ?_
      obtain ⟨hB13, hf⟩ := e_if hf
      exact e_zret (ty := .boolean) rfl (isB_n hB13) dX11_looksSame_70 (qP hf)
  · replace hf := e_ie c hf
    refine e_aload_n 0 dX11_looksSame_6 rfl rfl ?_
    obtain ⟨hO14, hf⟩ := e_if hf
    refine e_getI hO14 fc_11_3 lk_RX11_28 dX11_looksSame_7 ?_
    refine e_aload_n 0 dX11_looksSame_10 rfl rfl ?_
    refine e_getI hO14 fc_11_4 lk_RX11_31 dX11_looksSame_11 ?_
    refine e_icmp_ne (t := 21) dX11_looksSame_14 (by decide) (fun c => ?_) (fun c => ?_)
    · replace hf := e_ie c hf
      refine e_iconst (v := 0) dX11_looksSame_21 (by decide) ?_
      refine e_istore_n (lv' := [(2, .int _), (0, .ref _), (1, .int _)]) dX11_looksSame_22 rfl (by decide) rfl ?_
      refine e_iconst (v := 0) dX11_looksSame_23 (by decide) ?_
      refine e_istore_n (lv' := [(3, .int _), (2, .int _), (0, .ref _), (1, .int _)]) dX11_looksSame_24 rfl (by decide) rfl ?_
      refine e_sub [2, 3, 1, 0] rfl ?_
      refine m_X11_looksSame_L25 hd ?_ e_fu _ _ _ _ hf
      · intro w2_15 hf
        refine e_iload_n 0 dX11_looksSame_69 rfl rfl ?_
        obtain ⟨hB16, hf⟩ := e_if hf
        exact e_zret (ty := .boolean) rfl (isB_n hB16) dX11_looksSame_70 (qP hf)
    · replace hf := e_it c hf
      refine e_iconst (v := 1) dX11_looksSame_17 (by decide) ?_
      refine e_goto (t := 22) dX11_looksSame_18 (by decide) ?_
      refine e_istore_n (lv' := [(2, .int _), (0, .ref _), (1, .int _)]) dX11_looksSame_22 rfl (by decide) rfl ?_
      refine e_iconst (v := 0) dX11_looksSame_23 (by decide) ?_
      refine e_istore_n (lv' := [(3, .int _), (2, .int _), (0, .ref _), (1, .int _)]) dX11_looksSame_24 rfl (by decide) rfl ?_
      refine e_sub [2, 3, 1, 0] rfl ?_
      refine m_X11_looksSame_L25 hd ?_ e_fu _ _ _ _ hf
      · intro w2_17 hf
        refine e_iload_n 0 dX11_looksSame_69 rfl rfl ?_
        obtain ⟨hB18, hf⟩ := e_if hf
        exact e_zret (ty := .boolean) rfl (isB_n hB18) dX11_looksSame_70 (qP hf)
def f_X11_looks_L9 (L : eL) : Nat → (eH → Nat → Int32 → Option (eH × Int32)) → eH → Nat → Int32 → Int32 → Option (eH × Int32)
  | 0, _, _, _, _, _ => none
  | n + 1, k38, h, v0, v1, v2 =>
    if 3 < v2 then
      k38 h v0 v1
    else
      if isO L v0 11 = true then
      (f_X11_looksSame L h v0 v2).bind fun r3 =>
      if r3 = 0 then
        f_X11_looks_L9 L n k38 h v0 (v1 ||| 0) (v2 + Int32.ofInt 1)
      else
        f_X11_looks_L9 L n k38 h v0 (v1 ||| (1 <<< (v2 &&& 31))) (v2 + Int32.ofInt 1)
      else none
set_option maxRecDepth 100000 in
set_option maxHeartbeats 4000000 in
theorem m_X11_looks_L9 {l : Launch} {d : Nat} {L : eL}  {r : eH × Int32} {k38 : eH → Nat → Int32 → Option (eH × Int32)} (hd : 3 ≤ d) (hk38 : ∀ (h : eH) (v0 : Nat) (v1 : Int32), k38 h v0 v1 = some r → E l yX11_looks cX11_looks 3 (some .int) (e_rm d 0 0) 0 0 true L (Qx (some (.int r.2)) L r.1) L h 0 0 38 [(0, .ref v0), (1, .int v1)] []) : ∀ (n : Nat) (h : eH) (v0 : Nat) (v1 : Int32) (v2 : Int32), f_X11_looks_L9 L n k38 h v0 v1 v2 = some r → E l yX11_looks cX11_looks 3 (some .int) (e_rm d 0 0) 0 0 true L (Qx (some (.int r.2)) L r.1) L h 0 0 9 [(0, .ref v0), (1, .int v1), (2, .int v2)] [] := by
  intro n
  induction n with
  | zero => intro h v0 v1 v2 hf; exact absurd hf (by simp [f_X11_looks_L9])
  | succ n ih =>
    intro h v0 v1 v2 hf
    unfold f_X11_looks_L9 at hf
    refine e_iload_n 2 dX11_looks_9 rfl rfl ?_
    refine e_iconst (v := 3) dX11_looks_10 (by decide) ?_
    refine e_icmp_gt (t := 38) dX11_looks_11 (by decide) (fun c => ?_) (fun c => ?_)
    · replace hf := e_it c hf
      refine e_sub [0, 1] rfl ?_
      exact hk38 _ _ _ hf
    · replace hf := e_ie c hf
      refine e_iload_n 1 dX11_looks_14 rfl rfl ?_
      refine e_aload_n 0 dX11_looks_15 rfl rfl ?_
      refine e_iload_n 2 dX11_looks_16 rfl rfl ?_
      obtain ⟨hO2, hf⟩ := e_if hf
      obtain ⟨r3, hr4, hf⟩ := e_bd hf
      refine e_callV (st := [.int _]) ml_RX11_389 k_X11_looksSame (m_X11_looksSame (d := d - 1) (by omega) hr4) hO2 ⟨by decide, rfl⟩ rfl rfl (Nat.le_of_ble_eq_true rfl) ⟨by omega, by decide⟩ ⟨Nat.le_refl _, Nat.le_refl _⟩ dX11_looks_17 ?_
      refine e_if_eq (t := 29) dX11_looks_20 (by decide) (fun c => ?_) (fun c => ?_)
      · replace hf := e_it c hf
        refine e_iconst (v := 0) dX11_looks_29 (by decide) ?_
        refine e_ior dX11_looks_30 ?_
        refine e_istore_n (lv' := [(1, .int _), (0, .ref _), (2, .int _)]) dX11_looks_31 rfl (by decide) rfl ?_
        refine e_iinc (lv' := [(2, .int _), (1, .int _), (0, .ref _)]) 2 dX11_looks_32 rfl (by decide) rfl ?_
        refine e_goto (t := 9) dX11_looks_35 (by decide) ?_
        refine e_sub [2, 1, 0] rfl ?_
        exact ih _ _ _ _ hf
      · replace hf := e_ie c hf
        refine e_iconst (v := 1) dX11_looks_23 (by decide) ?_
        refine e_iload_n 2 dX11_looks_24 rfl rfl ?_
        refine e_ishl dX11_looks_25 ?_
        refine e_goto (t := 30) dX11_looks_26 (by decide) ?_
        refine e_ior dX11_looks_30 ?_
        refine e_istore_n (lv' := [(1, .int _), (0, .ref _), (2, .int _)]) dX11_looks_31 rfl (by decide) rfl ?_
        refine e_iinc (lv' := [(2, .int _), (1, .int _), (0, .ref _)]) 2 dX11_looks_32 rfl (by decide) rfl ?_
        refine e_goto (t := 9) dX11_looks_35 (by decide) ?_
        refine e_sub [2, 1, 0] rfl ?_
        exact ih _ _ _ _ hf
def f_X11_looks (L : eL) (h : eH) (v0 : Nat) : Option (eH × Int32) :=
  if isO L v0 11 = true then
  f_X11_looks_L9 L e_fu (fun (h5 : eH) (w0_6 : Nat) (w1_7 : Int32) =>
    if isO L w0_6 11 = true then
    (f_X11_enters L (sI h5 w0_6 1 0) w0_6 ((f_J6_bitCount_0f7a4 w1_7).toInt64)).bind fun r9 =>
    (f_X11_looksSame L r9 w0_6 4).bind fun r11 =>
    (f_X11_enters L r9 w0_6 ((f_X11_flag r11).toInt64)).bind fun r13 =>
    some (r13, w1_7)
    else none) (sI h v0 0 0) v0 0 1
  else none
set_option maxRecDepth 100000 in
set_option maxHeartbeats 4000000 in
theorem m_X11_looks {l : Launch} {d : Nat} {L : eL} {h : eH} {v0 : Nat} {r : eH × Int32} (hd : 3 ≤ d) (hf : f_X11_looks L h v0 = some r) : e_Met l yX11_looks cX11_looks 3 (some .int) d 0 0 true L h [.ref v0] (Qx (some (.int r.2)) L r.1) := by
  refine e_metl (by decide) (Nat.le_of_ble_eq_true rfl) (lv := [(0, .ref v0)]) rfl ?_
  unfold f_X11_looks at hf
  refine e_aload_n 0 dX11_looks_0 rfl rfl ?_
  refine e_iconst (v := 0) dX11_looks_1 (by decide) ?_
  obtain ⟨hO1, hf⟩ := e_if hf
  refine e_putI hO1 fc_11_0 rfl lk_RX11_3 dX11_looks_2 ?_
  refine e_iconst (v := 0) dX11_looks_5 (by decide) ?_
  refine e_istore_n (lv' := [(1, .int _), (0, .ref _)]) dX11_looks_6 rfl (by decide) rfl ?_
  refine e_iconst (v := 1) dX11_looks_7 (by decide) ?_
  refine e_istore_n (lv' := [(2, .int _), (1, .int _), (0, .ref _)]) dX11_looks_8 rfl (by decide) rfl ?_
  refine e_sub [2, 1, 0] rfl ?_
  refine m_X11_looks_L9 hd ?_ e_fu _ _ _ _ hf
  · intro h5 w0_6 w1_7 hf
    refine e_aload_n 0 dX11_looks_38 rfl rfl ?_
    refine e_iconst (v := 0) dX11_looks_39 (by decide) ?_
    obtain ⟨hO8, hf⟩ := e_if hf
    refine e_putI hO8 fc_11_1 rfl lk_RX11_15 dX11_looks_40 ?_
    refine e_aload_n 0 dX11_looks_43 rfl rfl ?_
    refine e_iload_n 1 dX11_looks_44 rfl rfl ?_
    refine e_callS (st := [.ref _]) ml_RX11_382 k_J6_bitCount_0f7a4 (m_J6_bitCount_0f7a4 (d := d - 1) (by omega) rfl) rfl rfl (Nat.le_of_ble_eq_true rfl) ⟨by omega, by decide⟩ ⟨Nat.le_refl _, Nat.le_refl _⟩ dX11_looks_45 ?_
    refine e_i2l dX11_looks_48 ?_
    obtain ⟨r9, hr10, hf⟩ := e_bd hf
    refine e_callV (st := []) ml_RX11_18 k_X11_enters (m_X11_enters (d := d - 1) (by omega) hr10) hO8 ⟨by decide, rfl⟩ rfl rfl (Nat.le_of_ble_eq_true rfl) ⟨by omega, by decide⟩ ⟨Nat.le_refl _, Nat.le_refl _⟩ dX11_looks_49 ?_
    refine e_aload_n 0 dX11_looks_52 rfl rfl ?_
    refine e_aload_n 0 dX11_looks_53 rfl rfl ?_
    refine e_iconst (v := 4) dX11_looks_54 (by decide) ?_
    obtain ⟨r11, hr12, hf⟩ := e_bd hf
    refine e_callV (st := [.ref _]) ml_RX11_389 k_X11_looksSame (m_X11_looksSame (d := d - 1) (by omega) hr12) hO8 ⟨by decide, rfl⟩ rfl rfl (Nat.le_of_ble_eq_true rfl) ⟨by omega, by decide⟩ ⟨Nat.le_refl _, Nat.le_refl _⟩ dX11_looks_55 ?_
    refine e_callS (st := [.ref _]) ml_RX11_122 k_X11_flag (m_X11_flag (d := d - 1) (by omega) rfl) rfl rfl (Nat.le_of_ble_eq_true rfl) ⟨by omega, by decide⟩ ⟨Nat.le_refl _, Nat.le_refl _⟩ dX11_looks_58 ?_
    refine e_i2l dX11_looks_61 ?_
    obtain ⟨r13, hr14, hf⟩ := e_bd hf
    refine e_callV (st := []) ml_RX11_18 k_X11_enters (m_X11_enters (d := d - 1) (by omega) hr14) hO8 ⟨by decide, rfl⟩ rfl rfl (Nat.le_of_ble_eq_true rfl) ⟨by omega, by decide⟩ ⟨Nat.le_refl _, Nat.le_refl _⟩ dX11_looks_62 ?_
    refine e_iload_n 1 dX11_looks_65 rfl rfl ?_
    exact e_iret rfl dX11_looks_66 (qW hf)
def f_X11_dustyMany_L4 (L : eL) (h : eH) : Nat → (Int32 → Option Int32) → Nat → Int32 → Int32 → Option Int32
  | 0, _, _, _, _ => none
  | n + 1, k38, v0, v1, v2 =>
    if isO L v0 11 = true then
    (f_X11_spots L h v0).bind fun r2 =>
    if r2 ≤ v2 then
      k38 v1
    else
      (gR h v0 7).bind fun b4 =>
      if inA L b4 0 v2 = true then
      if (gI h b4 v2.toNatClampNeg) ≤ 0 then
        f_X11_dustyMany_L4 L h n k38 v0 (v1 + (f_X11_flag 0)) (v2 + Int32.ofInt 1)
      else
        f_X11_dustyMany_L4 L h n k38 v0 (v1 + (f_X11_flag 1)) (v2 + Int32.ofInt 1)
      else none
    else none
set_option maxRecDepth 100000 in
set_option maxHeartbeats 4000000 in
theorem m_X11_dustyMany_L4 {l : Launch} {d : Nat} {L : eL} {h : eH} {r : Int32} {k38 : Int32 → Option Int32} (hd : 2 ≤ d) (hk38 : ∀ (v1 : Int32), k38 v1 = some r → E l yX11_dustyMany cX11_dustyMany 3 (some .int) (e_rm d 0 0) 0 0 true L (Qx (some (.int r)) L h) L h 0 0 38 [(1, .int v1)] []) : ∀ (n : Nat) (v0 : Nat) (v1 : Int32) (v2 : Int32), f_X11_dustyMany_L4 L h n k38 v0 v1 v2 = some r → E l yX11_dustyMany cX11_dustyMany 3 (some .int) (e_rm d 0 0) 0 0 true L (Qx (some (.int r)) L h) L h 0 0 4 [(0, .ref v0), (1, .int v1), (2, .int v2)] [] := by
  intro n
  induction n with
  | zero => intro v0 v1 v2 hf; exact absurd hf (by simp [f_X11_dustyMany_L4])
  | succ n ih =>
    intro v0 v1 v2 hf
    unfold f_X11_dustyMany_L4 at hf
    refine e_iload_n 2 dX11_dustyMany_4 rfl rfl ?_
    refine e_aload_n 0 dX11_dustyMany_5 rfl rfl ?_
    obtain ⟨hO1, hf⟩ := e_if hf
    obtain ⟨r2, hr3, hf⟩ := e_bd hf
    refine e_callV (st := [.int _]) ml_RX11_114 k_X11_spots (m_X11_spots (d := d - 1) (by omega) hr3) hO1 ⟨by decide, rfl⟩ rfl rfl (Nat.le_of_ble_eq_true rfl) ⟨by omega, by decide⟩ ⟨Nat.le_refl _, Nat.le_refl _⟩ dX11_dustyMany_6 ?_
    refine e_icmp_ge (t := 38) dX11_dustyMany_9 (by decide) (fun c => ?_) (fun c => ?_)
    · replace hf := e_it c hf
      refine e_sub [1] rfl ?_
      exact hk38 _ hf
    · replace hf := e_ie c hf
      refine e_iload_n 1 dX11_dustyMany_12 rfl rfl ?_
      refine e_aload_n 0 dX11_dustyMany_13 rfl rfl ?_
      obtain ⟨b4, hb5, hf⟩ := e_bd hf
      refine e_getR hO1 fc_11_7 lk_RX11_41 dX11_dustyMany_14 hb5 ?_
      refine e_iload_n 2 dX11_dustyMany_17 rfl rfl ?_
      obtain ⟨hI6, hf⟩ := e_if hf
      refine e_iald hI6 dX11_dustyMany_18 ?_
      refine e_if_le (t := 26) dX11_dustyMany_19 (by decide) (fun c => ?_) (fun c => ?_)
      · replace hf := e_it c hf
        refine e_iconst (v := 0) dX11_dustyMany_26 (by decide) ?_
        refine e_callS (st := [.int _]) ml_RX11_122 k_X11_flag (m_X11_flag (d := d - 1) (by omega) rfl) rfl rfl (Nat.le_of_ble_eq_true rfl) ⟨by omega, by decide⟩ ⟨Nat.le_refl _, Nat.le_refl _⟩ dX11_dustyMany_27 ?_
        refine e_iadd dX11_dustyMany_30 ?_
        refine e_istore_n (lv' := [(1, .int _), (0, .ref _), (2, .int _)]) dX11_dustyMany_31 rfl (by decide) rfl ?_
        refine e_iinc (lv' := [(2, .int _), (1, .int _), (0, .ref _)]) 2 dX11_dustyMany_32 rfl (by decide) rfl ?_
        refine e_goto (t := 4) dX11_dustyMany_35 (by decide) ?_
        refine e_sub [2, 1, 0] rfl ?_
        exact ih _ _ _ hf
      · replace hf := e_ie c hf
        refine e_iconst (v := 1) dX11_dustyMany_22 (by decide) ?_
        refine e_goto (t := 27) dX11_dustyMany_23 (by decide) ?_
        refine e_callS (st := [.int _]) ml_RX11_122 k_X11_flag (m_X11_flag (d := d - 1) (by omega) rfl) rfl rfl (Nat.le_of_ble_eq_true rfl) ⟨by omega, by decide⟩ ⟨Nat.le_refl _, Nat.le_refl _⟩ dX11_dustyMany_27 ?_
        refine e_iadd dX11_dustyMany_30 ?_
        refine e_istore_n (lv' := [(1, .int _), (0, .ref _), (2, .int _)]) dX11_dustyMany_31 rfl (by decide) rfl ?_
        refine e_iinc (lv' := [(2, .int _), (1, .int _), (0, .ref _)]) 2 dX11_dustyMany_32 rfl (by decide) rfl ?_
        refine e_goto (t := 4) dX11_dustyMany_35 (by decide) ?_
        refine e_sub [2, 1, 0] rfl ?_
        exact ih _ _ _ hf
def f_X11_dustyMany (L : eL) (h : eH) (v0 : Nat) : Option Int32 :=
  f_X11_dustyMany_L4 L h e_fu (fun (w1_7 : Int32) =>
    some w1_7) v0 0 0
set_option maxRecDepth 100000 in
set_option maxHeartbeats 4000000 in
theorem m_X11_dustyMany {l : Launch} {d : Nat} {L : eL} {h : eH} {v0 : Nat} {r : Int32} (hd : 2 ≤ d) (hf : f_X11_dustyMany L h v0 = some r) : e_Met l yX11_dustyMany cX11_dustyMany 3 (some .int) d 0 0 true L h [.ref v0] (Qx (some (.int r)) L h) := by
  refine e_metl (by decide) (Nat.le_of_ble_eq_true rfl) (lv := [(0, .ref v0)]) rfl ?_
  unfold f_X11_dustyMany at hf
  refine e_iconst (v := 0) dX11_dustyMany_0 (by decide) ?_
  refine e_istore_n (lv' := [(1, .int _), (0, .ref _)]) dX11_dustyMany_1 rfl (by decide) rfl ?_
  refine e_iconst (v := 0) dX11_dustyMany_2 (by decide) ?_
  refine e_istore_n (lv' := [(2, .int _), (1, .int _), (0, .ref _)]) dX11_dustyMany_3 rfl (by decide) rfl ?_
  refine e_sub [2, 1, 0] rfl ?_
  refine m_X11_dustyMany_L4 hd ?_ e_fu _ _ _ hf
  · intro w1_7 hf
    refine e_iload_n 0 dX11_dustyMany_38 rfl rfl ?_
    exact e_iret rfl dX11_dustyMany_39 (qP hf)
def f_X11_waysTo_L2 (L : eL) : Nat → (eH → Nat → Int32 → Int32 → Option (eH × Int32)) → eH → Nat → Int32 → Int32 → Int32 → Option (eH × Int32)
  | 0, _, _, _, _, _, _ => none
  | n + 1, k31, h, v0, v1, v2, v3 =>
    if v1 < v3 then
      k31 h v0 v1 v2
    else
      if isO L v0 11 = true then
      (gR h v0 42).bind fun b2 =>
      if v3 = 0 then
        if inA L b2 0 v3 = true then
        f_X11_waysTo_L2 L n k31 (sI h b2 v3.toNatClampNeg (f_X11_flag 1)) v0 v1 v2 (v3 + Int32.ofInt 1)
        else none
      else
        if inA L b2 0 v3 = true then
        f_X11_waysTo_L2 L n k31 (sI h b2 v3.toNatClampNeg (f_X11_flag 0)) v0 v1 v2 (v3 + Int32.ofInt 1)
        else none
      else none
set_option maxRecDepth 100000 in
set_option maxHeartbeats 4000000 in
theorem m_X11_waysTo_L2 {l : Launch} {d : Nat} {L : eL}  {r : eH × Int32} {k31 : eH → Nat → Int32 → Int32 → Option (eH × Int32)} (hd : 2 ≤ d) (hk31 : ∀ (h : eH) (v0 : Nat) (v1 : Int32) (v2 : Int32), k31 h v0 v1 v2 = some r → E l yX11_waysTo cX11_waysTo 5 (some .int) (e_rm d 0 0) 0 0 true L (Qx (some (.int r.2)) L r.1) L h 0 0 31 [(0, .ref v0), (1, .int v1), (2, .int v2)] []) : ∀ (n : Nat) (h : eH) (v0 : Nat) (v1 : Int32) (v2 : Int32) (v3 : Int32), f_X11_waysTo_L2 L n k31 h v0 v1 v2 v3 = some r → E l yX11_waysTo cX11_waysTo 5 (some .int) (e_rm d 0 0) 0 0 true L (Qx (some (.int r.2)) L r.1) L h 0 0 2 [(0, .ref v0), (1, .int v1), (2, .int v2), (3, .int v3)] [] := by
  intro n
  induction n with
  | zero => intro h v0 v1 v2 v3 hf; exact absurd hf (by simp [f_X11_waysTo_L2])
  | succ n ih =>
    intro h v0 v1 v2 v3 hf
    unfold f_X11_waysTo_L2 at hf
    refine e_iload_n 3 dX11_waysTo_2 rfl rfl ?_
    refine e_iload_n 1 dX11_waysTo_3 rfl rfl ?_
    refine e_icmp_gt (t := 31) dX11_waysTo_4 (by decide) (fun c => ?_) (fun c => ?_)
    · replace hf := e_it c hf
      refine e_sub [0, 1, 2] rfl ?_
      exact hk31 _ _ _ _ hf
    · replace hf := e_ie c hf
      refine e_aload_n 0 dX11_waysTo_7 rfl rfl ?_
      obtain ⟨hO1, hf⟩ := e_if hf
      obtain ⟨b2, hb3, hf⟩ := e_bd hf
      refine e_getR hO1 fc_11_42 lk_RX11_105 dX11_waysTo_8 hb3 ?_
      refine e_iload_n 3 dX11_waysTo_11 rfl rfl ?_
      refine e_iload_n 3 dX11_waysTo_12 rfl rfl ?_
      refine e_if_ne (t := 20) dX11_waysTo_13 (by decide) (fun c => ?_) (fun c => ?_)
      · replace hf := e_ie c hf
        refine e_iconst (v := 0) dX11_waysTo_20 (by decide) ?_
        refine e_callS (st := [.int _, .ref _]) ml_RX11_122 k_X11_flag (m_X11_flag (d := d - 1) (by omega) rfl) rfl rfl (Nat.le_of_ble_eq_true rfl) ⟨by omega, by decide⟩ ⟨Nat.le_refl _, Nat.le_refl _⟩ dX11_waysTo_21 ?_
        obtain ⟨hI4, hf⟩ := e_if hf
        refine e_iast hI4 dX11_waysTo_24 ?_
        refine e_iinc (lv' := [(3, .int _), (0, .ref _), (1, .int _), (2, .int _)]) 3 dX11_waysTo_25 rfl (by decide) rfl ?_
        refine e_goto (t := 2) dX11_waysTo_28 (by decide) ?_
        refine e_sub [1, 2, 3, 0] rfl ?_
        exact ih _ _ _ _ _ hf
      · replace hf := e_it c hf
        refine e_iconst (v := 1) dX11_waysTo_16 (by decide) ?_
        refine e_goto (t := 21) dX11_waysTo_17 (by decide) ?_
        refine e_callS (st := [.int _, .ref _]) ml_RX11_122 k_X11_flag (m_X11_flag (d := d - 1) (by omega) rfl) rfl rfl (Nat.le_of_ble_eq_true rfl) ⟨by omega, by decide⟩ ⟨Nat.le_refl _, Nat.le_refl _⟩ dX11_waysTo_21 ?_
        obtain ⟨hI5, hf⟩ := e_if hf
        refine e_iast hI5 dX11_waysTo_24 ?_
        refine e_iinc (lv' := [(3, .int _), (0, .ref _), (1, .int _), (2, .int _)]) 3 dX11_waysTo_25 rfl (by decide) rfl ?_
        refine e_goto (t := 2) dX11_waysTo_28 (by decide) ?_
        refine e_sub [1, 2, 3, 0] rfl ?_
        exact ih _ _ _ _ _ hf
def f_X11_waysTo_L44 (L : eL) : Nat → (eH → Nat → Int32 → Int32 → Int32 → Option (eH × Int32)) → eH → Nat → Int32 → Int32 → Int32 → Int32 → Option (eH × Int32)
  | 0, _, _, _, _, _, _, _ => none
  | n + 1, k99, h, v0, v1, v2, v3, v4 =>
    if isO L v0 11 = true then
    (gR h v0 7).bind fun b14 =>
    if inA L b14 0 v3 = true then
    if v4 < (gI h b14 v3.toNatClampNeg) then
      k99 h v0 v1 v2 v3
    else
      (gR h v0 7).bind fun b17 =>
      if inA L b17 0 v3 = true then
      if (gI h b17 v3.toNatClampNeg) ≤ 0 then
        k99 h v0 v1 v2 v3
      else
        if v3 = v2 then
          k99 h v0 v1 v2 v3
        else
          (gR h v0 42).bind fun b20 =>
          if inA L b20 0 v4 = true then
          (gR h v0 42).bind fun b23 =>
          (gR h v0 7).bind fun b25 =>
          if inA L b25 0 v3 = true then
          if inA L b23 0 (v4 - (gI h b25 v3.toNatClampNeg)) = true then
          (some (sI h b20 v4.toNatClampNeg ((gI h b20 v4.toNatClampNeg) + (gI h b23 (v4 - (gI h b25 v3.toNatClampNeg)).toNatClampNeg)))).bind fun h29 =>
          f_X11_waysTo_L44 L n k99 h29 v0 v1 v2 v3 (v4 + Int32.ofInt (-1))
          else none
          else none
          else none
      else none
    else none
    else none
set_option maxRecDepth 100000 in
set_option maxHeartbeats 4000000 in
theorem m_X11_waysTo_L44 {l : Launch} {d : Nat} {L : eL}  {r : eH × Int32} {k99 : eH → Nat → Int32 → Int32 → Int32 → Option (eH × Int32)} (hd : 2 ≤ d) (hk99 : ∀ (h : eH) (v0 : Nat) (v1 : Int32) (v2 : Int32) (v3 : Int32), k99 h v0 v1 v2 v3 = some r → E l yX11_waysTo cX11_waysTo 5 (some .int) (e_rm d 0 0) 0 0 true L (Qx (some (.int r.2)) L r.1) L h 0 0 99 [(0, .ref v0), (1, .int v1), (2, .int v2), (3, .int v3)] []) : ∀ (n : Nat) (h : eH) (v0 : Nat) (v1 : Int32) (v2 : Int32) (v3 : Int32) (v4 : Int32), f_X11_waysTo_L44 L n k99 h v0 v1 v2 v3 v4 = some r → E l yX11_waysTo cX11_waysTo 5 (some .int) (e_rm d 0 0) 0 0 true L (Qx (some (.int r.2)) L r.1) L h 0 0 44 [(0, .ref v0), (1, .int v1), (2, .int v2), (3, .int v3), (4, .int v4)] [] := by
  intro n
  induction n with
  | zero => intro h v0 v1 v2 v3 v4 hf; exact absurd hf (by simp [f_X11_waysTo_L44])
  | succ n ih =>
    intro h v0 v1 v2 v3 v4 hf
    unfold f_X11_waysTo_L44 at hf
    refine e_iload 4 dX11_waysTo_44 rfl ?_
    refine e_aload_n 0 dX11_waysTo_46 rfl rfl ?_
    obtain ⟨hO13, hf⟩ := e_if hf
    obtain ⟨b14, hb15, hf⟩ := e_bd hf
    refine e_getR hO13 fc_11_7 lk_RX11_41 dX11_waysTo_47 hb15 ?_
    refine e_iload_n 3 dX11_waysTo_50 rfl rfl ?_
    obtain ⟨hI16, hf⟩ := e_if hf
    refine e_iald hI16 dX11_waysTo_51 ?_
    refine e_icmp_lt (t := 99) dX11_waysTo_52 (by decide) (fun c => ?_) (fun c => ?_)
    · replace hf := e_it c hf
      refine e_sub [0, 1, 2, 3] rfl ?_
      exact hk99 _ _ _ _ _ hf
    · replace hf := e_ie c hf
      refine e_aload_n 0 dX11_waysTo_55 rfl rfl ?_
      obtain ⟨b17, hb18, hf⟩ := e_bd hf
      refine e_getR hO13 fc_11_7 lk_RX11_41 dX11_waysTo_56 hb18 ?_
      refine e_iload_n 3 dX11_waysTo_59 rfl rfl ?_
      obtain ⟨hI19, hf⟩ := e_if hf
      refine e_iald hI19 dX11_waysTo_60 ?_
      refine e_if_le (t := 99) dX11_waysTo_61 (by decide) (fun c => ?_) (fun c => ?_)
      · replace hf := e_it c hf
        refine e_sub [0, 1, 2, 3] rfl ?_
        exact hk99 _ _ _ _ _ hf
      · replace hf := e_ie c hf
        refine e_iload_n 3 dX11_waysTo_64 rfl rfl ?_
        refine e_iload_n 2 dX11_waysTo_65 rfl rfl ?_
        refine e_icmp_eq (t := 99) dX11_waysTo_66 (by decide) (fun c => ?_) (fun c => ?_)
        · replace hf := e_it c hf
          refine e_sub [0, 1, 2, 3] rfl ?_
          exact hk99 _ _ _ _ _ hf
        · replace hf := e_ie c hf
          refine e_aload_n 0 dX11_waysTo_69 rfl rfl ?_
          obtain ⟨b20, hb21, hf⟩ := e_bd hf
          refine e_getR hO13 fc_11_42 lk_RX11_105 dX11_waysTo_70 hb21 ?_
          refine e_iload 4 dX11_waysTo_73 rfl ?_
          refine e_dup2 dX11_waysTo_75 ?_
          obtain ⟨hI22, hf⟩ := e_if hf
          refine e_iald hI22 dX11_waysTo_76 ?_
          refine e_aload_n 0 dX11_waysTo_77 rfl rfl ?_
          obtain ⟨b23, hb24, hf⟩ := e_bd hf
          refine e_getR hO13 fc_11_42 lk_RX11_105 dX11_waysTo_78 hb24 ?_
          refine e_iload 4 dX11_waysTo_81 rfl ?_
          refine e_aload_n 0 dX11_waysTo_83 rfl rfl ?_
          obtain ⟨b25, hb26, hf⟩ := e_bd hf
          refine e_getR hO13 fc_11_7 lk_RX11_41 dX11_waysTo_84 hb26 ?_
          refine e_iload_n 3 dX11_waysTo_87 rfl rfl ?_
          obtain ⟨hI27, hf⟩ := e_if hf
          refine e_iald hI27 dX11_waysTo_88 ?_
          refine e_isub dX11_waysTo_89 ?_
          obtain ⟨hI28, hf⟩ := e_if hf
          refine e_iald hI28 dX11_waysTo_90 ?_
          refine e_iadd dX11_waysTo_91 ?_
          refine e_iast hI22 dX11_waysTo_92 ?_
          obtain ⟨h29, hh30, hf⟩ := e_bd hf
          refine e_hn hh30 ?_
          refine e_iinc (lv' := [(4, .int _), (0, .ref _), (1, .int _), (2, .int _), (3, .int _)]) 4 dX11_waysTo_93 rfl (by decide) rfl ?_
          refine e_goto (t := 44) dX11_waysTo_96 (by decide) ?_
          refine e_sub [1, 2, 3, 4, 0] rfl ?_
          exact ih _ _ _ _ _ _ hf
def f_X11_waysTo_L33 (L : eL) : Nat → (eH → Nat → Int32 → Option (eH × Int32)) → eH → Nat → Int32 → Int32 → Int32 → Option (eH × Int32)
  | 0, _, _, _, _, _, _ => none
  | n + 1, k105, h, v0, v1, v2, v3 =>
    if isO L v0 11 = true then
    (f_X11_spots L h v0).bind fun r11 =>
    if r11 ≤ v3 then
      k105 h v0 v1
    else
      f_X11_waysTo_L44 L e_fu (fun (h31 : eH) (w0_32 : Nat) (w1_33 : Int32) (w2_34 : Int32) (w3_35 : Int32) =>
        f_X11_waysTo_L33 L n k105 h31 w0_32 w1_33 w2_34 (w3_35 + Int32.ofInt 1)) h v0 v1 v2 v3 v1
    else none
set_option maxRecDepth 100000 in
set_option maxHeartbeats 4000000 in
theorem m_X11_waysTo_L33 {l : Launch} {d : Nat} {L : eL}  {r : eH × Int32} {k105 : eH → Nat → Int32 → Option (eH × Int32)} (hd : 2 ≤ d) (hk105 : ∀ (h : eH) (v0 : Nat) (v1 : Int32), k105 h v0 v1 = some r → E l yX11_waysTo cX11_waysTo 5 (some .int) (e_rm d 0 0) 0 0 true L (Qx (some (.int r.2)) L r.1) L h 0 0 105 [(0, .ref v0), (1, .int v1)] []) : ∀ (n : Nat) (h : eH) (v0 : Nat) (v1 : Int32) (v2 : Int32) (v3 : Int32), f_X11_waysTo_L33 L n k105 h v0 v1 v2 v3 = some r → E l yX11_waysTo cX11_waysTo 5 (some .int) (e_rm d 0 0) 0 0 true L (Qx (some (.int r.2)) L r.1) L h 0 0 33 [(0, .ref v0), (1, .int v1), (2, .int v2), (3, .int v3)] [] := by
  intro n
  induction n with
  | zero => intro h v0 v1 v2 v3 hf; exact absurd hf (by simp [f_X11_waysTo_L33])
  | succ n ih =>
    intro h v0 v1 v2 v3 hf
    unfold f_X11_waysTo_L33 at hf
    refine e_iload_n 3 dX11_waysTo_33 rfl rfl ?_
    refine e_aload_n 0 dX11_waysTo_34 rfl rfl ?_
    obtain ⟨hO10, hf⟩ := e_if hf
    obtain ⟨r11, hr12, hf⟩ := e_bd hf
    refine e_callV (st := [.int _]) ml_RX11_114 k_X11_spots (m_X11_spots (d := d - 1) (by omega) hr12) hO10 ⟨by decide, rfl⟩ rfl rfl (Nat.le_of_ble_eq_true rfl) ⟨by omega, by decide⟩ ⟨Nat.le_refl _, Nat.le_refl _⟩ dX11_waysTo_35 ?_
    refine e_icmp_ge (t := 105) dX11_waysTo_38 (by decide) (fun c => ?_) (fun c => ?_)
    · replace hf := e_it c hf
      refine e_sub [0, 1] rfl ?_
      exact hk105 _ _ _ hf
    · replace hf := e_ie c hf
      refine e_iload_n 1 dX11_waysTo_41 rfl rfl ?_
      refine e_istore (lv' := [(4, .int _), (0, .ref _), (1, .int _), (2, .int _), (3, .int _)]) dX11_waysTo_42 (by decide) rfl ?_
      refine e_sub [1, 2, 3, 4, 0] rfl ?_
      refine m_X11_waysTo_L44 hd ?_ e_fu _ _ _ _ _ _ hf
      · intro h31 w0_32 w1_33 w2_34 w3_35 hf
        refine e_iinc (lv' := [(3, .int _), (0, .ref _), (1, .int _), (2, .int _)]) 3 dX11_waysTo_99 rfl (by decide) rfl ?_
        refine e_goto (t := 33) dX11_waysTo_102 (by decide) ?_
        refine e_sub [1, 2, 3, 0] rfl ?_
        exact ih _ _ _ _ _ hf
def f_X11_waysTo (L : eL) (h : eH) (v0 : Nat) (v1 : Int32) (v2 : Int32) : Option (eH × Int32) :=
  f_X11_waysTo_L2 L e_fu (fun (h6 : eH) (w0_7 : Nat) (w1_8 : Int32) (w2_9 : Int32) =>
    f_X11_waysTo_L33 L e_fu (fun (h36 : eH) (w0_37 : Nat) (w1_38 : Int32) =>
      if isO L w0_37 11 = true then
      (gR h36 w0_37 42).bind fun b40 =>
      if inA L b40 0 w1_38 = true then
      some (h36, gI h36 b40 w1_38.toNatClampNeg)
      else none
      else none) h6 w0_7 w1_8 w2_9 0) h v0 v1 v2 0
set_option maxRecDepth 100000 in
set_option maxHeartbeats 4000000 in
theorem m_X11_waysTo {l : Launch} {d : Nat} {L : eL} {h : eH} {v0 : Nat} {v1 : Int32} {v2 : Int32} {r : eH × Int32} (hd : 2 ≤ d) (hf : f_X11_waysTo L h v0 v1 v2 = some r) : e_Met l yX11_waysTo cX11_waysTo 5 (some .int) d 0 0 true L h [.ref v0, .int v1, .int v2] (Qx (some (.int r.2)) L r.1) := by
  refine e_metl (by decide) (Nat.le_of_ble_eq_true rfl) (lv := [(0, .ref v0), (1, .int v1), (2, .int v2)]) rfl ?_
  unfold f_X11_waysTo at hf
  refine e_iconst (v := 0) dX11_waysTo_0 (by decide) ?_
  refine e_istore_n (lv' := [(3, .int _), (0, .ref _), (1, .int _), (2, .int _)]) dX11_waysTo_1 rfl (by decide) rfl ?_
  refine e_sub [1, 2, 3, 0] rfl ?_
  refine m_X11_waysTo_L2 hd ?_ e_fu _ _ _ _ _ hf
  · intro h6 w0_7 w1_8 w2_9 hf
    refine e_iconst (v := 0) dX11_waysTo_31 (by decide) ?_
    refine e_istore_n (lv' := [(3, .int _), (0, .ref _), (1, .int _), (2, .int _)]) dX11_waysTo_32 rfl (by decide) rfl ?_
    refine e_sub [1, 2, 3, 0] rfl ?_
    refine m_X11_waysTo_L33 hd ?_ e_fu _ _ _ _ _ hf
    · intro h36 w0_37 w1_38 hf
      refine e_aload_n 0 dX11_waysTo_105 rfl rfl ?_
      obtain ⟨hO39, hf⟩ := e_if hf
      obtain ⟨b40, hb41, hf⟩ := e_bd hf
      refine e_getR hO39 fc_11_42 lk_RX11_105 dX11_waysTo_106 hb41 ?_
      refine e_iload_n 1 dX11_waysTo_109 rfl rfl ?_
      obtain ⟨hI42, hf⟩ := e_if hf
      refine e_iald hI42 dX11_waysTo_110 ?_
      exact e_iret rfl dX11_waysTo_111 (qW hf)
def f_X11_box_L43 (L : eL) : Nat → (eH → Nat → Int32 → Int64 → Option (eH × Int32)) → eH → Nat → Int32 → Int32 → Int64 → Int32 → Option (eH × Int32)
  | 0, _, _, _, _, _, _, _ => none
  | n + 1, k93, h, v0, v1, v2, v3, v5 =>
    if isO L v0 11 = true then
    (f_X11_spots L h v0).bind fun r7 =>
    if r7 ≤ v5 then
      k93 h v0 v2 v3
    else
      if v2 ≤ 0 then
        k93 h v0 v2 v3
      else
        (gR h v0 7).bind fun b9 =>
        if inA L b9 0 v5 = true then
        if (gI h b9 v5.toNatClampNeg) ≤ 0 then
          f_X11_box_L43 L n k93 h v0 v1 v2 (v3 ||| 0) (v5 + Int32.ofInt 1)
        else
          (f_X11_waysTo L h v0 v1 v5).bind fun r12 =>
          if r12.2 = 0 then
            f_X11_box_L43 L n k93 r12.1 v0 v1 v2 (v3 ||| ((1 : Int64) <<< (v5.toInt64 &&& 63))) (v5 + Int32.ofInt 1)
          else
            f_X11_box_L43 L n k93 r12.1 v0 v1 v2 (v3 ||| 0) (v5 + Int32.ofInt 1)
        else none
    else none
set_option maxRecDepth 100000 in
set_option maxHeartbeats 4000000 in
theorem m_X11_box_L43 {l : Launch} {d : Nat} {L : eL}  {r : eH × Int32} {k93 : eH → Nat → Int32 → Int64 → Option (eH × Int32)} (hd : 3 ≤ d) (hk93 : ∀ (h : eH) (v0 : Nat) (v2 : Int32) (v3 : Int64), k93 h v0 v2 v3 = some r → E l yX11_box cX11_box 6 (some .int) (e_rm d 0 0) 0 0 true L (Qx (some (.int r.2)) L r.1) L h 0 0 93 [(0, .ref v0), (2, .int v2), (3, .long v3)] []) : ∀ (n : Nat) (h : eH) (v0 : Nat) (v1 : Int32) (v2 : Int32) (v3 : Int64) (v5 : Int32), f_X11_box_L43 L n k93 h v0 v1 v2 v3 v5 = some r → E l yX11_box cX11_box 6 (some .int) (e_rm d 0 0) 0 0 true L (Qx (some (.int r.2)) L r.1) L h 0 0 43 [(0, .ref v0), (1, .int v1), (2, .int v2), (3, .long v3), (5, .int v5)] [] := by
  intro n
  induction n with
  | zero => intro h v0 v1 v2 v3 v5 hf; exact absurd hf (by simp [f_X11_box_L43])
  | succ n ih =>
    intro h v0 v1 v2 v3 v5 hf
    unfold f_X11_box_L43 at hf
    refine e_iload 4 dX11_box_43 rfl ?_
    refine e_aload_n 0 dX11_box_45 rfl rfl ?_
    obtain ⟨hO6, hf⟩ := e_if hf
    obtain ⟨r7, hr8, hf⟩ := e_bd hf
    refine e_callV (st := [.int _]) ml_RX11_114 k_X11_spots (m_X11_spots (d := d - 1) (by omega) hr8) hO6 ⟨by decide, rfl⟩ rfl rfl (Nat.le_of_ble_eq_true rfl) ⟨by omega, by decide⟩ ⟨Nat.le_refl _, Nat.le_refl _⟩ dX11_box_46 ?_
    refine e_icmp_ge (t := 93) dX11_box_49 (by decide) (fun c => ?_) (fun c => ?_)
    · replace hf := e_it c hf
      refine e_sub [0, 2, 3] rfl ?_
      exact hk93 _ _ _ _ hf
    · replace hf := e_ie c hf
      refine e_iload_n 2 dX11_box_52 rfl rfl ?_
      refine e_if_le (t := 93) dX11_box_53 (by decide) (fun c => ?_) (fun c => ?_)
      · replace hf := e_it c hf
        refine e_sub [0, 2, 3] rfl ?_
        exact hk93 _ _ _ _ hf
      · replace hf := e_ie c hf
        refine e_lload_n 3 dX11_box_56 rfl rfl ?_
        refine e_aload_n 0 dX11_box_57 rfl rfl ?_
        obtain ⟨b9, hb10, hf⟩ := e_bd hf
        refine e_getR hO6 fc_11_7 lk_RX11_41 dX11_box_58 hb10 ?_
        refine e_iload 4 dX11_box_61 rfl ?_
        obtain ⟨hI11, hf⟩ := e_if hf
        refine e_iald hI11 dX11_box_63 ?_
        refine e_if_le (t := 84) dX11_box_64 (by decide) (fun c => ?_) (fun c => ?_)
        · replace hf := e_it c hf
          refine e_lconst (v := 0) dX11_box_84 (by decide) ?_
          refine e_lor dX11_box_85 ?_
          refine e_lstore_n (lv' := [(3, .long _), (0, .ref _), (1, .int _), (2, .int _), (5, .int _)]) dX11_box_86 rfl (by decide) rfl ?_
          refine e_iinc (lv' := [(5, .int _), (3, .long _), (0, .ref _), (1, .int _), (2, .int _)]) 4 dX11_box_87 rfl (by decide) rfl ?_
          refine e_goto (t := 43) dX11_box_90 (by decide) ?_
          refine e_sub [2, 3, 4, 1, 0] rfl ?_
          exact ih _ _ _ _ _ _ hf
        · replace hf := e_ie c hf
          refine e_aload_n 0 dX11_box_67 rfl rfl ?_
          refine e_iload_n 1 dX11_box_68 rfl rfl ?_
          refine e_iload 4 dX11_box_69 rfl ?_
          obtain ⟨r12, hr13, hf⟩ := e_bd hf
          refine e_callV (st := [.long _]) ml_RX11_395 k_X11_waysTo (m_X11_waysTo (d := d - 1) (by omega) hr13) hO6 ⟨by decide, rfl⟩ rfl rfl (Nat.le_of_ble_eq_true rfl) ⟨by omega, by decide⟩ ⟨Nat.le_refl _, Nat.le_refl _⟩ dX11_box_71 ?_
          refine e_if_ne (t := 84) dX11_box_74 (by decide) (fun c => ?_) (fun c => ?_)
          · replace hf := e_ie c hf
            refine e_lconst (v := 0) dX11_box_84 (by decide) ?_
            refine e_lor dX11_box_85 ?_
            refine e_lstore_n (lv' := [(3, .long _), (0, .ref _), (1, .int _), (2, .int _), (5, .int _)]) dX11_box_86 rfl (by decide) rfl ?_
            refine e_iinc (lv' := [(5, .int _), (3, .long _), (0, .ref _), (1, .int _), (2, .int _)]) 4 dX11_box_87 rfl (by decide) rfl ?_
            refine e_goto (t := 43) dX11_box_90 (by decide) ?_
            refine e_sub [2, 3, 4, 1, 0] rfl ?_
            exact ih _ _ _ _ _ _ hf
          · replace hf := e_it c hf
            refine e_lconst (v := 1) dX11_box_77 (by decide) ?_
            refine e_iload 4 dX11_box_78 rfl ?_
            refine e_lshl dX11_box_80 ?_
            refine e_goto (t := 85) dX11_box_81 (by decide) ?_
            refine e_lor dX11_box_85 ?_
            refine e_lstore_n (lv' := [(3, .long _), (0, .ref _), (1, .int _), (2, .int _), (5, .int _)]) dX11_box_86 rfl (by decide) rfl ?_
            refine e_iinc (lv' := [(5, .int _), (3, .long _), (0, .ref _), (1, .int _), (2, .int _)]) 4 dX11_box_87 rfl (by decide) rfl ?_
            refine e_goto (t := 43) dX11_box_90 (by decide) ?_
            refine e_sub [2, 3, 4, 1, 0] rfl ?_
            exact ih _ _ _ _ _ _ hf
def f_X11_box (L : eL) (h : eH) (v0 : Nat) (v1 : Int32) : Option (eH × Int32) :=
  if isO L v0 11 = true then
  if (f_X11_in v1.toInt64 0 999) = 0 then
    some (sI h v0 0 0, (-1))
  else
    (f_X11_dustyMany L (sI h v0 0 0) v0).bind fun r2 =>
    if r2 ≤ 20 then
      (f_X11_waysTo L (sI h v0 0 0) v0 v1 (-1)).bind fun r4 =>
      f_X11_box_L43 L e_fu (fun (h14 : eH) (w0_15 : Nat) (w2_16 : Int32) (w3_17 : Int64) =>
        if isO L w0_15 11 = true then
        (f_X11_enters L (sI h14 w0_15 1 0) w0_15 w3_17).bind fun r19 =>
        some (r19, w2_16)
        else none) r4.1 v0 v1 r4.2 0 0
    else
      some (sI h v0 0 0, (-2))
  else none
set_option maxRecDepth 100000 in
set_option maxHeartbeats 4000000 in
theorem m_X11_box {l : Launch} {d : Nat} {L : eL} {h : eH} {v0 : Nat} {v1 : Int32} {r : eH × Int32} (hd : 3 ≤ d) (hf : f_X11_box L h v0 v1 = some r) : e_Met l yX11_box cX11_box 6 (some .int) d 0 0 true L h [.ref v0, .int v1] (Qx (some (.int r.2)) L r.1) := by
  refine e_metl (by decide) (Nat.le_of_ble_eq_true rfl) (lv := [(0, .ref v0), (1, .int v1)]) rfl ?_
  unfold f_X11_box at hf
  refine e_aload_n 0 dX11_box_0 rfl rfl ?_
  refine e_iconst (v := 0) dX11_box_1 (by decide) ?_
  obtain ⟨hO1, hf⟩ := e_if hf
  refine e_putI hO1 fc_11_0 rfl lk_RX11_3 dX11_box_2 ?_
  refine e_iload_n 1 dX11_box_5 rfl rfl ?_
  refine e_i2l dX11_box_6 ?_
  refine e_lconst (v := 0) dX11_box_7 (by decide) ?_
  refine e_ldc2 kc_RX11_271 dX11_box_8 ?_
  refine e_callS (st := []) ml_RX11_118 k_X11_in (m_X11_in (d := d - 1) (by omega) rfl) rfl rfl (Nat.le_of_ble_eq_true rfl) ⟨by omega, by decide⟩ ⟨Nat.le_refl _, Nat.le_refl _⟩ dX11_box_11 ?_
  refine e_if_ne (t := 19) dX11_box_14 (by decide) (fun c => ?_) (fun c => ?_)
  · replace hf := e_ie c hf
    refine e_aload_n 0 dX11_box_19 rfl rfl ?_
    obtain ⟨r2, hr3, hf⟩ := e_bd hf
    refine e_callV (st := []) ml_RX11_392 k_X11_dustyMany (m_X11_dustyMany (d := d - 1) (by omega) hr3) hO1 ⟨by decide, rfl⟩ rfl rfl (Nat.le_of_ble_eq_true rfl) ⟨by omega, by decide⟩ ⟨Nat.le_refl _, Nat.le_refl _⟩ dX11_box_20 ?_
    refine e_bipush (v := 20) dX11_box_23 (by decide) ?_
    refine e_icmp_le (t := 31) dX11_box_25 (by decide) (fun c => ?_) (fun c => ?_)
    · replace hf := e_it c hf
      refine e_aload_n 0 dX11_box_31 rfl rfl ?_
      refine e_iload_n 1 dX11_box_32 rfl rfl ?_
      refine e_iconst (v := (-1)) dX11_box_33 (by decide) ?_
      obtain ⟨r4, hr5, hf⟩ := e_bd hf
      refine e_callV (st := []) ml_RX11_395 k_X11_waysTo (m_X11_waysTo (d := d - 1) (by omega) hr5) hO1 ⟨by decide, rfl⟩ rfl rfl (Nat.le_of_ble_eq_true rfl) ⟨by omega, by decide⟩ ⟨Nat.le_refl _, Nat.le_refl _⟩ dX11_box_34 ?_
      refine e_istore_n (lv' := [(2, .int _), (0, .ref _), (1, .int _)]) dX11_box_37 rfl (by decide) rfl ?_
      refine e_lconst (v := 0) dX11_box_38 (by decide) ?_
      refine e_lstore_n (lv' := [(3, .long _), (2, .int _), (0, .ref _), (1, .int _)]) dX11_box_39 rfl (by decide) rfl ?_
      refine e_iconst (v := 0) dX11_box_40 (by decide) ?_
      refine e_istore (lv' := [(5, .int _), (3, .long _), (2, .int _), (0, .ref _), (1, .int _)]) dX11_box_41 (by decide) rfl ?_
      refine e_sub [3, 4, 2, 1, 0] rfl ?_
      refine m_X11_box_L43 hd ?_ e_fu _ _ _ _ _ _ hf
      · intro h14 w0_15 w2_16 w3_17 hf
        refine e_aload_n 0 dX11_box_93 rfl rfl ?_
        refine e_iconst (v := 0) dX11_box_94 (by decide) ?_
        obtain ⟨hO18, hf⟩ := e_if hf
        refine e_putI hO18 fc_11_1 rfl lk_RX11_15 dX11_box_95 ?_
        refine e_aload_n 0 dX11_box_98 rfl rfl ?_
        refine e_lload_n 2 dX11_box_99 rfl rfl ?_
        obtain ⟨r19, hr20, hf⟩ := e_bd hf
        refine e_callV (st := []) ml_RX11_18 k_X11_enters (m_X11_enters (d := d - 1) (by omega) hr20) hO18 ⟨by decide, rfl⟩ rfl rfl (Nat.le_of_ble_eq_true rfl) ⟨by omega, by decide⟩ ⟨Nat.le_refl _, Nat.le_refl _⟩ dX11_box_100 ?_
        refine e_iload_n 1 dX11_box_103 rfl rfl ?_
        exact e_iret rfl dX11_box_104 (qW hf)
    · replace hf := e_ie c hf
      refine e_bipush (v := (-2)) dX11_box_28 (by decide) ?_
      exact e_iret rfl dX11_box_30 (qW hf)
  · replace hf := e_it c hf
    refine e_iconst (v := (-1)) dX11_box_17 (by decide) ?_
    exact e_iret rfl dX11_box_18 (qW hf)
def f_X11_openMany_L4 (L : eL) (h : eH) : Nat → (Int32 → Option Int32) → Nat → Int32 → Int32 → Option Int32
  | 0, _, _, _, _ => none
  | n + 1, k38, v0, v1, v2 =>
    if isO L v0 11 = true then
    (f_X11_spots L h v0).bind fun r2 =>
    if r2 ≤ v2 then
      k38 v1
    else
      (gR h v0 6).bind fun b4 =>
      if inA L b4 0 v2 = true then
      if (gI h b4 v2.toNatClampNeg) = 0 then
        f_X11_openMany_L4 L h n k38 v0 (v1 + (f_X11_flag 0)) (v2 + Int32.ofInt 1)
      else
        f_X11_openMany_L4 L h n k38 v0 (v1 + (f_X11_flag 1)) (v2 + Int32.ofInt 1)
      else none
    else none
set_option maxRecDepth 100000 in
set_option maxHeartbeats 4000000 in
theorem m_X11_openMany_L4 {l : Launch} {d : Nat} {L : eL} {h : eH} {r : Int32} {k38 : Int32 → Option Int32} (hd : 2 ≤ d) (hk38 : ∀ (v1 : Int32), k38 v1 = some r → E l yX11_openMany cX11_openMany 3 (some .int) (e_rm d 0 0) 0 0 true L (Qx (some (.int r)) L h) L h 0 0 38 [(1, .int v1)] []) : ∀ (n : Nat) (v0 : Nat) (v1 : Int32) (v2 : Int32), f_X11_openMany_L4 L h n k38 v0 v1 v2 = some r → E l yX11_openMany cX11_openMany 3 (some .int) (e_rm d 0 0) 0 0 true L (Qx (some (.int r)) L h) L h 0 0 4 [(0, .ref v0), (1, .int v1), (2, .int v2)] [] := by
  intro n
  induction n with
  | zero => intro v0 v1 v2 hf; exact absurd hf (by simp [f_X11_openMany_L4])
  | succ n ih =>
    intro v0 v1 v2 hf
    unfold f_X11_openMany_L4 at hf
    refine e_iload_n 2 dX11_openMany_4 rfl rfl ?_
    refine e_aload_n 0 dX11_openMany_5 rfl rfl ?_
    obtain ⟨hO1, hf⟩ := e_if hf
    obtain ⟨r2, hr3, hf⟩ := e_bd hf
    refine e_callV (st := [.int _]) ml_RX11_114 k_X11_spots (m_X11_spots (d := d - 1) (by omega) hr3) hO1 ⟨by decide, rfl⟩ rfl rfl (Nat.le_of_ble_eq_true rfl) ⟨by omega, by decide⟩ ⟨Nat.le_refl _, Nat.le_refl _⟩ dX11_openMany_6 ?_
    refine e_icmp_ge (t := 38) dX11_openMany_9 (by decide) (fun c => ?_) (fun c => ?_)
    · replace hf := e_it c hf
      refine e_sub [1] rfl ?_
      exact hk38 _ hf
    · replace hf := e_ie c hf
      refine e_iload_n 1 dX11_openMany_12 rfl rfl ?_
      refine e_aload_n 0 dX11_openMany_13 rfl rfl ?_
      obtain ⟨b4, hb5, hf⟩ := e_bd hf
      refine e_getR hO1 fc_11_6 lk_RX11_37 dX11_openMany_14 hb5 ?_
      refine e_iload_n 2 dX11_openMany_17 rfl rfl ?_
      obtain ⟨hI6, hf⟩ := e_if hf
      refine e_iald hI6 dX11_openMany_18 ?_
      refine e_if_eq (t := 26) dX11_openMany_19 (by decide) (fun c => ?_) (fun c => ?_)
      · replace hf := e_it c hf
        refine e_iconst (v := 0) dX11_openMany_26 (by decide) ?_
        refine e_callS (st := [.int _]) ml_RX11_122 k_X11_flag (m_X11_flag (d := d - 1) (by omega) rfl) rfl rfl (Nat.le_of_ble_eq_true rfl) ⟨by omega, by decide⟩ ⟨Nat.le_refl _, Nat.le_refl _⟩ dX11_openMany_27 ?_
        refine e_iadd dX11_openMany_30 ?_
        refine e_istore_n (lv' := [(1, .int _), (0, .ref _), (2, .int _)]) dX11_openMany_31 rfl (by decide) rfl ?_
        refine e_iinc (lv' := [(2, .int _), (1, .int _), (0, .ref _)]) 2 dX11_openMany_32 rfl (by decide) rfl ?_
        refine e_goto (t := 4) dX11_openMany_35 (by decide) ?_
        refine e_sub [2, 1, 0] rfl ?_
        exact ih _ _ _ hf
      · replace hf := e_ie c hf
        refine e_iconst (v := 1) dX11_openMany_22 (by decide) ?_
        refine e_goto (t := 27) dX11_openMany_23 (by decide) ?_
        refine e_callS (st := [.int _]) ml_RX11_122 k_X11_flag (m_X11_flag (d := d - 1) (by omega) rfl) rfl rfl (Nat.le_of_ble_eq_true rfl) ⟨by omega, by decide⟩ ⟨Nat.le_refl _, Nat.le_refl _⟩ dX11_openMany_27 ?_
        refine e_iadd dX11_openMany_30 ?_
        refine e_istore_n (lv' := [(1, .int _), (0, .ref _), (2, .int _)]) dX11_openMany_31 rfl (by decide) rfl ?_
        refine e_iinc (lv' := [(2, .int _), (1, .int _), (0, .ref _)]) 2 dX11_openMany_32 rfl (by decide) rfl ?_
        refine e_goto (t := 4) dX11_openMany_35 (by decide) ?_
        refine e_sub [2, 1, 0] rfl ?_
        exact ih _ _ _ hf
def f_X11_openMany (L : eL) (h : eH) (v0 : Nat) : Option Int32 :=
  f_X11_openMany_L4 L h e_fu (fun (w1_7 : Int32) =>
    some w1_7) v0 0 0
set_option maxRecDepth 100000 in
set_option maxHeartbeats 4000000 in
theorem m_X11_openMany {l : Launch} {d : Nat} {L : eL} {h : eH} {v0 : Nat} {r : Int32} (hd : 2 ≤ d) (hf : f_X11_openMany L h v0 = some r) : e_Met l yX11_openMany cX11_openMany 3 (some .int) d 0 0 true L h [.ref v0] (Qx (some (.int r)) L h) := by
  refine e_metl (by decide) (Nat.le_of_ble_eq_true rfl) (lv := [(0, .ref v0)]) rfl ?_
  unfold f_X11_openMany at hf
  refine e_iconst (v := 0) dX11_openMany_0 (by decide) ?_
  refine e_istore_n (lv' := [(1, .int _), (0, .ref _)]) dX11_openMany_1 rfl (by decide) rfl ?_
  refine e_iconst (v := 0) dX11_openMany_2 (by decide) ?_
  refine e_istore_n (lv' := [(2, .int _), (1, .int _), (0, .ref _)]) dX11_openMany_3 rfl (by decide) rfl ?_
  refine e_sub [2, 1, 0] rfl ?_
  refine m_X11_openMany_L4 hd ?_ e_fu _ _ _ hf
  · intro w1_7 hf
    refine e_iload_n 0 dX11_openMany_38 rfl rfl ?_
    exact e_iret rfl dX11_openMany_39 (qP hf)
def f_X11_earns (v0 : Int32) (v1 : Int32) (v2 : Int32) : Int32 :=
  if v1 ≤ v0 then
    if v0 = v1 then
      (-v0) - 5
    else
      -v0
  else
    v2 - v0
set_option maxRecDepth 100000 in
set_option maxHeartbeats 4000000 in
theorem m_X11_earns {l : Launch} {d : Nat} {L : eL} {h : eH} {v0 : Int32} {v1 : Int32} {v2 : Int32} {r : Int32} (hd : 1 ≤ d) (hf : f_X11_earns v0 v1 v2 = r) : e_Met l yX11_earns cX11_earns 3 (some .int) d 0 0 true L h [.int v0, .int v1, .int v2] (Qx (some (.int r)) L h) := by
  refine e_metl (by decide) (Nat.le_of_ble_eq_true rfl) (lv := [(0, .int v0), (1, .int v1), (2, .int v2)]) rfl ?_
  unfold f_X11_earns at hf
  refine e_iload_n 0 dX11_earns_0 rfl rfl ?_
  refine e_iload_n 1 dX11_earns_1 rfl rfl ?_
  refine e_icmp_ge (t := 11) dX11_earns_2 (by decide) (fun c => ?_) (fun c => ?_)
  · replace hf := e_it c hf
    refine e_iload_n 0 dX11_earns_11 rfl rfl ?_
    refine e_iload_n 1 dX11_earns_12 rfl rfl ?_
    refine e_icmp_ne (t := 23) dX11_earns_13 (by decide) (fun c => ?_) (fun c => ?_)
    · replace hf := e_ie c hf
      refine e_iload_n 0 dX11_earns_23 rfl rfl ?_
      refine e_ineg dX11_earns_24 ?_
      exact e_iret rfl dX11_earns_25 (qT hf)
    · replace hf := e_it c hf
      refine e_iload_n 0 dX11_earns_16 rfl rfl ?_
      refine e_ineg dX11_earns_17 ?_
      refine e_iconst (v := 5) dX11_earns_18 (by decide) ?_
      refine e_isub dX11_earns_19 ?_
      refine e_goto (t := 25) dX11_earns_20 (by decide) ?_
      exact e_iret rfl dX11_earns_25 (qT hf)
  · replace hf := e_ie c hf
    refine e_iload_n 2 dX11_earns_5 rfl rfl ?_
    refine e_iload_n 0 dX11_earns_6 rfl rfl ?_
    refine e_isub dX11_earns_7 ?_
    refine e_goto (t := 25) dX11_earns_8 (by decide) ?_
    exact e_iret rfl dX11_earns_25 (qT hf)
def f_X11_isRest_L5  : Nat → (Int32 → Option Int32) → Int32 → Int32 → Int32 → Int32 → Int32 → Option Int32
  | 0, _, _, _, _, _, _ => none
  | n + 1, k44, v0, v1, v2, v3, v4 =>
    if 9 < v4 then
      k44 v3
    else
      if v3 = 0 then
        f_X11_isRest_L5 n k44 v0 v1 v2 0 (v4 + Int32.ofInt 1)
      else
        if (f_X11_earns v0 v1 v2) < (f_X11_earns v4 v1 v2) then
          f_X11_isRest_L5 n k44 v0 v1 v2 0 (v4 + Int32.ofInt 1)
        else
          f_X11_isRest_L5 n k44 v0 v1 v2 1 (v4 + Int32.ofInt 1)
set_option maxRecDepth 100000 in
set_option maxHeartbeats 4000000 in
theorem m_X11_isRest_L5 {l : Launch} {d : Nat} {L : eL} {h : eH} {r : Int32} {k44 : Int32 → Option Int32} (hd : 2 ≤ d) (hk44 : ∀ (v3 : Int32), k44 v3 = some r → E l yX11_isRest cX11_isRest 5 (some .boolean) (e_rm d 0 0) 0 0 true L (Qx (some (.int r)) L h) L h 0 0 44 [(3, .int v3)] []) : ∀ (n : Nat) (v0 : Int32) (v1 : Int32) (v2 : Int32) (v3 : Int32) (v4 : Int32), f_X11_isRest_L5 n k44 v0 v1 v2 v3 v4 = some r → E l yX11_isRest cX11_isRest 5 (some .boolean) (e_rm d 0 0) 0 0 true L (Qx (some (.int r)) L h) L h 0 0 5 [(0, .int v0), (1, .int v1), (2, .int v2), (3, .int v3), (4, .int v4)] [] := by
  intro n
  induction n with
  | zero => intro v0 v1 v2 v3 v4 hf; exact absurd hf (by simp [f_X11_isRest_L5])
  | succ n ih =>
    intro v0 v1 v2 v3 v4 hf
    unfold f_X11_isRest_L5 at hf
    refine e_iload 4 dX11_isRest_5 rfl ?_
    refine e_bipush (v := 9) dX11_isRest_7 (by decide) ?_
    refine e_icmp_gt (t := 44) dX11_isRest_9 (by decide) (fun c => ?_) (fun c => ?_)
    · replace hf := e_it c hf
      refine e_sub [3] rfl ?_
      exact hk44 _ hf
    · replace hf := e_ie c hf
      refine e_iload_n 3 dX11_isRest_12 rfl rfl ?_
      refine e_if_eq (t := 36) dX11_isRest_13 (by decide) (fun c => ?_) (fun c => ?_)
      · replace hf := e_it c hf
        refine e_iconst (v := 0) dX11_isRest_36 (by decide) ?_
        refine e_istore_n (lv' := [(3, .int _), (0, .int _), (1, .int _), (2, .int _), (4, .int _)]) dX11_isRest_37 rfl (by decide) rfl ?_
        refine e_iinc (lv' := [(4, .int _), (3, .int _), (0, .int _), (1, .int _), (2, .int _)]) 4 dX11_isRest_38 rfl (by decide) rfl ?_
        refine e_goto (t := 5) dX11_isRest_41 (by decide) ?_
        refine e_sub [2, 3, 4, 1, 0] rfl ?_
        exact ih _ _ _ _ _ hf
      · replace hf := e_ie c hf
        refine e_iload 4 dX11_isRest_16 rfl ?_
        refine e_iload_n 1 dX11_isRest_18 rfl rfl ?_
        refine e_iload_n 2 dX11_isRest_19 rfl rfl ?_
        refine e_callS (st := []) ml_RX11_401 k_X11_earns (m_X11_earns (d := d - 1) (by omega) rfl) rfl rfl (Nat.le_of_ble_eq_true rfl) ⟨by omega, by decide⟩ ⟨Nat.le_refl _, Nat.le_refl _⟩ dX11_isRest_20 ?_
        refine e_iload_n 0 dX11_isRest_23 rfl rfl ?_
        refine e_iload_n 1 dX11_isRest_24 rfl rfl ?_
        refine e_iload_n 2 dX11_isRest_25 rfl rfl ?_
        refine e_callS (st := [.int _]) ml_RX11_401 k_X11_earns (m_X11_earns (d := d - 1) (by omega) rfl) rfl rfl (Nat.le_of_ble_eq_true rfl) ⟨by omega, by decide⟩ ⟨Nat.le_refl _, Nat.le_refl _⟩ dX11_isRest_26 ?_
        refine e_icmp_gt (t := 36) dX11_isRest_29 (by decide) (fun c => ?_) (fun c => ?_)
        · replace hf := e_it c hf
          refine e_iconst (v := 0) dX11_isRest_36 (by decide) ?_
          refine e_istore_n (lv' := [(3, .int _), (0, .int _), (1, .int _), (2, .int _), (4, .int _)]) dX11_isRest_37 rfl (by decide) rfl ?_
          refine e_iinc (lv' := [(4, .int _), (3, .int _), (0, .int _), (1, .int _), (2, .int _)]) 4 dX11_isRest_38 rfl (by decide) rfl ?_
          refine e_goto (t := 5) dX11_isRest_41 (by decide) ?_
          refine e_sub [2, 3, 4, 1, 0] rfl ?_
          exact ih _ _ _ _ _ hf
        · replace hf := e_ie c hf
          refine e_iconst (v := 1) dX11_isRest_32 (by decide) ?_
          refine e_goto (t := 37) dX11_isRest_33 (by decide) ?_
          refine e_istore_n (lv' := [(3, .int _), (0, .int _), (1, .int _), (2, .int _), (4, .int _)]) dX11_isRest_37 rfl (by decide) rfl ?_
          refine e_iinc (lv' := [(4, .int _), (3, .int _), (0, .int _), (1, .int _), (2, .int _)]) 4 dX11_isRest_38 rfl (by decide) rfl ?_
          refine e_goto (t := 5) dX11_isRest_41 (by decide) ?_
          refine e_sub [2, 3, 4, 1, 0] rfl ?_
          exact ih _ _ _ _ _ hf
def f_X11_isRest (v0 : Int32) (v1 : Int32) (v2 : Int32) : Option Int32 :=
  f_X11_isRest_L5 e_fu (fun (w3_1 : Int32) =>
    if isB w3_1 = true then
    some w3_1
    else none) v0 v1 v2 1 0
set_option maxRecDepth 100000 in
set_option maxHeartbeats 4000000 in
theorem m_X11_isRest {l : Launch} {d : Nat} {L : eL} {h : eH} {v0 : Int32} {v1 : Int32} {v2 : Int32} {r : Int32} (hd : 2 ≤ d) (hf : f_X11_isRest v0 v1 v2 = some r) : e_Met l yX11_isRest cX11_isRest 5 (some .boolean) d 0 0 true L h [.int v0, .int v1, .int v2] (Qx (some (.int r)) L h) := by
  refine e_metl (by decide) (Nat.le_of_ble_eq_true rfl) (lv := [(0, .int v0), (1, .int v1), (2, .int v2)]) rfl ?_
  unfold f_X11_isRest at hf
  refine e_iconst (v := 1) dX11_isRest_0 (by decide) ?_
  refine e_istore_n (lv' := [(3, .int _), (0, .int _), (1, .int _), (2, .int _)]) dX11_isRest_1 rfl (by decide) rfl ?_
  refine e_iconst (v := 0) dX11_isRest_2 (by decide) ?_
  refine e_istore (lv' := [(4, .int _), (3, .int _), (0, .int _), (1, .int _), (2, .int _)]) dX11_isRest_3 (by decide) rfl ?_
  refine e_sub [2, 3, 4, 1, 0] rfl ?_
  refine m_X11_isRest_L5 hd ?_ e_fu _ _ _ _ _ hf
  · intro w3_1 hf
    refine e_iload_n 0 dX11_isRest_44 rfl rfl ?_
    obtain ⟨hB2, hf⟩ := e_if hf
    exact e_zret (ty := .boolean) rfl (isB_n hB2) dX11_isRest_45 (qP hf)
def f_X11_rests_L37 (L : eL) : Nat → (eH → Nat → Int32 → Int32 → Int32 → Option (eH × Int32)) → eH → Nat → Int32 → Int32 → Int32 → Int32 → Option (eH × Int32)
  | 0, _, _, _, _, _, _, _ => none
  | n + 1, k90, h, v0, v1, v2, v3, v4 =>
    if 9 < v4 then
      k90 h v0 v1 v2 v3
    else
      (f_X11_isRest v3 v4 v1).bind fun r2 =>
      if r2 = 0 then
        f_X11_rests_L37 L n k90 h v0 v1 v2 v3 (v4 + Int32.ofInt 1)
      else
        (f_X11_isRest v4 v3 v1).bind fun r4 =>
        if r4 = 0 then
          f_X11_rests_L37 L n k90 h v0 v1 v2 v3 (v4 + Int32.ofInt 1)
        else
          if v2 = 0 then
            if isO L v0 11 = true then
            (f_X11_enters L h v0 v3.toInt64).bind fun r7 =>
            (f_X11_enters L r7 v0 v4.toInt64).bind fun r9 =>
            f_X11_rests_L37 L n k90 r9 v0 v1 (v2 + Int32.ofInt 1) v3 (v4 + Int32.ofInt 1)
            else none
          else
            f_X11_rests_L37 L n k90 h v0 v1 (v2 + Int32.ofInt 1) v3 (v4 + Int32.ofInt 1)
set_option maxRecDepth 100000 in
set_option maxHeartbeats 4000000 in
theorem m_X11_rests_L37 {l : Launch} {d : Nat} {L : eL}  {r : eH × Int32} {k90 : eH → Nat → Int32 → Int32 → Int32 → Option (eH × Int32)} (hd : 3 ≤ d) (hk90 : ∀ (h : eH) (v0 : Nat) (v1 : Int32) (v2 : Int32) (v3 : Int32), k90 h v0 v1 v2 v3 = some r → E l yX11_rests cX11_rests 5 (some .int) (e_rm d 0 0) 0 0 true L (Qx (some (.int r.2)) L r.1) L h 0 0 90 [(0, .ref v0), (1, .int v1), (2, .int v2), (3, .int v3)] []) : ∀ (n : Nat) (h : eH) (v0 : Nat) (v1 : Int32) (v2 : Int32) (v3 : Int32) (v4 : Int32), f_X11_rests_L37 L n k90 h v0 v1 v2 v3 v4 = some r → E l yX11_rests cX11_rests 5 (some .int) (e_rm d 0 0) 0 0 true L (Qx (some (.int r.2)) L r.1) L h 0 0 37 [(0, .ref v0), (1, .int v1), (2, .int v2), (3, .int v3), (4, .int v4)] [] := by
  intro n
  induction n with
  | zero => intro h v0 v1 v2 v3 v4 hf; exact absurd hf (by simp [f_X11_rests_L37])
  | succ n ih =>
    intro h v0 v1 v2 v3 v4 hf
    unfold f_X11_rests_L37 at hf
    refine e_iload 4 dX11_rests_37 rfl ?_
    refine e_bipush (v := 9) dX11_rests_39 (by decide) ?_
    refine e_icmp_gt (t := 90) dX11_rests_41 (by decide) (fun c => ?_) (fun c => ?_)
    · replace hf := e_it c hf
      refine e_sub [0, 1, 2, 3] rfl ?_
      exact hk90 _ _ _ _ _ hf
    · replace hf := e_ie c hf
      refine e_iload_n 3 dX11_rests_44 rfl rfl ?_
      refine e_iload 4 dX11_rests_45 rfl ?_
      refine e_iload_n 1 dX11_rests_47 rfl rfl ?_
      obtain ⟨r2, hr3, hf⟩ := e_bd hf
      refine e_callS (st := []) ml_RX11_406 k_X11_isRest (m_X11_isRest (d := d - 1) (by omega) hr3) rfl rfl (Nat.le_of_ble_eq_true rfl) ⟨by omega, by decide⟩ ⟨Nat.le_refl _, Nat.le_refl _⟩ dX11_rests_48 ?_
      refine e_if_eq (t := 84) dX11_rests_51 (by decide) (fun c => ?_) (fun c => ?_)
      · replace hf := e_it c hf
        refine e_iinc (lv' := [(4, .int _), (0, .ref _), (1, .int _), (2, .int _), (3, .int _)]) 4 dX11_rests_84 rfl (by decide) rfl ?_
        refine e_goto (t := 37) dX11_rests_87 (by decide) ?_
        refine e_sub [1, 2, 3, 4, 0] rfl ?_
        exact ih _ _ _ _ _ _ hf
      · replace hf := e_ie c hf
        refine e_iload 4 dX11_rests_54 rfl ?_
        refine e_iload_n 3 dX11_rests_56 rfl rfl ?_
        refine e_iload_n 1 dX11_rests_57 rfl rfl ?_
        obtain ⟨r4, hr5, hf⟩ := e_bd hf
        refine e_callS (st := []) ml_RX11_406 k_X11_isRest (m_X11_isRest (d := d - 1) (by omega) hr5) rfl rfl (Nat.le_of_ble_eq_true rfl) ⟨by omega, by decide⟩ ⟨Nat.le_refl _, Nat.le_refl _⟩ dX11_rests_58 ?_
        refine e_if_eq (t := 84) dX11_rests_61 (by decide) (fun c => ?_) (fun c => ?_)
        · replace hf := e_it c hf
          refine e_iinc (lv' := [(4, .int _), (0, .ref _), (1, .int _), (2, .int _), (3, .int _)]) 4 dX11_rests_84 rfl (by decide) rfl ?_
          refine e_goto (t := 37) dX11_rests_87 (by decide) ?_
          refine e_sub [1, 2, 3, 4, 0] rfl ?_
          exact ih _ _ _ _ _ _ hf
        · replace hf := e_ie c hf
          refine e_iload_n 2 dX11_rests_64 rfl rfl ?_
          refine e_if_ne (t := 81) dX11_rests_65 (by decide) (fun c => ?_) (fun c => ?_)
          · replace hf := e_ie c hf
            refine e_iinc (lv' := [(2, .int _), (0, .ref _), (1, .int _), (3, .int _), (4, .int _)]) 2 dX11_rests_81 rfl (by decide) rfl ?_
            refine e_iinc (lv' := [(4, .int _), (2, .int _), (0, .ref _), (1, .int _), (3, .int _)]) 4 dX11_rests_84 rfl (by decide) rfl ?_
            refine e_goto (t := 37) dX11_rests_87 (by decide) ?_
            refine e_sub [2, 3, 1, 4, 0] rfl ?_
            exact ih _ _ _ _ _ _ hf
          · replace hf := e_it c hf
            refine e_aload_n 0 dX11_rests_68 rfl rfl ?_
            refine e_iload_n 3 dX11_rests_69 rfl rfl ?_
            refine e_i2l dX11_rests_70 ?_
            obtain ⟨hO6, hf⟩ := e_if hf
            obtain ⟨r7, hr8, hf⟩ := e_bd hf
            refine e_callV (st := []) ml_RX11_18 k_X11_enters (m_X11_enters (d := d - 1) (by omega) hr8) hO6 ⟨by decide, rfl⟩ rfl rfl (Nat.le_of_ble_eq_true rfl) ⟨by omega, by decide⟩ ⟨Nat.le_refl _, Nat.le_refl _⟩ dX11_rests_71 ?_
            refine e_aload_n 0 dX11_rests_74 rfl rfl ?_
            refine e_iload 4 dX11_rests_75 rfl ?_
            refine e_i2l dX11_rests_77 ?_
            obtain ⟨r9, hr10, hf⟩ := e_bd hf
            refine e_callV (st := []) ml_RX11_18 k_X11_enters (m_X11_enters (d := d - 1) (by omega) hr10) hO6 ⟨by decide, rfl⟩ rfl rfl (Nat.le_of_ble_eq_true rfl) ⟨by omega, by decide⟩ ⟨Nat.le_refl _, Nat.le_refl _⟩ dX11_rests_78 ?_
            refine e_iinc (lv' := [(2, .int _), (0, .ref _), (1, .int _), (3, .int _), (4, .int _)]) 2 dX11_rests_81 rfl (by decide) rfl ?_
            refine e_iinc (lv' := [(4, .int _), (2, .int _), (0, .ref _), (1, .int _), (3, .int _)]) 4 dX11_rests_84 rfl (by decide) rfl ?_
            refine e_goto (t := 37) dX11_rests_87 (by decide) ?_
            refine e_sub [2, 3, 1, 4, 0] rfl ?_
            exact ih _ _ _ _ _ _ hf
def f_X11_rests_L28 (L : eL) : Nat → (eH → Int32 → Option (eH × Int32)) → eH → Nat → Int32 → Int32 → Int32 → Option (eH × Int32)
  | 0, _, _, _, _, _, _ => none
  | n + 1, k96, h, v0, v1, v2, v3 =>
    if 9 < v3 then
      k96 h v2
    else
      f_X11_rests_L37 L e_fu (fun (h11 : eH) (w0_12 : Nat) (w1_13 : Int32) (w2_14 : Int32) (w3_15 : Int32) =>
        f_X11_rests_L28 L n k96 h11 w0_12 w1_13 w2_14 (w3_15 + Int32.ofInt 1)) h v0 v1 v2 v3 0
set_option maxRecDepth 100000 in
set_option maxHeartbeats 4000000 in
theorem m_X11_rests_L28 {l : Launch} {d : Nat} {L : eL}  {r : eH × Int32} {k96 : eH → Int32 → Option (eH × Int32)} (hd : 3 ≤ d) (hk96 : ∀ (h : eH) (v2 : Int32), k96 h v2 = some r → E l yX11_rests cX11_rests 5 (some .int) (e_rm d 0 0) 0 0 true L (Qx (some (.int r.2)) L r.1) L h 0 0 96 [(2, .int v2)] []) : ∀ (n : Nat) (h : eH) (v0 : Nat) (v1 : Int32) (v2 : Int32) (v3 : Int32), f_X11_rests_L28 L n k96 h v0 v1 v2 v3 = some r → E l yX11_rests cX11_rests 5 (some .int) (e_rm d 0 0) 0 0 true L (Qx (some (.int r.2)) L r.1) L h 0 0 28 [(0, .ref v0), (1, .int v1), (2, .int v2), (3, .int v3)] [] := by
  intro n
  induction n with
  | zero => intro h v0 v1 v2 v3 hf; exact absurd hf (by simp [f_X11_rests_L28])
  | succ n ih =>
    intro h v0 v1 v2 v3 hf
    unfold f_X11_rests_L28 at hf
    refine e_iload_n 3 dX11_rests_28 rfl rfl ?_
    refine e_bipush (v := 9) dX11_rests_29 (by decide) ?_
    refine e_icmp_gt (t := 96) dX11_rests_31 (by decide) (fun c => ?_) (fun c => ?_)
    · replace hf := e_it c hf
      refine e_sub [2] rfl ?_
      exact hk96 _ _ hf
    · replace hf := e_ie c hf
      refine e_iconst (v := 0) dX11_rests_34 (by decide) ?_
      refine e_istore (lv' := [(4, .int _), (0, .ref _), (1, .int _), (2, .int _), (3, .int _)]) dX11_rests_35 (by decide) rfl ?_
      refine e_sub [1, 2, 3, 4, 0] rfl ?_
      refine m_X11_rests_L37 hd ?_ e_fu _ _ _ _ _ _ hf
      · intro h11 w0_12 w1_13 w2_14 w3_15 hf
        refine e_iinc (lv' := [(3, .int _), (0, .ref _), (1, .int _), (2, .int _)]) 3 dX11_rests_90 rfl (by decide) rfl ?_
        refine e_goto (t := 28) dX11_rests_93 (by decide) ?_
        refine e_sub [1, 2, 3, 0] rfl ?_
        exact ih _ _ _ _ _ hf
def f_X11_rests (L : eL) (h : eH) (v0 : Nat) (v1 : Int32) : Option (eH × Int32) :=
  if isO L v0 11 = true then
  if (f_X11_in v1.toInt64 1 99) = 0 then
    some (sI h v0 0 0, (-1))
  else
    f_X11_rests_L28 L e_fu (fun (h16 : eH) (w2_17 : Int32) =>
      some (h16, w2_17)) (sI (sI h v0 0 0) v0 1 0) v0 v1 0 0
  else none
set_option maxRecDepth 100000 in
set_option maxHeartbeats 4000000 in
theorem m_X11_rests {l : Launch} {d : Nat} {L : eL} {h : eH} {v0 : Nat} {v1 : Int32} {r : eH × Int32} (hd : 3 ≤ d) (hf : f_X11_rests L h v0 v1 = some r) : e_Met l yX11_rests cX11_rests 5 (some .int) d 0 0 true L h [.ref v0, .int v1] (Qx (some (.int r.2)) L r.1) := by
  refine e_metl (by decide) (Nat.le_of_ble_eq_true rfl) (lv := [(0, .ref v0), (1, .int v1)]) rfl ?_
  unfold f_X11_rests at hf
  refine e_aload_n 0 dX11_rests_0 rfl rfl ?_
  refine e_iconst (v := 0) dX11_rests_1 (by decide) ?_
  obtain ⟨hO1, hf⟩ := e_if hf
  refine e_putI hO1 fc_11_0 rfl lk_RX11_3 dX11_rests_2 ?_
  refine e_iload_n 1 dX11_rests_5 rfl rfl ?_
  refine e_i2l dX11_rests_6 ?_
  refine e_lconst (v := 1) dX11_rests_7 (by decide) ?_
  refine e_ldc2 kc_RX11_404 dX11_rests_8 ?_
  refine e_callS (st := []) ml_RX11_118 k_X11_in (m_X11_in (d := d - 1) (by omega) rfl) rfl rfl (Nat.le_of_ble_eq_true rfl) ⟨by omega, by decide⟩ ⟨Nat.le_refl _, Nat.le_refl _⟩ dX11_rests_11 ?_
  refine e_if_ne (t := 19) dX11_rests_14 (by decide) (fun c => ?_) (fun c => ?_)
  · replace hf := e_ie c hf
    refine e_iconst (v := 0) dX11_rests_19 (by decide) ?_
    refine e_istore_n (lv' := [(2, .int _), (0, .ref _), (1, .int _)]) dX11_rests_20 rfl (by decide) rfl ?_
    refine e_aload_n 1 dX11_rests_21 rfl rfl ?_
    refine e_iconst (v := 0) dX11_rests_22 (by decide) ?_
    refine e_putI hO1 fc_11_1 rfl lk_RX11_15 dX11_rests_23 ?_
    refine e_iconst (v := 0) dX11_rests_26 (by decide) ?_
    refine e_istore_n (lv' := [(3, .int _), (2, .int _), (0, .ref _), (1, .int _)]) dX11_rests_27 rfl (by decide) rfl ?_
    refine e_sub [2, 3, 1, 0] rfl ?_
    refine m_X11_rests_L28 hd ?_ e_fu _ _ _ _ _ hf
    · intro h16 w2_17 hf
      refine e_iload_n 0 dX11_rests_96 rfl rfl ?_
      exact e_iret rfl dX11_rests_97 (qW hf)
  · replace hf := e_it c hf
    refine e_iconst (v := (-1)) dX11_rests_17 (by decide) ?_
    exact e_iret rfl dX11_rests_18 (qW hf)
def f_X11_draws (L : eL) (h : eH) (v0 : Nat) (v1 : Int32) : Option (eH × Int32) :=
  if isO L v0 11 = true then
  (some (sI h v0 43 (((gI h v0 43) * 1103515245) + 12345))).bind fun h2 =>
  if v1 = 0 then none else
  some (h2, (((gI h2 v0 43).toUInt32 >>> ((16 : Int32).toUInt32 &&& Int32.toUInt32 31)).toInt32) - (((gI h2 v0 43).toUInt32 >>> ((16 : Int32).toUInt32 &&& Int32.toUInt32 31)).toInt32) / v1 * v1)
  else none
set_option maxRecDepth 100000 in
set_option maxHeartbeats 4000000 in
theorem m_X11_draws {l : Launch} {d : Nat} {L : eL} {h : eH} {v0 : Nat} {v1 : Int32} {r : eH × Int32} (hd : 1 ≤ d) (hf : f_X11_draws L h v0 v1 = some r) : e_Met l yX11_draws cX11_draws 2 (some .int) d 0 0 true L h [.ref v0, .int v1] (Qx (some (.int r.2)) L r.1) := by
  refine e_metl (by decide) (Nat.le_of_ble_eq_true rfl) (lv := [(0, .ref v0), (1, .int v1)]) rfl ?_
  unfold f_X11_draws at hf
  refine e_aload_n 0 dX11_draws_0 rfl rfl ?_
  refine e_aload_n 0 dX11_draws_1 rfl rfl ?_
  obtain ⟨hO1, hf⟩ := e_if hf
  refine e_getI hO1 fc_11_43 lk_RX11_410 dX11_draws_2 ?_
  refine e_ldcw kc_RX11_413 dX11_draws_5 ?_
  refine e_imul dX11_draws_8 ?_
  refine e_sipush (v := 12345) dX11_draws_9 (by decide) ?_
  refine e_iadd dX11_draws_12 ?_
  refine e_putI hO1 fc_11_43 rfl lk_RX11_410 dX11_draws_13 ?_
  obtain ⟨h2, hh3, hf⟩ := e_bd hf
  refine e_hn hh3 ?_
  refine e_aload_n 0 dX11_draws_16 rfl rfl ?_
  refine e_getI hO1 fc_11_43 lk_RX11_410 dX11_draws_17 ?_
  refine e_bipush (v := 16) dX11_draws_20 (by decide) ?_
  refine e_iushr dX11_draws_22 ?_
  refine e_iload_n 1 dX11_draws_23 rfl rfl ?_
  obtain ⟨hz4, hf⟩ := e_ifp hf
  refine e_irem dX11_draws_24 hz4 ?_
  exact e_iret rfl dX11_draws_25 (qW hf)
def f_X11_weeks_J103 (L : eL) (k30 : eH → Nat → Int32 → Int32 → Option (eH × Int32)) (k148 : eH → Nat → Option (eH × Int32)) (h : eH) (v0 : Nat) (v2 : Int32) (v3 : Int32) (v4 : Int32) (s0 : Int32) : Option (eH × Int32) :=
  if isO L v0 11 = true then
  (gR h v0 8).bind fun b8 =>
  (gR h v0 8).bind fun b10 =>
  if inA L b10 0 73 = true then
  if inA L b8 0 73 = true then
  (some (sI h b8 (73 : Int32).toNatClampNeg (((gI h b10 (73 : Int32).toNatClampNeg) + (f_X11_flag s0)) - ((gI h b10 (73 : Int32).toNatClampNeg) + (f_X11_flag s0)) / 4 * 4))).bind fun h14 =>
  if v4 = 7 then
    (gR h14 v0 8).bind fun b16 =>
    (f_X11_dayGoes L h14 v0 b16).bind fun r18 =>
    k30 r18 v0 v2 (v3 + Int32.ofInt 1)
  else
    k30 h14 v0 v2 (v3 + Int32.ofInt 1)
  else none
  else none
  else none
set_option maxRecDepth 100000 in
set_option maxHeartbeats 4000000 in
theorem m_X11_weeks_J103 {l : Launch} {d : Nat} {L : eL}  {r : eH × Int32} {k30 : eH → Nat → Int32 → Int32 → Option (eH × Int32)} {k148 : eH → Nat → Option (eH × Int32)} (hd : 6 ≤ d) (hk30 : ∀ (h : eH) (v0 : Nat) (v2 : Int32) (v3 : Int32), k30 h v0 v2 v3 = some r → E l yX11_weeks cX11_weeks 6 (some .int) (e_rm d 0 0) 0 0 true L (Qx (some (.int r.2)) L r.1) L h 0 0 30 [(0, .ref v0), (2, .int v2), (3, .int v3)] []) (hk148 : ∀ (h : eH) (v0 : Nat), k148 h v0 = some r → E l yX11_weeks cX11_weeks 6 (some .int) (e_rm d 0 0) 0 0 true L (Qx (some (.int r.2)) L r.1) L h 0 0 148 [(0, .ref v0)] []) : ∀ (h : eH) (v0 : Nat) (v2 : Int32) (v3 : Int32) (v4 : Int32) (s0 : Int32), f_X11_weeks_J103 L k30 k148 h v0 v2 v3 v4 s0 = some r → E l yX11_weeks cX11_weeks 6 (some .int) (e_rm d 0 0) 0 0 true L (Qx (some (.int r.2)) L r.1) L h 0 0 103 [(0, .ref v0), (2, .int v2), (3, .int v3), (4, .int v4)] [.int s0] := by
  intro h v0 v2 v3 v4 s0 hf
  unfold f_X11_weeks_J103 at hf
  refine e_istore (lv' := [(5, .int _), (0, .ref _), (2, .int _), (3, .int _), (4, .int _)]) dX11_weeks_103 (by decide) rfl ?_
  refine e_aload_n 1 dX11_weeks_105 rfl rfl ?_
  obtain ⟨hO7, hf⟩ := e_if hf
  obtain ⟨b8, hb9, hf⟩ := e_bd hf
  refine e_getR hO7 fc_11_8 lk_RX11_44 dX11_weeks_106 hb9 ?_
  refine e_bipush (v := 73) dX11_weeks_109 (by decide) ?_
  refine e_aload_n 1 dX11_weeks_111 rfl rfl ?_
  obtain ⟨b10, hb11, hf⟩ := e_bd hf
  refine e_getR hO7 fc_11_8 lk_RX11_44 dX11_weeks_112 hb11 ?_
  refine e_bipush (v := 73) dX11_weeks_115 (by decide) ?_
  obtain ⟨hI12, hf⟩ := e_if hf
  refine e_iald hI12 dX11_weeks_117 ?_
  refine e_iload 0 dX11_weeks_118 rfl ?_
  refine e_callS (st := [.int _, .int _, .ref _]) ml_RX11_122 k_X11_flag (m_X11_flag (d := d - 1) (by omega) rfl) rfl rfl (Nat.le_of_ble_eq_true rfl) ⟨by omega, by decide⟩ ⟨Nat.le_refl _, Nat.le_refl _⟩ dX11_weeks_120 ?_
  refine e_iadd dX11_weeks_123 ?_
  refine e_iconst (v := 4) dX11_weeks_124 (by decide) ?_
  refine e_irem dX11_weeks_125 (by decide) ?_
  obtain ⟨hI13, hf⟩ := e_if hf
  refine e_iast hI13 dX11_weeks_126 ?_
  obtain ⟨h14, hh15, hf⟩ := e_bd hf
  refine e_hn hh15 ?_
  refine e_iload 4 dX11_weeks_127 rfl ?_
  refine e_bipush (v := 7) dX11_weeks_129 (by decide) ?_
  refine e_icmp_ne (t := 142) dX11_weeks_131 (by decide) (fun c => ?_) (fun c => ?_)
  · replace hf := e_ie c hf
    refine e_iinc (lv' := [(3, .int _), (5, .int _), (0, .ref _), (2, .int _), (4, .int _)]) 3 dX11_weeks_142 rfl (by decide) rfl ?_
    refine e_goto (t := 30) dX11_weeks_145 (by decide) ?_
    refine e_sub [2, 3, 0] rfl ?_
    exact hk30 _ _ _ _ hf
  · replace hf := e_it c hf
    refine e_aload_n 1 dX11_weeks_134 rfl rfl ?_
    refine e_aload_n 1 dX11_weeks_135 rfl rfl ?_
    obtain ⟨b16, hb17, hf⟩ := e_bd hf
    refine e_getR hO7 fc_11_8 lk_RX11_44 dX11_weeks_136 hb17 ?_
    obtain ⟨r18, hr19, hf⟩ := e_bd hf
    refine e_callV (st := []) ml_RX11_275 k_X11_dayGoes (m_X11_dayGoes (d := d - 1) (by omega) hr19) hO7 ⟨by decide, rfl⟩ rfl rfl (Nat.le_of_ble_eq_true rfl) ⟨by omega, by decide⟩ ⟨Nat.le_refl _, Nat.le_refl _⟩ dX11_weeks_139 ?_
    refine e_iinc (lv' := [(3, .int _), (5, .int _), (0, .ref _), (2, .int _), (4, .int _)]) 3 dX11_weeks_142 rfl (by decide) rfl ?_
    refine e_goto (t := 30) dX11_weeks_145 (by decide) ?_
    refine e_sub [2, 3, 0] rfl ?_
    exact hk30 _ _ _ _ hf
def f_X11_weeks_J60 (L : eL) (k30 : eH → Nat → Int32 → Int32 → Option (eH × Int32)) (k148 : eH → Nat → Option (eH × Int32)) (h : eH) (v0 : Nat) (v2 : Int32) (v3 : Int32) (v4 : Int32) : Option (eH × Int32) :=
  if v4 = 6 then
    f_X11_weeks_J103 L k30 k148 h v0 v2 v3 v4 1
  else
    if 6 ≤ v4 then
      f_X11_weeks_J103 L k30 k148 h v0 v2 v3 v4 0
    else
      if isO L v0 11 = true then
      (gR h v0 6).bind fun b21 =>
      (gR h v0 8).bind fun b23 =>
      if inA L b23 0 72 = true then
      if inA L b21 0 (gI h b23 (72 : Int32).toNatClampNeg) = true then
      if (gI h b21 (gI h b23 (72 : Int32).toNatClampNeg).toNatClampNeg) = 2 then
        (f_X11_draws L h v0 4).bind fun r27 =>
        if r27.2 = 0 then
          f_X11_weeks_J103 L k30 k148 r27.1 v0 v2 v3 v4 1
        else
          f_X11_weeks_J103 L k30 k148 r27.1 v0 v2 v3 v4 0
      else
        f_X11_weeks_J103 L k30 k148 h v0 v2 v3 v4 0
      else none
      else none
      else none
set_option maxRecDepth 100000 in
set_option maxHeartbeats 4000000 in
theorem m_X11_weeks_J60 {l : Launch} {d : Nat} {L : eL}  {r : eH × Int32} {k30 : eH → Nat → Int32 → Int32 → Option (eH × Int32)} {k148 : eH → Nat → Option (eH × Int32)} (hd : 6 ≤ d) (hk30 : ∀ (h : eH) (v0 : Nat) (v2 : Int32) (v3 : Int32), k30 h v0 v2 v3 = some r → E l yX11_weeks cX11_weeks 6 (some .int) (e_rm d 0 0) 0 0 true L (Qx (some (.int r.2)) L r.1) L h 0 0 30 [(0, .ref v0), (2, .int v2), (3, .int v3)] []) (hk148 : ∀ (h : eH) (v0 : Nat), k148 h v0 = some r → E l yX11_weeks cX11_weeks 6 (some .int) (e_rm d 0 0) 0 0 true L (Qx (some (.int r.2)) L r.1) L h 0 0 148 [(0, .ref v0)] []) : ∀ (h : eH) (v0 : Nat) (v2 : Int32) (v3 : Int32) (v4 : Int32), f_X11_weeks_J60 L k30 k148 h v0 v2 v3 v4 = some r → E l yX11_weeks cX11_weeks 6 (some .int) (e_rm d 0 0) 0 0 true L (Qx (some (.int r.2)) L r.1) L h 0 0 60 [(0, .ref v0), (2, .int v2), (3, .int v3), (4, .int v4)] [] := by
  intro h v0 v2 v3 v4 hf
  unfold f_X11_weeks_J60 at hf
  refine e_iload 3 dX11_weeks_60 rfl ?_
  refine e_bipush (v := 6) dX11_weeks_62 (by decide) ?_
  refine e_icmp_eq (t := 98) dX11_weeks_64 (by decide) (fun c => ?_) (fun c => ?_)
  · replace hf := e_it c hf
    refine e_iconst (v := 1) dX11_weeks_98 (by decide) ?_
    refine e_goto (t := 103) dX11_weeks_99 (by decide) ?_
    exact m_X11_weeks_J103 hd hk30 hk148 _ _ _ _ _ _ hf
  · replace hf := e_ie c hf
    refine e_iload 3 dX11_weeks_67 rfl ?_
    refine e_bipush (v := 6) dX11_weeks_69 (by decide) ?_
    refine e_icmp_ge (t := 102) dX11_weeks_71 (by decide) (fun c => ?_) (fun c => ?_)
    · replace hf := e_it c hf
      refine e_iconst (v := 0) dX11_weeks_102 (by decide) ?_
      exact m_X11_weeks_J103 hd hk30 hk148 _ _ _ _ _ _ hf
    · replace hf := e_ie c hf
      refine e_aload_n 0 dX11_weeks_74 rfl rfl ?_
      obtain ⟨hO20, hf⟩ := e_if hf
      obtain ⟨b21, hb22, hf⟩ := e_bd hf
      refine e_getR hO20 fc_11_6 lk_RX11_37 dX11_weeks_75 hb22 ?_
      refine e_aload_n 0 dX11_weeks_78 rfl rfl ?_
      obtain ⟨b23, hb24, hf⟩ := e_bd hf
      refine e_getR hO20 fc_11_8 lk_RX11_44 dX11_weeks_79 hb24 ?_
      refine e_bipush (v := 72) dX11_weeks_82 (by decide) ?_
      obtain ⟨hI25, hf⟩ := e_if hf
      refine e_iald hI25 dX11_weeks_84 ?_
      obtain ⟨hI26, hf⟩ := e_if hf
      refine e_iald hI26 dX11_weeks_85 ?_
      refine e_iconst (v := 2) dX11_weeks_86 (by decide) ?_
      refine e_icmp_ne (t := 102) dX11_weeks_87 (by decide) (fun c => ?_) (fun c => ?_)
      · replace hf := e_ie c hf
        refine e_iconst (v := 0) dX11_weeks_102 (by decide) ?_
        exact m_X11_weeks_J103 hd hk30 hk148 _ _ _ _ _ _ hf
      · replace hf := e_it c hf
        refine e_aload_n 0 dX11_weeks_90 rfl rfl ?_
        refine e_iconst (v := 4) dX11_weeks_91 (by decide) ?_
        obtain ⟨r27, hr28, hf⟩ := e_bd hf
        refine e_callV (st := []) ml_RX11_416 k_X11_draws (m_X11_draws (d := d - 1) (by omega) hr28) hO20 ⟨by decide, rfl⟩ rfl rfl (Nat.le_of_ble_eq_true rfl) ⟨by omega, by decide⟩ ⟨Nat.le_refl _, Nat.le_refl _⟩ dX11_weeks_92 ?_
        refine e_if_ne (t := 102) dX11_weeks_95 (by decide) (fun c => ?_) (fun c => ?_)
        · replace hf := e_ie c hf
          refine e_iconst (v := 0) dX11_weeks_102 (by decide) ?_
          exact m_X11_weeks_J103 hd hk30 hk148 _ _ _ _ _ _ hf
        · replace hf := e_it c hf
          refine e_iconst (v := 1) dX11_weeks_98 (by decide) ?_
          refine e_goto (t := 103) dX11_weeks_99 (by decide) ?_
          exact m_X11_weeks_J103 hd hk30 hk148 _ _ _ _ _ _ hf
def f_X11_weeks_L30 (L : eL) : Nat → (eH → Nat → Option (eH × Int32)) → eH → Nat → Int32 → Int32 → Option (eH × Int32)
  | 0, _, _, _, _, _ => none
  | n + 1, k148, h, v0, v2, v3 =>
    if v2 ≤ v3 then
      k148 h v0
    else
      if isO L v0 11 = true then
      (f_X11_draws L h v0 8).bind fun r5 =>
      if 6 ≤ r5.2 then
        f_X11_weeks_J60 L (f_X11_weeks_L30 L n k148) k148 r5.1 v0 v2 v3 r5.2
      else
        (gR r5.1 v0 8).bind fun b29 =>
        (f_X11_stepGoes L r5.1 v0 b29 0).bind fun r31 =>
        f_X11_weeks_J60 L (f_X11_weeks_L30 L n k148) k148 r31.1 v0 v2 v3 r5.2
      else none
set_option maxRecDepth 100000 in
set_option maxHeartbeats 4000000 in
theorem m_X11_weeks_L30 {l : Launch} {d : Nat} {L : eL}  {r : eH × Int32} {k148 : eH → Nat → Option (eH × Int32)} (hd : 6 ≤ d) (hk148 : ∀ (h : eH) (v0 : Nat), k148 h v0 = some r → E l yX11_weeks cX11_weeks 6 (some .int) (e_rm d 0 0) 0 0 true L (Qx (some (.int r.2)) L r.1) L h 0 0 148 [(0, .ref v0)] []) : ∀ (n : Nat) (h : eH) (v0 : Nat) (v2 : Int32) (v3 : Int32), f_X11_weeks_L30 L n k148 h v0 v2 v3 = some r → E l yX11_weeks cX11_weeks 6 (some .int) (e_rm d 0 0) 0 0 true L (Qx (some (.int r.2)) L r.1) L h 0 0 30 [(0, .ref v0), (2, .int v2), (3, .int v3)] [] := by
  intro n
  induction n with
  | zero => intro h v0 v2 v3 hf; exact absurd hf (by simp [f_X11_weeks_L30])
  | succ n ih =>
    intro h v0 v2 v3 hf
    unfold f_X11_weeks_L30 at hf
    refine e_iload_n 2 dX11_weeks_30 rfl rfl ?_
    refine e_iload_n 1 dX11_weeks_31 rfl rfl ?_
    refine e_icmp_ge (t := 148) dX11_weeks_32 (by decide) (fun c => ?_) (fun c => ?_)
    · replace hf := e_it c hf
      refine e_sub [0] rfl ?_
      exact hk148 _ _ hf
    · replace hf := e_ie c hf
      refine e_aload_n 0 dX11_weeks_35 rfl rfl ?_
      refine e_bipush (v := 8) dX11_weeks_36 (by decide) ?_
      obtain ⟨hO4, hf⟩ := e_if hf
      obtain ⟨r5, hr6, hf⟩ := e_bd hf
      refine e_callV (st := []) ml_RX11_416 k_X11_draws (m_X11_draws (d := d - 1) (by omega) hr6) hO4 ⟨by decide, rfl⟩ rfl rfl (Nat.le_of_ble_eq_true rfl) ⟨by omega, by decide⟩ ⟨Nat.le_refl _, Nat.le_refl _⟩ dX11_weeks_38 ?_
      refine e_istore (lv' := [(4, .int _), (0, .ref _), (2, .int _), (3, .int _)]) dX11_weeks_41 (by decide) rfl ?_
      refine e_iload 0 dX11_weeks_43 rfl ?_
      refine e_bipush (v := 6) dX11_weeks_45 (by decide) ?_
      refine e_icmp_ge (t := 60) dX11_weeks_47 (by decide) (fun c => ?_) (fun c => ?_)
      · replace hf := e_it c hf
        refine e_sub [1, 2, 3, 0] rfl ?_
        exact m_X11_weeks_J60 hd ih hk148 _ _ _ _ _ hf
      · replace hf := e_ie c hf
        refine e_aload_n 1 dX11_weeks_50 rfl rfl ?_
        refine e_aload_n 1 dX11_weeks_51 rfl rfl ?_
        obtain ⟨b29, hb30, hf⟩ := e_bd hf
        refine e_getR hO4 fc_11_8 lk_RX11_44 dX11_weeks_52 hb30 ?_
        refine e_iconst (v := 0) dX11_weeks_55 (by decide) ?_
        obtain ⟨r31, hr32, hf⟩ := e_bd hf
        refine e_callV (st := []) ml_RX11_265 k_X11_stepGoes (m_X11_stepGoes (d := d - 1) (by omega) hr32) hO4 ⟨by decide, rfl⟩ rfl rfl (Nat.le_of_ble_eq_true rfl) ⟨by omega, by decide⟩ ⟨Nat.le_refl _, Nat.le_refl _⟩ dX11_weeks_56 ?_
        refine e_popI dX11_weeks_59 ?_
        refine e_sub [1, 2, 3, 0] rfl ?_
        exact m_X11_weeks_J60 hd ih hk148 _ _ _ _ _ hf
def f_X11_weeks (L : eL) (h : eH) (v0 : Nat) (v1 : Int32) (v2 : Int32) : Option (eH × Int32) :=
  if isO L v0 11 = true then
  if (f_X11_in v2.toInt64 1 60) = 0 then
    some (sI h v0 0 0, (-1))
  else
    (f_X11_puts L (sI (sI h v0 0 0) v0 43 v1) v0).bind fun r2 =>
    f_X11_weeks_L30 L e_fu (fun (h33 : eH) (w0_34 : Nat) =>
      if isO L w0_34 11 = true then
      (gR (sI h33 w0_34 1 0) w0_34 8).bind fun b36 =>
      if inA L b36 0 72 = true then
      (f_X11_enters L (sI h33 w0_34 1 0) w0_34 ((gI (sI h33 w0_34 1 0) b36 (72 : Int32).toNatClampNeg).toInt64)).bind fun r39 =>
      (gR r39 w0_34 8).bind fun b41 =>
      (f_X11_dustAll L r39 w0_34 b41).bind fun r43 =>
      (f_X11_enters L r39 w0_34 r43.toInt64).bind fun r45 =>
      (gR r45 w0_34 8).bind fun b47 =>
      if inA L b47 0 75 = true then
      (gR r45 w0_34 7).bind fun b50 =>
      if inA L b50 0 75 = true then
      some (r45, (gI r45 b47 (75 : Int32).toNatClampNeg) - (gI r45 b50 (75 : Int32).toNatClampNeg))
      else none
      else none
      else none
      else none) r2 v0 v2 0
  else none
set_option maxRecDepth 100000 in
set_option maxHeartbeats 4000000 in
theorem m_X11_weeks {l : Launch} {d : Nat} {L : eL} {h : eH} {v0 : Nat} {v1 : Int32} {v2 : Int32} {r : eH × Int32} (hd : 6 ≤ d) (hf : f_X11_weeks L h v0 v1 v2 = some r) : e_Met l yX11_weeks cX11_weeks 6 (some .int) d 0 0 true L h [.ref v0, .int v1, .int v2] (Qx (some (.int r.2)) L r.1) := by
  refine e_metl (by decide) (Nat.le_of_ble_eq_true rfl) (lv := [(0, .ref v0), (1, .int v1), (2, .int v2)]) rfl ?_
  unfold f_X11_weeks at hf
  refine e_aload_n 0 dX11_weeks_0 rfl rfl ?_
  refine e_iconst (v := 0) dX11_weeks_1 (by decide) ?_
  obtain ⟨hO1, hf⟩ := e_if hf
  refine e_putI hO1 fc_11_0 rfl lk_RX11_3 dX11_weeks_2 ?_
  refine e_iload_n 2 dX11_weeks_5 rfl rfl ?_
  refine e_i2l dX11_weeks_6 ?_
  refine e_lconst (v := 1) dX11_weeks_7 (by decide) ?_
  refine e_ldc2 kc_RX11_414 dX11_weeks_8 ?_
  refine e_callS (st := []) ml_RX11_118 k_X11_in (m_X11_in (d := d - 1) (by omega) rfl) rfl rfl (Nat.le_of_ble_eq_true rfl) ⟨by omega, by decide⟩ ⟨Nat.le_refl _, Nat.le_refl _⟩ dX11_weeks_11 ?_
  refine e_if_ne (t := 19) dX11_weeks_14 (by decide) (fun c => ?_) (fun c => ?_)
  · replace hf := e_ie c hf
    refine e_aload_n 0 dX11_weeks_19 rfl rfl ?_
    refine e_iload_n 1 dX11_weeks_20 rfl rfl ?_
    refine e_putI hO1 fc_11_43 rfl lk_RX11_410 dX11_weeks_21 ?_
    refine e_aload_n 0 dX11_weeks_24 rfl rfl ?_
    obtain ⟨r2, hr3, hf⟩ := e_bd hf
    refine e_callV (st := []) ml_RX11_317 k_X11_puts (m_X11_puts (d := d - 1) (by omega) hr3) hO1 ⟨by decide, rfl⟩ rfl rfl (Nat.le_of_ble_eq_true rfl) ⟨by omega, by decide⟩ ⟨Nat.le_refl _, Nat.le_refl _⟩ dX11_weeks_25 ?_
    refine e_iconst (v := 0) dX11_weeks_28 (by decide) ?_
    refine e_istore_n (lv' := [(3, .int _), (0, .ref _), (1, .int _), (2, .int _)]) dX11_weeks_29 rfl (by decide) rfl ?_
    refine e_sub [1, 3, 0] rfl ?_
    refine m_X11_weeks_L30 hd ?_ e_fu _ _ _ _ hf
    · intro h33 w0_34 hf
      refine e_aload_n 0 dX11_weeks_148 rfl rfl ?_
      refine e_iconst (v := 0) dX11_weeks_149 (by decide) ?_
      obtain ⟨hO35, hf⟩ := e_if hf
      refine e_putI hO35 fc_11_1 rfl lk_RX11_15 dX11_weeks_150 ?_
      refine e_aload_n 0 dX11_weeks_153 rfl rfl ?_
      refine e_aload_n 0 dX11_weeks_154 rfl rfl ?_
      obtain ⟨b36, hb37, hf⟩ := e_bd hf
      refine e_getR hO35 fc_11_8 lk_RX11_44 dX11_weeks_155 hb37 ?_
      refine e_bipush (v := 72) dX11_weeks_158 (by decide) ?_
      obtain ⟨hI38, hf⟩ := e_if hf
      refine e_iald hI38 dX11_weeks_160 ?_
      refine e_i2l dX11_weeks_161 ?_
      obtain ⟨r39, hr40, hf⟩ := e_bd hf
      refine e_callV (st := []) ml_RX11_18 k_X11_enters (m_X11_enters (d := d - 1) (by omega) hr40) hO35 ⟨by decide, rfl⟩ rfl rfl (Nat.le_of_ble_eq_true rfl) ⟨by omega, by decide⟩ ⟨Nat.le_refl _, Nat.le_refl _⟩ dX11_weeks_162 ?_
      refine e_aload_n 0 dX11_weeks_165 rfl rfl ?_
      refine e_aload_n 0 dX11_weeks_166 rfl rfl ?_
      refine e_aload_n 0 dX11_weeks_167 rfl rfl ?_
      obtain ⟨b41, hb42, hf⟩ := e_bd hf
      refine e_getR hO35 fc_11_8 lk_RX11_44 dX11_weeks_168 hb42 ?_
      obtain ⟨r43, hr44, hf⟩ := e_bd hf
      refine e_callV (st := [.ref _]) ml_RX11_279 k_X11_dustAll (m_X11_dustAll (d := d - 1) (by omega) hr44) hO35 ⟨by decide, rfl⟩ rfl rfl (Nat.le_of_ble_eq_true rfl) ⟨by omega, by decide⟩ ⟨Nat.le_refl _, Nat.le_refl _⟩ dX11_weeks_171 ?_
      refine e_i2l dX11_weeks_174 ?_
      obtain ⟨r45, hr46, hf⟩ := e_bd hf
      refine e_callV (st := []) ml_RX11_18 k_X11_enters (m_X11_enters (d := d - 1) (by omega) hr46) hO35 ⟨by decide, rfl⟩ rfl rfl (Nat.le_of_ble_eq_true rfl) ⟨by omega, by decide⟩ ⟨Nat.le_refl _, Nat.le_refl _⟩ dX11_weeks_175 ?_
      refine e_aload_n 0 dX11_weeks_178 rfl rfl ?_
      obtain ⟨b47, hb48, hf⟩ := e_bd hf
      refine e_getR hO35 fc_11_8 lk_RX11_44 dX11_weeks_179 hb48 ?_
      refine e_bipush (v := 75) dX11_weeks_182 (by decide) ?_
      obtain ⟨hI49, hf⟩ := e_if hf
      refine e_iald hI49 dX11_weeks_184 ?_
      refine e_aload_n 0 dX11_weeks_185 rfl rfl ?_
      obtain ⟨b50, hb51, hf⟩ := e_bd hf
      refine e_getR hO35 fc_11_7 lk_RX11_41 dX11_weeks_186 hb51 ?_
      refine e_bipush (v := 75) dX11_weeks_189 (by decide) ?_
      obtain ⟨hI52, hf⟩ := e_if hf
      refine e_iald hI52 dX11_weeks_191 ?_
      refine e_isub dX11_weeks_192 ?_
      exact e_iret rfl dX11_weeks_193 (qW hf)
  · replace hf := e_it c hf
    refine e_iconst (v := (-1)) dX11_weeks_17 (by decide) ?_
    exact e_iret rfl dX11_weeks_18 (qW hf)
def f_X11_keep_L28 (L : eL) : Nat → (eH → Option (eH × Int32)) → eH → Nat → Int32 → Int32 → Option (eH × Int32)
  | 0, _, _, _, _, _ => none
  | n + 1, k57, h, v0, v1, v2 =>
    if 79 ≤ v2 then
      k57 h
    else
      if isO L v0 11 = true then
      (gR h v0 45).bind fun b8 =>
      (gR h v0 7).bind fun b10 =>
      if inA L b10 0 v2 = true then
      if inA L b8 0 ((79 * v1) + v2) = true then
      (some (sI h b8 ((79 * v1) + v2).toNatClampNeg (gI h b10 v2.toNatClampNeg))).bind fun h14 =>
      f_X11_keep_L28 L n k57 h14 v0 v1 (v2 + Int32.ofInt 1)
      else none
      else none
      else none
set_option maxRecDepth 100000 in
set_option maxHeartbeats 4000000 in
theorem m_X11_keep_L28 {l : Launch} {d : Nat} {L : eL}  {r : eH × Int32} {k57 : eH → Option (eH × Int32)} (hd : 2 ≤ d) (hk57 : ∀ (h : eH), k57 h = some r → E l yX11_keep cX11_keep 3 (some .boolean) (e_rm d 0 0) 0 0 true L (Qx (some (.int r.2)) L r.1) L h 0 0 57 [] []) : ∀ (n : Nat) (h : eH) (v0 : Nat) (v1 : Int32) (v2 : Int32), f_X11_keep_L28 L n k57 h v0 v1 v2 = some r → E l yX11_keep cX11_keep 3 (some .boolean) (e_rm d 0 0) 0 0 true L (Qx (some (.int r.2)) L r.1) L h 0 0 28 [(0, .ref v0), (1, .int v1), (2, .int v2)] [] := by
  intro n
  induction n with
  | zero => intro h v0 v1 v2 hf; exact absurd hf (by simp [f_X11_keep_L28])
  | succ n ih =>
    intro h v0 v1 v2 hf
    unfold f_X11_keep_L28 at hf
    refine e_iload_n 2 dX11_keep_28 rfl rfl ?_
    refine e_bipush (v := 79) dX11_keep_29 (by decide) ?_
    refine e_icmp_ge (t := 57) dX11_keep_31 (by decide) (fun c => ?_) (fun c => ?_)
    · replace hf := e_it c hf
      refine e_sub [] rfl ?_
      exact hk57 _ hf
    · replace hf := e_ie c hf
      refine e_aload_n 0 dX11_keep_34 rfl rfl ?_
      obtain ⟨hO7, hf⟩ := e_if hf
      obtain ⟨b8, hb9, hf⟩ := e_bd hf
      refine e_getR hO7 fc_11_45 lk_RX11_111 dX11_keep_35 hb9 ?_
      refine e_bipush (v := 79) dX11_keep_38 (by decide) ?_
      refine e_iload_n 1 dX11_keep_40 rfl rfl ?_
      refine e_imul dX11_keep_41 ?_
      refine e_iload_n 2 dX11_keep_42 rfl rfl ?_
      refine e_iadd dX11_keep_43 ?_
      refine e_aload_n 0 dX11_keep_44 rfl rfl ?_
      obtain ⟨b10, hb11, hf⟩ := e_bd hf
      refine e_getR hO7 fc_11_7 lk_RX11_41 dX11_keep_45 hb11 ?_
      refine e_iload_n 2 dX11_keep_48 rfl rfl ?_
      obtain ⟨hI12, hf⟩ := e_if hf
      refine e_iald hI12 dX11_keep_49 ?_
      obtain ⟨hI13, hf⟩ := e_if hf
      refine e_iast hI13 dX11_keep_50 ?_
      obtain ⟨h14, hh15, hf⟩ := e_bd hf
      refine e_hn hh15 ?_
      refine e_iinc (lv' := [(2, .int _), (0, .ref _), (1, .int _)]) 2 dX11_keep_51 rfl (by decide) rfl ?_
      refine e_goto (t := 28) dX11_keep_54 (by decide) ?_
      refine e_sub [1, 2, 0] rfl ?_
      exact ih _ _ _ _ hf
def f_X11_keep (L : eL) (h : eH) (v0 : Nat) (v1 : Int32) : Option (eH × Int32) :=
  if isO L v0 11 = true then
  if (f_X11_in v1.toInt64 0 2) = 0 then
    some (sI h v0 0 0, 0)
  else
    (gR (sI h v0 0 0) v0 44).bind fun b2 =>
    if inA L b2 2 v1 = true then
    (some (sI (sI h v0 0 0) b2 v1.toNatClampNeg (vp_nar .boolean 1))).bind fun h5 =>
    f_X11_keep_L28 L e_fu (fun (h16 : eH) =>
      some (h16, 1)) h5 v0 v1 0
    else none
  else none
set_option maxRecDepth 100000 in
set_option maxHeartbeats 4000000 in
theorem m_X11_keep {l : Launch} {d : Nat} {L : eL} {h : eH} {v0 : Nat} {v1 : Int32} {r : eH × Int32} (hd : 2 ≤ d) (hf : f_X11_keep L h v0 v1 = some r) : e_Met l yX11_keep cX11_keep 3 (some .boolean) d 0 0 true L h [.ref v0, .int v1] (Qx (some (.int r.2)) L r.1) := by
  refine e_metl (by decide) (Nat.le_of_ble_eq_true rfl) (lv := [(0, .ref v0), (1, .int v1)]) rfl ?_
  unfold f_X11_keep at hf
  refine e_aload_n 0 dX11_keep_0 rfl rfl ?_
  refine e_iconst (v := 0) dX11_keep_1 (by decide) ?_
  obtain ⟨hO1, hf⟩ := e_if hf
  refine e_putI hO1 fc_11_0 rfl lk_RX11_3 dX11_keep_2 ?_
  refine e_iload_n 1 dX11_keep_5 rfl rfl ?_
  refine e_i2l dX11_keep_6 ?_
  refine e_lconst (v := 0) dX11_keep_7 (by decide) ?_
  refine e_ldc2 kc_RX11_419 dX11_keep_8 ?_
  refine e_callS (st := []) ml_RX11_118 k_X11_in (m_X11_in (d := d - 1) (by omega) rfl) rfl rfl (Nat.le_of_ble_eq_true rfl) ⟨by omega, by decide⟩ ⟨Nat.le_refl _, Nat.le_refl _⟩ dX11_keep_11 ?_
  refine e_if_ne (t := 19) dX11_keep_14 (by decide) (fun c => ?_) (fun c => ?_)
  · replace hf := e_ie c hf
    refine e_aload_n 0 dX11_keep_19 rfl rfl ?_
    obtain ⟨b2, hb3, hf⟩ := e_bd hf
    refine e_getR hO1 fc_11_44 lk_RX11_108 dX11_keep_20 hb3 ?_
    refine e_iload_n 1 dX11_keep_23 rfl rfl ?_
    refine e_iconst (v := 1) dX11_keep_24 (by decide) ?_
    obtain ⟨hI4, hf⟩ := e_if hf
    refine e_zast hI4 dX11_keep_25 ?_
    obtain ⟨h5, hh6, hf⟩ := e_bd hf
    refine e_hn hh6 ?_
    refine e_iconst (v := 0) dX11_keep_26 (by decide) ?_
    refine e_istore_n (lv' := [(2, .int _), (0, .ref _), (1, .int _)]) dX11_keep_27 rfl (by decide) rfl ?_
    refine e_sub [1, 2, 0] rfl ?_
    refine m_X11_keep_L28 hd ?_ e_fu _ _ _ _ hf
    · intro h16 hf
      refine e_iconst (v := 1) dX11_keep_57 (by decide) ?_
      exact e_zret (ty := .boolean) rfl rfl dX11_keep_58 (qW hf)
  · replace hf := e_it c hf
    refine e_iconst (v := 0) dX11_keep_17 (by decide) ?_
    exact e_zret (ty := .boolean) rfl rfl dX11_keep_18 (qW hf)
def f_X11_again_L30 (L : eL) : Nat → (eH → Nat → Option (eH × Int32)) → eH → Nat → Int32 → Int32 → Option (eH × Int32)
  | 0, _, _, _, _, _ => none
  | n + 1, k59, h, v0, v1, v2 =>
    if 79 ≤ v2 then
      k59 h v0
    else
      if isO L v0 11 = true then
      (gR h v0 7).bind fun b6 =>
      (gR h v0 45).bind fun b8 =>
      if inA L b8 0 ((79 * v1) + v2) = true then
      if inA L b6 0 v2 = true then
      (some (sI h b6 v2.toNatClampNeg (gI h b8 ((79 * v1) + v2).toNatClampNeg))).bind fun h12 =>
      f_X11_again_L30 L n k59 h12 v0 v1 (v2 + Int32.ofInt 1)
      else none
      else none
      else none
set_option maxRecDepth 100000 in
set_option maxHeartbeats 4000000 in
theorem m_X11_again_L30 {l : Launch} {d : Nat} {L : eL}  {r : eH × Int32} {k59 : eH → Nat → Option (eH × Int32)} (hd : 2 ≤ d) (hk59 : ∀ (h : eH) (v0 : Nat), k59 h v0 = some r → E l yX11_again cX11_again 3 (some .boolean) (e_rm d 0 0) 0 0 true L (Qx (some (.int r.2)) L r.1) L h 0 0 59 [(0, .ref v0)] []) : ∀ (n : Nat) (h : eH) (v0 : Nat) (v1 : Int32) (v2 : Int32), f_X11_again_L30 L n k59 h v0 v1 v2 = some r → E l yX11_again cX11_again 3 (some .boolean) (e_rm d 0 0) 0 0 true L (Qx (some (.int r.2)) L r.1) L h 0 0 30 [(0, .ref v0), (1, .int v1), (2, .int v2)] [] := by
  intro n
  induction n with
  | zero => intro h v0 v1 v2 hf; exact absurd hf (by simp [f_X11_again_L30])
  | succ n ih =>
    intro h v0 v1 v2 hf
    unfold f_X11_again_L30 at hf
    refine e_iload_n 2 dX11_again_30 rfl rfl ?_
    refine e_bipush (v := 79) dX11_again_31 (by decide) ?_
    refine e_icmp_ge (t := 59) dX11_again_33 (by decide) (fun c => ?_) (fun c => ?_)
    · replace hf := e_it c hf
      refine e_sub [0] rfl ?_
      exact hk59 _ _ hf
    · replace hf := e_ie c hf
      refine e_aload_n 0 dX11_again_36 rfl rfl ?_
      obtain ⟨hO5, hf⟩ := e_if hf
      obtain ⟨b6, hb7, hf⟩ := e_bd hf
      refine e_getR hO5 fc_11_7 lk_RX11_41 dX11_again_37 hb7 ?_
      refine e_iload_n 2 dX11_again_40 rfl rfl ?_
      refine e_aload_n 0 dX11_again_41 rfl rfl ?_
      obtain ⟨b8, hb9, hf⟩ := e_bd hf
      refine e_getR hO5 fc_11_45 lk_RX11_111 dX11_again_42 hb9 ?_
      refine e_bipush (v := 79) dX11_again_45 (by decide) ?_
      refine e_iload_n 1 dX11_again_47 rfl rfl ?_
      refine e_imul dX11_again_48 ?_
      refine e_iload_n 2 dX11_again_49 rfl rfl ?_
      refine e_iadd dX11_again_50 ?_
      obtain ⟨hI10, hf⟩ := e_if hf
      refine e_iald hI10 dX11_again_51 ?_
      obtain ⟨hI11, hf⟩ := e_if hf
      refine e_iast hI11 dX11_again_52 ?_
      obtain ⟨h12, hh13, hf⟩ := e_bd hf
      refine e_hn hh13 ?_
      refine e_iinc (lv' := [(2, .int _), (0, .ref _), (1, .int _)]) 2 dX11_again_53 rfl (by decide) rfl ?_
      refine e_goto (t := 30) dX11_again_56 (by decide) ?_
      refine e_sub [1, 2, 0] rfl ?_
      exact ih _ _ _ _ hf
def f_X11_again (L : eL) (h : eH) (v0 : Nat) (v1 : Int32) : Option (eH × Int32) :=
  if isO L v0 11 = true then
  if (f_X11_in v1.toInt64 0 2) = 0 then
    some (sI h v0 0 0, 0)
  else
    (gR (sI h v0 0 0) v0 44).bind fun b2 =>
    if inA L b2 2 v1 = true then
    if (gI (sI h v0 0 0) b2 v1.toNatClampNeg) = 0 then
      some (sI h v0 0 0, 0)
    else
      f_X11_again_L30 L e_fu (fun (h14 : eH) (w0_15 : Nat) =>
        if isO L w0_15 11 = true then
        some (sI h14 w0_15 24 0, 1)
        else none) (sI h v0 0 0) v0 v1 0
    else none
  else none
set_option maxRecDepth 100000 in
set_option maxHeartbeats 4000000 in
theorem m_X11_again {l : Launch} {d : Nat} {L : eL} {h : eH} {v0 : Nat} {v1 : Int32} {r : eH × Int32} (hd : 2 ≤ d) (hf : f_X11_again L h v0 v1 = some r) : e_Met l yX11_again cX11_again 3 (some .boolean) d 0 0 true L h [.ref v0, .int v1] (Qx (some (.int r.2)) L r.1) := by
  refine e_metl (by decide) (Nat.le_of_ble_eq_true rfl) (lv := [(0, .ref v0), (1, .int v1)]) rfl ?_
  unfold f_X11_again at hf
  refine e_aload_n 0 dX11_again_0 rfl rfl ?_
  refine e_iconst (v := 0) dX11_again_1 (by decide) ?_
  obtain ⟨hO1, hf⟩ := e_if hf
  refine e_putI hO1 fc_11_0 rfl lk_RX11_3 dX11_again_2 ?_
  refine e_iload_n 1 dX11_again_5 rfl rfl ?_
  refine e_i2l dX11_again_6 ?_
  refine e_lconst (v := 0) dX11_again_7 (by decide) ?_
  refine e_ldc2 kc_RX11_419 dX11_again_8 ?_
  refine e_callS (st := []) ml_RX11_118 k_X11_in (m_X11_in (d := d - 1) (by omega) rfl) rfl rfl (Nat.le_of_ble_eq_true rfl) ⟨by omega, by decide⟩ ⟨Nat.le_refl _, Nat.le_refl _⟩ dX11_again_11 ?_
  refine e_if_eq (t := 26) dX11_again_14 (by decide) (fun c => ?_) (fun c => ?_)
  · replace hf := e_it c hf
    refine e_iconst (v := 0) dX11_again_26 (by decide) ?_
    exact e_zret (ty := .boolean) rfl rfl dX11_again_27 (qW hf)
  · replace hf := e_ie c hf
    refine e_aload_n 0 dX11_again_17 rfl rfl ?_
    obtain ⟨b2, hb3, hf⟩ := e_bd hf
    refine e_getR hO1 fc_11_44 lk_RX11_108 dX11_again_18 hb3 ?_
    refine e_iload_n 1 dX11_again_21 rfl rfl ?_
    obtain ⟨hI4, hf⟩ := e_if hf
    refine e_zald hI4 dX11_again_22 ?_
    refine e_if_ne (t := 28) dX11_again_23 (by decide) (fun c => ?_) (fun c => ?_)
    · replace hf := e_ie c hf
      refine e_iconst (v := 0) dX11_again_28 (by decide) ?_
      refine e_istore_n (lv' := [(2, .int _), (0, .ref _), (1, .int _)]) dX11_again_29 rfl (by decide) rfl ?_
      refine e_sub [1, 2, 0] rfl ?_
      refine m_X11_again_L30 hd ?_ e_fu _ _ _ _ hf
      · intro h14 w0_15 hf
        refine e_aload_n 0 dX11_again_59 rfl rfl ?_
        refine e_iconst (v := 0) dX11_again_60 (by decide) ?_
        obtain ⟨hO16, hf⟩ := e_if hf
        refine e_putI hO16 fc_11_24 rfl lk_RX11_189 dX11_again_61 ?_
        refine e_iconst (v := 1) dX11_again_64 (by decide) ?_
        exact e_zret (ty := .boolean) rfl rfl dX11_again_65 (qW hf)
    · replace hf := e_it c hf
      refine e_iconst (v := 0) dX11_again_26 (by decide) ?_
      exact e_zret (ty := .boolean) rfl rfl dX11_again_27 (qW hf)
def f_X11_count (L : eL) (h : eH) (v0 : Nat) (v1 : Int32) : Option (eH × Int32) :=
  if isO L v0 11 = true then
  if v1 = 0 then
    some (sI h v0 0 0, gI (sI h v0 0 0) v0 3)
  else if v1 = 1 then
    some (sI h v0 0 0, gI (sI h v0 0 0) v0 4)
  else if v1 = 2 then
    (f_X11_openMany L (sI h v0 0 0) v0).bind fun r2 =>
    some (sI h v0 0 0, r2)
  else if v1 = 3 then
    (gR (sI h v0 0 0) v0 7).bind fun b4 =>
    (f_X11_chairMany L (sI h v0 0 0) v0 b4).bind fun r6 =>
    some (sI h v0 0 0, r6)
  else if v1 = 4 then
    (gR (sI h v0 0 0) v0 7).bind fun b8 =>
    (f_X11_dustAll L (sI h v0 0 0) v0 b8).bind fun r10 =>
    some (sI h v0 0 0, r10)
  else if v1 = 5 then
    some (sI h v0 0 0, gI (sI h v0 0 0) v0 5)
  else if v1 = 6 then
    (gR (sI h v0 0 0) v0 7).bind fun b12 =>
    if inA L b12 0 78 = true then
    some (sI h v0 0 0, gI (sI h v0 0 0) b12 (78 : Int32).toNatClampNeg)
    else none
  else if v1 = 7 then
    some (sI h v0 0 0, gI (sI h v0 0 0) v0 36)
  else if v1 = 8 then
    some (sI h v0 0 0, gI (sI h v0 0 0) v0 24)
  else if v1 = 9 then
    some (sI h v0 0 0, gI (sI h v0 0 0) v0 1)
  else if v1 = 10 then
    some (sI h v0 0 0, gI (sI h v0 0 0) v0 10)
  else
    some (sI h v0 0 0, (-100))
  else none
set_option maxRecDepth 100000 in
set_option maxHeartbeats 4000000 in
theorem m_X11_count {l : Launch} {d : Nat} {L : eL} {h : eH} {v0 : Nat} {v1 : Int32} {r : eH × Int32} (hd : 3 ≤ d) (hf : f_X11_count L h v0 v1 = some r) : e_Met l yX11_count cX11_count 2 (some .int) d 0 0 true L h [.ref v0, .int v1] (Qx (some (.int r.2)) L r.1) := by
  refine e_metl (by decide) (Nat.le_of_ble_eq_true rfl) (lv := [(0, .ref v0), (1, .int v1)]) rfl ?_
  unfold f_X11_count at hf
  refine e_aload_n 0 dX11_count_0 rfl rfl ?_
  refine e_iconst (v := 0) dX11_count_1 (by decide) ?_
  obtain ⟨hO1, hf⟩ := e_if hf
  refine e_putI hO1 fc_11_0 rfl lk_RX11_3 dX11_count_2 ?_
  refine e_iload_n 1 dX11_count_5 rfl rfl ?_
  by_cases c0 : v1 = 0
  · replace hf := e_it c0 hf
    refine e_tabIn (t := 64) dX11_count_6 (by rw [c0]; decide) (by rw [c0]; decide) (by first | (rw [c0]; done) | (rw [c0]; rfl)) (by decide) ?_
    refine e_aload_n 0 dX11_count_64 rfl rfl ?_
    refine e_getI hO1 fc_11_3 lk_RX11_28 dX11_count_65 ?_
    exact e_iret rfl dX11_count_68 (qW hf)
  replace hf := e_ie c0 hf
  by_cases c1 : v1 = 1
  · replace hf := e_it c1 hf
    refine e_tabIn (t := 69) dX11_count_6 (by rw [c1]; decide) (by rw [c1]; decide) (by first | (rw [c1]; done) | (rw [c1]; rfl)) (by decide) ?_
    refine e_aload_n 0 dX11_count_69 rfl rfl ?_
    refine e_getI hO1 fc_11_4 lk_RX11_31 dX11_count_70 ?_
    exact e_iret rfl dX11_count_73 (qW hf)
  replace hf := e_ie c1 hf
  by_cases c2 : v1 = 2
  · replace hf := e_it c2 hf
    refine e_tabIn (t := 74) dX11_count_6 (by rw [c2]; decide) (by rw [c2]; decide) (by first | (rw [c2]; done) | (rw [c2]; rfl)) (by decide) ?_
    refine e_aload_n 0 dX11_count_74 rfl rfl ?_
    obtain ⟨r2, hr3, hf⟩ := e_bd hf
    refine e_callV (st := []) ml_RX11_398 k_X11_openMany (m_X11_openMany (d := d - 1) (by omega) hr3) hO1 ⟨by decide, rfl⟩ rfl rfl (Nat.le_of_ble_eq_true rfl) ⟨by omega, by decide⟩ ⟨Nat.le_refl _, Nat.le_refl _⟩ dX11_count_75 ?_
    exact e_iret rfl dX11_count_78 (qW hf)
  replace hf := e_ie c2 hf
  by_cases c3 : v1 = 3
  · replace hf := e_it c3 hf
    refine e_tabIn (t := 79) dX11_count_6 (by rw [c3]; decide) (by rw [c3]; decide) (by first | (rw [c3]; done) | (rw [c3]; rfl)) (by decide) ?_
    refine e_aload_n 0 dX11_count_79 rfl rfl ?_
    refine e_aload_n 0 dX11_count_80 rfl rfl ?_
    obtain ⟨b4, hb5, hf⟩ := e_bd hf
    refine e_getR hO1 fc_11_7 lk_RX11_41 dX11_count_81 hb5 ?_
    obtain ⟨r6, hr7, hf⟩ := e_bd hf
    refine e_callV (st := []) ml_RX11_268 k_X11_chairMany (m_X11_chairMany (d := d - 1) (by omega) hr7) hO1 ⟨by decide, rfl⟩ rfl rfl (Nat.le_of_ble_eq_true rfl) ⟨by omega, by decide⟩ ⟨Nat.le_refl _, Nat.le_refl _⟩ dX11_count_84 ?_
    exact e_iret rfl dX11_count_87 (qW hf)
  replace hf := e_ie c3 hf
  by_cases c4 : v1 = 4
  · replace hf := e_it c4 hf
    refine e_tabIn (t := 88) dX11_count_6 (by rw [c4]; decide) (by rw [c4]; decide) (by first | (rw [c4]; done) | (rw [c4]; rfl)) (by decide) ?_
    refine e_aload_n 0 dX11_count_88 rfl rfl ?_
    refine e_aload_n 0 dX11_count_89 rfl rfl ?_
    obtain ⟨b8, hb9, hf⟩ := e_bd hf
    refine e_getR hO1 fc_11_7 lk_RX11_41 dX11_count_90 hb9 ?_
    obtain ⟨r10, hr11, hf⟩ := e_bd hf
    refine e_callV (st := []) ml_RX11_279 k_X11_dustAll (m_X11_dustAll (d := d - 1) (by omega) hr11) hO1 ⟨by decide, rfl⟩ rfl rfl (Nat.le_of_ble_eq_true rfl) ⟨by omega, by decide⟩ ⟨Nat.le_refl _, Nat.le_refl _⟩ dX11_count_93 ?_
    exact e_iret rfl dX11_count_96 (qW hf)
  replace hf := e_ie c4 hf
  by_cases c5 : v1 = 5
  · replace hf := e_it c5 hf
    refine e_tabIn (t := 97) dX11_count_6 (by rw [c5]; decide) (by rw [c5]; decide) (by first | (rw [c5]; done) | (rw [c5]; rfl)) (by decide) ?_
    refine e_aload_n 0 dX11_count_97 rfl rfl ?_
    refine e_getI hO1 fc_11_5 lk_RX11_34 dX11_count_98 ?_
    exact e_iret rfl dX11_count_101 (qW hf)
  replace hf := e_ie c5 hf
  by_cases c6 : v1 = 6
  · replace hf := e_it c6 hf
    refine e_tabIn (t := 102) dX11_count_6 (by rw [c6]; decide) (by rw [c6]; decide) (by first | (rw [c6]; done) | (rw [c6]; rfl)) (by decide) ?_
    refine e_aload_n 0 dX11_count_102 rfl rfl ?_
    obtain ⟨b12, hb13, hf⟩ := e_bd hf
    refine e_getR hO1 fc_11_7 lk_RX11_41 dX11_count_103 hb13 ?_
    refine e_bipush (v := 78) dX11_count_106 (by decide) ?_
    obtain ⟨hI14, hf⟩ := e_if hf
    refine e_iald hI14 dX11_count_108 ?_
    exact e_iret rfl dX11_count_109 (qW hf)
  replace hf := e_ie c6 hf
  by_cases c7 : v1 = 7
  · replace hf := e_it c7 hf
    refine e_tabIn (t := 110) dX11_count_6 (by rw [c7]; decide) (by rw [c7]; decide) (by first | (rw [c7]; done) | (rw [c7]; rfl)) (by decide) ?_
    refine e_aload_n 0 dX11_count_110 rfl rfl ?_
    refine e_getI hO1 fc_11_36 lk_RX11_186 dX11_count_111 ?_
    exact e_iret rfl dX11_count_114 (qW hf)
  replace hf := e_ie c7 hf
  by_cases c8 : v1 = 8
  · replace hf := e_it c8 hf
    refine e_tabIn (t := 115) dX11_count_6 (by rw [c8]; decide) (by rw [c8]; decide) (by first | (rw [c8]; done) | (rw [c8]; rfl)) (by decide) ?_
    refine e_aload_n 0 dX11_count_115 rfl rfl ?_
    refine e_getI hO1 fc_11_24 lk_RX11_189 dX11_count_116 ?_
    exact e_iret rfl dX11_count_119 (qW hf)
  replace hf := e_ie c8 hf
  by_cases c9 : v1 = 9
  · replace hf := e_it c9 hf
    refine e_tabIn (t := 120) dX11_count_6 (by rw [c9]; decide) (by rw [c9]; decide) (by first | (rw [c9]; done) | (rw [c9]; rfl)) (by decide) ?_
    refine e_aload_n 0 dX11_count_120 rfl rfl ?_
    refine e_getI hO1 fc_11_1 lk_RX11_15 dX11_count_121 ?_
    exact e_iret rfl dX11_count_124 (qW hf)
  replace hf := e_ie c9 hf
  by_cases c10 : v1 = 10
  · replace hf := e_it c10 hf
    refine e_tabIn (t := 125) dX11_count_6 (by rw [c10]; decide) (by rw [c10]; decide) (by first | (rw [c10]; done) | (rw [c10]; rfl)) (by decide) ?_
    refine e_aload_n 0 dX11_count_125 rfl rfl ?_
    refine e_getI hO1 fc_11_10 lk_RX11_126 dX11_count_126 ?_
    exact e_iret rfl dX11_count_129 (qW hf)
  replace hf := e_ie c10 hf
  refine e_tabOut (t := 130) dX11_count_6 (e_out (fun j j1 j2 => by
      have j3 : j = 0 ∨ j = 1 ∨ j = 2 ∨ j = 3 ∨ j = 4 ∨ j = 5 ∨ j = 6 ∨ j = 7 ∨ j = 8 ∨ j = 9 ∨ j = 10 := by omega
      rcases j3 with rfl | rfl | rfl | rfl | rfl | rfl | rfl | rfl | rfl | rfl | rfl <;> assumption)) (by decide) ?_
  refine e_bipush (v := (-100)) dX11_count_130 (by decide) ?_
  exact e_iret rfl dX11_count_132 (qW hf)
def f_X11_row (L : eL) (h : eH) (v0 : Nat) (v1 : Int32) : Option (eH × Int64) :=
  if isO L v0 11 = true then
  if (f_X11_in v1.toInt64 0 (((gI (sI h v0 0 0) v0 1) - 1).toInt64)) = 0 then
    some (sI (sI h v0 0 0) v0 0 1, 0)
  else
    (gR (sI h v0 0 0) v0 2).bind fun b2 =>
    if inA L b2 1 v1 = true then
    some (sI h v0 0 0, gL (sI h v0 0 0) b2 v1.toNatClampNeg)
    else none
  else none
set_option maxRecDepth 100000 in
set_option maxHeartbeats 4000000 in
theorem m_X11_row {l : Launch} {d : Nat} {L : eL} {h : eH} {v0 : Nat} {v1 : Int32} {r : eH × Int64} (hd : 2 ≤ d) (hf : f_X11_row L h v0 v1 = some r) : e_Met l yX11_row cX11_row 2 (some .long) d 0 0 true L h [.ref v0, .int v1] (Qx (some (.long r.2)) L r.1) := by
  refine e_metl (by decide) (Nat.le_of_ble_eq_true rfl) (lv := [(0, .ref v0), (1, .int v1)]) rfl ?_
  unfold f_X11_row at hf
  refine e_aload_n 0 dX11_row_0 rfl rfl ?_
  refine e_iconst (v := 0) dX11_row_1 (by decide) ?_
  obtain ⟨hO1, hf⟩ := e_if hf
  refine e_putI hO1 fc_11_0 rfl lk_RX11_3 dX11_row_2 ?_
  refine e_iload_n 1 dX11_row_5 rfl rfl ?_
  refine e_i2l dX11_row_6 ?_
  refine e_lconst (v := 0) dX11_row_7 (by decide) ?_
  refine e_aload_n 0 dX11_row_8 rfl rfl ?_
  refine e_getI hO1 fc_11_1 lk_RX11_15 dX11_row_9 ?_
  refine e_iconst (v := 1) dX11_row_12 (by decide) ?_
  refine e_isub dX11_row_13 ?_
  refine e_i2l dX11_row_14 ?_
  refine e_callS (st := []) ml_RX11_118 k_X11_in (m_X11_in (d := d - 1) (by omega) rfl) rfl rfl (Nat.le_of_ble_eq_true rfl) ⟨by omega, by decide⟩ ⟨Nat.le_refl _, Nat.le_refl _⟩ dX11_row_15 ?_
  refine e_if_ne (t := 28) dX11_row_18 (by decide) (fun c => ?_) (fun c => ?_)
  · replace hf := e_ie c hf
    refine e_aload_n 0 dX11_row_28 rfl rfl ?_
    obtain ⟨b2, hb3, hf⟩ := e_bd hf
    refine e_getR hO1 fc_11_2 lk_RX11_11 dX11_row_29 hb3 ?_
    refine e_iload_n 1 dX11_row_32 rfl rfl ?_
    obtain ⟨hI4, hf⟩ := e_if hf
    refine e_lald hI4 dX11_row_33 ?_
    exact e_lret rfl dX11_row_34 (qWL hf)
  · replace hf := e_it c hf
    refine e_aload_n 0 dX11_row_21 rfl rfl ?_
    refine e_iconst (v := 1) dX11_row_22 (by decide) ?_
    refine e_putI hO1 fc_11_0 rfl lk_RX11_3 dX11_row_23 ?_
    refine e_lconst (v := 0) dX11_row_26 (by decide) ?_
    exact e_lret rfl dX11_row_27 (qWL hf)

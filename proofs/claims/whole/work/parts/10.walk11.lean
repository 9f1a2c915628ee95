def f_X11_clean_L39 (L : eL) : Nat → (eH → Nat → Int64 → Int64 → Option (eH × Int32)) → eH → Nat → Int32 → Int32 → Int32 → Int64 → Int64 → Int32 → Option (eH × Int32)
  | 0, _, _, _, _, _, _, _, _, _ => none
  | n + 1, k98, h, v0, v1, v2, v3, v4, v6, v8 =>
    if v1 ≤ v8 then
      k98 h v0 v4 v6
    else
      (f_X11_common (v4 * ((mxI 0 (v3 - v8)).toInt64)) (v6 * ((v2 - v8).toInt64))).bind fun r6 =>
      if r6 = 0 then none else
      if r6 = 0 then none else
      f_X11_clean_L39 L n k98 h v0 v1 v2 v3 ((v4 * ((mxI 0 (v3 - v8)).toInt64)) / r6) ((v6 * ((v2 - v8).toInt64)) / r6) (v8 + Int32.ofInt 1)
set_option maxRecDepth 100000 in
set_option maxHeartbeats 4000000 in
theorem m_X11_clean_L39 {l : Launch} {d : Nat} {L : eL}  {r : eH × Int32} {k98 : eH → Nat → Int64 → Int64 → Option (eH × Int32)} (hd : 104 ≤ d) (hk98 : ∀ (h : eH) (v0 : Nat) (v4 : Int64) (v6 : Int64), k98 h v0 v4 v6 = some r → E l yX11_clean cX11_clean 11 (some .int) (e_rm d 0 0) 0 0 true L (Qx (some (.int r.2)) L r.1) L h 0 0 98 [(0, .ref v0), (4, .long v4), (6, .long v6)] []) : ∀ (n : Nat) (h : eH) (v0 : Nat) (v1 : Int32) (v2 : Int32) (v3 : Int32) (v4 : Int64) (v6 : Int64) (v8 : Int32), f_X11_clean_L39 L n k98 h v0 v1 v2 v3 v4 v6 v8 = some r → E l yX11_clean cX11_clean 11 (some .int) (e_rm d 0 0) 0 0 true L (Qx (some (.int r.2)) L r.1) L h 0 0 39 [(0, .ref v0), (1, .int v1), (2, .int v2), (3, .int v3), (4, .long v4), (6, .long v6), (8, .int v8)] [] := by
  intro n
  induction n with
  | zero => intro h v0 v1 v2 v3 v4 v6 v8 hf; exact absurd hf (by simp [f_X11_clean_L39])
  | succ n ih =>
    intro h v0 v1 v2 v3 v4 v6 v8 hf
    unfold f_X11_clean_L39 at hf
    refine e_iload 6 dX11_clean_39 rfl ?_
    refine e_iload_n 1 dX11_clean_41 rfl rfl ?_
    refine e_icmp_ge (t := 98) dX11_clean_42 (by decide) (fun c => ?_) (fun c => ?_)
    · replace hf := e_it c hf
      refine e_sub [0, 4, 5] rfl ?_
      exact hk98 _ _ _ _ hf
    · replace hf := e_ie c hf
      refine e_lload 4 dX11_clean_45 rfl ?_
      refine e_iconst (v := 0) dX11_clean_47 (by decide) ?_
      refine e_iload_n 3 dX11_clean_48 rfl rfl ?_
      refine e_iload 6 dX11_clean_49 rfl ?_
      refine e_isub dX11_clean_51 ?_
      refine e_mx ml_RX11_256 (by omega) (Nat.le_of_ble_eq_true rfl) ⟨Nat.le_refl _, Nat.le_refl _⟩ dX11_clean_52 ?_
      refine e_i2l dX11_clean_55 ?_
      refine e_lmul dX11_clean_56 ?_
      refine e_lstore (lv' := [(4, .long _), (0, .ref _), (1, .int _), (2, .int _), (3, .int _), (6, .long _), (8, .int _)]) dX11_clean_57 (by decide) rfl ?_
      refine e_lload 5 dX11_clean_59 rfl ?_
      refine e_iload_n 3 dX11_clean_61 rfl rfl ?_
      refine e_iload 6 dX11_clean_62 rfl ?_
      refine e_isub dX11_clean_64 ?_
      refine e_i2l dX11_clean_65 ?_
      refine e_lmul dX11_clean_66 ?_
      refine e_lstore (lv' := [(6, .long _), (4, .long _), (0, .ref _), (1, .int _), (2, .int _), (3, .int _), (8, .int _)]) dX11_clean_67 (by decide) rfl ?_
      refine e_lload 1 dX11_clean_69 rfl ?_
      refine e_lload 0 dX11_clean_71 rfl ?_
      obtain ⟨r6, hr7, hf⟩ := e_bd hf
      refine e_callS (st := []) ml_RX11_7 k_X11_common (m_X11_common (d := d - 1) (by omega) hr7) rfl rfl (Nat.le_of_ble_eq_true rfl) ⟨by omega, by decide⟩ ⟨Nat.le_refl _, Nat.le_refl _⟩ dX11_clean_73 ?_
      refine e_lstore (lv' := [(9, .long _), (6, .long _), (4, .long _), (0, .ref _), (1, .int _), (2, .int _), (3, .int _), (8, .int _)]) dX11_clean_76 (by decide) rfl ?_
      refine e_lload 2 dX11_clean_78 rfl ?_
      refine e_lload 0 dX11_clean_80 rfl ?_
      obtain ⟨hz8, hf⟩ := e_ifp hf
      refine e_ldiv dX11_clean_82 hz8 ?_
      refine e_lstore (lv' := [(4, .long _), (9, .long _), (6, .long _), (0, .ref _), (1, .int _), (2, .int _), (3, .int _), (8, .int _)]) dX11_clean_83 (by decide) rfl ?_
      refine e_lload 2 dX11_clean_85 rfl ?_
      refine e_lload 1 dX11_clean_87 rfl ?_
      obtain ⟨hz9, hf⟩ := e_ifp hf
      refine e_ldiv dX11_clean_89 hz9 ?_
      refine e_lstore (lv' := [(6, .long _), (4, .long _), (9, .long _), (0, .ref _), (1, .int _), (2, .int _), (3, .int _), (8, .int _)]) dX11_clean_90 (by decide) rfl ?_
      refine e_iinc (lv' := [(8, .int _), (6, .long _), (4, .long _), (9, .long _), (0, .ref _), (1, .int _), (2, .int _), (3, .int _)]) 7 dX11_clean_92 rfl (by decide) rfl ?_
      refine e_goto (t := 39) dX11_clean_95 (by decide) ?_
      refine e_sub [4, 5, 6, 7, 2, 1, 0] rfl ?_
      exact ih _ _ _ _ _ _ _ _ hf
def f_X11_clean (L : eL) (h : eH) (v0 : Nat) (v1 : Int32) : Option (eH × Int32) :=
  if isO L v0 11 = true then
  (f_X11_openMany L (sI h v0 0 0) v0).bind fun r2 =>
  if (f_X11_in v1.toInt64 1 r2.toInt64) = 0 then
    some (sI h v0 0 0, (-1))
  else
    (f_X11_dustyMany L (sI h v0 0 0) v0).bind fun r4 =>
    f_X11_clean_L39 L e_fu (fun (h10 : eH) (w0_11 : Nat) (w4_12 : Int64) (w6_13 : Int64) =>
      if isO L w0_11 11 = true then
      (f_X11_tellsFraction L h10 w0_11 w4_12 w6_13).bind fun r15 =>
      some (r15, 0)
      else none) (sI h v0 0 0) v0 v1 r2 (r2 - r4) 1 1 0
  else none
set_option maxRecDepth 100000 in
set_option maxHeartbeats 4000000 in
theorem m_X11_clean {l : Launch} {d : Nat} {L : eL} {h : eH} {v0 : Nat} {v1 : Int32} {r : eH × Int32} (hd : 104 ≤ d) (hf : f_X11_clean L h v0 v1 = some r) : e_Met l yX11_clean cX11_clean 11 (some .int) d 0 0 true L h [.ref v0, .int v1] (Qx (some (.int r.2)) L r.1) := by
  refine e_metl (by decide) (Nat.le_of_ble_eq_true rfl) (lv := [(0, .ref v0), (1, .int v1)]) rfl ?_
  unfold f_X11_clean at hf
  refine e_aload_n 0 dX11_clean_0 rfl rfl ?_
  refine e_iconst (v := 0) dX11_clean_1 (by decide) ?_
  obtain ⟨hO1, hf⟩ := e_if hf
  refine e_putI hO1 fc_11_0 rfl lk_RX11_3 dX11_clean_2 ?_
  refine e_aload_n 0 dX11_clean_5 rfl rfl ?_
  obtain ⟨r2, hr3, hf⟩ := e_bd hf
  refine e_callV (st := []) ml_RX11_398 k_X11_openMany (m_X11_openMany (d := d - 1) (by omega) hr3) hO1 ⟨by decide, rfl⟩ rfl rfl (Nat.le_of_ble_eq_true rfl) ⟨by omega, by decide⟩ ⟨Nat.le_refl _, Nat.le_refl _⟩ dX11_clean_6 ?_
  refine e_istore_n (lv' := [(2, .int _), (0, .ref _), (1, .int _)]) dX11_clean_9 rfl (by decide) rfl ?_
  refine e_iload_n 2 dX11_clean_10 rfl rfl ?_
  refine e_i2l dX11_clean_11 ?_
  refine e_lconst (v := 1) dX11_clean_12 (by decide) ?_
  refine e_iload_n 0 dX11_clean_13 rfl rfl ?_
  refine e_i2l dX11_clean_14 ?_
  refine e_callS (st := []) ml_RX11_118 k_X11_in (m_X11_in (d := d - 1) (by omega) rfl) rfl rfl (Nat.le_of_ble_eq_true rfl) ⟨by omega, by decide⟩ ⟨Nat.le_refl _, Nat.le_refl _⟩ dX11_clean_15 ?_
  refine e_if_ne (t := 23) dX11_clean_18 (by decide) (fun c => ?_) (fun c => ?_)
  · replace hf := e_ie c hf
    refine e_iload_n 0 dX11_clean_23 rfl rfl ?_
    refine e_aload_n 1 dX11_clean_24 rfl rfl ?_
    obtain ⟨r4, hr5, hf⟩ := e_bd hf
    refine e_callV (st := [.int _]) ml_RX11_392 k_X11_dustyMany (m_X11_dustyMany (d := d - 1) (by omega) hr5) hO1 ⟨by decide, rfl⟩ rfl rfl (Nat.le_of_ble_eq_true rfl) ⟨by omega, by decide⟩ ⟨Nat.le_refl _, Nat.le_refl _⟩ dX11_clean_25 ?_
    refine e_isub dX11_clean_28 ?_
    refine e_istore_n (lv' := [(3, .int _), (2, .int _), (0, .ref _), (1, .int _)]) dX11_clean_29 rfl (by decide) rfl ?_
    refine e_lconst (v := 1) dX11_clean_30 (by decide) ?_
    refine e_lstore (lv' := [(4, .long _), (3, .int _), (2, .int _), (0, .ref _), (1, .int _)]) dX11_clean_31 (by decide) rfl ?_
    refine e_lconst (v := 1) dX11_clean_33 (by decide) ?_
    refine e_lstore (lv' := [(6, .long _), (4, .long _), (3, .int _), (2, .int _), (0, .ref _), (1, .int _)]) dX11_clean_34 (by decide) rfl ?_
    refine e_iconst (v := 0) dX11_clean_36 (by decide) ?_
    refine e_istore (lv' := [(8, .int _), (6, .long _), (4, .long _), (3, .int _), (2, .int _), (0, .ref _), (1, .int _)]) dX11_clean_37 (by decide) rfl ?_
    refine e_sub [5, 6, 4, 3, 2, 1, 0] rfl ?_
    refine m_X11_clean_L39 hd ?_ e_fu _ _ _ _ _ _ _ _ hf
    · intro h10 w0_11 w4_12 w6_13 hf
      refine e_aload_n 0 dX11_clean_98 rfl rfl ?_
      refine e_lload 1 dX11_clean_99 rfl ?_
      refine e_lload 2 dX11_clean_101 rfl ?_
      obtain ⟨hO14, hf⟩ := e_if hf
      obtain ⟨r15, hr16, hf⟩ := e_bd hf
      refine e_callV (st := []) ml_RX11_376 k_X11_tellsFraction (m_X11_tellsFraction (d := d - 1) (by omega) hr16) hO14 ⟨by decide, rfl⟩ rfl rfl (Nat.le_of_ble_eq_true rfl) ⟨by omega, by decide⟩ ⟨Nat.le_refl _, Nat.le_refl _⟩ dX11_clean_103 ?_
      refine e_iconst (v := 0) dX11_clean_106 (by decide) ?_
      exact e_iret rfl dX11_clean_107 (qW hf)
  · replace hf := e_it c hf
    refine e_iconst (v := (-1)) dX11_clean_21 (by decide) ?_
    exact e_iret rfl dX11_clean_22 (qW hf)

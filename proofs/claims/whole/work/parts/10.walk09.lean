def f_X11_run_L19 (L : eL) : Nat → (eH → Nat → Int32 → Int32 → Option (eH × Int32)) → eH → Nat → Int32 → Int32 → Option (eH × Int32)
  | 0, _, _, _, _, _ => none
  | n + 1, k42, h, v0, v1, v2 =>
    if v2 = 0 then
      k42 h v0 v1 v2
    else
      if isO L v0 11 = true then
      if (gI h v0 12) ≤ (gI h v0 11) then
        k42 h v0 v1 v2
      else
        (f_X11_readsAct L h v0).bind fun r5 =>
        f_X11_run_L19 L n k42 r5.1 v0 v1 r5.2
      else none
set_option maxRecDepth 100000 in
set_option maxHeartbeats 4000000 in
theorem m_X11_run_L19 {l : Launch} {d : Nat} {L : eL}  {r : eH × Int32} {k42 : eH → Nat → Int32 → Int32 → Option (eH × Int32)} (hd : 10 ≤ d) (hk42 : ∀ (h : eH) (v0 : Nat) (v1 : Int32) (v2 : Int32), k42 h v0 v1 v2 = some r → E l yX11_run cX11_run 5 (some .int) (e_rm d 0 0) 0 0 true L (Qx (some (.int r.2)) L r.1) L h 0 0 42 [(0, .ref v0), (1, .int v1), (2, .int v2)] []) : ∀ (n : Nat) (h : eH) (v0 : Nat) (v1 : Int32) (v2 : Int32), f_X11_run_L19 L n k42 h v0 v1 v2 = some r → E l yX11_run cX11_run 5 (some .int) (e_rm d 0 0) 0 0 true L (Qx (some (.int r.2)) L r.1) L h 0 0 19 [(0, .ref v0), (1, .int v1), (2, .int v2)] [] := by
  intro n
  induction n with
  | zero => intro h v0 v1 v2 hf; exact absurd hf (by simp [f_X11_run_L19])
  | succ n ih =>
    intro h v0 v1 v2 hf
    unfold f_X11_run_L19 at hf
    refine e_iload_n 2 dX11_run_19 rfl rfl ?_
    refine e_if_eq (t := 42) dX11_run_20 (by decide) (fun c => ?_) (fun c => ?_)
    · replace hf := e_it c hf
      exact hk42 _ _ _ _ hf
    · replace hf := e_ie c hf
      refine e_aload_n 0 dX11_run_23 rfl rfl ?_
      obtain ⟨hO4, hf⟩ := e_if hf
      refine e_getI hO4 fc_11_11 lk_RX11_129 dX11_run_24 ?_
      refine e_aload_n 0 dX11_run_27 rfl rfl ?_
      refine e_getI hO4 fc_11_12 lk_RX11_141 dX11_run_28 ?_
      refine e_icmp_ge (t := 42) dX11_run_31 (by decide) (fun c => ?_) (fun c => ?_)
      · replace hf := e_it c hf
        exact hk42 _ _ _ _ hf
      · replace hf := e_ie c hf
        refine e_aload_n 0 dX11_run_34 rfl rfl ?_
        obtain ⟨r5, hr6, hf⟩ := e_bd hf
        refine e_callV (st := []) ml_RX11_311 k_X11_readsAct (m_X11_readsAct (d := d - 1) (by omega) hr6) hO4 ⟨by decide, rfl⟩ rfl rfl (Nat.le_of_ble_eq_true rfl) ⟨by omega, by decide⟩ ⟨Nat.le_refl _, Nat.le_refl _⟩ dX11_run_35 ?_
        refine e_istore_n (lv' := [(2, .int _), (0, .ref _), (1, .int _)]) dX11_run_38 rfl (by decide) rfl ?_
        refine e_goto (t := 19) dX11_run_39 (by decide) ?_
        refine e_sub [1, 2, 0] rfl ?_
        exact ih _ _ _ _ hf
def f_X11_run_L64 (L : eL) : Nat → (eH → Nat → Int32 → Option (eH × Int32)) → eH → Nat → Int32 → Option (eH × Int32)
  | 0, _, _, _, _ => none
  | n + 1, k88, h, v0, v4 =>
    if isO L v0 11 = true then
    if (gI h v0 28) ≤ v4 then
      k88 h v0 v4
    else
      (f_X11_does L h v0 v4).bind fun r17 =>
      if r17.2 = 0 then
        k88 r17.1 v0 v4
      else
        f_X11_run_L64 L n k88 r17.1 v0 (v4 + Int32.ofInt 1)
    else none
set_option maxRecDepth 100000 in
set_option maxHeartbeats 4000000 in
theorem m_X11_run_L64 {l : Launch} {d : Nat} {L : eL}  {r : eH × Int32} {k88 : eH → Nat → Int32 → Option (eH × Int32)} (hd : 10 ≤ d) (hk88 : ∀ (h : eH) (v0 : Nat) (v4 : Int32), k88 h v0 v4 = some r → E l yX11_run cX11_run 5 (some .int) (e_rm d 0 0) 0 0 true L (Qx (some (.int r.2)) L r.1) L h 0 0 88 [(0, .ref v0), (4, .int v4)] []) : ∀ (n : Nat) (h : eH) (v0 : Nat) (v4 : Int32), f_X11_run_L64 L n k88 h v0 v4 = some r → E l yX11_run cX11_run 5 (some .int) (e_rm d 0 0) 0 0 true L (Qx (some (.int r.2)) L r.1) L h 0 0 64 [(0, .ref v0), (4, .int v4)] [] := by
  intro n
  induction n with
  | zero => intro h v0 v4 hf; exact absurd hf (by simp [f_X11_run_L64])
  | succ n ih =>
    intro h v0 v4 hf
    unfold f_X11_run_L64 at hf
    refine e_iload 1 dX11_run_64 rfl ?_
    refine e_aload_n 0 dX11_run_66 rfl rfl ?_
    obtain ⟨hO16, hf⟩ := e_if hf
    refine e_getI hO16 fc_11_28 lk_RX11_303 dX11_run_67 ?_
    refine e_icmp_ge (t := 88) dX11_run_70 (by decide) (fun c => ?_) (fun c => ?_)
    · replace hf := e_it c hf
      exact hk88 _ _ _ hf
    · replace hf := e_ie c hf
      refine e_aload_n 0 dX11_run_73 rfl rfl ?_
      refine e_iload 1 dX11_run_74 rfl ?_
      obtain ⟨r17, hr18, hf⟩ := e_bd hf
      refine e_callV (st := []) ml_RX11_314 k_X11_does (m_X11_does (d := d - 1) (by omega) hr18) hO16 ⟨by decide, rfl⟩ rfl rfl (Nat.le_of_ble_eq_true rfl) ⟨by omega, by decide⟩ ⟨Nat.le_refl _, Nat.le_refl _⟩ dX11_run_76 ?_
      refine e_if_eq (t := 88) dX11_run_79 (by decide) (fun c => ?_) (fun c => ?_)
      · replace hf := e_it c hf
        exact hk88 _ _ _ hf
      · replace hf := e_ie c hf
        refine e_iinc (lv' := [(4, .int _), (0, .ref _)]) 1 dX11_run_82 rfl (by decide) rfl ?_
        refine e_goto (t := 64) dX11_run_85 (by decide) ?_
        refine e_sub [1, 0] rfl ?_
        exact ih _ _ _ hf
def f_X11_run_J108 (L : eL) (h : eH) (v0 : Nat) (v4 : Int32) (s0 : Nat) (s1 : Int32) : Option (eH × Int32) :=
  if isO L s0 11 = true then
  (f_X11_enters L h s0 ((f_X11_flag s1).toInt64)).bind fun r24 =>
  if isO L v0 11 = true then
  (gR r24 v0 7).bind fun b27 =>
  if inA L b27 0 75 = true then
  (f_X11_enters L r24 v0 ((gI r24 b27 (75 : Int32).toNatClampNeg).toInt64)).bind fun r30 =>
  if v4 ≤ 0 then
    some (r30, 0)
  else
    (f_X11_adds L r30 v0 v4).bind fun r32 =>
    some (r32.1, r32.2)
  else none
  else none
  else none
set_option maxRecDepth 100000 in
set_option maxHeartbeats 4000000 in
theorem m_X11_run_J108 {l : Launch} {d : Nat} {L : eL}  {r : eH × Int32} (hd : 10 ≤ d)  : ∀ (h : eH) (v0 : Nat) (v4 : Int32) (s0 : Nat) (s1 : Int32), f_X11_run_J108 L h v0 v4 s0 s1 = some r → E l yX11_run cX11_run 5 (some .int) (e_rm d 0 0) 0 0 true L (Qx (some (.int r.2)) L r.1) L h 0 0 108 [(0, .ref v0), (4, .int v4)] [.int s1, .ref s0] := by
  intro h v0 v4 s0 s1 hf
  unfold f_X11_run_J108 at hf
  refine e_callS (st := [.ref _]) ml_RX11_122 k_X11_flag (m_X11_flag (d := d - 1) (by omega) rfl) rfl rfl (Nat.le_of_ble_eq_true rfl) ⟨by omega, by decide⟩ ⟨Nat.le_refl _, Nat.le_refl _⟩ dX11_run_108 ?_
  refine e_i2l dX11_run_111 ?_
  obtain ⟨hO23, hf⟩ := e_if hf
  obtain ⟨r24, hr25, hf⟩ := e_bd hf
  refine e_callV (st := []) ml_RX11_18 k_X11_enters (m_X11_enters (d := d - 1) (by omega) hr25) hO23 ⟨by decide, rfl⟩ rfl rfl (Nat.le_of_ble_eq_true rfl) ⟨by omega, by decide⟩ ⟨Nat.le_refl _, Nat.le_refl _⟩ dX11_run_112 ?_
  refine e_aload_n 0 dX11_run_115 rfl rfl ?_
  refine e_aload_n 0 dX11_run_116 rfl rfl ?_
  obtain ⟨hO26, hf⟩ := e_if hf
  obtain ⟨b27, hb28, hf⟩ := e_bd hf
  refine e_getR hO26 fc_11_7 lk_RX11_41 dX11_run_117 hb28 ?_
  refine e_bipush (v := 75) dX11_run_120 (by decide) ?_
  obtain ⟨hI29, hf⟩ := e_if hf
  refine e_iald hI29 dX11_run_122 ?_
  refine e_i2l dX11_run_123 ?_
  obtain ⟨r30, hr31, hf⟩ := e_bd hf
  refine e_callV (st := []) ml_RX11_18 k_X11_enters (m_X11_enters (d := d - 1) (by omega) hr31) hO26 ⟨by decide, rfl⟩ rfl rfl (Nat.le_of_ble_eq_true rfl) ⟨by omega, by decide⟩ ⟨Nat.le_refl _, Nat.le_refl _⟩ dX11_run_124 ?_
  refine e_iload 1 dX11_run_127 rfl ?_
  refine e_if_le (t := 141) dX11_run_129 (by decide) (fun c => ?_) (fun c => ?_)
  · replace hf := e_it c hf
    refine e_iconst (v := 0) dX11_run_141 (by decide) ?_
    exact e_iret rfl dX11_run_142 (qW hf)
  · replace hf := e_ie c hf
    refine e_aload_n 0 dX11_run_132 rfl rfl ?_
    refine e_iload 1 dX11_run_133 rfl ?_
    obtain ⟨r32, hr33, hf⟩ := e_bd hf
    refine e_callV (st := []) ml_RX11_259 k_X11_adds (m_X11_adds (d := d - 1) (by omega) hr33) hO26 ⟨by decide, rfl⟩ rfl rfl (Nat.le_of_ble_eq_true rfl) ⟨by omega, by decide⟩ ⟨Nat.le_refl _, Nat.le_refl _⟩ dX11_run_135 ?_
    refine e_goto (t := 142) dX11_run_138 (by decide) ?_
    exact e_iret rfl dX11_run_142 (qW hf)
def f_X11_run_J88 (L : eL) (h : eH) (v0 : Nat) (v4 : Int32) : Option (eH × Int32) :=
  if isO L v0 11 = true then
  if (gI (sI h v0 1 0) v0 28) ≤ v4 then
    f_X11_run_J108 L (sI h v0 1 0) v0 v4 v0 0
  else
    f_X11_run_J108 L (sI h v0 1 0) v0 v4 v0 1
  else none
set_option maxRecDepth 100000 in
set_option maxHeartbeats 4000000 in
theorem m_X11_run_J88 {l : Launch} {d : Nat} {L : eL}  {r : eH × Int32} (hd : 10 ≤ d)  : ∀ (h : eH) (v0 : Nat) (v4 : Int32), f_X11_run_J88 L h v0 v4 = some r → E l yX11_run cX11_run 5 (some .int) (e_rm d 0 0) 0 0 true L (Qx (some (.int r.2)) L r.1) L h 0 0 88 [(0, .ref v0), (4, .int v4)] [] := by
  intro h v0 v4 hf
  unfold f_X11_run_J88 at hf
  refine e_aload_n 0 dX11_run_88 rfl rfl ?_
  refine e_iconst (v := 0) dX11_run_89 (by decide) ?_
  obtain ⟨hO22, hf⟩ := e_if hf
  refine e_putI hO22 fc_11_1 rfl lk_RX11_15 dX11_run_90 ?_
  refine e_aload_n 0 dX11_run_93 rfl rfl ?_
  refine e_iload 1 dX11_run_94 rfl ?_
  refine e_aload_n 0 dX11_run_96 rfl rfl ?_
  refine e_getI hO22 fc_11_28 lk_RX11_303 dX11_run_97 ?_
  refine e_icmp_ge (t := 107) dX11_run_100 (by decide) (fun c => ?_) (fun c => ?_)
  · replace hf := e_it c hf
    refine e_iconst (v := 0) dX11_run_107 (by decide) ?_
    exact m_X11_run_J108 hd _ _ _ _ _ hf
  · replace hf := e_ie c hf
    refine e_iconst (v := 1) dX11_run_103 (by decide) ?_
    refine e_goto (t := 108) dX11_run_104 (by decide) ?_
    exact m_X11_run_J108 hd _ _ _ _ _ hf
def f_X11_run_J42 (L : eL) (h : eH) (v0 : Nat) (v1 : Int32) (v2 : Int32) : Option (eH × Int32) :=
  if isO L v0 11 = true then
  (f_X11_faultOf L h v0 v1 60 v2).bind fun r12 =>
  if 0 ≤ r12 then
    (f_X11_putsBy L h v0).bind fun r14 =>
    f_X11_run_L64 L e_fu (fun (h19 : eH) (w0_20 : Nat) (w4_21 : Int32) =>
      f_X11_run_J88 L h19 w0_20 w4_21) r14 v0 0
  else
    some (h, r12)
  else none
set_option maxRecDepth 100000 in
set_option maxHeartbeats 4000000 in
theorem m_X11_run_J42 {l : Launch} {d : Nat} {L : eL}  {r : eH × Int32} (hd : 10 ≤ d)  : ∀ (h : eH) (v0 : Nat) (v1 : Int32) (v2 : Int32), f_X11_run_J42 L h v0 v1 v2 = some r → E l yX11_run cX11_run 5 (some .int) (e_rm d 0 0) 0 0 true L (Qx (some (.int r.2)) L r.1) L h 0 0 42 [(0, .ref v0), (1, .int v1), (2, .int v2)] [] := by
  intro h v0 v1 v2 hf
  unfold f_X11_run_J42 at hf
  refine e_aload_n 0 dX11_run_42 rfl rfl ?_
  refine e_iload_n 1 dX11_run_43 rfl rfl ?_
  refine e_bipush (v := 60) dX11_run_44 (by decide) ?_
  refine e_iload_n 2 dX11_run_46 rfl rfl ?_
  obtain ⟨hO11, hf⟩ := e_if hf
  obtain ⟨r12, hr13, hf⟩ := e_bd hf
  refine e_callV (st := []) ml_RX11_219 k_X11_faultOf (m_X11_faultOf (d := d - 1) (by omega) hr13) hO11 ⟨by decide, rfl⟩ rfl rfl (Nat.le_of_ble_eq_true rfl) ⟨by omega, by decide⟩ ⟨Nat.le_refl _, Nat.le_refl _⟩ dX11_run_47 ?_
  refine e_istore_n (lv' := [(3, .int _), (0, .ref _), (1, .int _), (2, .int _)]) dX11_run_50 rfl (by decide) rfl ?_
  refine e_iload_n 0 dX11_run_51 rfl rfl ?_
  refine e_if_ge (t := 57) dX11_run_52 (by decide) (fun c => ?_) (fun c => ?_)
  · replace hf := e_it c hf
    refine e_aload_n 1 dX11_run_57 rfl rfl ?_
    obtain ⟨r14, hr15, hf⟩ := e_bd hf
    refine e_callV (st := []) ml_RX11_284 k_X11_putsBy (m_X11_putsBy (d := d - 1) (by omega) hr15) hO11 ⟨by decide, rfl⟩ rfl rfl (Nat.le_of_ble_eq_true rfl) ⟨by omega, by decide⟩ ⟨Nat.le_refl _, Nat.le_refl _⟩ dX11_run_58 ?_
    refine e_iconst (v := 0) dX11_run_61 (by decide) ?_
    refine e_istore (lv' := [(4, .int _), (3, .int _), (0, .ref _), (1, .int _), (2, .int _)]) dX11_run_62 (by decide) rfl ?_
    refine e_sub [2, 0] rfl ?_
    refine m_X11_run_L64 hd ?_ e_fu _ _ _ hf
    · intro h19 w0_20 w4_21 hf
      exact m_X11_run_J88 hd _ _ _ hf
  · replace hf := e_ie c hf
    refine e_iload_n 0 dX11_run_55 rfl rfl ?_
    exact e_iret rfl dX11_run_56 (qW hf)
def f_X11_run (L : eL) (h : eH) (v0 : Nat) : Option (eH × Int32) :=
  if isO L v0 11 = true then
  (f_X11_begins L (sI h v0 0 0) v0 60).bind fun r2 =>
  f_X11_run_L19 L e_fu (fun (h7 : eH) (w0_8 : Nat) (w1_9 : Int32) (w2_10 : Int32) =>
    f_X11_run_J42 L h7 w0_8 w1_9 w2_10) (sI r2.1 v0 28 0) v0 r2.2 1
  else none
set_option maxRecDepth 100000 in
set_option maxHeartbeats 4000000 in
theorem m_X11_run {l : Launch} {d : Nat} {L : eL} {h : eH} {v0 : Nat} {r : eH × Int32} (hd : 10 ≤ d) (hf : f_X11_run L h v0 = some r) : e_Met l yX11_run cX11_run 5 (some .int) d 0 0 true L h [.ref v0] (Qx (some (.int r.2)) L r.1) := by
  refine e_metl (by decide) (Nat.le_of_ble_eq_true rfl) (lv := [(0, .ref v0)]) rfl ?_
  unfold f_X11_run at hf
  refine e_aload_n 0 dX11_run_0 rfl rfl ?_
  refine e_iconst (v := 0) dX11_run_1 (by decide) ?_
  obtain ⟨hO1, hf⟩ := e_if hf
  refine e_putI hO1 fc_11_0 rfl lk_RX11_3 dX11_run_2 ?_
  refine e_aload_n 0 dX11_run_5 rfl rfl ?_
  refine e_bipush (v := 60) dX11_run_6 (by decide) ?_
  obtain ⟨r2, hr3, hf⟩ := e_bd hf
  refine e_callV (st := []) ml_RX11_175 k_X11_begins (m_X11_begins (d := d - 1) (by omega) hr3) hO1 ⟨by decide, rfl⟩ rfl rfl (Nat.le_of_ble_eq_true rfl) ⟨by omega, by decide⟩ ⟨Nat.le_refl _, Nat.le_refl _⟩ dX11_run_8 ?_
  refine e_istore_n (lv' := [(1, .int _), (0, .ref _)]) dX11_run_11 rfl (by decide) rfl ?_
  refine e_aload_n 1 dX11_run_12 rfl rfl ?_
  refine e_iconst (v := 0) dX11_run_13 (by decide) ?_
  refine e_putI hO1 fc_11_28 rfl lk_RX11_303 dX11_run_14 ?_
  refine e_iconst (v := 1) dX11_run_17 (by decide) ?_
  refine e_istore_n (lv' := [(2, .int _), (1, .int _), (0, .ref _)]) dX11_run_18 rfl (by decide) rfl ?_
  refine e_sub [2, 1, 0] rfl ?_
  refine m_X11_run_L19 hd ?_ e_fu _ _ _ _ hf
  · intro h7 w0_8 w1_9 w2_10 hf
    exact m_X11_run_J42 hd _ _ _ _ hf
def f_X11_gathers_o_L40 (L : eL) (rec_X11_gathers : eH → Nat → Int32 → Int32 → Int32 → Int64 → Int32 → Option eH) : Nat → (eH → Nat → Int32 → Int32 → Int32 → Int64 → Int32 → Option eH) → eH → Nat → Int32 → Int32 → Int32 → Int64 → Int32 → Int32 → Option eH
  | 0, _, _, _, _, _, _, _, _, _ => none
  | n + 1, k66, h, v0, v1, v2, v3, v4, v6, v7 =>
    if v2 ≤ v7 then
      k66 h v0 v1 v2 v3 v4 v6
    else
      if isO L v0 11 = true then
      (gR h v0 33).bind fun b3 =>
      (gR h v0 32).bind fun b5 =>
      if inA L b5 0 v7 = true then
      if inA L b3 0 v7 = true then
      (some (sI h b3 v7.toNatClampNeg (gI h b5 v7.toNatClampNeg))).bind fun h9 =>
      f_X11_gathers_o_L40 L rec_X11_gathers n k66 h9 v0 v1 v2 v3 v4 v6 (v7 + Int32.ofInt 1)
      else none
      else none
      else none
set_option maxRecDepth 100000 in
set_option maxHeartbeats 4000000 in
theorem m_X11_gathers_o_L40 {l : Launch} {d : Nat} {L : eL} {rec_X11_gathers : eH → Nat → Int32 → Int32 → Int32 → Int64 → Int32 → Option eH} {r : eH} {k66 : eH → Nat → Int32 → Int32 → Int32 → Int64 → Int32 → Option eH} (hd : 3 ≤ d) (hrec_X11_gathers : ∀ {h : eH} {a0 : Nat} {a1 : Int32} {a2 : Int32} {a3 : Int32} {a4 : Int64} {a5 : Int32} {z : eH}, rec_X11_gathers h a0 a1 a2 a3 a4 a5 = some z → e_Met l yX11_gathers cX11_gathers 9 none (d - 1) 0 0 true L h [.ref a0, .int a1, .int a2, .int a3, .long a4, .int a5] (Qx none L z)) (hk66 : ∀ (h : eH) (v0 : Nat) (v1 : Int32) (v2 : Int32) (v3 : Int32) (v4 : Int64) (v6 : Int32), k66 h v0 v1 v2 v3 v4 v6 = some r → E l yX11_gathers cX11_gathers 9 none (e_rm d 0 0) 0 0 true L (Qx none L r) L h 0 0 66 [(0, .ref v0), (1, .int v1), (2, .int v2), (3, .int v3), (4, .long v4), (6, .int v6)] []) : ∀ (n : Nat) (h : eH) (v0 : Nat) (v1 : Int32) (v2 : Int32) (v3 : Int32) (v4 : Int64) (v6 : Int32) (v7 : Int32), f_X11_gathers_o_L40 L rec_X11_gathers n k66 h v0 v1 v2 v3 v4 v6 v7 = some r → E l yX11_gathers cX11_gathers 9 none (e_rm d 0 0) 0 0 true L (Qx none L r) L h 0 0 40 [(0, .ref v0), (1, .int v1), (2, .int v2), (3, .int v3), (4, .long v4), (6, .int v6), (7, .int v7)] [] := by
  intro n
  induction n with
  | zero => intro h v0 v1 v2 v3 v4 v6 v7 hf; exact absurd hf (by simp [f_X11_gathers_o_L40])
  | succ n ih =>
    intro h v0 v1 v2 v3 v4 v6 v7 hf
    unfold f_X11_gathers_o_L40 at hf
    refine e_iload 6 dX11_gathers_40 rfl ?_
    refine e_iload_n 2 dX11_gathers_42 rfl rfl ?_
    refine e_icmp_ge (t := 66) dX11_gathers_43 (by decide) (fun c => ?_) (fun c => ?_)
    · replace hf := e_it c hf
      refine e_sub [0, 1, 2, 3, 4, 5] rfl ?_
      exact hk66 _ _ _ _ _ _ _ hf
    · replace hf := e_ie c hf
      refine e_aload_n 0 dX11_gathers_46 rfl rfl ?_
      obtain ⟨hO2, hf⟩ := e_if hf
      obtain ⟨b3, hb4, hf⟩ := e_bd hf
      refine e_getR hO2 fc_11_33 lk_RX11_86 dX11_gathers_47 hb4 ?_
      refine e_iload 6 dX11_gathers_50 rfl ?_
      refine e_aload_n 0 dX11_gathers_52 rfl rfl ?_
      obtain ⟨b5, hb6, hf⟩ := e_bd hf
      refine e_getR hO2 fc_11_32 lk_RX11_83 dX11_gathers_53 hb6 ?_
      refine e_iload 6 dX11_gathers_56 rfl ?_
      obtain ⟨hI7, hf⟩ := e_if hf
      refine e_iald hI7 dX11_gathers_58 ?_
      obtain ⟨hI8, hf⟩ := e_if hf
      refine e_iast hI8 dX11_gathers_59 ?_
      obtain ⟨h9, hh10, hf⟩ := e_bd hf
      refine e_hn hh10 ?_
      refine e_iinc (lv' := [(7, .int _), (0, .ref _), (1, .int _), (2, .int _), (3, .int _), (4, .long _), (6, .int _)]) 6 dX11_gathers_60 rfl (by decide) rfl ?_
      refine e_goto (t := 40) dX11_gathers_63 (by decide) ?_
      refine e_sub [1, 2, 3, 4, 5, 6, 0] rfl ?_
      exact ih _ _ _ _ _ _ _ _ hf
def f_X11_gathers_o_J132 (L : eL) (rec_X11_gathers : eH → Nat → Int32 → Int32 → Int32 → Int64 → Int32 → Option eH) (k74 : eH → Nat → Int32 → Int32 → Int32 → Int64 → Int32 → Int32 → Option eH) (k209 : eH → Option eH) (h : eH) (v0 : Nat) (v1 : Int32) (v2 : Int32) (v3 : Int32) (v4 : Int64) (v6 : Int32) (v7 : Int32) (s0 : Int32) : Option eH :=
  if s0 = 0 then
    k74 h v0 v1 v2 v3 v4 v6 (v7 + Int32.ofInt 1)
  else
    if isO L v0 11 = true then
    (gR h v0 7).bind fun b24 =>
    (f_X11_isFree L h v0 b24 v7).bind fun r26 =>
    if r26 = 0 then
      k74 h v0 v1 v2 v3 v4 v6 (v7 + Int32.ofInt 1)
    else
      (gR h v0 32).bind fun b28 =>
      if inA L b28 0 v2 = true then
      if (lg_cmp ((v4 >>> (v7.toInt64 &&& 63)) &&& 1) 1) = 0 then
        (rec_X11_gathers (sI h b28 v2.toNatClampNeg v7) v0 v7 (v2 + 1) v3 (v4 ||| ((1 : Int64) <<< (v7.toInt64 &&& 63))) (v6 + 0)).bind fun r36 =>
        k74 r36 v0 v1 v2 v3 v4 v6 (v7 + Int32.ofInt 1)
      else
        (gR (sI h b28 v2.toNatClampNeg v7) v0 7).bind fun b31 =>
        if inA L b31 0 v7 = true then
        (rec_X11_gathers (sI h b28 v2.toNatClampNeg v7) v0 v7 (v2 + 1) v3 (v4 ||| ((1 : Int64) <<< (v7.toInt64 &&& 63))) (v6 + (gI (sI h b28 v2.toNatClampNeg v7) b31 v7.toNatClampNeg))).bind fun r34 =>
        k74 r34 v0 v1 v2 v3 v4 v6 (v7 + Int32.ofInt 1)
        else none
      else none
    else none
set_option maxRecDepth 100000 in
set_option maxHeartbeats 4000000 in
theorem m_X11_gathers_o_J132 {l : Launch} {d : Nat} {L : eL} {rec_X11_gathers : eH → Nat → Int32 → Int32 → Int32 → Int64 → Int32 → Option eH} {r : eH} {k74 : eH → Nat → Int32 → Int32 → Int32 → Int64 → Int32 → Int32 → Option eH} {k209 : eH → Option eH} (hd : 3 ≤ d) (hrec_X11_gathers : ∀ {h : eH} {a0 : Nat} {a1 : Int32} {a2 : Int32} {a3 : Int32} {a4 : Int64} {a5 : Int32} {z : eH}, rec_X11_gathers h a0 a1 a2 a3 a4 a5 = some z → e_Met l yX11_gathers cX11_gathers 9 none (d - 1) 0 0 true L h [.ref a0, .int a1, .int a2, .int a3, .long a4, .int a5] (Qx none L z)) (hk74 : ∀ (h : eH) (v0 : Nat) (v1 : Int32) (v2 : Int32) (v3 : Int32) (v4 : Int64) (v6 : Int32) (v7 : Int32), k74 h v0 v1 v2 v3 v4 v6 v7 = some r → E l yX11_gathers cX11_gathers 9 none (e_rm d 0 0) 0 0 true L (Qx none L r) L h 0 0 74 [(0, .ref v0), (1, .int v1), (2, .int v2), (3, .int v3), (4, .long v4), (6, .int v6), (7, .int v7)] []) (hk209 : ∀ (h : eH), k209 h = some r → E l yX11_gathers cX11_gathers 9 none (e_rm d 0 0) 0 0 true L (Qx none L r) L h 0 0 209 [] []) : ∀ (h : eH) (v0 : Nat) (v1 : Int32) (v2 : Int32) (v3 : Int32) (v4 : Int64) (v6 : Int32) (v7 : Int32) (s0 : Int32), f_X11_gathers_o_J132 L rec_X11_gathers k74 k209 h v0 v1 v2 v3 v4 v6 v7 s0 = some r → E l yX11_gathers cX11_gathers 9 none (e_rm d 0 0) 0 0 true L (Qx none L r) L h 0 0 132 [(0, .ref v0), (1, .int v1), (2, .int v2), (3, .int v3), (4, .long v4), (6, .int v6), (7, .int v7)] [.int s0] := by
  intro h v0 v1 v2 v3 v4 v6 v7 s0 hf
  unfold f_X11_gathers_o_J132 at hf
  refine e_istore (lv' := [(8, .int _), (0, .ref _), (1, .int _), (2, .int _), (3, .int _), (4, .long _), (6, .int _), (7, .int _)]) dX11_gathers_132 (by decide) rfl ?_
  refine e_iload 0 dX11_gathers_134 rfl ?_
  refine e_if_eq (t := 203) dX11_gathers_136 (by decide) (fun c => ?_) (fun c => ?_)
  · replace hf := e_it c hf
    refine e_iinc (lv' := [(7, .int _), (8, .int _), (0, .ref _), (1, .int _), (2, .int _), (3, .int _), (4, .long _), (6, .int _)]) 7 dX11_gathers_203 rfl (by decide) rfl ?_
    refine e_goto (t := 74) dX11_gathers_206 (by decide) ?_
    refine e_sub [2, 3, 4, 5, 6, 7, 0] rfl ?_
    exact hk74 _ _ _ _ _ _ _ _ hf
  · replace hf := e_ie c hf
    refine e_aload_n 1 dX11_gathers_139 rfl rfl ?_
    refine e_aload_n 1 dX11_gathers_140 rfl rfl ?_
    obtain ⟨hO23, hf⟩ := e_if hf
    obtain ⟨b24, hb25, hf⟩ := e_bd hf
    refine e_getR hO23 fc_11_7 lk_RX11_41 dX11_gathers_141 hb25 ?_
    refine e_iload 7 dX11_gathers_144 rfl ?_
    obtain ⟨r26, hr27, hf⟩ := e_bd hf
    refine e_callV (st := []) ml_RX11_241 k_X11_isFree (m_X11_isFree (d := d - 1) (by omega) hr27) hO23 ⟨by decide, rfl⟩ rfl rfl (Nat.le_of_ble_eq_true rfl) ⟨by omega, by decide⟩ ⟨Nat.le_refl _, Nat.le_refl _⟩ dX11_gathers_146 ?_
    refine e_if_eq (t := 203) dX11_gathers_149 (by decide) (fun c => ?_) (fun c => ?_)
    · replace hf := e_it c hf
      refine e_iinc (lv' := [(7, .int _), (8, .int _), (0, .ref _), (1, .int _), (2, .int _), (3, .int _), (4, .long _), (6, .int _)]) 7 dX11_gathers_203 rfl (by decide) rfl ?_
      refine e_goto (t := 74) dX11_gathers_206 (by decide) ?_
      refine e_sub [2, 3, 4, 5, 6, 7, 0] rfl ?_
      exact hk74 _ _ _ _ _ _ _ _ hf
    · replace hf := e_ie c hf
      refine e_aload_n 1 dX11_gathers_152 rfl rfl ?_
      obtain ⟨b28, hb29, hf⟩ := e_bd hf
      refine e_getR hO23 fc_11_32 lk_RX11_83 dX11_gathers_153 hb29 ?_
      refine e_iload_n 3 dX11_gathers_156 rfl rfl ?_
      refine e_iload 7 dX11_gathers_157 rfl ?_
      obtain ⟨hI30, hf⟩ := e_if hf
      refine e_iast hI30 dX11_gathers_159 ?_
      refine e_aload_n 1 dX11_gathers_160 rfl rfl ?_
      refine e_iload 7 dX11_gathers_161 rfl ?_
      refine e_iload_n 3 dX11_gathers_163 rfl rfl ?_
      refine e_iconst (v := 1) dX11_gathers_164 (by decide) ?_
      refine e_iadd dX11_gathers_165 ?_
      refine e_iload_n 4 dX11_gathers_166 rfl rfl ?_
      refine e_lload 5 dX11_gathers_167 rfl ?_
      refine e_lconst (v := 1) dX11_gathers_169 (by decide) ?_
      refine e_iload 7 dX11_gathers_170 rfl ?_
      refine e_lshl dX11_gathers_172 ?_
      refine e_lor dX11_gathers_173 ?_
      refine e_iload 6 dX11_gathers_174 rfl ?_
      refine e_lload 5 dX11_gathers_176 rfl ?_
      refine e_iload 7 dX11_gathers_178 rfl ?_
      refine e_lshr dX11_gathers_180 ?_
      refine e_lconst (v := 1) dX11_gathers_181 (by decide) ?_
      refine e_land dX11_gathers_182 ?_
      refine e_lconst (v := 1) dX11_gathers_183 (by decide) ?_
      refine e_lcmp dX11_gathers_184 ?_
      refine e_if_ne (t := 192) dX11_gathers_185 (by decide) (fun c => ?_) (fun c => ?_)
      · replace hf := e_ie c hf
        refine e_aload_n 1 dX11_gathers_192 rfl rfl ?_
        obtain ⟨b31, hb32, hf⟩ := e_bd hf
        refine e_getR hO23 fc_11_7 lk_RX11_41 dX11_gathers_193 hb32 ?_
        refine e_iload 7 dX11_gathers_196 rfl ?_
        obtain ⟨hI33, hf⟩ := e_if hf
        refine e_iald hI33 dX11_gathers_198 ?_
        refine e_iadd dX11_gathers_199 ?_
        obtain ⟨r34, hr35, hf⟩ := e_bd hf
        refine e_callV (st := []) ml_RX11_353 k_X11_gathers (hrec_X11_gathers hr35) hO23 ⟨by decide, rfl⟩ rfl rfl (Nat.le_of_ble_eq_true rfl) ⟨by omega, by decide⟩ ⟨Nat.le_refl _, Nat.le_refl _⟩ dX11_gathers_200 ?_
        refine e_iinc (lv' := [(7, .int _), (8, .int _), (0, .ref _), (1, .int _), (2, .int _), (3, .int _), (4, .long _), (6, .int _)]) 7 dX11_gathers_203 rfl (by decide) rfl ?_
        refine e_goto (t := 74) dX11_gathers_206 (by decide) ?_
        refine e_sub [2, 3, 4, 5, 6, 7, 0] rfl ?_
        exact hk74 _ _ _ _ _ _ _ _ hf
      · replace hf := e_it c hf
        refine e_iconst (v := 0) dX11_gathers_188 (by decide) ?_
        refine e_goto (t := 199) dX11_gathers_189 (by decide) ?_
        refine e_iadd dX11_gathers_199 ?_
        obtain ⟨r36, hr37, hf⟩ := e_bd hf
        refine e_callV (st := []) ml_RX11_353 k_X11_gathers (hrec_X11_gathers hr37) hO23 ⟨by decide, rfl⟩ rfl rfl (Nat.le_of_ble_eq_true rfl) ⟨by omega, by decide⟩ ⟨Nat.le_refl _, Nat.le_refl _⟩ dX11_gathers_200 ?_
        refine e_iinc (lv' := [(7, .int _), (8, .int _), (0, .ref _), (1, .int _), (2, .int _), (3, .int _), (4, .long _), (6, .int _)]) 7 dX11_gathers_203 rfl (by decide) rfl ?_
        refine e_goto (t := 74) dX11_gathers_206 (by decide) ?_
        refine e_sub [2, 3, 4, 5, 6, 7, 0] rfl ?_
        exact hk74 _ _ _ _ _ _ _ _ hf
def f_X11_gathers_o_L74 (L : eL) (rec_X11_gathers : eH → Nat → Int32 → Int32 → Int32 → Int64 → Int32 → Option eH) : Nat → (eH → Option eH) → eH → Nat → Int32 → Int32 → Int32 → Int64 → Int32 → Int32 → Option eH
  | 0, _, _, _, _, _, _, _, _, _ => none
  | n + 1, k209, h, v0, v1, v2, v3, v4, v6, v7 =>
    if isO L v0 11 = true then
    (f_X11_spots L h v0).bind fun r19 =>
    if r19 ≤ v7 then
      k209 h
    else
      (f_X11_beside L h v0 v1 0).bind fun r21 =>
      if r21 = v7 then
        f_X11_gathers_o_J132 L rec_X11_gathers (f_X11_gathers_o_L74 L rec_X11_gathers n k209) k209 h v0 v1 v2 v3 v4 v6 v7 1
      else
        (f_X11_beside L h v0 v1 1).bind fun r38 =>
        if r38 = v7 then
          f_X11_gathers_o_J132 L rec_X11_gathers (f_X11_gathers_o_L74 L rec_X11_gathers n k209) k209 h v0 v1 v2 v3 v4 v6 v7 1
        else
          (f_X11_beside L h v0 v1 2).bind fun r40 =>
          if r40 = v7 then
            f_X11_gathers_o_J132 L rec_X11_gathers (f_X11_gathers_o_L74 L rec_X11_gathers n k209) k209 h v0 v1 v2 v3 v4 v6 v7 1
          else
            (f_X11_beside L h v0 v1 3).bind fun r42 =>
            if r42 = v7 then
              f_X11_gathers_o_J132 L rec_X11_gathers (f_X11_gathers_o_L74 L rec_X11_gathers n k209) k209 h v0 v1 v2 v3 v4 v6 v7 1
            else
              f_X11_gathers_o_J132 L rec_X11_gathers (f_X11_gathers_o_L74 L rec_X11_gathers n k209) k209 h v0 v1 v2 v3 v4 v6 v7 0
    else none
set_option maxRecDepth 100000 in
set_option maxHeartbeats 4000000 in
theorem m_X11_gathers_o_L74 {l : Launch} {d : Nat} {L : eL} {rec_X11_gathers : eH → Nat → Int32 → Int32 → Int32 → Int64 → Int32 → Option eH} {r : eH} {k209 : eH → Option eH} (hd : 3 ≤ d) (hrec_X11_gathers : ∀ {h : eH} {a0 : Nat} {a1 : Int32} {a2 : Int32} {a3 : Int32} {a4 : Int64} {a5 : Int32} {z : eH}, rec_X11_gathers h a0 a1 a2 a3 a4 a5 = some z → e_Met l yX11_gathers cX11_gathers 9 none (d - 1) 0 0 true L h [.ref a0, .int a1, .int a2, .int a3, .long a4, .int a5] (Qx none L z)) (hk209 : ∀ (h : eH), k209 h = some r → E l yX11_gathers cX11_gathers 9 none (e_rm d 0 0) 0 0 true L (Qx none L r) L h 0 0 209 [] []) : ∀ (n : Nat) (h : eH) (v0 : Nat) (v1 : Int32) (v2 : Int32) (v3 : Int32) (v4 : Int64) (v6 : Int32) (v7 : Int32), f_X11_gathers_o_L74 L rec_X11_gathers n k209 h v0 v1 v2 v3 v4 v6 v7 = some r → E l yX11_gathers cX11_gathers 9 none (e_rm d 0 0) 0 0 true L (Qx none L r) L h 0 0 74 [(0, .ref v0), (1, .int v1), (2, .int v2), (3, .int v3), (4, .long v4), (6, .int v6), (7, .int v7)] [] := by
  intro n
  induction n with
  | zero => intro h v0 v1 v2 v3 v4 v6 v7 hf; exact absurd hf (by simp [f_X11_gathers_o_L74])
  | succ n ih =>
    intro h v0 v1 v2 v3 v4 v6 v7 hf
    unfold f_X11_gathers_o_L74 at hf
    refine e_iload 6 dX11_gathers_74 rfl ?_
    refine e_aload_n 0 dX11_gathers_76 rfl rfl ?_
    obtain ⟨hO18, hf⟩ := e_if hf
    obtain ⟨r19, hr20, hf⟩ := e_bd hf
    refine e_callV (st := [.int _]) ml_RX11_114 k_X11_spots (m_X11_spots (d := d - 1) (by omega) hr20) hO18 ⟨by decide, rfl⟩ rfl rfl (Nat.le_of_ble_eq_true rfl) ⟨by omega, by decide⟩ ⟨Nat.le_refl _, Nat.le_refl _⟩ dX11_gathers_77 ?_
    refine e_icmp_ge (t := 209) dX11_gathers_80 (by decide) (fun c => ?_) (fun c => ?_)
    · replace hf := e_it c hf
      refine e_sub [] rfl ?_
      exact hk209 _ hf
    · replace hf := e_ie c hf
      refine e_aload_n 0 dX11_gathers_83 rfl rfl ?_
      refine e_iload_n 1 dX11_gathers_84 rfl rfl ?_
      refine e_iconst (v := 0) dX11_gathers_85 (by decide) ?_
      obtain ⟨r21, hr22, hf⟩ := e_bd hf
      refine e_callV (st := []) ml_RX11_251 k_X11_beside (m_X11_beside (d := d - 1) (by omega) hr22) hO18 ⟨by decide, rfl⟩ rfl rfl (Nat.le_of_ble_eq_true rfl) ⟨by omega, by decide⟩ ⟨Nat.le_refl _, Nat.le_refl _⟩ dX11_gathers_86 ?_
      refine e_iload 6 dX11_gathers_89 rfl ?_
      refine e_icmp_eq (t := 127) dX11_gathers_91 (by decide) (fun c => ?_) (fun c => ?_)
      · replace hf := e_it c hf
        refine e_iconst (v := 1) dX11_gathers_127 (by decide) ?_
        refine e_goto (t := 132) dX11_gathers_128 (by decide) ?_
        exact m_X11_gathers_o_J132 hd hrec_X11_gathers ih hk209 _ _ _ _ _ _ _ _ _ hf
      · replace hf := e_ie c hf
        refine e_aload_n 0 dX11_gathers_94 rfl rfl ?_
        refine e_iload_n 1 dX11_gathers_95 rfl rfl ?_
        refine e_iconst (v := 1) dX11_gathers_96 (by decide) ?_
        obtain ⟨r38, hr39, hf⟩ := e_bd hf
        refine e_callV (st := []) ml_RX11_251 k_X11_beside (m_X11_beside (d := d - 1) (by omega) hr39) hO18 ⟨by decide, rfl⟩ rfl rfl (Nat.le_of_ble_eq_true rfl) ⟨by omega, by decide⟩ ⟨Nat.le_refl _, Nat.le_refl _⟩ dX11_gathers_97 ?_
        refine e_iload 6 dX11_gathers_100 rfl ?_
        refine e_icmp_eq (t := 127) dX11_gathers_102 (by decide) (fun c => ?_) (fun c => ?_)
        · replace hf := e_it c hf
          refine e_iconst (v := 1) dX11_gathers_127 (by decide) ?_
          refine e_goto (t := 132) dX11_gathers_128 (by decide) ?_
          exact m_X11_gathers_o_J132 hd hrec_X11_gathers ih hk209 _ _ _ _ _ _ _ _ _ hf
        · replace hf := e_ie c hf
          refine e_aload_n 0 dX11_gathers_105 rfl rfl ?_
          refine e_iload_n 1 dX11_gathers_106 rfl rfl ?_
          refine e_iconst (v := 2) dX11_gathers_107 (by decide) ?_
          obtain ⟨r40, hr41, hf⟩ := e_bd hf
          refine e_callV (st := []) ml_RX11_251 k_X11_beside (m_X11_beside (d := d - 1) (by omega) hr41) hO18 ⟨by decide, rfl⟩ rfl rfl (Nat.le_of_ble_eq_true rfl) ⟨by omega, by decide⟩ ⟨Nat.le_refl _, Nat.le_refl _⟩ dX11_gathers_108 ?_
          refine e_iload 6 dX11_gathers_111 rfl ?_
          refine e_icmp_eq (t := 127) dX11_gathers_113 (by decide) (fun c => ?_) (fun c => ?_)
          · replace hf := e_it c hf
            refine e_iconst (v := 1) dX11_gathers_127 (by decide) ?_
            refine e_goto (t := 132) dX11_gathers_128 (by decide) ?_
            exact m_X11_gathers_o_J132 hd hrec_X11_gathers ih hk209 _ _ _ _ _ _ _ _ _ hf
          · replace hf := e_ie c hf
            refine e_aload_n 0 dX11_gathers_116 rfl rfl ?_
            refine e_iload_n 1 dX11_gathers_117 rfl rfl ?_
            refine e_iconst (v := 3) dX11_gathers_118 (by decide) ?_
            obtain ⟨r42, hr43, hf⟩ := e_bd hf
            refine e_callV (st := []) ml_RX11_251 k_X11_beside (m_X11_beside (d := d - 1) (by omega) hr43) hO18 ⟨by decide, rfl⟩ rfl rfl (Nat.le_of_ble_eq_true rfl) ⟨by omega, by decide⟩ ⟨Nat.le_refl _, Nat.le_refl _⟩ dX11_gathers_119 ?_
            refine e_iload 6 dX11_gathers_122 rfl ?_
            refine e_icmp_ne (t := 131) dX11_gathers_124 (by decide) (fun c => ?_) (fun c => ?_)
            · replace hf := e_ie c hf
              refine e_iconst (v := 0) dX11_gathers_131 (by decide) ?_
              exact m_X11_gathers_o_J132 hd hrec_X11_gathers ih hk209 _ _ _ _ _ _ _ _ _ hf
            · replace hf := e_it c hf
              refine e_iconst (v := 1) dX11_gathers_127 (by decide) ?_
              refine e_goto (t := 132) dX11_gathers_128 (by decide) ?_
              exact m_X11_gathers_o_J132 hd hrec_X11_gathers ih hk209 _ _ _ _ _ _ _ _ _ hf
def f_X11_gathers_o (L : eL) (rec_X11_gathers : eH → Nat → Int32 → Int32 → Int32 → Int64 → Int32 → Option eH) (h : eH) (v0 : Nat) (v1 : Int32) (v2 : Int32) (v3 : Int32) (v4 : Int64) (v6 : Int32) : Option eH :=
  if isO L v0 11 = true then
  if (gI h v0 35) < v6 then
    f_X11_gathers_o_L40 L rec_X11_gathers e_fu (fun (h11 : eH) (w0_12 : Nat) (w1_13 : Int32) (w2_14 : Int32) (w3_15 : Int32) (w4_16 : Int64) (w6_17 : Int32) =>
      if w3_15 ≤ w2_14 then
        some h11
      else
        f_X11_gathers_o_L74 L rec_X11_gathers e_fu (fun (h44 : eH) =>
          some h44) h11 w0_12 w1_13 w2_14 w3_15 w4_16 w6_17 0) (sI (sI h v0 35 v6) v0 34 v2) v0 v1 v2 v3 v4 v6 0
  else
    if v6 = (gI h v0 35) then
      if (gI h v0 34) ≤ v2 then
        if v3 ≤ v2 then
          some h
        else
          f_X11_gathers_o_L74 L rec_X11_gathers e_fu (fun (h46 : eH) =>
            some h46) h v0 v1 v2 v3 v4 v6 0
      else
        f_X11_gathers_o_L40 L rec_X11_gathers e_fu (fun (h47 : eH) (w0_48 : Nat) (w1_49 : Int32) (w2_50 : Int32) (w3_51 : Int32) (w4_52 : Int64) (w6_53 : Int32) =>
          if w3_51 ≤ w2_50 then
            some h47
          else
            f_X11_gathers_o_L74 L rec_X11_gathers e_fu (fun (h54 : eH) =>
              some h54) h47 w0_48 w1_49 w2_50 w3_51 w4_52 w6_53 0) (sI (sI h v0 35 v6) v0 34 v2) v0 v1 v2 v3 v4 v6 0
    else
      if v3 ≤ v2 then
        some h
      else
        f_X11_gathers_o_L74 L rec_X11_gathers e_fu (fun (h45 : eH) =>
          some h45) h v0 v1 v2 v3 v4 v6 0
  else none
set_option maxRecDepth 100000 in
set_option maxHeartbeats 4000000 in
theorem m_X11_gathers_o {l : Launch} {d : Nat} {L : eL} {h : eH} {rec_X11_gathers : eH → Nat → Int32 → Int32 → Int32 → Int64 → Int32 → Option eH} {v0 : Nat} {v1 : Int32} {v2 : Int32} {v3 : Int32} {v4 : Int64} {v6 : Int32} {r : eH} (hd : 3 ≤ d) (hrec_X11_gathers : ∀ {h : eH} {a0 : Nat} {a1 : Int32} {a2 : Int32} {a3 : Int32} {a4 : Int64} {a5 : Int32} {z : eH}, rec_X11_gathers h a0 a1 a2 a3 a4 a5 = some z → e_Met l yX11_gathers cX11_gathers 9 none (d - 1) 0 0 true L h [.ref a0, .int a1, .int a2, .int a3, .long a4, .int a5] (Qx none L z)) (hf : f_X11_gathers_o L rec_X11_gathers h v0 v1 v2 v3 v4 v6 = some r) : e_Met l yX11_gathers cX11_gathers 9 none d 0 0 true L h [.ref v0, .int v1, .int v2, .int v3, .long v4, .int v6] (Qx none L r) := by
  refine e_metl (by decide) (Nat.le_of_ble_eq_true rfl) (lv := [(0, .ref v0), (1, .int v1), (2, .int v2), (3, .int v3), (4, .long v4), (6, .int v6)]) rfl ?_
  unfold f_X11_gathers_o at hf
  refine e_iload 5 dX11_gathers_0 rfl ?_
  refine e_aload_n 0 dX11_gathers_2 rfl rfl ?_
  obtain ⟨hO1, hf⟩ := e_if hf
  refine e_getI hO1 fc_11_35 lk_RX11_347 dX11_gathers_3 ?_
  refine e_icmp_gt (t := 26) dX11_gathers_6 (by decide) (fun c => ?_) (fun c => ?_)
  · replace hf := e_it c hf
    refine e_aload_n 0 dX11_gathers_26 rfl rfl ?_
    refine e_iload 5 dX11_gathers_27 rfl ?_
    refine e_putI hO1 fc_11_35 rfl lk_RX11_347 dX11_gathers_29 ?_
    refine e_aload_n 0 dX11_gathers_32 rfl rfl ?_
    refine e_iload_n 2 dX11_gathers_33 rfl rfl ?_
    refine e_putI hO1 fc_11_34 rfl lk_RX11_350 dX11_gathers_34 ?_
    refine e_iconst (v := 0) dX11_gathers_37 (by decide) ?_
    refine e_istore (lv' := [(7, .int _), (0, .ref _), (1, .int _), (2, .int _), (3, .int _), (4, .long _), (6, .int _)]) dX11_gathers_38 (by decide) rfl ?_
    refine e_sub [1, 2, 3, 4, 5, 6, 0] rfl ?_
    refine m_X11_gathers_o_L40 hd hrec_X11_gathers ?_ e_fu _ _ _ _ _ _ _ _ hf
    · intro h11 w0_12 w1_13 w2_14 w3_15 w4_16 w6_17 hf
      refine e_iload_n 2 dX11_gathers_66 rfl rfl ?_
      refine e_iload_n 3 dX11_gathers_67 rfl rfl ?_
      refine e_icmp_ge (t := 209) dX11_gathers_68 (by decide) (fun c => ?_) (fun c => ?_)
      · replace hf := e_it c hf
        exact e_vret rfl dX11_gathers_209 (qV hf)
      · replace hf := e_ie c hf
        refine e_iconst (v := 0) dX11_gathers_71 (by decide) ?_
        refine e_istore (lv' := [(7, .int _), (0, .ref _), (1, .int _), (2, .int _), (3, .int _), (4, .long _), (6, .int _)]) dX11_gathers_72 (by decide) rfl ?_
        refine e_sub [1, 2, 3, 4, 5, 6, 0] rfl ?_
        refine m_X11_gathers_o_L74 hd hrec_X11_gathers ?_ e_fu _ _ _ _ _ _ _ _ hf
        · intro h44 hf
          exact e_vret rfl dX11_gathers_209 (qV hf)
  · replace hf := e_ie c hf
    refine e_iload 5 dX11_gathers_9 rfl ?_
    refine e_aload_n 0 dX11_gathers_11 rfl rfl ?_
    refine e_getI hO1 fc_11_35 lk_RX11_347 dX11_gathers_12 ?_
    refine e_icmp_ne (t := 66) dX11_gathers_15 (by decide) (fun c => ?_) (fun c => ?_)
    · replace hf := e_ie c hf
      refine e_iload_n 2 dX11_gathers_66 rfl rfl ?_
      refine e_iload_n 3 dX11_gathers_67 rfl rfl ?_
      refine e_icmp_ge (t := 209) dX11_gathers_68 (by decide) (fun c => ?_) (fun c => ?_)
      · replace hf := e_it c hf
        exact e_vret rfl dX11_gathers_209 (qV hf)
      · replace hf := e_ie c hf
        refine e_iconst (v := 0) dX11_gathers_71 (by decide) ?_
        refine e_istore (lv' := [(7, .int _), (0, .ref _), (1, .int _), (2, .int _), (3, .int _), (4, .long _), (6, .int _)]) dX11_gathers_72 (by decide) rfl ?_
        refine e_sub [1, 2, 3, 4, 5, 6, 0] rfl ?_
        refine m_X11_gathers_o_L74 hd hrec_X11_gathers ?_ e_fu _ _ _ _ _ _ _ _ hf
        · intro h45 hf
          exact e_vret rfl dX11_gathers_209 (qV hf)
    · replace hf := e_it c hf
      refine e_iload_n 2 dX11_gathers_18 rfl rfl ?_
      refine e_aload_n 0 dX11_gathers_19 rfl rfl ?_
      refine e_getI hO1 fc_11_34 lk_RX11_350 dX11_gathers_20 ?_
      refine e_icmp_ge (t := 66) dX11_gathers_23 (by decide) (fun c => ?_) (fun c => ?_)
      · replace hf := e_it c hf
        refine e_iload_n 2 dX11_gathers_66 rfl rfl ?_
        refine e_iload_n 3 dX11_gathers_67 rfl rfl ?_
        refine e_icmp_ge (t := 209) dX11_gathers_68 (by decide) (fun c => ?_) (fun c => ?_)
        · replace hf := e_it c hf
          exact e_vret rfl dX11_gathers_209 (qV hf)
        · replace hf := e_ie c hf
          refine e_iconst (v := 0) dX11_gathers_71 (by decide) ?_
          refine e_istore (lv' := [(7, .int _), (0, .ref _), (1, .int _), (2, .int _), (3, .int _), (4, .long _), (6, .int _)]) dX11_gathers_72 (by decide) rfl ?_
          refine e_sub [1, 2, 3, 4, 5, 6, 0] rfl ?_
          refine m_X11_gathers_o_L74 hd hrec_X11_gathers ?_ e_fu _ _ _ _ _ _ _ _ hf
          · intro h46 hf
            exact e_vret rfl dX11_gathers_209 (qV hf)
      · replace hf := e_ie c hf
        refine e_aload_n 0 dX11_gathers_26 rfl rfl ?_
        refine e_iload 5 dX11_gathers_27 rfl ?_
        refine e_putI hO1 fc_11_35 rfl lk_RX11_347 dX11_gathers_29 ?_
        refine e_aload_n 0 dX11_gathers_32 rfl rfl ?_
        refine e_iload_n 2 dX11_gathers_33 rfl rfl ?_
        refine e_putI hO1 fc_11_34 rfl lk_RX11_350 dX11_gathers_34 ?_
        refine e_iconst (v := 0) dX11_gathers_37 (by decide) ?_
        refine e_istore (lv' := [(7, .int _), (0, .ref _), (1, .int _), (2, .int _), (3, .int _), (4, .long _), (6, .int _)]) dX11_gathers_38 (by decide) rfl ?_
        refine e_sub [1, 2, 3, 4, 5, 6, 0] rfl ?_
        refine m_X11_gathers_o_L40 hd hrec_X11_gathers ?_ e_fu _ _ _ _ _ _ _ _ hf
        · intro h47 w0_48 w1_49 w2_50 w3_51 w4_52 w6_53 hf
          refine e_iload_n 2 dX11_gathers_66 rfl rfl ?_
          refine e_iload_n 3 dX11_gathers_67 rfl rfl ?_
          refine e_icmp_ge (t := 209) dX11_gathers_68 (by decide) (fun c => ?_) (fun c => ?_)
          · replace hf := e_it c hf
            exact e_vret rfl dX11_gathers_209 (qV hf)
          · replace hf := e_ie c hf
            refine e_iconst (v := 0) dX11_gathers_71 (by decide) ?_
            refine e_istore (lv' := [(7, .int _), (0, .ref _), (1, .int _), (2, .int _), (3, .int _), (4, .long _), (6, .int _)]) dX11_gathers_72 (by decide) rfl ?_
            refine e_sub [1, 2, 3, 4, 5, 6, 0] rfl ?_
            refine m_X11_gathers_o_L74 hd hrec_X11_gathers ?_ e_fu _ _ _ _ _ _ _ _ hf
            · intro h54 hf
              exact e_vret rfl dX11_gathers_209 (qV hf)
def fg_X11_gathers (L : eL) : Nat → Nat → eH → Nat → Int32 → Int32 → Int32 → Int64 → Int32 → Option eH
  | 0, _, _, _, _, _, _, _, _ => none
  | n + 1, t, h, x0, x1, x2, x3, x4, x5 =>
    f_X11_gathers_o L (fun h y0 y1 y2 y3 y4 y5 => fg_X11_gathers L n 0 h y0 y1 y2 y3 y4 y5) h x0 x1 x2 x3 x4 x5
theorem mg_X11_gathers {l : Launch} {L : eL} : ∀ (n d : Nat), 3 + n ≤ d → ∀ (t : Nat) (h : eH) (x0 : Nat) (x1 : Int32) (x2 : Int32) (x3 : Int32) (x4 : Int64) (x5 : Int32) (r : eH), fg_X11_gathers L n t h x0 x1 x2 x3 x4 x5 = some r → (True → e_Met l yX11_gathers cX11_gathers 9 none d 0 0 true L h [.ref x0, .int x1, .int x2, .int x3, .long x4, .int x5] (Qx none L r)) := by
  intro n
  induction n with
  | zero => intro d hd t h x0 x1 x2 x3 x4 x5 r hf; exact absurd hf (by simp [fg_X11_gathers])
  | succ n ih =>
    intro d hd t h x0 x1 x2 x3 x4 x5 r hf
    unfold fg_X11_gathers at hf
    refine ?_
    exact fun _ => m_X11_gathers_o (by omega) (fun hz => (ih (d - 1) (by omega) 0 _ _ _ _ _ _ _ _ hz) (trivial)) hf
def f_X11_gathers (L : eL) (h : eH) (x0 : Nat) (x1 : Int32) (x2 : Int32) (x3 : Int32) (x4 : Int64) (x5 : Int32) : Option eH := fg_X11_gathers L 100 0 h x0 x1 x2 x3 x4 x5
theorem m_X11_gathers {l : Launch} {d : Nat} {L : eL} {h : eH} {x0 : Nat} {x1 : Int32} {x2 : Int32} {x3 : Int32} {x4 : Int64} {x5 : Int32} {r : eH} (hd : 103 ≤ d) (hf : f_X11_gathers L h x0 x1 x2 x3 x4 x5 = some r) : e_Met l yX11_gathers cX11_gathers 9 none d 0 0 true L h [.ref x0, .int x1, .int x2, .int x3, .long x4, .int x5] (Qx none L r) := (mg_X11_gathers 100 d (by omega) 0 h x0 x1 x2 x3 x4 x5 r hf) (trivial)

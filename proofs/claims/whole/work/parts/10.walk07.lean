def f_X11_flat_L33 (L : eL) : Nat → (eH → Nat → Int32 → Int32 → Option (eH × Int32)) → eH → Nat → Int32 → Int32 → Option (eH × Int32)
  | 0, _, _, _, _, _ => none
  | n + 1, k64, h, v0, v1, v2 =>
    if v2 = 0 then
      k64 h v0 v1 v2
    else
      if 6 ≤ v1 then
        k64 h v0 v1 v2
      else
        if isO L v0 11 = true then
        (f_X11_takes L h v0 47).bind fun r7 =>
        if r7.2 = 0 then
          k64 r7.1 v0 v1 v2
        else
          (f_X11_readsRow L r7.1 v0 v1).bind fun r9 =>
          f_X11_flat_L33 L n k64 r9.1 v0 (v1 + Int32.ofInt 1) r9.2
        else none
set_option maxRecDepth 100000 in
set_option maxHeartbeats 4000000 in
theorem m_X11_flat_L33 {l : Launch} {d : Nat} {L : eL}  {r : eH × Int32} {k64 : eH → Nat → Int32 → Int32 → Option (eH × Int32)} (hd : 9 ≤ d) (hk64 : ∀ (h : eH) (v0 : Nat) (v1 : Int32) (v2 : Int32), k64 h v0 v1 v2 = some r → E l yX11_flat cX11_flat 6 (some .int) (e_rm d 0 0) 0 0 true L (Qx (some (.int r.2)) L r.1) L h 0 0 64 [(0, .ref v0), (1, .int v1), (2, .int v2)] []) : ∀ (n : Nat) (h : eH) (v0 : Nat) (v1 : Int32) (v2 : Int32), f_X11_flat_L33 L n k64 h v0 v1 v2 = some r → E l yX11_flat cX11_flat 6 (some .int) (e_rm d 0 0) 0 0 true L (Qx (some (.int r.2)) L r.1) L h 0 0 33 [(0, .ref v0), (1, .int v1), (2, .int v2)] [] := by
  intro n
  induction n with
  | zero => intro h v0 v1 v2 hf; exact absurd hf (by simp [f_X11_flat_L33])
  | succ n ih =>
    intro h v0 v1 v2 hf
    unfold f_X11_flat_L33 at hf
    refine e_iload_n 2 dX11_flat_33 rfl rfl ?_
    refine e_if_eq (t := 64) dX11_flat_34 (by decide) (fun c => ?_) (fun c => ?_)
    · replace hf := e_it c hf
      exact hk64 _ _ _ _ hf
    · replace hf := e_ie c hf
      refine e_iload_n 1 dX11_flat_37 rfl rfl ?_
      refine e_bipush (v := 6) dX11_flat_38 (by decide) ?_
      refine e_icmp_ge (t := 64) dX11_flat_40 (by decide) (fun c => ?_) (fun c => ?_)
      · replace hf := e_it c hf
        exact hk64 _ _ _ _ hf
      · replace hf := e_ie c hf
        refine e_aload_n 0 dX11_flat_43 rfl rfl ?_
        refine e_bipush (v := 47) dX11_flat_44 (by decide) ?_
        obtain ⟨hO6, hf⟩ := e_if hf
        obtain ⟨r7, hr8, hf⟩ := e_bd hf
        refine e_callV (st := []) ml_RX11_183 k_X11_takes (m_X11_takes (d := d - 1) (by omega) hr8) hO6 ⟨by decide, rfl⟩ rfl rfl (Nat.le_of_ble_eq_true rfl) ⟨by omega, by decide⟩ ⟨Nat.le_refl _, Nat.le_refl _⟩ dX11_flat_46 ?_
        refine e_if_eq (t := 64) dX11_flat_49 (by decide) (fun c => ?_) (fun c => ?_)
        · replace hf := e_it c hf
          exact hk64 _ _ _ _ hf
        · replace hf := e_ie c hf
          refine e_aload_n 0 dX11_flat_52 rfl rfl ?_
          refine e_iload_n 1 dX11_flat_53 rfl rfl ?_
          obtain ⟨r9, hr10, hf⟩ := e_bd hf
          refine e_callV (st := []) ml_RX11_179 k_X11_readsRow (m_X11_readsRow (d := d - 1) (by omega) hr10) hO6 ⟨by decide, rfl⟩ rfl rfl (Nat.le_of_ble_eq_true rfl) ⟨by omega, by decide⟩ ⟨Nat.le_refl _, Nat.le_refl _⟩ dX11_flat_54 ?_
          refine e_istore_n (lv' := [(2, .int _), (0, .ref _), (1, .int _)]) dX11_flat_57 rfl (by decide) rfl ?_
          refine e_iinc (lv' := [(1, .int _), (2, .int _), (0, .ref _)]) 2 dX11_flat_58 rfl (by decide) rfl ?_
          refine e_goto (t := 33) dX11_flat_61 (by decide) ?_
          refine e_sub [2, 0, 1] rfl ?_
          exact ih _ _ _ _ hf
def f_X11_flat_J121 (L : eL) (k94 : eH → Nat → Int32 → Int32 → Int32 → Int32 → Option (eH × Int32)) (k156 : eH → Nat → Int32 → Int32 → Int32 → Option (eH × Int32)) (h : eH) (v0 : Nat) (v1 : Int32) (v4 : Int32) (v5 : Int32) (s0 : Int32) (s1 : Int32) : Option (eH × Int32) :=
  if 0 ≤ v4 then
    k94 h v0 v1 (s0 + (f_X11_flag s1)) v4 (v5 + Int32.ofInt 1)
  else
    if isO L v0 11 = true then
    (gR h v0 14).bind fun b22 =>
    if inA L b22 0 v5 = true then
    if (gI h b22 v5.toNatClampNeg) = 0 then
      k94 h v0 v1 (s0 + (f_X11_flag s1)) v4 (v5 + Int32.ofInt 1)
    else
      k94 h v0 v1 (s0 + (f_X11_flag s1)) v5 (v5 + Int32.ofInt 1)
    else none
    else none
set_option maxRecDepth 100000 in
set_option maxHeartbeats 4000000 in
theorem m_X11_flat_J121 {l : Launch} {d : Nat} {L : eL}  {r : eH × Int32} {k94 : eH → Nat → Int32 → Int32 → Int32 → Int32 → Option (eH × Int32)} {k156 : eH → Nat → Int32 → Int32 → Int32 → Option (eH × Int32)} (hd : 9 ≤ d) (hk94 : ∀ (h : eH) (v0 : Nat) (v1 : Int32) (v3 : Int32) (v4 : Int32) (v5 : Int32), k94 h v0 v1 v3 v4 v5 = some r → E l yX11_flat cX11_flat 6 (some .int) (e_rm d 0 0) 0 0 true L (Qx (some (.int r.2)) L r.1) L h 0 0 94 [(0, .ref v0), (1, .int v1), (3, .int v3), (4, .int v4), (5, .int v5)] []) (hk156 : ∀ (h : eH) (v0 : Nat) (v1 : Int32) (v3 : Int32) (v4 : Int32), k156 h v0 v1 v3 v4 = some r → E l yX11_flat cX11_flat 6 (some .int) (e_rm d 0 0) 0 0 true L (Qx (some (.int r.2)) L r.1) L h 0 0 156 [(0, .ref v0), (1, .int v1), (3, .int v3), (4, .int v4)] []) : ∀ (h : eH) (v0 : Nat) (v1 : Int32) (v4 : Int32) (v5 : Int32) (s0 : Int32) (s1 : Int32), f_X11_flat_J121 L k94 k156 h v0 v1 v4 v5 s0 s1 = some r → E l yX11_flat cX11_flat 6 (some .int) (e_rm d 0 0) 0 0 true L (Qx (some (.int r.2)) L r.1) L h 0 0 121 [(0, .ref v0), (1, .int v1), (4, .int v4), (5, .int v5)] [.int s1, .int s0] := by
  intro h v0 v1 v4 v5 s0 s1 hf
  unfold f_X11_flat_J121 at hf
  refine e_callS (st := [.int _]) ml_RX11_122 k_X11_flag (m_X11_flag (d := d - 1) (by omega) rfl) rfl rfl (Nat.le_of_ble_eq_true rfl) ⟨by omega, by decide⟩ ⟨Nat.le_refl _, Nat.le_refl _⟩ dX11_flat_121 ?_
  refine e_iadd dX11_flat_124 ?_
  refine e_istore_n (lv' := [(3, .int _), (0, .ref _), (1, .int _), (4, .int _), (5, .int _)]) dX11_flat_125 rfl (by decide) rfl ?_
  refine e_iload 3 dX11_flat_126 rfl ?_
  refine e_if_ge (t := 146) dX11_flat_128 (by decide) (fun c => ?_) (fun c => ?_)
  · replace hf := e_it c hf
    refine e_iload 3 dX11_flat_146 rfl ?_
    refine e_istore (lv' := [(4, .int _), (3, .int _), (0, .ref _), (1, .int _), (5, .int _)]) dX11_flat_148 (by decide) rfl ?_
    refine e_iinc (lv' := [(5, .int _), (4, .int _), (3, .int _), (0, .ref _), (1, .int _)]) 4 dX11_flat_150 rfl (by decide) rfl ?_
    refine e_goto (t := 94) dX11_flat_153 (by decide) ?_
    refine e_sub [3, 4, 2, 1, 0] rfl ?_
    exact hk94 _ _ _ _ _ _ hf
  · replace hf := e_ie c hf
    refine e_aload_n 1 dX11_flat_131 rfl rfl ?_
    obtain ⟨hO21, hf⟩ := e_if hf
    obtain ⟨b22, hb23, hf⟩ := e_bd hf
    refine e_getR hO21 fc_11_14 lk_RX11_50 dX11_flat_132 hb23 ?_
    refine e_iload 4 dX11_flat_135 rfl ?_
    obtain ⟨hI24, hf⟩ := e_if hf
    refine e_iald hI24 dX11_flat_137 ?_
    refine e_if_eq (t := 146) dX11_flat_138 (by decide) (fun c => ?_) (fun c => ?_)
    · replace hf := e_it c hf
      refine e_iload 3 dX11_flat_146 rfl ?_
      refine e_istore (lv' := [(4, .int _), (3, .int _), (0, .ref _), (1, .int _), (5, .int _)]) dX11_flat_148 (by decide) rfl ?_
      refine e_iinc (lv' := [(5, .int _), (4, .int _), (3, .int _), (0, .ref _), (1, .int _)]) 4 dX11_flat_150 rfl (by decide) rfl ?_
      refine e_goto (t := 94) dX11_flat_153 (by decide) ?_
      refine e_sub [3, 4, 2, 1, 0] rfl ?_
      exact hk94 _ _ _ _ _ _ hf
    · replace hf := e_ie c hf
      refine e_iload 4 dX11_flat_141 rfl ?_
      refine e_goto (t := 148) dX11_flat_143 (by decide) ?_
      refine e_istore (lv' := [(4, .int _), (3, .int _), (0, .ref _), (1, .int _), (5, .int _)]) dX11_flat_148 (by decide) rfl ?_
      refine e_iinc (lv' := [(5, .int _), (4, .int _), (3, .int _), (0, .ref _), (1, .int _)]) 4 dX11_flat_150 rfl (by decide) rfl ?_
      refine e_goto (t := 94) dX11_flat_153 (by decide) ?_
      refine e_sub [3, 4, 2, 1, 0] rfl ?_
      exact hk94 _ _ _ _ _ _ hf
def f_X11_flat_L94 (L : eL) : Nat → (eH → Nat → Int32 → Int32 → Int32 → Option (eH × Int32)) → eH → Nat → Int32 → Int32 → Int32 → Int32 → Option (eH × Int32)
  | 0, _, _, _, _, _, _, _ => none
  | n + 1, k156, h, v0, v1, v3, v4, v5 =>
    if isO L v0 11 = true then
    if (v1 * (gI h v0 15)) ≤ v5 then
      k156 h v0 v1 v3 v4
    else
      (gR h v0 14).bind fun b18 =>
      if inA L b18 0 v5 = true then
      if (gI h b18 v5.toNatClampNeg) = 0 then
        f_X11_flat_J121 L (f_X11_flat_L94 L n k156) k156 h v0 v1 v4 v5 v3 0
      else
        f_X11_flat_J121 L (f_X11_flat_L94 L n k156) k156 h v0 v1 v4 v5 v3 1
      else none
    else none
set_option maxRecDepth 100000 in
set_option maxHeartbeats 4000000 in
theorem m_X11_flat_L94 {l : Launch} {d : Nat} {L : eL}  {r : eH × Int32} {k156 : eH → Nat → Int32 → Int32 → Int32 → Option (eH × Int32)} (hd : 9 ≤ d) (hk156 : ∀ (h : eH) (v0 : Nat) (v1 : Int32) (v3 : Int32) (v4 : Int32), k156 h v0 v1 v3 v4 = some r → E l yX11_flat cX11_flat 6 (some .int) (e_rm d 0 0) 0 0 true L (Qx (some (.int r.2)) L r.1) L h 0 0 156 [(0, .ref v0), (1, .int v1), (3, .int v3), (4, .int v4)] []) : ∀ (n : Nat) (h : eH) (v0 : Nat) (v1 : Int32) (v3 : Int32) (v4 : Int32) (v5 : Int32), f_X11_flat_L94 L n k156 h v0 v1 v3 v4 v5 = some r → E l yX11_flat cX11_flat 6 (some .int) (e_rm d 0 0) 0 0 true L (Qx (some (.int r.2)) L r.1) L h 0 0 94 [(0, .ref v0), (1, .int v1), (3, .int v3), (4, .int v4), (5, .int v5)] [] := by
  intro n
  induction n with
  | zero => intro h v0 v1 v3 v4 v5 hf; exact absurd hf (by simp [f_X11_flat_L94])
  | succ n ih =>
    intro h v0 v1 v3 v4 v5 hf
    unfold f_X11_flat_L94 at hf
    refine e_iload 4 dX11_flat_94 rfl ?_
    refine e_iload_n 1 dX11_flat_96 rfl rfl ?_
    refine e_aload_n 0 dX11_flat_97 rfl rfl ?_
    obtain ⟨hO17, hf⟩ := e_if hf
    refine e_getI hO17 fc_11_15 lk_RX11_165 dX11_flat_98 ?_
    refine e_imul dX11_flat_101 ?_
    refine e_icmp_ge (t := 156) dX11_flat_102 (by decide) (fun c => ?_) (fun c => ?_)
    · replace hf := e_it c hf
      refine e_sub [0, 1, 2, 3] rfl ?_
      exact hk156 _ _ _ _ _ hf
    · replace hf := e_ie c hf
      refine e_iload_n 2 dX11_flat_105 rfl rfl ?_
      refine e_aload_n 0 dX11_flat_106 rfl rfl ?_
      obtain ⟨b18, hb19, hf⟩ := e_bd hf
      refine e_getR hO17 fc_11_14 lk_RX11_50 dX11_flat_107 hb19 ?_
      refine e_iload 4 dX11_flat_110 rfl ?_
      obtain ⟨hI20, hf⟩ := e_if hf
      refine e_iald hI20 dX11_flat_112 ?_
      refine e_if_eq (t := 120) dX11_flat_113 (by decide) (fun c => ?_) (fun c => ?_)
      · replace hf := e_it c hf
        refine e_iconst (v := 0) dX11_flat_120 (by decide) ?_
        refine e_sub [0, 1, 3, 4] rfl ?_
        exact m_X11_flat_J121 hd ih hk156 _ _ _ _ _ _ _ hf
      · replace hf := e_ie c hf
        refine e_iconst (v := 1) dX11_flat_116 (by decide) ?_
        refine e_goto (t := 121) dX11_flat_117 (by decide) ?_
        refine e_sub [0, 1, 3, 4] rfl ?_
        exact m_X11_flat_J121 hd ih hk156 _ _ _ _ _ _ _ hf
def f_X11_flat_L187 (L : eL) : Nat → (eH → Nat → Int32 → Int32 → Option (eH × Int32)) → eH → Nat → Int32 → Int32 → Int32 → Option (eH × Int32)
  | 0, _, _, _, _, _, _ => none
  | n + 1, k232, h, v0, v3, v4, v5 =>
    if 36 ≤ v5 then
      k232 h v0 v3 v4
    else
      if isO L v0 11 = true then
      (gR h v0 6).bind fun b34 =>
      if ((gI h v0 3) * (gI h v0 4)) ≤ v5 then
        if inA L b34 0 v5 = true then
        f_X11_flat_L187 L n k232 (sI h b34 v5.toNatClampNeg 0) v0 v3 v4 (v5 + Int32.ofInt 1)
        else none
      else
        (gR h v0 14).bind fun b37 =>
        if inA L b37 0 v5 = true then
        if inA L b34 0 v5 = true then
        (some (sI h b34 v5.toNatClampNeg (gI h b37 v5.toNatClampNeg))).bind fun h41 =>
        f_X11_flat_L187 L n k232 h41 v0 v3 v4 (v5 + Int32.ofInt 1)
        else none
        else none
      else none
set_option maxRecDepth 100000 in
set_option maxHeartbeats 4000000 in
theorem m_X11_flat_L187 {l : Launch} {d : Nat} {L : eL}  {r : eH × Int32} {k232 : eH → Nat → Int32 → Int32 → Option (eH × Int32)} (hd : 9 ≤ d) (hk232 : ∀ (h : eH) (v0 : Nat) (v3 : Int32) (v4 : Int32), k232 h v0 v3 v4 = some r → E l yX11_flat cX11_flat 6 (some .int) (e_rm d 0 0) 0 0 true L (Qx (some (.int r.2)) L r.1) L h 0 0 232 [(0, .ref v0), (3, .int v3), (4, .int v4)] []) : ∀ (n : Nat) (h : eH) (v0 : Nat) (v3 : Int32) (v4 : Int32) (v5 : Int32), f_X11_flat_L187 L n k232 h v0 v3 v4 v5 = some r → E l yX11_flat cX11_flat 6 (some .int) (e_rm d 0 0) 0 0 true L (Qx (some (.int r.2)) L r.1) L h 0 0 187 [(0, .ref v0), (3, .int v3), (4, .int v4), (5, .int v5)] [] := by
  intro n
  induction n with
  | zero => intro h v0 v3 v4 v5 hf; exact absurd hf (by simp [f_X11_flat_L187])
  | succ n ih =>
    intro h v0 v3 v4 v5 hf
    unfold f_X11_flat_L187 at hf
    refine e_iload 3 dX11_flat_187 rfl ?_
    refine e_bipush (v := 36) dX11_flat_189 (by decide) ?_
    refine e_icmp_ge (t := 232) dX11_flat_191 (by decide) (fun c => ?_) (fun c => ?_)
    · replace hf := e_it c hf
      refine e_sub [0, 1, 2] rfl ?_
      exact hk232 _ _ _ _ hf
    · replace hf := e_ie c hf
      refine e_aload_n 0 dX11_flat_194 rfl rfl ?_
      obtain ⟨hO33, hf⟩ := e_if hf
      obtain ⟨b34, hb35, hf⟩ := e_bd hf
      refine e_getR hO33 fc_11_6 lk_RX11_37 dX11_flat_195 hb35 ?_
      refine e_iload 3 dX11_flat_198 rfl ?_
      refine e_iload 3 dX11_flat_200 rfl ?_
      refine e_aload_n 0 dX11_flat_202 rfl rfl ?_
      refine e_getI hO33 fc_11_3 lk_RX11_28 dX11_flat_203 ?_
      refine e_aload_n 0 dX11_flat_206 rfl rfl ?_
      refine e_getI hO33 fc_11_4 lk_RX11_31 dX11_flat_207 ?_
      refine e_imul dX11_flat_210 ?_
      refine e_icmp_ge (t := 224) dX11_flat_211 (by decide) (fun c => ?_) (fun c => ?_)
      · replace hf := e_it c hf
        refine e_iconst (v := 0) dX11_flat_224 (by decide) ?_
        obtain ⟨hI36, hf⟩ := e_if hf
        refine e_iast hI36 dX11_flat_225 ?_
        refine e_iinc (lv' := [(5, .int _), (0, .ref _), (3, .int _), (4, .int _)]) 3 dX11_flat_226 rfl (by decide) rfl ?_
        refine e_goto (t := 187) dX11_flat_229 (by decide) ?_
        refine e_sub [1, 2, 3, 0] rfl ?_
        exact ih _ _ _ _ _ hf
      · replace hf := e_ie c hf
        refine e_aload_n 0 dX11_flat_214 rfl rfl ?_
        obtain ⟨b37, hb38, hf⟩ := e_bd hf
        refine e_getR hO33 fc_11_14 lk_RX11_50 dX11_flat_215 hb38 ?_
        refine e_iload 3 dX11_flat_218 rfl ?_
        obtain ⟨hI39, hf⟩ := e_if hf
        refine e_iald hI39 dX11_flat_220 ?_
        refine e_goto (t := 225) dX11_flat_221 (by decide) ?_
        obtain ⟨hI40, hf⟩ := e_if hf
        refine e_iast hI40 dX11_flat_225 ?_
        obtain ⟨h41, hh42, hf⟩ := e_bd hf
        refine e_hn hh42 ?_
        refine e_iinc (lv' := [(5, .int _), (0, .ref _), (3, .int _), (4, .int _)]) 3 dX11_flat_226 rfl (by decide) rfl ?_
        refine e_goto (t := 187) dX11_flat_229 (by decide) ?_
        refine e_sub [1, 2, 3, 0] rfl ?_
        exact ih _ _ _ _ _ hf
def f_X11_flat_L235 (L : eL) : Nat → (eH → Nat → Int32 → Int32 → Option (eH × Int32)) → eH → Nat → Int32 → Int32 → Int32 → Option (eH × Int32)
  | 0, _, _, _, _, _, _ => none
  | n + 1, k256, h, v0, v3, v4, v5 =>
    if 79 ≤ v5 then
      k256 h v0 v3 v4
    else
      if isO L v0 11 = true then
      (gR h v0 7).bind fun b48 =>
      if inA L b48 0 v5 = true then
      f_X11_flat_L235 L n k256 (sI h b48 v5.toNatClampNeg 0) v0 v3 v4 (v5 + Int32.ofInt 1)
      else none
      else none
set_option maxRecDepth 100000 in
set_option maxHeartbeats 4000000 in
theorem m_X11_flat_L235 {l : Launch} {d : Nat} {L : eL}  {r : eH × Int32} {k256 : eH → Nat → Int32 → Int32 → Option (eH × Int32)} (hd : 9 ≤ d) (hk256 : ∀ (h : eH) (v0 : Nat) (v3 : Int32) (v4 : Int32), k256 h v0 v3 v4 = some r → E l yX11_flat cX11_flat 6 (some .int) (e_rm d 0 0) 0 0 true L (Qx (some (.int r.2)) L r.1) L h 0 0 256 [(0, .ref v0), (3, .int v3), (4, .int v4)] []) : ∀ (n : Nat) (h : eH) (v0 : Nat) (v3 : Int32) (v4 : Int32) (v5 : Int32), f_X11_flat_L235 L n k256 h v0 v3 v4 v5 = some r → E l yX11_flat cX11_flat 6 (some .int) (e_rm d 0 0) 0 0 true L (Qx (some (.int r.2)) L r.1) L h 0 0 235 [(0, .ref v0), (3, .int v3), (4, .int v4), (5, .int v5)] [] := by
  intro n
  induction n with
  | zero => intro h v0 v3 v4 v5 hf; exact absurd hf (by simp [f_X11_flat_L235])
  | succ n ih =>
    intro h v0 v3 v4 v5 hf
    unfold f_X11_flat_L235 at hf
    refine e_iload 3 dX11_flat_235 rfl ?_
    refine e_bipush (v := 79) dX11_flat_237 (by decide) ?_
    refine e_icmp_ge (t := 256) dX11_flat_239 (by decide) (fun c => ?_) (fun c => ?_)
    · replace hf := e_it c hf
      refine e_sub [0, 1, 2] rfl ?_
      exact hk256 _ _ _ _ hf
    · replace hf := e_ie c hf
      refine e_aload_n 0 dX11_flat_242 rfl rfl ?_
      obtain ⟨hO47, hf⟩ := e_if hf
      obtain ⟨b48, hb49, hf⟩ := e_bd hf
      refine e_getR hO47 fc_11_7 lk_RX11_41 dX11_flat_243 hb49 ?_
      refine e_iload 3 dX11_flat_246 rfl ?_
      refine e_iconst (v := 0) dX11_flat_248 (by decide) ?_
      obtain ⟨hI50, hf⟩ := e_if hf
      refine e_iast hI50 dX11_flat_249 ?_
      refine e_iinc (lv' := [(5, .int _), (0, .ref _), (3, .int _), (4, .int _)]) 3 dX11_flat_250 rfl (by decide) rfl ?_
      refine e_goto (t := 235) dX11_flat_253 (by decide) ?_
      refine e_sub [1, 2, 3, 0] rfl ?_
      exact ih _ _ _ _ _ hf
def f_X11_flat_L301 (L : eL) : Nat → (eH → Int32 → Option (eH × Int32)) → eH → Nat → Int32 → Int32 → Option (eH × Int32)
  | 0, _, _, _, _, _ => none
  | n + 1, k321, h, v0, v3, v5 =>
    if 3 ≤ v5 then
      k321 h v3
    else
      if isO L v0 11 = true then
      (gR h v0 44).bind fun b66 =>
      if inA L b66 2 v5 = true then
      (some (sI h b66 v5.toNatClampNeg (vp_nar .boolean 0))).bind fun h69 =>
      f_X11_flat_L301 L n k321 h69 v0 v3 (v5 + Int32.ofInt 1)
      else none
      else none
set_option maxRecDepth 100000 in
set_option maxHeartbeats 4000000 in
theorem m_X11_flat_L301 {l : Launch} {d : Nat} {L : eL}  {r : eH × Int32} {k321 : eH → Int32 → Option (eH × Int32)} (hd : 9 ≤ d) (hk321 : ∀ (h : eH) (v3 : Int32), k321 h v3 = some r → E l yX11_flat cX11_flat 6 (some .int) (e_rm d 0 0) 0 0 true L (Qx (some (.int r.2)) L r.1) L h 0 0 321 [(3, .int v3)] []) : ∀ (n : Nat) (h : eH) (v0 : Nat) (v3 : Int32) (v5 : Int32), f_X11_flat_L301 L n k321 h v0 v3 v5 = some r → E l yX11_flat cX11_flat 6 (some .int) (e_rm d 0 0) 0 0 true L (Qx (some (.int r.2)) L r.1) L h 0 0 301 [(0, .ref v0), (3, .int v3), (5, .int v5)] [] := by
  intro n
  induction n with
  | zero => intro h v0 v3 v5 hf; exact absurd hf (by simp [f_X11_flat_L301])
  | succ n ih =>
    intro h v0 v3 v5 hf
    unfold f_X11_flat_L301 at hf
    refine e_iload 2 dX11_flat_301 rfl ?_
    refine e_iconst (v := 3) dX11_flat_303 (by decide) ?_
    refine e_icmp_ge (t := 321) dX11_flat_304 (by decide) (fun c => ?_) (fun c => ?_)
    · replace hf := e_it c hf
      refine e_sub [1] rfl ?_
      exact hk321 _ _ hf
    · replace hf := e_ie c hf
      refine e_aload_n 0 dX11_flat_307 rfl rfl ?_
      obtain ⟨hO65, hf⟩ := e_if hf
      obtain ⟨b66, hb67, hf⟩ := e_bd hf
      refine e_getR hO65 fc_11_44 lk_RX11_108 dX11_flat_308 hb67 ?_
      refine e_iload 2 dX11_flat_311 rfl ?_
      refine e_iconst (v := 0) dX11_flat_313 (by decide) ?_
      obtain ⟨hI68, hf⟩ := e_if hf
      refine e_zast hI68 dX11_flat_314 ?_
      obtain ⟨h69, hh70, hf⟩ := e_bd hf
      refine e_hn hh70 ?_
      refine e_iinc (lv' := [(5, .int _), (0, .ref _), (3, .int _)]) 2 dX11_flat_315 rfl (by decide) rfl ?_
      refine e_goto (t := 301) dX11_flat_318 (by decide) ?_
      refine e_sub [1, 2, 0] rfl ?_
      exact ih _ _ _ _ hf
def f_X11_flat_J278 (L : eL) (h : eH) (v0 : Nat) (v3 : Int32) (s0 : Nat) (s1 : Int32) (s2 : Int32) : Option (eH × Int32) :=
  if inA L s0 0 s1 = true then
  if isO L v0 11 = true then
  (gR (sI h s0 s1.toNatClampNeg s2) v0 7).bind fun b60 =>
  if inA L b60 0 74 = true then
  (some (sI (sI h s0 s1.toNatClampNeg s2) b60 (74 : Int32).toNatClampNeg 100)).bind fun h63 =>
  f_X11_flat_L301 L e_fu (fun (h71 : eH) (w3_72 : Int32) =>
    some (h71, w3_72)) (sI (sI h63 v0 36 0) v0 24 0) v0 v3 0
  else none
  else none
  else none
set_option maxRecDepth 100000 in
set_option maxHeartbeats 4000000 in
theorem m_X11_flat_J278 {l : Launch} {d : Nat} {L : eL}  {r : eH × Int32} (hd : 9 ≤ d)  : ∀ (h : eH) (v0 : Nat) (v3 : Int32) (s0 : Nat) (s1 : Int32) (s2 : Int32), f_X11_flat_J278 L h v0 v3 s0 s1 s2 = some r → E l yX11_flat cX11_flat 6 (some .int) (e_rm d 0 0) 0 0 true L (Qx (some (.int r.2)) L r.1) L h 0 0 278 [(0, .ref v0), (3, .int v3)] [.int s2, .int s1, .ref s0] := by
  intro h v0 v3 s0 s1 s2 hf
  unfold f_X11_flat_J278 at hf
  obtain ⟨hI58, hf⟩ := e_if hf
  refine e_iast hI58 dX11_flat_278 ?_
  refine e_aload_n 0 dX11_flat_279 rfl rfl ?_
  obtain ⟨hO59, hf⟩ := e_if hf
  obtain ⟨b60, hb61, hf⟩ := e_bd hf
  refine e_getR hO59 fc_11_7 lk_RX11_41 dX11_flat_280 hb61 ?_
  refine e_bipush (v := 74) dX11_flat_283 (by decide) ?_
  refine e_bipush (v := 100) dX11_flat_285 (by decide) ?_
  obtain ⟨hI62, hf⟩ := e_if hf
  refine e_iast hI62 dX11_flat_287 ?_
  obtain ⟨h63, hh64, hf⟩ := e_bd hf
  refine e_hn hh64 ?_
  refine e_aload_n 0 dX11_flat_288 rfl rfl ?_
  refine e_iconst (v := 0) dX11_flat_289 (by decide) ?_
  refine e_putI hO59 fc_11_36 rfl lk_RX11_186 dX11_flat_290 ?_
  refine e_aload_n 0 dX11_flat_293 rfl rfl ?_
  refine e_iconst (v := 0) dX11_flat_294 (by decide) ?_
  refine e_putI hO59 fc_11_24 rfl lk_RX11_189 dX11_flat_295 ?_
  refine e_iconst (v := 0) dX11_flat_298 (by decide) ?_
  refine e_istore (lv' := [(5, .int _), (0, .ref _), (3, .int _)]) dX11_flat_299 (by decide) rfl ?_
  refine e_sub [1, 2, 0] rfl ?_
  refine m_X11_flat_L301 hd ?_ e_fu _ _ _ _ hf
  · intro h71 w3_72 hf
    refine e_iload_n 0 dX11_flat_321 rfl rfl ?_
    exact e_iret rfl dX11_flat_322 (qW hf)
def f_X11_flat_J64 (L : eL) (h : eH) (v0 : Nat) (v1 : Int32) (v2 : Int32) : Option (eH × Int32) :=
  if v2 = 0 then
    if isO L v0 11 = true then
    some (h, (-1) - (gI h v0 11))
    else none
  else
    if isO L v0 11 = true then
    if (gI h v0 12) ≤ (gI h v0 11) then
      f_X11_flat_L94 L e_fu (fun (h25 : eH) (w0_26 : Nat) (w1_27 : Int32) (w3_28 : Int32) (w4_29 : Int32) =>
        if w3_28 = 0 then
          some (h25, (-100))
        else
          if isO L w0_26 11 = true then
          (some (sI (sI h25 w0_26 3 w1_27) w0_26 4 (gI (sI h25 w0_26 3 w1_27) w0_26 15))).bind fun h31 =>
          f_X11_flat_L187 L e_fu (fun (h43 : eH) (w0_44 : Nat) (w3_45 : Int32) (w4_46 : Int32) =>
            f_X11_flat_L235 L e_fu (fun (h51 : eH) (w0_52 : Nat) (w3_53 : Int32) (w4_54 : Int32) =>
              if isO L w0_52 11 = true then
              (gR h51 w0_52 7).bind fun b56 =>
              if 0 ≤ (gI h51 w0_52 5) then
                f_X11_flat_J278 L h51 w0_52 w3_53 b56 72 (gI h51 w0_52 5)
              else
                f_X11_flat_J278 L h51 w0_52 w3_53 b56 72 w4_54
              else none) h43 w0_44 w3_45 w4_46 0) (sI h31 w0_26 5 (gI h31 w0_26 16)) w0_26 w3_28 w4_29 0
          else none) h v0 v1 0 (-1) 0
    else
      some (h, (-1) - (gI h v0 11))
    else none
set_option maxRecDepth 100000 in
set_option maxHeartbeats 4000000 in
theorem m_X11_flat_J64 {l : Launch} {d : Nat} {L : eL}  {r : eH × Int32} (hd : 9 ≤ d)  : ∀ (h : eH) (v0 : Nat) (v1 : Int32) (v2 : Int32), f_X11_flat_J64 L h v0 v1 v2 = some r → E l yX11_flat cX11_flat 6 (some .int) (e_rm d 0 0) 0 0 true L (Qx (some (.int r.2)) L r.1) L h 0 0 64 [(0, .ref v0), (1, .int v1), (2, .int v2)] [] := by
  intro h v0 v1 v2 hf
  unfold f_X11_flat_J64 at hf
  refine e_iload_n 2 dX11_flat_64 rfl rfl ?_
  refine e_if_eq (t := 79) dX11_flat_65 (by decide) (fun c => ?_) (fun c => ?_)
  · replace hf := e_it c hf
    refine e_iconst (v := (-1)) dX11_flat_79 (by decide) ?_
    refine e_aload_n 0 dX11_flat_80 rfl rfl ?_
    obtain ⟨hO15, hf⟩ := e_if hf
    refine e_getI hO15 fc_11_11 lk_RX11_129 dX11_flat_81 ?_
    refine e_isub dX11_flat_84 ?_
    exact e_iret rfl dX11_flat_85 (qW hf)
  · replace hf := e_ie c hf
    refine e_aload_n 0 dX11_flat_68 rfl rfl ?_
    obtain ⟨hO16, hf⟩ := e_if hf
    refine e_getI hO16 fc_11_11 lk_RX11_129 dX11_flat_69 ?_
    refine e_aload_n 0 dX11_flat_72 rfl rfl ?_
    refine e_getI hO16 fc_11_12 lk_RX11_141 dX11_flat_73 ?_
    refine e_icmp_ge (t := 86) dX11_flat_76 (by decide) (fun c => ?_) (fun c => ?_)
    · replace hf := e_it c hf
      refine e_iconst (v := 0) dX11_flat_86 (by decide) ?_
      refine e_istore_n (lv' := [(3, .int _), (0, .ref _), (1, .int _), (2, .int _)]) dX11_flat_87 rfl (by decide) rfl ?_
      refine e_iconst (v := (-1)) dX11_flat_88 (by decide) ?_
      refine e_istore (lv' := [(4, .int _), (3, .int _), (0, .ref _), (1, .int _), (2, .int _)]) dX11_flat_89 (by decide) rfl ?_
      refine e_iconst (v := 0) dX11_flat_91 (by decide) ?_
      refine e_istore (lv' := [(5, .int _), (4, .int _), (3, .int _), (0, .ref _), (1, .int _), (2, .int _)]) dX11_flat_92 (by decide) rfl ?_
      refine e_sub [3, 4, 2, 1, 0] rfl ?_
      refine m_X11_flat_L94 hd ?_ e_fu _ _ _ _ _ _ hf
      · intro h25 w0_26 w1_27 w3_28 w4_29 hf
        refine e_iload_n 2 dX11_flat_156 rfl rfl ?_
        refine e_if_ne (t := 163) dX11_flat_157 (by decide) (fun c => ?_) (fun c => ?_)
        · replace hf := e_ie c hf
          refine e_aload_n 0 dX11_flat_163 rfl rfl ?_
          refine e_iload_n 1 dX11_flat_164 rfl rfl ?_
          obtain ⟨hO30, hf⟩ := e_if hf
          refine e_putI hO30 fc_11_3 rfl lk_RX11_28 dX11_flat_165 ?_
          refine e_aload_n 0 dX11_flat_168 rfl rfl ?_
          refine e_aload_n 0 dX11_flat_169 rfl rfl ?_
          refine e_getI hO30 fc_11_15 lk_RX11_165 dX11_flat_170 ?_
          refine e_putI hO30 fc_11_4 rfl lk_RX11_31 dX11_flat_173 ?_
          obtain ⟨h31, hh32, hf⟩ := e_bd hf
          refine e_hn hh32 ?_
          refine e_aload_n 0 dX11_flat_176 rfl rfl ?_
          refine e_aload_n 0 dX11_flat_177 rfl rfl ?_
          refine e_getI hO30 fc_11_16 lk_RX11_168 dX11_flat_178 ?_
          refine e_putI hO30 fc_11_5 rfl lk_RX11_34 dX11_flat_181 ?_
          refine e_iconst (v := 0) dX11_flat_184 (by decide) ?_
          refine e_istore (lv' := [(5, .int _), (0, .ref _), (1, .int _), (3, .int _), (4, .int _)]) dX11_flat_185 (by decide) rfl ?_
          refine e_sub [1, 3, 4, 0] rfl ?_
          refine m_X11_flat_L187 hd ?_ e_fu _ _ _ _ _ hf
          · intro h43 w0_44 w3_45 w4_46 hf
            refine e_iconst (v := 0) dX11_flat_232 (by decide) ?_
            refine e_istore (lv' := [(5, .int _), (0, .ref _), (3, .int _), (4, .int _)]) dX11_flat_233 (by decide) rfl ?_
            refine e_sub [1, 2, 3, 0] rfl ?_
            refine m_X11_flat_L235 hd ?_ e_fu _ _ _ _ _ hf
            · intro h51 w0_52 w3_53 w4_54 hf
              refine e_aload_n 0 dX11_flat_256 rfl rfl ?_
              obtain ⟨hO55, hf⟩ := e_if hf
              obtain ⟨b56, hb57, hf⟩ := e_bd hf
              refine e_getR hO55 fc_11_7 lk_RX11_41 dX11_flat_257 hb57 ?_
              refine e_bipush (v := 72) dX11_flat_260 (by decide) ?_
              refine e_aload_n 0 dX11_flat_262 rfl rfl ?_
              refine e_getI hO55 fc_11_5 lk_RX11_34 dX11_flat_263 ?_
              refine e_if_ge (t := 274) dX11_flat_266 (by decide) (fun c => ?_) (fun c => ?_)
              · replace hf := e_it c hf
                refine e_aload_n 0 dX11_flat_274 rfl rfl ?_
                refine e_getI hO55 fc_11_5 lk_RX11_34 dX11_flat_275 ?_
                refine e_sub [0, 1] rfl ?_
                exact m_X11_flat_J278 hd _ _ _ _ _ _ hf
              · replace hf := e_ie c hf
                refine e_iload 2 dX11_flat_269 rfl ?_
                refine e_goto (t := 278) dX11_flat_271 (by decide) ?_
                refine e_sub [0, 1] rfl ?_
                exact m_X11_flat_J278 hd _ _ _ _ _ _ hf
        · replace hf := e_it c hf
          refine e_bipush (v := (-100)) dX11_flat_160 (by decide) ?_
          exact e_iret rfl dX11_flat_162 (qW hf)
    · replace hf := e_ie c hf
      refine e_iconst (v := (-1)) dX11_flat_79 (by decide) ?_
      refine e_aload_n 0 dX11_flat_80 rfl rfl ?_
      refine e_getI hO16 fc_11_11 lk_RX11_129 dX11_flat_81 ?_
      refine e_isub dX11_flat_84 ?_
      exact e_iret rfl dX11_flat_85 (qW hf)
def f_X11_flat (L : eL) (h : eH) (v0 : Nat) : Option (eH × Int32) :=
  if isO L v0 11 = true then
  (f_X11_begins L (sI h v0 0 0) v0 80).bind fun r2 =>
  (f_X11_readsRow L (sI (sI r2.1 v0 15 0) v0 16 (-1)) v0 0).bind fun r4 =>
  f_X11_flat_L33 L e_fu (fun (h11 : eH) (w0_12 : Nat) (w1_13 : Int32) (w2_14 : Int32) =>
    f_X11_flat_J64 L h11 w0_12 w1_13 w2_14) r4.1 v0 (0 + Int32.ofInt 1) r4.2
  else none
set_option maxRecDepth 100000 in
set_option maxHeartbeats 4000000 in
theorem m_X11_flat {l : Launch} {d : Nat} {L : eL} {h : eH} {v0 : Nat} {r : eH × Int32} (hd : 9 ≤ d) (hf : f_X11_flat L h v0 = some r) : e_Met l yX11_flat cX11_flat 6 (some .int) d 0 0 true L h [.ref v0] (Qx (some (.int r.2)) L r.1) := by
  refine e_metl (by decide) (Nat.le_of_ble_eq_true rfl) (lv := [(0, .ref v0)]) rfl ?_
  unfold f_X11_flat at hf
  refine e_aload_n 0 dX11_flat_0 rfl rfl ?_
  refine e_iconst (v := 0) dX11_flat_1 (by decide) ?_
  obtain ⟨hO1, hf⟩ := e_if hf
  refine e_putI hO1 fc_11_0 rfl lk_RX11_3 dX11_flat_2 ?_
  refine e_aload_n 0 dX11_flat_5 rfl rfl ?_
  refine e_bipush (v := 80) dX11_flat_6 (by decide) ?_
  obtain ⟨r2, hr3, hf⟩ := e_bd hf
  refine e_callV (st := []) ml_RX11_175 k_X11_begins (m_X11_begins (d := d - 1) (by omega) hr3) hO1 ⟨by decide, rfl⟩ rfl rfl (Nat.le_of_ble_eq_true rfl) ⟨by omega, by decide⟩ ⟨Nat.le_refl _, Nat.le_refl _⟩ dX11_flat_8 ?_
  refine e_popI dX11_flat_11 ?_
  refine e_aload_n 0 dX11_flat_12 rfl rfl ?_
  refine e_iconst (v := 0) dX11_flat_13 (by decide) ?_
  refine e_putI hO1 fc_11_15 rfl lk_RX11_165 dX11_flat_14 ?_
  refine e_aload_n 0 dX11_flat_17 rfl rfl ?_
  refine e_iconst (v := (-1)) dX11_flat_18 (by decide) ?_
  refine e_putI hO1 fc_11_16 rfl lk_RX11_168 dX11_flat_19 ?_
  refine e_iconst (v := 0) dX11_flat_22 (by decide) ?_
  refine e_istore_n (lv' := [(1, .int _), (0, .ref _)]) dX11_flat_23 rfl (by decide) rfl ?_
  refine e_aload_n 1 dX11_flat_24 rfl rfl ?_
  refine e_iconst (v := 0) dX11_flat_25 (by decide) ?_
  obtain ⟨r4, hr5, hf⟩ := e_bd hf
  refine e_callV (st := []) ml_RX11_179 k_X11_readsRow (m_X11_readsRow (d := d - 1) (by omega) hr5) hO1 ⟨by decide, rfl⟩ rfl rfl (Nat.le_of_ble_eq_true rfl) ⟨by omega, by decide⟩ ⟨Nat.le_refl _, Nat.le_refl _⟩ dX11_flat_26 ?_
  refine e_istore_n (lv' := [(2, .int _), (1, .int _), (0, .ref _)]) dX11_flat_29 rfl (by decide) rfl ?_
  refine e_iinc (lv' := [(1, .int _), (2, .int _), (0, .ref _)]) 1 dX11_flat_30 rfl (by decide) rfl ?_
  refine e_sub [2, 0, 1] rfl ?_
  refine m_X11_flat_L33 hd ?_ e_fu _ _ _ _ hf
  · intro h11 w0_12 w1_13 w2_14 hf
    exact m_X11_flat_J64 hd _ _ _ _ hf
def f_X11_takesOf (L : eL) (h : eH) (v0 : Nat) (v1 : Nat) : Option (eH × Int32) :=
  if isO L v0 11 = true then
  (f_X11_among L h v0 v1).bind fun r2 =>
  if r2 < 0 then
    some (sI h v0 11 ((gI h v0 11) + (f_X11_flag 0)), r2)
  else
    some (sI h v0 11 ((gI h v0 11) + (f_X11_flag 1)), r2)
  else none
set_option maxRecDepth 100000 in
set_option maxHeartbeats 4000000 in
theorem m_X11_takesOf {l : Launch} {d : Nat} {L : eL} {h : eH} {v0 : Nat} {v1 : Nat} {r : eH × Int32} (hd : 8 ≤ d) (hf : f_X11_takesOf L h v0 v1 = some r) : e_Met l yX11_takesOf cX11_takesOf 3 (some .int) d 0 0 true L h [.ref v0, .ref v1] (Qx (some (.int r.2)) L r.1) := by
  refine e_metl (by decide) (Nat.le_of_ble_eq_true rfl) (lv := [(0, .ref v0), (1, .ref v1)]) rfl ?_
  unfold f_X11_takesOf at hf
  refine e_aload_n 0 dX11_takesOf_0 rfl rfl ?_
  refine e_aload_n 1 dX11_takesOf_1 rfl rfl ?_
  obtain ⟨hO1, hf⟩ := e_if hf
  obtain ⟨r2, hr3, hf⟩ := e_bd hf
  refine e_callV (st := []) ml_RX11_157 k_X11_among (m_X11_among (d := d - 1) (by omega) hr3) hO1 ⟨by decide, rfl⟩ rfl rfl (Nat.le_of_ble_eq_true rfl) ⟨by omega, by decide⟩ ⟨Nat.le_refl _, Nat.le_refl _⟩ dX11_takesOf_2 ?_
  refine e_istore_n (lv' := [(2, .int _), (0, .ref _), (1, .ref _)]) dX11_takesOf_5 rfl (by decide) rfl ?_
  refine e_aload_n 1 dX11_takesOf_6 rfl rfl ?_
  refine e_dupR dX11_takesOf_7 ?_
  refine e_getI hO1 fc_11_11 lk_RX11_129 dX11_takesOf_8 ?_
  refine e_iload_n 0 dX11_takesOf_11 rfl rfl ?_
  refine e_if_lt (t := 19) dX11_takesOf_12 (by decide) (fun c => ?_) (fun c => ?_)
  · replace hf := e_it c hf
    refine e_iconst (v := 0) dX11_takesOf_19 (by decide) ?_
    refine e_callS (st := [.int _, .ref _]) ml_RX11_122 k_X11_flag (m_X11_flag (d := d - 1) (by omega) rfl) rfl rfl (Nat.le_of_ble_eq_true rfl) ⟨by omega, by decide⟩ ⟨Nat.le_refl _, Nat.le_refl _⟩ dX11_takesOf_20 ?_
    refine e_iadd dX11_takesOf_23 ?_
    refine e_putI hO1 fc_11_11 rfl lk_RX11_129 dX11_takesOf_24 ?_
    refine e_iload_n 0 dX11_takesOf_27 rfl rfl ?_
    exact e_iret rfl dX11_takesOf_28 (qW hf)
  · replace hf := e_ie c hf
    refine e_iconst (v := 1) dX11_takesOf_15 (by decide) ?_
    refine e_goto (t := 20) dX11_takesOf_16 (by decide) ?_
    refine e_callS (st := [.int _, .ref _]) ml_RX11_122 k_X11_flag (m_X11_flag (d := d - 1) (by omega) rfl) rfl rfl (Nat.le_of_ble_eq_true rfl) ⟨by omega, by decide⟩ ⟨Nat.le_refl _, Nat.le_refl _⟩ dX11_takesOf_20 ?_
    refine e_iadd dX11_takesOf_23 ?_
    refine e_putI hO1 fc_11_11 rfl lk_RX11_129 dX11_takesOf_24 ?_
    refine e_iload_n 0 dX11_takesOf_27 rfl rfl ?_
    exact e_iret rfl dX11_takesOf_28 (qW hf)
def f_X11_readsThing_o (L : eL) (rec_X11_readsThing : eH → Nat → Option (eH × Int32)) (rec_X11_readsRank : eH → Nat → Int32 → Option (eH × Int32)) (h : eH) (v0 : Nat) : Option (eH × Int32) :=
  if isO L v0 11 = true then
  (f_X11_takes L h v0 45).bind fun r2 =>
  if r2.2 = 0 then
    (f_X11_isDigit L r2.1 v0).bind fun r4 =>
    if r4 = 0 then
      (f_X11_takesOf L r2.1 v0 (e_str + 2)).bind fun r6 =>
      if r6.2 < 0 then
        if (gI r6.1 v0 13) = 4 then
          some (r6.1, 0)
        else
          (f_X11_takes L r6.1 v0 40).bind fun r8 =>
          if r8.2 = 0 then
            some (r8.1, 0)
          else
            (rec_X11_readsRank (sI r8.1 v0 13 ((gI r8.1 v0 13) + 1)) v0 0).bind fun r10 =>
            if r10.2 = 0 then
              some (r10.1, 0)
            else
              (f_X11_takes L r10.1 v0 41).bind fun r12 =>
              if r12.2 = 0 then
                some (r12.1, 0)
              else
                some (sI r12.1 v0 13 ((gI r12.1 v0 13) - 1), 1)
      else
        (f_X11_codes L r6.1 v0 (1000 + r6.2)).bind fun r14 =>
        some (r14, 1)
    else
      (f_X11_number L r2.1 v0 3).bind fun r16 =>
      (f_X11_codes L r16.1 v0 r16.2).bind fun r18 =>
      some (r18, 1)
  else
    (rec_X11_readsThing r2.1 v0).bind fun r20 =>
    (f_X11_codes L r20.1 v0 3000).bind fun r22 =>
    if isB r20.2 = true then
    some (r22, r20.2)
    else none
  else none
set_option maxRecDepth 100000 in
set_option maxHeartbeats 4000000 in
theorem m_X11_readsThing_o {l : Launch} {d : Nat} {L : eL} {h : eH} {rec_X11_readsThing : eH → Nat → Option (eH × Int32)} {rec_X11_readsRank : eH → Nat → Int32 → Option (eH × Int32)} {v0 : Nat} {r : eH × Int32} (hd : 9 ≤ d) (hrec_X11_readsThing : ∀ {h : eH} {a0 : Nat} {z : eH × Int32}, rec_X11_readsThing h a0 = some z → e_Met l yX11_readsThing cX11_readsThing 2 (some .boolean) (d - 1) 0 0 true L h [.ref a0] (Qx (some (.int z.2)) L z.1)) (hrec_X11_readsRank : ∀ {h : eH} {a0 : Nat} {a1 : Int32} {z : eH × Int32}, rec_X11_readsRank h a0 a1 = some z → e_Met l yX11_readsRank cX11_readsRank 4 (some .boolean) (d - 1) 0 0 true L h [.ref a0, .int a1] (Qx (some (.int z.2)) L z.1)) (hf : f_X11_readsThing_o L rec_X11_readsThing rec_X11_readsRank h v0 = some r) : e_Met l yX11_readsThing cX11_readsThing 2 (some .boolean) d 0 0 true L h [.ref v0] (Qx (some (.int r.2)) L r.1) := by
  refine e_metl (by decide) (Nat.le_of_ble_eq_true rfl) (lv := [(0, .ref v0)]) rfl ?_
  unfold f_X11_readsThing_o at hf
  refine e_aload_n 0 dX11_readsThing_0 rfl rfl ?_
  refine e_bipush (v := 45) dX11_readsThing_1 (by decide) ?_
  obtain ⟨hO1, hf⟩ := e_if hf
  obtain ⟨r2, hr3, hf⟩ := e_bd hf
  refine e_callV (st := []) ml_RX11_183 k_X11_takes (m_X11_takes (d := d - 1) (by omega) hr3) hO1 ⟨by decide, rfl⟩ rfl rfl (Nat.le_of_ble_eq_true rfl) ⟨by omega, by decide⟩ ⟨Nat.le_refl _, Nat.le_refl _⟩ dX11_readsThing_3 ?_
  refine e_if_eq (t := 23) dX11_readsThing_6 (by decide) (fun c => ?_) (fun c => ?_)
  · replace hf := e_it c hf
    refine e_aload_n 0 dX11_readsThing_23 rfl rfl ?_
    obtain ⟨r4, hr5, hf⟩ := e_bd hf
    refine e_callV (st := []) ml_RX11_161 k_X11_isDigit (m_X11_isDigit (d := d - 1) (by omega) hr5) hO1 ⟨by decide, rfl⟩ rfl rfl (Nat.le_of_ble_eq_true rfl) ⟨by omega, by decide⟩ ⟨Nat.le_refl _, Nat.le_refl _⟩ dX11_readsThing_24 ?_
    refine e_if_eq (t := 41) dX11_readsThing_27 (by decide) (fun c => ?_) (fun c => ?_)
    · replace hf := e_it c hf
      refine e_aload_n 0 dX11_readsThing_41 rfl rfl ?_
      refine e_ldcS (j := 2) (by decide) dX11_readsThing_42 ?_
      obtain ⟨r6, hr7, hf⟩ := e_bd hf
      refine e_callV (st := []) ml_RX11_207 k_X11_takesOf (m_X11_takesOf (d := d - 1) (by omega) hr7) hO1 ⟨by decide, rfl⟩ rfl rfl (Nat.le_of_ble_eq_true rfl) ⟨by omega, by decide⟩ ⟨Nat.le_refl _, Nat.le_refl _⟩ dX11_readsThing_44 ?_
      refine e_istore_n (lv' := [(1, .int _), (0, .ref _)]) dX11_readsThing_47 rfl (by decide) rfl ?_
      refine e_iload_n 0 dX11_readsThing_48 rfl rfl ?_
      refine e_if_lt (t := 63) dX11_readsThing_49 (by decide) (fun c => ?_) (fun c => ?_)
      · replace hf := e_it c hf
        refine e_aload_n 1 dX11_readsThing_63 rfl rfl ?_
        refine e_getI hO1 fc_11_13 lk_RX11_132 dX11_readsThing_64 ?_
        refine e_iconst (v := 4) dX11_readsThing_67 (by decide) ?_
        refine e_icmp_eq (t := 80) dX11_readsThing_68 (by decide) (fun c => ?_) (fun c => ?_)
        · replace hf := e_it c hf
          refine e_iconst (v := 0) dX11_readsThing_80 (by decide) ?_
          exact e_zret (ty := .boolean) rfl rfl dX11_readsThing_81 (qW hf)
        · replace hf := e_ie c hf
          refine e_aload_n 1 dX11_readsThing_71 rfl rfl ?_
          refine e_bipush (v := 40) dX11_readsThing_72 (by decide) ?_
          obtain ⟨r8, hr9, hf⟩ := e_bd hf
          refine e_callV (st := []) ml_RX11_183 k_X11_takes (m_X11_takes (d := d - 1) (by omega) hr9) hO1 ⟨by decide, rfl⟩ rfl rfl (Nat.le_of_ble_eq_true rfl) ⟨by omega, by decide⟩ ⟨Nat.le_refl _, Nat.le_refl _⟩ dX11_readsThing_74 ?_
          refine e_if_ne (t := 82) dX11_readsThing_77 (by decide) (fun c => ?_) (fun c => ?_)
          · replace hf := e_ie c hf
            refine e_aload_n 1 dX11_readsThing_82 rfl rfl ?_
            refine e_dupR dX11_readsThing_83 ?_
            refine e_getI hO1 fc_11_13 lk_RX11_132 dX11_readsThing_84 ?_
            refine e_iconst (v := 1) dX11_readsThing_87 (by decide) ?_
            refine e_iadd dX11_readsThing_88 ?_
            refine e_putI hO1 fc_11_13 rfl lk_RX11_132 dX11_readsThing_89 ?_
            refine e_aload_n 1 dX11_readsThing_92 rfl rfl ?_
            refine e_iconst (v := 0) dX11_readsThing_93 (by decide) ?_
            obtain ⟨r10, hr11, hf⟩ := e_bd hf
            refine e_callV (st := []) ml_RX11_210 k_X11_readsRank (hrec_X11_readsRank hr11) hO1 ⟨by decide, rfl⟩ rfl rfl (Nat.le_of_ble_eq_true rfl) ⟨by omega, by decide⟩ ⟨Nat.le_refl _, Nat.le_refl _⟩ dX11_readsThing_94 ?_
            refine e_if_eq (t := 109) dX11_readsThing_97 (by decide) (fun c => ?_) (fun c => ?_)
            · replace hf := e_it c hf
              refine e_iconst (v := 0) dX11_readsThing_109 (by decide) ?_
              exact e_zret (ty := .boolean) rfl rfl dX11_readsThing_110 (qW hf)
            · replace hf := e_ie c hf
              refine e_aload_n 1 dX11_readsThing_100 rfl rfl ?_
              refine e_bipush (v := 41) dX11_readsThing_101 (by decide) ?_
              obtain ⟨r12, hr13, hf⟩ := e_bd hf
              refine e_callV (st := []) ml_RX11_183 k_X11_takes (m_X11_takes (d := d - 1) (by omega) hr13) hO1 ⟨by decide, rfl⟩ rfl rfl (Nat.le_of_ble_eq_true rfl) ⟨by omega, by decide⟩ ⟨Nat.le_refl _, Nat.le_refl _⟩ dX11_readsThing_103 ?_
              refine e_if_ne (t := 111) dX11_readsThing_106 (by decide) (fun c => ?_) (fun c => ?_)
              · replace hf := e_ie c hf
                refine e_aload_n 1 dX11_readsThing_111 rfl rfl ?_
                refine e_dupR dX11_readsThing_112 ?_
                refine e_getI hO1 fc_11_13 lk_RX11_132 dX11_readsThing_113 ?_
                refine e_iconst (v := 1) dX11_readsThing_116 (by decide) ?_
                refine e_isub dX11_readsThing_117 ?_
                refine e_putI hO1 fc_11_13 rfl lk_RX11_132 dX11_readsThing_118 ?_
                refine e_iconst (v := 1) dX11_readsThing_121 (by decide) ?_
                exact e_zret (ty := .boolean) rfl rfl dX11_readsThing_122 (qW hf)
              · replace hf := e_it c hf
                refine e_iconst (v := 0) dX11_readsThing_109 (by decide) ?_
                exact e_zret (ty := .boolean) rfl rfl dX11_readsThing_110 (qW hf)
          · replace hf := e_it c hf
            refine e_iconst (v := 0) dX11_readsThing_80 (by decide) ?_
            exact e_zret (ty := .boolean) rfl rfl dX11_readsThing_81 (qW hf)
      · replace hf := e_ie c hf
        refine e_aload_n 1 dX11_readsThing_52 rfl rfl ?_
        refine e_sipush (v := 1000) dX11_readsThing_53 (by decide) ?_
        refine e_iload_n 0 dX11_readsThing_56 rfl rfl ?_
        refine e_iadd dX11_readsThing_57 ?_
        obtain ⟨r14, hr15, hf⟩ := e_bd hf
        refine e_callV (st := []) ml_RX11_198 k_X11_codes (m_X11_codes (d := d - 1) (by omega) hr15) hO1 ⟨by decide, rfl⟩ rfl rfl (Nat.le_of_ble_eq_true rfl) ⟨by omega, by decide⟩ ⟨Nat.le_refl _, Nat.le_refl _⟩ dX11_readsThing_58 ?_
        refine e_iconst (v := 1) dX11_readsThing_61 (by decide) ?_
        exact e_zret (ty := .boolean) rfl rfl dX11_readsThing_62 (qW hf)
    · replace hf := e_ie c hf
      refine e_aload_n 0 dX11_readsThing_30 rfl rfl ?_
      refine e_aload_n 0 dX11_readsThing_31 rfl rfl ?_
      refine e_iconst (v := 3) dX11_readsThing_32 (by decide) ?_
      obtain ⟨r16, hr17, hf⟩ := e_bd hf
      refine e_callV (st := [.ref _]) ml_RX11_202 k_X11_number (m_X11_number (d := d - 1) (by omega) hr17) hO1 ⟨by decide, rfl⟩ rfl rfl (Nat.le_of_ble_eq_true rfl) ⟨by omega, by decide⟩ ⟨Nat.le_refl _, Nat.le_refl _⟩ dX11_readsThing_33 ?_
      obtain ⟨r18, hr19, hf⟩ := e_bd hf
      refine e_callV (st := []) ml_RX11_198 k_X11_codes (m_X11_codes (d := d - 1) (by omega) hr19) hO1 ⟨by decide, rfl⟩ rfl rfl (Nat.le_of_ble_eq_true rfl) ⟨by omega, by decide⟩ ⟨Nat.le_refl _, Nat.le_refl _⟩ dX11_readsThing_36 ?_
      refine e_iconst (v := 1) dX11_readsThing_39 (by decide) ?_
      exact e_zret (ty := .boolean) rfl rfl dX11_readsThing_40 (qW hf)
  · replace hf := e_ie c hf
    refine e_aload_n 0 dX11_readsThing_9 rfl rfl ?_
    obtain ⟨r20, hr21, hf⟩ := e_bd hf
    refine e_callV (st := []) ml_RX11_195 k_X11_readsThing (hrec_X11_readsThing hr21) hO1 ⟨by decide, rfl⟩ rfl rfl (Nat.le_of_ble_eq_true rfl) ⟨by omega, by decide⟩ ⟨Nat.le_refl _, Nat.le_refl _⟩ dX11_readsThing_10 ?_
    refine e_istore_n (lv' := [(1, .int _), (0, .ref _)]) dX11_readsThing_13 rfl (by decide) rfl ?_
    refine e_aload_n 1 dX11_readsThing_14 rfl rfl ?_
    refine e_sipush (v := 3000) dX11_readsThing_15 (by decide) ?_
    obtain ⟨r22, hr23, hf⟩ := e_bd hf
    refine e_callV (st := []) ml_RX11_198 k_X11_codes (m_X11_codes (d := d - 1) (by omega) hr23) hO1 ⟨by decide, rfl⟩ rfl rfl (Nat.le_of_ble_eq_true rfl) ⟨by omega, by decide⟩ ⟨Nat.le_refl _, Nat.le_refl _⟩ dX11_readsThing_18 ?_
    refine e_iload_n 0 dX11_readsThing_21 rfl rfl ?_
    obtain ⟨hB24, hf⟩ := e_if hf
    exact e_zret (ty := .boolean) rfl (isB_n hB24) dX11_readsThing_22 (qW hf)

def f_X11_readsRow_J131 (L : eL) (k36 : eH → Nat → Int32 → Int32 → Int32 → Int32 → Option (eH × Int32)) (k160 : eH → Nat → Int32 → Int32 → Option (eH × Int32)) (h : eH) (v0 : Nat) (v1 : Int32) (v2 : Int32) (v3 : Int32) (s0 : Nat) (s1 : Int32) : Option (eH × Int32) :=
  if isO L s0 11 = true then
  if isO L v0 11 = true then
  if 0 ≤ (gI (sI h s0 16 s1) v0 16) then
    (f_X11_among L (sI h s0 16 s1) v0 (e_str + 1)).bind fun r13 =>
    k36 (sI h s0 16 s1) v0 v1 v2 (v3 + Int32.ofInt 1) r13
  else
    (f_X11_among L (sI h s0 16 s1) v0 (e_str + 0)).bind fun r15 =>
    k36 (sI h s0 16 s1) v0 v1 v2 (v3 + Int32.ofInt 1) r15
  else none
  else none
set_option maxRecDepth 100000 in
set_option maxHeartbeats 4000000 in
theorem m_X11_readsRow_J131 {l : Launch} {d : Nat} {L : eL}  {r : eH × Int32} {k36 : eH → Nat → Int32 → Int32 → Int32 → Int32 → Option (eH × Int32)} {k160 : eH → Nat → Int32 → Int32 → Option (eH × Int32)} (hd : 8 ≤ d) (hk36 : ∀ (h : eH) (v0 : Nat) (v1 : Int32) (v2 : Int32) (v3 : Int32) (v4 : Int32), k36 h v0 v1 v2 v3 v4 = some r → E l yX11_readsRow cX11_readsRow 6 (some .boolean) (e_rm d 0 0) 0 0 true L (Qx (some (.int r.2)) L r.1) L h 0 0 36 [(0, .ref v0), (1, .int v1), (2, .int v2), (3, .int v3), (4, .int v4)] []) (hk160 : ∀ (h : eH) (v0 : Nat) (v1 : Int32) (v3 : Int32), k160 h v0 v1 v3 = some r → E l yX11_readsRow cX11_readsRow 6 (some .boolean) (e_rm d 0 0) 0 0 true L (Qx (some (.int r.2)) L r.1) L h 0 0 160 [(0, .ref v0), (1, .int v1), (3, .int v3)] []) : ∀ (h : eH) (v0 : Nat) (v1 : Int32) (v2 : Int32) (v3 : Int32) (s0 : Nat) (s1 : Int32), f_X11_readsRow_J131 L k36 k160 h v0 v1 v2 v3 s0 s1 = some r → E l yX11_readsRow cX11_readsRow 6 (some .boolean) (e_rm d 0 0) 0 0 true L (Qx (some (.int r.2)) L r.1) L h 0 0 131 [(0, .ref v0), (1, .int v1), (2, .int v2), (3, .int v3)] [.int s1, .ref s0] := by
  intro h v0 v1 v2 v3 s0 s1 hf
  unfold f_X11_readsRow_J131 at hf
  obtain ⟨hO11, hf⟩ := e_if hf
  refine e_putI hO11 fc_11_16 rfl lk_RX11_168 dX11_readsRow_131 ?_
  refine e_iinc (lv' := [(3, .int _), (0, .ref _), (1, .int _), (2, .int _)]) 3 dX11_readsRow_134 rfl (by decide) rfl ?_
  refine e_aload_n 1 dX11_readsRow_137 rfl rfl ?_
  refine e_aload_n 1 dX11_readsRow_138 rfl rfl ?_
  obtain ⟨hO12, hf⟩ := e_if hf
  refine e_getI hO12 fc_11_16 lk_RX11_168 dX11_readsRow_139 ?_
  refine e_if_ge (t := 150) dX11_readsRow_142 (by decide) (fun c => ?_) (fun c => ?_)
  · replace hf := e_it c hf
    refine e_ldcS (j := 1) (by decide) dX11_readsRow_150 ?_
    obtain ⟨r13, hr14, hf⟩ := e_bd hf
    refine e_callV (st := []) ml_RX11_157 k_X11_among (m_X11_among (d := d - 1) (by omega) hr14) hO12 ⟨by decide, rfl⟩ rfl rfl (Nat.le_of_ble_eq_true rfl) ⟨by omega, by decide⟩ ⟨Nat.le_refl _, Nat.le_refl _⟩ dX11_readsRow_152 ?_
    refine e_istore (lv' := [(4, .int _), (3, .int _), (0, .ref _), (1, .int _), (2, .int _)]) dX11_readsRow_155 (by decide) rfl ?_
    refine e_goto (t := 36) dX11_readsRow_157 (by decide) ?_
    refine e_sub [2, 3, 4, 1, 0] rfl ?_
    exact hk36 _ _ _ _ _ _ hf
  · replace hf := e_ie c hf
    refine e_ldcS (j := 0) (by decide) dX11_readsRow_145 ?_
    refine e_goto (t := 152) dX11_readsRow_147 (by decide) ?_
    obtain ⟨r15, hr16, hf⟩ := e_bd hf
    refine e_callV (st := []) ml_RX11_157 k_X11_among (m_X11_among (d := d - 1) (by omega) hr16) hO12 ⟨by decide, rfl⟩ rfl rfl (Nat.le_of_ble_eq_true rfl) ⟨by omega, by decide⟩ ⟨Nat.le_refl _, Nat.le_refl _⟩ dX11_readsRow_152 ?_
    refine e_istore (lv' := [(4, .int _), (3, .int _), (0, .ref _), (1, .int _), (2, .int _)]) dX11_readsRow_155 (by decide) rfl ?_
    refine e_goto (t := 36) dX11_readsRow_157 (by decide) ?_
    refine e_sub [2, 3, 4, 1, 0] rfl ?_
    exact hk36 _ _ _ _ _ _ hf
def f_X11_readsRow_J114 (L : eL) (k36 : eH → Nat → Int32 → Int32 → Int32 → Int32 → Option (eH × Int32)) (k160 : eH → Nat → Int32 → Int32 → Option (eH × Int32)) (h : eH) (v0 : Nat) (v1 : Int32) (v2 : Int32) (v3 : Int32) (v4 : Int32) (v5 : Int32) (s0 : Nat) (s1 : Int32) (s2 : Int32) : Option (eH × Int32) :=
  if inA L s0 0 s1 = true then
  if v4 ≤ 2 then
    if isO L v0 11 = true then
    f_X11_readsRow_J131 L k36 k160 (sI h s0 s1.toNatClampNeg s2) v0 v1 v2 v3 v0 (gI (sI h s0 s1.toNatClampNeg s2) v0 16)
    else none
  else
    f_X11_readsRow_J131 L k36 k160 (sI h s0 s1.toNatClampNeg s2) v0 v1 v2 v3 v0 v5
  else none
set_option maxRecDepth 100000 in
set_option maxHeartbeats 4000000 in
theorem m_X11_readsRow_J114 {l : Launch} {d : Nat} {L : eL}  {r : eH × Int32} {k36 : eH → Nat → Int32 → Int32 → Int32 → Int32 → Option (eH × Int32)} {k160 : eH → Nat → Int32 → Int32 → Option (eH × Int32)} (hd : 8 ≤ d) (hk36 : ∀ (h : eH) (v0 : Nat) (v1 : Int32) (v2 : Int32) (v3 : Int32) (v4 : Int32), k36 h v0 v1 v2 v3 v4 = some r → E l yX11_readsRow cX11_readsRow 6 (some .boolean) (e_rm d 0 0) 0 0 true L (Qx (some (.int r.2)) L r.1) L h 0 0 36 [(0, .ref v0), (1, .int v1), (2, .int v2), (3, .int v3), (4, .int v4)] []) (hk160 : ∀ (h : eH) (v0 : Nat) (v1 : Int32) (v3 : Int32), k160 h v0 v1 v3 = some r → E l yX11_readsRow cX11_readsRow 6 (some .boolean) (e_rm d 0 0) 0 0 true L (Qx (some (.int r.2)) L r.1) L h 0 0 160 [(0, .ref v0), (1, .int v1), (3, .int v3)] []) : ∀ (h : eH) (v0 : Nat) (v1 : Int32) (v2 : Int32) (v3 : Int32) (v4 : Int32) (v5 : Int32) (s0 : Nat) (s1 : Int32) (s2 : Int32), f_X11_readsRow_J114 L k36 k160 h v0 v1 v2 v3 v4 v5 s0 s1 s2 = some r → E l yX11_readsRow cX11_readsRow 6 (some .boolean) (e_rm d 0 0) 0 0 true L (Qx (some (.int r.2)) L r.1) L h 0 0 114 [(0, .ref v0), (1, .int v1), (2, .int v2), (3, .int v3), (4, .int v4), (5, .int v5)] [.int s2, .int s1, .ref s0] := by
  intro h v0 v1 v2 v3 v4 v5 s0 s1 s2 hf
  unfold f_X11_readsRow_J114 at hf
  obtain ⟨hI9, hf⟩ := e_if hf
  refine e_iast hI9 dX11_readsRow_114 ?_
  refine e_aload_n 0 dX11_readsRow_115 rfl rfl ?_
  refine e_iload 4 dX11_readsRow_116 rfl ?_
  refine e_iconst (v := 2) dX11_readsRow_118 (by decide) ?_
  refine e_icmp_le (t := 127) dX11_readsRow_119 (by decide) (fun c => ?_) (fun c => ?_)
  · replace hf := e_it c hf
    refine e_aload_n 0 dX11_readsRow_127 rfl rfl ?_
    obtain ⟨hO10, hf⟩ := e_if hf
    refine e_getI hO10 fc_11_16 lk_RX11_168 dX11_readsRow_128 ?_
    refine e_sub [0, 1, 2, 3] rfl ?_
    exact m_X11_readsRow_J131 hd hk36 hk160 _ _ _ _ _ _ _ hf
  · replace hf := e_ie c hf
    refine e_iload 5 dX11_readsRow_122 rfl ?_
    refine e_goto (t := 131) dX11_readsRow_124 (by decide) ?_
    refine e_sub [0, 1, 2, 3] rfl ?_
    exact m_X11_readsRow_J131 hd hk36 hk160 _ _ _ _ _ _ _ hf
def f_X11_readsRow_J80 (L : eL) (k36 : eH → Nat → Int32 → Int32 → Int32 → Int32 → Option (eH × Int32)) (k160 : eH → Nat → Int32 → Int32 → Option (eH × Int32)) (h : eH) (v0 : Nat) (v1 : Int32) (v2 : Int32) (v3 : Int32) (v4 : Int32) (s0 : Int32) : Option (eH × Int32) :=
  if isO L v0 11 = true then
  (gR h v0 14).bind fun b7 =>
  if v4 = 0 then
    f_X11_readsRow_J114 L k36 k160 h v0 v1 v2 v3 v4 s0 b7 s0 0
  else
    if v4 = 1 then
      f_X11_readsRow_J114 L k36 k160 h v0 v1 v2 v3 v4 s0 b7 s0 1
    else
      if v4 = 3 then
        f_X11_readsRow_J114 L k36 k160 h v0 v1 v2 v3 v4 s0 b7 s0 1
      else
        f_X11_readsRow_J114 L k36 k160 h v0 v1 v2 v3 v4 s0 b7 s0 2
  else none
set_option maxRecDepth 100000 in
set_option maxHeartbeats 4000000 in
theorem m_X11_readsRow_J80 {l : Launch} {d : Nat} {L : eL}  {r : eH × Int32} {k36 : eH → Nat → Int32 → Int32 → Int32 → Int32 → Option (eH × Int32)} {k160 : eH → Nat → Int32 → Int32 → Option (eH × Int32)} (hd : 8 ≤ d) (hk36 : ∀ (h : eH) (v0 : Nat) (v1 : Int32) (v2 : Int32) (v3 : Int32) (v4 : Int32), k36 h v0 v1 v2 v3 v4 = some r → E l yX11_readsRow cX11_readsRow 6 (some .boolean) (e_rm d 0 0) 0 0 true L (Qx (some (.int r.2)) L r.1) L h 0 0 36 [(0, .ref v0), (1, .int v1), (2, .int v2), (3, .int v3), (4, .int v4)] []) (hk160 : ∀ (h : eH) (v0 : Nat) (v1 : Int32) (v3 : Int32), k160 h v0 v1 v3 = some r → E l yX11_readsRow cX11_readsRow 6 (some .boolean) (e_rm d 0 0) 0 0 true L (Qx (some (.int r.2)) L r.1) L h 0 0 160 [(0, .ref v0), (1, .int v1), (3, .int v3)] []) : ∀ (h : eH) (v0 : Nat) (v1 : Int32) (v2 : Int32) (v3 : Int32) (v4 : Int32) (s0 : Int32), f_X11_readsRow_J80 L k36 k160 h v0 v1 v2 v3 v4 s0 = some r → E l yX11_readsRow cX11_readsRow 6 (some .boolean) (e_rm d 0 0) 0 0 true L (Qx (some (.int r.2)) L r.1) L h 0 0 80 [(0, .ref v0), (1, .int v1), (2, .int v2), (3, .int v3), (4, .int v4)] [.int s0] := by
  intro h v0 v1 v2 v3 v4 s0 hf
  unfold f_X11_readsRow_J80 at hf
  refine e_istore (lv' := [(5, .int _), (0, .ref _), (1, .int _), (2, .int _), (3, .int _), (4, .int _)]) dX11_readsRow_80 (by decide) rfl ?_
  refine e_aload_n 1 dX11_readsRow_82 rfl rfl ?_
  obtain ⟨hO6, hf⟩ := e_if hf
  obtain ⟨b7, hb8, hf⟩ := e_bd hf
  refine e_getR hO6 fc_11_14 lk_RX11_50 dX11_readsRow_83 hb8 ?_
  refine e_iload 0 dX11_readsRow_86 rfl ?_
  refine e_iload 5 dX11_readsRow_88 rfl ?_
  refine e_if_ne (t := 97) dX11_readsRow_90 (by decide) (fun c => ?_) (fun c => ?_)
  · replace hf := e_ie c hf
    refine e_iload 5 dX11_readsRow_97 rfl ?_
    refine e_iconst (v := 1) dX11_readsRow_99 (by decide) ?_
    refine e_icmp_eq (t := 109) dX11_readsRow_100 (by decide) (fun c => ?_) (fun c => ?_)
    · replace hf := e_it c hf
      refine e_iconst (v := 1) dX11_readsRow_109 (by decide) ?_
      refine e_goto (t := 114) dX11_readsRow_110 (by decide) ?_
      refine e_sub [1, 2, 3, 4, 5, 0] rfl ?_
      exact m_X11_readsRow_J114 hd hk36 hk160 _ _ _ _ _ _ _ _ _ _ hf
    · replace hf := e_ie c hf
      refine e_iload 5 dX11_readsRow_103 rfl ?_
      refine e_iconst (v := 3) dX11_readsRow_105 (by decide) ?_
      refine e_icmp_ne (t := 113) dX11_readsRow_106 (by decide) (fun c => ?_) (fun c => ?_)
      · replace hf := e_ie c hf
        refine e_iconst (v := 2) dX11_readsRow_113 (by decide) ?_
        refine e_sub [1, 2, 3, 4, 5, 0] rfl ?_
        exact m_X11_readsRow_J114 hd hk36 hk160 _ _ _ _ _ _ _ _ _ _ hf
      · replace hf := e_it c hf
        refine e_iconst (v := 1) dX11_readsRow_109 (by decide) ?_
        refine e_goto (t := 114) dX11_readsRow_110 (by decide) ?_
        refine e_sub [1, 2, 3, 4, 5, 0] rfl ?_
        exact m_X11_readsRow_J114 hd hk36 hk160 _ _ _ _ _ _ _ _ _ _ hf
  · replace hf := e_it c hf
    refine e_iconst (v := 0) dX11_readsRow_93 (by decide) ?_
    refine e_goto (t := 114) dX11_readsRow_94 (by decide) ?_
    refine e_sub [1, 2, 3, 4, 5, 0] rfl ?_
    exact m_X11_readsRow_J114 hd hk36 hk160 _ _ _ _ _ _ _ _ _ _ hf
def f_X11_readsRow_L36 (L : eL) : Nat → (eH → Nat → Int32 → Int32 → Option (eH × Int32)) → eH → Nat → Int32 → Int32 → Int32 → Int32 → Option (eH × Int32)
  | 0, _, _, _, _, _, _, _ => none
  | n + 1, k160, h, v0, v1, v2, v3, v4 =>
    if v2 ≤ v3 then
      k160 h v0 v1 v3
    else
      if v4 < 0 then
        k160 h v0 v1 v3
      else
        if isO L v0 11 = true then
        if v2 = (gI (sI h v0 11 ((gI h v0 11) + 1)) v0 15) then
          f_X11_readsRow_J80 L (f_X11_readsRow_L36 L n k160) k160 (sI h v0 11 ((gI h v0 11) + 1)) v0 v1 v2 v3 v4 (((gI (sI h v0 11 ((gI h v0 11) + 1)) v0 15) * v1) + v3)
        else
          if v1 ≤ 0 then
            f_X11_readsRow_J80 L (f_X11_readsRow_L36 L n k160) k160 (sI h v0 11 ((gI h v0 11) + 1)) v0 v1 v2 v3 v4 v3
          else
            f_X11_readsRow_J80 L (f_X11_readsRow_L36 L n k160) k160 (sI h v0 11 ((gI h v0 11) + 1)) v0 v1 v2 v3 v4 (((gI (sI h v0 11 ((gI h v0 11) + 1)) v0 15) * v1) + v3)
        else none
set_option maxRecDepth 100000 in
set_option maxHeartbeats 4000000 in
theorem m_X11_readsRow_L36 {l : Launch} {d : Nat} {L : eL}  {r : eH × Int32} {k160 : eH → Nat → Int32 → Int32 → Option (eH × Int32)} (hd : 8 ≤ d) (hk160 : ∀ (h : eH) (v0 : Nat) (v1 : Int32) (v3 : Int32), k160 h v0 v1 v3 = some r → E l yX11_readsRow cX11_readsRow 6 (some .boolean) (e_rm d 0 0) 0 0 true L (Qx (some (.int r.2)) L r.1) L h 0 0 160 [(0, .ref v0), (1, .int v1), (3, .int v3)] []) : ∀ (n : Nat) (h : eH) (v0 : Nat) (v1 : Int32) (v2 : Int32) (v3 : Int32) (v4 : Int32), f_X11_readsRow_L36 L n k160 h v0 v1 v2 v3 v4 = some r → E l yX11_readsRow cX11_readsRow 6 (some .boolean) (e_rm d 0 0) 0 0 true L (Qx (some (.int r.2)) L r.1) L h 0 0 36 [(0, .ref v0), (1, .int v1), (2, .int v2), (3, .int v3), (4, .int v4)] [] := by
  intro n
  induction n with
  | zero => intro h v0 v1 v2 v3 v4 hf; exact absurd hf (by simp [f_X11_readsRow_L36])
  | succ n ih =>
    intro h v0 v1 v2 v3 v4 hf
    unfold f_X11_readsRow_L36 at hf
    refine e_iload_n 3 dX11_readsRow_36 rfl rfl ?_
    refine e_iload_n 2 dX11_readsRow_37 rfl rfl ?_
    refine e_icmp_ge (t := 160) dX11_readsRow_38 (by decide) (fun c => ?_) (fun c => ?_)
    · replace hf := e_it c hf
      refine e_sub [0, 1, 3] rfl ?_
      exact hk160 _ _ _ _ hf
    · replace hf := e_ie c hf
      refine e_iload 4 dX11_readsRow_41 rfl ?_
      refine e_if_lt (t := 160) dX11_readsRow_43 (by decide) (fun c => ?_) (fun c => ?_)
      · replace hf := e_it c hf
        refine e_sub [0, 1, 3] rfl ?_
        exact hk160 _ _ _ _ hf
      · replace hf := e_ie c hf
        refine e_aload_n 0 dX11_readsRow_46 rfl rfl ?_
        refine e_dupR dX11_readsRow_47 ?_
        obtain ⟨hO5, hf⟩ := e_if hf
        refine e_getI hO5 fc_11_11 lk_RX11_129 dX11_readsRow_48 ?_
        refine e_iconst (v := 1) dX11_readsRow_51 (by decide) ?_
        refine e_iadd dX11_readsRow_52 ?_
        refine e_putI hO5 fc_11_11 rfl lk_RX11_129 dX11_readsRow_53 ?_
        refine e_iload_n 2 dX11_readsRow_56 rfl rfl ?_
        refine e_aload_n 0 dX11_readsRow_57 rfl rfl ?_
        refine e_getI hO5 fc_11_15 lk_RX11_165 dX11_readsRow_58 ?_
        refine e_icmp_eq (t := 68) dX11_readsRow_61 (by decide) (fun c => ?_) (fun c => ?_)
        · replace hf := e_it c hf
          refine e_aload_n 0 dX11_readsRow_68 rfl rfl ?_
          refine e_getI hO5 fc_11_15 lk_RX11_165 dX11_readsRow_69 ?_
          refine e_iload_n 1 dX11_readsRow_72 rfl rfl ?_
          refine e_imul dX11_readsRow_73 ?_
          refine e_iload_n 3 dX11_readsRow_74 rfl rfl ?_
          refine e_iadd dX11_readsRow_75 ?_
          refine e_goto (t := 80) dX11_readsRow_76 (by decide) ?_
          exact m_X11_readsRow_J80 hd ih hk160 _ _ _ _ _ _ _ hf
        · replace hf := e_ie c hf
          refine e_iload_n 1 dX11_readsRow_64 rfl rfl ?_
          refine e_if_le (t := 79) dX11_readsRow_65 (by decide) (fun c => ?_) (fun c => ?_)
          · replace hf := e_it c hf
            refine e_iload_n 3 dX11_readsRow_79 rfl rfl ?_
            exact m_X11_readsRow_J80 hd ih hk160 _ _ _ _ _ _ _ hf
          · replace hf := e_ie c hf
            refine e_aload_n 0 dX11_readsRow_68 rfl rfl ?_
            refine e_getI hO5 fc_11_15 lk_RX11_165 dX11_readsRow_69 ?_
            refine e_iload_n 1 dX11_readsRow_72 rfl rfl ?_
            refine e_imul dX11_readsRow_73 ?_
            refine e_iload_n 3 dX11_readsRow_74 rfl rfl ?_
            refine e_iadd dX11_readsRow_75 ?_
            refine e_goto (t := 80) dX11_readsRow_76 (by decide) ?_
            exact m_X11_readsRow_J80 hd ih hk160 _ _ _ _ _ _ _ hf
def f_X11_readsRow_J169 (L : eL) (h : eH) (v0 : Nat) (v3 : Int32) : Option (eH × Int32) :=
  if v3 ≤ 0 then
    some (h, 0)
  else
    if isO L v0 11 = true then
    if v3 = (gI h v0 15) then
      some (h, 1)
    else
      some (h, 0)
    else none
set_option maxRecDepth 100000 in
set_option maxHeartbeats 4000000 in
theorem m_X11_readsRow_J169 {l : Launch} {d : Nat} {L : eL}  {r : eH × Int32} (hd : 8 ≤ d)  : ∀ (h : eH) (v0 : Nat) (v3 : Int32), f_X11_readsRow_J169 L h v0 v3 = some r → E l yX11_readsRow cX11_readsRow 6 (some .boolean) (e_rm d 0 0) 0 0 true L (Qx (some (.int r.2)) L r.1) L h 0 0 169 [(0, .ref v0), (3, .int v3)] [] := by
  intro h v0 v3 hf
  unfold f_X11_readsRow_J169 at hf
  refine e_iload_n 1 dX11_readsRow_169 rfl rfl ?_
  refine e_if_le (t := 185) dX11_readsRow_170 (by decide) (fun c => ?_) (fun c => ?_)
  · replace hf := e_it c hf
    refine e_iconst (v := 0) dX11_readsRow_185 (by decide) ?_
    exact e_zret (ty := .boolean) rfl rfl dX11_readsRow_186 (qW hf)
  · replace hf := e_ie c hf
    refine e_iload_n 1 dX11_readsRow_173 rfl rfl ?_
    refine e_aload_n 0 dX11_readsRow_174 rfl rfl ?_
    obtain ⟨hO21, hf⟩ := e_if hf
    refine e_getI hO21 fc_11_15 lk_RX11_165 dX11_readsRow_175 ?_
    refine e_icmp_ne (t := 185) dX11_readsRow_178 (by decide) (fun c => ?_) (fun c => ?_)
    · replace hf := e_ie c hf
      refine e_iconst (v := 0) dX11_readsRow_185 (by decide) ?_
      exact e_zret (ty := .boolean) rfl rfl dX11_readsRow_186 (qW hf)
    · replace hf := e_it c hf
      refine e_iconst (v := 1) dX11_readsRow_181 (by decide) ?_
      refine e_goto (t := 186) dX11_readsRow_182 (by decide) ?_
      exact e_zret (ty := .boolean) rfl rfl dX11_readsRow_186 (qW hf)
def f_X11_readsRow_J13 (L : eL) (h : eH) (v0 : Nat) (v1 : Int32) (s0 : Int32) : Option (eH × Int32) :=
  if isO L v0 11 = true then
  if 0 ≤ (gI h v0 16) then
    (f_X11_among L h v0 (e_str + 1)).bind fun r3 =>
    f_X11_readsRow_L36 L e_fu (fun (h17 : eH) (w0_18 : Nat) (w1_19 : Int32) (w3_20 : Int32) =>
      if w1_19 = 0 then
        if isO L w0_18 11 = true then
        f_X11_readsRow_J169 L (sI h17 w0_18 15 w3_20) w0_18 w3_20
        else none
      else
        f_X11_readsRow_J169 L h17 w0_18 w3_20) h v0 v1 s0 0 r3
  else
    (f_X11_among L h v0 (e_str + 0)).bind fun r23 =>
    f_X11_readsRow_L36 L e_fu (fun (h25 : eH) (w0_26 : Nat) (w1_27 : Int32) (w3_28 : Int32) =>
      if w1_27 = 0 then
        if isO L w0_26 11 = true then
        f_X11_readsRow_J169 L (sI h25 w0_26 15 w3_28) w0_26 w3_28
        else none
      else
        f_X11_readsRow_J169 L h25 w0_26 w3_28) h v0 v1 s0 0 r23
  else none
set_option maxRecDepth 100000 in
set_option maxHeartbeats 4000000 in
theorem m_X11_readsRow_J13 {l : Launch} {d : Nat} {L : eL}  {r : eH × Int32} (hd : 8 ≤ d)  : ∀ (h : eH) (v0 : Nat) (v1 : Int32) (s0 : Int32), f_X11_readsRow_J13 L h v0 v1 s0 = some r → E l yX11_readsRow cX11_readsRow 6 (some .boolean) (e_rm d 0 0) 0 0 true L (Qx (some (.int r.2)) L r.1) L h 0 0 13 [(0, .ref v0), (1, .int v1)] [.int s0] := by
  intro h v0 v1 s0 hf
  unfold f_X11_readsRow_J13 at hf
  refine e_istore_n (lv' := [(2, .int _), (0, .ref _), (1, .int _)]) dX11_readsRow_13 rfl (by decide) rfl ?_
  refine e_iconst (v := 0) dX11_readsRow_14 (by decide) ?_
  refine e_istore_n (lv' := [(3, .int _), (2, .int _), (0, .ref _), (1, .int _)]) dX11_readsRow_15 rfl (by decide) rfl ?_
  refine e_aload_n 2 dX11_readsRow_16 rfl rfl ?_
  refine e_aload_n 2 dX11_readsRow_17 rfl rfl ?_
  obtain ⟨hO2, hf⟩ := e_if hf
  refine e_getI hO2 fc_11_16 lk_RX11_168 dX11_readsRow_18 ?_
  refine e_if_ge (t := 29) dX11_readsRow_21 (by decide) (fun c => ?_) (fun c => ?_)
  · replace hf := e_it c hf
    refine e_ldcS (j := 1) (by decide) dX11_readsRow_29 ?_
    obtain ⟨r3, hr4, hf⟩ := e_bd hf
    refine e_callV (st := []) ml_RX11_157 k_X11_among (m_X11_among (d := d - 1) (by omega) hr4) hO2 ⟨by decide, rfl⟩ rfl rfl (Nat.le_of_ble_eq_true rfl) ⟨by omega, by decide⟩ ⟨Nat.le_refl _, Nat.le_refl _⟩ dX11_readsRow_31 ?_
    refine e_istore (lv' := [(4, .int _), (3, .int _), (2, .int _), (0, .ref _), (1, .int _)]) dX11_readsRow_34 (by decide) rfl ?_
    refine e_sub [3, 4, 2, 1, 0] rfl ?_
    refine m_X11_readsRow_L36 hd ?_ e_fu _ _ _ _ _ _ hf
    · intro h17 w0_18 w1_19 w3_20 hf
      refine e_iload_n 1 dX11_readsRow_160 rfl rfl ?_
      refine e_if_ne (t := 169) dX11_readsRow_161 (by decide) (fun c => ?_) (fun c => ?_)
      · replace hf := e_ie c hf
        refine e_sub [0, 2] rfl ?_
        exact m_X11_readsRow_J169 hd _ _ _ hf
      · replace hf := e_it c hf
        refine e_aload_n 0 dX11_readsRow_164 rfl rfl ?_
        refine e_iload_n 2 dX11_readsRow_165 rfl rfl ?_
        obtain ⟨hO22, hf⟩ := e_if hf
        refine e_putI hO22 fc_11_15 rfl lk_RX11_165 dX11_readsRow_166 ?_
        refine e_sub [0, 2] rfl ?_
        exact m_X11_readsRow_J169 hd _ _ _ hf
  · replace hf := e_ie c hf
    refine e_ldcS (j := 0) (by decide) dX11_readsRow_24 ?_
    refine e_goto (t := 31) dX11_readsRow_26 (by decide) ?_
    obtain ⟨r23, hr24, hf⟩ := e_bd hf
    refine e_callV (st := []) ml_RX11_157 k_X11_among (m_X11_among (d := d - 1) (by omega) hr24) hO2 ⟨by decide, rfl⟩ rfl rfl (Nat.le_of_ble_eq_true rfl) ⟨by omega, by decide⟩ ⟨Nat.le_refl _, Nat.le_refl _⟩ dX11_readsRow_31 ?_
    refine e_istore (lv' := [(4, .int _), (3, .int _), (2, .int _), (0, .ref _), (1, .int _)]) dX11_readsRow_34 (by decide) rfl ?_
    refine e_sub [3, 4, 2, 1, 0] rfl ?_
    refine m_X11_readsRow_L36 hd ?_ e_fu _ _ _ _ _ _ hf
    · intro h25 w0_26 w1_27 w3_28 hf
      refine e_iload_n 1 dX11_readsRow_160 rfl rfl ?_
      refine e_if_ne (t := 169) dX11_readsRow_161 (by decide) (fun c => ?_) (fun c => ?_)
      · replace hf := e_ie c hf
        refine e_sub [0, 2] rfl ?_
        exact m_X11_readsRow_J169 hd _ _ _ hf
      · replace hf := e_it c hf
        refine e_aload_n 0 dX11_readsRow_164 rfl rfl ?_
        refine e_iload_n 2 dX11_readsRow_165 rfl rfl ?_
        obtain ⟨hO29, hf⟩ := e_if hf
        refine e_putI hO29 fc_11_15 rfl lk_RX11_165 dX11_readsRow_166 ?_
        refine e_sub [0, 2] rfl ?_
        exact m_X11_readsRow_J169 hd _ _ _ hf
def f_X11_readsRow (L : eL) (h : eH) (v0 : Nat) (v1 : Int32) : Option (eH × Int32) :=
  if v1 = 0 then
    f_X11_readsRow_J13 L h v0 v1 6
  else
    if isO L v0 11 = true then
    f_X11_readsRow_J13 L h v0 v1 (gI h v0 15)
    else none
set_option maxRecDepth 100000 in
set_option maxHeartbeats 4000000 in
theorem m_X11_readsRow {l : Launch} {d : Nat} {L : eL} {h : eH} {v0 : Nat} {v1 : Int32} {r : eH × Int32} (hd : 8 ≤ d) (hf : f_X11_readsRow L h v0 v1 = some r) : e_Met l yX11_readsRow cX11_readsRow 6 (some .boolean) d 0 0 true L h [.ref v0, .int v1] (Qx (some (.int r.2)) L r.1) := by
  refine e_metl (by decide) (Nat.le_of_ble_eq_true rfl) (lv := [(0, .ref v0), (1, .int v1)]) rfl ?_
  unfold f_X11_readsRow at hf
  refine e_iload_n 1 dX11_readsRow_0 rfl rfl ?_
  refine e_if_ne (t := 9) dX11_readsRow_1 (by decide) (fun c => ?_) (fun c => ?_)
  · replace hf := e_ie c hf
    refine e_aload_n 0 dX11_readsRow_9 rfl rfl ?_
    obtain ⟨hO1, hf⟩ := e_if hf
    refine e_getI hO1 fc_11_15 lk_RX11_165 dX11_readsRow_10 ?_
    exact m_X11_readsRow_J13 hd _ _ _ _ hf
  · replace hf := e_it c hf
    refine e_bipush (v := 6) dX11_readsRow_4 (by decide) ?_
    refine e_goto (t := 13) dX11_readsRow_6 (by decide) ?_
    exact m_X11_readsRow_J13 hd _ _ _ _ hf

def f_X11_readsRank_o_J96 (L : eL) (rec_X11_readsThing : eH → Nat → Option (eH × Int32)) (rec_X11_readsRank : eH → Nat → Int32 → Option (eH × Int32)) (k24 : eH → Nat → Int32 → Int32 → Option (eH × Int32)) (k58 : eH → Option (eH × Int32)) (k70 : eH → Option (eH × Int32)) (k113 : eH → Option (eH × Int32)) (h : eH) (v0 : Nat) (v1 : Int32) (s0 : Nat) (s1 : Int32) (s2 : Int32) : Option (eH × Int32) :=
  if isO L s0 11 = true then
  (f_X11_codes L h s0 (s1 + s2)).bind fun r11 =>
  if v1 ≤ 0 then
    k24 r11 v0 v1 0
  else
    k24 r11 v0 v1 1
  else none
set_option maxRecDepth 100000 in
set_option maxHeartbeats 4000000 in
theorem m_X11_readsRank_o_J96 {l : Launch} {d : Nat} {L : eL} {rec_X11_readsThing : eH → Nat → Option (eH × Int32)} {rec_X11_readsRank : eH → Nat → Int32 → Option (eH × Int32)} {r : eH × Int32} {k24 : eH → Nat → Int32 → Int32 → Option (eH × Int32)} {k58 : eH → Option (eH × Int32)} {k70 : eH → Option (eH × Int32)} {k113 : eH → Option (eH × Int32)} (hd : 9 ≤ d) (hrec_X11_readsThing : ∀ {h : eH} {a0 : Nat} {z : eH × Int32}, rec_X11_readsThing h a0 = some z → e_Met l yX11_readsThing cX11_readsThing 2 (some .boolean) (d - 1) 0 0 true L h [.ref a0] (Qx (some (.int z.2)) L z.1)) (hrec_X11_readsRank : ∀ {h : eH} {a0 : Nat} {a1 : Int32} {z : eH × Int32}, rec_X11_readsRank h a0 a1 = some z → e_Met l yX11_readsRank cX11_readsRank 4 (some .boolean) (d - 1) 0 0 true L h [.ref a0, .int a1] (Qx (some (.int z.2)) L z.1)) (hk24 : ∀ (h : eH) (v0 : Nat) (v1 : Int32) (v2 : Int32), k24 h v0 v1 v2 = some r → E l yX11_readsRank cX11_readsRank 4 (some .boolean) (e_rm d 0 0) 0 0 true L (Qx (some (.int r.2)) L r.1) L h 0 0 24 [(0, .ref v0), (1, .int v1), (2, .int v2)] []) (hk58 : ∀ (h : eH), k58 h = some r → E l yX11_readsRank cX11_readsRank 4 (some .boolean) (e_rm d 0 0) 0 0 true L (Qx (some (.int r.2)) L r.1) L h 0 0 58 [] []) (hk70 : ∀ (h : eH), k70 h = some r → E l yX11_readsRank cX11_readsRank 4 (some .boolean) (e_rm d 0 0) 0 0 true L (Qx (some (.int r.2)) L r.1) L h 0 0 70 [] []) (hk113 : ∀ (h : eH), k113 h = some r → E l yX11_readsRank cX11_readsRank 4 (some .boolean) (e_rm d 0 0) 0 0 true L (Qx (some (.int r.2)) L r.1) L h 0 0 113 [] []) : ∀ (h : eH) (v0 : Nat) (v1 : Int32) (s0 : Nat) (s1 : Int32) (s2 : Int32), f_X11_readsRank_o_J96 L rec_X11_readsThing rec_X11_readsRank k24 k58 k70 k113 h v0 v1 s0 s1 s2 = some r → E l yX11_readsRank cX11_readsRank 4 (some .boolean) (e_rm d 0 0) 0 0 true L (Qx (some (.int r.2)) L r.1) L h 0 0 96 [(0, .ref v0), (1, .int v1)] [.int s2, .int s1, .ref s0] := by
  intro h v0 v1 s0 s1 s2 hf
  unfold f_X11_readsRank_o_J96 at hf
  refine e_iadd dX11_readsRank_96 ?_
  obtain ⟨hO10, hf⟩ := e_if hf
  obtain ⟨r11, hr12, hf⟩ := e_bd hf
  refine e_callV (st := []) ml_RX11_198 k_X11_codes (m_X11_codes (d := d - 1) (by omega) hr12) hO10 ⟨by decide, rfl⟩ rfl rfl (Nat.le_of_ble_eq_true rfl) ⟨by omega, by decide⟩ ⟨Nat.le_refl _, Nat.le_refl _⟩ dX11_readsRank_97 ?_
  refine e_iload_n 1 dX11_readsRank_100 rfl rfl ?_
  refine e_if_le (t := 108) dX11_readsRank_101 (by decide) (fun c => ?_) (fun c => ?_)
  · replace hf := e_it c hf
    refine e_iconst (v := 0) dX11_readsRank_108 (by decide) ?_
    refine e_istore_n (lv' := [(2, .int _), (0, .ref _), (1, .int _)]) dX11_readsRank_109 rfl (by decide) rfl ?_
    refine e_goto (t := 24) dX11_readsRank_110 (by decide) ?_
    refine e_sub [1, 2, 0] rfl ?_
    exact hk24 _ _ _ _ hf
  · replace hf := e_ie c hf
    refine e_iconst (v := 1) dX11_readsRank_104 (by decide) ?_
    refine e_goto (t := 109) dX11_readsRank_105 (by decide) ?_
    refine e_istore_n (lv' := [(2, .int _), (0, .ref _), (1, .int _)]) dX11_readsRank_109 rfl (by decide) rfl ?_
    refine e_goto (t := 24) dX11_readsRank_110 (by decide) ?_
    refine e_sub [1, 2, 0] rfl ?_
    exact hk24 _ _ _ _ hf
def f_X11_readsRank_o_J50 (L : eL) (rec_X11_readsThing : eH → Nat → Option (eH × Int32)) (rec_X11_readsRank : eH → Nat → Int32 → Option (eH × Int32)) (k24 : eH → Nat → Int32 → Int32 → Option (eH × Int32)) (k58 : eH → Option (eH × Int32)) (k70 : eH → Option (eH × Int32)) (k113 : eH → Option (eH × Int32)) (h : eH) (v0 : Nat) (v1 : Int32) (s0 : Nat) (s1 : Nat) : Option (eH × Int32) :=
  if isO L s0 11 = true then
  (f_X11_takesOf L h s0 s1).bind fun r5 =>
  if 0 ≤ r5.2 then
    if isO L v0 11 = true then
    (rec_X11_readsRank r5.1 v0 (v1 + 1)).bind fun r8 =>
    if r8.2 = 0 then
      k70 r8.1
    else
      if v1 = 0 then
        f_X11_readsRank_o_J96 L rec_X11_readsThing rec_X11_readsRank k24 k58 k70 k113 r8.1 v0 v1 v0 (2000 + r5.2) 0
      else
        if v1 = 1 then
          f_X11_readsRank_o_J96 L rec_X11_readsThing rec_X11_readsRank k24 k58 k70 k113 r8.1 v0 v1 v0 (2000 + r5.2) 3
        else
          f_X11_readsRank_o_J96 L rec_X11_readsThing rec_X11_readsRank k24 k58 k70 k113 r8.1 v0 v1 v0 (2000 + r5.2) 5
    else none
  else
    k58 r5.1
  else none
set_option maxRecDepth 100000 in
set_option maxHeartbeats 4000000 in
theorem m_X11_readsRank_o_J50 {l : Launch} {d : Nat} {L : eL} {rec_X11_readsThing : eH → Nat → Option (eH × Int32)} {rec_X11_readsRank : eH → Nat → Int32 → Option (eH × Int32)} {r : eH × Int32} {k24 : eH → Nat → Int32 → Int32 → Option (eH × Int32)} {k58 : eH → Option (eH × Int32)} {k70 : eH → Option (eH × Int32)} {k113 : eH → Option (eH × Int32)} (hd : 9 ≤ d) (hrec_X11_readsThing : ∀ {h : eH} {a0 : Nat} {z : eH × Int32}, rec_X11_readsThing h a0 = some z → e_Met l yX11_readsThing cX11_readsThing 2 (some .boolean) (d - 1) 0 0 true L h [.ref a0] (Qx (some (.int z.2)) L z.1)) (hrec_X11_readsRank : ∀ {h : eH} {a0 : Nat} {a1 : Int32} {z : eH × Int32}, rec_X11_readsRank h a0 a1 = some z → e_Met l yX11_readsRank cX11_readsRank 4 (some .boolean) (d - 1) 0 0 true L h [.ref a0, .int a1] (Qx (some (.int z.2)) L z.1)) (hk24 : ∀ (h : eH) (v0 : Nat) (v1 : Int32) (v2 : Int32), k24 h v0 v1 v2 = some r → E l yX11_readsRank cX11_readsRank 4 (some .boolean) (e_rm d 0 0) 0 0 true L (Qx (some (.int r.2)) L r.1) L h 0 0 24 [(0, .ref v0), (1, .int v1), (2, .int v2)] []) (hk58 : ∀ (h : eH), k58 h = some r → E l yX11_readsRank cX11_readsRank 4 (some .boolean) (e_rm d 0 0) 0 0 true L (Qx (some (.int r.2)) L r.1) L h 0 0 58 [] []) (hk70 : ∀ (h : eH), k70 h = some r → E l yX11_readsRank cX11_readsRank 4 (some .boolean) (e_rm d 0 0) 0 0 true L (Qx (some (.int r.2)) L r.1) L h 0 0 70 [] []) (hk113 : ∀ (h : eH), k113 h = some r → E l yX11_readsRank cX11_readsRank 4 (some .boolean) (e_rm d 0 0) 0 0 true L (Qx (some (.int r.2)) L r.1) L h 0 0 113 [] []) : ∀ (h : eH) (v0 : Nat) (v1 : Int32) (s0 : Nat) (s1 : Nat), f_X11_readsRank_o_J50 L rec_X11_readsThing rec_X11_readsRank k24 k58 k70 k113 h v0 v1 s0 s1 = some r → E l yX11_readsRank cX11_readsRank 4 (some .boolean) (e_rm d 0 0) 0 0 true L (Qx (some (.int r.2)) L r.1) L h 0 0 50 [(0, .ref v0), (1, .int v1)] [.ref s1, .ref s0] := by
  intro h v0 v1 s0 s1 hf
  unfold f_X11_readsRank_o_J50 at hf
  obtain ⟨hO4, hf⟩ := e_if hf
  obtain ⟨r5, hr6, hf⟩ := e_bd hf
  refine e_callV (st := []) ml_RX11_207 k_X11_takesOf (m_X11_takesOf (d := d - 1) (by omega) hr6) hO4 ⟨by decide, rfl⟩ rfl rfl (Nat.le_of_ble_eq_true rfl) ⟨by omega, by decide⟩ ⟨Nat.le_refl _, Nat.le_refl _⟩ dX11_readsRank_50 ?_
  refine e_istore_n (lv' := [(3, .int _), (0, .ref _), (1, .int _)]) dX11_readsRank_53 rfl (by decide) rfl ?_
  refine e_iload_n 0 dX11_readsRank_54 rfl rfl ?_
  refine e_if_ge (t := 60) dX11_readsRank_55 (by decide) (fun c => ?_) (fun c => ?_)
  · replace hf := e_it c hf
    refine e_aload_n 1 dX11_readsRank_60 rfl rfl ?_
    refine e_iload_n 2 dX11_readsRank_61 rfl rfl ?_
    refine e_iconst (v := 1) dX11_readsRank_62 (by decide) ?_
    refine e_iadd dX11_readsRank_63 ?_
    obtain ⟨hO7, hf⟩ := e_if hf
    obtain ⟨r8, hr9, hf⟩ := e_bd hf
    refine e_callV (st := []) ml_RX11_210 k_X11_readsRank (hrec_X11_readsRank hr9) hO7 ⟨by decide, rfl⟩ rfl rfl (Nat.le_of_ble_eq_true rfl) ⟨by omega, by decide⟩ ⟨Nat.le_refl _, Nat.le_refl _⟩ dX11_readsRank_64 ?_
    refine e_if_ne (t := 72) dX11_readsRank_67 (by decide) (fun c => ?_) (fun c => ?_)
    · replace hf := e_ie c hf
      refine e_aload_n 1 dX11_readsRank_72 rfl rfl ?_
      refine e_sipush (v := 2000) dX11_readsRank_73 (by decide) ?_
      refine e_iload_n 0 dX11_readsRank_76 rfl rfl ?_
      refine e_iadd dX11_readsRank_77 ?_
      refine e_iload_n 2 dX11_readsRank_78 rfl rfl ?_
      refine e_if_ne (t := 86) dX11_readsRank_79 (by decide) (fun c => ?_) (fun c => ?_)
      · replace hf := e_ie c hf
        refine e_iload_n 2 dX11_readsRank_86 rfl rfl ?_
        refine e_iconst (v := 1) dX11_readsRank_87 (by decide) ?_
        refine e_icmp_ne (t := 95) dX11_readsRank_88 (by decide) (fun c => ?_) (fun c => ?_)
        · replace hf := e_ie c hf
          refine e_iconst (v := 5) dX11_readsRank_95 (by decide) ?_
          refine e_sub [1, 2] rfl ?_
          exact m_X11_readsRank_o_J96 hd hrec_X11_readsThing hrec_X11_readsRank hk24 hk58 hk70 hk113 _ _ _ _ _ _ hf
        · replace hf := e_it c hf
          refine e_iconst (v := 3) dX11_readsRank_91 (by decide) ?_
          refine e_goto (t := 96) dX11_readsRank_92 (by decide) ?_
          refine e_sub [1, 2] rfl ?_
          exact m_X11_readsRank_o_J96 hd hrec_X11_readsThing hrec_X11_readsRank hk24 hk58 hk70 hk113 _ _ _ _ _ _ hf
      · replace hf := e_it c hf
        refine e_iconst (v := 0) dX11_readsRank_82 (by decide) ?_
        refine e_goto (t := 96) dX11_readsRank_83 (by decide) ?_
        refine e_sub [1, 2] rfl ?_
        exact m_X11_readsRank_o_J96 hd hrec_X11_readsThing hrec_X11_readsRank hk24 hk58 hk70 hk113 _ _ _ _ _ _ hf
    · replace hf := e_it c hf
      refine e_sub [] rfl ?_
      exact hk70 _ hf
  · replace hf := e_ie c hf
    refine e_sub [] rfl ?_
    exact hk58 _ hf
def f_X11_readsRank_o_L24 (L : eL) (rec_X11_readsThing : eH → Nat → Option (eH × Int32)) (rec_X11_readsRank : eH → Nat → Int32 → Option (eH × Int32)) : Nat → (eH → Option (eH × Int32)) → (eH → Option (eH × Int32)) → (eH → Option (eH × Int32)) → eH → Nat → Int32 → Int32 → Option (eH × Int32)
  | 0, _, _, _, _, _, _, _ => none
  | n + 1, k58, k70, k113, h, v0, v1, v2 =>
    if v2 = 0 then
      k113 h
    else
      if v1 = 0 then
        f_X11_readsRank_o_J50 L rec_X11_readsThing rec_X11_readsRank (f_X11_readsRank_o_L24 L rec_X11_readsThing rec_X11_readsRank n k58 k70 k113) k58 k70 k113 h v0 v1 v0 (e_str + 3)
      else
        if v1 = 1 then
          f_X11_readsRank_o_J50 L rec_X11_readsThing rec_X11_readsRank (f_X11_readsRank_o_L24 L rec_X11_readsThing rec_X11_readsRank n k58 k70 k113) k58 k70 k113 h v0 v1 v0 (e_str + 4)
        else
          f_X11_readsRank_o_J50 L rec_X11_readsThing rec_X11_readsRank (f_X11_readsRank_o_L24 L rec_X11_readsThing rec_X11_readsRank n k58 k70 k113) k58 k70 k113 h v0 v1 v0 (e_str + 5)
set_option maxRecDepth 100000 in
set_option maxHeartbeats 4000000 in
theorem m_X11_readsRank_o_L24 {l : Launch} {d : Nat} {L : eL} {rec_X11_readsThing : eH → Nat → Option (eH × Int32)} {rec_X11_readsRank : eH → Nat → Int32 → Option (eH × Int32)} {r : eH × Int32} {k58 : eH → Option (eH × Int32)} {k70 : eH → Option (eH × Int32)} {k113 : eH → Option (eH × Int32)} (hd : 9 ≤ d) (hrec_X11_readsThing : ∀ {h : eH} {a0 : Nat} {z : eH × Int32}, rec_X11_readsThing h a0 = some z → e_Met l yX11_readsThing cX11_readsThing 2 (some .boolean) (d - 1) 0 0 true L h [.ref a0] (Qx (some (.int z.2)) L z.1)) (hrec_X11_readsRank : ∀ {h : eH} {a0 : Nat} {a1 : Int32} {z : eH × Int32}, rec_X11_readsRank h a0 a1 = some z → e_Met l yX11_readsRank cX11_readsRank 4 (some .boolean) (d - 1) 0 0 true L h [.ref a0, .int a1] (Qx (some (.int z.2)) L z.1)) (hk58 : ∀ (h : eH), k58 h = some r → E l yX11_readsRank cX11_readsRank 4 (some .boolean) (e_rm d 0 0) 0 0 true L (Qx (some (.int r.2)) L r.1) L h 0 0 58 [] []) (hk70 : ∀ (h : eH), k70 h = some r → E l yX11_readsRank cX11_readsRank 4 (some .boolean) (e_rm d 0 0) 0 0 true L (Qx (some (.int r.2)) L r.1) L h 0 0 70 [] []) (hk113 : ∀ (h : eH), k113 h = some r → E l yX11_readsRank cX11_readsRank 4 (some .boolean) (e_rm d 0 0) 0 0 true L (Qx (some (.int r.2)) L r.1) L h 0 0 113 [] []) : ∀ (n : Nat) (h : eH) (v0 : Nat) (v1 : Int32) (v2 : Int32), f_X11_readsRank_o_L24 L rec_X11_readsThing rec_X11_readsRank n k58 k70 k113 h v0 v1 v2 = some r → E l yX11_readsRank cX11_readsRank 4 (some .boolean) (e_rm d 0 0) 0 0 true L (Qx (some (.int r.2)) L r.1) L h 0 0 24 [(0, .ref v0), (1, .int v1), (2, .int v2)] [] := by
  intro n
  induction n with
  | zero => intro h v0 v1 v2 hf; exact absurd hf (by simp [f_X11_readsRank_o_L24])
  | succ n ih =>
    intro h v0 v1 v2 hf
    unfold f_X11_readsRank_o_L24 at hf
    refine e_iload_n 2 dX11_readsRank_24 rfl rfl ?_
    refine e_if_eq (t := 113) dX11_readsRank_25 (by decide) (fun c => ?_) (fun c => ?_)
    · replace hf := e_it c hf
      refine e_sub [] rfl ?_
      exact hk113 _ hf
    · replace hf := e_ie c hf
      refine e_aload_n 0 dX11_readsRank_28 rfl rfl ?_
      refine e_iload_n 1 dX11_readsRank_29 rfl rfl ?_
      refine e_if_ne (t := 38) dX11_readsRank_30 (by decide) (fun c => ?_) (fun c => ?_)
      · replace hf := e_ie c hf
        refine e_iload_n 1 dX11_readsRank_38 rfl rfl ?_
        refine e_iconst (v := 1) dX11_readsRank_39 (by decide) ?_
        refine e_icmp_ne (t := 48) dX11_readsRank_40 (by decide) (fun c => ?_) (fun c => ?_)
        · replace hf := e_ie c hf
          refine e_ldcS (j := 5) (by decide) dX11_readsRank_48 ?_
          refine e_sub [0, 1] rfl ?_
          exact m_X11_readsRank_o_J50 hd hrec_X11_readsThing hrec_X11_readsRank ih hk58 hk70 hk113 _ _ _ _ _ hf
        · replace hf := e_it c hf
          refine e_ldcS (j := 4) (by decide) dX11_readsRank_43 ?_
          refine e_goto (t := 50) dX11_readsRank_45 (by decide) ?_
          refine e_sub [0, 1] rfl ?_
          exact m_X11_readsRank_o_J50 hd hrec_X11_readsThing hrec_X11_readsRank ih hk58 hk70 hk113 _ _ _ _ _ hf
      · replace hf := e_it c hf
        refine e_ldcS (j := 3) (by decide) dX11_readsRank_33 ?_
        refine e_goto (t := 50) dX11_readsRank_35 (by decide) ?_
        refine e_sub [0, 1] rfl ?_
        exact m_X11_readsRank_o_J50 hd hrec_X11_readsThing hrec_X11_readsRank ih hk58 hk70 hk113 _ _ _ _ _ hf
def f_X11_readsRank_o (L : eL) (rec_X11_readsThing : eH → Nat → Option (eH × Int32)) (rec_X11_readsRank : eH → Nat → Int32 → Option (eH × Int32)) (h : eH) (v0 : Nat) (v1 : Int32) : Option (eH × Int32) :=
  if v1 = 3 then
    if isO L v0 11 = true then
    (rec_X11_readsThing h v0).bind fun r17 =>
    if isB r17.2 = true then
    some (r17.1, r17.2)
    else none
    else none
  else
    if isO L v0 11 = true then
    (rec_X11_readsRank h v0 (v1 + 1)).bind fun r2 =>
    if r2.2 = 0 then
      some (r2.1, 0)
    else
      f_X11_readsRank_o_L24 L rec_X11_readsThing rec_X11_readsRank e_fu (fun (h13 : eH) =>
        some (h13, 1)) (fun (h14 : eH) =>
        some (h14, 0)) (fun (h15 : eH) =>
        some (h15, 1)) r2.1 v0 v1 1
    else none
set_option maxRecDepth 100000 in
set_option maxHeartbeats 4000000 in
theorem m_X11_readsRank_o {l : Launch} {d : Nat} {L : eL} {h : eH} {rec_X11_readsThing : eH → Nat → Option (eH × Int32)} {rec_X11_readsRank : eH → Nat → Int32 → Option (eH × Int32)} {v0 : Nat} {v1 : Int32} {r : eH × Int32} (hd : 9 ≤ d) (hrec_X11_readsThing : ∀ {h : eH} {a0 : Nat} {z : eH × Int32}, rec_X11_readsThing h a0 = some z → e_Met l yX11_readsThing cX11_readsThing 2 (some .boolean) (d - 1) 0 0 true L h [.ref a0] (Qx (some (.int z.2)) L z.1)) (hrec_X11_readsRank : ∀ {h : eH} {a0 : Nat} {a1 : Int32} {z : eH × Int32}, rec_X11_readsRank h a0 a1 = some z → e_Met l yX11_readsRank cX11_readsRank 4 (some .boolean) (d - 1) 0 0 true L h [.ref a0, .int a1] (Qx (some (.int z.2)) L z.1)) (hf : f_X11_readsRank_o L rec_X11_readsThing rec_X11_readsRank h v0 v1 = some r) : e_Met l yX11_readsRank cX11_readsRank 4 (some .boolean) d 0 0 true L h [.ref v0, .int v1] (Qx (some (.int r.2)) L r.1) := by
  refine e_metl (by decide) (Nat.le_of_ble_eq_true rfl) (lv := [(0, .ref v0), (1, .int v1)]) rfl ?_
  unfold f_X11_readsRank_o at hf
  refine e_iload_n 1 dX11_readsRank_0 rfl rfl ?_
  refine e_iconst (v := 3) dX11_readsRank_1 (by decide) ?_
  refine e_icmp_ne (t := 10) dX11_readsRank_2 (by decide) (fun c => ?_) (fun c => ?_)
  · replace hf := e_ie c hf
    refine e_aload_n 0 dX11_readsRank_10 rfl rfl ?_
    refine e_iload_n 1 dX11_readsRank_11 rfl rfl ?_
    refine e_iconst (v := 1) dX11_readsRank_12 (by decide) ?_
    refine e_iadd dX11_readsRank_13 ?_
    obtain ⟨hO1, hf⟩ := e_if hf
    obtain ⟨r2, hr3, hf⟩ := e_bd hf
    refine e_callV (st := []) ml_RX11_210 k_X11_readsRank (hrec_X11_readsRank hr3) hO1 ⟨by decide, rfl⟩ rfl rfl (Nat.le_of_ble_eq_true rfl) ⟨by omega, by decide⟩ ⟨Nat.le_refl _, Nat.le_refl _⟩ dX11_readsRank_14 ?_
    refine e_if_ne (t := 22) dX11_readsRank_17 (by decide) (fun c => ?_) (fun c => ?_)
    · replace hf := e_ie c hf
      refine e_iconst (v := 1) dX11_readsRank_22 (by decide) ?_
      refine e_istore_n (lv' := [(2, .int _), (0, .ref _), (1, .int _)]) dX11_readsRank_23 rfl (by decide) rfl ?_
      refine e_sub [1, 2, 0] rfl ?_
      refine m_X11_readsRank_o_L24 hd hrec_X11_readsThing hrec_X11_readsRank ?_ ?_ ?_ e_fu _ _ _ _ hf
      · intro h13 hf
        refine e_iconst (v := 1) dX11_readsRank_58 (by decide) ?_
        exact e_zret (ty := .boolean) rfl rfl dX11_readsRank_59 (qW hf)
      · intro h14 hf
        refine e_iconst (v := 0) dX11_readsRank_70 (by decide) ?_
        exact e_zret (ty := .boolean) rfl rfl dX11_readsRank_71 (qW hf)
      · intro h15 hf
        refine e_iconst (v := 1) dX11_readsRank_113 (by decide) ?_
        exact e_zret (ty := .boolean) rfl rfl dX11_readsRank_114 (qW hf)
    · replace hf := e_it c hf
      refine e_iconst (v := 0) dX11_readsRank_20 (by decide) ?_
      exact e_zret (ty := .boolean) rfl rfl dX11_readsRank_21 (qW hf)
  · replace hf := e_it c hf
    refine e_aload_n 0 dX11_readsRank_5 rfl rfl ?_
    obtain ⟨hO16, hf⟩ := e_if hf
    obtain ⟨r17, hr18, hf⟩ := e_bd hf
    refine e_callV (st := []) ml_RX11_195 k_X11_readsThing (hrec_X11_readsThing hr18) hO16 ⟨by decide, rfl⟩ rfl rfl (Nat.le_of_ble_eq_true rfl) ⟨by omega, by decide⟩ ⟨Nat.le_refl _, Nat.le_refl _⟩ dX11_readsRank_6 ?_
    obtain ⟨hB19, hf⟩ := e_if hf
    exact e_zret (ty := .boolean) rfl (isB_n hB19) dX11_readsRank_9 (qW hf)
def fg_X11_readsRank (L : eL) : Nat → Nat → eH → Nat → Int32 → Option (eH × Int32)
  | 0, _, _, _, _ => none
  | n + 1, t, h, x0, x1 =>
    if t = 0 then f_X11_readsRank_o L (fun h y0 => fg_X11_readsRank L n 1 h y0 0) (fun h y0 y1 => fg_X11_readsRank L n 0 h y0 y1) h x0 x1
    else f_X11_readsThing_o L (fun h y0 => fg_X11_readsRank L n 1 h y0 0) (fun h y0 y1 => fg_X11_readsRank L n 0 h y0 y1) h x0
theorem mg_X11_readsRank {l : Launch} {L : eL} : ∀ (n d : Nat), 9 + n ≤ d → ∀ (t : Nat) (h : eH) (x0 : Nat) (x1 : Int32) (r : eH × Int32), fg_X11_readsRank L n t h x0 x1 = some r → (t = 0 → e_Met l yX11_readsRank cX11_readsRank 4 (some .boolean) d 0 0 true L h [.ref x0, .int x1] (Qx (some (.int r.2)) L r.1)) ∧ (t ≠ 0 → e_Met l yX11_readsThing cX11_readsThing 2 (some .boolean) d 0 0 true L h [.ref x0] (Qx (some (.int r.2)) L r.1)) := by
  intro n
  induction n with
  | zero => intro d hd t h x0 x1 r hf; exact absurd hf (by simp [fg_X11_readsRank])
  | succ n ih =>
    intro d hd t h x0 x1 r hf
    unfold fg_X11_readsRank at hf
    refine ⟨?_, ?_⟩
    · intro ht
      subst ht
      exact m_X11_readsRank_o (by omega) (fun hz => (ih (d - 1) (by omega) 1 _ _ _ _ hz).2 (by decide)) (fun hz => (ih (d - 1) (by omega) 0 _ _ _ _ hz).1 (rfl)) (by simpa using hf)
    · intro ht
      exact m_X11_readsThing_o (by omega) (fun hz => (ih (d - 1) (by omega) 1 _ _ _ _ hz).2 (by decide)) (fun hz => (ih (d - 1) (by omega) 0 _ _ _ _ hz).1 (rfl)) (by simpa [ht] using hf)
def f_X11_readsRank (L : eL) (h : eH) (x0 : Nat) (x1 : Int32) : Option (eH × Int32) := fg_X11_readsRank L 100 0 h x0 x1
theorem m_X11_readsRank {l : Launch} {d : Nat} {L : eL} {h : eH} {x0 : Nat} {x1 : Int32} {r : eH × Int32} (hd : 109 ≤ d) (hf : f_X11_readsRank L h x0 x1 = some r) : e_Met l yX11_readsRank cX11_readsRank 4 (some .boolean) d 0 0 true L h [.ref x0, .int x1] (Qx (some (.int r.2)) L r.1) := (mg_X11_readsRank 100 d (by omega) 0 h x0 x1 r hf).1 (rfl)
def f_X11_readsThing (L : eL) (h : eH) (x0 : Nat) : Option (eH × Int32) := fg_X11_readsRank L 100 1 h x0 0
theorem m_X11_readsThing {l : Launch} {d : Nat} {L : eL} {h : eH} {x0 : Nat} {r : eH × Int32} (hd : 109 ≤ d) (hf : f_X11_readsThing L h x0 = some r) : e_Met l yX11_readsThing cX11_readsThing 2 (some .boolean) d 0 0 true L h [.ref x0] (Qx (some (.int r.2)) L r.1) := (mg_X11_readsRank 100 d (by omega) 1 h x0 0 r hf).2 (by decide)
def f_X11_rule_L61 (L : eL) : Nat → (eH → Option (eH × Int32)) → eH → Nat → Int32 → Option (eH × Int32)
  | 0, _, _, _, _ => none
  | n + 1, k90, h, v0, v4 =>
    if isO L v0 11 = true then
    if (gI h v0 20) ≤ v4 then
      k90 h
    else
      (gR h v0 17).bind fun b8 =>
      (gR h v0 18).bind fun b10 =>
      if inA L b10 0 v4 = true then
      if inA L b8 0 v4 = true then
      (some (sI h b8 v4.toNatClampNeg (gI h b10 v4.toNatClampNeg))).bind fun h14 =>
      f_X11_rule_L61 L n k90 h14 v0 (v4 + Int32.ofInt 1)
      else none
      else none
    else none
set_option maxRecDepth 100000 in
set_option maxHeartbeats 4000000 in
theorem m_X11_rule_L61 {l : Launch} {d : Nat} {L : eL}  {r : eH × Int32} {k90 : eH → Option (eH × Int32)} (hd : 110 ≤ d) (hk90 : ∀ (h : eH), k90 h = some r → E l yX11_rule cX11_rule 5 (some .int) (e_rm d 0 0) 0 0 true L (Qx (some (.int r.2)) L r.1) L h 0 0 90 [] []) : ∀ (n : Nat) (h : eH) (v0 : Nat) (v4 : Int32), f_X11_rule_L61 L n k90 h v0 v4 = some r → E l yX11_rule cX11_rule 5 (some .int) (e_rm d 0 0) 0 0 true L (Qx (some (.int r.2)) L r.1) L h 0 0 61 [(0, .ref v0), (4, .int v4)] [] := by
  intro n
  induction n with
  | zero => intro h v0 v4 hf; exact absurd hf (by simp [f_X11_rule_L61])
  | succ n ih =>
    intro h v0 v4 hf
    unfold f_X11_rule_L61 at hf
    refine e_iload 1 dX11_rule_61 rfl ?_
    refine e_aload_n 0 dX11_rule_63 rfl rfl ?_
    obtain ⟨hO7, hf⟩ := e_if hf
    refine e_getI hO7 fc_11_20 lk_RX11_192 dX11_rule_64 ?_
    refine e_icmp_ge (t := 90) dX11_rule_67 (by decide) (fun c => ?_) (fun c => ?_)
    · replace hf := e_it c hf
      refine e_sub [] rfl ?_
      exact hk90 _ hf
    · replace hf := e_ie c hf
      refine e_aload_n 0 dX11_rule_70 rfl rfl ?_
      obtain ⟨b8, hb9, hf⟩ := e_bd hf
      refine e_getR hO7 fc_11_17 lk_RX11_53 dX11_rule_71 hb9 ?_
      refine e_iload 1 dX11_rule_74 rfl ?_
      refine e_aload_n 0 dX11_rule_76 rfl rfl ?_
      obtain ⟨b10, hb11, hf⟩ := e_bd hf
      refine e_getR hO7 fc_11_18 lk_RX11_56 dX11_rule_77 hb11 ?_
      refine e_iload 1 dX11_rule_80 rfl ?_
      obtain ⟨hI12, hf⟩ := e_if hf
      refine e_iald hI12 dX11_rule_82 ?_
      obtain ⟨hI13, hf⟩ := e_if hf
      refine e_iast hI13 dX11_rule_83 ?_
      obtain ⟨h14, hh15, hf⟩ := e_bd hf
      refine e_hn hh15 ?_
      refine e_iinc (lv' := [(4, .int _), (0, .ref _)]) 1 dX11_rule_84 rfl (by decide) rfl ?_
      refine e_goto (t := 61) dX11_rule_87 (by decide) ?_
      refine e_sub [1, 0] rfl ?_
      exact ih _ _ _ hf
def f_X11_rule_J34 (L : eL) (h : eH) (v0 : Nat) (v1 : Int32) (s0 : Int32) : Option (eH × Int32) :=
  if isO L v0 11 = true then
  (f_X11_faultOf L h v0 v1 40 s0).bind fun r5 =>
  if 0 ≤ r5 then
    f_X11_rule_L61 L e_fu (fun (h16 : eH) =>
      some (h16, 0)) (sI h v0 19 (gI h v0 20)) v0 0
  else
    some (h, r5)
  else none
set_option maxRecDepth 100000 in
set_option maxHeartbeats 4000000 in
theorem m_X11_rule_J34 {l : Launch} {d : Nat} {L : eL}  {r : eH × Int32} (hd : 110 ≤ d)  : ∀ (h : eH) (v0 : Nat) (v1 : Int32) (s0 : Int32), f_X11_rule_J34 L h v0 v1 s0 = some r → E l yX11_rule cX11_rule 5 (some .int) (e_rm d 0 0) 0 0 true L (Qx (some (.int r.2)) L r.1) L h 0 0 34 [(0, .ref v0), (1, .int v1)] [.int s0] := by
  intro h v0 v1 s0 hf
  unfold f_X11_rule_J34 at hf
  refine e_istore_n (lv' := [(2, .int _), (0, .ref _), (1, .int _)]) dX11_rule_34 rfl (by decide) rfl ?_
  refine e_aload_n 1 dX11_rule_35 rfl rfl ?_
  refine e_iload_n 2 dX11_rule_36 rfl rfl ?_
  refine e_bipush (v := 40) dX11_rule_37 (by decide) ?_
  refine e_iload_n 0 dX11_rule_39 rfl rfl ?_
  obtain ⟨hO4, hf⟩ := e_if hf
  obtain ⟨r5, hr6, hf⟩ := e_bd hf
  refine e_callV (st := []) ml_RX11_219 k_X11_faultOf (m_X11_faultOf (d := d - 1) (by omega) hr6) hO4 ⟨by decide, rfl⟩ rfl rfl (Nat.le_of_ble_eq_true rfl) ⟨by omega, by decide⟩ ⟨Nat.le_refl _, Nat.le_refl _⟩ dX11_rule_40 ?_
  refine e_istore_n (lv' := [(3, .int _), (2, .int _), (0, .ref _), (1, .int _)]) dX11_rule_43 rfl (by decide) rfl ?_
  refine e_iload_n 0 dX11_rule_44 rfl rfl ?_
  refine e_if_ge (t := 50) dX11_rule_45 (by decide) (fun c => ?_) (fun c => ?_)
  · replace hf := e_it c hf
    refine e_aload_n 2 dX11_rule_50 rfl rfl ?_
    refine e_aload_n 2 dX11_rule_51 rfl rfl ?_
    refine e_getI hO4 fc_11_20 lk_RX11_192 dX11_rule_52 ?_
    refine e_putI hO4 fc_11_19 rfl lk_RX11_223 dX11_rule_55 ?_
    refine e_iconst (v := 0) dX11_rule_58 (by decide) ?_
    refine e_istore (lv' := [(4, .int _), (3, .int _), (2, .int _), (0, .ref _), (1, .int _)]) dX11_rule_59 (by decide) rfl ?_
    refine e_sub [3, 0] rfl ?_
    refine m_X11_rule_L61 hd ?_ e_fu _ _ _ hf
    · intro h16 hf
      refine e_iconst (v := 0) dX11_rule_90 (by decide) ?_
      exact e_iret rfl dX11_rule_91 (qW hf)
  · replace hf := e_ie c hf
    refine e_iload_n 0 dX11_rule_48 rfl rfl ?_
    exact e_iret rfl dX11_rule_49 (qW hf)
def f_X11_rule (L : eL) (h : eH) (v0 : Nat) : Option (eH × Int32) :=
  if isO L v0 11 = true then
  (f_X11_begins L (sI h v0 0 0) v0 40).bind fun r2 =>
  if r2.2 = 0 then
    f_X11_rule_J34 L (sI r2.1 v0 20 0) v0 r2.2 1
  else
    (f_X11_readsRank L (sI r2.1 v0 20 0) v0 0).bind fun r17 =>
    if r17.2 = 0 then
      f_X11_rule_J34 L r17.1 v0 r2.2 0
    else
      f_X11_rule_J34 L r17.1 v0 r2.2 1
  else none
set_option maxRecDepth 100000 in
set_option maxHeartbeats 4000000 in
theorem m_X11_rule {l : Launch} {d : Nat} {L : eL} {h : eH} {v0 : Nat} {r : eH × Int32} (hd : 110 ≤ d) (hf : f_X11_rule L h v0 = some r) : e_Met l yX11_rule cX11_rule 5 (some .int) d 0 0 true L h [.ref v0] (Qx (some (.int r.2)) L r.1) := by
  refine e_metl (by decide) (Nat.le_of_ble_eq_true rfl) (lv := [(0, .ref v0)]) rfl ?_
  unfold f_X11_rule at hf
  refine e_aload_n 0 dX11_rule_0 rfl rfl ?_
  refine e_iconst (v := 0) dX11_rule_1 (by decide) ?_
  obtain ⟨hO1, hf⟩ := e_if hf
  refine e_putI hO1 fc_11_0 rfl lk_RX11_3 dX11_rule_2 ?_
  refine e_aload_n 0 dX11_rule_5 rfl rfl ?_
  refine e_bipush (v := 40) dX11_rule_6 (by decide) ?_
  obtain ⟨r2, hr3, hf⟩ := e_bd hf
  refine e_callV (st := []) ml_RX11_175 k_X11_begins (m_X11_begins (d := d - 1) (by omega) hr3) hO1 ⟨by decide, rfl⟩ rfl rfl (Nat.le_of_ble_eq_true rfl) ⟨by omega, by decide⟩ ⟨Nat.le_refl _, Nat.le_refl _⟩ dX11_rule_8 ?_
  refine e_istore_n (lv' := [(1, .int _), (0, .ref _)]) dX11_rule_11 rfl (by decide) rfl ?_
  refine e_aload_n 1 dX11_rule_12 rfl rfl ?_
  refine e_iconst (v := 0) dX11_rule_13 (by decide) ?_
  refine e_putI hO1 fc_11_20 rfl lk_RX11_192 dX11_rule_14 ?_
  refine e_iload_n 0 dX11_rule_17 rfl rfl ?_
  refine e_if_eq (t := 29) dX11_rule_18 (by decide) (fun c => ?_) (fun c => ?_)
  · replace hf := e_it c hf
    refine e_iconst (v := 1) dX11_rule_29 (by decide) ?_
    refine e_goto (t := 34) dX11_rule_30 (by decide) ?_
    refine e_sub [1, 0] rfl ?_
    exact m_X11_rule_J34 hd _ _ _ _ hf
  · replace hf := e_ie c hf
    refine e_aload_n 1 dX11_rule_21 rfl rfl ?_
    refine e_iconst (v := 0) dX11_rule_22 (by decide) ?_
    obtain ⟨r17, hr18, hf⟩ := e_bd hf
    refine e_callV (st := []) ml_RX11_210 k_X11_readsRank (m_X11_readsRank (d := d - 1) (by omega) hr18) hO1 ⟨by decide, rfl⟩ rfl rfl (Nat.le_of_ble_eq_true rfl) ⟨by omega, by decide⟩ ⟨Nat.le_refl _, Nat.le_refl _⟩ dX11_rule_23 ?_
    refine e_if_eq (t := 33) dX11_rule_26 (by decide) (fun c => ?_) (fun c => ?_)
    · replace hf := e_it c hf
      refine e_iconst (v := 0) dX11_rule_33 (by decide) ?_
      refine e_sub [1, 0] rfl ?_
      exact m_X11_rule_J34 hd _ _ _ _ hf
    · replace hf := e_ie c hf
      refine e_iconst (v := 1) dX11_rule_29 (by decide) ?_
      refine e_goto (t := 34) dX11_rule_30 (by decide) ?_
      refine e_sub [1, 0] rfl ?_
      exact m_X11_rule_J34 hd _ _ _ _ hf
def f_X11_readsAct_J133 (L : eL) (h : eH) (v0 : Nat) (v1 : Int32) (v2 : Int32) (s0 : Int32) : Option (eH × Int32) :=
  if isO L v0 11 = true then
  (gR h v0 27).bind fun b20 =>
  if inA L b20 0 v1 = true then
  if s0 < 0 then
    some (sI h b20 v1.toNatClampNeg ((10 * v2) + s0), 0)
  else
    some (sI h b20 v1.toNatClampNeg ((10 * v2) + s0), 1)
  else none
  else none
set_option maxRecDepth 100000 in
set_option maxHeartbeats 4000000 in
theorem m_X11_readsAct_J133 {l : Launch} {d : Nat} {L : eL}  {r : eH × Int32} (hd : 9 ≤ d)  : ∀ (h : eH) (v0 : Nat) (v1 : Int32) (v2 : Int32) (s0 : Int32), f_X11_readsAct_J133 L h v0 v1 v2 s0 = some r → E l yX11_readsAct cX11_readsAct 4 (some .boolean) (e_rm d 0 0) 0 0 true L (Qx (some (.int r.2)) L r.1) L h 0 0 133 [(0, .ref v0), (1, .int v1), (2, .int v2)] [.int s0] := by
  intro h v0 v1 v2 s0 hf
  unfold f_X11_readsAct_J133 at hf
  refine e_istore_n (lv' := [(3, .int _), (0, .ref _), (1, .int _), (2, .int _)]) dX11_readsAct_133 rfl (by decide) rfl ?_
  refine e_aload_n 1 dX11_readsAct_134 rfl rfl ?_
  obtain ⟨hO19, hf⟩ := e_if hf
  obtain ⟨b20, hb21, hf⟩ := e_bd hf
  refine e_getR hO19 fc_11_27 lk_RX11_74 dX11_readsAct_135 hb21 ?_
  refine e_iload_n 2 dX11_readsAct_138 rfl rfl ?_
  refine e_bipush (v := 10) dX11_readsAct_139 (by decide) ?_
  refine e_iload_n 3 dX11_readsAct_141 rfl rfl ?_
  refine e_imul dX11_readsAct_142 ?_
  refine e_iload_n 0 dX11_readsAct_143 rfl rfl ?_
  refine e_iadd dX11_readsAct_144 ?_
  obtain ⟨hI22, hf⟩ := e_if hf
  refine e_iast hI22 dX11_readsAct_145 ?_
  refine e_iload_n 0 dX11_readsAct_146 rfl rfl ?_
  refine e_if_lt (t := 154) dX11_readsAct_147 (by decide) (fun c => ?_) (fun c => ?_)
  · replace hf := e_it c hf
    refine e_iconst (v := 0) dX11_readsAct_154 (by decide) ?_
    exact e_zret (ty := .boolean) rfl rfl dX11_readsAct_155 (qW hf)
  · replace hf := e_ie c hf
    refine e_iconst (v := 1) dX11_readsAct_150 (by decide) ?_
    refine e_goto (t := 155) dX11_readsAct_151 (by decide) ?_
    exact e_zret (ty := .boolean) rfl rfl dX11_readsAct_155 (qW hf)
def f_X11_readsAct_J98 (L : eL) (h : eH) (v0 : Nat) (v1 : Int32) (s0 : Nat) (s1 : Int32) (s2 : Int32) : Option (eH × Int32) :=
  if inA L s0 0 s1 = true then
  if isO L v0 11 = true then
  (gR (sI h s0 s1.toNatClampNeg s2) v0 27).bind fun b35 =>
  if inA L b35 0 v1 = true then
  if (gI (sI h s0 s1.toNatClampNeg s2) b35 v1.toNatClampNeg) < 0 then
    some (sI h s0 s1.toNatClampNeg s2, 0)
  else
    some (sI h s0 s1.toNatClampNeg s2, 1)
  else none
  else none
  else none
set_option maxRecDepth 100000 in
set_option maxHeartbeats 4000000 in
theorem m_X11_readsAct_J98 {l : Launch} {d : Nat} {L : eL}  {r : eH × Int32} (hd : 9 ≤ d)  : ∀ (h : eH) (v0 : Nat) (v1 : Int32) (s0 : Nat) (s1 : Int32) (s2 : Int32), f_X11_readsAct_J98 L h v0 v1 s0 s1 s2 = some r → E l yX11_readsAct cX11_readsAct 4 (some .boolean) (e_rm d 0 0) 0 0 true L (Qx (some (.int r.2)) L r.1) L h 0 0 98 [(0, .ref v0), (1, .int v1)] [.int s2, .int s1, .ref s0] := by
  intro h v0 v1 s0 s1 s2 hf
  unfold f_X11_readsAct_J98 at hf
  obtain ⟨hI33, hf⟩ := e_if hf
  refine e_iast hI33 dX11_readsAct_98 ?_
  refine e_aload_n 0 dX11_readsAct_99 rfl rfl ?_
  obtain ⟨hO34, hf⟩ := e_if hf
  obtain ⟨b35, hb36, hf⟩ := e_bd hf
  refine e_getR hO34 fc_11_27 lk_RX11_74 dX11_readsAct_100 hb36 ?_
  refine e_iload_n 1 dX11_readsAct_103 rfl rfl ?_
  obtain ⟨hI37, hf⟩ := e_if hf
  refine e_iald hI37 dX11_readsAct_104 ?_
  refine e_if_lt (t := 112) dX11_readsAct_105 (by decide) (fun c => ?_) (fun c => ?_)
  · replace hf := e_it c hf
    refine e_iconst (v := 0) dX11_readsAct_112 (by decide) ?_
    exact e_zret (ty := .boolean) rfl rfl dX11_readsAct_113 (qW hf)
  · replace hf := e_ie c hf
    refine e_iconst (v := 1) dX11_readsAct_108 (by decide) ?_
    refine e_goto (t := 113) dX11_readsAct_109 (by decide) ?_
    exact e_zret (ty := .boolean) rfl rfl dX11_readsAct_113 (qW hf)
def f_X11_readsAct (L : eL) (h : eH) (v0 : Nat) : Option (eH × Int32) :=
  if isO L v0 11 = true then
  (gR h v0 26).bind fun b2 =>
  (f_X11_takesOf L h v0 (e_str + 6)).bind fun r4 =>
  if inA L b2 0 (gI h v0 28) = true then
  (some (sI (sI r4.1 b2 (gI h v0 28).toNatClampNeg r4.2) v0 28 ((gI (sI r4.1 b2 (gI h v0 28).toNatClampNeg r4.2) v0 28) + 1))).bind fun h7 =>
  (gR h7 v0 26).bind fun b9 =>
  if inA L b9 0 (gI h v0 28) = true then
  if 0 ≤ (gI h7 b9 (gI h v0 28).toNatClampNeg) then
    (gR h7 v0 26).bind fun b12 =>
    if inA L b12 0 (gI h v0 28) = true then
    if 3 ≤ (gI h7 b12 (gI h v0 28).toNatClampNeg) then
      (f_X11_number L h7 v0 1).bind fun r15 =>
      if 0 ≤ r15.2 then
        (f_X11_number L r15.1 v0 1).bind fun r17 =>
        f_X11_readsAct_J133 L r17.1 v0 (gI h v0 28) r15.2 r17.2
      else
        f_X11_readsAct_J133 L r15.1 v0 (gI h v0 28) r15.2 (-1)
    else
      (gR h7 v0 27).bind fun b23 =>
      (gR h7 v0 26).bind fun b25 =>
      if inA L b25 0 (gI h v0 28) = true then
      if (gI h7 b25 (gI h v0 28).toNatClampNeg) = 1 then
        (f_X11_signIn L h7 v0 48 0 3).bind fun r40 =>
        f_X11_readsAct_J98 L r40.1 v0 (gI h v0 28) b23 (gI h v0 28) r40.2
      else
        (gR h7 v0 26).bind fun b28 =>
        if inA L b28 0 (gI h v0 28) = true then
        if (gI h7 b28 (gI h v0 28).toNatClampNeg) = 2 then
          (f_X11_signIn L h7 v0 48 1 9).bind fun r38 =>
          f_X11_readsAct_J98 L r38.1 v0 (gI h v0 28) b23 (gI h v0 28) r38.2
        else
          (f_X11_signIn L h7 v0 48 0 9).bind fun r31 =>
          f_X11_readsAct_J98 L r31.1 v0 (gI h v0 28) b23 (gI h v0 28) r31.2
        else none
      else none
    else none
  else
    some (h7, 0)
  else none
  else none
  else none
set_option maxRecDepth 100000 in
set_option maxHeartbeats 4000000 in
theorem m_X11_readsAct {l : Launch} {d : Nat} {L : eL} {h : eH} {v0 : Nat} {r : eH × Int32} (hd : 9 ≤ d) (hf : f_X11_readsAct L h v0 = some r) : e_Met l yX11_readsAct cX11_readsAct 4 (some .boolean) d 0 0 true L h [.ref v0] (Qx (some (.int r.2)) L r.1) := by
  refine e_metl (by decide) (Nat.le_of_ble_eq_true rfl) (lv := [(0, .ref v0)]) rfl ?_
  unfold f_X11_readsAct at hf
  refine e_aload_n 0 dX11_readsAct_0 rfl rfl ?_
  obtain ⟨hO1, hf⟩ := e_if hf
  refine e_getI hO1 fc_11_28 lk_RX11_303 dX11_readsAct_1 ?_
  refine e_istore_n (lv' := [(1, .int _), (0, .ref _)]) dX11_readsAct_4 rfl (by decide) rfl ?_
  refine e_aload_n 1 dX11_readsAct_5 rfl rfl ?_
  obtain ⟨b2, hb3, hf⟩ := e_bd hf
  refine e_getR hO1 fc_11_26 lk_RX11_71 dX11_readsAct_6 hb3 ?_
  refine e_iload_n 0 dX11_readsAct_9 rfl rfl ?_
  refine e_aload_n 1 dX11_readsAct_10 rfl rfl ?_
  refine e_ldcwS (j := 6) (by decide) dX11_readsAct_11 ?_
  obtain ⟨r4, hr5, hf⟩ := e_bd hf
  refine e_callV (st := [.int _, .ref _]) ml_RX11_207 k_X11_takesOf (m_X11_takesOf (d := d - 1) (by omega) hr5) hO1 ⟨by decide, rfl⟩ rfl rfl (Nat.le_of_ble_eq_true rfl) ⟨by omega, by decide⟩ ⟨Nat.le_refl _, Nat.le_refl _⟩ dX11_readsAct_14 ?_
  obtain ⟨hI6, hf⟩ := e_if hf
  refine e_iast hI6 dX11_readsAct_17 ?_
  refine e_aload_n 1 dX11_readsAct_18 rfl rfl ?_
  refine e_dupR dX11_readsAct_19 ?_
  refine e_getI hO1 fc_11_28 lk_RX11_303 dX11_readsAct_20 ?_
  refine e_iconst (v := 1) dX11_readsAct_23 (by decide) ?_
  refine e_iadd dX11_readsAct_24 ?_
  refine e_putI hO1 fc_11_28 rfl lk_RX11_303 dX11_readsAct_25 ?_
  obtain ⟨h7, hh8, hf⟩ := e_bd hf
  refine e_hn hh8 ?_
  refine e_aload_n 1 dX11_readsAct_28 rfl rfl ?_
  obtain ⟨b9, hb10, hf⟩ := e_bd hf
  refine e_getR hO1 fc_11_26 lk_RX11_71 dX11_readsAct_29 hb10 ?_
  refine e_iload_n 0 dX11_readsAct_32 rfl rfl ?_
  obtain ⟨hI11, hf⟩ := e_if hf
  refine e_iald hI11 dX11_readsAct_33 ?_
  refine e_if_ge (t := 39) dX11_readsAct_34 (by decide) (fun c => ?_) (fun c => ?_)
  · replace hf := e_it c hf
    refine e_aload_n 1 dX11_readsAct_39 rfl rfl ?_
    obtain ⟨b12, hb13, hf⟩ := e_bd hf
    refine e_getR hO1 fc_11_26 lk_RX11_71 dX11_readsAct_40 hb13 ?_
    refine e_iload_n 0 dX11_readsAct_43 rfl rfl ?_
    obtain ⟨hI14, hf⟩ := e_if hf
    refine e_iald hI14 dX11_readsAct_44 ?_
    refine e_iconst (v := 3) dX11_readsAct_45 (by decide) ?_
    refine e_icmp_ge (t := 114) dX11_readsAct_46 (by decide) (fun c => ?_) (fun c => ?_)
    · replace hf := e_it c hf
      refine e_aload_n 1 dX11_readsAct_114 rfl rfl ?_
      refine e_iconst (v := 1) dX11_readsAct_115 (by decide) ?_
      obtain ⟨r15, hr16, hf⟩ := e_bd hf
      refine e_callV (st := []) ml_RX11_202 k_X11_number (m_X11_number (d := d - 1) (by omega) hr16) hO1 ⟨by decide, rfl⟩ rfl rfl (Nat.le_of_ble_eq_true rfl) ⟨by omega, by decide⟩ ⟨Nat.le_refl _, Nat.le_refl _⟩ dX11_readsAct_116 ?_
      refine e_istore_n (lv' := [(2, .int _), (1, .int _), (0, .ref _)]) dX11_readsAct_119 rfl (by decide) rfl ?_
      refine e_iload_n 0 dX11_readsAct_120 rfl rfl ?_
      refine e_if_ge (t := 128) dX11_readsAct_121 (by decide) (fun c => ?_) (fun c => ?_)
      · replace hf := e_it c hf
        refine e_aload_n 2 dX11_readsAct_128 rfl rfl ?_
        refine e_iconst (v := 1) dX11_readsAct_129 (by decide) ?_
        obtain ⟨r17, hr18, hf⟩ := e_bd hf
        refine e_callV (st := []) ml_RX11_202 k_X11_number (m_X11_number (d := d - 1) (by omega) hr18) hO1 ⟨by decide, rfl⟩ rfl rfl (Nat.le_of_ble_eq_true rfl) ⟨by omega, by decide⟩ ⟨Nat.le_refl _, Nat.le_refl _⟩ dX11_readsAct_130 ?_
        refine e_sub [2, 1, 0] rfl ?_
        exact m_X11_readsAct_J133 hd _ _ _ _ _ hf
      · replace hf := e_ie c hf
        refine e_iconst (v := (-1)) dX11_readsAct_124 (by decide) ?_
        refine e_goto (t := 133) dX11_readsAct_125 (by decide) ?_
        refine e_sub [2, 1, 0] rfl ?_
        exact m_X11_readsAct_J133 hd _ _ _ _ _ hf
    · replace hf := e_ie c hf
      refine e_aload_n 1 dX11_readsAct_49 rfl rfl ?_
      obtain ⟨b23, hb24, hf⟩ := e_bd hf
      refine e_getR hO1 fc_11_27 lk_RX11_74 dX11_readsAct_50 hb24 ?_
      refine e_iload_n 0 dX11_readsAct_53 rfl rfl ?_
      refine e_aload_n 1 dX11_readsAct_54 rfl rfl ?_
      obtain ⟨b25, hb26, hf⟩ := e_bd hf
      refine e_getR hO1 fc_11_26 lk_RX11_71 dX11_readsAct_55 hb26 ?_
      refine e_iload_n 0 dX11_readsAct_58 rfl rfl ?_
      obtain ⟨hI27, hf⟩ := e_if hf
      refine e_iald hI27 dX11_readsAct_59 ?_
      refine e_iconst (v := 1) dX11_readsAct_60 (by decide) ?_
      refine e_icmp_ne (t := 75) dX11_readsAct_61 (by decide) (fun c => ?_) (fun c => ?_)
      · replace hf := e_ie c hf
        refine e_aload_n 1 dX11_readsAct_75 rfl rfl ?_
        refine e_bipush (v := 48) dX11_readsAct_76 (by decide) ?_
        refine e_aload_n 1 dX11_readsAct_78 rfl rfl ?_
        obtain ⟨b28, hb29, hf⟩ := e_bd hf
        refine e_getR hO1 fc_11_26 lk_RX11_71 dX11_readsAct_79 hb29 ?_
        refine e_iload_n 0 dX11_readsAct_82 rfl rfl ?_
        obtain ⟨hI30, hf⟩ := e_if hf
        refine e_iald hI30 dX11_readsAct_83 ?_
        refine e_iconst (v := 2) dX11_readsAct_84 (by decide) ?_
        refine e_icmp_ne (t := 92) dX11_readsAct_85 (by decide) (fun c => ?_) (fun c => ?_)
        · replace hf := e_ie c hf
          refine e_iconst (v := 0) dX11_readsAct_92 (by decide) ?_
          refine e_bipush (v := 9) dX11_readsAct_93 (by decide) ?_
          obtain ⟨r31, hr32, hf⟩ := e_bd hf
          refine e_callV (st := [.int _, .ref _]) ml_RX11_308 k_X11_signIn (m_X11_signIn (d := d - 1) (by omega) hr32) hO1 ⟨by decide, rfl⟩ rfl rfl (Nat.le_of_ble_eq_true rfl) ⟨by omega, by decide⟩ ⟨Nat.le_refl _, Nat.le_refl _⟩ dX11_readsAct_95 ?_
          refine e_sub [1, 0] rfl ?_
          exact m_X11_readsAct_J98 hd _ _ _ _ _ _ hf
        · replace hf := e_it c hf
          refine e_iconst (v := 1) dX11_readsAct_88 (by decide) ?_
          refine e_goto (t := 93) dX11_readsAct_89 (by decide) ?_
          refine e_bipush (v := 9) dX11_readsAct_93 (by decide) ?_
          obtain ⟨r38, hr39, hf⟩ := e_bd hf
          refine e_callV (st := [.int _, .ref _]) ml_RX11_308 k_X11_signIn (m_X11_signIn (d := d - 1) (by omega) hr39) hO1 ⟨by decide, rfl⟩ rfl rfl (Nat.le_of_ble_eq_true rfl) ⟨by omega, by decide⟩ ⟨Nat.le_refl _, Nat.le_refl _⟩ dX11_readsAct_95 ?_
          refine e_sub [1, 0] rfl ?_
          exact m_X11_readsAct_J98 hd _ _ _ _ _ _ hf
      · replace hf := e_it c hf
        refine e_aload_n 1 dX11_readsAct_64 rfl rfl ?_
        refine e_bipush (v := 48) dX11_readsAct_65 (by decide) ?_
        refine e_iconst (v := 0) dX11_readsAct_67 (by decide) ?_
        refine e_iconst (v := 3) dX11_readsAct_68 (by decide) ?_
        obtain ⟨r40, hr41, hf⟩ := e_bd hf
        refine e_callV (st := [.int _, .ref _]) ml_RX11_308 k_X11_signIn (m_X11_signIn (d := d - 1) (by omega) hr41) hO1 ⟨by decide, rfl⟩ rfl rfl (Nat.le_of_ble_eq_true rfl) ⟨by omega, by decide⟩ ⟨Nat.le_refl _, Nat.le_refl _⟩ dX11_readsAct_69 ?_
        refine e_goto (t := 98) dX11_readsAct_72 (by decide) ?_
        refine e_sub [1, 0] rfl ?_
        exact m_X11_readsAct_J98 hd _ _ _ _ _ _ hf
  · replace hf := e_ie c hf
    refine e_iconst (v := 0) dX11_readsAct_37 (by decide) ?_
    exact e_zret (ty := .boolean) rfl rfl dX11_readsAct_38 (qW hf)

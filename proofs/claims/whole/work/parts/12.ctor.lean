/-! Constructors. -/
theorem oi_i : Cond.instanceMethod Lib.objectInit ∈ e_gw := e_mem 116 (by decide +kernel) (by decide +kernel)
theorem oi_c : Cond.code Lib.objectInit ⟨#[0xb1]⟩ 1 none ∈ e_gw := e_mem 117 (by decide +kernel) (by decide +kernel)
theorem aw_int : Cond.arrayClass .int ∈ e_gw := e_mem 131 (by decide +kernel) (by decide +kernel)
theorem aw_long : Cond.arrayClass .long ∈ e_gw := e_mem 145 (by decide +kernel) (by decide +kernel)
theorem aw_boolean : Cond.arrayClass .boolean ∈ e_gw := e_mem 1290 (by decide +kernel) (by decide +kernel)
theorem in_0 : Cond.initialized (e_R 0) ∈ e_gw := e_mem 92 (by decide +kernel) (by decide +kernel)
theorem it_0 : Cond.instantiable (e_R 0) (e_N 0) ∈ e_gw := e_mem 243 (by decide +kernel) (by decide +kernel)
theorem in_1 : Cond.initialized (e_R 1) ∈ e_gw := e_mem 89 (by decide +kernel) (by decide +kernel)
theorem it_1 : Cond.instantiable (e_R 1) (e_N 1) ∈ e_gw := e_mem 166 (by decide +kernel) (by decide +kernel)
theorem in_2 : Cond.initialized (e_R 2) ∈ e_gw := e_mem 94 (by decide +kernel) (by decide +kernel)
theorem it_2 : Cond.instantiable (e_R 2) (e_N 2) ∈ e_gw := e_mem 297 (by decide +kernel) (by decide +kernel)
theorem in_3 : Cond.initialized (e_R 3) ∈ e_gw := e_mem 87 (by decide +kernel) (by decide +kernel)
theorem it_3 : Cond.instantiable (e_R 3) (e_N 3) ∈ e_gw := e_mem 133 (by decide +kernel) (by decide +kernel)
theorem in_4 : Cond.initialized (e_R 4) ∈ e_gw := e_mem 95 (by decide +kernel) (by decide +kernel)
theorem it_4 : Cond.instantiable (e_R 4) (e_N 4) ∈ e_gw := e_mem 338 (by decide +kernel) (by decide +kernel)
theorem in_5 : Cond.initialized (e_R 5) ∈ e_gw := e_mem 88 (by decide +kernel) (by decide +kernel)
theorem it_5 : Cond.instantiable (e_R 5) (e_N 5) ∈ e_gw := e_mem 147 (by decide +kernel) (by decide +kernel)
theorem in_6 : Cond.initialized (e_R 6) ∈ e_gw := e_mem 90 (by decide +kernel) (by decide +kernel)
theorem it_6 : Cond.instantiable (e_R 6) (e_N 6) ∈ e_gw := e_mem 173 (by decide +kernel) (by decide +kernel)
theorem in_7 : Cond.initialized (e_R 7) ∈ e_gw := e_mem 93 (by decide +kernel) (by decide +kernel)
theorem it_7 : Cond.instantiable (e_R 7) (e_N 7) ∈ e_gw := e_mem 259 (by decide +kernel) (by decide +kernel)
theorem in_8 : Cond.initialized (e_R 8) ∈ e_gw := e_mem 86 (by decide +kernel) (by decide +kernel)
theorem it_8 : Cond.instantiable (e_R 8) (e_N 8) ∈ e_gw := e_mem 119 (by decide +kernel) (by decide +kernel)
theorem in_9 : Cond.initialized (e_R 9) ∈ e_gw := e_mem 91 (by decide +kernel) (by decide +kernel)
theorem it_9 : Cond.instantiable (e_R 9) (e_N 9) ∈ e_gw := e_mem 230 (by decide +kernel) (by decide +kernel)
theorem in_10 : Cond.initialized (e_R 10) ∈ e_gw := e_mem 85 (by decide +kernel) (by decide +kernel)
theorem it_10 : Cond.instantiable (e_R 10) (e_N 10) ∈ e_gw := e_mem 111 (by decide +kernel) (by decide +kernel)
theorem in_11 : Cond.initialized (e_R 11) ∈ e_gw := e_mem 96 (by decide +kernel) (by decide +kernel)
theorem it_11 : Cond.instantiable (e_R 11) (e_N 11) ∈ e_gw := e_mem 1146 (by decide +kernel) (by decide +kernel)
theorem cl_RL_8 : Cond.classLink RL 8 (e_R 10) ∈ e_gw := e_mem 110 (by decide +kernel) (by decide +kernel)
theorem cl_RX10_9 : Cond.classLink RX10 9 (e_R 8) ∈ e_gw := e_mem 118 (by decide +kernel) (by decide +kernel)
theorem cl_RX10_16 : Cond.classLink RX10 16 (e_R 3) ∈ e_gw := e_mem 132 (by decide +kernel) (by decide +kernel)
theorem cl_RX10_23 : Cond.classLink RX10 23 (e_R 5) ∈ e_gw := e_mem 146 (by decide +kernel) (by decide +kernel)
theorem cl_RX10_30 : Cond.classLink RX10 30 (e_R 1) ∈ e_gw := e_mem 165 (by decide +kernel) (by decide +kernel)
theorem cl_RX1_9 : Cond.classLink RX1 9 (e_R 6) ∈ e_gw := e_mem 171 (by decide +kernel) (by decide +kernel)
theorem cl_RX10_37 : Cond.classLink RX10 37 (e_R 9) ∈ e_gw := e_mem 229 (by decide +kernel) (by decide +kernel)
theorem cl_RX10_44 : Cond.classLink RX10 44 (e_R 0) ∈ e_gw := e_mem 242 (by decide +kernel) (by decide +kernel)
theorem cl_RX10_51 : Cond.classLink RX10 51 (e_R 7) ∈ e_gw := e_mem 258 (by decide +kernel) (by decide +kernel)
theorem cl_RX10_58 : Cond.classLink RX10 58 (e_R 6) ∈ e_gw := e_mem 294 (by decide +kernel) (by decide +kernel)
theorem cl_RX10_89 : Cond.classLink RX10 89 (e_R 2) ∈ e_gw := e_mem 296 (by decide +kernel) (by decide +kernel)
theorem cl_RX10_99 : Cond.classLink RX10 99 (e_R 4) ∈ e_gw := e_mem 337 (by decide +kernel) (by decide +kernel)
theorem cl_RL_24 : Cond.classLink RL 24 (e_R 11) ∈ e_gw := e_mem 1145 (by decide +kernel) (by decide +kernel)
theorem ol_RX10_3 : Cond.methodLink RX10 3 Lib.objectInit ∈ e_gw := e_mem 115 (by decide +kernel) (by decide +kernel)
theorem ol_RX8_3 : Cond.methodLink RX8 3 Lib.objectInit ∈ e_gw := e_mem 123 (by decide +kernel) (by decide +kernel)
theorem ol_RX3_3 : Cond.methodLink RX3 3 Lib.objectInit ∈ e_gw := e_mem 137 (by decide +kernel) (by decide +kernel)
theorem ol_RX5_3 : Cond.methodLink RX5 3 Lib.objectInit ∈ e_gw := e_mem 151 (by decide +kernel) (by decide +kernel)
theorem ol_RX1_1 : Cond.methodLink RX1 1 Lib.objectInit ∈ e_gw := e_mem 170 (by decide +kernel) (by decide +kernel)
theorem ol_RX6_3 : Cond.methodLink RX6 3 Lib.objectInit ∈ e_gw := e_mem 177 (by decide +kernel) (by decide +kernel)
theorem ol_RX9_3 : Cond.methodLink RX9 3 Lib.objectInit ∈ e_gw := e_mem 234 (by decide +kernel) (by decide +kernel)
theorem ol_RX0_3 : Cond.methodLink RX0 3 Lib.objectInit ∈ e_gw := e_mem 247 (by decide +kernel) (by decide +kernel)
theorem ol_RX7_3 : Cond.methodLink RX7 3 Lib.objectInit ∈ e_gw := e_mem 263 (by decide +kernel) (by decide +kernel)
theorem ol_RX2_3 : Cond.methodLink RX2 3 Lib.objectInit ∈ e_gw := e_mem 301 (by decide +kernel) (by decide +kernel)
theorem ol_RX4_1 : Cond.methodLink RX4 1 Lib.objectInit ∈ e_gw := e_mem 342 (by decide +kernel) (by decide +kernel)
theorem ol_RX11_22 : Cond.methodLink RX11 22 Lib.objectInit ∈ e_gw := e_mem 1150 (by decide +kernel) (by decide +kernel)
def iL_X8_init (L : eL) : eL := nW L (.inr (0, 80))
def iH_X8_init (L : eL) (h : eH) (v0 : Nat) : eH := sI (sR (zH h L.1) v0 0 (some L.1)) v0 1 0
set_option maxRecDepth 100000 in
theorem m_X8_init {l : Launch} {d : Nat} {L : eL} {h : eH} {v0 : Nat} (hd : 2 ≤ d) (hO : isO L v0 8 = true) (hw : wfR L h) (hb : L.1 + 5 < e_str) : e_Met l yX8_init cX8_init 1 none d 1 80 false L h [.ref v0] (Qx none (iL_X8_init L) (iH_X8_init L h v0)) := by
  refine e_metl (by decide) (Nat.le_of_ble_eq_true rfl) (lv := [(0, .ref v0)]) rfl ?_
  have hv := isO_lt hO
  refine e_aload_n 0 dX8_init_0 rfl rfl ?_
  refine e_oinit ol_RX8_3 oi_i oi_c (by omega) (Nat.le_of_ble_eq_true rfl) dX8_init_1 ?_
  refine e_aload_n 0 dX8_init_4 rfl rfl ?_
  refine e_bipush (v := 80) dX8_init_5 (by decide) ?_
  refine e_newI (N := 80) aw_int (by decide) (by decide) (by decide) hw (Nat.le_refl _) (okl1 hv) ⟨Nat.le_of_ble_eq_true rfl, Nat.le_of_ble_eq_true rfl⟩ dX8_init_7 ?_
  have hw1 := wf_n (s := .inr (0, 80)) hw (by omega)
  refine e_putF (isO_n hO) fc_8_0 rfl rfl rfl lk_RX8_11 dX8_init_9 ?_
  have hw2 := wf_sR (i := v0) (k := 0) (j := L.1) hw1 (Nat.lt_succ_self _)
  refine e_aload_n 0 dX8_init_12 rfl rfl ?_
  refine e_iconst (v := 0) dX8_init_13 (by decide) ?_
  refine e_putI (isO_n hO) fc_8_1 rfl lk_RX8_15 dX8_init_14 ?_
  have hw3 := wf_sI (i := v0) (k := 1) (v := 0) hw2
  exact e_vret rfl dX8_init_17 ⟨rfl, rfl, rfl⟩
theorem w_X8_init {L : eL} {h : eH} {v0 : Nat} (hO : isO L v0 8 = true) (hw : wfR L h) (hb : L.1 + 5 < e_str) : wfR (iL_X8_init L) (iH_X8_init L h v0) := by
  have hv := isO_lt hO
  have hw1 := wf_n (s := .inr (0, 80)) hw (by omega)
  have hw2 := wf_sR (i := v0) (k := 0) (j := L.1) hw1 (Nat.lt_succ_self _)
  have hw3 := wf_sI (i := v0) (k := 1) (v := 0) hw2
  exact hw3
def iL_X3_init (L : eL) : eL := nW L (.inr (1, 37))
def iH_X3_init (L : eL) (h : eH) (v0 : Nat) : eH := sI (sR (zH h L.1) v0 0 (some L.1)) v0 1 0
set_option maxRecDepth 100000 in
theorem m_X3_init {l : Launch} {d : Nat} {L : eL} {h : eH} {v0 : Nat} (hd : 2 ≤ d) (hO : isO L v0 3 = true) (hw : wfR L h) (hb : L.1 + 5 < e_str) : e_Met l yX3_init cX3_init 1 none d 1 37 false L h [.ref v0] (Qx none (iL_X3_init L) (iH_X3_init L h v0)) := by
  refine e_metl (by decide) (Nat.le_of_ble_eq_true rfl) (lv := [(0, .ref v0)]) rfl ?_
  have hv := isO_lt hO
  refine e_aload_n 0 dX3_init_0 rfl rfl ?_
  refine e_oinit ol_RX3_3 oi_i oi_c (by omega) (Nat.le_of_ble_eq_true rfl) dX3_init_1 ?_
  refine e_aload_n 0 dX3_init_4 rfl rfl ?_
  refine e_bipush (v := 37) dX3_init_5 (by decide) ?_
  refine e_newJ (N := 37) aw_long (by decide) (by decide) (by decide) hw (Nat.le_refl _) (okl1 hv) ⟨Nat.le_of_ble_eq_true rfl, Nat.le_of_ble_eq_true rfl⟩ dX3_init_7 ?_
  have hw1 := wf_n (s := .inr (1, 37)) hw (by omega)
  refine e_putF (isO_n hO) fc_3_0 rfl rfl rfl lk_RX3_11 dX3_init_9 ?_
  have hw2 := wf_sR (i := v0) (k := 0) (j := L.1) hw1 (Nat.lt_succ_self _)
  refine e_aload_n 0 dX3_init_12 rfl rfl ?_
  refine e_iconst (v := 0) dX3_init_13 (by decide) ?_
  refine e_putI (isO_n hO) fc_3_1 rfl lk_RX3_15 dX3_init_14 ?_
  have hw3 := wf_sI (i := v0) (k := 1) (v := 0) hw2
  exact e_vret rfl dX3_init_17 ⟨rfl, rfl, rfl⟩
theorem w_X3_init {L : eL} {h : eH} {v0 : Nat} (hO : isO L v0 3 = true) (hw : wfR L h) (hb : L.1 + 5 < e_str) : wfR (iL_X3_init L) (iH_X3_init L h v0) := by
  have hv := isO_lt hO
  have hw1 := wf_n (s := .inr (1, 37)) hw (by omega)
  have hw2 := wf_sR (i := v0) (k := 0) (j := L.1) hw1 (Nat.lt_succ_self _)
  have hw3 := wf_sI (i := v0) (k := 1) (v := 0) hw2
  exact hw3
def iL_X5_init (L : eL) : eL := L
def iH_X5_init (L : eL) (h : eH) (v0 : Nat) : eH := sI (sI (sR (sR h v0 0 none) v0 1 none) v0 2 0) v0 3 0
set_option maxRecDepth 100000 in
theorem m_X5_init {l : Launch} {d : Nat} {L : eL} {h : eH} {v0 : Nat} (hd : 2 ≤ d) (hO : isO L v0 5 = true) (hw : wfR L h) (hb : L.1 + 5 < e_str) : e_Met l yX5_init cX5_init 1 none d 0 0 false L h [.ref v0] (Qx none (iL_X5_init L) (iH_X5_init L h v0)) := by
  refine e_metl (by decide) (Nat.le_of_ble_eq_true rfl) (lv := [(0, .ref v0)]) rfl ?_
  have hv := isO_lt hO
  refine e_aload_n 0 dX5_init_0 rfl rfl ?_
  refine e_oinit ol_RX5_3 oi_i oi_c (by omega) (Nat.le_of_ble_eq_true rfl) dX5_init_1 ?_
  refine e_aload_n 0 dX5_init_4 rfl rfl ?_
  refine e_null dX5_init_5 ?_
  refine e_putU hO fc_5_0 rfl lk_RX5_9 dX5_init_6 ?_
  have hw1 := wf_sU (i := v0) (k := 0) hw
  refine e_aload_n 0 dX5_init_9 rfl rfl ?_
  refine e_null dX5_init_10 ?_
  refine e_putU hO fc_5_1 rfl lk_RX5_15 dX5_init_11 ?_
  have hw2 := wf_sU (i := v0) (k := 1) hw1
  refine e_aload_n 0 dX5_init_14 rfl rfl ?_
  refine e_iconst (v := 0) dX5_init_15 (by decide) ?_
  refine e_putI hO fc_5_2 rfl lk_RX5_19 dX5_init_16 ?_
  have hw3 := wf_sI (i := v0) (k := 2) (v := 0) hw2
  refine e_aload_n 0 dX5_init_19 rfl rfl ?_
  refine e_iconst (v := 0) dX5_init_20 (by decide) ?_
  refine e_putI hO fc_5_3 rfl lk_RX5_23 dX5_init_21 ?_
  have hw4 := wf_sI (i := v0) (k := 3) (v := 0) hw3
  exact e_vret rfl dX5_init_24 ⟨rfl, rfl, rfl⟩
theorem w_X5_init {L : eL} {h : eH} {v0 : Nat} (hO : isO L v0 5 = true) (hw : wfR L h) (hb : L.1 + 5 < e_str) : wfR (iL_X5_init L) (iH_X5_init L h v0) := by
  have hv := isO_lt hO
  have hw1 := wf_sU (i := v0) (k := 0) hw
  have hw2 := wf_sU (i := v0) (k := 1) hw1
  have hw3 := wf_sI (i := v0) (k := 2) (v := 0) hw2
  have hw4 := wf_sI (i := v0) (k := 3) (v := 0) hw3
  exact hw4
def iL_X6_init (L : eL) : eL := nW L (.inr (0, 36))
def iH_X6_init (L : eL) (h : eH) (v0 : Nat) : eH := sL (sI (sI (sI (sI (sI (sI (sI (sR (zH h L.1) v0 0 (some L.1)) v0 1 0) v0 2 0) v0 3 100) v0 4 0) v0 5 0) v0 6 0) v0 7 0) v0 8 0
set_option maxRecDepth 100000 in
theorem m_X6_init {l : Launch} {d : Nat} {L : eL} {h : eH} {v0 : Nat} (hd : 2 ≤ d) (hO : isO L v0 6 = true) (hw : wfR L h) (hb : L.1 + 5 < e_str) : e_Met l yX6_init cX6_init 1 none d 1 36 false L h [.ref v0] (Qx none (iL_X6_init L) (iH_X6_init L h v0)) := by
  refine e_metl (by decide) (Nat.le_of_ble_eq_true rfl) (lv := [(0, .ref v0)]) rfl ?_
  have hv := isO_lt hO
  refine e_aload_n 0 dX6_init_0 rfl rfl ?_
  refine e_oinit ol_RX6_3 oi_i oi_c (by omega) (Nat.le_of_ble_eq_true rfl) dX6_init_1 ?_
  refine e_aload_n 0 dX6_init_4 rfl rfl ?_
  refine e_bipush (v := 36) dX6_init_5 (by decide) ?_
  refine e_newI (N := 36) aw_int (by decide) (by decide) (by decide) hw (Nat.le_refl _) (okl1 hv) ⟨Nat.le_of_ble_eq_true rfl, Nat.le_of_ble_eq_true rfl⟩ dX6_init_7 ?_
  have hw1 := wf_n (s := .inr (0, 36)) hw (by omega)
  refine e_putF (isO_n hO) fc_6_0 rfl rfl rfl lk_RX6_9 dX6_init_9 ?_
  have hw2 := wf_sR (i := v0) (k := 0) (j := L.1) hw1 (Nat.lt_succ_self _)
  refine e_aload_n 0 dX6_init_12 rfl rfl ?_
  refine e_iconst (v := 0) dX6_init_13 (by decide) ?_
  refine e_putI (isO_n hO) fc_6_1 rfl lk_RX6_15 dX6_init_14 ?_
  have hw3 := wf_sI (i := v0) (k := 1) (v := 0) hw2
  refine e_aload_n 0 dX6_init_17 rfl rfl ?_
  refine e_iconst (v := 0) dX6_init_18 (by decide) ?_
  refine e_putI (isO_n hO) fc_6_2 rfl lk_RX6_19 dX6_init_19 ?_
  have hw4 := wf_sI (i := v0) (k := 2) (v := 0) hw3
  refine e_aload_n 0 dX6_init_22 rfl rfl ?_
  refine e_bipush (v := 100) dX6_init_23 (by decide) ?_
  refine e_putI (isO_n hO) fc_6_3 rfl lk_RX6_22 dX6_init_25 ?_
  have hw5 := wf_sI (i := v0) (k := 3) (v := 100) hw4
  refine e_aload_n 0 dX6_init_28 rfl rfl ?_
  refine e_iconst (v := 0) dX6_init_29 (by decide) ?_
  refine e_putI (isO_n hO) fc_6_4 rfl lk_RX6_25 dX6_init_30 ?_
  have hw6 := wf_sI (i := v0) (k := 4) (v := 0) hw5
  refine e_aload_n 0 dX6_init_33 rfl rfl ?_
  refine e_iconst (v := 0) dX6_init_34 (by decide) ?_
  refine e_putI (isO_n hO) fc_6_5 rfl lk_RX6_28 dX6_init_35 ?_
  have hw7 := wf_sI (i := v0) (k := 5) (v := 0) hw6
  refine e_aload_n 0 dX6_init_38 rfl rfl ?_
  refine e_iconst (v := 0) dX6_init_39 (by decide) ?_
  refine e_putI (isO_n hO) fc_6_6 rfl lk_RX6_31 dX6_init_40 ?_
  have hw8 := wf_sI (i := v0) (k := 6) (v := 0) hw7
  refine e_aload_n 0 dX6_init_43 rfl rfl ?_
  refine e_iconst (v := 0) dX6_init_44 (by decide) ?_
  refine e_putI (isO_n hO) fc_6_7 rfl lk_RX6_34 dX6_init_45 ?_
  have hw9 := wf_sI (i := v0) (k := 7) (v := 0) hw8
  refine e_aload_n 0 dX6_init_48 rfl rfl ?_
  refine e_lconst (v := 0) dX6_init_49 (by decide) ?_
  refine e_putL (isO_n hO) fc_6_8 rfl lk_RX6_37 dX6_init_50 ?_
  have hw10 := wf_sL (i := v0) (k := 8) (v := 0) hw9
  exact e_vret rfl dX6_init_53 ⟨rfl, rfl, rfl⟩
theorem w_X6_init {L : eL} {h : eH} {v0 : Nat} (hO : isO L v0 6 = true) (hw : wfR L h) (hb : L.1 + 5 < e_str) : wfR (iL_X6_init L) (iH_X6_init L h v0) := by
  have hv := isO_lt hO
  have hw1 := wf_n (s := .inr (0, 36)) hw (by omega)
  have hw2 := wf_sR (i := v0) (k := 0) (j := L.1) hw1 (Nat.lt_succ_self _)
  have hw3 := wf_sI (i := v0) (k := 1) (v := 0) hw2
  have hw4 := wf_sI (i := v0) (k := 2) (v := 0) hw3
  have hw5 := wf_sI (i := v0) (k := 3) (v := 100) hw4
  have hw6 := wf_sI (i := v0) (k := 4) (v := 0) hw5
  have hw7 := wf_sI (i := v0) (k := 5) (v := 0) hw6
  have hw8 := wf_sI (i := v0) (k := 6) (v := 0) hw7
  have hw9 := wf_sI (i := v0) (k := 7) (v := 0) hw8
  have hw10 := wf_sL (i := v0) (k := 8) (v := 0) hw9
  exact hw10
def iL_X9_init (L : eL) : eL := nW L (.inr (1, 74))
def iH_X9_init (L : eL) (h : eH) (v0 : Nat) : eH := sL (sR (zH h L.1) v0 0 (some L.1)) v0 1 0
set_option maxRecDepth 100000 in
theorem m_X9_init {l : Launch} {d : Nat} {L : eL} {h : eH} {v0 : Nat} (hd : 2 ≤ d) (hO : isO L v0 9 = true) (hw : wfR L h) (hb : L.1 + 5 < e_str) : e_Met l yX9_init cX9_init 1 none d 1 74 false L h [.ref v0] (Qx none (iL_X9_init L) (iH_X9_init L h v0)) := by
  refine e_metl (by decide) (Nat.le_of_ble_eq_true rfl) (lv := [(0, .ref v0)]) rfl ?_
  have hv := isO_lt hO
  refine e_aload_n 0 dX9_init_0 rfl rfl ?_
  refine e_oinit ol_RX9_3 oi_i oi_c (by omega) (Nat.le_of_ble_eq_true rfl) dX9_init_1 ?_
  refine e_aload_n 0 dX9_init_4 rfl rfl ?_
  refine e_bipush (v := 74) dX9_init_5 (by decide) ?_
  refine e_newJ (N := 74) aw_long (by decide) (by decide) (by decide) hw (Nat.le_refl _) (okl1 hv) ⟨Nat.le_of_ble_eq_true rfl, Nat.le_of_ble_eq_true rfl⟩ dX9_init_7 ?_
  have hw1 := wf_n (s := .inr (1, 74)) hw (by omega)
  refine e_putF (isO_n hO) fc_9_0 rfl rfl rfl lk_RX9_11 dX9_init_9 ?_
  have hw2 := wf_sR (i := v0) (k := 0) (j := L.1) hw1 (Nat.lt_succ_self _)
  refine e_aload_n 0 dX9_init_12 rfl rfl ?_
  refine e_lconst (v := 0) dX9_init_13 (by decide) ?_
  refine e_putL (isO_n hO) fc_9_1 rfl lk_RX9_15 dX9_init_14 ?_
  have hw3 := wf_sL (i := v0) (k := 1) (v := 0) hw2
  exact e_vret rfl dX9_init_17 ⟨rfl, rfl, rfl⟩
theorem w_X9_init {L : eL} {h : eH} {v0 : Nat} (hO : isO L v0 9 = true) (hw : wfR L h) (hb : L.1 + 5 < e_str) : wfR (iL_X9_init L) (iH_X9_init L h v0) := by
  have hv := isO_lt hO
  have hw1 := wf_n (s := .inr (1, 74)) hw (by omega)
  have hw2 := wf_sR (i := v0) (k := 0) (j := L.1) hw1 (Nat.lt_succ_self _)
  have hw3 := wf_sL (i := v0) (k := 1) (v := 0) hw2
  exact hw3
def iL_X0_init (L : eL) : eL := nW (nW L (.inr (0, 12))) (.inr (1, 4))
def iH_X0_init (L : eL) (h : eH) (v0 : Nat) : eH := sI (sR (zH (sR (zH h L.1) v0 0 (some L.1)) (nW L (.inr (0, 12))).1) v0 1 (some ((nW L (.inr (0, 12))).1))) v0 2 0
set_option maxRecDepth 100000 in
theorem m_X0_init {l : Launch} {d : Nat} {L : eL} {h : eH} {v0 : Nat} (hd : 2 ≤ d) (hO : isO L v0 0 = true) (hw : wfR L h) (hb : L.1 + 5 < e_str) : e_Met l yX0_init cX0_init 1 none d 2 16 false L h [.ref v0] (Qx none (iL_X0_init L) (iH_X0_init L h v0)) := by
  refine e_metl (by decide) (Nat.le_of_ble_eq_true rfl) (lv := [(0, .ref v0)]) rfl ?_
  have hv := isO_lt hO
  refine e_aload_n 0 dX0_init_0 rfl rfl ?_
  refine e_oinit ol_RX0_3 oi_i oi_c (by omega) (Nat.le_of_ble_eq_true rfl) dX0_init_1 ?_
  refine e_aload_n 0 dX0_init_4 rfl rfl ?_
  refine e_bipush (v := 12) dX0_init_5 (by decide) ?_
  refine e_newI (N := 12) aw_int (by decide) (by decide) (by decide) hw (Nat.le_refl _) (okl1 hv) ⟨Nat.le_of_ble_eq_true rfl, Nat.le_of_ble_eq_true rfl⟩ dX0_init_7 ?_
  have hw1 := wf_n (s := .inr (0, 12)) hw (by omega)
  refine e_putF (isO_n hO) fc_0_0 rfl rfl rfl lk_RX0_11 dX0_init_9 ?_
  have hw2 := wf_sR (i := v0) (k := 0) (j := L.1) hw1 (Nat.lt_succ_self _)
  refine e_aload_n 0 dX0_init_12 rfl rfl ?_
  refine e_iconst (v := 4) dX0_init_13 (by decide) ?_
  refine e_newJ (N := 4) aw_long (by decide) (by decide) (by decide) hw2 (Nat.le_succ _) (okl1 (Nat.lt_succ_of_lt hv)) ⟨Nat.le_of_ble_eq_true rfl, Nat.le_of_ble_eq_true rfl⟩ dX0_init_14 ?_
  have hw3 := wf_n (s := .inr (1, 4)) hw2 (by simp only [nW]; omega)
  refine e_putF (isO_n (isO_n hO)) fc_0_1 rfl rfl rfl lk_RX0_15 dX0_init_16 ?_
  have hw4 := wf_sR (i := v0) (k := 1) (j := ((nW L (.inr (0, 12))).1)) hw3 (Nat.lt_succ_self _)
  refine e_aload_n 0 dX0_init_19 rfl rfl ?_
  refine e_iconst (v := 0) dX0_init_20 (by decide) ?_
  refine e_putI (isO_n (isO_n hO)) fc_0_2 rfl lk_RX0_19 dX0_init_21 ?_
  have hw5 := wf_sI (i := v0) (k := 2) (v := 0) hw4
  exact e_vret rfl dX0_init_24 ⟨rfl, rfl, rfl⟩
theorem w_X0_init {L : eL} {h : eH} {v0 : Nat} (hO : isO L v0 0 = true) (hw : wfR L h) (hb : L.1 + 5 < e_str) : wfR (iL_X0_init L) (iH_X0_init L h v0) := by
  have hv := isO_lt hO
  have hw1 := wf_n (s := .inr (0, 12)) hw (by omega)
  have hw2 := wf_sR (i := v0) (k := 0) (j := L.1) hw1 (Nat.lt_succ_self _)
  have hw3 := wf_n (s := .inr (1, 4)) hw2 (by simp only [nW]; omega)
  have hw4 := wf_sR (i := v0) (k := 1) (j := ((nW L (.inr (0, 12))).1)) hw3 (Nat.lt_succ_self _)
  have hw5 := wf_sI (i := v0) (k := 2) (v := 0) hw4
  exact hw5
def iL_X7_init (L : eL) : eL := nW (nW L (.inr (0, 6))) (.inr (0, 6))
def iH_X7_init (L : eL) (h : eH) (v0 : Nat) : eH := sI (sI (sI (sI (sL (sR (sR (sR (zH (sR (zH h L.1) v0 0 (some L.1)) (nW L (.inr (0, 6))).1) v0 1 (some ((nW L (.inr (0, 6))).1))) v0 2 none) v0 3 none) v0 4 0) v0 5 0) v0 6 0) v0 7 0) v0 8 0
set_option maxRecDepth 100000 in
theorem m_X7_init {l : Launch} {d : Nat} {L : eL} {h : eH} {v0 : Nat} (hd : 2 ≤ d) (hO : isO L v0 7 = true) (hw : wfR L h) (hb : L.1 + 5 < e_str) : e_Met l yX7_init cX7_init 1 none d 2 12 false L h [.ref v0] (Qx none (iL_X7_init L) (iH_X7_init L h v0)) := by
  refine e_metl (by decide) (Nat.le_of_ble_eq_true rfl) (lv := [(0, .ref v0)]) rfl ?_
  have hv := isO_lt hO
  refine e_aload_n 0 dX7_init_0 rfl rfl ?_
  refine e_oinit ol_RX7_3 oi_i oi_c (by omega) (Nat.le_of_ble_eq_true rfl) dX7_init_1 ?_
  refine e_aload_n 0 dX7_init_4 rfl rfl ?_
  refine e_bipush (v := 6) dX7_init_5 (by decide) ?_
  refine e_newI (N := 6) aw_int (by decide) (by decide) (by decide) hw (Nat.le_refl _) (okl1 hv) ⟨Nat.le_of_ble_eq_true rfl, Nat.le_of_ble_eq_true rfl⟩ dX7_init_7 ?_
  have hw1 := wf_n (s := .inr (0, 6)) hw (by omega)
  refine e_putF (isO_n hO) fc_7_0 rfl rfl rfl lk_RX7_11 dX7_init_9 ?_
  have hw2 := wf_sR (i := v0) (k := 0) (j := L.1) hw1 (Nat.lt_succ_self _)
  refine e_aload_n 0 dX7_init_12 rfl rfl ?_
  refine e_bipush (v := 6) dX7_init_13 (by decide) ?_
  refine e_newI (N := 6) aw_int (by decide) (by decide) (by decide) hw2 (Nat.le_succ _) (okl1 (Nat.lt_succ_of_lt hv)) ⟨Nat.le_of_ble_eq_true rfl, Nat.le_of_ble_eq_true rfl⟩ dX7_init_15 ?_
  have hw3 := wf_n (s := .inr (0, 6)) hw2 (by simp only [nW]; omega)
  refine e_putF (isO_n (isO_n hO)) fc_7_1 rfl rfl rfl lk_RX7_15 dX7_init_17 ?_
  have hw4 := wf_sR (i := v0) (k := 1) (j := ((nW L (.inr (0, 6))).1)) hw3 (Nat.lt_succ_self _)
  refine e_aload_n 0 dX7_init_20 rfl rfl ?_
  refine e_null dX7_init_21 ?_
  refine e_putU (isO_n (isO_n hO)) fc_7_2 rfl lk_RX7_18 dX7_init_22 ?_
  have hw5 := wf_sU (i := v0) (k := 2) hw4
  refine e_aload_n 0 dX7_init_25 rfl rfl ?_
  refine e_null dX7_init_26 ?_
  refine e_putU (isO_n (isO_n hO)) fc_7_3 rfl lk_RX7_22 dX7_init_27 ?_
  have hw6 := wf_sU (i := v0) (k := 3) hw5
  refine e_aload_n 0 dX7_init_30 rfl rfl ?_
  refine e_lconst (v := 0) dX7_init_31 (by decide) ?_
  refine e_putL (isO_n (isO_n hO)) fc_7_4 rfl lk_RX7_26 dX7_init_32 ?_
  have hw7 := wf_sL (i := v0) (k := 4) (v := 0) hw6
  refine e_aload_n 0 dX7_init_35 rfl rfl ?_
  refine e_iconst (v := 0) dX7_init_36 (by decide) ?_
  refine e_putI (isO_n (isO_n hO)) fc_7_5 rfl lk_RX7_30 dX7_init_37 ?_
  have hw8 := wf_sI (i := v0) (k := 5) (v := 0) hw7
  refine e_aload_n 0 dX7_init_40 rfl rfl ?_
  refine e_iconst (v := 0) dX7_init_41 (by decide) ?_
  refine e_putI (isO_n (isO_n hO)) fc_7_6 rfl lk_RX7_34 dX7_init_42 ?_
  have hw9 := wf_sI (i := v0) (k := 6) (v := 0) hw8
  refine e_aload_n 0 dX7_init_45 rfl rfl ?_
  refine e_iconst (v := 0) dX7_init_46 (by decide) ?_
  refine e_putI (isO_n (isO_n hO)) fc_7_7 rfl lk_RX7_37 dX7_init_47 ?_
  have hw10 := wf_sI (i := v0) (k := 7) (v := 0) hw9
  refine e_aload_n 0 dX7_init_50 rfl rfl ?_
  refine e_iconst (v := 0) dX7_init_51 (by decide) ?_
  refine e_putI (isO_n (isO_n hO)) fc_7_8 rfl lk_RX7_40 dX7_init_52 ?_
  have hw11 := wf_sI (i := v0) (k := 8) (v := 0) hw10
  exact e_vret rfl dX7_init_55 ⟨rfl, rfl, rfl⟩
theorem w_X7_init {L : eL} {h : eH} {v0 : Nat} (hO : isO L v0 7 = true) (hw : wfR L h) (hb : L.1 + 5 < e_str) : wfR (iL_X7_init L) (iH_X7_init L h v0) := by
  have hv := isO_lt hO
  have hw1 := wf_n (s := .inr (0, 6)) hw (by omega)
  have hw2 := wf_sR (i := v0) (k := 0) (j := L.1) hw1 (Nat.lt_succ_self _)
  have hw3 := wf_n (s := .inr (0, 6)) hw2 (by simp only [nW]; omega)
  have hw4 := wf_sR (i := v0) (k := 1) (j := ((nW L (.inr (0, 6))).1)) hw3 (Nat.lt_succ_self _)
  have hw5 := wf_sU (i := v0) (k := 2) hw4
  have hw6 := wf_sU (i := v0) (k := 3) hw5
  have hw7 := wf_sL (i := v0) (k := 4) (v := 0) hw6
  have hw8 := wf_sI (i := v0) (k := 5) (v := 0) hw7
  have hw9 := wf_sI (i := v0) (k := 6) (v := 0) hw8
  have hw10 := wf_sI (i := v0) (k := 7) (v := 0) hw9
  have hw11 := wf_sI (i := v0) (k := 8) (v := 0) hw10
  exact hw11
def iL_X2_init (L : eL) : eL := nW L (.inr (0, 36))
def iH_X2_init (L : eL) (h : eH) (v0 : Nat) : eH := sI (sL (sL (sL (sL (sI (sI (sI (sR (zH h L.1) v0 0 (some L.1)) v0 1 1) v0 2 1) v0 3 (-1)) v0 4 1) v0 5 0) v0 6 1) v0 7 1) L.1 (0 : Int32).toNatClampNeg 1
set_option maxRecDepth 100000 in
theorem m_X2_init {l : Launch} {d : Nat} {L : eL} {h : eH} {v0 : Nat} (hd : 2 ≤ d) (hO : isO L v0 2 = true) (hw : wfR L h) (hb : L.1 + 5 < e_str) : e_Met l yX2_init cX2_init 1 none d 1 36 false L h [.ref v0] (Qx none (iL_X2_init L) (iH_X2_init L h v0)) := by
  refine e_metl (by decide) (Nat.le_of_ble_eq_true rfl) (lv := [(0, .ref v0)]) rfl ?_
  have hv := isO_lt hO
  refine e_aload_n 0 dX2_init_0 rfl rfl ?_
  refine e_oinit ol_RX2_3 oi_i oi_c (by omega) (Nat.le_of_ble_eq_true rfl) dX2_init_1 ?_
  refine e_aload_n 0 dX2_init_4 rfl rfl ?_
  refine e_bipush (v := 36) dX2_init_5 (by decide) ?_
  refine e_newI (N := 36) aw_int (by decide) (by decide) (by decide) hw (Nat.le_refl _) (okl1 hv) ⟨Nat.le_of_ble_eq_true rfl, Nat.le_of_ble_eq_true rfl⟩ dX2_init_7 ?_
  have hw1 := wf_n (s := .inr (0, 36)) hw (by omega)
  refine e_putF (isO_n hO) fc_2_0 rfl rfl rfl lk_RX2_9 dX2_init_9 ?_
  have hw2 := wf_sR (i := v0) (k := 0) (j := L.1) hw1 (Nat.lt_succ_self _)
  refine e_aload_n 0 dX2_init_12 rfl rfl ?_
  refine e_iconst (v := 1) dX2_init_13 (by decide) ?_
  refine e_putI (isO_n hO) fc_2_1 rfl lk_RX2_15 dX2_init_14 ?_
  have hw3 := wf_sI (i := v0) (k := 1) (v := 1) hw2
  refine e_aload_n 0 dX2_init_17 rfl rfl ?_
  refine e_iconst (v := 1) dX2_init_18 (by decide) ?_
  refine e_putI (isO_n hO) fc_2_2 rfl lk_RX2_19 dX2_init_19 ?_
  have hw4 := wf_sI (i := v0) (k := 2) (v := 1) hw3
  refine e_aload_n 0 dX2_init_22 rfl rfl ?_
  refine e_iconst (v := (-1)) dX2_init_23 (by decide) ?_
  refine e_putI (isO_n hO) fc_2_3 rfl lk_RX2_22 dX2_init_24 ?_
  have hw5 := wf_sI (i := v0) (k := 3) (v := (-1)) hw4
  refine e_aload_n 0 dX2_init_27 rfl rfl ?_
  refine e_lconst (v := 1) dX2_init_28 (by decide) ?_
  refine e_putL (isO_n hO) fc_2_4 rfl lk_RX2_25 dX2_init_29 ?_
  have hw6 := wf_sL (i := v0) (k := 4) (v := 1) hw5
  refine e_aload_n 0 dX2_init_32 rfl rfl ?_
  refine e_lconst (v := 0) dX2_init_33 (by decide) ?_
  refine e_putL (isO_n hO) fc_2_5 rfl lk_RX2_29 dX2_init_34 ?_
  have hw7 := wf_sL (i := v0) (k := 5) (v := 0) hw6
  refine e_aload_n 0 dX2_init_37 rfl rfl ?_
  refine e_lconst (v := 1) dX2_init_38 (by decide) ?_
  refine e_putL (isO_n hO) fc_2_6 rfl lk_RX2_32 dX2_init_39 ?_
  have hw8 := wf_sL (i := v0) (k := 6) (v := 1) hw7
  refine e_aload_n 0 dX2_init_42 rfl rfl ?_
  refine e_lconst (v := 1) dX2_init_43 (by decide) ?_
  refine e_putL (isO_n hO) fc_2_7 rfl lk_RX2_35 dX2_init_44 ?_
  have hw9 := wf_sL (i := v0) (k := 7) (v := 1) hw8
  refine e_aload_n 0 dX2_init_47 rfl rfl ?_
  refine e_getR (isO_n hO) fc_2_0 lk_RX2_9 dX2_init_48 (b := L.1) (by simp [gR, sR, sI, sL, zH]) ?_
  refine e_iconst (v := 0) dX2_init_51 (by decide) ?_
  refine e_iconst (v := 1) dX2_init_52 (by decide) ?_
  refine e_iast (by simp [inA, nW]) dX2_init_53 ?_
  have hw10 := wf_sI (i := L.1) (k := (0 : Int32).toNatClampNeg) (v := 1) hw9
  exact e_vret rfl dX2_init_54 ⟨rfl, rfl, rfl⟩
theorem w_X2_init {L : eL} {h : eH} {v0 : Nat} (hO : isO L v0 2 = true) (hw : wfR L h) (hb : L.1 + 5 < e_str) : wfR (iL_X2_init L) (iH_X2_init L h v0) := by
  have hv := isO_lt hO
  have hw1 := wf_n (s := .inr (0, 36)) hw (by omega)
  have hw2 := wf_sR (i := v0) (k := 0) (j := L.1) hw1 (Nat.lt_succ_self _)
  have hw3 := wf_sI (i := v0) (k := 1) (v := 1) hw2
  have hw4 := wf_sI (i := v0) (k := 2) (v := 1) hw3
  have hw5 := wf_sI (i := v0) (k := 3) (v := (-1)) hw4
  have hw6 := wf_sL (i := v0) (k := 4) (v := 1) hw5
  have hw7 := wf_sL (i := v0) (k := 5) (v := 0) hw6
  have hw8 := wf_sL (i := v0) (k := 6) (v := 1) hw7
  have hw9 := wf_sL (i := v0) (k := 7) (v := 1) hw8
  have hw10 := wf_sI (i := L.1) (k := (0 : Int32).toNatClampNeg) (v := 1) hw9
  exact hw10
def iL_X4_init (L : eL) : eL := nW (nW L (.inr (0, 40))) (.inr (0, 40))
def iH_X4_init (L : eL) (h : eH) (v0 : Nat) : eH := sI (sR (zH (sR (zH h L.1) v0 0 (some L.1)) (nW L (.inr (0, 40))).1) v0 1 (some ((nW L (.inr (0, 40))).1))) v0 2 0
set_option maxRecDepth 100000 in
theorem m_X4_init {l : Launch} {d : Nat} {L : eL} {h : eH} {v0 : Nat} (hd : 2 ≤ d) (hO : isO L v0 4 = true) (hw : wfR L h) (hb : L.1 + 5 < e_str) : e_Met l yX4_init cX4_init 1 none d 2 80 false L h [.ref v0] (Qx none (iL_X4_init L) (iH_X4_init L h v0)) := by
  refine e_metl (by decide) (Nat.le_of_ble_eq_true rfl) (lv := [(0, .ref v0)]) rfl ?_
  have hv := isO_lt hO
  refine e_aload_n 0 dX4_init_0 rfl rfl ?_
  refine e_oinit ol_RX4_1 oi_i oi_c (by omega) (Nat.le_of_ble_eq_true rfl) dX4_init_1 ?_
  refine e_aload_n 0 dX4_init_4 rfl rfl ?_
  refine e_bipush (v := 40) dX4_init_5 (by decide) ?_
  refine e_newI (N := 40) aw_int (by decide) (by decide) (by decide) hw (Nat.le_refl _) (okl1 hv) ⟨Nat.le_of_ble_eq_true rfl, Nat.le_of_ble_eq_true rfl⟩ dX4_init_7 ?_
  have hw1 := wf_n (s := .inr (0, 40)) hw (by omega)
  refine e_putF (isO_n hO) fc_4_0 rfl rfl rfl lk_RX4_9 dX4_init_9 ?_
  have hw2 := wf_sR (i := v0) (k := 0) (j := L.1) hw1 (Nat.lt_succ_self _)
  refine e_aload_n 0 dX4_init_12 rfl rfl ?_
  refine e_bipush (v := 40) dX4_init_13 (by decide) ?_
  refine e_newI (N := 40) aw_int (by decide) (by decide) (by decide) hw2 (Nat.le_succ _) (okl1 (Nat.lt_succ_of_lt hv)) ⟨Nat.le_of_ble_eq_true rfl, Nat.le_of_ble_eq_true rfl⟩ dX4_init_15 ?_
  have hw3 := wf_n (s := .inr (0, 40)) hw2 (by simp only [nW]; omega)
  refine e_putF (isO_n (isO_n hO)) fc_4_1 rfl rfl rfl lk_RX4_13 dX4_init_17 ?_
  have hw4 := wf_sR (i := v0) (k := 1) (j := ((nW L (.inr (0, 40))).1)) hw3 (Nat.lt_succ_self _)
  refine e_aload_n 0 dX4_init_20 rfl rfl ?_
  refine e_iconst (v := 0) dX4_init_21 (by decide) ?_
  refine e_putI (isO_n (isO_n hO)) fc_4_2 rfl lk_RX4_16 dX4_init_22 ?_
  have hw5 := wf_sI (i := v0) (k := 2) (v := 0) hw4
  exact e_vret rfl dX4_init_25 ⟨rfl, rfl, rfl⟩
theorem w_X4_init {L : eL} {h : eH} {v0 : Nat} (hO : isO L v0 4 = true) (hw : wfR L h) (hb : L.1 + 5 < e_str) : wfR (iL_X4_init L) (iH_X4_init L h v0) := by
  have hv := isO_lt hO
  have hw1 := wf_n (s := .inr (0, 40)) hw (by omega)
  have hw2 := wf_sR (i := v0) (k := 0) (j := L.1) hw1 (Nat.lt_succ_self _)
  have hw3 := wf_n (s := .inr (0, 40)) hw2 (by simp only [nW]; omega)
  have hw4 := wf_sR (i := v0) (k := 1) (j := ((nW L (.inr (0, 40))).1)) hw3 (Nat.lt_succ_self _)
  have hw5 := wf_sI (i := v0) (k := 2) (v := 0) hw4
  exact hw5
def wL0 : eL := (0, fun _ => .inl 0)
def wH0 : eH := (fun _ _ => 0, fun _ _ => 0, fun _ _ => none)
theorem ww0_0 : wfR wL0 wH0 := ⟨by decide, fun i hi => absurd hi (Nat.not_lt_zero i)⟩
def wL1 : eL := nW wL0 (.inl 10)
def wH1 : eH := zH wH0 0
theorem ww1_1 : wfR wL1 wH1 := wf_n (L := wL0) (s := .inl 10) ww0_0 (by decide)
def wL2 : eL := nW wL1 (.inl 8)
def wH2 : eH := zH wH1 1
theorem ww2_2 : wfR wL2 wH2 := wf_n (L := wL1) (s := .inl 8) ww1_1 (by decide)
def wL3 : eL := iL_X8_init wL2
def wH3 : eH := iH_X8_init wL2 wH2 1
theorem ww3_3 : wfR wL3 wH3 := w_X8_init (show isO wL2 1 8 = true from by decide) ww2_2 (by decide)
def wH4 : eH := sR wH3 0 0 (some 1)
theorem ww3_4 : wfR wL3 wH4 := wf_sR ww3_3 (by decide)
def wL4 : eL := nW wL3 (.inl 3)
def wH5 : eH := zH wH4 3
theorem ww4_5 : wfR wL4 wH5 := wf_n (L := wL3) (s := .inl 3) ww3_4 (by decide)
def wL5 : eL := iL_X3_init wL4
def wH6 : eH := iH_X3_init wL4 wH5 3
theorem ww5_6 : wfR wL5 wH6 := w_X3_init (show isO wL4 3 3 = true from by decide) ww4_5 (by decide)
def wH7 : eH := sR wH6 0 1 (some 3)
theorem ww5_7 : wfR wL5 wH7 := wf_sR ww5_6 (by decide)
def wL6 : eL := nW wL5 (.inl 5)
def wH8 : eH := zH wH7 5
theorem ww6_8 : wfR wL6 wH8 := wf_n (L := wL5) (s := .inl 5) ww5_7 (by decide)
def wL7 : eL := iL_X5_init wL6
def wH9 : eH := iH_X5_init wL6 wH8 5
theorem ww7_9 : wfR wL7 wH9 := w_X5_init (show isO wL6 5 5 = true from by decide) ww6_8 (by decide)
def wH10 : eH := sR wH9 0 2 (some 5)
theorem ww7_10 : wfR wL7 wH10 := wf_sR ww7_9 (by decide)
def wL8 : eL := nW wL7 (.inl 1)
def wH11 : eH := zH wH10 6
theorem ww8_11 : wfR wL8 wH11 := wf_n (L := wL7) (s := .inl 1) ww7_10 (by decide)
def wL9 : eL := nW wL8 (.inr (3, 15))
def wH12 : eH := zH wH11 7
theorem ww9_12 : wfR wL9 wH12 := wf_n (L := wL8) (s := .inr (3, 15)) ww8_11 (by decide)
def wH13 : eH := sR wH12 6 0 (some 7)
theorem ww9_13 : wfR wL9 wH13 := wf_sR ww9_12 (by decide)
def wH14 : eH := sI wH13 6 1 0
theorem ww9_14 : wfR wL9 wH14 := wf_sI ww9_13
def wH15 : eH := sI wH14 6 2 0
theorem ww9_15 : wfR wL9 wH15 := wf_sI ww9_14
def wL10 : eL := nW wL9 (.inl 6)
def wH16 : eH := zH wH15 8
theorem ww10_16 : wfR wL10 wH16 := wf_n (L := wL9) (s := .inl 6) ww9_15 (by decide)
def wL11 : eL := iL_X6_init wL10
def wH17 : eH := iH_X6_init wL10 wH16 8
theorem ww11_17 : wfR wL11 wH17 := w_X6_init (show isO wL10 8 6 = true from by decide) ww10_16 (by decide)
def wH18 : eH := sR wH17 7 (0 : Int32).toNatClampNeg (some 8)
theorem ww11_18 : wfR wL11 wH18 := wf_sR ww11_17 (by decide)
def wL12 : eL := nW wL11 (.inl 6)
def wH19 : eH := zH wH18 10
theorem ww12_19 : wfR wL12 wH19 := wf_n (L := wL11) (s := .inl 6) ww11_18 (by decide)
def wL13 : eL := iL_X6_init wL12
def wH20 : eH := iH_X6_init wL12 wH19 10
theorem ww13_20 : wfR wL13 wH20 := w_X6_init (show isO wL12 10 6 = true from by decide) ww12_19 (by decide)
def wH21 : eH := sR wH20 7 (1 : Int32).toNatClampNeg (some 10)
theorem ww13_21 : wfR wL13 wH21 := wf_sR ww13_20 (by decide)
def wL14 : eL := nW wL13 (.inl 6)
def wH22 : eH := zH wH21 12
theorem ww14_22 : wfR wL14 wH22 := wf_n (L := wL13) (s := .inl 6) ww13_21 (by decide)
def wL15 : eL := iL_X6_init wL14
def wH23 : eH := iH_X6_init wL14 wH22 12
theorem ww15_23 : wfR wL15 wH23 := w_X6_init (show isO wL14 12 6 = true from by decide) ww14_22 (by decide)
def wH24 : eH := sR wH23 7 (2 : Int32).toNatClampNeg (some 12)
theorem ww15_24 : wfR wL15 wH24 := wf_sR ww15_23 (by decide)
def wL16 : eL := nW wL15 (.inl 6)
def wH25 : eH := zH wH24 14
theorem ww16_25 : wfR wL16 wH25 := wf_n (L := wL15) (s := .inl 6) ww15_24 (by decide)
def wL17 : eL := iL_X6_init wL16
def wH26 : eH := iH_X6_init wL16 wH25 14
theorem ww17_26 : wfR wL17 wH26 := w_X6_init (show isO wL16 14 6 = true from by decide) ww16_25 (by decide)
def wH27 : eH := sR wH26 7 (3 : Int32).toNatClampNeg (some 14)
theorem ww17_27 : wfR wL17 wH27 := wf_sR ww17_26 (by decide)
def wL18 : eL := nW wL17 (.inl 6)
def wH28 : eH := zH wH27 16
theorem ww18_28 : wfR wL18 wH28 := wf_n (L := wL17) (s := .inl 6) ww17_27 (by decide)
def wL19 : eL := iL_X6_init wL18
def wH29 : eH := iH_X6_init wL18 wH28 16
theorem ww19_29 : wfR wL19 wH29 := w_X6_init (show isO wL18 16 6 = true from by decide) ww18_28 (by decide)
def wH30 : eH := sR wH29 7 (4 : Int32).toNatClampNeg (some 16)
theorem ww19_30 : wfR wL19 wH30 := wf_sR ww19_29 (by decide)
def wL20 : eL := nW wL19 (.inl 6)
def wH31 : eH := zH wH30 18
theorem ww20_31 : wfR wL20 wH31 := wf_n (L := wL19) (s := .inl 6) ww19_30 (by decide)
def wL21 : eL := iL_X6_init wL20
def wH32 : eH := iH_X6_init wL20 wH31 18
theorem ww21_32 : wfR wL21 wH32 := w_X6_init (show isO wL20 18 6 = true from by decide) ww20_31 (by decide)
def wH33 : eH := sR wH32 7 (5 : Int32).toNatClampNeg (some 18)
theorem ww21_33 : wfR wL21 wH33 := wf_sR ww21_32 (by decide)
def wL22 : eL := nW wL21 (.inl 6)
def wH34 : eH := zH wH33 20
theorem ww22_34 : wfR wL22 wH34 := wf_n (L := wL21) (s := .inl 6) ww21_33 (by decide)
def wL23 : eL := iL_X6_init wL22
def wH35 : eH := iH_X6_init wL22 wH34 20
theorem ww23_35 : wfR wL23 wH35 := w_X6_init (show isO wL22 20 6 = true from by decide) ww22_34 (by decide)
def wH36 : eH := sR wH35 7 (6 : Int32).toNatClampNeg (some 20)
theorem ww23_36 : wfR wL23 wH36 := wf_sR ww23_35 (by decide)
def wL24 : eL := nW wL23 (.inl 6)
def wH37 : eH := zH wH36 22
theorem ww24_37 : wfR wL24 wH37 := wf_n (L := wL23) (s := .inl 6) ww23_36 (by decide)
def wL25 : eL := iL_X6_init wL24
def wH38 : eH := iH_X6_init wL24 wH37 22
theorem ww25_38 : wfR wL25 wH38 := w_X6_init (show isO wL24 22 6 = true from by decide) ww24_37 (by decide)
def wH39 : eH := sR wH38 7 (7 : Int32).toNatClampNeg (some 22)
theorem ww25_39 : wfR wL25 wH39 := wf_sR ww25_38 (by decide)
def wL26 : eL := nW wL25 (.inl 6)
def wH40 : eH := zH wH39 24
theorem ww26_40 : wfR wL26 wH40 := wf_n (L := wL25) (s := .inl 6) ww25_39 (by decide)
def wL27 : eL := iL_X6_init wL26
def wH41 : eH := iH_X6_init wL26 wH40 24
theorem ww27_41 : wfR wL27 wH41 := w_X6_init (show isO wL26 24 6 = true from by decide) ww26_40 (by decide)
def wH42 : eH := sR wH41 7 (8 : Int32).toNatClampNeg (some 24)
theorem ww27_42 : wfR wL27 wH42 := wf_sR ww27_41 (by decide)
def wL28 : eL := nW wL27 (.inl 6)
def wH43 : eH := zH wH42 26
theorem ww28_43 : wfR wL28 wH43 := wf_n (L := wL27) (s := .inl 6) ww27_42 (by decide)
def wL29 : eL := iL_X6_init wL28
def wH44 : eH := iH_X6_init wL28 wH43 26
theorem ww29_44 : wfR wL29 wH44 := w_X6_init (show isO wL28 26 6 = true from by decide) ww28_43 (by decide)
def wH45 : eH := sR wH44 7 (9 : Int32).toNatClampNeg (some 26)
theorem ww29_45 : wfR wL29 wH45 := wf_sR ww29_44 (by decide)
def wL30 : eL := nW wL29 (.inl 6)
def wH46 : eH := zH wH45 28
theorem ww30_46 : wfR wL30 wH46 := wf_n (L := wL29) (s := .inl 6) ww29_45 (by decide)
def wL31 : eL := iL_X6_init wL30
def wH47 : eH := iH_X6_init wL30 wH46 28
theorem ww31_47 : wfR wL31 wH47 := w_X6_init (show isO wL30 28 6 = true from by decide) ww30_46 (by decide)
def wH48 : eH := sR wH47 7 (10 : Int32).toNatClampNeg (some 28)
theorem ww31_48 : wfR wL31 wH48 := wf_sR ww31_47 (by decide)
def wL32 : eL := nW wL31 (.inl 6)
def wH49 : eH := zH wH48 30
theorem ww32_49 : wfR wL32 wH49 := wf_n (L := wL31) (s := .inl 6) ww31_48 (by decide)
def wL33 : eL := iL_X6_init wL32
def wH50 : eH := iH_X6_init wL32 wH49 30
theorem ww33_50 : wfR wL33 wH50 := w_X6_init (show isO wL32 30 6 = true from by decide) ww32_49 (by decide)
def wH51 : eH := sR wH50 7 (11 : Int32).toNatClampNeg (some 30)
theorem ww33_51 : wfR wL33 wH51 := wf_sR ww33_50 (by decide)
def wL34 : eL := nW wL33 (.inl 6)
def wH52 : eH := zH wH51 32
theorem ww34_52 : wfR wL34 wH52 := wf_n (L := wL33) (s := .inl 6) ww33_51 (by decide)
def wL35 : eL := iL_X6_init wL34
def wH53 : eH := iH_X6_init wL34 wH52 32
theorem ww35_53 : wfR wL35 wH53 := w_X6_init (show isO wL34 32 6 = true from by decide) ww34_52 (by decide)
def wH54 : eH := sR wH53 7 (12 : Int32).toNatClampNeg (some 32)
theorem ww35_54 : wfR wL35 wH54 := wf_sR ww35_53 (by decide)
def wL36 : eL := nW wL35 (.inl 6)
def wH55 : eH := zH wH54 34
theorem ww36_55 : wfR wL36 wH55 := wf_n (L := wL35) (s := .inl 6) ww35_54 (by decide)
def wL37 : eL := iL_X6_init wL36
def wH56 : eH := iH_X6_init wL36 wH55 34
theorem ww37_56 : wfR wL37 wH56 := w_X6_init (show isO wL36 34 6 = true from by decide) ww36_55 (by decide)
def wH57 : eH := sR wH56 7 (13 : Int32).toNatClampNeg (some 34)
theorem ww37_57 : wfR wL37 wH57 := wf_sR ww37_56 (by decide)
def wL38 : eL := nW wL37 (.inl 6)
def wH58 : eH := zH wH57 36
theorem ww38_58 : wfR wL38 wH58 := wf_n (L := wL37) (s := .inl 6) ww37_57 (by decide)
def wL39 : eL := iL_X6_init wL38
def wH59 : eH := iH_X6_init wL38 wH58 36
theorem ww39_59 : wfR wL39 wH59 := w_X6_init (show isO wL38 36 6 = true from by decide) ww38_58 (by decide)
def wH60 : eH := sR wH59 7 (14 : Int32).toNatClampNeg (some 36)
theorem ww39_60 : wfR wL39 wH60 := wf_sR ww39_59 (by decide)
set_option maxRecDepth 100000 in
set_option maxHeartbeats 8000000 in
theorem m_X1_init {l : Launch} {d : Nat} (hd : 5 ≤ d) : e_Met l yX1_init cX1_init 2 none d 31 690 false wL8 wH11 [.ref 6] (Qx none wL39 wH60) := by
  refine e_metl (by decide) (Nat.le_of_ble_eq_true rfl) (lv := [(0, .ref 6)]) rfl ?_
  refine e_aload_n 0 dX1_init_0 rfl rfl ?_
  refine e_oinit ol_RX1_1 oi_i oi_c (by omega) (Nat.le_of_ble_eq_true rfl) dX1_init_1 ?_
  refine e_aload_n 0 dX1_init_4 rfl rfl ?_
  refine e_bipush (v := 15) dX1_init_5 (by decide) ?_
  refine e_newS (N := 15) cl_RX1_9 (by decide) (by decide) (by decide) ww8_11 (by decide) (okl_b (by decide)) ⟨Nat.le_of_ble_eq_true rfl, Nat.le_of_ble_eq_true rfl⟩ dX1_init_7 ?_
  refine e_ren (L' := wL9) (h' := wH12) (lv' := [(0, .ref 6)]) (st' := [.ref 7, .ref 6]) rfl rfl rfl rfl ?_
  refine e_putF (show isO wL9 6 1 = true from by decide) fc_1_0 rfl rfl rfl lk_RX1_11 dX1_init_10 ?_
  refine e_ren (L' := wL9) (h' := wH13) (lv' := [(0, .ref 6)]) (st' := []) rfl rfl rfl rfl ?_
  refine e_aload_n 0 dX1_init_13 rfl rfl ?_
  refine e_iconst (v := 0) dX1_init_14 (by decide) ?_
  refine e_putI (show isO wL9 6 1 = true from by decide) fc_1_1 rfl lk_RX1_15 dX1_init_15 ?_
  refine e_ren (L' := wL9) (h' := wH14) (lv' := [(0, .ref 6)]) (st' := []) rfl rfl rfl rfl ?_
  refine e_aload_n 0 dX1_init_18 rfl rfl ?_
  refine e_iconst (v := 0) dX1_init_19 (by decide) ?_
  refine e_putI (show isO wL9 6 1 = true from by decide) fc_1_2 rfl lk_RX1_19 dX1_init_20 ?_
  refine e_ren (L' := wL9) (h' := wH15) (lv' := [(0, .ref 6)]) (st' := []) rfl rfl rfl rfl ?_
  refine e_iconst (v := 0) dX1_init_23 (by decide) ?_
  refine e_istore_n (lv' := [(1, .int 0), (0, .ref 6)]) dX1_init_24 rfl (by decide) rfl ?_
  refine e_iload_n 0 dX1_init_25 rfl rfl ?_
  refine e_bipush (v := 15) dX1_init_26 (by decide) ?_
  refine e_icmp_ge (t := 50) dX1_init_28 (by decide) (fun c => absurd c (by decide)) (fun _ => ?_)
  refine e_aload_n 1 dX1_init_31 rfl rfl ?_
  refine e_getR (show isO wL9 6 1 = true from by decide) fc_1_0 lk_RX1_11 dX1_init_32 (b := 7) (by rfl) ?_
  refine e_iload_n 0 dX1_init_35 rfl rfl ?_
  refine e_new (ci := 6) (by decide) (e_df0 6 (by decide)) cl_RX1_9 it_6 in_6 ww9_15 (by decide) (okl_b (by decide)) ⟨Nat.le_of_ble_eq_true rfl, Nat.le_of_ble_eq_true rfl⟩ dX1_init_36 ?_
  refine e_ren (L' := wL10) (h' := wH16) (lv' := [(1, .int 0), (0, .ref 6)]) (st' := [.ref 8, .int 0, .ref 7]) rfl rfl rfl rfl ?_
  refine e_dupR dX1_init_39 ?_
  refine e_callIN (st := [.ref 8, .int 0, .ref 7]) ml_RX1_22 k_X6_init (m_X6_init (d := d - 1) (by omega) (show isO wL10 8 6 = true from by decide) ww10_16 (by decide)) (by decide) (okl_b (by decide)) rfl rfl (Nat.le_of_ble_eq_true rfl) ⟨by omega, by decide⟩ ⟨Nat.le_of_ble_eq_true rfl, Nat.le_of_ble_eq_true rfl⟩ dX1_init_40 ?_
  refine e_ren (L' := wL11) (h' := wH17) (lv' := [(1, .int 0), (0, .ref 6)]) (st' := [.ref 8, .int 0, .ref 7]) rfl rfl rfl rfl ?_
  refine e_rast (by decide) (show isO wL11 8 6 = true from by decide) dX1_init_43 ?_
  refine e_ren (L' := wL11) (h' := wH18) (lv' := [(1, .int 0), (0, .ref 6)]) (st' := []) rfl rfl rfl rfl ?_
  refine e_iinc (lv' := [(1, .int 1), (0, .ref 6)]) 0 dX1_init_44 rfl (by decide) (by first | rfl | decide) ?_
  refine e_goto (t := 25) dX1_init_47 (by decide) ?_
  refine e_iload_n 0 dX1_init_25 rfl rfl ?_
  refine e_bipush (v := 15) dX1_init_26 (by decide) ?_
  refine e_icmp_ge (t := 50) dX1_init_28 (by decide) (fun c => absurd c (by decide)) (fun _ => ?_)
  refine e_aload_n 1 dX1_init_31 rfl rfl ?_
  refine e_getR (show isO wL11 6 1 = true from by decide) fc_1_0 lk_RX1_11 dX1_init_32 (b := 7) (by rfl) ?_
  refine e_iload_n 0 dX1_init_35 rfl rfl ?_
  refine e_new (ci := 6) (by decide) (e_df0 6 (by decide)) cl_RX1_9 it_6 in_6 ww11_18 (by decide) (okl_b (by decide)) ⟨Nat.le_of_ble_eq_true rfl, Nat.le_of_ble_eq_true rfl⟩ dX1_init_36 ?_
  refine e_ren (L' := wL12) (h' := wH19) (lv' := [(1, .int 1), (0, .ref 6)]) (st' := [.ref 10, .int 1, .ref 7]) rfl rfl rfl rfl ?_
  refine e_dupR dX1_init_39 ?_
  refine e_callIN (st := [.ref 10, .int 1, .ref 7]) ml_RX1_22 k_X6_init (m_X6_init (d := d - 1) (by omega) (show isO wL12 10 6 = true from by decide) ww12_19 (by decide)) (by decide) (okl_b (by decide)) rfl rfl (Nat.le_of_ble_eq_true rfl) ⟨by omega, by decide⟩ ⟨Nat.le_of_ble_eq_true rfl, Nat.le_of_ble_eq_true rfl⟩ dX1_init_40 ?_
  refine e_ren (L' := wL13) (h' := wH20) (lv' := [(1, .int 1), (0, .ref 6)]) (st' := [.ref 10, .int 1, .ref 7]) rfl rfl rfl rfl ?_
  refine e_rast (by decide) (show isO wL13 10 6 = true from by decide) dX1_init_43 ?_
  refine e_ren (L' := wL13) (h' := wH21) (lv' := [(1, .int 1), (0, .ref 6)]) (st' := []) rfl rfl rfl rfl ?_
  refine e_iinc (lv' := [(1, .int 2), (0, .ref 6)]) 0 dX1_init_44 rfl (by decide) (by first | rfl | decide) ?_
  refine e_goto (t := 25) dX1_init_47 (by decide) ?_
  refine e_iload_n 0 dX1_init_25 rfl rfl ?_
  refine e_bipush (v := 15) dX1_init_26 (by decide) ?_
  refine e_icmp_ge (t := 50) dX1_init_28 (by decide) (fun c => absurd c (by decide)) (fun _ => ?_)
  refine e_aload_n 1 dX1_init_31 rfl rfl ?_
  refine e_getR (show isO wL13 6 1 = true from by decide) fc_1_0 lk_RX1_11 dX1_init_32 (b := 7) (by rfl) ?_
  refine e_iload_n 0 dX1_init_35 rfl rfl ?_
  refine e_new (ci := 6) (by decide) (e_df0 6 (by decide)) cl_RX1_9 it_6 in_6 ww13_21 (by decide) (okl_b (by decide)) ⟨Nat.le_of_ble_eq_true rfl, Nat.le_of_ble_eq_true rfl⟩ dX1_init_36 ?_
  refine e_ren (L' := wL14) (h' := wH22) (lv' := [(1, .int 2), (0, .ref 6)]) (st' := [.ref 12, .int 2, .ref 7]) rfl rfl rfl rfl ?_
  refine e_dupR dX1_init_39 ?_
  refine e_callIN (st := [.ref 12, .int 2, .ref 7]) ml_RX1_22 k_X6_init (m_X6_init (d := d - 1) (by omega) (show isO wL14 12 6 = true from by decide) ww14_22 (by decide)) (by decide) (okl_b (by decide)) rfl rfl (Nat.le_of_ble_eq_true rfl) ⟨by omega, by decide⟩ ⟨Nat.le_of_ble_eq_true rfl, Nat.le_of_ble_eq_true rfl⟩ dX1_init_40 ?_
  refine e_ren (L' := wL15) (h' := wH23) (lv' := [(1, .int 2), (0, .ref 6)]) (st' := [.ref 12, .int 2, .ref 7]) rfl rfl rfl rfl ?_
  refine e_rast (by decide) (show isO wL15 12 6 = true from by decide) dX1_init_43 ?_
  refine e_ren (L' := wL15) (h' := wH24) (lv' := [(1, .int 2), (0, .ref 6)]) (st' := []) rfl rfl rfl rfl ?_
  refine e_iinc (lv' := [(1, .int 3), (0, .ref 6)]) 0 dX1_init_44 rfl (by decide) (by first | rfl | decide) ?_
  refine e_goto (t := 25) dX1_init_47 (by decide) ?_
  refine e_iload_n 0 dX1_init_25 rfl rfl ?_
  refine e_bipush (v := 15) dX1_init_26 (by decide) ?_
  refine e_icmp_ge (t := 50) dX1_init_28 (by decide) (fun c => absurd c (by decide)) (fun _ => ?_)
  refine e_aload_n 1 dX1_init_31 rfl rfl ?_
  refine e_getR (show isO wL15 6 1 = true from by decide) fc_1_0 lk_RX1_11 dX1_init_32 (b := 7) (by rfl) ?_
  refine e_iload_n 0 dX1_init_35 rfl rfl ?_
  refine e_new (ci := 6) (by decide) (e_df0 6 (by decide)) cl_RX1_9 it_6 in_6 ww15_24 (by decide) (okl_b (by decide)) ⟨Nat.le_of_ble_eq_true rfl, Nat.le_of_ble_eq_true rfl⟩ dX1_init_36 ?_
  refine e_ren (L' := wL16) (h' := wH25) (lv' := [(1, .int 3), (0, .ref 6)]) (st' := [.ref 14, .int 3, .ref 7]) rfl rfl rfl rfl ?_
  refine e_dupR dX1_init_39 ?_
  refine e_callIN (st := [.ref 14, .int 3, .ref 7]) ml_RX1_22 k_X6_init (m_X6_init (d := d - 1) (by omega) (show isO wL16 14 6 = true from by decide) ww16_25 (by decide)) (by decide) (okl_b (by decide)) rfl rfl (Nat.le_of_ble_eq_true rfl) ⟨by omega, by decide⟩ ⟨Nat.le_of_ble_eq_true rfl, Nat.le_of_ble_eq_true rfl⟩ dX1_init_40 ?_
  refine e_ren (L' := wL17) (h' := wH26) (lv' := [(1, .int 3), (0, .ref 6)]) (st' := [.ref 14, .int 3, .ref 7]) rfl rfl rfl rfl ?_
  refine e_rast (by decide) (show isO wL17 14 6 = true from by decide) dX1_init_43 ?_
  refine e_ren (L' := wL17) (h' := wH27) (lv' := [(1, .int 3), (0, .ref 6)]) (st' := []) rfl rfl rfl rfl ?_
  refine e_iinc (lv' := [(1, .int 4), (0, .ref 6)]) 0 dX1_init_44 rfl (by decide) (by first | rfl | decide) ?_
  refine e_goto (t := 25) dX1_init_47 (by decide) ?_
  refine e_iload_n 0 dX1_init_25 rfl rfl ?_
  refine e_bipush (v := 15) dX1_init_26 (by decide) ?_
  refine e_icmp_ge (t := 50) dX1_init_28 (by decide) (fun c => absurd c (by decide)) (fun _ => ?_)
  refine e_aload_n 1 dX1_init_31 rfl rfl ?_
  refine e_getR (show isO wL17 6 1 = true from by decide) fc_1_0 lk_RX1_11 dX1_init_32 (b := 7) (by rfl) ?_
  refine e_iload_n 0 dX1_init_35 rfl rfl ?_
  refine e_new (ci := 6) (by decide) (e_df0 6 (by decide)) cl_RX1_9 it_6 in_6 ww17_27 (by decide) (okl_b (by decide)) ⟨Nat.le_of_ble_eq_true rfl, Nat.le_of_ble_eq_true rfl⟩ dX1_init_36 ?_
  refine e_ren (L' := wL18) (h' := wH28) (lv' := [(1, .int 4), (0, .ref 6)]) (st' := [.ref 16, .int 4, .ref 7]) rfl rfl rfl rfl ?_
  refine e_dupR dX1_init_39 ?_
  refine e_callIN (st := [.ref 16, .int 4, .ref 7]) ml_RX1_22 k_X6_init (m_X6_init (d := d - 1) (by omega) (show isO wL18 16 6 = true from by decide) ww18_28 (by decide)) (by decide) (okl_b (by decide)) rfl rfl (Nat.le_of_ble_eq_true rfl) ⟨by omega, by decide⟩ ⟨Nat.le_of_ble_eq_true rfl, Nat.le_of_ble_eq_true rfl⟩ dX1_init_40 ?_
  refine e_ren (L' := wL19) (h' := wH29) (lv' := [(1, .int 4), (0, .ref 6)]) (st' := [.ref 16, .int 4, .ref 7]) rfl rfl rfl rfl ?_
  refine e_rast (by decide) (show isO wL19 16 6 = true from by decide) dX1_init_43 ?_
  refine e_ren (L' := wL19) (h' := wH30) (lv' := [(1, .int 4), (0, .ref 6)]) (st' := []) rfl rfl rfl rfl ?_
  refine e_iinc (lv' := [(1, .int 5), (0, .ref 6)]) 0 dX1_init_44 rfl (by decide) (by first | rfl | decide) ?_
  refine e_goto (t := 25) dX1_init_47 (by decide) ?_
  refine e_iload_n 0 dX1_init_25 rfl rfl ?_
  refine e_bipush (v := 15) dX1_init_26 (by decide) ?_
  refine e_icmp_ge (t := 50) dX1_init_28 (by decide) (fun c => absurd c (by decide)) (fun _ => ?_)
  refine e_aload_n 1 dX1_init_31 rfl rfl ?_
  refine e_getR (show isO wL19 6 1 = true from by decide) fc_1_0 lk_RX1_11 dX1_init_32 (b := 7) (by rfl) ?_
  refine e_iload_n 0 dX1_init_35 rfl rfl ?_
  refine e_new (ci := 6) (by decide) (e_df0 6 (by decide)) cl_RX1_9 it_6 in_6 ww19_30 (by decide) (okl_b (by decide)) ⟨Nat.le_of_ble_eq_true rfl, Nat.le_of_ble_eq_true rfl⟩ dX1_init_36 ?_
  refine e_ren (L' := wL20) (h' := wH31) (lv' := [(1, .int 5), (0, .ref 6)]) (st' := [.ref 18, .int 5, .ref 7]) rfl rfl rfl rfl ?_
  refine e_dupR dX1_init_39 ?_
  refine e_callIN (st := [.ref 18, .int 5, .ref 7]) ml_RX1_22 k_X6_init (m_X6_init (d := d - 1) (by omega) (show isO wL20 18 6 = true from by decide) ww20_31 (by decide)) (by decide) (okl_b (by decide)) rfl rfl (Nat.le_of_ble_eq_true rfl) ⟨by omega, by decide⟩ ⟨Nat.le_of_ble_eq_true rfl, Nat.le_of_ble_eq_true rfl⟩ dX1_init_40 ?_
  refine e_ren (L' := wL21) (h' := wH32) (lv' := [(1, .int 5), (0, .ref 6)]) (st' := [.ref 18, .int 5, .ref 7]) rfl rfl rfl rfl ?_
  refine e_rast (by decide) (show isO wL21 18 6 = true from by decide) dX1_init_43 ?_
  refine e_ren (L' := wL21) (h' := wH33) (lv' := [(1, .int 5), (0, .ref 6)]) (st' := []) rfl rfl rfl rfl ?_
  refine e_iinc (lv' := [(1, .int 6), (0, .ref 6)]) 0 dX1_init_44 rfl (by decide) (by first | rfl | decide) ?_
  refine e_goto (t := 25) dX1_init_47 (by decide) ?_
  refine e_iload_n 0 dX1_init_25 rfl rfl ?_
  refine e_bipush (v := 15) dX1_init_26 (by decide) ?_
  refine e_icmp_ge (t := 50) dX1_init_28 (by decide) (fun c => absurd c (by decide)) (fun _ => ?_)
  refine e_aload_n 1 dX1_init_31 rfl rfl ?_
  refine e_getR (show isO wL21 6 1 = true from by decide) fc_1_0 lk_RX1_11 dX1_init_32 (b := 7) (by rfl) ?_
  refine e_iload_n 0 dX1_init_35 rfl rfl ?_
  refine e_new (ci := 6) (by decide) (e_df0 6 (by decide)) cl_RX1_9 it_6 in_6 ww21_33 (by decide) (okl_b (by decide)) ⟨Nat.le_of_ble_eq_true rfl, Nat.le_of_ble_eq_true rfl⟩ dX1_init_36 ?_
  refine e_ren (L' := wL22) (h' := wH34) (lv' := [(1, .int 6), (0, .ref 6)]) (st' := [.ref 20, .int 6, .ref 7]) rfl rfl rfl rfl ?_
  refine e_dupR dX1_init_39 ?_
  refine e_callIN (st := [.ref 20, .int 6, .ref 7]) ml_RX1_22 k_X6_init (m_X6_init (d := d - 1) (by omega) (show isO wL22 20 6 = true from by decide) ww22_34 (by decide)) (by decide) (okl_b (by decide)) rfl rfl (Nat.le_of_ble_eq_true rfl) ⟨by omega, by decide⟩ ⟨Nat.le_of_ble_eq_true rfl, Nat.le_of_ble_eq_true rfl⟩ dX1_init_40 ?_
  refine e_ren (L' := wL23) (h' := wH35) (lv' := [(1, .int 6), (0, .ref 6)]) (st' := [.ref 20, .int 6, .ref 7]) rfl rfl rfl rfl ?_
  refine e_rast (by decide) (show isO wL23 20 6 = true from by decide) dX1_init_43 ?_
  refine e_ren (L' := wL23) (h' := wH36) (lv' := [(1, .int 6), (0, .ref 6)]) (st' := []) rfl rfl rfl rfl ?_
  refine e_iinc (lv' := [(1, .int 7), (0, .ref 6)]) 0 dX1_init_44 rfl (by decide) (by first | rfl | decide) ?_
  refine e_goto (t := 25) dX1_init_47 (by decide) ?_
  refine e_iload_n 0 dX1_init_25 rfl rfl ?_
  refine e_bipush (v := 15) dX1_init_26 (by decide) ?_
  refine e_icmp_ge (t := 50) dX1_init_28 (by decide) (fun c => absurd c (by decide)) (fun _ => ?_)
  refine e_aload_n 1 dX1_init_31 rfl rfl ?_
  refine e_getR (show isO wL23 6 1 = true from by decide) fc_1_0 lk_RX1_11 dX1_init_32 (b := 7) (by rfl) ?_
  refine e_iload_n 0 dX1_init_35 rfl rfl ?_
  refine e_new (ci := 6) (by decide) (e_df0 6 (by decide)) cl_RX1_9 it_6 in_6 ww23_36 (by decide) (okl_b (by decide)) ⟨Nat.le_of_ble_eq_true rfl, Nat.le_of_ble_eq_true rfl⟩ dX1_init_36 ?_
  refine e_ren (L' := wL24) (h' := wH37) (lv' := [(1, .int 7), (0, .ref 6)]) (st' := [.ref 22, .int 7, .ref 7]) rfl rfl rfl rfl ?_
  refine e_dupR dX1_init_39 ?_
  refine e_callIN (st := [.ref 22, .int 7, .ref 7]) ml_RX1_22 k_X6_init (m_X6_init (d := d - 1) (by omega) (show isO wL24 22 6 = true from by decide) ww24_37 (by decide)) (by decide) (okl_b (by decide)) rfl rfl (Nat.le_of_ble_eq_true rfl) ⟨by omega, by decide⟩ ⟨Nat.le_of_ble_eq_true rfl, Nat.le_of_ble_eq_true rfl⟩ dX1_init_40 ?_
  refine e_ren (L' := wL25) (h' := wH38) (lv' := [(1, .int 7), (0, .ref 6)]) (st' := [.ref 22, .int 7, .ref 7]) rfl rfl rfl rfl ?_
  refine e_rast (by decide) (show isO wL25 22 6 = true from by decide) dX1_init_43 ?_
  refine e_ren (L' := wL25) (h' := wH39) (lv' := [(1, .int 7), (0, .ref 6)]) (st' := []) rfl rfl rfl rfl ?_
  refine e_iinc (lv' := [(1, .int 8), (0, .ref 6)]) 0 dX1_init_44 rfl (by decide) (by first | rfl | decide) ?_
  refine e_goto (t := 25) dX1_init_47 (by decide) ?_
  refine e_iload_n 0 dX1_init_25 rfl rfl ?_
  refine e_bipush (v := 15) dX1_init_26 (by decide) ?_
  refine e_icmp_ge (t := 50) dX1_init_28 (by decide) (fun c => absurd c (by decide)) (fun _ => ?_)
  refine e_aload_n 1 dX1_init_31 rfl rfl ?_
  refine e_getR (show isO wL25 6 1 = true from by decide) fc_1_0 lk_RX1_11 dX1_init_32 (b := 7) (by rfl) ?_
  refine e_iload_n 0 dX1_init_35 rfl rfl ?_
  refine e_new (ci := 6) (by decide) (e_df0 6 (by decide)) cl_RX1_9 it_6 in_6 ww25_39 (by decide) (okl_b (by decide)) ⟨Nat.le_of_ble_eq_true rfl, Nat.le_of_ble_eq_true rfl⟩ dX1_init_36 ?_
  refine e_ren (L' := wL26) (h' := wH40) (lv' := [(1, .int 8), (0, .ref 6)]) (st' := [.ref 24, .int 8, .ref 7]) rfl rfl rfl rfl ?_
  refine e_dupR dX1_init_39 ?_
  refine e_callIN (st := [.ref 24, .int 8, .ref 7]) ml_RX1_22 k_X6_init (m_X6_init (d := d - 1) (by omega) (show isO wL26 24 6 = true from by decide) ww26_40 (by decide)) (by decide) (okl_b (by decide)) rfl rfl (Nat.le_of_ble_eq_true rfl) ⟨by omega, by decide⟩ ⟨Nat.le_of_ble_eq_true rfl, Nat.le_of_ble_eq_true rfl⟩ dX1_init_40 ?_
  refine e_ren (L' := wL27) (h' := wH41) (lv' := [(1, .int 8), (0, .ref 6)]) (st' := [.ref 24, .int 8, .ref 7]) rfl rfl rfl rfl ?_
  refine e_rast (by decide) (show isO wL27 24 6 = true from by decide) dX1_init_43 ?_
  refine e_ren (L' := wL27) (h' := wH42) (lv' := [(1, .int 8), (0, .ref 6)]) (st' := []) rfl rfl rfl rfl ?_
  refine e_iinc (lv' := [(1, .int 9), (0, .ref 6)]) 0 dX1_init_44 rfl (by decide) (by first | rfl | decide) ?_
  refine e_goto (t := 25) dX1_init_47 (by decide) ?_
  refine e_iload_n 0 dX1_init_25 rfl rfl ?_
  refine e_bipush (v := 15) dX1_init_26 (by decide) ?_
  refine e_icmp_ge (t := 50) dX1_init_28 (by decide) (fun c => absurd c (by decide)) (fun _ => ?_)
  refine e_aload_n 1 dX1_init_31 rfl rfl ?_
  refine e_getR (show isO wL27 6 1 = true from by decide) fc_1_0 lk_RX1_11 dX1_init_32 (b := 7) (by rfl) ?_
  refine e_iload_n 0 dX1_init_35 rfl rfl ?_
  refine e_new (ci := 6) (by decide) (e_df0 6 (by decide)) cl_RX1_9 it_6 in_6 ww27_42 (by decide) (okl_b (by decide)) ⟨Nat.le_of_ble_eq_true rfl, Nat.le_of_ble_eq_true rfl⟩ dX1_init_36 ?_
  refine e_ren (L' := wL28) (h' := wH43) (lv' := [(1, .int 9), (0, .ref 6)]) (st' := [.ref 26, .int 9, .ref 7]) rfl rfl rfl rfl ?_
  refine e_dupR dX1_init_39 ?_
  refine e_callIN (st := [.ref 26, .int 9, .ref 7]) ml_RX1_22 k_X6_init (m_X6_init (d := d - 1) (by omega) (show isO wL28 26 6 = true from by decide) ww28_43 (by decide)) (by decide) (okl_b (by decide)) rfl rfl (Nat.le_of_ble_eq_true rfl) ⟨by omega, by decide⟩ ⟨Nat.le_of_ble_eq_true rfl, Nat.le_of_ble_eq_true rfl⟩ dX1_init_40 ?_
  refine e_ren (L' := wL29) (h' := wH44) (lv' := [(1, .int 9), (0, .ref 6)]) (st' := [.ref 26, .int 9, .ref 7]) rfl rfl rfl rfl ?_
  refine e_rast (by decide) (show isO wL29 26 6 = true from by decide) dX1_init_43 ?_
  refine e_ren (L' := wL29) (h' := wH45) (lv' := [(1, .int 9), (0, .ref 6)]) (st' := []) rfl rfl rfl rfl ?_
  refine e_iinc (lv' := [(1, .int 10), (0, .ref 6)]) 0 dX1_init_44 rfl (by decide) (by first | rfl | decide) ?_
  refine e_goto (t := 25) dX1_init_47 (by decide) ?_
  refine e_iload_n 0 dX1_init_25 rfl rfl ?_
  refine e_bipush (v := 15) dX1_init_26 (by decide) ?_
  refine e_icmp_ge (t := 50) dX1_init_28 (by decide) (fun c => absurd c (by decide)) (fun _ => ?_)
  refine e_aload_n 1 dX1_init_31 rfl rfl ?_
  refine e_getR (show isO wL29 6 1 = true from by decide) fc_1_0 lk_RX1_11 dX1_init_32 (b := 7) (by rfl) ?_
  refine e_iload_n 0 dX1_init_35 rfl rfl ?_
  refine e_new (ci := 6) (by decide) (e_df0 6 (by decide)) cl_RX1_9 it_6 in_6 ww29_45 (by decide) (okl_b (by decide)) ⟨Nat.le_of_ble_eq_true rfl, Nat.le_of_ble_eq_true rfl⟩ dX1_init_36 ?_
  refine e_ren (L' := wL30) (h' := wH46) (lv' := [(1, .int 10), (0, .ref 6)]) (st' := [.ref 28, .int 10, .ref 7]) rfl rfl rfl rfl ?_
  refine e_dupR dX1_init_39 ?_
  refine e_callIN (st := [.ref 28, .int 10, .ref 7]) ml_RX1_22 k_X6_init (m_X6_init (d := d - 1) (by omega) (show isO wL30 28 6 = true from by decide) ww30_46 (by decide)) (by decide) (okl_b (by decide)) rfl rfl (Nat.le_of_ble_eq_true rfl) ⟨by omega, by decide⟩ ⟨Nat.le_of_ble_eq_true rfl, Nat.le_of_ble_eq_true rfl⟩ dX1_init_40 ?_
  refine e_ren (L' := wL31) (h' := wH47) (lv' := [(1, .int 10), (0, .ref 6)]) (st' := [.ref 28, .int 10, .ref 7]) rfl rfl rfl rfl ?_
  refine e_rast (by decide) (show isO wL31 28 6 = true from by decide) dX1_init_43 ?_
  refine e_ren (L' := wL31) (h' := wH48) (lv' := [(1, .int 10), (0, .ref 6)]) (st' := []) rfl rfl rfl rfl ?_
  refine e_iinc (lv' := [(1, .int 11), (0, .ref 6)]) 0 dX1_init_44 rfl (by decide) (by first | rfl | decide) ?_
  refine e_goto (t := 25) dX1_init_47 (by decide) ?_
  refine e_iload_n 0 dX1_init_25 rfl rfl ?_
  refine e_bipush (v := 15) dX1_init_26 (by decide) ?_
  refine e_icmp_ge (t := 50) dX1_init_28 (by decide) (fun c => absurd c (by decide)) (fun _ => ?_)
  refine e_aload_n 1 dX1_init_31 rfl rfl ?_
  refine e_getR (show isO wL31 6 1 = true from by decide) fc_1_0 lk_RX1_11 dX1_init_32 (b := 7) (by rfl) ?_
  refine e_iload_n 0 dX1_init_35 rfl rfl ?_
  refine e_new (ci := 6) (by decide) (e_df0 6 (by decide)) cl_RX1_9 it_6 in_6 ww31_48 (by decide) (okl_b (by decide)) ⟨Nat.le_of_ble_eq_true rfl, Nat.le_of_ble_eq_true rfl⟩ dX1_init_36 ?_
  refine e_ren (L' := wL32) (h' := wH49) (lv' := [(1, .int 11), (0, .ref 6)]) (st' := [.ref 30, .int 11, .ref 7]) rfl rfl rfl rfl ?_
  refine e_dupR dX1_init_39 ?_
  refine e_callIN (st := [.ref 30, .int 11, .ref 7]) ml_RX1_22 k_X6_init (m_X6_init (d := d - 1) (by omega) (show isO wL32 30 6 = true from by decide) ww32_49 (by decide)) (by decide) (okl_b (by decide)) rfl rfl (Nat.le_of_ble_eq_true rfl) ⟨by omega, by decide⟩ ⟨Nat.le_of_ble_eq_true rfl, Nat.le_of_ble_eq_true rfl⟩ dX1_init_40 ?_
  refine e_ren (L' := wL33) (h' := wH50) (lv' := [(1, .int 11), (0, .ref 6)]) (st' := [.ref 30, .int 11, .ref 7]) rfl rfl rfl rfl ?_
  refine e_rast (by decide) (show isO wL33 30 6 = true from by decide) dX1_init_43 ?_
  refine e_ren (L' := wL33) (h' := wH51) (lv' := [(1, .int 11), (0, .ref 6)]) (st' := []) rfl rfl rfl rfl ?_
  refine e_iinc (lv' := [(1, .int 12), (0, .ref 6)]) 0 dX1_init_44 rfl (by decide) (by first | rfl | decide) ?_
  refine e_goto (t := 25) dX1_init_47 (by decide) ?_
  refine e_iload_n 0 dX1_init_25 rfl rfl ?_
  refine e_bipush (v := 15) dX1_init_26 (by decide) ?_
  refine e_icmp_ge (t := 50) dX1_init_28 (by decide) (fun c => absurd c (by decide)) (fun _ => ?_)
  refine e_aload_n 1 dX1_init_31 rfl rfl ?_
  refine e_getR (show isO wL33 6 1 = true from by decide) fc_1_0 lk_RX1_11 dX1_init_32 (b := 7) (by rfl) ?_
  refine e_iload_n 0 dX1_init_35 rfl rfl ?_
  refine e_new (ci := 6) (by decide) (e_df0 6 (by decide)) cl_RX1_9 it_6 in_6 ww33_51 (by decide) (okl_b (by decide)) ⟨Nat.le_of_ble_eq_true rfl, Nat.le_of_ble_eq_true rfl⟩ dX1_init_36 ?_
  refine e_ren (L' := wL34) (h' := wH52) (lv' := [(1, .int 12), (0, .ref 6)]) (st' := [.ref 32, .int 12, .ref 7]) rfl rfl rfl rfl ?_
  refine e_dupR dX1_init_39 ?_
  refine e_callIN (st := [.ref 32, .int 12, .ref 7]) ml_RX1_22 k_X6_init (m_X6_init (d := d - 1) (by omega) (show isO wL34 32 6 = true from by decide) ww34_52 (by decide)) (by decide) (okl_b (by decide)) rfl rfl (Nat.le_of_ble_eq_true rfl) ⟨by omega, by decide⟩ ⟨Nat.le_of_ble_eq_true rfl, Nat.le_of_ble_eq_true rfl⟩ dX1_init_40 ?_
  refine e_ren (L' := wL35) (h' := wH53) (lv' := [(1, .int 12), (0, .ref 6)]) (st' := [.ref 32, .int 12, .ref 7]) rfl rfl rfl rfl ?_
  refine e_rast (by decide) (show isO wL35 32 6 = true from by decide) dX1_init_43 ?_
  refine e_ren (L' := wL35) (h' := wH54) (lv' := [(1, .int 12), (0, .ref 6)]) (st' := []) rfl rfl rfl rfl ?_
  refine e_iinc (lv' := [(1, .int 13), (0, .ref 6)]) 0 dX1_init_44 rfl (by decide) (by first | rfl | decide) ?_
  refine e_goto (t := 25) dX1_init_47 (by decide) ?_
  refine e_iload_n 0 dX1_init_25 rfl rfl ?_
  refine e_bipush (v := 15) dX1_init_26 (by decide) ?_
  refine e_icmp_ge (t := 50) dX1_init_28 (by decide) (fun c => absurd c (by decide)) (fun _ => ?_)
  refine e_aload_n 1 dX1_init_31 rfl rfl ?_
  refine e_getR (show isO wL35 6 1 = true from by decide) fc_1_0 lk_RX1_11 dX1_init_32 (b := 7) (by rfl) ?_
  refine e_iload_n 0 dX1_init_35 rfl rfl ?_
  refine e_new (ci := 6) (by decide) (e_df0 6 (by decide)) cl_RX1_9 it_6 in_6 ww35_54 (by decide) (okl_b (by decide)) ⟨Nat.le_of_ble_eq_true rfl, Nat.le_of_ble_eq_true rfl⟩ dX1_init_36 ?_
  refine e_ren (L' := wL36) (h' := wH55) (lv' := [(1, .int 13), (0, .ref 6)]) (st' := [.ref 34, .int 13, .ref 7]) rfl rfl rfl rfl ?_
  refine e_dupR dX1_init_39 ?_
  refine e_callIN (st := [.ref 34, .int 13, .ref 7]) ml_RX1_22 k_X6_init (m_X6_init (d := d - 1) (by omega) (show isO wL36 34 6 = true from by decide) ww36_55 (by decide)) (by decide) (okl_b (by decide)) rfl rfl (Nat.le_of_ble_eq_true rfl) ⟨by omega, by decide⟩ ⟨Nat.le_of_ble_eq_true rfl, Nat.le_of_ble_eq_true rfl⟩ dX1_init_40 ?_
  refine e_ren (L' := wL37) (h' := wH56) (lv' := [(1, .int 13), (0, .ref 6)]) (st' := [.ref 34, .int 13, .ref 7]) rfl rfl rfl rfl ?_
  refine e_rast (by decide) (show isO wL37 34 6 = true from by decide) dX1_init_43 ?_
  refine e_ren (L' := wL37) (h' := wH57) (lv' := [(1, .int 13), (0, .ref 6)]) (st' := []) rfl rfl rfl rfl ?_
  refine e_iinc (lv' := [(1, .int 14), (0, .ref 6)]) 0 dX1_init_44 rfl (by decide) (by first | rfl | decide) ?_
  refine e_goto (t := 25) dX1_init_47 (by decide) ?_
  refine e_iload_n 0 dX1_init_25 rfl rfl ?_
  refine e_bipush (v := 15) dX1_init_26 (by decide) ?_
  refine e_icmp_ge (t := 50) dX1_init_28 (by decide) (fun c => absurd c (by decide)) (fun _ => ?_)
  refine e_aload_n 1 dX1_init_31 rfl rfl ?_
  refine e_getR (show isO wL37 6 1 = true from by decide) fc_1_0 lk_RX1_11 dX1_init_32 (b := 7) (by rfl) ?_
  refine e_iload_n 0 dX1_init_35 rfl rfl ?_
  refine e_new (ci := 6) (by decide) (e_df0 6 (by decide)) cl_RX1_9 it_6 in_6 ww37_57 (by decide) (okl_b (by decide)) ⟨Nat.le_of_ble_eq_true rfl, Nat.le_of_ble_eq_true rfl⟩ dX1_init_36 ?_
  refine e_ren (L' := wL38) (h' := wH58) (lv' := [(1, .int 14), (0, .ref 6)]) (st' := [.ref 36, .int 14, .ref 7]) rfl rfl rfl rfl ?_
  refine e_dupR dX1_init_39 ?_
  refine e_callIN (st := [.ref 36, .int 14, .ref 7]) ml_RX1_22 k_X6_init (m_X6_init (d := d - 1) (by omega) (show isO wL38 36 6 = true from by decide) ww38_58 (by decide)) (by decide) (okl_b (by decide)) rfl rfl (Nat.le_of_ble_eq_true rfl) ⟨by omega, by decide⟩ ⟨Nat.le_of_ble_eq_true rfl, Nat.le_of_ble_eq_true rfl⟩ dX1_init_40 ?_
  refine e_ren (L' := wL39) (h' := wH59) (lv' := [(1, .int 14), (0, .ref 6)]) (st' := [.ref 36, .int 14, .ref 7]) rfl rfl rfl rfl ?_
  refine e_rast (by decide) (show isO wL39 36 6 = true from by decide) dX1_init_43 ?_
  refine e_ren (L' := wL39) (h' := wH60) (lv' := [(1, .int 14), (0, .ref 6)]) (st' := []) rfl rfl rfl rfl ?_
  refine e_iinc (lv' := [(1, .int 15), (0, .ref 6)]) 0 dX1_init_44 rfl (by decide) (by first | rfl | decide) ?_
  refine e_goto (t := 25) dX1_init_47 (by decide) ?_
  refine e_iload_n 0 dX1_init_25 rfl rfl ?_
  refine e_bipush (v := 15) dX1_init_26 (by decide) ?_
  refine e_icmp_ge (t := 50) dX1_init_28 (by decide) (fun _ => ?_) (fun c => absurd (by decide) c)
  exact e_vret rfl dX1_init_50 ⟨rfl, rfl, rfl⟩
def wH61 : eH := sR wH60 0 3 (some 6)
theorem ww39_61 : wfR wL39 wH61 := wf_sR ww39_60 (by decide)
def wL40 : eL := nW wL39 (.inl 9)
def wH62 : eH := zH wH61 38
theorem ww40_62 : wfR wL40 wH62 := wf_n (L := wL39) (s := .inl 9) ww39_61 (by decide)
def wL41 : eL := iL_X9_init wL40
def wH63 : eH := iH_X9_init wL40 wH62 38
theorem ww41_63 : wfR wL41 wH63 := w_X9_init (show isO wL40 38 9 = true from by decide) ww40_62 (by decide)
def wH64 : eH := sR wH63 0 4 (some 38)
theorem ww41_64 : wfR wL41 wH64 := wf_sR ww41_63 (by decide)
def wL42 : eL := nW wL41 (.inl 0)
def wH65 : eH := zH wH64 40
theorem ww42_65 : wfR wL42 wH65 := wf_n (L := wL41) (s := .inl 0) ww41_64 (by decide)
def wL43 : eL := iL_X0_init wL42
def wH66 : eH := iH_X0_init wL42 wH65 40
theorem ww43_66 : wfR wL43 wH66 := w_X0_init (show isO wL42 40 0 = true from by decide) ww42_65 (by decide)
def wH67 : eH := sR wH66 0 5 (some 40)
theorem ww43_67 : wfR wL43 wH67 := wf_sR ww43_66 (by decide)
def wL44 : eL := nW wL43 (.inl 7)
def wH68 : eH := zH wH67 43
theorem ww44_68 : wfR wL44 wH68 := wf_n (L := wL43) (s := .inl 7) ww43_67 (by decide)
def wL45 : eL := iL_X7_init wL44
def wH69 : eH := iH_X7_init wL44 wH68 43
theorem ww45_69 : wfR wL45 wH69 := w_X7_init (show isO wL44 43 7 = true from by decide) ww44_68 (by decide)
def wH70 : eH := sR wH69 0 6 (some 43)
theorem ww45_70 : wfR wL45 wH70 := wf_sR ww45_69 (by decide)
def wL46 : eL := nW wL45 (.inl 6)
def wH71 : eH := zH wH70 46
theorem ww46_71 : wfR wL46 wH71 := wf_n (L := wL45) (s := .inl 6) ww45_70 (by decide)
def wL47 : eL := iL_X6_init wL46
def wH72 : eH := iH_X6_init wL46 wH71 46
theorem ww47_72 : wfR wL47 wH72 := w_X6_init (show isO wL46 46 6 = true from by decide) ww46_71 (by decide)
def wH73 : eH := sR wH72 0 7 (some 46)
theorem ww47_73 : wfR wL47 wH73 := wf_sR ww47_72 (by decide)
def wL48 : eL := nW wL47 (.inl 6)
def wH74 : eH := zH wH73 48
theorem ww48_74 : wfR wL48 wH74 := wf_n (L := wL47) (s := .inl 6) ww47_73 (by decide)
def wL49 : eL := iL_X6_init wL48
def wH75 : eH := iH_X6_init wL48 wH74 48
theorem ww49_75 : wfR wL49 wH75 := w_X6_init (show isO wL48 48 6 = true from by decide) ww48_74 (by decide)
def wH76 : eH := sR wH75 0 8 (some 48)
theorem ww49_76 : wfR wL49 wH76 := wf_sR ww49_75 (by decide)
def wL50 : eL := nW wL49 (.inl 6)
def wH77 : eH := zH wH76 50
theorem ww50_77 : wfR wL50 wH77 := wf_n (L := wL49) (s := .inl 6) ww49_76 (by decide)
def wL51 : eL := iL_X6_init wL50
def wH78 : eH := iH_X6_init wL50 wH77 50
theorem ww51_78 : wfR wL51 wH78 := w_X6_init (show isO wL50 50 6 = true from by decide) ww50_77 (by decide)
def wH79 : eH := sR wH78 0 9 (some 50)
theorem ww51_79 : wfR wL51 wH79 := wf_sR ww51_78 (by decide)
def wL52 : eL := nW wL51 (.inr (3, 3))
def wH80 : eH := zH wH79 52
theorem ww52_80 : wfR wL52 wH80 := wf_n (L := wL51) (s := .inr (3, 3)) ww51_79 (by decide)
def wH81 : eH := sR wH80 0 10 (some 52)
theorem ww52_81 : wfR wL52 wH81 := wf_sR ww52_80 (by decide)
def wL53 : eL := nW wL52 (.inl 6)
def wH82 : eH := zH wH81 53
theorem ww53_82 : wfR wL53 wH82 := wf_n (L := wL52) (s := .inl 6) ww52_81 (by decide)
def wL54 : eL := iL_X6_init wL53
def wH83 : eH := iH_X6_init wL53 wH82 53
theorem ww54_83 : wfR wL54 wH83 := w_X6_init (show isO wL53 53 6 = true from by decide) ww53_82 (by decide)
def wH84 : eH := sR wH83 52 (0 : Int32).toNatClampNeg (some 53)
theorem ww54_84 : wfR wL54 wH84 := wf_sR ww54_83 (by decide)
def wL55 : eL := nW wL54 (.inl 6)
def wH85 : eH := zH wH84 55
theorem ww55_85 : wfR wL55 wH85 := wf_n (L := wL54) (s := .inl 6) ww54_84 (by decide)
def wL56 : eL := iL_X6_init wL55
def wH86 : eH := iH_X6_init wL55 wH85 55
theorem ww56_86 : wfR wL56 wH86 := w_X6_init (show isO wL55 55 6 = true from by decide) ww55_85 (by decide)
def wH87 : eH := sR wH86 52 (1 : Int32).toNatClampNeg (some 55)
theorem ww56_87 : wfR wL56 wH87 := wf_sR ww56_86 (by decide)
def wL57 : eL := nW wL56 (.inl 6)
def wH88 : eH := zH wH87 57
theorem ww57_88 : wfR wL57 wH88 := wf_n (L := wL56) (s := .inl 6) ww56_87 (by decide)
def wL58 : eL := iL_X6_init wL57
def wH89 : eH := iH_X6_init wL57 wH88 57
theorem ww58_89 : wfR wL58 wH89 := w_X6_init (show isO wL57 57 6 = true from by decide) ww57_88 (by decide)
def wH90 : eH := sR wH89 52 (2 : Int32).toNatClampNeg (some 57)
theorem ww58_90 : wfR wL58 wH90 := wf_sR ww58_89 (by decide)
def wL59 : eL := nW wL58 (.inr (0, 1000))
def wH91 : eH := zH wH90 59
theorem ww59_91 : wfR wL59 wH91 := wf_n (L := wL58) (s := .inr (0, 1000)) ww58_90 (by decide)
def wH92 : eH := sR wH91 0 11 (some 59)
theorem ww59_92 : wfR wL59 wH92 := wf_sR ww59_91 (by decide)
def wL60 : eL := nW wL59 (.inr (0, 36))
def wH93 : eH := zH wH92 60
theorem ww60_93 : wfR wL60 wH93 := wf_n (L := wL59) (s := .inr (0, 36)) ww59_92 (by decide)
def wH94 : eH := sR wH93 0 12 (some 60)
theorem ww60_94 : wfR wL60 wH94 := wf_sR ww60_93 (by decide)
def wL61 : eL := nW wL60 (.inr (1, 36))
def wH95 : eH := zH wH94 61
theorem ww61_95 : wfR wL61 wH95 := wf_n (L := wL60) (s := .inr (1, 36)) ww60_94 (by decide)
def wH96 : eH := sR wH95 0 13 (some 61)
theorem ww61_96 : wfR wL61 wH96 := wf_sR ww61_95 (by decide)
def wL62 : eL := nW wL61 (.inr (1, 36))
def wH97 : eH := zH wH96 62
theorem ww62_97 : wfR wL62 wH97 := wf_n (L := wL61) (s := .inr (1, 36)) ww61_96 (by decide)
def wH98 : eH := sR wH97 0 14 (some 62)
theorem ww62_98 : wfR wL62 wH98 := wf_sR ww62_97 (by decide)
def wL63 : eL := nW wL62 (.inl 2)
def wH99 : eH := zH wH98 63
theorem ww63_99 : wfR wL63 wH99 := wf_n (L := wL62) (s := .inl 2) ww62_98 (by decide)
def wL64 : eL := iL_X2_init wL63
def wH100 : eH := iH_X2_init wL63 wH99 63
theorem ww64_100 : wfR wL64 wH100 := w_X2_init (show isO wL63 63 2 = true from by decide) ww63_99 (by decide)
def wH101 : eH := sR wH100 0 15 (some 63)
theorem ww64_101 : wfR wL64 wH101 := wf_sR ww64_100 (by decide)
def wL65 : eL := nW wL64 (.inl 2)
def wH102 : eH := zH wH101 65
theorem ww65_102 : wfR wL65 wH102 := wf_n (L := wL64) (s := .inl 2) ww64_101 (by decide)
def wL66 : eL := iL_X2_init wL65
def wH103 : eH := iH_X2_init wL65 wH102 65
theorem ww66_103 : wfR wL66 wH103 := w_X2_init (show isO wL65 65 2 = true from by decide) ww65_102 (by decide)
def wH104 : eH := sR wH103 0 16 (some 65)
theorem ww66_104 : wfR wL66 wH104 := wf_sR ww66_103 (by decide)
def wL67 : eL := nW wL66 (.inl 4)
def wH105 : eH := zH wH104 67
theorem ww67_105 : wfR wL67 wH105 := wf_n (L := wL66) (s := .inl 4) ww66_104 (by decide)
def wL68 : eL := iL_X4_init wL67
def wH106 : eH := iH_X4_init wL67 wH105 67
theorem ww68_106 : wfR wL68 wH106 := w_X4_init (show isO wL67 67 4 = true from by decide) ww67_105 (by decide)
def wH107 : eH := sR wH106 0 17 (some 67)
theorem ww68_107 : wfR wL68 wH107 := wf_sR ww68_106 (by decide)
def wL69 : eL := nW wL68 (.inl 4)
def wH108 : eH := zH wH107 70
theorem ww69_108 : wfR wL69 wH108 := wf_n (L := wL68) (s := .inl 4) ww68_107 (by decide)
def wL70 : eL := iL_X4_init wL69
def wH109 : eH := iH_X4_init wL69 wH108 70
theorem ww70_109 : wfR wL70 wH109 := w_X4_init (show isO wL69 70 4 = true from by decide) ww69_108 (by decide)
def wH110 : eH := sR wH109 0 18 (some 70)
theorem ww70_110 : wfR wL70 wH110 := wf_sR ww70_109 (by decide)
def wH111 : eH := sI wH110 0 19 0
theorem ww70_111 : wfR wL70 wH111 := wf_sI ww70_110
set_option maxRecDepth 100000 in
set_option maxHeartbeats 8000000 in
theorem m_X10_init {l : Launch} {d : Nat} (hd : 7 ≤ d) : e_Met l yX10_init cX10_init 2 none d 72 2569 false wL1 wH1 [.ref 0] (Qx none wL70 wH111) := by
  refine e_metl (by decide) (Nat.le_of_ble_eq_true rfl) (lv := [(0, .ref 0)]) rfl ?_
  refine e_aload_n 0 dX10_init_0 rfl rfl ?_
  refine e_oinit ol_RX10_3 oi_i oi_c (by omega) (Nat.le_of_ble_eq_true rfl) dX10_init_1 ?_
  refine e_aload_n 0 dX10_init_4 rfl rfl ?_
  refine e_new (ci := 8) (by decide) (e_df0 8 (by decide)) cl_RX10_9 it_8 in_8 ww1_1 (by decide) (okl_b (by decide)) ⟨Nat.le_of_ble_eq_true rfl, Nat.le_of_ble_eq_true rfl⟩ dX10_init_5 ?_
  refine e_ren (L' := wL2) (h' := wH2) (lv' := [(0, .ref 0)]) (st' := [.ref 1, .ref 0]) rfl rfl rfl rfl ?_
  refine e_dupR dX10_init_8 ?_
  refine e_callIN (st := [.ref 1, .ref 0]) ml_RX10_11 k_X8_init (m_X8_init (d := d - 1) (by omega) (show isO wL2 1 8 = true from by decide) ww2_2 (by decide)) (by decide) (okl_b (by decide)) rfl rfl (Nat.le_of_ble_eq_true rfl) ⟨by omega, by decide⟩ ⟨Nat.le_of_ble_eq_true rfl, Nat.le_of_ble_eq_true rfl⟩ dX10_init_9 ?_
  refine e_ren (L' := wL3) (h' := wH3) (lv' := [(0, .ref 0)]) (st' := [.ref 1, .ref 0]) rfl rfl rfl rfl ?_
  refine e_putF (show isO wL3 0 10 = true from by decide) fc_10_0 rfl rfl rfl lk_RX10_12 dX10_init_12 ?_
  refine e_ren (L' := wL3) (h' := wH4) (lv' := [(0, .ref 0)]) (st' := []) rfl rfl rfl rfl ?_
  refine e_aload_n 0 dX10_init_15 rfl rfl ?_
  refine e_new (ci := 3) (by decide) (e_df0 3 (by decide)) cl_RX10_16 it_3 in_3 ww3_4 (by decide) (okl_b (by decide)) ⟨Nat.le_of_ble_eq_true rfl, Nat.le_of_ble_eq_true rfl⟩ dX10_init_16 ?_
  refine e_ren (L' := wL4) (h' := wH5) (lv' := [(0, .ref 0)]) (st' := [.ref 3, .ref 0]) rfl rfl rfl rfl ?_
  refine e_dupR dX10_init_19 ?_
  refine e_callIN (st := [.ref 3, .ref 0]) ml_RX10_18 k_X3_init (m_X3_init (d := d - 1) (by omega) (show isO wL4 3 3 = true from by decide) ww4_5 (by decide)) (by decide) (okl_b (by decide)) rfl rfl (Nat.le_of_ble_eq_true rfl) ⟨by omega, by decide⟩ ⟨Nat.le_of_ble_eq_true rfl, Nat.le_of_ble_eq_true rfl⟩ dX10_init_20 ?_
  refine e_ren (L' := wL5) (h' := wH6) (lv' := [(0, .ref 0)]) (st' := [.ref 3, .ref 0]) rfl rfl rfl rfl ?_
  refine e_putF (show isO wL5 0 10 = true from by decide) fc_10_1 rfl rfl rfl lk_RX10_19 dX10_init_23 ?_
  refine e_ren (L' := wL5) (h' := wH7) (lv' := [(0, .ref 0)]) (st' := []) rfl rfl rfl rfl ?_
  refine e_aload_n 0 dX10_init_26 rfl rfl ?_
  refine e_new (ci := 5) (by decide) (e_df0 5 (by decide)) cl_RX10_23 it_5 in_5 ww5_7 (by decide) (okl_b (by decide)) ⟨Nat.le_of_ble_eq_true rfl, Nat.le_of_ble_eq_true rfl⟩ dX10_init_27 ?_
  refine e_ren (L' := wL6) (h' := wH8) (lv' := [(0, .ref 0)]) (st' := [.ref 5, .ref 0]) rfl rfl rfl rfl ?_
  refine e_dupR dX10_init_30 ?_
  refine e_callIN (st := [.ref 5, .ref 0]) ml_RX10_25 k_X5_init (m_X5_init (d := d - 1) (by omega) (show isO wL6 5 5 = true from by decide) ww6_8 (by decide)) (by decide) (okl_b (by decide)) rfl rfl (Nat.le_of_ble_eq_true rfl) ⟨by omega, by decide⟩ ⟨Nat.le_of_ble_eq_true rfl, Nat.le_of_ble_eq_true rfl⟩ dX10_init_31 ?_
  refine e_ren (L' := wL7) (h' := wH9) (lv' := [(0, .ref 0)]) (st' := [.ref 5, .ref 0]) rfl rfl rfl rfl ?_
  refine e_putF (show isO wL7 0 10 = true from by decide) fc_10_2 rfl rfl rfl lk_RX10_26 dX10_init_34 ?_
  refine e_ren (L' := wL7) (h' := wH10) (lv' := [(0, .ref 0)]) (st' := []) rfl rfl rfl rfl ?_
  refine e_aload_n 0 dX10_init_37 rfl rfl ?_
  refine e_new (ci := 1) (by decide) (e_df0 1 (by decide)) cl_RX10_30 it_1 in_1 ww7_10 (by decide) (okl_b (by decide)) ⟨Nat.le_of_ble_eq_true rfl, Nat.le_of_ble_eq_true rfl⟩ dX10_init_38 ?_
  refine e_ren (L' := wL8) (h' := wH11) (lv' := [(0, .ref 0)]) (st' := [.ref 6, .ref 0]) rfl rfl rfl rfl ?_
  refine e_dupR dX10_init_41 ?_
  refine e_callI (st := [.ref 6, .ref 0]) ml_RX10_32 k_X1_init (m_X1_init (d := d - 1) (by omega)) (by decide) (okl_b (by decide)) rfl rfl (Nat.le_of_ble_eq_true rfl) ⟨by omega, by decide⟩ ⟨Nat.le_of_ble_eq_true rfl, Nat.le_of_ble_eq_true rfl⟩ dX10_init_42 ?_
  refine e_ren (L' := wL39) (h' := wH60) (lv' := [(0, .ref 0)]) (st' := [.ref 6, .ref 0]) rfl rfl rfl rfl ?_
  refine e_putF (show isO wL39 0 10 = true from by decide) fc_10_3 rfl rfl rfl lk_RX10_33 dX10_init_45 ?_
  refine e_ren (L' := wL39) (h' := wH61) (lv' := [(0, .ref 0)]) (st' := []) rfl rfl rfl rfl ?_
  refine e_aload_n 0 dX10_init_48 rfl rfl ?_
  refine e_new (ci := 9) (by decide) (e_df0 9 (by decide)) cl_RX10_37 it_9 in_9 ww39_61 (by decide) (okl_b (by decide)) ⟨Nat.le_of_ble_eq_true rfl, Nat.le_of_ble_eq_true rfl⟩ dX10_init_49 ?_
  refine e_ren (L' := wL40) (h' := wH62) (lv' := [(0, .ref 0)]) (st' := [.ref 38, .ref 0]) rfl rfl rfl rfl ?_
  refine e_dupR dX10_init_52 ?_
  refine e_callIN (st := [.ref 38, .ref 0]) ml_RX10_39 k_X9_init (m_X9_init (d := d - 1) (by omega) (show isO wL40 38 9 = true from by decide) ww40_62 (by decide)) (by decide) (okl_b (by decide)) rfl rfl (Nat.le_of_ble_eq_true rfl) ⟨by omega, by decide⟩ ⟨Nat.le_of_ble_eq_true rfl, Nat.le_of_ble_eq_true rfl⟩ dX10_init_53 ?_
  refine e_ren (L' := wL41) (h' := wH63) (lv' := [(0, .ref 0)]) (st' := [.ref 38, .ref 0]) rfl rfl rfl rfl ?_
  refine e_putF (show isO wL41 0 10 = true from by decide) fc_10_4 rfl rfl rfl lk_RX10_40 dX10_init_56 ?_
  refine e_ren (L' := wL41) (h' := wH64) (lv' := [(0, .ref 0)]) (st' := []) rfl rfl rfl rfl ?_
  refine e_aload_n 0 dX10_init_59 rfl rfl ?_
  refine e_new (ci := 0) (by decide) (e_df0 0 (by decide)) cl_RX10_44 it_0 in_0 ww41_64 (by decide) (okl_b (by decide)) ⟨Nat.le_of_ble_eq_true rfl, Nat.le_of_ble_eq_true rfl⟩ dX10_init_60 ?_
  refine e_ren (L' := wL42) (h' := wH65) (lv' := [(0, .ref 0)]) (st' := [.ref 40, .ref 0]) rfl rfl rfl rfl ?_
  refine e_dupR dX10_init_63 ?_
  refine e_callIN (st := [.ref 40, .ref 0]) ml_RX10_46 k_X0_init (m_X0_init (d := d - 1) (by omega) (show isO wL42 40 0 = true from by decide) ww42_65 (by decide)) (by decide) (okl_b (by decide)) rfl rfl (Nat.le_of_ble_eq_true rfl) ⟨by omega, by decide⟩ ⟨Nat.le_of_ble_eq_true rfl, Nat.le_of_ble_eq_true rfl⟩ dX10_init_64 ?_
  refine e_ren (L' := wL43) (h' := wH66) (lv' := [(0, .ref 0)]) (st' := [.ref 40, .ref 0]) rfl rfl rfl rfl ?_
  refine e_putF (show isO wL43 0 10 = true from by decide) fc_10_5 rfl rfl rfl lk_RX10_47 dX10_init_67 ?_
  refine e_ren (L' := wL43) (h' := wH67) (lv' := [(0, .ref 0)]) (st' := []) rfl rfl rfl rfl ?_
  refine e_aload_n 0 dX10_init_70 rfl rfl ?_
  refine e_new (ci := 7) (by decide) (e_df0 7 (by decide)) cl_RX10_51 it_7 in_7 ww43_67 (by decide) (okl_b (by decide)) ⟨Nat.le_of_ble_eq_true rfl, Nat.le_of_ble_eq_true rfl⟩ dX10_init_71 ?_
  refine e_ren (L' := wL44) (h' := wH68) (lv' := [(0, .ref 0)]) (st' := [.ref 43, .ref 0]) rfl rfl rfl rfl ?_
  refine e_dupR dX10_init_74 ?_
  refine e_callIN (st := [.ref 43, .ref 0]) ml_RX10_53 k_X7_init (m_X7_init (d := d - 1) (by omega) (show isO wL44 43 7 = true from by decide) ww44_68 (by decide)) (by decide) (okl_b (by decide)) rfl rfl (Nat.le_of_ble_eq_true rfl) ⟨by omega, by decide⟩ ⟨Nat.le_of_ble_eq_true rfl, Nat.le_of_ble_eq_true rfl⟩ dX10_init_75 ?_
  refine e_ren (L' := wL45) (h' := wH69) (lv' := [(0, .ref 0)]) (st' := [.ref 43, .ref 0]) rfl rfl rfl rfl ?_
  refine e_putF (show isO wL45 0 10 = true from by decide) fc_10_6 rfl rfl rfl lk_RX10_54 dX10_init_78 ?_
  refine e_ren (L' := wL45) (h' := wH70) (lv' := [(0, .ref 0)]) (st' := []) rfl rfl rfl rfl ?_
  refine e_aload_n 0 dX10_init_81 rfl rfl ?_
  refine e_new (ci := 6) (by decide) (e_df0 6 (by decide)) cl_RX10_58 it_6 in_6 ww45_70 (by decide) (okl_b (by decide)) ⟨Nat.le_of_ble_eq_true rfl, Nat.le_of_ble_eq_true rfl⟩ dX10_init_82 ?_
  refine e_ren (L' := wL46) (h' := wH71) (lv' := [(0, .ref 0)]) (st' := [.ref 46, .ref 0]) rfl rfl rfl rfl ?_
  refine e_dupR dX10_init_85 ?_
  refine e_callIN (st := [.ref 46, .ref 0]) ml_RX10_60 k_X6_init (m_X6_init (d := d - 1) (by omega) (show isO wL46 46 6 = true from by decide) ww46_71 (by decide)) (by decide) (okl_b (by decide)) rfl rfl (Nat.le_of_ble_eq_true rfl) ⟨by omega, by decide⟩ ⟨Nat.le_of_ble_eq_true rfl, Nat.le_of_ble_eq_true rfl⟩ dX10_init_86 ?_
  refine e_ren (L' := wL47) (h' := wH72) (lv' := [(0, .ref 0)]) (st' := [.ref 46, .ref 0]) rfl rfl rfl rfl ?_
  refine e_putF (show isO wL47 0 10 = true from by decide) fc_10_7 rfl rfl rfl lk_RX10_61 dX10_init_89 ?_
  refine e_ren (L' := wL47) (h' := wH73) (lv' := [(0, .ref 0)]) (st' := []) rfl rfl rfl rfl ?_
  refine e_aload_n 0 dX10_init_92 rfl rfl ?_
  refine e_new (ci := 6) (by decide) (e_df0 6 (by decide)) cl_RX10_58 it_6 in_6 ww47_73 (by decide) (okl_b (by decide)) ⟨Nat.le_of_ble_eq_true rfl, Nat.le_of_ble_eq_true rfl⟩ dX10_init_93 ?_
  refine e_ren (L' := wL48) (h' := wH74) (lv' := [(0, .ref 0)]) (st' := [.ref 48, .ref 0]) rfl rfl rfl rfl ?_
  refine e_dupR dX10_init_96 ?_
  refine e_callIN (st := [.ref 48, .ref 0]) ml_RX10_60 k_X6_init (m_X6_init (d := d - 1) (by omega) (show isO wL48 48 6 = true from by decide) ww48_74 (by decide)) (by decide) (okl_b (by decide)) rfl rfl (Nat.le_of_ble_eq_true rfl) ⟨by omega, by decide⟩ ⟨Nat.le_of_ble_eq_true rfl, Nat.le_of_ble_eq_true rfl⟩ dX10_init_97 ?_
  refine e_ren (L' := wL49) (h' := wH75) (lv' := [(0, .ref 0)]) (st' := [.ref 48, .ref 0]) rfl rfl rfl rfl ?_
  refine e_putF (show isO wL49 0 10 = true from by decide) fc_10_8 rfl rfl rfl lk_RX10_65 dX10_init_100 ?_
  refine e_ren (L' := wL49) (h' := wH76) (lv' := [(0, .ref 0)]) (st' := []) rfl rfl rfl rfl ?_
  refine e_aload_n 0 dX10_init_103 rfl rfl ?_
  refine e_new (ci := 6) (by decide) (e_df0 6 (by decide)) cl_RX10_58 it_6 in_6 ww49_76 (by decide) (okl_b (by decide)) ⟨Nat.le_of_ble_eq_true rfl, Nat.le_of_ble_eq_true rfl⟩ dX10_init_104 ?_
  refine e_ren (L' := wL50) (h' := wH77) (lv' := [(0, .ref 0)]) (st' := [.ref 50, .ref 0]) rfl rfl rfl rfl ?_
  refine e_dupR dX10_init_107 ?_
  refine e_callIN (st := [.ref 50, .ref 0]) ml_RX10_60 k_X6_init (m_X6_init (d := d - 1) (by omega) (show isO wL50 50 6 = true from by decide) ww50_77 (by decide)) (by decide) (okl_b (by decide)) rfl rfl (Nat.le_of_ble_eq_true rfl) ⟨by omega, by decide⟩ ⟨Nat.le_of_ble_eq_true rfl, Nat.le_of_ble_eq_true rfl⟩ dX10_init_108 ?_
  refine e_ren (L' := wL51) (h' := wH78) (lv' := [(0, .ref 0)]) (st' := [.ref 50, .ref 0]) rfl rfl rfl rfl ?_
  refine e_putF (show isO wL51 0 10 = true from by decide) fc_10_9 rfl rfl rfl lk_RX10_68 dX10_init_111 ?_
  refine e_ren (L' := wL51) (h' := wH79) (lv' := [(0, .ref 0)]) (st' := []) rfl rfl rfl rfl ?_
  refine e_aload_n 0 dX10_init_114 rfl rfl ?_
  refine e_iconst (v := 3) dX10_init_115 (by decide) ?_
  refine e_newS (N := 3) cl_RX10_58 (by decide) (by decide) (by decide) ww51_79 (by decide) (okl_b (by decide)) ⟨Nat.le_of_ble_eq_true rfl, Nat.le_of_ble_eq_true rfl⟩ dX10_init_116 ?_
  refine e_ren (L' := wL52) (h' := wH80) (lv' := [(0, .ref 0)]) (st' := [.ref 52, .ref 0]) rfl rfl rfl rfl ?_
  refine e_putF (show isO wL52 0 10 = true from by decide) fc_10_10 rfl rfl rfl lk_RX10_71 dX10_init_119 ?_
  refine e_ren (L' := wL52) (h' := wH81) (lv' := [(0, .ref 0)]) (st' := []) rfl rfl rfl rfl ?_
  refine e_iconst (v := 0) dX10_init_122 (by decide) ?_
  refine e_istore_n (lv' := [(1, .int 0), (0, .ref 0)]) dX10_init_123 rfl (by decide) rfl ?_
  refine e_iload_n 0 dX10_init_124 rfl rfl ?_
  refine e_iconst (v := 3) dX10_init_125 (by decide) ?_
  refine e_icmp_ge (t := 148) dX10_init_126 (by decide) (fun c => absurd c (by decide)) (fun _ => ?_)
  refine e_aload_n 1 dX10_init_129 rfl rfl ?_
  refine e_getR (show isO wL52 0 10 = true from by decide) fc_10_10 lk_RX10_71 dX10_init_130 (b := 52) (by rfl) ?_
  refine e_iload_n 0 dX10_init_133 rfl rfl ?_
  refine e_new (ci := 6) (by decide) (e_df0 6 (by decide)) cl_RX10_58 it_6 in_6 ww52_81 (by decide) (okl_b (by decide)) ⟨Nat.le_of_ble_eq_true rfl, Nat.le_of_ble_eq_true rfl⟩ dX10_init_134 ?_
  refine e_ren (L' := wL53) (h' := wH82) (lv' := [(1, .int 0), (0, .ref 0)]) (st' := [.ref 53, .int 0, .ref 52]) rfl rfl rfl rfl ?_
  refine e_dupR dX10_init_137 ?_
  refine e_callIN (st := [.ref 53, .int 0, .ref 52]) ml_RX10_60 k_X6_init (m_X6_init (d := d - 1) (by omega) (show isO wL53 53 6 = true from by decide) ww53_82 (by decide)) (by decide) (okl_b (by decide)) rfl rfl (Nat.le_of_ble_eq_true rfl) ⟨by omega, by decide⟩ ⟨Nat.le_of_ble_eq_true rfl, Nat.le_of_ble_eq_true rfl⟩ dX10_init_138 ?_
  refine e_ren (L' := wL54) (h' := wH83) (lv' := [(1, .int 0), (0, .ref 0)]) (st' := [.ref 53, .int 0, .ref 52]) rfl rfl rfl rfl ?_
  refine e_rast (by decide) (show isO wL54 53 6 = true from by decide) dX10_init_141 ?_
  refine e_ren (L' := wL54) (h' := wH84) (lv' := [(1, .int 0), (0, .ref 0)]) (st' := []) rfl rfl rfl rfl ?_
  refine e_iinc (lv' := [(1, .int 1), (0, .ref 0)]) 0 dX10_init_142 rfl (by decide) (by first | rfl | decide) ?_
  refine e_goto (t := 124) dX10_init_145 (by decide) ?_
  refine e_iload_n 0 dX10_init_124 rfl rfl ?_
  refine e_iconst (v := 3) dX10_init_125 (by decide) ?_
  refine e_icmp_ge (t := 148) dX10_init_126 (by decide) (fun c => absurd c (by decide)) (fun _ => ?_)
  refine e_aload_n 1 dX10_init_129 rfl rfl ?_
  refine e_getR (show isO wL54 0 10 = true from by decide) fc_10_10 lk_RX10_71 dX10_init_130 (b := 52) (by rfl) ?_
  refine e_iload_n 0 dX10_init_133 rfl rfl ?_
  refine e_new (ci := 6) (by decide) (e_df0 6 (by decide)) cl_RX10_58 it_6 in_6 ww54_84 (by decide) (okl_b (by decide)) ⟨Nat.le_of_ble_eq_true rfl, Nat.le_of_ble_eq_true rfl⟩ dX10_init_134 ?_
  refine e_ren (L' := wL55) (h' := wH85) (lv' := [(1, .int 1), (0, .ref 0)]) (st' := [.ref 55, .int 1, .ref 52]) rfl rfl rfl rfl ?_
  refine e_dupR dX10_init_137 ?_
  refine e_callIN (st := [.ref 55, .int 1, .ref 52]) ml_RX10_60 k_X6_init (m_X6_init (d := d - 1) (by omega) (show isO wL55 55 6 = true from by decide) ww55_85 (by decide)) (by decide) (okl_b (by decide)) rfl rfl (Nat.le_of_ble_eq_true rfl) ⟨by omega, by decide⟩ ⟨Nat.le_of_ble_eq_true rfl, Nat.le_of_ble_eq_true rfl⟩ dX10_init_138 ?_
  refine e_ren (L' := wL56) (h' := wH86) (lv' := [(1, .int 1), (0, .ref 0)]) (st' := [.ref 55, .int 1, .ref 52]) rfl rfl rfl rfl ?_
  refine e_rast (by decide) (show isO wL56 55 6 = true from by decide) dX10_init_141 ?_
  refine e_ren (L' := wL56) (h' := wH87) (lv' := [(1, .int 1), (0, .ref 0)]) (st' := []) rfl rfl rfl rfl ?_
  refine e_iinc (lv' := [(1, .int 2), (0, .ref 0)]) 0 dX10_init_142 rfl (by decide) (by first | rfl | decide) ?_
  refine e_goto (t := 124) dX10_init_145 (by decide) ?_
  refine e_iload_n 0 dX10_init_124 rfl rfl ?_
  refine e_iconst (v := 3) dX10_init_125 (by decide) ?_
  refine e_icmp_ge (t := 148) dX10_init_126 (by decide) (fun c => absurd c (by decide)) (fun _ => ?_)
  refine e_aload_n 1 dX10_init_129 rfl rfl ?_
  refine e_getR (show isO wL56 0 10 = true from by decide) fc_10_10 lk_RX10_71 dX10_init_130 (b := 52) (by rfl) ?_
  refine e_iload_n 0 dX10_init_133 rfl rfl ?_
  refine e_new (ci := 6) (by decide) (e_df0 6 (by decide)) cl_RX10_58 it_6 in_6 ww56_87 (by decide) (okl_b (by decide)) ⟨Nat.le_of_ble_eq_true rfl, Nat.le_of_ble_eq_true rfl⟩ dX10_init_134 ?_
  refine e_ren (L' := wL57) (h' := wH88) (lv' := [(1, .int 2), (0, .ref 0)]) (st' := [.ref 57, .int 2, .ref 52]) rfl rfl rfl rfl ?_
  refine e_dupR dX10_init_137 ?_
  refine e_callIN (st := [.ref 57, .int 2, .ref 52]) ml_RX10_60 k_X6_init (m_X6_init (d := d - 1) (by omega) (show isO wL57 57 6 = true from by decide) ww57_88 (by decide)) (by decide) (okl_b (by decide)) rfl rfl (Nat.le_of_ble_eq_true rfl) ⟨by omega, by decide⟩ ⟨Nat.le_of_ble_eq_true rfl, Nat.le_of_ble_eq_true rfl⟩ dX10_init_138 ?_
  refine e_ren (L' := wL58) (h' := wH89) (lv' := [(1, .int 2), (0, .ref 0)]) (st' := [.ref 57, .int 2, .ref 52]) rfl rfl rfl rfl ?_
  refine e_rast (by decide) (show isO wL58 57 6 = true from by decide) dX10_init_141 ?_
  refine e_ren (L' := wL58) (h' := wH90) (lv' := [(1, .int 2), (0, .ref 0)]) (st' := []) rfl rfl rfl rfl ?_
  refine e_iinc (lv' := [(1, .int 3), (0, .ref 0)]) 0 dX10_init_142 rfl (by decide) (by first | rfl | decide) ?_
  refine e_goto (t := 124) dX10_init_145 (by decide) ?_
  refine e_iload_n 0 dX10_init_124 rfl rfl ?_
  refine e_iconst (v := 3) dX10_init_125 (by decide) ?_
  refine e_icmp_ge (t := 148) dX10_init_126 (by decide) (fun _ => ?_) (fun c => absurd (by decide) c)
  refine e_aload_n 1 dX10_init_148 rfl rfl ?_
  refine e_sipush (v := 1000) dX10_init_149 (by decide) ?_
  refine e_newI (N := 1000) aw_int (by decide) (by decide) (by decide) ww58_90 (by decide) (okl_b (by decide)) ⟨Nat.le_of_ble_eq_true rfl, Nat.le_of_ble_eq_true rfl⟩ dX10_init_152 ?_
  refine e_ren (L' := wL59) (h' := wH91) (lv' := [(1, .int 3), (0, .ref 0)]) (st' := [.ref 59, .ref 0]) rfl rfl rfl rfl ?_
  refine e_putF (show isO wL59 0 10 = true from by decide) fc_10_11 rfl rfl rfl lk_RX10_75 dX10_init_154 ?_
  refine e_ren (L' := wL59) (h' := wH92) (lv' := [(1, .int 3), (0, .ref 0)]) (st' := []) rfl rfl rfl rfl ?_
  refine e_aload_n 1 dX10_init_157 rfl rfl ?_
  refine e_bipush (v := 36) dX10_init_158 (by decide) ?_
  refine e_newI (N := 36) aw_int (by decide) (by decide) (by decide) ww59_92 (by decide) (okl_b (by decide)) ⟨Nat.le_of_ble_eq_true rfl, Nat.le_of_ble_eq_true rfl⟩ dX10_init_160 ?_
  refine e_ren (L' := wL60) (h' := wH93) (lv' := [(1, .int 3), (0, .ref 0)]) (st' := [.ref 60, .ref 0]) rfl rfl rfl rfl ?_
  refine e_putF (show isO wL60 0 10 = true from by decide) fc_10_12 rfl rfl rfl lk_RX10_79 dX10_init_162 ?_
  refine e_ren (L' := wL60) (h' := wH94) (lv' := [(1, .int 3), (0, .ref 0)]) (st' := []) rfl rfl rfl rfl ?_
  refine e_aload_n 1 dX10_init_165 rfl rfl ?_
  refine e_bipush (v := 36) dX10_init_166 (by decide) ?_
  refine e_newJ (N := 36) aw_long (by decide) (by decide) (by decide) ww60_94 (by decide) (okl_b (by decide)) ⟨Nat.le_of_ble_eq_true rfl, Nat.le_of_ble_eq_true rfl⟩ dX10_init_168 ?_
  refine e_ren (L' := wL61) (h' := wH95) (lv' := [(1, .int 3), (0, .ref 0)]) (st' := [.ref 61, .ref 0]) rfl rfl rfl rfl ?_
  refine e_putF (show isO wL61 0 10 = true from by decide) fc_10_13 rfl rfl rfl lk_RX10_82 dX10_init_170 ?_
  refine e_ren (L' := wL61) (h' := wH96) (lv' := [(1, .int 3), (0, .ref 0)]) (st' := []) rfl rfl rfl rfl ?_
  refine e_aload_n 1 dX10_init_173 rfl rfl ?_
  refine e_bipush (v := 36) dX10_init_174 (by decide) ?_
  refine e_newJ (N := 36) aw_long (by decide) (by decide) (by decide) ww61_96 (by decide) (okl_b (by decide)) ⟨Nat.le_of_ble_eq_true rfl, Nat.le_of_ble_eq_true rfl⟩ dX10_init_176 ?_
  refine e_ren (L' := wL62) (h' := wH97) (lv' := [(1, .int 3), (0, .ref 0)]) (st' := [.ref 62, .ref 0]) rfl rfl rfl rfl ?_
  refine e_putF (show isO wL62 0 10 = true from by decide) fc_10_14 rfl rfl rfl lk_RX10_86 dX10_init_178 ?_
  refine e_ren (L' := wL62) (h' := wH98) (lv' := [(1, .int 3), (0, .ref 0)]) (st' := []) rfl rfl rfl rfl ?_
  refine e_aload_n 1 dX10_init_181 rfl rfl ?_
  refine e_new (ci := 2) (by decide) (e_df0 2 (by decide)) cl_RX10_89 it_2 in_2 ww62_98 (by decide) (okl_b (by decide)) ⟨Nat.le_of_ble_eq_true rfl, Nat.le_of_ble_eq_true rfl⟩ dX10_init_182 ?_
  refine e_ren (L' := wL63) (h' := wH99) (lv' := [(1, .int 3), (0, .ref 0)]) (st' := [.ref 63, .ref 0]) rfl rfl rfl rfl ?_
  refine e_dupR dX10_init_185 ?_
  refine e_callI (st := [.ref 63, .ref 0]) ml_RX10_91 k_X2_init (m_X2_init (d := d - 1) (by omega) (show isO wL63 63 2 = true from by decide) ww63_99 (by decide)) (by decide) (okl_b (by decide)) rfl rfl (Nat.le_of_ble_eq_true rfl) ⟨by omega, by decide⟩ ⟨Nat.le_of_ble_eq_true rfl, Nat.le_of_ble_eq_true rfl⟩ dX10_init_186 ?_
  refine e_ren (L' := wL64) (h' := wH100) (lv' := [(1, .int 3), (0, .ref 0)]) (st' := [.ref 63, .ref 0]) rfl rfl rfl rfl ?_
  refine e_putR (show isO wL64 0 10 = true from by decide) fc_10_15 rfl lk_RX10_92 dX10_init_189 ?_
  refine e_ren (L' := wL64) (h' := wH101) (lv' := [(1, .int 3), (0, .ref 0)]) (st' := []) rfl rfl rfl rfl ?_
  refine e_aload_n 1 dX10_init_192 rfl rfl ?_
  refine e_new (ci := 2) (by decide) (e_df0 2 (by decide)) cl_RX10_89 it_2 in_2 ww64_101 (by decide) (okl_b (by decide)) ⟨Nat.le_of_ble_eq_true rfl, Nat.le_of_ble_eq_true rfl⟩ dX10_init_193 ?_
  refine e_ren (L' := wL65) (h' := wH102) (lv' := [(1, .int 3), (0, .ref 0)]) (st' := [.ref 65, .ref 0]) rfl rfl rfl rfl ?_
  refine e_dupR dX10_init_196 ?_
  refine e_callI (st := [.ref 65, .ref 0]) ml_RX10_91 k_X2_init (m_X2_init (d := d - 1) (by omega) (show isO wL65 65 2 = true from by decide) ww65_102 (by decide)) (by decide) (okl_b (by decide)) rfl rfl (Nat.le_of_ble_eq_true rfl) ⟨by omega, by decide⟩ ⟨Nat.le_of_ble_eq_true rfl, Nat.le_of_ble_eq_true rfl⟩ dX10_init_197 ?_
  refine e_ren (L' := wL66) (h' := wH103) (lv' := [(1, .int 3), (0, .ref 0)]) (st' := [.ref 65, .ref 0]) rfl rfl rfl rfl ?_
  refine e_putR (show isO wL66 0 10 = true from by decide) fc_10_16 rfl lk_RX10_96 dX10_init_200 ?_
  refine e_ren (L' := wL66) (h' := wH104) (lv' := [(1, .int 3), (0, .ref 0)]) (st' := []) rfl rfl rfl rfl ?_
  refine e_aload_n 1 dX10_init_203 rfl rfl ?_
  refine e_new (ci := 4) (by decide) (e_df0 4 (by decide)) cl_RX10_99 it_4 in_4 ww66_104 (by decide) (okl_b (by decide)) ⟨Nat.le_of_ble_eq_true rfl, Nat.le_of_ble_eq_true rfl⟩ dX10_init_204 ?_
  refine e_ren (L' := wL67) (h' := wH105) (lv' := [(1, .int 3), (0, .ref 0)]) (st' := [.ref 67, .ref 0]) rfl rfl rfl rfl ?_
  refine e_dupR dX10_init_207 ?_
  refine e_callIN (st := [.ref 67, .ref 0]) ml_RX10_101 k_X4_init (m_X4_init (d := d - 1) (by omega) (show isO wL67 67 4 = true from by decide) ww67_105 (by decide)) (by decide) (okl_b (by decide)) rfl rfl (Nat.le_of_ble_eq_true rfl) ⟨by omega, by decide⟩ ⟨Nat.le_of_ble_eq_true rfl, Nat.le_of_ble_eq_true rfl⟩ dX10_init_208 ?_
  refine e_ren (L' := wL68) (h' := wH106) (lv' := [(1, .int 3), (0, .ref 0)]) (st' := [.ref 67, .ref 0]) rfl rfl rfl rfl ?_
  refine e_putR (show isO wL68 0 10 = true from by decide) fc_10_17 rfl lk_RX10_102 dX10_init_211 ?_
  refine e_ren (L' := wL68) (h' := wH107) (lv' := [(1, .int 3), (0, .ref 0)]) (st' := []) rfl rfl rfl rfl ?_
  refine e_aload_n 1 dX10_init_214 rfl rfl ?_
  refine e_new (ci := 4) (by decide) (e_df0 4 (by decide)) cl_RX10_99 it_4 in_4 ww68_107 (by decide) (okl_b (by decide)) ⟨Nat.le_of_ble_eq_true rfl, Nat.le_of_ble_eq_true rfl⟩ dX10_init_215 ?_
  refine e_ren (L' := wL69) (h' := wH108) (lv' := [(1, .int 3), (0, .ref 0)]) (st' := [.ref 70, .ref 0]) rfl rfl rfl rfl ?_
  refine e_dupR dX10_init_218 ?_
  refine e_callIN (st := [.ref 70, .ref 0]) ml_RX10_101 k_X4_init (m_X4_init (d := d - 1) (by omega) (show isO wL69 70 4 = true from by decide) ww69_108 (by decide)) (by decide) (okl_b (by decide)) rfl rfl (Nat.le_of_ble_eq_true rfl) ⟨by omega, by decide⟩ ⟨Nat.le_of_ble_eq_true rfl, Nat.le_of_ble_eq_true rfl⟩ dX10_init_219 ?_
  refine e_ren (L' := wL70) (h' := wH109) (lv' := [(1, .int 3), (0, .ref 0)]) (st' := [.ref 70, .ref 0]) rfl rfl rfl rfl ?_
  refine e_putR (show isO wL70 0 10 = true from by decide) fc_10_18 rfl lk_RX10_106 dX10_init_222 ?_
  refine e_ren (L' := wL70) (h' := wH110) (lv' := [(1, .int 3), (0, .ref 0)]) (st' := []) rfl rfl rfl rfl ?_
  refine e_aload_n 1 dX10_init_225 rfl rfl ?_
  refine e_iconst (v := 0) dX10_init_226 (by decide) ?_
  refine e_putI (show isO wL70 0 10 = true from by decide) fc_10_19 rfl lk_RX10_109 dX10_init_227 ?_
  refine e_ren (L' := wL70) (h' := wH111) (lv' := [(1, .int 3), (0, .ref 0)]) (st' := []) rfl rfl rfl rfl ?_
  exact e_vret rfl dX10_init_230 ⟨rfl, rfl, rfl⟩
def wL71 : eL := nW wL70 (.inl 11)
def wH112 : eH := zH wH111 73
theorem ww71_112 : wfR wL71 wH112 := wf_n (L := wL70) (s := .inl 11) ww70_111 (by decide)
def wL72 : eL := nW wL71 (.inr (1, 48))
def wH113 : eH := zH wH112 74
theorem ww72_113 : wfR wL72 wH113 := wf_n (L := wL71) (s := .inr (1, 48)) ww71_112 (by decide)
def wH114 : eH := sR wH113 73 2 (some 74)
theorem ww72_114 : wfR wL72 wH114 := wf_sR ww72_113 (by decide)
def wH115 : eH := sI wH114 73 3 1
theorem ww72_115 : wfR wL72 wH115 := wf_sI ww72_114
def wH116 : eH := sI wH115 73 4 1
theorem ww72_116 : wfR wL72 wH116 := wf_sI ww72_115
def wH117 : eH := sI wH116 73 5 (-1)
theorem ww72_117 : wfR wL72 wH117 := wf_sI ww72_116
def wL73 : eL := nW wL72 (.inr (0, 36))
def wH118 : eH := zH wH117 75
theorem ww73_118 : wfR wL73 wH118 := wf_n (L := wL72) (s := .inr (0, 36)) ww72_117 (by decide)
def wH119 : eH := sR wH118 73 6 (some 75)
theorem ww73_119 : wfR wL73 wH119 := wf_sR ww73_118 (by decide)
def wL74 : eL := nW wL73 (.inr (0, 79))
def wH120 : eH := zH wH119 76
theorem ww74_120 : wfR wL74 wH120 := wf_n (L := wL73) (s := .inr (0, 79)) ww73_119 (by decide)
def wH121 : eH := sR wH120 73 7 (some 76)
theorem ww74_121 : wfR wL74 wH121 := wf_sR ww74_120 (by decide)
def wL75 : eL := nW wL74 (.inr (0, 79))
def wH122 : eH := zH wH121 77
theorem ww75_122 : wfR wL75 wH122 := wf_n (L := wL74) (s := .inr (0, 79)) ww74_121 (by decide)
def wH123 : eH := sR wH122 73 8 (some 77)
theorem ww75_123 : wfR wL75 wH123 := wf_sR ww75_122 (by decide)
def wL76 : eL := nW wL75 (.inr (0, 80))
def wH124 : eH := zH wH123 78
theorem ww76_124 : wfR wL76 wH124 := wf_n (L := wL75) (s := .inr (0, 80)) ww75_123 (by decide)
def wH125 : eH := sR wH124 73 9 (some 78)
theorem ww76_125 : wfR wL76 wH125 := wf_sR ww76_124 (by decide)
def wL77 : eL := nW wL76 (.inr (0, 36))
def wH126 : eH := zH wH125 79
theorem ww77_126 : wfR wL77 wH126 := wf_n (L := wL76) (s := .inr (0, 36)) ww76_125 (by decide)
def wH127 : eH := sR wH126 73 14 (some 79)
theorem ww77_127 : wfR wL77 wH127 := wf_sR ww77_126 (by decide)
def wL78 : eL := nW wL77 (.inr (0, 80))
def wH128 : eH := zH wH127 80
theorem ww78_128 : wfR wL78 wH128 := wf_n (L := wL77) (s := .inr (0, 80)) ww77_127 (by decide)
def wH129 : eH := sR wH128 73 17 (some 80)
theorem ww78_129 : wfR wL78 wH129 := wf_sR ww78_128 (by decide)
def wL79 : eL := nW wL78 (.inr (0, 80))
def wH130 : eH := zH wH129 81
theorem ww79_130 : wfR wL79 wH130 := wf_n (L := wL78) (s := .inr (0, 80)) ww78_129 (by decide)
def wH131 : eH := sR wH130 73 18 (some 81)
theorem ww79_131 : wfR wL79 wH131 := wf_sR ww79_130 (by decide)
def wL80 : eL := nW wL79 (.inr (0, 80))
def wH132 : eH := zH wH131 82
theorem ww80_132 : wfR wL80 wH132 := wf_n (L := wL79) (s := .inr (0, 80)) ww79_131 (by decide)
def wH133 : eH := sR wH132 73 21 (some 82)
theorem ww80_133 : wfR wL80 wH133 := wf_sR ww80_132 (by decide)
def wL81 : eL := nW wL80 (.inr (0, 5))
def wH134 : eH := zH wH133 83
theorem ww81_134 : wfR wL81 wH134 := wf_n (L := wL80) (s := .inr (0, 5)) ww80_133 (by decide)
def wH135 : eH := sR wH134 73 22 (some 83)
theorem ww81_135 : wfR wL81 wH135 := wf_sR ww81_134 (by decide)
def wH136 : eH := sI wH135 73 23 (-1)
theorem ww81_136 : wfR wL81 wH136 := wf_sI ww81_135
def wL82 : eL := nW wL81 (.inr (0, 1264))
def wH137 : eH := zH wH136 84
theorem ww82_137 : wfR wL82 wH137 := wf_n (L := wL81) (s := .inr (0, 1264)) ww81_136 (by decide)
def wH138 : eH := sR wH137 73 25 (some 84)
theorem ww82_138 : wfR wL82 wH138 := wf_sR ww82_137 (by decide)
def wL83 : eL := nW wL82 (.inr (0, 60))
def wH139 : eH := zH wH138 85
theorem ww83_139 : wfR wL83 wH139 := wf_n (L := wL82) (s := .inr (0, 60)) ww82_138 (by decide)
def wH140 : eH := sR wH139 73 26 (some 85)
theorem ww83_140 : wfR wL83 wH140 := wf_sR ww83_139 (by decide)
def wL84 : eL := nW wL83 (.inr (0, 60))
def wH141 : eH := zH wH140 86
theorem ww84_141 : wfR wL84 wH141 := wf_n (L := wL83) (s := .inr (0, 60)) ww83_140 (by decide)
def wH142 : eH := sR wH141 73 27 (some 86)
theorem ww84_142 : wfR wL84 wH142 := wf_sR ww84_141 (by decide)
def wL85 : eL := nW wL84 (.inr (0, 36))
def wH143 : eH := zH wH142 87
theorem ww85_143 : wfR wL85 wH143 := wf_n (L := wL84) (s := .inr (0, 36)) ww84_142 (by decide)
def wH144 : eH := sR wH143 73 30 (some 87)
theorem ww85_144 : wfR wL85 wH144 := wf_sR ww85_143 (by decide)
def wL86 : eL := nW wL85 (.inr (0, 36))
def wH145 : eH := zH wH144 88
theorem ww86_145 : wfR wL86 wH145 := wf_n (L := wL85) (s := .inr (0, 36)) ww85_144 (by decide)
def wH146 : eH := sR wH145 73 31 (some 88)
theorem ww86_146 : wfR wL86 wH146 := wf_sR ww86_145 (by decide)
def wL87 : eL := nW wL86 (.inr (0, 6))
def wH147 : eH := zH wH146 89
theorem ww87_147 : wfR wL87 wH147 := wf_n (L := wL86) (s := .inr (0, 6)) ww86_146 (by decide)
def wH148 : eH := sR wH147 73 32 (some 89)
theorem ww87_148 : wfR wL87 wH148 := wf_sR ww87_147 (by decide)
def wL88 : eL := nW wL87 (.inr (0, 6))
def wH149 : eH := zH wH148 90
theorem ww88_149 : wfR wL88 wH149 := wf_n (L := wL87) (s := .inr (0, 6)) ww87_148 (by decide)
def wH150 : eH := sR wH149 73 33 (some 90)
theorem ww88_150 : wfR wL88 wH150 := wf_sR ww88_149 (by decide)
def wL89 : eL := nW wL88 (.inr (0, 12))
def wH151 : eH := zH wH150 91
theorem ww89_151 : wfR wL89 wH151 := wf_n (L := wL88) (s := .inr (0, 12)) ww88_150 (by decide)
def wH152 : eH := sR wH151 73 37 (some 91)
theorem ww89_152 : wfR wL89 wH152 := wf_sR ww89_151 (by decide)
def wL90 : eL := nW wL89 (.inr (2, 144))
def wH153 : eH := zH wH152 92
theorem ww90_153 : wfR wL90 wH153 := wf_n (L := wL89) (s := .inr (2, 144)) ww89_152 (by decide)
def wH154 : eH := sR wH153 73 38 (some 92)
theorem ww90_154 : wfR wL90 wH154 := wf_sR ww90_153 (by decide)
def wL91 : eL := nW wL90 (.inr (2, 144))
def wH155 : eH := zH wH154 93
theorem ww91_155 : wfR wL91 wH155 := wf_n (L := wL90) (s := .inr (2, 144)) ww90_154 (by decide)
def wH156 : eH := sR wH155 73 39 (some 93)
theorem ww91_156 : wfR wL91 wH156 := wf_sR ww91_155 (by decide)
def wL92 : eL := nW wL91 (.inr (1, 36))
def wH157 : eH := zH wH156 94
theorem ww92_157 : wfR wL92 wH157 := wf_n (L := wL91) (s := .inr (1, 36)) ww91_156 (by decide)
def wH158 : eH := sR wH157 73 40 (some 94)
theorem ww92_158 : wfR wL92 wH158 := wf_sR ww92_157 (by decide)
def wL93 : eL := nW wL92 (.inr (1, 36))
def wH159 : eH := zH wH158 95
theorem ww93_159 : wfR wL93 wH159 := wf_n (L := wL92) (s := .inr (1, 36)) ww92_158 (by decide)
def wH160 : eH := sR wH159 73 41 (some 95)
theorem ww93_160 : wfR wL93 wH160 := wf_sR ww93_159 (by decide)
def wL94 : eL := nW wL93 (.inr (0, 1000))
def wH161 : eH := zH wH160 96
theorem ww94_161 : wfR wL94 wH161 := wf_n (L := wL93) (s := .inr (0, 1000)) ww93_160 (by decide)
def wH162 : eH := sR wH161 73 42 (some 96)
theorem ww94_162 : wfR wL94 wH162 := wf_sR ww94_161 (by decide)
def wL95 : eL := nW wL94 (.inr (2, 3))
def wH163 : eH := zH wH162 97
theorem ww95_163 : wfR wL95 wH163 := wf_n (L := wL94) (s := .inr (2, 3)) ww94_162 (by decide)
def wH164 : eH := sR wH163 73 44 (some 97)
theorem ww95_164 : wfR wL95 wH164 := wf_sR ww95_163 (by decide)
def wL96 : eL := nW wL95 (.inr (0, 237))
def wH165 : eH := zH wH164 98
theorem ww96_165 : wfR wL96 wH165 := wf_n (L := wL95) (s := .inr (0, 237)) ww95_164 (by decide)
def wH166 : eH := sR wH165 73 45 (some 98)
theorem ww96_166 : wfR wL96 wH166 := wf_sR ww96_165 (by decide)
def wH167 : eH := sI wH166 75 (0 : Int32).toNatClampNeg 1
theorem ww96_167 : wfR wL96 wH167 := wf_sI ww96_166
def wH168 : eH := sI wH167 76 (74 : Int32).toNatClampNeg 100
theorem ww96_168 : wfR wL96 wH168 := wf_sI ww96_167
set_option maxRecDepth 100000 in
set_option maxHeartbeats 8000000 in
theorem m_X11_init {l : Launch} {d : Nat} (hd : 5 ≤ d) : e_Met l yX11_init cX11_init 1 none d 25 3683 false wL71 wH112 [.ref 73] (Qx none wL96 wH168) := by
  refine e_metl (by decide) (Nat.le_of_ble_eq_true rfl) (lv := [(0, .ref 73)]) rfl ?_
  refine e_aload_n 0 dX11_init_0 rfl rfl ?_
  refine e_oinit ol_RX11_22 oi_i oi_c (by omega) (Nat.le_of_ble_eq_true rfl) dX11_init_1 ?_
  refine e_aload_n 0 dX11_init_4 rfl rfl ?_
  refine e_bipush (v := 48) dX11_init_5 (by decide) ?_
  refine e_newJ (N := 48) aw_long (by decide) (by decide) (by decide) ww71_112 (by decide) (okl_b (by decide)) ⟨Nat.le_of_ble_eq_true rfl, Nat.le_of_ble_eq_true rfl⟩ dX11_init_7 ?_
  refine e_ren (L' := wL72) (h' := wH113) (lv' := [(0, .ref 73)]) (st' := [.ref 74, .ref 73]) rfl rfl rfl rfl ?_
  refine e_putF (show isO wL72 73 11 = true from by decide) fc_11_2 rfl rfl rfl lk_RX11_11 dX11_init_9 ?_
  refine e_ren (L' := wL72) (h' := wH114) (lv' := [(0, .ref 73)]) (st' := []) rfl rfl rfl rfl ?_
  refine e_aload_n 0 dX11_init_12 rfl rfl ?_
  refine e_iconst (v := 1) dX11_init_13 (by decide) ?_
  refine e_putI (show isO wL72 73 11 = true from by decide) fc_11_3 rfl lk_RX11_28 dX11_init_14 ?_
  refine e_ren (L' := wL72) (h' := wH115) (lv' := [(0, .ref 73)]) (st' := []) rfl rfl rfl rfl ?_
  refine e_aload_n 0 dX11_init_17 rfl rfl ?_
  refine e_iconst (v := 1) dX11_init_18 (by decide) ?_
  refine e_putI (show isO wL72 73 11 = true from by decide) fc_11_4 rfl lk_RX11_31 dX11_init_19 ?_
  refine e_ren (L' := wL72) (h' := wH116) (lv' := [(0, .ref 73)]) (st' := []) rfl rfl rfl rfl ?_
  refine e_aload_n 0 dX11_init_22 rfl rfl ?_
  refine e_iconst (v := (-1)) dX11_init_23 (by decide) ?_
  refine e_putI (show isO wL72 73 11 = true from by decide) fc_11_5 rfl lk_RX11_34 dX11_init_24 ?_
  refine e_ren (L' := wL72) (h' := wH117) (lv' := [(0, .ref 73)]) (st' := []) rfl rfl rfl rfl ?_
  refine e_aload_n 0 dX11_init_27 rfl rfl ?_
  refine e_bipush (v := 36) dX11_init_28 (by decide) ?_
  refine e_newI (N := 36) aw_int (by decide) (by decide) (by decide) ww72_117 (by decide) (okl_b (by decide)) ⟨Nat.le_of_ble_eq_true rfl, Nat.le_of_ble_eq_true rfl⟩ dX11_init_30 ?_
  refine e_ren (L' := wL73) (h' := wH118) (lv' := [(0, .ref 73)]) (st' := [.ref 75, .ref 73]) rfl rfl rfl rfl ?_
  refine e_putF (show isO wL73 73 11 = true from by decide) fc_11_6 rfl rfl rfl lk_RX11_37 dX11_init_32 ?_
  refine e_ren (L' := wL73) (h' := wH119) (lv' := [(0, .ref 73)]) (st' := []) rfl rfl rfl rfl ?_
  refine e_aload_n 0 dX11_init_35 rfl rfl ?_
  refine e_bipush (v := 79) dX11_init_36 (by decide) ?_
  refine e_newI (N := 79) aw_int (by decide) (by decide) (by decide) ww73_119 (by decide) (okl_b (by decide)) ⟨Nat.le_of_ble_eq_true rfl, Nat.le_of_ble_eq_true rfl⟩ dX11_init_38 ?_
  refine e_ren (L' := wL74) (h' := wH120) (lv' := [(0, .ref 73)]) (st' := [.ref 76, .ref 73]) rfl rfl rfl rfl ?_
  refine e_putF (show isO wL74 73 11 = true from by decide) fc_11_7 rfl rfl rfl lk_RX11_41 dX11_init_40 ?_
  refine e_ren (L' := wL74) (h' := wH121) (lv' := [(0, .ref 73)]) (st' := []) rfl rfl rfl rfl ?_
  refine e_aload_n 0 dX11_init_43 rfl rfl ?_
  refine e_bipush (v := 79) dX11_init_44 (by decide) ?_
  refine e_newI (N := 79) aw_int (by decide) (by decide) (by decide) ww74_121 (by decide) (okl_b (by decide)) ⟨Nat.le_of_ble_eq_true rfl, Nat.le_of_ble_eq_true rfl⟩ dX11_init_46 ?_
  refine e_ren (L' := wL75) (h' := wH122) (lv' := [(0, .ref 73)]) (st' := [.ref 77, .ref 73]) rfl rfl rfl rfl ?_
  refine e_putF (show isO wL75 73 11 = true from by decide) fc_11_8 rfl rfl rfl lk_RX11_44 dX11_init_48 ?_
  refine e_ren (L' := wL75) (h' := wH123) (lv' := [(0, .ref 73)]) (st' := []) rfl rfl rfl rfl ?_
  refine e_aload_n 0 dX11_init_51 rfl rfl ?_
  refine e_bipush (v := 80) dX11_init_52 (by decide) ?_
  refine e_newI (N := 80) aw_int (by decide) (by decide) (by decide) ww75_123 (by decide) (okl_b (by decide)) ⟨Nat.le_of_ble_eq_true rfl, Nat.le_of_ble_eq_true rfl⟩ dX11_init_54 ?_
  refine e_ren (L' := wL76) (h' := wH124) (lv' := [(0, .ref 73)]) (st' := [.ref 78, .ref 73]) rfl rfl rfl rfl ?_
  refine e_putF (show isO wL76 73 11 = true from by decide) fc_11_9 rfl rfl rfl lk_RX11_47 dX11_init_56 ?_
  refine e_ren (L' := wL76) (h' := wH125) (lv' := [(0, .ref 73)]) (st' := []) rfl rfl rfl rfl ?_
  refine e_aload_n 0 dX11_init_59 rfl rfl ?_
  refine e_bipush (v := 36) dX11_init_60 (by decide) ?_
  refine e_newI (N := 36) aw_int (by decide) (by decide) (by decide) ww76_125 (by decide) (okl_b (by decide)) ⟨Nat.le_of_ble_eq_true rfl, Nat.le_of_ble_eq_true rfl⟩ dX11_init_62 ?_
  refine e_ren (L' := wL77) (h' := wH126) (lv' := [(0, .ref 73)]) (st' := [.ref 79, .ref 73]) rfl rfl rfl rfl ?_
  refine e_putF (show isO wL77 73 11 = true from by decide) fc_11_14 rfl rfl rfl lk_RX11_50 dX11_init_64 ?_
  refine e_ren (L' := wL77) (h' := wH127) (lv' := [(0, .ref 73)]) (st' := []) rfl rfl rfl rfl ?_
  refine e_aload_n 0 dX11_init_67 rfl rfl ?_
  refine e_bipush (v := 80) dX11_init_68 (by decide) ?_
  refine e_newI (N := 80) aw_int (by decide) (by decide) (by decide) ww77_127 (by decide) (okl_b (by decide)) ⟨Nat.le_of_ble_eq_true rfl, Nat.le_of_ble_eq_true rfl⟩ dX11_init_70 ?_
  refine e_ren (L' := wL78) (h' := wH128) (lv' := [(0, .ref 73)]) (st' := [.ref 80, .ref 73]) rfl rfl rfl rfl ?_
  refine e_putF (show isO wL78 73 11 = true from by decide) fc_11_17 rfl rfl rfl lk_RX11_53 dX11_init_72 ?_
  refine e_ren (L' := wL78) (h' := wH129) (lv' := [(0, .ref 73)]) (st' := []) rfl rfl rfl rfl ?_
  refine e_aload_n 0 dX11_init_75 rfl rfl ?_
  refine e_bipush (v := 80) dX11_init_76 (by decide) ?_
  refine e_newI (N := 80) aw_int (by decide) (by decide) (by decide) ww78_129 (by decide) (okl_b (by decide)) ⟨Nat.le_of_ble_eq_true rfl, Nat.le_of_ble_eq_true rfl⟩ dX11_init_78 ?_
  refine e_ren (L' := wL79) (h' := wH130) (lv' := [(0, .ref 73)]) (st' := [.ref 81, .ref 73]) rfl rfl rfl rfl ?_
  refine e_putF (show isO wL79 73 11 = true from by decide) fc_11_18 rfl rfl rfl lk_RX11_56 dX11_init_80 ?_
  refine e_ren (L' := wL79) (h' := wH131) (lv' := [(0, .ref 73)]) (st' := []) rfl rfl rfl rfl ?_
  refine e_aload_n 0 dX11_init_83 rfl rfl ?_
  refine e_bipush (v := 80) dX11_init_84 (by decide) ?_
  refine e_newI (N := 80) aw_int (by decide) (by decide) (by decide) ww79_131 (by decide) (okl_b (by decide)) ⟨Nat.le_of_ble_eq_true rfl, Nat.le_of_ble_eq_true rfl⟩ dX11_init_86 ?_
  refine e_ren (L' := wL80) (h' := wH132) (lv' := [(0, .ref 73)]) (st' := [.ref 82, .ref 73]) rfl rfl rfl rfl ?_
  refine e_putF (show isO wL80 73 11 = true from by decide) fc_11_21 rfl rfl rfl lk_RX11_59 dX11_init_88 ?_
  refine e_ren (L' := wL80) (h' := wH133) (lv' := [(0, .ref 73)]) (st' := []) rfl rfl rfl rfl ?_
  refine e_aload_n 0 dX11_init_91 rfl rfl ?_
  refine e_iconst (v := 5) dX11_init_92 (by decide) ?_
  refine e_newI (N := 5) aw_int (by decide) (by decide) (by decide) ww80_133 (by decide) (okl_b (by decide)) ⟨Nat.le_of_ble_eq_true rfl, Nat.le_of_ble_eq_true rfl⟩ dX11_init_93 ?_
  refine e_ren (L' := wL81) (h' := wH134) (lv' := [(0, .ref 73)]) (st' := [.ref 83, .ref 73]) rfl rfl rfl rfl ?_
  refine e_putF (show isO wL81 73 11 = true from by decide) fc_11_22 rfl rfl rfl lk_RX11_62 dX11_init_95 ?_
  refine e_ren (L' := wL81) (h' := wH135) (lv' := [(0, .ref 73)]) (st' := []) rfl rfl rfl rfl ?_
  refine e_aload_n 0 dX11_init_98 rfl rfl ?_
  refine e_iconst (v := (-1)) dX11_init_99 (by decide) ?_
  refine e_putI (show isO wL81 73 11 = true from by decide) fc_11_23 rfl lk_RX11_65 dX11_init_100 ?_
  refine e_ren (L' := wL81) (h' := wH136) (lv' := [(0, .ref 73)]) (st' := []) rfl rfl rfl rfl ?_
  refine e_aload_n 0 dX11_init_103 rfl rfl ?_
  refine e_sipush (v := 1264) dX11_init_104 (by decide) ?_
  refine e_newI (N := 1264) aw_int (by decide) (by decide) (by decide) ww81_136 (by decide) (okl_b (by decide)) ⟨Nat.le_of_ble_eq_true rfl, Nat.le_of_ble_eq_true rfl⟩ dX11_init_107 ?_
  refine e_ren (L' := wL82) (h' := wH137) (lv' := [(0, .ref 73)]) (st' := [.ref 84, .ref 73]) rfl rfl rfl rfl ?_
  refine e_putF (show isO wL82 73 11 = true from by decide) fc_11_25 rfl rfl rfl lk_RX11_68 dX11_init_109 ?_
  refine e_ren (L' := wL82) (h' := wH138) (lv' := [(0, .ref 73)]) (st' := []) rfl rfl rfl rfl ?_
  refine e_aload_n 0 dX11_init_112 rfl rfl ?_
  refine e_bipush (v := 60) dX11_init_113 (by decide) ?_
  refine e_newI (N := 60) aw_int (by decide) (by decide) (by decide) ww82_138 (by decide) (okl_b (by decide)) ⟨Nat.le_of_ble_eq_true rfl, Nat.le_of_ble_eq_true rfl⟩ dX11_init_115 ?_
  refine e_ren (L' := wL83) (h' := wH139) (lv' := [(0, .ref 73)]) (st' := [.ref 85, .ref 73]) rfl rfl rfl rfl ?_
  refine e_putF (show isO wL83 73 11 = true from by decide) fc_11_26 rfl rfl rfl lk_RX11_71 dX11_init_117 ?_
  refine e_ren (L' := wL83) (h' := wH140) (lv' := [(0, .ref 73)]) (st' := []) rfl rfl rfl rfl ?_
  refine e_aload_n 0 dX11_init_120 rfl rfl ?_
  refine e_bipush (v := 60) dX11_init_121 (by decide) ?_
  refine e_newI (N := 60) aw_int (by decide) (by decide) (by decide) ww83_140 (by decide) (okl_b (by decide)) ⟨Nat.le_of_ble_eq_true rfl, Nat.le_of_ble_eq_true rfl⟩ dX11_init_123 ?_
  refine e_ren (L' := wL84) (h' := wH141) (lv' := [(0, .ref 73)]) (st' := [.ref 86, .ref 73]) rfl rfl rfl rfl ?_
  refine e_putF (show isO wL84 73 11 = true from by decide) fc_11_27 rfl rfl rfl lk_RX11_74 dX11_init_125 ?_
  refine e_ren (L' := wL84) (h' := wH142) (lv' := [(0, .ref 73)]) (st' := []) rfl rfl rfl rfl ?_
  refine e_aload_n 0 dX11_init_128 rfl rfl ?_
  refine e_bipush (v := 36) dX11_init_129 (by decide) ?_
  refine e_newI (N := 36) aw_int (by decide) (by decide) (by decide) ww84_142 (by decide) (okl_b (by decide)) ⟨Nat.le_of_ble_eq_true rfl, Nat.le_of_ble_eq_true rfl⟩ dX11_init_131 ?_
  refine e_ren (L' := wL85) (h' := wH143) (lv' := [(0, .ref 73)]) (st' := [.ref 87, .ref 73]) rfl rfl rfl rfl ?_
  refine e_putF (show isO wL85 73 11 = true from by decide) fc_11_30 rfl rfl rfl lk_RX11_77 dX11_init_133 ?_
  refine e_ren (L' := wL85) (h' := wH144) (lv' := [(0, .ref 73)]) (st' := []) rfl rfl rfl rfl ?_
  refine e_aload_n 0 dX11_init_136 rfl rfl ?_
  refine e_bipush (v := 36) dX11_init_137 (by decide) ?_
  refine e_newI (N := 36) aw_int (by decide) (by decide) (by decide) ww85_144 (by decide) (okl_b (by decide)) ⟨Nat.le_of_ble_eq_true rfl, Nat.le_of_ble_eq_true rfl⟩ dX11_init_139 ?_
  refine e_ren (L' := wL86) (h' := wH145) (lv' := [(0, .ref 73)]) (st' := [.ref 88, .ref 73]) rfl rfl rfl rfl ?_
  refine e_putF (show isO wL86 73 11 = true from by decide) fc_11_31 rfl rfl rfl lk_RX11_80 dX11_init_141 ?_
  refine e_ren (L' := wL86) (h' := wH146) (lv' := [(0, .ref 73)]) (st' := []) rfl rfl rfl rfl ?_
  refine e_aload_n 0 dX11_init_144 rfl rfl ?_
  refine e_bipush (v := 6) dX11_init_145 (by decide) ?_
  refine e_newI (N := 6) aw_int (by decide) (by decide) (by decide) ww86_146 (by decide) (okl_b (by decide)) ⟨Nat.le_of_ble_eq_true rfl, Nat.le_of_ble_eq_true rfl⟩ dX11_init_147 ?_
  refine e_ren (L' := wL87) (h' := wH147) (lv' := [(0, .ref 73)]) (st' := [.ref 89, .ref 73]) rfl rfl rfl rfl ?_
  refine e_putF (show isO wL87 73 11 = true from by decide) fc_11_32 rfl rfl rfl lk_RX11_83 dX11_init_149 ?_
  refine e_ren (L' := wL87) (h' := wH148) (lv' := [(0, .ref 73)]) (st' := []) rfl rfl rfl rfl ?_
  refine e_aload_n 0 dX11_init_152 rfl rfl ?_
  refine e_bipush (v := 6) dX11_init_153 (by decide) ?_
  refine e_newI (N := 6) aw_int (by decide) (by decide) (by decide) ww87_148 (by decide) (okl_b (by decide)) ⟨Nat.le_of_ble_eq_true rfl, Nat.le_of_ble_eq_true rfl⟩ dX11_init_155 ?_
  refine e_ren (L' := wL88) (h' := wH149) (lv' := [(0, .ref 73)]) (st' := [.ref 90, .ref 73]) rfl rfl rfl rfl ?_
  refine e_putF (show isO wL88 73 11 = true from by decide) fc_11_33 rfl rfl rfl lk_RX11_86 dX11_init_157 ?_
  refine e_ren (L' := wL88) (h' := wH150) (lv' := [(0, .ref 73)]) (st' := []) rfl rfl rfl rfl ?_
  refine e_aload_n 0 dX11_init_160 rfl rfl ?_
  refine e_bipush (v := 12) dX11_init_161 (by decide) ?_
  refine e_newI (N := 12) aw_int (by decide) (by decide) (by decide) ww88_150 (by decide) (okl_b (by decide)) ⟨Nat.le_of_ble_eq_true rfl, Nat.le_of_ble_eq_true rfl⟩ dX11_init_163 ?_
  refine e_ren (L' := wL89) (h' := wH151) (lv' := [(0, .ref 73)]) (st' := [.ref 91, .ref 73]) rfl rfl rfl rfl ?_
  refine e_putF (show isO wL89 73 11 = true from by decide) fc_11_37 rfl rfl rfl lk_RX11_89 dX11_init_165 ?_
  refine e_ren (L' := wL89) (h' := wH152) (lv' := [(0, .ref 73)]) (st' := []) rfl rfl rfl rfl ?_
  refine e_aload_n 0 dX11_init_168 rfl rfl ?_
  refine e_sipush (v := 144) dX11_init_169 (by decide) ?_
  refine e_newZ (N := 144) aw_boolean (by decide) (by decide) (by decide) ww89_152 (by decide) (okl_b (by decide)) ⟨Nat.le_of_ble_eq_true rfl, Nat.le_of_ble_eq_true rfl⟩ dX11_init_172 ?_
  refine e_ren (L' := wL90) (h' := wH153) (lv' := [(0, .ref 73)]) (st' := [.ref 92, .ref 73]) rfl rfl rfl rfl ?_
  refine e_putF (show isO wL90 73 11 = true from by decide) fc_11_38 rfl rfl rfl lk_RX11_92 dX11_init_174 ?_
  refine e_ren (L' := wL90) (h' := wH154) (lv' := [(0, .ref 73)]) (st' := []) rfl rfl rfl rfl ?_
  refine e_aload_n 0 dX11_init_177 rfl rfl ?_
  refine e_sipush (v := 144) dX11_init_178 (by decide) ?_
  refine e_newZ (N := 144) aw_boolean (by decide) (by decide) (by decide) ww90_154 (by decide) (okl_b (by decide)) ⟨Nat.le_of_ble_eq_true rfl, Nat.le_of_ble_eq_true rfl⟩ dX11_init_181 ?_
  refine e_ren (L' := wL91) (h' := wH155) (lv' := [(0, .ref 73)]) (st' := [.ref 93, .ref 73]) rfl rfl rfl rfl ?_
  refine e_putF (show isO wL91 73 11 = true from by decide) fc_11_39 rfl rfl rfl lk_RX11_96 dX11_init_183 ?_
  refine e_ren (L' := wL91) (h' := wH156) (lv' := [(0, .ref 73)]) (st' := []) rfl rfl rfl rfl ?_
  refine e_aload_n 0 dX11_init_186 rfl rfl ?_
  refine e_bipush (v := 36) dX11_init_187 (by decide) ?_
  refine e_newJ (N := 36) aw_long (by decide) (by decide) (by decide) ww91_156 (by decide) (okl_b (by decide)) ⟨Nat.le_of_ble_eq_true rfl, Nat.le_of_ble_eq_true rfl⟩ dX11_init_189 ?_
  refine e_ren (L' := wL92) (h' := wH157) (lv' := [(0, .ref 73)]) (st' := [.ref 94, .ref 73]) rfl rfl rfl rfl ?_
  refine e_putF (show isO wL92 73 11 = true from by decide) fc_11_40 rfl rfl rfl lk_RX11_99 dX11_init_191 ?_
  refine e_ren (L' := wL92) (h' := wH158) (lv' := [(0, .ref 73)]) (st' := []) rfl rfl rfl rfl ?_
  refine e_aload_n 0 dX11_init_194 rfl rfl ?_
  refine e_bipush (v := 36) dX11_init_195 (by decide) ?_
  refine e_newJ (N := 36) aw_long (by decide) (by decide) (by decide) ww92_158 (by decide) (okl_b (by decide)) ⟨Nat.le_of_ble_eq_true rfl, Nat.le_of_ble_eq_true rfl⟩ dX11_init_197 ?_
  refine e_ren (L' := wL93) (h' := wH159) (lv' := [(0, .ref 73)]) (st' := [.ref 95, .ref 73]) rfl rfl rfl rfl ?_
  refine e_putF (show isO wL93 73 11 = true from by decide) fc_11_41 rfl rfl rfl lk_RX11_102 dX11_init_199 ?_
  refine e_ren (L' := wL93) (h' := wH160) (lv' := [(0, .ref 73)]) (st' := []) rfl rfl rfl rfl ?_
  refine e_aload_n 0 dX11_init_202 rfl rfl ?_
  refine e_sipush (v := 1000) dX11_init_203 (by decide) ?_
  refine e_newI (N := 1000) aw_int (by decide) (by decide) (by decide) ww93_160 (by decide) (okl_b (by decide)) ⟨Nat.le_of_ble_eq_true rfl, Nat.le_of_ble_eq_true rfl⟩ dX11_init_206 ?_
  refine e_ren (L' := wL94) (h' := wH161) (lv' := [(0, .ref 73)]) (st' := [.ref 96, .ref 73]) rfl rfl rfl rfl ?_
  refine e_putF (show isO wL94 73 11 = true from by decide) fc_11_42 rfl rfl rfl lk_RX11_105 dX11_init_208 ?_
  refine e_ren (L' := wL94) (h' := wH162) (lv' := [(0, .ref 73)]) (st' := []) rfl rfl rfl rfl ?_
  refine e_aload_n 0 dX11_init_211 rfl rfl ?_
  refine e_iconst (v := 3) dX11_init_212 (by decide) ?_
  refine e_newZ (N := 3) aw_boolean (by decide) (by decide) (by decide) ww94_162 (by decide) (okl_b (by decide)) ⟨Nat.le_of_ble_eq_true rfl, Nat.le_of_ble_eq_true rfl⟩ dX11_init_213 ?_
  refine e_ren (L' := wL95) (h' := wH163) (lv' := [(0, .ref 73)]) (st' := [.ref 97, .ref 73]) rfl rfl rfl rfl ?_
  refine e_putF (show isO wL95 73 11 = true from by decide) fc_11_44 rfl rfl rfl lk_RX11_108 dX11_init_215 ?_
  refine e_ren (L' := wL95) (h' := wH164) (lv' := [(0, .ref 73)]) (st' := []) rfl rfl rfl rfl ?_
  refine e_aload_n 0 dX11_init_218 rfl rfl ?_
  refine e_sipush (v := 237) dX11_init_219 (by decide) ?_
  refine e_newI (N := 237) aw_int (by decide) (by decide) (by decide) ww95_164 (by decide) (okl_b (by decide)) ⟨Nat.le_of_ble_eq_true rfl, Nat.le_of_ble_eq_true rfl⟩ dX11_init_222 ?_
  refine e_ren (L' := wL96) (h' := wH165) (lv' := [(0, .ref 73)]) (st' := [.ref 98, .ref 73]) rfl rfl rfl rfl ?_
  refine e_putF (show isO wL96 73 11 = true from by decide) fc_11_45 rfl rfl rfl lk_RX11_111 dX11_init_224 ?_
  refine e_ren (L' := wL96) (h' := wH166) (lv' := [(0, .ref 73)]) (st' := []) rfl rfl rfl rfl ?_
  refine e_aload_n 0 dX11_init_227 rfl rfl ?_
  refine e_getR (show isO wL96 73 11 = true from by decide) fc_11_6 lk_RX11_37 dX11_init_228 (b := 75) (by rfl) ?_
  refine e_iconst (v := 0) dX11_init_231 (by decide) ?_
  refine e_iconst (v := 1) dX11_init_232 (by decide) ?_
  refine e_iast (by decide) dX11_init_233 ?_
  refine e_ren (L' := wL96) (h' := wH167) (lv' := [(0, .ref 73)]) (st' := []) rfl rfl rfl rfl ?_
  refine e_aload_n 0 dX11_init_234 rfl rfl ?_
  refine e_getR (show isO wL96 73 11 = true from by decide) fc_11_7 lk_RX11_41 dX11_init_235 (b := 76) (by rfl) ?_
  refine e_bipush (v := 74) dX11_init_238 (by decide) ?_
  refine e_bipush (v := 100) dX11_init_240 (by decide) ?_
  refine e_iast (by decide) dX11_init_242 ?_
  refine e_ren (L' := wL96) (h' := wH168) (lv' := [(0, .ref 73)]) (st' := []) rfl rfl rfl rfl ?_
  exact e_vret rfl dX11_init_243 ⟨rfl, rfl, rfl⟩
def wL97 : eL := nW wL96 (.inr (1, 1))
def wH169 : eH := zH wH168 99
theorem ww97_169 : wfR wL97 wH169 := wf_n (L := wL96) (s := .inr (1, 1)) ww96_168 (by decide)

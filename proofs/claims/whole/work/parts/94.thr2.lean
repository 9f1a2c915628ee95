/-! the class's throwing ways, and the law's own methods around them -/
theorem nse_ok : nseW = nseI.filterMap (fun i => lw_tbl[i]?) := by decide +kernel
theorem nse_all : nseW.all (fun w => goodWord w || e_isn w) = true := by decide +kernel
theorem nse_ot : ∀ w ∈ Cond.classLink RX10 155 nseN :: Cond.initialized nseN :: nseW, vx_ot w = true := by decide +kernel
theorem nse_cl : Cond.classLink RX10 155 nseN ∈ e_gw := e_mem 1053 (by decide +kernel) (by decide +kernel)
theorem nse_in : Cond.initialized nseN ∈ e_gw := e_mem 107 (by decide +kernel) (by decide +kernel)
theorem nse_ct : Cond.castable nseN nseN ∈ e_nw := e_memN 1055 (by decide +kernel) (by decide +kernel)
theorem nse_x0 : decode prog_30_method_4_code 0 = .ok (.aload_n 0, 1) := by decide +kernel
theorem nse_x1 : decode prog_30_method_4_code 1 = .ok (.aload_n 1, 1) := by decide +kernel
theorem nse_x2 : decode prog_30_method_4_code 2 = .ok (.invokespecial 13, 3) := by decide +kernel
theorem nse_x5 : decode prog_30_method_4_code 5 = .ok (.return_, 1) := by decide +kernel
theorem e_isn_t {w : Cond} (h : e_isn w = true) : w.onTables = true := by
  cases w <;> first | rfl | (exact absurd h (by simp [e_isn]))
section THR
variable {p : Program} {l : Launch} {e : Env} {s : State} {m : MethodId} {args : Array Value} {below : List Frame} {meth : Method} {c : Code} {G : eG} {A : Nat → Prop} {nL : Nat} {α : Nat → Nat} {L : eL} {h : eH} {pc q9 : Nat} {lv : List (Nat × Value)}
variable {y : MethodName} {cc : ByteArray} {ret : Option FieldType} {d : Nat}
theorem nse_words (C : e_C y cc nL ret G A p s m args meth c) (X : e_X α A s) : ∀ w ∈ nseW, w.before args s = true := by
  intro w hw
  have h2 := List.all_eq_true.mp nse_all w hw
  have hm : w ∈ lw_tbl := by
    rw [nse_ok] at hw
    obtain ⟨i, -, hi⟩ := List.mem_filterMap.mp hw
    exact List.mem_of_getElem? hi
  rw [Bool.or_eq_true] at h2
  rcases h2 with g | g
  · exact C.2.2.2.2.2.2.1 w (List.mem_filter.mpr ⟨hm, g⟩)
  · exact va_Nw.use (e_isn_t g) (X.1 w (List.mem_filter.mpr ⟨hm, g⟩))
theorem w_nse (C : e_C y cc nL ret G A p s m args meth c) (X : e_X α A s) (Y : e_Y A s) (hl : l.stackTraces = false) (ht : ∀ x ∈ c.exceptionTable.toList, False) (hy : y.cls = RX10) {is j : Nat} (hq : (RX10, is, j) ∈ e_srefs) (hd8 : 8 ≤ d)
    (d0 : decode cc pc = .ok (.new 155, 3)) (d3 : decode cc (pc + 3) = .ok (.dup, 1)) (d4 : (decode cc (pc + 4) = .ok (.ldc is, 2) ∧ q9 = pc + 6) ∨ (decode cc (pc + 4) = .ok (.ldc_w is, 3) ∧ q9 = pc + 7)) (d6 : decode cc q9 = .ok (.invokespecial 159, 3)) (d9 : decode cc (q9 + 3) = .ok (.athrow, 1)) :
    WW p l e (e_rm d 1 6) s m args below meth c G A nL (vx_MQ below (fun _ _ _ _ => False) (t_X G α A L h) args s 1 6 A) α L h 0 0 pc lv [] := by
  intro H locs ls hP hD hS hls
  obtain ⟨tx, hstr⟩ := X.2.2.2.1 _ hq
  have hown : s.vm.findClass RX10 = some m.cls := by rw [← hy]; exact C.2.2.2.2.1
  refine nse_thr (own := RX10) (cls := nseN) (names := ["java/lang/RuntimeException", "java/lang/Exception"]) (A := A) C.1 C.2.1 hl nse_x0 nse_x1 nse_x2 nse_x5 hown (by decide +kernel) (by decide +kernel) (C.2.2.2.2.2.2.1 _ nse_cl) (C.2.2.2.2.2.2.1 _ nse_in) hstr (nse_words C X) nse_ot Y.1 Y.2 hS (hls.1.trans C.2.2.2.1.symm) d0 d3 d4 d6 d9 (fun x hx => (ht x hx).elim) (by show 2 + 3 < d; omega) (by show 0 + (13 * (2 + 1) + 43) ≤ 64 * d; omega) (Nat.le_refl _) (Nat.le_refl _) C.2.2.2.2.2.2.2.1 (fun t hal hsz hk => ?_) (fun z hz => hS.2.2 z hz) (Nat.le_refl _) (Nat.le_refl _)
  refine ⟨(), trivial, ⟨rfl, hP.kept (fun k q hkq => hk q.1 (vx_lt hP hkq))⟩, Nat.le_trans hS.1 hsz, fun q h1 h2 => ?_⟩
  rw [hk q (Nat.lt_of_lt_of_le h1 hS.1)]
  exact hS.2.1 q h1 h2
end THR
theorem t_spot {l : Launch} (hl : l.stackTraces = false) {h : eH} {p : Nat} {v w : Int32} (h15 : gR h 0 15 = some p) (hp : isO LF p 2 = true) (hh : f_X2_has LF h p v = some 0 ∨ (f_X2_has LF h p v = some 1 ∧ w ≠ 0 ∧ w ≠ 1 ∧ w ≠ 2 ∧ w ≠ 3 ∧ w ≠ 4 ∧ w ≠ 5)) : t_Met l yX10_spot cX10_spot 3 (some .int) 20 LF h [.ref 0, .int v, .int w] := by
  refine t_met (by decide) (Nat.le_of_ble_eq_true rfl) ?_
  intro G α A pp e s m args below meth c C X Y ht
  refine w_aload_n C 0 dX10_spot_0 rfl rfl ?_
  refine w_getR C iO_0 fc_10_15 lk_RX10_92 dX10_spot_1 h15 ?_
  refine w_iload_n C 1 dX10_spot_4 rfl rfl ?_
  have go : ∀ r : Int32, f_X2_has LF h p v = some r → WW pp l e (e_rm 20 1 6) s m args below meth c G A 3 (vx_MQ below (fun _ _ _ _ => False) (t_X G α A LF h) args s 1 6 A) α LF h 0 0 (5 + 3) (lv_args 0 [.ref 0, .int v, .int w]) [.int r] → WW pp l e (e_rm 20 1 6) s m args below meth c G A 3 (vx_MQ below (fun _ _ _ _ => False) (t_X G α A LF h) args s 1 6 A) α LF h 0 0 5 (lv_args 0 [.ref 0, .int v, .int w]) [.int v, .ref p] := fun r hr kk => w_callV (st := []) C X ml_RX10_152 k_X2_has (m_X2_has (d := 10) (by omega) hr) hp ⟨by decide, rfl⟩ rfl rfl (Nat.le_of_ble_eq_true rfl) ⟨by decide, by decide⟩ ⟨Nat.le_of_ble_eq_true rfl, Nat.le_of_ble_eq_true rfl⟩ dX10_spot_5 kk
  rcases hh with hh | ⟨hh, w0, w1, w2, w3, w4, w5⟩
  · refine go 0 hh ?_
    refine w_if_ne C (t := 21) dX10_spot_8 (by decide) (fun c => absurd rfl c) (fun _ => ?_)
    exact w_nse C X Y hl ht rfl (is := 157) (j := 7) (by decide) (by omega) dX10_spot_11 dX10_spot_14 (Or.inl ⟨dX10_spot_15, rfl⟩) dX10_spot_17 dX10_spot_20
  · refine go 1 hh ?_
    refine w_if_ne C (t := 21) dX10_spot_8 (by decide) (fun _ => ?_) (fun c => absurd c i10)
    refine w_iload_n C 2 dX10_spot_21 rfl rfl ?_
    refine w_tabOut C (t := 145) dX10_spot_22 (e_out (fun j j1 j2 => ?_)) (by decide) ?_
    · rcases (show j = 0 ∨ j = 1 ∨ j = 2 ∨ j = 3 ∨ j = 4 ∨ j = 5 by omega) with rfl | rfl | rfl | rfl | rfl | rfl <;> assumption
    · exact w_nse C X Y hl ht rfl (is := 190) (j := 8) (by decide) (by omega) dX10_spot_145 dX10_spot_148 (Or.inl ⟨dX10_spot_149, rfl⟩) dX10_spot_151 dX10_spot_154
theorem t_machine {l : Launch} (hl : l.stackTraces = false) {h : eH} {v : Int32} (hv : v ≠ 0 ∧ v ≠ 1 ∧ v ≠ 2 ∧ v ≠ 3 ∧ v ≠ 4 ∧ v ≠ 5 ∧ v ≠ 6 ∧ v ≠ 7) : t_Met l yX10_machine cX10_machine 2 (some .int) 20 LF h [.ref 0, .int v] := by
  refine t_met (by decide) (Nat.le_of_ble_eq_true rfl) ?_
  intro G α A pp e s m args below meth c C X Y ht
  obtain ⟨w0, w1, w2, w3, w4, w5, w6, w7⟩ := hv
  refine w_iload_n C 1 dX10_machine_0 rfl rfl ?_
  refine w_tabOut C (t := 134) dX10_machine_1 (e_out (fun j j1 j2 => ?_)) (by decide) ?_
  · rcases (show j = 0 ∨ j = 1 ∨ j = 2 ∨ j = 3 ∨ j = 4 ∨ j = 5 ∨ j = 6 ∨ j = 7 by omega) with rfl | rfl | rfl | rfl | rfl | rfl | rfl | rfl <;> assumption
  · exact w_nse C X Y hl ht rfl (is := 215) (j := 9) (by decide) (by omega) dX10_machine_134 dX10_machine_137 (Or.inl ⟨dX10_machine_138, rfl⟩) dX10_machine_140 dX10_machine_143
theorem t_row {l : Launch} (hl : l.stackTraces = false) {h : eH} {v : Int32} (h1 : gR h 0 1 = some 3) (hv : v < 0 ∨ (¬ v < 0 ∧ ¬ v < gI h 3 1)) : t_Met l yX10_row cX10_row 2 (some .long) 20 LF h [.ref 0, .int v] := by
  refine t_met (by decide) (Nat.le_of_ble_eq_true rfl) ?_
  intro G α A pp e s m args below meth c C X Y ht
  refine w_iload_n C 1 dX10_row_0 rfl rfl ?_
  have fin : WW pp l e (e_rm 20 1 6) s m args below meth c G A 2 (vx_MQ below (fun _ _ _ _ => False) (t_X G α A LF h) args s 1 6 A) α LF h 0 0 15 (lv_args 0 [.ref 0, .int v]) [] := w_nse C X Y hl ht rfl (is := 453) (j := 10) (by decide) (by omega) dX10_row_15 dX10_row_18 (Or.inr ⟨dX10_row_19, rfl⟩) dX10_row_22 dX10_row_25
  refine w_if_lt C (t := 15) dX10_row_1 (by decide) (fun _ => fin) (fun c => ?_)
  rcases hv with hv | ⟨-, hv⟩
  · exact absurd hv c
  · refine w_iload_n C 1 dX10_row_4 rfl rfl ?_
    refine w_aload_n C 0 dX10_row_5 rfl rfl ?_
    refine w_getR C iO_0 fc_10_1 lk_RX10_19 dX10_row_6 h1 ?_
    have hsz : f_X3_size LF h 3 = some (gI h 3 1) := by unfold f_X3_size; rw [if_pos iO_3]
    refine w_callV (st := [.int v]) C X ml_RX10_452 k_X3_size (m_X3_size (d := 10) (by omega) hsz) iO_3 ⟨by decide, rfl⟩ rfl rfl (Nat.le_of_ble_eq_true rfl) ⟨by decide, by decide⟩ ⟨Nat.le_of_ble_eq_true rfl, Nat.le_of_ble_eq_true rfl⟩ dX10_row_9 ?_
    exact w_icmp_lt C (t := 26) dX10_row_12 (by decide) (fun q => absurd q hv) (fun _ => fin)

/-! The law's cases that may be refused by an exception: spot, machine, row. Laid by program (law2.py). -/
theorem spot_none {h : eH} {p : Nat} {v w : Int32} (h15 : gR h 0 15 = some p) (hp : isO LF p 2 = true) (hh : f_X2_has LF h p v = some 0 ∨ (f_X2_has LF h p v = some 1 ∧ w ≠ 0 ∧ w ≠ 1 ∧ w ≠ 2 ∧ w ≠ 3 ∧ w ≠ 4 ∧ w ≠ 5)) : f_X10_spot LF h 0 v w = none := by
  unfold f_X10_spot
  rw [if_pos iO_0, h15, Option.bind_some, if_pos hp]
  rcases hh with hh | ⟨hh, w0, w1, w2, w3, w4, w5⟩
  · rw [hh, Option.bind_some, if_pos rfl]
  · rw [hh, Option.bind_some, if_neg (by decide), if_neg w0, if_neg w1, if_neg w2, if_neg w3, if_neg w4, if_neg w5]
theorem row_none {h : eH} (hR : RefsOK h) {v : Int32} (hv : v < 0 ∨ (¬ v < 0 ∧ ¬ v < gI h 3 1)) : f_X10_row LF h 0 v = none := by
  unfold f_X10_row
  rcases hv with hv | ⟨v0, v1⟩
  · rw [if_pos hv]
  · have e : f_X3_size LF h 3 = some (gI h 3 1) := by unfold f_X3_size; rw [if_pos iO_3]
    rw [if_neg v0, if_pos iO_0, r_0_1 hR, Option.bind_some, if_pos iO_3, e, Option.bind_some, if_neg v1]
theorem lg_cmp_rf (x : Int64) : lg_cmp x x = 0 := by unfold lg_cmp; simp
theorem thr_e {h : eH} : f_X11_thrown LF h 73 = some (gI h 73 0) := by unfold f_X11_thrown; rw [if_pos iO_73]
theorem cw_spot : Cond.codeWith yL_spot cL_spot 5 (some .int) [(0, 10, 13, 13)] ∈ e_gw := e_mem 1047 (by decide +kernel) (by decide +kernel)
theorem st_spot : Cond.static yL_spot ∈ e_gw := e_mem 1046 (by decide +kernel) (by decide +kernel)
theorem cw_machine : Cond.codeWith yL_machine cL_machine 4 (some .int) [(0, 9, 12, 13)] ∈ e_gw := e_mem 1123 (by decide +kernel) (by decide +kernel)
theorem st_machine : Cond.static yL_machine ∈ e_gw := e_mem 1122 (by decide +kernel) (by decide +kernel)
theorem cw_row : Cond.codeWith yL_row cL_row 4 (some .int) [(0, 8, 11, 13)] ∈ e_gw := e_mem 1131 (by decide +kernel) (by decide +kernel)
theorem st_row : Cond.static yL_row ∈ e_gw := e_mem 1130 (by decide +kernel) (by decide +kernel)
theorem in_RL : Cond.initialized RL ∈ e_gw := e_mem 84 (by decide +kernel) (by decide +kernel)
section LAWS
variable {p : Program} {l : Launch} {e : Env} {s : State} {m : MethodId} {b : Nat} {below : List Frame} {meth : Method} {c : Code} {G : eG} {A : Nat → Prop} {Q : State → Prop} {α : Nat → Nat} {Ln : Nat} {xs : Nat → Int32} {h : eH} {X : AX} {j : Nat}
theorem lt_spot {h2 : eH} {a : Int32} {r : Int32} {k n : Nat} (CC : lwC p l s m b meth c G A α Ln xs) (hk : k ≤ room_1.cells ∧ n ≤ room_1.slots) (ha : gI h2 73 0 = a) (hr : a = 0 → gL h2 99 0 = r.toInt64) (kk : WW p l e room_1 s m #[.ref b] below meth c G A 8 Q α LF h2 k n 1324 (lwv j) []) : WW p l e room_1 s m #[.ref b] below meth c G A 8 Q α LF h2 k n 339 ((5, .int a) :: lwv j) [.int r] := by
  obtain ⟨C, X0, Y, hX, hbl, hbA, hα, hLn, hst⟩ := CC
  refine w_istore C (lv' := (6, .int r) :: (5, .int a) :: lwv j) dL_law_339 (by decide) rfl ?_
  refine w_aload_n C 5 dL_law_341 rfl rfl ?_
  refine w_callV (st := []) (As := []) C X0 ml_RL_51 k_X11_thrown (m_X11_thrown (d := 1000) (by omega) thr_e) iO_73 ⟨by decide, rfl⟩ rfl rfl (Nat.le_of_ble_eq_true rfl) ⟨by decide, by decide⟩ hk dL_law_342 ?_
  refine w_iload C 1 dL_law_345 rfl ?_
  refine w_icmp_eq C (t := 352) dL_law_347 (by decide) (fun _ => ?_) (fun hne => absurd ha hne)
  refine w_iload C 1 dL_law_352 rfl ?_
  have kend : WW p l e room_1 s m #[.ref b] below meth c G A 8 Q α LF h2 k n 369 ((6, .int r) :: (5, .int a) :: lwv j) [] := by
    refine w_goto C (t := 1324) dL_law_369 (by decide) ?_
    exact w_sub (lv' := lwv j) [2, 3, 4, 5, 6] rfl kk
  refine w_if_ne C (t := 369) dL_law_354 (by decide) (fun _ => kend) (fun h0 => ?_)
  · refine w_aload_n C 6 dL_law_357 rfl rfl ?_
    refine w_iconst C (v := 0) dL_law_358 (by decide) ?_
    refine w_lald C (by decide) dL_law_359 ?_
    refine w_iload C 0 dL_law_360 rfl ?_
    refine w_i2l C dL_law_362 ?_
    refine w_lcmp C dL_law_363 ?_
    refine w_if_eq C (t := 369) dL_law_364 (by decide) (fun _ => kend) (fun hne => absurd ?_ hne)
    rw [show gL h2 99 (0 : Int32).toNatClampNeg = r.toInt64 from hr h0]
    exact lg_cmp_rf _
theorem lp_spot {h1 h2 : eH} {a : Int32} {r : Int32} (CC : lwC p l s m b meth c G A α Ln xs) (hj : 5 * j + 5 ≤ Ln) (hM : hL_Met l yL_spot cL_spot 5 (some .int) [(0, 10, 13, 13)] 40 1 6 LF h [.ref 0, .int (xs (5 * j + 1)), .int (xs (5 * j + 2)), .ref 99] (Qx (some (.int a)) LF h1)) (e2 : f_X11_spot LF h1 73 (xs (5 * j + 1)) (xs (5 * j + 2)) = some (h2, r)) (ha : gI h2 73 0 = a) (hr : a = 0 → gL h2 99 0 = r.toInt64) (kk : WW p l e room_1 s m #[.ref b] below meth c G A 8 Q α LF h2 (101 + j) (6325 + 6 * j) 1324 (lwv j) []) : WW p l e room_1 s m #[.ref b] below meth c G A 8 Q α LF h (100 + j) (6319 + 6 * j) 304 (lwv j) [] := by
  obtain ⟨C, X0, Y, hX, hbl, hbA, hα, hLn, hst⟩ := id CC
  have hk : 101 + j ≤ room_1.cells ∧ 6325 + 6 * j ≤ room_1.slots := ⟨show 101 + j ≤ 601024 by omega, show 6325 + 6 * j ≤ 7293034 by omega⟩
  have hk0 : 100 + j + 1 ≤ room_1.cells ∧ 6319 + 6 * j + 6 ≤ room_1.slots := ⟨show 100 + j + 1 ≤ 601024 by omega, show 6319 + 6 * j + 6 ≤ 7293034 by omega⟩
  refine w_aload_n C 2 dL_law_304 rfl rfl ?_
  refine w_arg C hX hbl hbA hα (t := 1) 1 0 rfl rfl (by decide) (by omega) hLn dL_law_305 dL_law_306 dL_law_308 dL_law_309 dL_law_310 ?_
  refine w_arg C hX hbl hbA hα (t := 2) 1 0 rfl rfl (by decide) (by omega) hLn dL_law_311 dL_law_312 dL_law_314 dL_law_315 dL_law_316 ?_
  refine w_aload_n C 4 dL_law_317 rfl rfl ?_
  refine w_callSH (st := []) C X0 Y ml_RL_45 cw_spot st_spot in_RL (by decide) (n' := 4) (by decide +kernel) hM rfl rfl (Nat.le_of_ble_eq_true rfl) ⟨by decide, by decide⟩ hk0 dL_law_318 ?_
  refine w_widen (k' := 101 + j) (n' := 6325 + 6 * j) (by omega) (by omega) ?_
  refine w_istore C (lv' := (5, .int a) :: lwv j) dL_law_321 (by decide) rfl ?_
  refine w_aload_n C 4 dL_law_323 rfl rfl ?_
  refine w_arg C hX hbl hbA hα (t := 1) 2 1 rfl rfl (by decide) (by omega) hLn dL_law_324 dL_law_325 dL_law_327 dL_law_328 dL_law_329 ?_
  refine w_arg C hX hbl hbA hα (t := 2) 2 1 rfl rfl (by decide) (by omega) hLn dL_law_330 dL_law_331 dL_law_333 dL_law_334 dL_law_335 ?_
  refine w_callV (st := []) (As := [.int (xs (5 * j + 1)), .int (xs (5 * j + 2))]) C X0 ml_RL_50 k_X11_spot (m_X11_spot (d := 1000) (by omega) e2) iO_73 ⟨by decide, rfl⟩ rfl rfl (Nat.le_of_ble_eq_true rfl) ⟨by decide, by decide⟩ hk dL_law_336 ?_
  exact lt_spot CC hk ha hr kk
theorem lc_4 (CC : lwC p l s m b meth c G A α Ln xs) (hc : CI h X) (hm : MI h X) (ho : okX (300 * j) X) (hj : 5 * j + 5 ≤ Ln) (kk : ∀ h2 X', CI h2 X' → MI h2 X' → okX (300 * j + 300) X' → WW p l e room_1 s m #[.ref b] below meth c G A 8 Q α LF h2 (101 + j) (6325 + 6 * j) 1324 (lwv j) []) : WW p l e room_1 s m #[.ref b] below meth c G A 8 Q α LF h (100 + j) (6319 + 6 * j) 304 (lwv j) [] := by
  have hst := CC.2.2.2.2.2.2.2.2
  have z0 : ∀ g : eH, gI (sI g 73 0 0) 73 0 = 0 := fun g => by rw [gI_sI, if_pos ⟨rfl, rfl⟩]
  have z1 : ∀ g : eH, gI (sI g 73 0 1) 73 0 = 1 := fun g => by rw [gI_sI, if_pos ⟨rfl, rfl⟩]
  have L0 : ∀ (g : eH) (z : Int64), gL (sL g 99 0 z) 99 0 = z := fun g z => by rw [gL_sL, if_pos ⟨rfl, rfl⟩]
  have M1 : ∀ (g : eH) (v : Int32), only msc g (sI g 73 0 v) := fun g v => only_sI (Or.inl ⟨rfl, Or.inl rfl⟩)
  have D1 : ∀ (g : eH) (v : Int32), only mdl g (sI g 73 0 v) := fun g v => only_sI (by unfold mdl; omega)
  rcases spot_R hc hm ho (xs (5 * j + 1)) (xs (5 * j + 2)) with ⟨r, e1, -⟩ | ⟨⟨q, h15, hp, hq⟩, e2⟩
  · have hc' : CI (sL h 99 0 r.toInt64) X := CI_99 hc
    have hm' : MI (sL h 99 0 r.toInt64) X := MI_99 hm
    rcases spot_R hc' hm' ho (xs (5 * j + 1)) (xs (5 * j + 2)) with ⟨r', e3, e4⟩ | ⟨⟨q, h15, hp, hq⟩, e2⟩
    · rw [spot_99 hc, e1] at e3
      obtain rfl := Option.some.inj e3
      exact lp_spot CC hj (o_spot e1) e4 (z0 _) (fun _ => L0 _ _) (kk _ X (CI_mdl (D1 _ _) hc') (MI_scr (M1 _ _) hm') (okX_mono (by omega) ho))
    · have := spot_none h15 hp hq
      rw [spot_99 hc, e1] at this
      cases this
  · exact lp_spot CC hj (x_spot (t_spot hst h15 hp hq)) e2 (z1 _) (fun z => absurd z (by decide)) (kk _ X (CI_mdl (D1 _ _) (CI_mdl (D1 _ _) hc)) (MI_scr (M1 _ _) (MI_scr (M1 _ _) hm)) (okX_mono (by omega) ho))
theorem lt_machine {h2 : eH} {a : Int32} {r : Int32} {k n : Nat} (CC : lwC p l s m b meth c G A α Ln xs) (hk : k ≤ room_1.cells ∧ n ≤ room_1.slots) (ha : gI h2 73 0 = a) (hr : a = 0 → gL h2 99 0 = r.toInt64) (kk : WW p l e room_1 s m #[.ref b] below meth c G A 8 Q α LF h2 k n 1324 (lwv j) []) : WW p l e room_1 s m #[.ref b] below meth c G A 8 Q α LF h2 k n 395 ((5, .int a) :: lwv j) [.int r] := by
  obtain ⟨C, X0, Y, hX, hbl, hbA, hα, hLn, hst⟩ := CC
  refine w_istore C (lv' := (6, .int r) :: (5, .int a) :: lwv j) dL_law_395 (by decide) rfl ?_
  refine w_aload_n C 5 dL_law_397 rfl rfl ?_
  refine w_callV (st := []) (As := []) C X0 ml_RL_51 k_X11_thrown (m_X11_thrown (d := 1000) (by omega) thr_e) iO_73 ⟨by decide, rfl⟩ rfl rfl (Nat.le_of_ble_eq_true rfl) ⟨by decide, by decide⟩ hk dL_law_398 ?_
  refine w_iload C 1 dL_law_401 rfl ?_
  refine w_icmp_eq C (t := 408) dL_law_403 (by decide) (fun _ => ?_) (fun hne => absurd ha hne)
  refine w_iload C 1 dL_law_408 rfl ?_
  have kend : WW p l e room_1 s m #[.ref b] below meth c G A 8 Q α LF h2 k n 425 ((6, .int r) :: (5, .int a) :: lwv j) [] := by
    refine w_goto C (t := 1324) dL_law_425 (by decide) ?_
    exact w_sub (lv' := lwv j) [2, 3, 4, 5, 6] rfl kk
  refine w_if_ne C (t := 425) dL_law_410 (by decide) (fun _ => kend) (fun h0 => ?_)
  · refine w_aload_n C 6 dL_law_413 rfl rfl ?_
    refine w_iconst C (v := 0) dL_law_414 (by decide) ?_
    refine w_lald C (by decide) dL_law_415 ?_
    refine w_iload C 0 dL_law_416 rfl ?_
    refine w_i2l C dL_law_418 ?_
    refine w_lcmp C dL_law_419 ?_
    refine w_if_eq C (t := 425) dL_law_420 (by decide) (fun _ => kend) (fun hne => absurd ?_ hne)
    rw [show gL h2 99 (0 : Int32).toNatClampNeg = r.toInt64 from hr h0]
    exact lg_cmp_rf _
theorem lp_machine {h1 h2 : eH} {a : Int32} {r : Int32} (CC : lwC p l s m b meth c G A α Ln xs) (hj : 5 * j + 5 ≤ Ln) (hM : hL_Met l yL_machine cL_machine 4 (some .int) [(0, 9, 12, 13)] 40 1 6 LF h [.ref 0, .int (xs (5 * j + 1)), .ref 99] (Qx (some (.int a)) LF h1)) (e2 : f_X11_machine LF h1 73 (xs (5 * j + 1)) = some (h2, r)) (ha : gI h2 73 0 = a) (hr : a = 0 → gL h2 99 0 = r.toInt64) (kk : WW p l e room_1 s m #[.ref b] below meth c G A 8 Q α LF h2 (101 + j) (6325 + 6 * j) 1324 (lwv j) []) : WW p l e room_1 s m #[.ref b] below meth c G A 8 Q α LF h (100 + j) (6319 + 6 * j) 372 (lwv j) [] := by
  obtain ⟨C, X0, Y, hX, hbl, hbA, hα, hLn, hst⟩ := id CC
  have hk : 101 + j ≤ room_1.cells ∧ 6325 + 6 * j ≤ room_1.slots := ⟨show 101 + j ≤ 601024 by omega, show 6325 + 6 * j ≤ 7293034 by omega⟩
  have hk0 : 100 + j + 1 ≤ room_1.cells ∧ 6319 + 6 * j + 6 ≤ room_1.slots := ⟨show 100 + j + 1 ≤ 601024 by omega, show 6319 + 6 * j + 6 ≤ 7293034 by omega⟩
  refine w_aload_n C 2 dL_law_372 rfl rfl ?_
  refine w_arg C hX hbl hbA hα (t := 1) 1 0 rfl rfl (by decide) (by omega) hLn dL_law_373 dL_law_374 dL_law_376 dL_law_377 dL_law_378 ?_
  refine w_aload_n C 4 dL_law_379 rfl rfl ?_
  refine w_callSH (st := []) C X0 Y ml_RL_54 cw_machine st_machine in_RL (by decide) (n' := 3) (by decide +kernel) hM rfl rfl (Nat.le_of_ble_eq_true rfl) ⟨by decide, by decide⟩ hk0 dL_law_380 ?_
  refine w_widen (k' := 101 + j) (n' := 6325 + 6 * j) (by omega) (by omega) ?_
  refine w_istore C (lv' := (5, .int a) :: lwv j) dL_law_383 (by decide) rfl ?_
  refine w_aload_n C 4 dL_law_385 rfl rfl ?_
  refine w_arg C hX hbl hbA hα (t := 1) 2 1 rfl rfl (by decide) (by omega) hLn dL_law_386 dL_law_387 dL_law_389 dL_law_390 dL_law_391 ?_
  refine w_callV (st := []) (As := [.int (xs (5 * j + 1))]) C X0 ml_RL_57 k_X11_machine (m_X11_machine (d := 1000) (by omega) e2) iO_73 ⟨by decide, rfl⟩ rfl rfl (Nat.le_of_ble_eq_true rfl) ⟨by decide, by decide⟩ hk dL_law_392 ?_
  exact lt_machine CC hk ha hr kk
theorem lc_5 (CC : lwC p l s m b meth c G A α Ln xs) (hc : CI h X) (hm : MI h X) (ho : okX (300 * j) X) (hj : 5 * j + 5 ≤ Ln) (kk : ∀ h2 X', CI h2 X' → MI h2 X' → okX (300 * j + 300) X' → WW p l e room_1 s m #[.ref b] below meth c G A 8 Q α LF h2 (101 + j) (6325 + 6 * j) 1324 (lwv j) []) : WW p l e room_1 s m #[.ref b] below meth c G A 8 Q α LF h (100 + j) (6319 + 6 * j) 372 (lwv j) [] := by
  have hst := CC.2.2.2.2.2.2.2.2
  have z0 : ∀ g : eH, gI (sI g 73 0 0) 73 0 = 0 := fun g => by rw [gI_sI, if_pos ⟨rfl, rfl⟩]
  have z1 : ∀ g : eH, gI (sI g 73 0 1) 73 0 = 1 := fun g => by rw [gI_sI, if_pos ⟨rfl, rfl⟩]
  have L0 : ∀ (g : eH) (z : Int64), gL (sL g 99 0 z) 99 0 = z := fun g z => by rw [gL_sL, if_pos ⟨rfl, rfl⟩]
  have M1 : ∀ (g : eH) (v : Int32), only msc g (sI g 73 0 v) := fun g v => only_sI (Or.inl ⟨rfl, Or.inl rfl⟩)
  have D1 : ∀ (g : eH) (v : Int32), only mdl g (sI g 73 0 v) := fun g v => only_sI (by unfold mdl; omega)
  have hLn := CC.2.2.2.2.2.2.2.1
  rcases machine_G hc ho (by omega) (xs (5 * j + 1)) with ⟨h1, r, e1, oo, eg⟩ | ⟨hv, eg⟩
  · have hc1 : CI h1 X := CI_scr oo hc
    have hm1 : MI h1 X := MI_cls (only_mono (fun j k a => by unfold csc at a; unfold cls; omega) oo) hm
    have hc' : CI (sL h1 99 0 r.toInt64) X := CI_99 hc1
    have hm' : MI (sL h1 99 0 r.toInt64) X := MI_99 hm1
    obtain ⟨h2, e2, g2, g3, o2⟩ := eg _ hc'.1 hm'
    have o3 : only mdl (sL h1 99 0 r.toInt64) h2 := only_mono (fun j k a => by unfold msc at a; unfold mdl; omega) o2
    exact lp_machine CC hj (o_machine e1) e2 g2 (fun _ => g3.trans (L0 _ _)) (kk _ X (CI_mdl o3 hc') (MI_scr o2 hm') (okX_mono (by omega) ho))
  · exact lp_machine CC hj (x_machine (t_machine hst hv)) (eg _ hc.1 hm) (z1 _) (fun z => absurd z (by decide)) (kk _ X (CI_mdl (D1 _ _) (CI_mdl (D1 _ _) hc)) (MI_scr (M1 _ _) (MI_scr (M1 _ _) hm)) (okX_mono (by omega) ho))
theorem lt_row {h2 : eH} {a : Int32} {r : Int64} {k n : Nat} (CC : lwC p l s m b meth c G A α Ln xs) (hk : k ≤ room_1.cells ∧ n ≤ room_1.slots) (ha : gI h2 73 0 = a) (hr : a = 0 → gL h2 99 0 = r) (kk : WW p l e room_1 s m #[.ref b] below meth c G A 8 Q α LF h2 k n 1324 (lwv j) []) : WW p l e room_1 s m #[.ref b] below meth c G A 8 Q α LF h2 k n 1292 ((5, .int a) :: lwv j) [.long r] := by
  obtain ⟨C, X0, Y, hX, hbl, hbA, hα, hLn, hst⟩ := CC
  refine w_lstore C (lv' := (6, .long r) :: (5, .int a) :: lwv j) dL_law_1292 (by decide) rfl ?_
  refine w_aload_n C 5 dL_law_1294 rfl rfl ?_
  refine w_callV (st := []) (As := []) C X0 ml_RL_51 k_X11_thrown (m_X11_thrown (d := 1000) (by omega) thr_e) iO_73 ⟨by decide, rfl⟩ rfl rfl (Nat.le_of_ble_eq_true rfl) ⟨by decide, by decide⟩ hk dL_law_1295 ?_
  refine w_iload C 1 dL_law_1298 rfl ?_
  refine w_icmp_eq C (t := 1305) dL_law_1300 (by decide) (fun _ => ?_) (fun hne => absurd ha hne)
  refine w_iload C 1 dL_law_1305 rfl ?_
  have kend : WW p l e room_1 s m #[.ref b] below meth c G A 8 Q α LF h2 k n 1321 ((6, .long r) :: (5, .int a) :: lwv j) [] := by
    refine w_goto C (t := 1324) dL_law_1321 (by decide) ?_
    exact w_sub (lv' := lwv j) [2, 3, 4, 5, 6] rfl kk
  refine w_if_ne C (t := 1321) dL_law_1307 (by decide) (fun _ => kend) (fun h0 => ?_)
  · refine w_aload_n C 6 dL_law_1310 rfl rfl ?_
    refine w_iconst C (v := 0) dL_law_1311 (by decide) ?_
    refine w_lald C (by decide) dL_law_1312 ?_
    refine w_lload C 0 dL_law_1313 rfl ?_
    refine w_lcmp C dL_law_1315 ?_
    refine w_if_eq C (t := 1321) dL_law_1316 (by decide) (fun _ => kend) (fun hne => absurd ?_ hne)
    rw [show gL h2 99 (0 : Int32).toNatClampNeg = r from hr h0]
    exact lg_cmp_rf _
theorem lp_row {h1 h2 : eH} {a : Int32} {r : Int64} (CC : lwC p l s m b meth c G A α Ln xs) (hj : 5 * j + 5 ≤ Ln) (hM : hL_Met l yL_row cL_row 4 (some .int) [(0, 8, 11, 13)] 40 1 6 LF h [.ref 0, .int (xs (5 * j + 1)), .ref 99] (Qx (some (.int a)) LF h1)) (e2 : f_X11_row LF h1 73 (xs (5 * j + 1)) = some (h2, r)) (ha : gI h2 73 0 = a) (hr : a = 0 → gL h2 99 0 = r) (kk : WW p l e room_1 s m #[.ref b] below meth c G A 8 Q α LF h2 (101 + j) (6325 + 6 * j) 1324 (lwv j) []) : WW p l e room_1 s m #[.ref b] below meth c G A 8 Q α LF h (100 + j) (6319 + 6 * j) 1269 (lwv j) [] := by
  obtain ⟨C, X0, Y, hX, hbl, hbA, hα, hLn, hst⟩ := id CC
  have hk : 101 + j ≤ room_1.cells ∧ 6325 + 6 * j ≤ room_1.slots := ⟨show 101 + j ≤ 601024 by omega, show 6325 + 6 * j ≤ 7293034 by omega⟩
  have hk0 : 100 + j + 1 ≤ room_1.cells ∧ 6319 + 6 * j + 6 ≤ room_1.slots := ⟨show 100 + j + 1 ≤ 601024 by omega, show 6319 + 6 * j + 6 ≤ 7293034 by omega⟩
  refine w_aload_n C 2 dL_law_1269 rfl rfl ?_
  refine w_arg C hX hbl hbA hα (t := 1) 1 0 rfl rfl (by decide) (by omega) hLn dL_law_1270 dL_law_1271 dL_law_1273 dL_law_1274 dL_law_1275 ?_
  refine w_aload_n C 4 dL_law_1276 rfl rfl ?_
  refine w_callSH (st := []) C X0 Y ml_RL_207 cw_row st_row in_RL (by decide) (n' := 3) (by decide +kernel) hM rfl rfl (Nat.le_of_ble_eq_true rfl) ⟨by decide, by decide⟩ hk0 dL_law_1277 ?_
  refine w_widen (k' := 101 + j) (n' := 6325 + 6 * j) (by omega) (by omega) ?_
  refine w_istore C (lv' := (5, .int a) :: lwv j) dL_law_1280 (by decide) rfl ?_
  refine w_aload_n C 4 dL_law_1282 rfl rfl ?_
  refine w_arg C hX hbl hbA hα (t := 1) 2 1 rfl rfl (by decide) (by omega) hLn dL_law_1283 dL_law_1284 dL_law_1286 dL_law_1287 dL_law_1288 ?_
  refine w_callV (st := []) (As := [.int (xs (5 * j + 1))]) C X0 ml_RL_209 k_X11_row (m_X11_row (d := 1000) (by omega) e2) iO_73 ⟨by decide, rfl⟩ rfl rfl (Nat.le_of_ble_eq_true rfl) ⟨by decide, by decide⟩ hk dL_law_1289 ?_
  exact lt_row CC hk ha hr kk
theorem lc_43 (CC : lwC p l s m b meth c G A α Ln xs) (hc : CI h X) (hm : MI h X) (ho : okX (300 * j) X) (hj : 5 * j + 5 ≤ Ln) (kk : ∀ h2 X', CI h2 X' → MI h2 X' → okX (300 * j + 300) X' → WW p l e room_1 s m #[.ref b] below meth c G A 8 Q α LF h2 (101 + j) (6325 + 6 * j) 1324 (lwv j) []) : WW p l e room_1 s m #[.ref b] below meth c G A 8 Q α LF h (100 + j) (6319 + 6 * j) 1269 (lwv j) [] := by
  have hst := CC.2.2.2.2.2.2.2.2
  have z0 : ∀ g : eH, gI (sI g 73 0 0) 73 0 = 0 := fun g => by rw [gI_sI, if_pos ⟨rfl, rfl⟩]
  have z1 : ∀ g : eH, gI (sI g 73 0 1) 73 0 = 1 := fun g => by rw [gI_sI, if_pos ⟨rfl, rfl⟩]
  have L0 : ∀ (g : eH) (z : Int64), gL (sL g 99 0 z) 99 0 = z := fun g z => by rw [gL_sL, if_pos ⟨rfl, rfl⟩]
  have M1 : ∀ (g : eH) (v : Int32), only msc g (sI g 73 0 v) := fun g v => only_sI (Or.inl ⟨rfl, Or.inl rfl⟩)
  have D1 : ∀ (g : eH) (v : Int32), only mdl g (sI g 73 0 v) := fun g v => only_sI (by unfold mdl; omega)
  rcases row_R hc hm ho (xs (5 * j + 1)) with ⟨r, e1, -⟩ | ⟨hv, e2⟩
  · have hc' : CI (sL h 99 0 r) X := CI_99 hc
    have hm' : MI (sL h 99 0 r) X := MI_99 hm
    rcases row_R hc' hm' ho (xs (5 * j + 1)) with ⟨r', e3, e4⟩ | ⟨hv, e2⟩
    · rw [row_99 hc, e1] at e3
      obtain rfl := Option.some.inj e3
      exact lp_row CC hj (o_row e1) e4 (z0 _) (fun _ => L0 _ _) (kk _ X (CI_mdl (D1 _ _) hc') (MI_scr (M1 _ _) hm') (okX_mono (by omega) ho))
    · have := row_none hc'.1 hv
      rw [row_99 hc, e1] at this
      cases this
  · exact lp_row CC hj (x_row (t_row hst (r_0_1 hc.1) hv)) e2 (z1 _) (fun z => absurd z (by decide)) (kk _ X (CI_mdl (D1 _ _) (CI_mdl (D1 _ _) hc)) (MI_scr (M1 _ _) (MI_scr (M1 _ _) hm)) (okX_mono (by omega) ho))
end LAWS

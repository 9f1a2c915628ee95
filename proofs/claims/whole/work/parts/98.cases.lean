/-! The law's cases: from the head of each, to the loop's end. Laid by program (law.py). -/
abbrev lwv (j : Nat) : List (Nat × Value) := [(4, .int (nI (5 * j))), (0, .ref e_scr), (1, .ref 0), (2, .ref 73), (3, .ref 99)]
def lwC (p : Program) (l : Launch) (s : State) (m : MethodId) (b : Nat) (meth : Method) (c : Code) (G : eG) (A : Nat → Prop) (α : Nat → Nat) (Ln : Nat) (xs : Nat → Int32) : Prop := e_C yL_law cL_law 8 (some .boolean) G A p s m #[.ref b] meth c ∧ e_X α A s ∧ e_Y A s ∧ va_X b Ln xs s s.heap ∧ b < s.heap.size ∧ ¬ A b ∧ α e_scr = b ∧ Ln ≤ 2560 ∧ l.stackTraces = false
section LAWC
variable {p : Program} {l : Launch} {e : Env} {s : State} {m : MethodId} {b : Nat} {below : List Frame} {meth : Method} {c : Code} {G : eG} {A : Nat → Prop} {Q : State → Prop} {α : Nat → Nat} {Ln : Nat} {xs : Nat → Int32} {h : eH} {X : AX} {j : Nat}
theorem lc_0 (CC : lwC p l s m b meth c G A α Ln xs) (hc : CI h X) (hm : MI h X) (ho : okX (300 * j) X) (hj : 5 * j + 5 ≤ Ln) (kk : ∀ h2 X', CI h2 X' → MI h2 X' → okX (300 * j + 300) X' → WW p l e room_1 s m #[.ref b] below meth c G A 8 Q α LF h2 (101 + j) (6325 + 6 * j) 1324 (lwv j) []) : WW p l e room_1 s m #[.ref b] below meth c G A 8 Q α LF h (100 + j) (6319 + 6 * j) 228 (lwv j) [] := by
  obtain ⟨C, X0, Y, hX, hbl, hbA, hα, hLn, hst⟩ := CC
  have hk : 100 + j ≤ room_1.cells ∧ 6319 + 6 * j ≤ room_1.slots := ⟨show 100 + j ≤ 601024 by omega, show 6319 + 6 * j ≤ 7293034 by omega⟩
  obtain ⟨h1, h2, r, X', e1, e2, c', m', o'⟩ := sign_P hc hm ho  (xs (5 * j + 1))
  refine w_aload_n C 2 dL_law_228 rfl rfl ?_
  refine w_arg C hX hbl hbA hα (t := 1) 1 0 rfl rfl (by decide) (by omega) hLn dL_law_229 dL_law_230 dL_law_232 dL_law_233 dL_law_234 ?_
  refine w_callV (st := []) (As := [.int (xs (5 * j + 1))]) C X0 ml_RL_27 k_X10_sign (m_X10_sign (d := 1000) (by omega) e1) iO_0 ⟨by decide, rfl⟩ rfl rfl (Nat.le_of_ble_eq_true rfl) ⟨by decide, by decide⟩ ⟨hk.1, hk.2⟩ dL_law_235 ?_
  refine w_aload_n C 3 dL_law_238 rfl rfl ?_
  refine w_arg C hX hbl hbA hα (t := 1) 1 0 rfl rfl (by decide) (by omega) hLn dL_law_239 dL_law_240 dL_law_242 dL_law_243 dL_law_244 ?_
  refine w_callV (st := [.int r]) (As := [.int (xs (5 * j + 1))]) C X0 ml_RL_30 k_X11_sign (m_X11_sign (d := 1000) (by omega) e2) iO_73 ⟨by decide, rfl⟩ rfl rfl (Nat.le_of_ble_eq_true rfl) ⟨by decide, by decide⟩ ⟨hk.1, hk.2⟩ dL_law_245 ?_
  exact w_icmp_eq C (t := 1324) dL_law_248 (by decide) (fun _ => w_widen (by omega) (by omega) (kk h2 X' c' m' o')) (fun hne => absurd rfl hne)
theorem lc_1 (CC : lwC p l s m b meth c G A α Ln xs) (hc : CI h X) (hm : MI h X) (ho : okX (300 * j) X) (hj : 5 * j + 5 ≤ Ln) (kk : ∀ h2 X', CI h2 X' → MI h2 X' → okX (300 * j + 300) X' → WW p l e room_1 s m #[.ref b] below meth c G A 8 Q α LF h2 (101 + j) (6325 + 6 * j) 1324 (lwv j) []) : WW p l e room_1 s m #[.ref b] below meth c G A 8 Q α LF h (100 + j) (6319 + 6 * j) 253 (lwv j) [] := by
  obtain ⟨C, X0, Y, hX, hbl, hbA, hα, hLn, hst⟩ := CC
  have hk : 100 + j ≤ room_1.cells ∧ 6319 + 6 * j ≤ room_1.slots := ⟨show 100 + j ≤ 601024 by omega, show 6319 + 6 * j ≤ 7293034 by omega⟩
  obtain ⟨h1, h2, r, X', e1, e2, c', m', o'⟩ := end_P hc hm ho  (xs (5 * j + 1))
  refine w_aload_n C 2 dL_law_253 rfl rfl ?_
  refine w_arg C hX hbl hbA hα (t := 1) 1 0 rfl rfl (by decide) (by omega) hLn dL_law_254 dL_law_255 dL_law_257 dL_law_258 dL_law_259 ?_
  refine w_callV (st := []) (As := [.int (xs (5 * j + 1))]) C X0 ml_RL_31 k_X10_end (m_X10_end (d := 1000) (by omega) e1) iO_0 ⟨by decide, rfl⟩ rfl rfl (Nat.le_of_ble_eq_true rfl) ⟨by decide, by decide⟩ ⟨hk.1, hk.2⟩ dL_law_260 ?_
  refine w_aload_n C 3 dL_law_263 rfl rfl ?_
  refine w_arg C hX hbl hbA hα (t := 1) 1 0 rfl rfl (by decide) (by omega) hLn dL_law_264 dL_law_265 dL_law_267 dL_law_268 dL_law_269 ?_
  refine w_callV (st := [.int r]) (As := [.int (xs (5 * j + 1))]) C X0 ml_RL_35 k_X11_end (m_X11_end (d := 1000) (by omega) e2) iO_73 ⟨by decide, rfl⟩ rfl rfl (Nat.le_of_ble_eq_true rfl) ⟨by decide, by decide⟩ ⟨hk.1, hk.2⟩ dL_law_270 ?_
  exact w_icmp_eq C (t := 1324) dL_law_273 (by decide) (fun _ => w_widen (by omega) (by omega) (kk h2 X' c' m' o')) (fun hne => absurd rfl hne)
theorem lc_2 (CC : lwC p l s m b meth c G A α Ln xs) (hc : CI h X) (hm : MI h X) (ho : okX (300 * j) X) (hj : 5 * j + 5 ≤ Ln) (kk : ∀ h2 X', CI h2 X' → MI h2 X' → okX (300 * j + 300) X' → WW p l e room_1 s m #[.ref b] below meth c G A 8 Q α LF h2 (101 + j) (6325 + 6 * j) 1324 (lwv j) []) : WW p l e room_1 s m #[.ref b] below meth c G A 8 Q α LF h (100 + j) (6319 + 6 * j) 278 (lwv j) [] := by
  obtain ⟨C, X0, Y, hX, hbl, hbA, hα, hLn, hst⟩ := CC
  have hk : 100 + j ≤ room_1.cells ∧ 6319 + 6 * j ≤ room_1.slots := ⟨show 100 + j ≤ 601024 by omega, show 6319 + 6 * j ≤ 7293034 by omega⟩
  obtain ⟨h1, h2, r, X', e1, e2, c', m', o'⟩ := flat_P hc hm ho 
  refine w_aload_n C 2 dL_law_278 rfl rfl ?_
  refine w_callV (st := []) (As := []) C X0 ml_RL_36 k_X10_flat (m_X10_flat (d := 1000) (by omega) e1) iO_0 ⟨by decide, rfl⟩ rfl rfl (Nat.le_of_ble_eq_true rfl) ⟨by decide, by decide⟩ ⟨hk.1, hk.2⟩ dL_law_279 ?_
  refine w_aload_n C 3 dL_law_282 rfl rfl ?_
  refine w_callV (st := [.int r]) (As := []) C X0 ml_RL_40 k_X11_flat (m_X11_flat (d := 1000) (by omega) e2) iO_73 ⟨by decide, rfl⟩ rfl rfl (Nat.le_of_ble_eq_true rfl) ⟨by decide, by decide⟩ ⟨hk.1, hk.2⟩ dL_law_283 ?_
  exact w_icmp_eq C (t := 1324) dL_law_286 (by decide) (fun _ => w_widen (by omega) (by omega) (kk h2 X' c' m' o')) (fun hne => absurd rfl hne)
theorem lc_3 (CC : lwC p l s m b meth c G A α Ln xs) (hc : CI h X) (hm : MI h X) (ho : okX (300 * j) X) (hj : 5 * j + 5 ≤ Ln) (kk : ∀ h2 X', CI h2 X' → MI h2 X' → okX (300 * j + 300) X' → WW p l e room_1 s m #[.ref b] below meth c G A 8 Q α LF h2 (101 + j) (6325 + 6 * j) 1324 (lwv j) []) : WW p l e room_1 s m #[.ref b] below meth c G A 8 Q α LF h (100 + j) (6319 + 6 * j) 291 (lwv j) [] := by
  obtain ⟨C, X0, Y, hX, hbl, hbA, hα, hLn, hst⟩ := CC
  have hk : 100 + j ≤ room_1.cells ∧ 6319 + 6 * j ≤ room_1.slots := ⟨show 100 + j ≤ 601024 by omega, show 6319 + 6 * j ≤ 7293034 by omega⟩
  obtain ⟨h1, h2, r, X', e1, e2, c', m', o'⟩ := rule_P hc hm ho 
  refine w_aload_n C 2 dL_law_291 rfl rfl ?_
  refine w_callV (st := []) (As := []) C X0 ml_RL_41 k_X10_rule (m_X10_rule (d := 1000) (by omega) e1) iO_0 ⟨by decide, rfl⟩ rfl rfl (Nat.le_of_ble_eq_true rfl) ⟨by decide, by decide⟩ ⟨hk.1, hk.2⟩ dL_law_292 ?_
  refine w_aload_n C 3 dL_law_295 rfl rfl ?_
  refine w_callV (st := [.int r]) (As := []) C X0 ml_RL_44 k_X11_rule (m_X11_rule (d := 1000) (by omega) e2) iO_73 ⟨by decide, rfl⟩ rfl rfl (Nat.le_of_ble_eq_true rfl) ⟨by decide, by decide⟩ ⟨hk.1, hk.2⟩ dL_law_296 ?_
  exact w_icmp_eq C (t := 1324) dL_law_299 (by decide) (fun _ => w_widen (by omega) (by omega) (kk h2 X' c' m' o')) (fun hne => absurd rfl hne)
theorem lc_6 (CC : lwC p l s m b meth c G A α Ln xs) (hc : CI h X) (hm : MI h X) (ho : okX (300 * j) X) (hj : 5 * j + 5 ≤ Ln) (kk : ∀ h2 X', CI h2 X' → MI h2 X' → okX (300 * j + 300) X' → WW p l e room_1 s m #[.ref b] below meth c G A 8 Q α LF h2 (101 + j) (6325 + 6 * j) 1324 (lwv j) []) : WW p l e room_1 s m #[.ref b] below meth c G A 8 Q α LF h (100 + j) (6319 + 6 * j) 428 (lwv j) [] := by
  obtain ⟨C, X0, Y, hX, hbl, hbA, hα, hLn, hst⟩ := CC
  have hk : 100 + j ≤ room_1.cells ∧ 6319 + 6 * j ≤ room_1.slots := ⟨show 100 + j ≤ 601024 by omega, show 6319 + 6 * j ≤ 7293034 by omega⟩
  obtain ⟨h1, h2, r, X', e1, e2, c', m', o'⟩ := sheet_P hc hm ho  (xs (5 * j + 1)) (xs (5 * j + 2)) (xs (5 * j + 3)) (xs (5 * j + 4))
  refine w_aload_n C 2 dL_law_428 rfl rfl ?_
  refine w_arg C hX hbl hbA hα (t := 1) 1 0 rfl rfl (by decide) (by omega) hLn dL_law_429 dL_law_430 dL_law_432 dL_law_433 dL_law_434 ?_
  refine w_arg C hX hbl hbA hα (t := 2) 1 0 rfl rfl (by decide) (by omega) hLn dL_law_435 dL_law_436 dL_law_438 dL_law_439 dL_law_440 ?_
  refine w_arg C hX hbl hbA hα (t := 3) 1 0 rfl rfl (by decide) (by omega) hLn dL_law_441 dL_law_442 dL_law_444 dL_law_445 dL_law_446 ?_
  refine w_arg C hX hbl hbA hα (t := 4) 1 0 rfl rfl (by decide) (by omega) hLn dL_law_447 dL_law_448 dL_law_450 dL_law_451 dL_law_452 ?_
  refine w_callV (st := []) (As := [.int (xs (5 * j + 1)), .int (xs (5 * j + 2)), .int (xs (5 * j + 3)), .int (xs (5 * j + 4))]) C X0 ml_RL_58 k_X10_sheet (m_X10_sheet (d := 1000) (by omega) e1) iO_0 ⟨by decide, rfl⟩ rfl rfl (Nat.le_of_ble_eq_true rfl) ⟨by decide, by decide⟩ ⟨hk.1, hk.2⟩ dL_law_453 ?_
  refine w_aload_n C 3 dL_law_456 rfl rfl ?_
  refine w_arg C hX hbl hbA hα (t := 1) 1 0 rfl rfl (by decide) (by omega) hLn dL_law_457 dL_law_458 dL_law_460 dL_law_461 dL_law_462 ?_
  refine w_arg C hX hbl hbA hα (t := 2) 1 0 rfl rfl (by decide) (by omega) hLn dL_law_463 dL_law_464 dL_law_466 dL_law_467 dL_law_468 ?_
  refine w_arg C hX hbl hbA hα (t := 3) 1 0 rfl rfl (by decide) (by omega) hLn dL_law_469 dL_law_470 dL_law_472 dL_law_473 dL_law_474 ?_
  refine w_arg C hX hbl hbA hα (t := 4) 1 0 rfl rfl (by decide) (by omega) hLn dL_law_475 dL_law_476 dL_law_478 dL_law_479 dL_law_480 ?_
  refine w_callV (st := [.int r]) (As := [.int (xs (5 * j + 1)), .int (xs (5 * j + 2)), .int (xs (5 * j + 3)), .int (xs (5 * j + 4))]) C X0 ml_RL_62 k_X11_sheet (m_X11_sheet (d := 1000) (by omega) e2) iO_73 ⟨by decide, rfl⟩ rfl rfl (Nat.le_of_ble_eq_true rfl) ⟨by decide, by decide⟩ ⟨hk.1, hk.2⟩ dL_law_481 ?_
  exact w_icmp_eq C (t := 1324) dL_law_484 (by decide) (fun _ => w_widen (by omega) (by omega) (kk h2 X' c' m' o')) (fun hne => absurd rfl hne)
theorem lc_7 (CC : lwC p l s m b meth c G A α Ln xs) (hc : CI h X) (hm : MI h X) (ho : okX (300 * j) X) (hj : 5 * j + 5 ≤ Ln) (kk : ∀ h2 X', CI h2 X' → MI h2 X' → okX (300 * j + 300) X' → WW p l e room_1 s m #[.ref b] below meth c G A 8 Q α LF h2 (101 + j) (6325 + 6 * j) 1324 (lwv j) []) : WW p l e room_1 s m #[.ref b] below meth c G A 8 Q α LF h (100 + j) (6319 + 6 * j) 489 (lwv j) [] := by
  obtain ⟨C, X0, Y, hX, hbl, hbA, hα, hLn, hst⟩ := CC
  have hk : 100 + j ≤ room_1.cells ∧ 6319 + 6 * j ≤ room_1.slots := ⟨show 100 + j ≤ 601024 by omega, show 6319 + 6 * j ≤ 7293034 by omega⟩
  obtain ⟨h1, h2, r, X', e1, e2, c', m', o'⟩ := steps_P hc hm ho (by omega) (xs (5 * j + 1))
  refine w_aload_n C 2 dL_law_489 rfl rfl ?_
  refine w_arg C hX hbl hbA hα (t := 1) 1 0 rfl rfl (by decide) (by omega) hLn dL_law_490 dL_law_491 dL_law_493 dL_law_494 dL_law_495 ?_
  refine w_callV (st := []) (As := [.int (xs (5 * j + 1))]) C X0 ml_RL_63 k_X10_steps (m_X10_steps (d := 1000) (by omega) e1) iO_0 ⟨by decide, rfl⟩ rfl rfl (Nat.le_of_ble_eq_true rfl) ⟨by decide, by decide⟩ ⟨hk.1, hk.2⟩ dL_law_496 ?_
  refine w_aload_n C 3 dL_law_499 rfl rfl ?_
  refine w_arg C hX hbl hbA hα (t := 1) 1 0 rfl rfl (by decide) (by omega) hLn dL_law_500 dL_law_501 dL_law_503 dL_law_504 dL_law_505 ?_
  refine w_callV (st := [.int r]) (As := [.int (xs (5 * j + 1))]) C X0 ml_RL_66 k_X11_steps (m_X11_steps (d := 1000) (by omega) e2) iO_73 ⟨by decide, rfl⟩ rfl rfl (Nat.le_of_ble_eq_true rfl) ⟨by decide, by decide⟩ ⟨hk.1, hk.2⟩ dL_law_506 ?_
  exact w_icmp_eq C (t := 1324) dL_law_509 (by decide) (fun _ => w_widen (by omega) (by omega) (kk h2 X' c' m' o')) (fun hne => absurd rfl hne)
theorem lc_8 (CC : lwC p l s m b meth c G A α Ln xs) (hc : CI h X) (hm : MI h X) (ho : okX (300 * j) X) (hj : 5 * j + 5 ≤ Ln) (kk : ∀ h2 X', CI h2 X' → MI h2 X' → okX (300 * j + 300) X' → WW p l e room_1 s m #[.ref b] below meth c G A 8 Q α LF h2 (101 + j) (6325 + 6 * j) 1324 (lwv j) []) : WW p l e room_1 s m #[.ref b] below meth c G A 8 Q α LF h (100 + j) (6319 + 6 * j) 514 (lwv j) [] := by
  obtain ⟨C, X0, Y, hX, hbl, hbA, hα, hLn, hst⟩ := CC
  have hk : 100 + j ≤ room_1.cells ∧ 6319 + 6 * j ≤ room_1.slots := ⟨show 100 + j ≤ 601024 by omega, show 6319 + 6 * j ≤ 7293034 by omega⟩
  obtain ⟨h1, h2, r, X', e1, e2, c', m', o'⟩ := turn_P hc hm ho  (xs (5 * j + 1))
  refine w_aload_n C 2 dL_law_514 rfl rfl ?_
  refine w_arg C hX hbl hbA hα (t := 1) 1 0 rfl rfl (by decide) (by omega) hLn dL_law_515 dL_law_516 dL_law_518 dL_law_519 dL_law_520 ?_
  refine w_callV (st := []) (As := [.int (xs (5 * j + 1))]) C X0 ml_RL_67 k_X10_turn (m_X10_turn (d := 1000) (by omega) e1) iO_0 ⟨by decide, rfl⟩ rfl rfl (Nat.le_of_ble_eq_true rfl) ⟨by decide, by decide⟩ ⟨hk.1, hk.2⟩ dL_law_521 ?_
  refine w_aload_n C 3 dL_law_524 rfl rfl ?_
  refine w_arg C hX hbl hbA hα (t := 1) 1 0 rfl rfl (by decide) (by omega) hLn dL_law_525 dL_law_526 dL_law_528 dL_law_529 dL_law_530 ?_
  refine w_callV (st := [.int r]) (As := [.int (xs (5 * j + 1))]) C X0 ml_RL_70 k_X11_turn (m_X11_turn (d := 1000) (by omega) e2) iO_73 ⟨by decide, rfl⟩ rfl rfl (Nat.le_of_ble_eq_true rfl) ⟨by decide, by decide⟩ ⟨hk.1, hk.2⟩ dL_law_531 ?_
  exact w_icmp_eq C (t := 1324) dL_law_534 (by decide) (fun _ => w_widen (by omega) (by omega) (kk h2 X' c' m' o')) (fun hne => absurd rfl hne)
theorem lc_9 (CC : lwC p l s m b meth c G A α Ln xs) (hc : CI h X) (hm : MI h X) (ho : okX (300 * j) X) (hj : 5 * j + 5 ≤ Ln) (kk : ∀ h2 X', CI h2 X' → MI h2 X' → okX (300 * j + 300) X' → WW p l e room_1 s m #[.ref b] below meth c G A 8 Q α LF h2 (101 + j) (6325 + 6 * j) 1324 (lwv j) []) : WW p l e room_1 s m #[.ref b] below meth c G A 8 Q α LF h (100 + j) (6319 + 6 * j) 539 (lwv j) [] := by
  obtain ⟨C, X0, Y, hX, hbl, hbA, hα, hLn, hst⟩ := CC
  have hk : 100 + j ≤ room_1.cells ∧ 6319 + 6 * j ≤ room_1.slots := ⟨show 100 + j ≤ 601024 by omega, show 6319 + 6 * j ≤ 7293034 by omega⟩
  obtain ⟨h1, h2, r, X', e1, e2, c', m', o'⟩ := days_P hc hm ho  (xs (5 * j + 1))
  refine w_aload_n C 2 dL_law_539 rfl rfl ?_
  refine w_arg C hX hbl hbA hα (t := 1) 1 0 rfl rfl (by decide) (by omega) hLn dL_law_540 dL_law_541 dL_law_543 dL_law_544 dL_law_545 ?_
  refine w_callV (st := []) (As := [.int (xs (5 * j + 1))]) C X0 ml_RL_71 k_X10_days (m_X10_days (d := 1000) (by omega) e1) iO_0 ⟨by decide, rfl⟩ rfl rfl (Nat.le_of_ble_eq_true rfl) ⟨by decide, by decide⟩ ⟨hk.1, hk.2⟩ dL_law_546 ?_
  refine w_aload_n C 3 dL_law_549 rfl rfl ?_
  refine w_arg C hX hbl hbA hα (t := 1) 1 0 rfl rfl (by decide) (by omega) hLn dL_law_550 dL_law_551 dL_law_553 dL_law_554 dL_law_555 ?_
  refine w_callV (st := [.int r]) (As := [.int (xs (5 * j + 1))]) C X0 ml_RL_74 k_X11_days (m_X11_days (d := 1000) (by omega) e2) iO_73 ⟨by decide, rfl⟩ rfl rfl (Nat.le_of_ble_eq_true rfl) ⟨by decide, by decide⟩ ⟨hk.1, hk.2⟩ dL_law_556 ?_
  exact w_icmp_eq C (t := 1324) dL_law_559 (by decide) (fun _ => w_widen (by omega) (by omega) (kk h2 X' c' m' o')) (fun hne => absurd rfl hne)
theorem lc_10 (CC : lwC p l s m b meth c G A α Ln xs) (hc : CI h X) (hm : MI h X) (ho : okX (300 * j) X) (hj : 5 * j + 5 ≤ Ln) (kk : ∀ h2 X', CI h2 X' → MI h2 X' → okX (300 * j + 300) X' → WW p l e room_1 s m #[.ref b] below meth c G A 8 Q α LF h2 (101 + j) (6325 + 6 * j) 1324 (lwv j) []) : WW p l e room_1 s m #[.ref b] below meth c G A 8 Q α LF h (100 + j) (6319 + 6 * j) 564 (lwv j) [] := by
  obtain ⟨C, X0, Y, hX, hbl, hbA, hα, hLn, hst⟩ := CC
  have hk : 100 + j ≤ room_1.cells ∧ 6319 + 6 * j ≤ room_1.slots := ⟨show 100 + j ≤ 601024 by omega, show 6319 + 6 * j ≤ 7293034 by omega⟩
  obtain ⟨h1, h2, r, X', e1, e2, c', m', o'⟩ := chair_P hc hm ho  (xs (5 * j + 1))
  refine w_aload_n C 2 dL_law_564 rfl rfl ?_
  refine w_arg C hX hbl hbA hα (t := 1) 1 0 rfl rfl (by decide) (by omega) hLn dL_law_565 dL_law_566 dL_law_568 dL_law_569 dL_law_570 ?_
  refine w_callV (st := []) (As := [.int (xs (5 * j + 1))]) C X0 ml_RL_75 k_X10_chair (m_X10_chair (d := 1000) (by omega) e1) iO_0 ⟨by decide, rfl⟩ rfl rfl (Nat.le_of_ble_eq_true rfl) ⟨by decide, by decide⟩ ⟨hk.1, hk.2⟩ dL_law_571 ?_
  refine w_aload_n C 3 dL_law_574 rfl rfl ?_
  refine w_arg C hX hbl hbA hα (t := 1) 1 0 rfl rfl (by decide) (by omega) hLn dL_law_575 dL_law_576 dL_law_578 dL_law_579 dL_law_580 ?_
  refine w_callV (st := [.int r]) (As := [.int (xs (5 * j + 1))]) C X0 ml_RL_78 k_X11_chair (m_X11_chair (d := 1000) (by omega) e2) iO_73 ⟨by decide, rfl⟩ rfl rfl (Nat.le_of_ble_eq_true rfl) ⟨by decide, by decide⟩ ⟨hk.1, hk.2⟩ dL_law_581 ?_
  exact w_icmp_eq C (t := 1324) dL_law_584 (by decide) (fun _ => w_widen (by omega) (by omega) (kk h2 X' c' m' o')) (fun hne => absurd rfl hne)
theorem lc_11 (CC : lwC p l s m b meth c G A α Ln xs) (hc : CI h X) (hm : MI h X) (ho : okX (300 * j) X) (hj : 5 * j + 5 ≤ Ln) (kk : ∀ h2 X', CI h2 X' → MI h2 X' → okX (300 * j + 300) X' → WW p l e room_1 s m #[.ref b] below meth c G A 8 Q α LF h2 (101 + j) (6325 + 6 * j) 1324 (lwv j) []) : WW p l e room_1 s m #[.ref b] below meth c G A 8 Q α LF h (100 + j) (6319 + 6 * j) 589 (lwv j) [] := by
  obtain ⟨C, X0, Y, hX, hbl, hbA, hα, hLn, hst⟩ := CC
  have hk : 100 + j ≤ room_1.cells ∧ 6319 + 6 * j ≤ room_1.slots := ⟨show 100 + j ≤ 601024 by omega, show 6319 + 6 * j ≤ 7293034 by omega⟩
  obtain ⟨h1, h2, r, X', e1, e2, c', m', o'⟩ := carry_P hc hm ho  (xs (5 * j + 1)) (xs (5 * j + 2))
  refine w_aload_n C 2 dL_law_589 rfl rfl ?_
  refine w_arg C hX hbl hbA hα (t := 1) 1 0 rfl rfl (by decide) (by omega) hLn dL_law_590 dL_law_591 dL_law_593 dL_law_594 dL_law_595 ?_
  refine w_arg C hX hbl hbA hα (t := 2) 1 0 rfl rfl (by decide) (by omega) hLn dL_law_596 dL_law_597 dL_law_599 dL_law_600 dL_law_601 ?_
  refine w_callV (st := []) (As := [.int (xs (5 * j + 1)), .int (xs (5 * j + 2))]) C X0 ml_RL_79 k_X10_carry (m_X10_carry (d := 1000) (by omega) e1) iO_0 ⟨by decide, rfl⟩ rfl rfl (Nat.le_of_ble_eq_true rfl) ⟨by decide, by decide⟩ ⟨hk.1, hk.2⟩ dL_law_602 ?_
  refine w_aload_n C 3 dL_law_605 rfl rfl ?_
  refine w_arg C hX hbl hbA hα (t := 1) 1 0 rfl rfl (by decide) (by omega) hLn dL_law_606 dL_law_607 dL_law_609 dL_law_610 dL_law_611 ?_
  refine w_arg C hX hbl hbA hα (t := 2) 1 0 rfl rfl (by decide) (by omega) hLn dL_law_612 dL_law_613 dL_law_615 dL_law_616 dL_law_617 ?_
  refine w_callV (st := [.int r]) (As := [.int (xs (5 * j + 1)), .int (xs (5 * j + 2))]) C X0 ml_RL_82 k_X11_carry (m_X11_carry (d := 1000) (by omega) e2) iO_73 ⟨by decide, rfl⟩ rfl rfl (Nat.le_of_ble_eq_true rfl) ⟨by decide, by decide⟩ ⟨hk.1, hk.2⟩ dL_law_618 ?_
  exact w_icmp_eq C (t := 1324) dL_law_621 (by decide) (fun _ => w_widen (by omega) (by omega) (kk h2 X' c' m' o')) (fun hne => absurd rfl hne)
theorem lc_12 (CC : lwC p l s m b meth c G A α Ln xs) (hc : CI h X) (hm : MI h X) (ho : okX (300 * j) X) (hj : 5 * j + 5 ≤ Ln) (kk : ∀ h2 X', CI h2 X' → MI h2 X' → okX (300 * j + 300) X' → WW p l e room_1 s m #[.ref b] below meth c G A 8 Q α LF h2 (101 + j) (6325 + 6 * j) 1324 (lwv j) []) : WW p l e room_1 s m #[.ref b] below meth c G A 8 Q α LF h (100 + j) (6319 + 6 * j) 626 (lwv j) [] := by
  obtain ⟨C, X0, Y, hX, hbl, hbA, hα, hLn, hst⟩ := CC
  have hk : 100 + j ≤ room_1.cells ∧ 6319 + 6 * j ≤ room_1.slots := ⟨show 100 + j ≤ 601024 by omega, show 6319 + 6 * j ≤ 7293034 by omega⟩
  obtain ⟨h1, h2, r, X', e1, e2, c', m', o'⟩ := load_P hc hm ho  (xs (5 * j + 1))
  refine w_aload_n C 2 dL_law_626 rfl rfl ?_
  refine w_arg C hX hbl hbA hα (t := 1) 1 0 rfl rfl (by decide) (by omega) hLn dL_law_627 dL_law_628 dL_law_630 dL_law_631 dL_law_632 ?_
  refine w_callV (st := []) (As := [.int (xs (5 * j + 1))]) C X0 ml_RL_83 k_X10_load (m_X10_load (d := 1000) (by omega) e1) iO_0 ⟨by decide, rfl⟩ rfl rfl (Nat.le_of_ble_eq_true rfl) ⟨by decide, by decide⟩ ⟨hk.1, hk.2⟩ dL_law_633 ?_
  refine w_aload_n C 3 dL_law_636 rfl rfl ?_
  refine w_arg C hX hbl hbA hα (t := 1) 1 0 rfl rfl (by decide) (by omega) hLn dL_law_637 dL_law_638 dL_law_640 dL_law_641 dL_law_642 ?_
  refine w_callV (st := [.int r]) (As := [.int (xs (5 * j + 1))]) C X0 ml_RL_86 k_X11_load (m_X11_load (d := 1000) (by omega) e2) iO_73 ⟨by decide, rfl⟩ rfl rfl (Nat.le_of_ble_eq_true rfl) ⟨by decide, by decide⟩ ⟨hk.1, hk.2⟩ dL_law_643 ?_
  exact w_icmp_eq C (t := 1324) dL_law_646 (by decide) (fun _ => w_widen (by omega) (by omega) (kk h2 X' c' m' o')) (fun hne => absurd rfl hne)
theorem lc_13 (CC : lwC p l s m b meth c G A α Ln xs) (hc : CI h X) (hm : MI h X) (ho : okX (300 * j) X) (hj : 5 * j + 5 ≤ Ln) (kk : ∀ h2 X', CI h2 X' → MI h2 X' → okX (300 * j + 300) X' → WW p l e room_1 s m #[.ref b] below meth c G A 8 Q α LF h2 (101 + j) (6325 + 6 * j) 1324 (lwv j) []) : WW p l e room_1 s m #[.ref b] below meth c G A 8 Q α LF h (100 + j) (6319 + 6 * j) 651 (lwv j) [] := by
  obtain ⟨C, X0, Y, hX, hbl, hbA, hα, hLn, hst⟩ := CC
  have hk : 100 + j ≤ room_1.cells ∧ 6319 + 6 * j ≤ room_1.slots := ⟨show 100 + j ≤ 601024 by omega, show 6319 + 6 * j ≤ 7293034 by omega⟩
  obtain ⟨h1, h2, r, X', e1, e2, c', m', o'⟩ := run_P hc hm ho (by omega)
  refine w_aload_n C 2 dL_law_651 rfl rfl ?_
  refine w_callV (st := []) (As := []) C X0 ml_RL_87 k_X10_run (m_X10_run (d := 1000) (by omega) e1) iO_0 ⟨by decide, rfl⟩ rfl rfl (Nat.le_of_ble_eq_true rfl) ⟨by decide, by decide⟩ ⟨hk.1, hk.2⟩ dL_law_652 ?_
  refine w_aload_n C 3 dL_law_655 rfl rfl ?_
  refine w_callV (st := [.int r]) (As := []) C X0 ml_RL_90 k_X11_run (m_X11_run (d := 1000) (by omega) e2) iO_73 ⟨by decide, rfl⟩ rfl rfl (Nat.le_of_ble_eq_true rfl) ⟨by decide, by decide⟩ ⟨hk.1, hk.2⟩ dL_law_656 ?_
  exact w_icmp_eq C (t := 1324) dL_law_659 (by decide) (fun _ => w_widen (by omega) (by omega) (kk h2 X' c' m' o')) (fun hne => absurd rfl hne)
theorem lc_14 (CC : lwC p l s m b meth c G A α Ln xs) (hc : CI h X) (hm : MI h X) (ho : okX (300 * j) X) (hj : 5 * j + 5 ≤ Ln) (kk : ∀ h2 X', CI h2 X' → MI h2 X' → okX (300 * j + 300) X' → WW p l e room_1 s m #[.ref b] below meth c G A 8 Q α LF h2 (101 + j) (6325 + 6 * j) 1324 (lwv j) []) : WW p l e room_1 s m #[.ref b] below meth c G A 8 Q α LF h (100 + j) (6319 + 6 * j) 664 (lwv j) [] := by
  obtain ⟨C, X0, Y, hX, hbl, hbA, hα, hLn, hst⟩ := CC
  have hk : 100 + j ≤ room_1.cells ∧ 6319 + 6 * j ≤ room_1.slots := ⟨show 100 + j ≤ 601024 by omega, show 6319 + 6 * j ≤ 7293034 by omega⟩
  obtain ⟨h1, h2, r, X', e1, e2, c', m', o'⟩ := undo_P hc hm ho 
  refine w_aload_n C 2 dL_law_664 rfl rfl ?_
  refine w_callV (st := []) (As := []) C X0 ml_RL_91 k_X10_undo (m_X10_undo (d := 1000) (by omega) e1) iO_0 ⟨by decide, rfl⟩ rfl rfl (Nat.le_of_ble_eq_true rfl) ⟨by decide, by decide⟩ ⟨hk.1, hk.2⟩ dL_law_665 ?_
  refine w_aload_n C 3 dL_law_668 rfl rfl ?_
  refine w_callV (st := [.int r]) (As := []) C X0 ml_RL_94 k_X11_undo (m_X11_undo (d := 1000) (by omega) e2) iO_73 ⟨by decide, rfl⟩ rfl rfl (Nat.le_of_ble_eq_true rfl) ⟨by decide, by decide⟩ ⟨hk.1, hk.2⟩ dL_law_669 ?_
  exact w_icmp_eq C (t := 1324) dL_law_672 (by decide) (fun _ => w_widen (by omega) (by omega) (kk h2 X' c' m' o')) (fun hne => absurd rfl hne)
theorem lc_15 (CC : lwC p l s m b meth c G A α Ln xs) (hc : CI h X) (hm : MI h X) (ho : okX (300 * j) X) (hj : 5 * j + 5 ≤ Ln) (kk : ∀ h2 X', CI h2 X' → MI h2 X' → okX (300 * j + 300) X' → WW p l e room_1 s m #[.ref b] below meth c G A 8 Q α LF h2 (101 + j) (6325 + 6 * j) 1324 (lwv j) []) : WW p l e room_1 s m #[.ref b] below meth c G A 8 Q α LF h (100 + j) (6319 + 6 * j) 677 (lwv j) [] := by
  obtain ⟨C, X0, Y, hX, hbl, hbA, hα, hLn, hst⟩ := CC
  have hk : 100 + j ≤ room_1.cells ∧ 6319 + 6 * j ≤ room_1.slots := ⟨show 100 + j ≤ 601024 by omega, show 6319 + 6 * j ≤ 7293034 by omega⟩
  obtain ⟨h1, h2, r, X', e1, e2, c', m', o'⟩ := been_P hc hm ho (by omega) (xs (5 * j + 1))
  refine w_aload_n C 2 dL_law_677 rfl rfl ?_
  refine w_arg C hX hbl hbA hα (t := 1) 1 0 rfl rfl (by decide) (by omega) hLn dL_law_678 dL_law_679 dL_law_681 dL_law_682 dL_law_683 ?_
  refine w_callV (st := []) (As := [.int (xs (5 * j + 1))]) C X0 ml_RL_95 k_X10_been (m_X10_been (d := 1000) (by omega) e1) iO_0 ⟨by decide, rfl⟩ rfl rfl (Nat.le_of_ble_eq_true rfl) ⟨by decide, by decide⟩ ⟨hk.1, hk.2⟩ dL_law_684 ?_
  refine w_aload_n C 3 dL_law_687 rfl rfl ?_
  refine w_arg C hX hbl hbA hα (t := 1) 1 0 rfl rfl (by decide) (by omega) hLn dL_law_688 dL_law_689 dL_law_691 dL_law_692 dL_law_693 ?_
  refine w_callV (st := [.int r]) (As := [.int (xs (5 * j + 1))]) C X0 ml_RL_98 k_X11_been (m_X11_been (d := 1000) (by omega) e2) iO_73 ⟨by decide, rfl⟩ rfl rfl (Nat.le_of_ble_eq_true rfl) ⟨by decide, by decide⟩ ⟨hk.1, hk.2⟩ dL_law_694 ?_
  exact w_icmp_eq C (t := 1324) dL_law_697 (by decide) (fun _ => w_widen (by omega) (by omega) (kk h2 X' c' m' o')) (fun hne => absurd rfl hne)
theorem lc_16 (CC : lwC p l s m b meth c G A α Ln xs) (hc : CI h X) (hm : MI h X) (ho : okX (300 * j) X) (hj : 5 * j + 5 ≤ Ln) (kk : ∀ h2 X', CI h2 X' → MI h2 X' → okX (300 * j + 300) X' → WW p l e room_1 s m #[.ref b] below meth c G A 8 Q α LF h2 (101 + j) (6325 + 6 * j) 1324 (lwv j) []) : WW p l e room_1 s m #[.ref b] below meth c G A 8 Q α LF h (100 + j) (6319 + 6 * j) 702 (lwv j) [] := by
  obtain ⟨C, X0, Y, hX, hbl, hbA, hα, hLn, hst⟩ := CC
  have hk : 100 + j ≤ room_1.cells ∧ 6319 + 6 * j ≤ room_1.slots := ⟨show 100 + j ≤ 601024 by omega, show 6319 + 6 * j ≤ 7293034 by omega⟩
  obtain ⟨h1, h2, r, X', e1, e2, c', m', o'⟩ := all_P hc hm ho (by omega)
  refine w_aload_n C 2 dL_law_702 rfl rfl ?_
  refine w_callV (st := []) (As := []) C X0 ml_RL_99 k_X10_all (m_X10_all (d := 1000) (by omega) e1) iO_0 ⟨by decide, rfl⟩ rfl rfl (Nat.le_of_ble_eq_true rfl) ⟨by decide, by decide⟩ ⟨hk.1, hk.2⟩ dL_law_703 ?_
  refine w_aload_n C 3 dL_law_706 rfl rfl ?_
  refine w_callV (st := [.int r]) (As := []) C X0 ml_RL_102 k_X11_all (m_X11_all (d := 1000) (by omega) e2) iO_73 ⟨by decide, rfl⟩ rfl rfl (Nat.le_of_ble_eq_true rfl) ⟨by decide, by decide⟩ ⟨hk.1, hk.2⟩ dL_law_707 ?_
  exact w_icmp_eq C (t := 1324) dL_law_710 (by decide) (fun _ => w_widen (by omega) (by omega) (kk h2 X' c' m' o')) (fun hne => absurd rfl hne)
theorem lc_17 (CC : lwC p l s m b meth c G A α Ln xs) (hc : CI h X) (hm : MI h X) (ho : okX (300 * j) X) (hj : 5 * j + 5 ≤ Ln) (kk : ∀ h2 X', CI h2 X' → MI h2 X' → okX (300 * j + 300) X' → WW p l e room_1 s m #[.ref b] below meth c G A 8 Q α LF h2 (101 + j) (6325 + 6 * j) 1324 (lwv j) []) : WW p l e room_1 s m #[.ref b] below meth c G A 8 Q α LF h (100 + j) (6319 + 6 * j) 715 (lwv j) [] := by
  obtain ⟨C, X0, Y, hX, hbl, hbA, hα, hLn, hst⟩ := CC
  have hk : 100 + j ≤ room_1.cells ∧ 6319 + 6 * j ≤ room_1.slots := ⟨show 100 + j ≤ 601024 by omega, show 6319 + 6 * j ≤ 7293034 by omega⟩
  obtain ⟨h1, h2, r, X', e1, e2, c', m', o'⟩ := never_P hc hm ho (by omega)
  refine w_aload_n C 2 dL_law_715 rfl rfl ?_
  refine w_callV (st := []) (As := []) C X0 ml_RL_103 k_X10_never (m_X10_never (d := 1000) (by omega) e1) iO_0 ⟨by decide, rfl⟩ rfl rfl (Nat.le_of_ble_eq_true rfl) ⟨by decide, by decide⟩ ⟨hk.1, hk.2⟩ dL_law_716 ?_
  refine w_aload_n C 3 dL_law_719 rfl rfl ?_
  refine w_callV (st := [.int r]) (As := []) C X0 ml_RL_106 k_X11_never (m_X11_never (d := 1000) (by omega) e2) iO_73 ⟨by decide, rfl⟩ rfl rfl (Nat.le_of_ble_eq_true rfl) ⟨by decide, by decide⟩ ⟨hk.1, hk.2⟩ dL_law_720 ?_
  exact w_icmp_eq C (t := 1324) dL_law_723 (by decide) (fun _ => w_widen (by omega) (by omega) (kk h2 X' c' m' o')) (fun hne => absurd rfl hne)
theorem lc_18 (CC : lwC p l s m b meth c G A α Ln xs) (hc : CI h X) (hm : MI h X) (ho : okX (300 * j) X) (hj : 5 * j + 5 ≤ Ln) (kk : ∀ h2 X', CI h2 X' → MI h2 X' → okX (300 * j + 300) X' → WW p l e room_1 s m #[.ref b] below meth c G A 8 Q α LF h2 (101 + j) (6325 + 6 * j) 1324 (lwv j) []) : WW p l e room_1 s m #[.ref b] below meth c G A 8 Q α LF h (100 + j) (6319 + 6 * j) 728 (lwv j) [] := by
  obtain ⟨C, X0, Y, hX, hbl, hbA, hα, hLn, hst⟩ := CC
  have hk : 100 + j ≤ room_1.cells ∧ 6319 + 6 * j ≤ room_1.slots := ⟨show 100 + j ≤ 601024 by omega, show 6319 + 6 * j ≤ 7293034 by omega⟩
  obtain ⟨h1, h2, r, X', e1, e2, c', m', o'⟩ := angle_P hc hm ho (by omega)
  refine w_aload_n C 2 dL_law_728 rfl rfl ?_
  refine w_callV (st := []) (As := []) C X0 ml_RL_107 k_X10_angle (m_X10_angle (d := 1000) (by omega) e1) iO_0 ⟨by decide, rfl⟩ rfl rfl (Nat.le_of_ble_eq_true rfl) ⟨by decide, by decide⟩ ⟨hk.1, hk.2⟩ dL_law_729 ?_
  refine w_aload_n C 3 dL_law_732 rfl rfl ?_
  refine w_callV (st := [.int r]) (As := []) C X0 ml_RL_110 k_X11_angle (m_X11_angle (d := 1000) (by omega) e2) iO_73 ⟨by decide, rfl⟩ rfl rfl (Nat.le_of_ble_eq_true rfl) ⟨by decide, by decide⟩ ⟨hk.1, hk.2⟩ dL_law_733 ?_
  exact w_icmp_eq C (t := 1324) dL_law_736 (by decide) (fun _ => w_widen (by omega) (by omega) (kk h2 X' c' m' o')) (fun hne => absurd rfl hne)
theorem lc_19 (CC : lwC p l s m b meth c G A α Ln xs) (hc : CI h X) (hm : MI h X) (ho : okX (300 * j) X) (hj : 5 * j + 5 ≤ Ln) (kk : ∀ h2 X', CI h2 X' → MI h2 X' → okX (300 * j + 300) X' → WW p l e room_1 s m #[.ref b] below meth c G A 8 Q α LF h2 (101 + j) (6325 + 6 * j) 1324 (lwv j) []) : WW p l e room_1 s m #[.ref b] below meth c G A 8 Q α LF h (100 + j) (6319 + 6 * j) 741 (lwv j) [] := by
  obtain ⟨C, X0, Y, hX, hbl, hbA, hα, hLn, hst⟩ := CC
  have hk : 100 + j ≤ room_1.cells ∧ 6319 + 6 * j ≤ room_1.slots := ⟨show 100 + j ≤ 601024 by omega, show 6319 + 6 * j ≤ 7293034 by omega⟩
  obtain ⟨h1, h2, r, X', e1, e2, c', m', o'⟩ := meets_P hc hm ho (by omega)
  refine w_aload_n C 2 dL_law_741 rfl rfl ?_
  refine w_callV (st := []) (As := []) C X0 ml_RL_111 k_X10_meets (m_X10_meets (d := 1000) (by omega) e1) iO_0 ⟨by decide, rfl⟩ rfl rfl (Nat.le_of_ble_eq_true rfl) ⟨by decide, by decide⟩ ⟨hk.1, hk.2⟩ dL_law_742 ?_
  refine w_aload_n C 3 dL_law_745 rfl rfl ?_
  refine w_callV (st := [.int r]) (As := []) C X0 ml_RL_114 k_X11_meets (m_X11_meets (d := 1000) (by omega) e2) iO_73 ⟨by decide, rfl⟩ rfl rfl (Nat.le_of_ble_eq_true rfl) ⟨by decide, by decide⟩ ⟨hk.1, hk.2⟩ dL_law_746 ?_
  exact w_icmp_eq C (t := 1324) dL_law_749 (by decide) (fun _ => w_widen (by omega) (by omega) (kk h2 X' c' m' o')) (fun hne => absurd rfl hne)
theorem lc_20 (CC : lwC p l s m b meth c G A α Ln xs) (hc : CI h X) (hm : MI h X) (ho : okX (300 * j) X) (hj : 5 * j + 5 ≤ Ln) (kk : ∀ h2 X', CI h2 X' → MI h2 X' → okX (300 * j + 300) X' → WW p l e room_1 s m #[.ref b] below meth c G A 8 Q α LF h2 (101 + j) (6325 + 6 * j) 1324 (lwv j) []) : WW p l e room_1 s m #[.ref b] below meth c G A 8 Q α LF h (100 + j) (6319 + 6 * j) 754 (lwv j) [] := by
  obtain ⟨C, X0, Y, hX, hbl, hbA, hα, hLn, hst⟩ := CC
  have hk : 100 + j ≤ room_1.cells ∧ 6319 + 6 * j ≤ room_1.slots := ⟨show 100 + j ≤ 601024 by omega, show 6319 + 6 * j ≤ 7293034 by omega⟩
  obtain ⟨h1, h2, r, X', e1, e2, c', m', o'⟩ := round_P hc hm ho (by omega)
  refine w_aload_n C 2 dL_law_754 rfl rfl ?_
  refine w_callV (st := []) (As := []) C X0 ml_RL_115 k_X10_round (m_X10_round (d := 1000) (by omega) e1) iO_0 ⟨by decide, rfl⟩ rfl rfl (Nat.le_of_ble_eq_true rfl) ⟨by decide, by decide⟩ ⟨hk.1, hk.2⟩ dL_law_755 ?_
  refine w_aload_n C 3 dL_law_758 rfl rfl ?_
  refine w_callV (st := [.int r]) (As := []) C X0 ml_RL_118 k_X11_round (m_X11_round (d := 1000) (by omega) e2) iO_73 ⟨by decide, rfl⟩ rfl rfl (Nat.le_of_ble_eq_true rfl) ⟨by decide, by decide⟩ ⟨hk.1, hk.2⟩ dL_law_759 ?_
  exact w_icmp_eq C (t := 1324) dL_law_762 (by decide) (fun _ => w_widen (by omega) (by omega) (kk h2 X' c' m' o')) (fun hne => absurd rfl hne)
theorem lc_21 (CC : lwC p l s m b meth c G A α Ln xs) (hc : CI h X) (hm : MI h X) (ho : okX (300 * j) X) (hj : 5 * j + 5 ≤ Ln) (kk : ∀ h2 X', CI h2 X' → MI h2 X' → okX (300 * j + 300) X' → WW p l e room_1 s m #[.ref b] below meth c G A 8 Q α LF h2 (101 + j) (6325 + 6 * j) 1324 (lwv j) []) : WW p l e room_1 s m #[.ref b] below meth c G A 8 Q α LF h (100 + j) (6319 + 6 * j) 767 (lwv j) [] := by
  obtain ⟨C, X0, Y, hX, hbl, hbA, hα, hLn, hst⟩ := CC
  have hk : 100 + j ≤ room_1.cells ∧ 6319 + 6 * j ≤ room_1.slots := ⟨show 100 + j ≤ 601024 by omega, show 6319 + 6 * j ≤ 7293034 by omega⟩
  obtain ⟨h1, h2, r, X', e1, e2, c', m', o'⟩ := corner_P hc hm ho (by omega) (xs (5 * j + 1))
  refine w_aload_n C 2 dL_law_767 rfl rfl ?_
  refine w_arg C hX hbl hbA hα (t := 1) 1 0 rfl rfl (by decide) (by omega) hLn dL_law_768 dL_law_769 dL_law_771 dL_law_772 dL_law_773 ?_
  refine w_callV (st := []) (As := [.int (xs (5 * j + 1))]) C X0 ml_RL_119 k_X10_corner (m_X10_corner (d := 1000) (by omega) e1) iO_0 ⟨by decide, rfl⟩ rfl rfl (Nat.le_of_ble_eq_true rfl) ⟨by decide, by decide⟩ ⟨hk.1, hk.2⟩ dL_law_774 ?_
  refine w_aload_n C 3 dL_law_777 rfl rfl ?_
  refine w_arg C hX hbl hbA hα (t := 1) 1 0 rfl rfl (by decide) (by omega) hLn dL_law_778 dL_law_779 dL_law_781 dL_law_782 dL_law_783 ?_
  refine w_callV (st := [.int r]) (As := [.int (xs (5 * j + 1))]) C X0 ml_RL_122 k_X11_corner (m_X11_corner (d := 1000) (by omega) e2) iO_73 ⟨by decide, rfl⟩ rfl rfl (Nat.le_of_ble_eq_true rfl) ⟨by decide, by decide⟩ ⟨hk.1, hk.2⟩ dL_law_784 ?_
  exact w_icmp_eq C (t := 1324) dL_law_787 (by decide) (fun _ => w_widen (by omega) (by omega) (kk h2 X' c' m' o')) (fun hne => absurd rfl hne)
theorem lc_22 (CC : lwC p l s m b meth c G A α Ln xs) (hc : CI h X) (hm : MI h X) (ho : okX (300 * j) X) (hj : 5 * j + 5 ≤ Ln) (kk : ∀ h2 X', CI h2 X' → MI h2 X' → okX (300 * j + 300) X' → WW p l e room_1 s m #[.ref b] below meth c G A 8 Q α LF h2 (101 + j) (6325 + 6 * j) 1324 (lwv j) []) : WW p l e room_1 s m #[.ref b] below meth c G A 8 Q α LF h (100 + j) (6319 + 6 * j) 792 (lwv j) [] := by
  obtain ⟨C, X0, Y, hX, hbl, hbA, hα, hLn, hst⟩ := CC
  have hk : 100 + j ≤ room_1.cells ∧ 6319 + 6 * j ≤ room_1.slots := ⟨show 100 + j ≤ 601024 by omega, show 6319 + 6 * j ≤ 7293034 by omega⟩
  obtain ⟨h1, h2, r, X', e1, e2, c', m', o'⟩ := way_P hc hm ho  (xs (5 * j + 1)) (xs (5 * j + 2))
  refine w_aload_n C 2 dL_law_792 rfl rfl ?_
  refine w_arg C hX hbl hbA hα (t := 1) 1 0 rfl rfl (by decide) (by omega) hLn dL_law_793 dL_law_794 dL_law_796 dL_law_797 dL_law_798 ?_
  refine w_arg C hX hbl hbA hα (t := 2) 1 0 rfl rfl (by decide) (by omega) hLn dL_law_799 dL_law_800 dL_law_802 dL_law_803 dL_law_804 ?_
  refine w_callV (st := []) (As := [.int (xs (5 * j + 1)), .int (xs (5 * j + 2))]) C X0 ml_RL_123 k_X10_way (m_X10_way (d := 1000) (by omega) e1) iO_0 ⟨by decide, rfl⟩ rfl rfl (Nat.le_of_ble_eq_true rfl) ⟨by decide, by decide⟩ ⟨hk.1, hk.2⟩ dL_law_805 ?_
  refine w_aload_n C 3 dL_law_808 rfl rfl ?_
  refine w_arg C hX hbl hbA hα (t := 1) 1 0 rfl rfl (by decide) (by omega) hLn dL_law_809 dL_law_810 dL_law_812 dL_law_813 dL_law_814 ?_
  refine w_arg C hX hbl hbA hα (t := 2) 1 0 rfl rfl (by decide) (by omega) hLn dL_law_815 dL_law_816 dL_law_818 dL_law_819 dL_law_820 ?_
  refine w_callV (st := [.int r]) (As := [.int (xs (5 * j + 1)), .int (xs (5 * j + 2))]) C X0 ml_RL_126 k_X11_way (m_X11_way (d := 1000) (by omega) e2) iO_73 ⟨by decide, rfl⟩ rfl rfl (Nat.le_of_ble_eq_true rfl) ⟨by decide, by decide⟩ ⟨hk.1, hk.2⟩ dL_law_821 ?_
  exact w_icmp_eq C (t := 1324) dL_law_824 (by decide) (fun _ => w_widen (by omega) (by omega) (kk h2 X' c' m' o')) (fun hne => absurd rfl hne)
theorem lc_23 (CC : lwC p l s m b meth c G A α Ln xs) (hc : CI h X) (hm : MI h X) (ho : okX (300 * j) X) (hj : 5 * j + 5 ≤ Ln) (kk : ∀ h2 X', CI h2 X' → MI h2 X' → okX (300 * j + 300) X' → WW p l e room_1 s m #[.ref b] below meth c G A 8 Q α LF h2 (101 + j) (6325 + 6 * j) 1324 (lwv j) []) : WW p l e room_1 s m #[.ref b] below meth c G A 8 Q α LF h (100 + j) (6319 + 6 * j) 829 (lwv j) [] := by
  obtain ⟨C, X0, Y, hX, hbl, hbA, hα, hLn, hst⟩ := CC
  have hk : 100 + j ≤ room_1.cells ∧ 6319 + 6 * j ≤ room_1.slots := ⟨show 100 + j ≤ 601024 by omega, show 6319 + 6 * j ≤ 7293034 by omega⟩
  obtain ⟨h1, h2, r, X', e1, e2, c', m', o'⟩ := back_P hc hm ho (by omega)
  refine w_aload_n C 2 dL_law_829 rfl rfl ?_
  refine w_callV (st := []) (As := []) C X0 ml_RL_127 k_X10_back (m_X10_back (d := 1000) (by omega) e1) iO_0 ⟨by decide, rfl⟩ rfl rfl (Nat.le_of_ble_eq_true rfl) ⟨by decide, by decide⟩ ⟨hk.1, hk.2⟩ dL_law_830 ?_
  refine w_aload_n C 3 dL_law_833 rfl rfl ?_
  refine w_callV (st := [.int r]) (As := []) C X0 ml_RL_130 k_X11_back (m_X11_back (d := 1000) (by omega) e2) iO_73 ⟨by decide, rfl⟩ rfl rfl (Nat.le_of_ble_eq_true rfl) ⟨by decide, by decide⟩ ⟨hk.1, hk.2⟩ dL_law_834 ?_
  exact w_icmp_eq C (t := 1324) dL_law_837 (by decide) (fun _ => w_widen (by omega) (by omega) (kk h2 X' c' m' o')) (fun hne => absurd rfl hne)
theorem lc_24 (CC : lwC p l s m b meth c G A α Ln xs) (hc : CI h X) (hm : MI h X) (ho : okX (300 * j) X) (hj : 5 * j + 5 ≤ Ln) (kk : ∀ h2 X', CI h2 X' → MI h2 X' → okX (300 * j + 300) X' → WW p l e room_1 s m #[.ref b] below meth c G A 8 Q α LF h2 (101 + j) (6325 + 6 * j) 1324 (lwv j) []) : WW p l e room_1 s m #[.ref b] below meth c G A 8 Q α LF h (100 + j) (6319 + 6 * j) 842 (lwv j) [] := by
  obtain ⟨C, X0, Y, hX, hbl, hbA, hα, hLn, hst⟩ := CC
  have hk : 100 + j ≤ room_1.cells ∧ 6319 + 6 * j ≤ room_1.slots := ⟨show 100 + j ≤ 601024 by omega, show 6319 + 6 * j ≤ 7293034 by omega⟩
  obtain ⟨h1, h2, r, X', e1, e2, c', m', o'⟩ := plug_P hc hm ho 
  refine w_aload_n C 2 dL_law_842 rfl rfl ?_
  refine w_callV (st := []) (As := []) C X0 ml_RL_131 k_X10_plug (m_X10_plug (d := 1000) (by omega) e1) iO_0 ⟨by decide, rfl⟩ rfl rfl (Nat.le_of_ble_eq_true rfl) ⟨by decide, by decide⟩ ⟨hk.1, hk.2⟩ dL_law_843 ?_
  refine w_aload_n C 3 dL_law_846 rfl rfl ?_
  refine w_callV (st := [.int r]) (As := []) C X0 ml_RL_134 k_X11_plug (m_X11_plug (d := 1000) (by omega) e2) iO_73 ⟨by decide, rfl⟩ rfl rfl (Nat.le_of_ble_eq_true rfl) ⟨by decide, by decide⟩ ⟨hk.1, hk.2⟩ dL_law_847 ?_
  exact w_icmp_eq C (t := 1324) dL_law_850 (by decide) (fun _ => w_widen (by omega) (by omega) (kk h2 X' c' m' o')) (fun hne => absurd rfl hne)
theorem lc_25 (CC : lwC p l s m b meth c G A α Ln xs) (hc : CI h X) (hm : MI h X) (ho : okX (300 * j) X) (hj : 5 * j + 5 ≤ Ln) (kk : ∀ h2 X', CI h2 X' → MI h2 X' → okX (300 * j + 300) X' → WW p l e room_1 s m #[.ref b] below meth c G A 8 Q α LF h2 (101 + j) (6325 + 6 * j) 1324 (lwv j) []) : WW p l e room_1 s m #[.ref b] below meth c G A 8 Q α LF h (100 + j) (6319 + 6 * j) 855 (lwv j) [] := by
  obtain ⟨C, X0, Y, hX, hbl, hbA, hα, hLn, hst⟩ := CC
  have hk : 100 + j ≤ room_1.cells ∧ 6319 + 6 * j ≤ room_1.slots := ⟨show 100 + j ≤ 601024 by omega, show 6319 + 6 * j ≤ 7293034 by omega⟩
  obtain ⟨h1, h2, r, X', e1, e2, c', m', o'⟩ := doors_P hc hm ho 
  refine w_aload_n C 2 dL_law_855 rfl rfl ?_
  refine w_callV (st := []) (As := []) C X0 ml_RL_135 k_X10_doors (m_X10_doors (d := 1000) (by omega) e1) iO_0 ⟨by decide, rfl⟩ rfl rfl (Nat.le_of_ble_eq_true rfl) ⟨by decide, by decide⟩ ⟨hk.1, hk.2⟩ dL_law_856 ?_
  refine w_aload_n C 3 dL_law_859 rfl rfl ?_
  refine w_callV (st := [.int r]) (As := []) C X0 ml_RL_138 k_X11_doors (m_X11_doors (d := 1000) (by omega) e2) iO_73 ⟨by decide, rfl⟩ rfl rfl (Nat.le_of_ble_eq_true rfl) ⟨by decide, by decide⟩ ⟨hk.1, hk.2⟩ dL_law_860 ?_
  exact w_icmp_eq C (t := 1324) dL_law_863 (by decide) (fun _ => w_widen (by omega) (by omega) (kk h2 X' c' m' o')) (fun hne => absurd rfl hne)
theorem lc_26 (CC : lwC p l s m b meth c G A α Ln xs) (hc : CI h X) (hm : MI h X) (ho : okX (300 * j) X) (hj : 5 * j + 5 ≤ Ln) (kk : ∀ h2 X', CI h2 X' → MI h2 X' → okX (300 * j + 300) X' → WW p l e room_1 s m #[.ref b] below meth c G A 8 Q α LF h2 (101 + j) (6325 + 6 * j) 1324 (lwv j) []) : WW p l e room_1 s m #[.ref b] below meth c G A 8 Q α LF h (100 + j) (6319 + 6 * j) 868 (lwv j) [] := by
  obtain ⟨C, X0, Y, hX, hbl, hbA, hα, hLn, hst⟩ := CC
  have hk : 100 + j ≤ room_1.cells ∧ 6319 + 6 * j ≤ room_1.slots := ⟨show 100 + j ≤ 601024 by omega, show 6319 + 6 * j ≤ 7293034 by omega⟩
  obtain ⟨h1, h2, r, X', e1, e2, c', m', o'⟩ := chairs_P hc hm ho 
  refine w_aload_n C 2 dL_law_868 rfl rfl ?_
  refine w_callV (st := []) (As := []) C X0 ml_RL_139 k_X10_chairs (m_X10_chairs (d := 1000) (by omega) e1) iO_0 ⟨by decide, rfl⟩ rfl rfl (Nat.le_of_ble_eq_true rfl) ⟨by decide, by decide⟩ ⟨hk.1, hk.2⟩ dL_law_869 ?_
  refine w_aload_n C 3 dL_law_872 rfl rfl ?_
  refine w_callV (st := [.int r]) (As := []) C X0 ml_RL_142 k_X11_chairs (m_X11_chairs (d := 1000) (by omega) e2) iO_73 ⟨by decide, rfl⟩ rfl rfl (Nat.le_of_ble_eq_true rfl) ⟨by decide, by decide⟩ ⟨hk.1, hk.2⟩ dL_law_873 ?_
  exact w_icmp_eq C (t := 1324) dL_law_876 (by decide) (fun _ => w_widen (by omega) (by omega) (kk h2 X' c' m' o')) (fun hne => absurd rfl hne)
theorem lc_27 (CC : lwC p l s m b meth c G A α Ln xs) (hc : CI h X) (hm : MI h X) (ho : okX (300 * j) X) (hj : 5 * j + 5 ≤ Ln) (kk : ∀ h2 X', CI h2 X' → MI h2 X' → okX (300 * j + 300) X' → WW p l e room_1 s m #[.ref b] below meth c G A 8 Q α LF h2 (101 + j) (6325 + 6 * j) 1324 (lwv j) []) : WW p l e room_1 s m #[.ref b] below meth c G A 8 Q α LF h (100 + j) (6319 + 6 * j) 881 (lwv j) [] := by
  obtain ⟨C, X0, Y, hX, hbl, hbA, hα, hLn, hst⟩ := CC
  have hk : 100 + j ≤ room_1.cells ∧ 6319 + 6 * j ≤ room_1.slots := ⟨show 100 + j ≤ 601024 by omega, show 6319 + 6 * j ≤ 7293034 by omega⟩
  obtain ⟨h1, h2, r, X', e1, e2, c', m', o'⟩ := best_P hc hm ho  (xs (5 * j + 1))
  refine w_aload_n C 2 dL_law_881 rfl rfl ?_
  refine w_arg C hX hbl hbA hα (t := 1) 1 0 rfl rfl (by decide) (by omega) hLn dL_law_882 dL_law_883 dL_law_885 dL_law_886 dL_law_887 ?_
  refine w_callV (st := []) (As := [.int (xs (5 * j + 1))]) C X0 ml_RL_143 k_X10_best (m_X10_best (d := 1000) (by omega) e1) iO_0 ⟨by decide, rfl⟩ rfl rfl (Nat.le_of_ble_eq_true rfl) ⟨by decide, by decide⟩ ⟨hk.1, hk.2⟩ dL_law_888 ?_
  refine w_aload_n C 3 dL_law_891 rfl rfl ?_
  refine w_arg C hX hbl hbA hα (t := 1) 1 0 rfl rfl (by decide) (by omega) hLn dL_law_892 dL_law_893 dL_law_895 dL_law_896 dL_law_897 ?_
  refine w_callV (st := [.int r]) (As := [.int (xs (5 * j + 1))]) C X0 ml_RL_146 k_X11_best (m_X11_best (d := 1000) (by omega) e2) iO_73 ⟨by decide, rfl⟩ rfl rfl (Nat.le_of_ble_eq_true rfl) ⟨by decide, by decide⟩ ⟨hk.1, hk.2⟩ dL_law_898 ?_
  exact w_icmp_eq C (t := 1324) dL_law_901 (by decide) (fun _ => w_widen (by omega) (by omega) (kk h2 X' c' m' o')) (fun hne => absurd rfl hne)
theorem lc_28 (CC : lwC p l s m b meth c G A α Ln xs) (hc : CI h X) (hm : MI h X) (ho : okX (300 * j) X) (hj : 5 * j + 5 ≤ Ln) (kk : ∀ h2 X', CI h2 X' → MI h2 X' → okX (300 * j + 300) X' → WW p l e room_1 s m #[.ref b] below meth c G A 8 Q α LF h2 (101 + j) (6325 + 6 * j) 1324 (lwv j) []) : WW p l e room_1 s m #[.ref b] below meth c G A 8 Q α LF h (100 + j) (6319 + 6 * j) 906 (lwv j) [] := by
  obtain ⟨C, X0, Y, hX, hbl, hbA, hα, hLn, hst⟩ := CC
  have hk : 100 + j ≤ room_1.cells ∧ 6319 + 6 * j ≤ room_1.slots := ⟨show 100 + j ≤ 601024 by omega, show 6319 + 6 * j ≤ 7293034 by omega⟩
  obtain ⟨h1, h2, r, X', e1, e2, c', m', o'⟩ := felt_P hc hm ho  (xs (5 * j + 1))
  refine w_aload_n C 2 dL_law_906 rfl rfl ?_
  refine w_arg C hX hbl hbA hα (t := 1) 1 0 rfl rfl (by decide) (by omega) hLn dL_law_907 dL_law_908 dL_law_910 dL_law_911 dL_law_912 ?_
  refine w_callV (st := []) (As := [.int (xs (5 * j + 1))]) C X0 ml_RL_147 k_X10_felt (m_X10_felt (d := 1000) (by omega) e1) iO_0 ⟨by decide, rfl⟩ rfl rfl (Nat.le_of_ble_eq_true rfl) ⟨by decide, by decide⟩ ⟨hk.1, hk.2⟩ dL_law_913 ?_
  refine w_aload_n C 3 dL_law_916 rfl rfl ?_
  refine w_arg C hX hbl hbA hα (t := 1) 1 0 rfl rfl (by decide) (by omega) hLn dL_law_917 dL_law_918 dL_law_920 dL_law_921 dL_law_922 ?_
  refine w_callV (st := [.int r]) (As := [.int (xs (5 * j + 1))]) C X0 ml_RL_150 k_X11_felt (m_X11_felt (d := 1000) (by omega) e2) iO_73 ⟨by decide, rfl⟩ rfl rfl (Nat.le_of_ble_eq_true rfl) ⟨by decide, by decide⟩ ⟨hk.1, hk.2⟩ dL_law_923 ?_
  exact w_icmp_eq C (t := 1324) dL_law_926 (by decide) (fun _ => w_widen (by omega) (by omega) (kk h2 X' c' m' o')) (fun hne => absurd rfl hne)
theorem lc_29 (CC : lwC p l s m b meth c G A α Ln xs) (hc : CI h X) (hm : MI h X) (ho : okX (300 * j) X) (hj : 5 * j + 5 ≤ Ln) (kk : ∀ h2 X', CI h2 X' → MI h2 X' → okX (300 * j + 300) X' → WW p l e room_1 s m #[.ref b] below meth c G A 8 Q α LF h2 (101 + j) (6325 + 6 * j) 1324 (lwv j) []) : WW p l e room_1 s m #[.ref b] below meth c G A 8 Q α LF h (100 + j) (6319 + 6 * j) 931 (lwv j) [] := by
  obtain ⟨C, X0, Y, hX, hbl, hbA, hα, hLn, hst⟩ := CC
  have hk : 100 + j ≤ room_1.cells ∧ 6319 + 6 * j ≤ room_1.slots := ⟨show 100 + j ≤ 601024 by omega, show 6319 + 6 * j ≤ 7293034 by omega⟩
  obtain ⟨h1, h2, r, X', e1, e2, c', m', o'⟩ := swung_P hc hm ho  (xs (5 * j + 1))
  refine w_aload_n C 2 dL_law_931 rfl rfl ?_
  refine w_arg C hX hbl hbA hα (t := 1) 1 0 rfl rfl (by decide) (by omega) hLn dL_law_932 dL_law_933 dL_law_935 dL_law_936 dL_law_937 ?_
  refine w_callV (st := []) (As := [.int (xs (5 * j + 1))]) C X0 ml_RL_151 k_X10_swung (m_X10_swung (d := 1000) (by omega) e1) iO_0 ⟨by decide, rfl⟩ rfl rfl (Nat.le_of_ble_eq_true rfl) ⟨by decide, by decide⟩ ⟨hk.1, hk.2⟩ dL_law_938 ?_
  refine w_aload_n C 3 dL_law_941 rfl rfl ?_
  refine w_arg C hX hbl hbA hα (t := 1) 1 0 rfl rfl (by decide) (by omega) hLn dL_law_942 dL_law_943 dL_law_945 dL_law_946 dL_law_947 ?_
  refine w_callV (st := [.int r]) (As := [.int (xs (5 * j + 1))]) C X0 ml_RL_154 k_X11_swung (m_X11_swung (d := 1000) (by omega) e2) iO_73 ⟨by decide, rfl⟩ rfl rfl (Nat.le_of_ble_eq_true rfl) ⟨by decide, by decide⟩ ⟨hk.1, hk.2⟩ dL_law_948 ?_
  exact w_icmp_eq C (t := 1324) dL_law_951 (by decide) (fun _ => w_widen (by omega) (by omega) (kk h2 X' c' m' o')) (fun hne => absurd rfl hne)
theorem lc_30 (CC : lwC p l s m b meth c G A α Ln xs) (hc : CI h X) (hm : MI h X) (ho : okX (300 * j) X) (hj : 5 * j + 5 ≤ Ln) (kk : ∀ h2 X', CI h2 X' → MI h2 X' → okX (300 * j + 300) X' → WW p l e room_1 s m #[.ref b] below meth c G A 8 Q α LF h2 (101 + j) (6325 + 6 * j) 1324 (lwv j) []) : WW p l e room_1 s m #[.ref b] below meth c G A 8 Q α LF h (100 + j) (6319 + 6 * j) 956 (lwv j) [] := by
  obtain ⟨C, X0, Y, hX, hbl, hbA, hα, hLn, hst⟩ := CC
  have hk : 100 + j ≤ room_1.cells ∧ 6319 + 6 * j ≤ room_1.slots := ⟨show 100 + j ≤ 601024 by omega, show 6319 + 6 * j ≤ 7293034 by omega⟩
  obtain ⟨h1, h2, r, X', e1, e2, c', m', o'⟩ := forget_P hc hm ho 
  refine w_aload_n C 2 dL_law_956 rfl rfl ?_
  refine w_callV (st := []) (As := []) C X0 ml_RL_155 k_X10_forget (m_X10_forget (d := 1000) (by omega) e1) iO_0 ⟨by decide, rfl⟩ rfl rfl (Nat.le_of_ble_eq_true rfl) ⟨by decide, by decide⟩ ⟨hk.1, hk.2⟩ dL_law_957 ?_
  refine w_aload_n C 3 dL_law_960 rfl rfl ?_
  refine w_callV (st := [.int r]) (As := []) C X0 ml_RL_158 k_X11_forget (m_X11_forget (d := 1000) (by omega) e2) iO_73 ⟨by decide, rfl⟩ rfl rfl (Nat.le_of_ble_eq_true rfl) ⟨by decide, by decide⟩ ⟨hk.1, hk.2⟩ dL_law_961 ?_
  exact w_icmp_eq C (t := 1324) dL_law_964 (by decide) (fun _ => w_widen (by omega) (by omega) (kk h2 X' c' m' o')) (fun hne => absurd rfl hne)
theorem lc_31 (CC : lwC p l s m b meth c G A α Ln xs) (hc : CI h X) (hm : MI h X) (ho : okX (300 * j) X) (hj : 5 * j + 5 ≤ Ln) (kk : ∀ h2 X', CI h2 X' → MI h2 X' → okX (300 * j + 300) X' → WW p l e room_1 s m #[.ref b] below meth c G A 8 Q α LF h2 (101 + j) (6325 + 6 * j) 1324 (lwv j) []) : WW p l e room_1 s m #[.ref b] below meth c G A 8 Q α LF h (100 + j) (6319 + 6 * j) 969 (lwv j) [] := by
  obtain ⟨C, X0, Y, hX, hbl, hbA, hα, hLn, hst⟩ := CC
  have hk : 100 + j ≤ room_1.cells ∧ 6319 + 6 * j ≤ room_1.slots := ⟨show 100 + j ≤ 601024 by omega, show 6319 + 6 * j ≤ 7293034 by omega⟩
  obtain ⟨h1, h2, r, X', e1, e2, c', m', o'⟩ := held_P hc hm ho 
  refine w_aload_n C 2 dL_law_969 rfl rfl ?_
  refine w_callV (st := []) (As := []) C X0 ml_RL_159 k_X10_held (m_X10_held (d := 1000) (by omega) e1) iO_0 ⟨by decide, rfl⟩ rfl rfl (Nat.le_of_ble_eq_true rfl) ⟨by decide, by decide⟩ ⟨hk.1, hk.2⟩ dL_law_970 ?_
  refine w_aload_n C 3 dL_law_973 rfl rfl ?_
  refine w_callV (st := [.int r]) (As := []) C X0 ml_RL_162 k_X11_held (m_X11_held (d := 1000) (by omega) e2) iO_73 ⟨by decide, rfl⟩ rfl rfl (Nat.le_of_ble_eq_true rfl) ⟨by decide, by decide⟩ ⟨hk.1, hk.2⟩ dL_law_974 ?_
  exact w_icmp_eq C (t := 1324) dL_law_977 (by decide) (fun _ => w_widen (by omega) (by omega) (kk h2 X' c' m' o')) (fun hne => absurd rfl hne)
theorem lc_32 (CC : lwC p l s m b meth c G A α Ln xs) (hc : CI h X) (hm : MI h X) (ho : okX (300 * j) X) (hj : 5 * j + 5 ≤ Ln) (kk : ∀ h2 X', CI h2 X' → MI h2 X' → okX (300 * j + 300) X' → WW p l e room_1 s m #[.ref b] below meth c G A 8 Q α LF h2 (101 + j) (6325 + 6 * j) 1324 (lwv j) []) : WW p l e room_1 s m #[.ref b] below meth c G A 8 Q α LF h (100 + j) (6319 + 6 * j) 982 (lwv j) [] := by
  obtain ⟨C, X0, Y, hX, hbl, hbA, hα, hLn, hst⟩ := CC
  have hk : 100 + j ≤ room_1.cells ∧ 6319 + 6 * j ≤ room_1.slots := ⟨show 100 + j ≤ 601024 by omega, show 6319 + 6 * j ≤ 7293034 by omega⟩
  obtain ⟨h1, h2, r, X', e1, e2, c', m', o'⟩ := feel_P hc hm ho 
  refine w_aload_n C 2 dL_law_982 rfl rfl ?_
  refine w_callV (st := []) (As := []) C X0 ml_RL_163 k_X10_feel (m_X10_feel (d := 1000) (by omega) e1) iO_0 ⟨by decide, rfl⟩ rfl rfl (Nat.le_of_ble_eq_true rfl) ⟨by decide, by decide⟩ ⟨hk.1, hk.2⟩ dL_law_983 ?_
  refine w_aload_n C 3 dL_law_986 rfl rfl ?_
  refine w_callV (st := [.int r]) (As := []) C X0 ml_RL_166 k_X11_feel (m_X11_feel (d := 1000) (by omega) e2) iO_73 ⟨by decide, rfl⟩ rfl rfl (Nat.le_of_ble_eq_true rfl) ⟨by decide, by decide⟩ ⟨hk.1, hk.2⟩ dL_law_987 ?_
  exact w_icmp_eq C (t := 1324) dL_law_990 (by decide) (fun _ => w_widen (by omega) (by omega) (kk h2 X' c' m' o')) (fun hne => absurd rfl hne)
theorem lc_33 (CC : lwC p l s m b meth c G A α Ln xs) (hc : CI h X) (hm : MI h X) (ho : okX (300 * j) X) (hj : 5 * j + 5 ≤ Ln) (kk : ∀ h2 X', CI h2 X' → MI h2 X' → okX (300 * j + 300) X' → WW p l e room_1 s m #[.ref b] below meth c G A 8 Q α LF h2 (101 + j) (6325 + 6 * j) 1324 (lwv j) []) : WW p l e room_1 s m #[.ref b] below meth c G A 8 Q α LF h (100 + j) (6319 + 6 * j) 995 (lwv j) [] := by
  obtain ⟨C, X0, Y, hX, hbl, hbA, hα, hLn, hst⟩ := CC
  have hk : 100 + j ≤ room_1.cells ∧ 6319 + 6 * j ≤ room_1.slots := ⟨show 100 + j ≤ 601024 by omega, show 6319 + 6 * j ≤ 7293034 by omega⟩
  obtain ⟨h1, h2, r, X', e1, e2, c', m', o'⟩ := likely_P hc hm ho  (xs (5 * j + 1)) (xs (5 * j + 2))
  refine w_aload_n C 2 dL_law_995 rfl rfl ?_
  refine w_arg C hX hbl hbA hα (t := 1) 1 0 rfl rfl (by decide) (by omega) hLn dL_law_996 dL_law_997 dL_law_999 dL_law_1000 dL_law_1001 ?_
  refine w_arg C hX hbl hbA hα (t := 2) 1 0 rfl rfl (by decide) (by omega) hLn dL_law_1002 dL_law_1003 dL_law_1005 dL_law_1006 dL_law_1007 ?_
  refine w_callV (st := []) (As := [.int (xs (5 * j + 1)), .int (xs (5 * j + 2))]) C X0 ml_RL_167 k_X10_likely (m_X10_likely (d := 1000) (by omega) e1) iO_0 ⟨by decide, rfl⟩ rfl rfl (Nat.le_of_ble_eq_true rfl) ⟨by decide, by decide⟩ ⟨hk.1, hk.2⟩ dL_law_1008 ?_
  refine w_aload_n C 3 dL_law_1011 rfl rfl ?_
  refine w_arg C hX hbl hbA hα (t := 1) 1 0 rfl rfl (by decide) (by omega) hLn dL_law_1012 dL_law_1013 dL_law_1015 dL_law_1016 dL_law_1017 ?_
  refine w_arg C hX hbl hbA hα (t := 2) 1 0 rfl rfl (by decide) (by omega) hLn dL_law_1018 dL_law_1019 dL_law_1021 dL_law_1022 dL_law_1023 ?_
  refine w_callV (st := [.int r]) (As := [.int (xs (5 * j + 1)), .int (xs (5 * j + 2))]) C X0 ml_RL_170 k_X11_likely (m_X11_likely (d := 1000) (by omega) e2) iO_73 ⟨by decide, rfl⟩ rfl rfl (Nat.le_of_ble_eq_true rfl) ⟨by decide, by decide⟩ ⟨hk.1, hk.2⟩ dL_law_1024 ?_
  exact w_icmp_eq C (t := 1324) dL_law_1027 (by decide) (fun _ => w_widen (by omega) (by omega) (kk h2 X' c' m' o')) (fun hne => absurd rfl hne)
theorem lc_34 (CC : lwC p l s m b meth c G A α Ln xs) (hc : CI h X) (hm : MI h X) (ho : okX (300 * j) X) (hj : 5 * j + 5 ≤ Ln) (kk : ∀ h2 X', CI h2 X' → MI h2 X' → okX (300 * j + 300) X' → WW p l e room_1 s m #[.ref b] below meth c G A 8 Q α LF h2 (101 + j) (6325 + 6 * j) 1324 (lwv j) []) : WW p l e room_1 s m #[.ref b] below meth c G A 8 Q α LF h (100 + j) (6319 + 6 * j) 1032 (lwv j) [] := by
  obtain ⟨C, X0, Y, hX, hbl, hbA, hα, hLn, hst⟩ := CC
  have hk : 100 + j ≤ room_1.cells ∧ 6319 + 6 * j ≤ room_1.slots := ⟨show 100 + j ≤ 601024 by omega, show 6319 + 6 * j ≤ 7293034 by omega⟩
  obtain ⟨h1, h2, r, X', e1, e2, c', m', o'⟩ := week_P hc hm ho  (xs (5 * j + 1)) (xs (5 * j + 2))
  refine w_aload_n C 2 dL_law_1032 rfl rfl ?_
  refine w_arg C hX hbl hbA hα (t := 1) 1 0 rfl rfl (by decide) (by omega) hLn dL_law_1033 dL_law_1034 dL_law_1036 dL_law_1037 dL_law_1038 ?_
  refine w_arg C hX hbl hbA hα (t := 2) 1 0 rfl rfl (by decide) (by omega) hLn dL_law_1039 dL_law_1040 dL_law_1042 dL_law_1043 dL_law_1044 ?_
  refine w_callV (st := []) (As := [.int (xs (5 * j + 1)), .int (xs (5 * j + 2))]) C X0 ml_RL_171 k_X10_week (m_X10_week (d := 1000) (by omega) e1) iO_0 ⟨by decide, rfl⟩ rfl rfl (Nat.le_of_ble_eq_true rfl) ⟨by decide, by decide⟩ ⟨hk.1, hk.2⟩ dL_law_1045 ?_
  refine w_aload_n C 3 dL_law_1048 rfl rfl ?_
  refine w_arg C hX hbl hbA hα (t := 1) 1 0 rfl rfl (by decide) (by omega) hLn dL_law_1049 dL_law_1050 dL_law_1052 dL_law_1053 dL_law_1054 ?_
  refine w_arg C hX hbl hbA hα (t := 2) 1 0 rfl rfl (by decide) (by omega) hLn dL_law_1055 dL_law_1056 dL_law_1058 dL_law_1059 dL_law_1060 ?_
  refine w_callV (st := [.int r]) (As := [.int (xs (5 * j + 1)), .int (xs (5 * j + 2))]) C X0 ml_RL_174 k_X11_week (m_X11_week (d := 1000) (by omega) e2) iO_73 ⟨by decide, rfl⟩ rfl rfl (Nat.le_of_ble_eq_true rfl) ⟨by decide, by decide⟩ ⟨hk.1, hk.2⟩ dL_law_1061 ?_
  exact w_icmp_eq C (t := 1324) dL_law_1064 (by decide) (fun _ => w_widen (by omega) (by omega) (kk h2 X' c' m' o')) (fun hne => absurd rfl hne)
theorem lc_35 (CC : lwC p l s m b meth c G A α Ln xs) (hc : CI h X) (hm : MI h X) (ho : okX (300 * j) X) (hj : 5 * j + 5 ≤ Ln) (kk : ∀ h2 X', CI h2 X' → MI h2 X' → okX (300 * j + 300) X' → WW p l e room_1 s m #[.ref b] below meth c G A 8 Q α LF h2 (101 + j) (6325 + 6 * j) 1324 (lwv j) []) : WW p l e room_1 s m #[.ref b] below meth c G A 8 Q α LF h (100 + j) (6319 + 6 * j) 1069 (lwv j) [] := by
  obtain ⟨C, X0, Y, hX, hbl, hbA, hα, hLn, hst⟩ := CC
  have hk : 100 + j ≤ room_1.cells ∧ 6319 + 6 * j ≤ room_1.slots := ⟨show 100 + j ≤ 601024 by omega, show 6319 + 6 * j ≤ 7293034 by omega⟩
  obtain ⟨h1, h2, r, X', e1, e2, c', m', o'⟩ := looks_P hc hm ho 
  refine w_aload_n C 2 dL_law_1069 rfl rfl ?_
  refine w_callV (st := []) (As := []) C X0 ml_RL_175 k_X10_looks (m_X10_looks (d := 1000) (by omega) e1) iO_0 ⟨by decide, rfl⟩ rfl rfl (Nat.le_of_ble_eq_true rfl) ⟨by decide, by decide⟩ ⟨hk.1, hk.2⟩ dL_law_1070 ?_
  refine w_aload_n C 3 dL_law_1073 rfl rfl ?_
  refine w_callV (st := [.int r]) (As := []) C X0 ml_RL_178 k_X11_looks (m_X11_looks (d := 1000) (by omega) e2) iO_73 ⟨by decide, rfl⟩ rfl rfl (Nat.le_of_ble_eq_true rfl) ⟨by decide, by decide⟩ ⟨hk.1, hk.2⟩ dL_law_1074 ?_
  exact w_icmp_eq C (t := 1324) dL_law_1077 (by decide) (fun _ => w_widen (by omega) (by omega) (kk h2 X' c' m' o')) (fun hne => absurd rfl hne)
theorem lc_36 (CC : lwC p l s m b meth c G A α Ln xs) (hc : CI h X) (hm : MI h X) (ho : okX (300 * j) X) (hj : 5 * j + 5 ≤ Ln) (kk : ∀ h2 X', CI h2 X' → MI h2 X' → okX (300 * j + 300) X' → WW p l e room_1 s m #[.ref b] below meth c G A 8 Q α LF h2 (101 + j) (6325 + 6 * j) 1324 (lwv j) []) : WW p l e room_1 s m #[.ref b] below meth c G A 8 Q α LF h (100 + j) (6319 + 6 * j) 1082 (lwv j) [] := by
  obtain ⟨C, X0, Y, hX, hbl, hbA, hα, hLn, hst⟩ := CC
  have hk : 100 + j ≤ room_1.cells ∧ 6319 + 6 * j ≤ room_1.slots := ⟨show 100 + j ≤ 601024 by omega, show 6319 + 6 * j ≤ 7293034 by omega⟩
  obtain ⟨h1, h2, r, X', e1, e2, c', m', o'⟩ := box_P hc hm ho  (xs (5 * j + 1))
  refine w_aload_n C 2 dL_law_1082 rfl rfl ?_
  refine w_arg C hX hbl hbA hα (t := 1) 1 0 rfl rfl (by decide) (by omega) hLn dL_law_1083 dL_law_1084 dL_law_1086 dL_law_1087 dL_law_1088 ?_
  refine w_callV (st := []) (As := [.int (xs (5 * j + 1))]) C X0 ml_RL_179 k_X10_box (m_X10_box (d := 1000) (by omega) e1) iO_0 ⟨by decide, rfl⟩ rfl rfl (Nat.le_of_ble_eq_true rfl) ⟨by decide, by decide⟩ ⟨hk.1, hk.2⟩ dL_law_1089 ?_
  refine w_aload_n C 3 dL_law_1092 rfl rfl ?_
  refine w_arg C hX hbl hbA hα (t := 1) 1 0 rfl rfl (by decide) (by omega) hLn dL_law_1093 dL_law_1094 dL_law_1096 dL_law_1097 dL_law_1098 ?_
  refine w_callV (st := [.int r]) (As := [.int (xs (5 * j + 1))]) C X0 ml_RL_182 k_X11_box (m_X11_box (d := 1000) (by omega) e2) iO_73 ⟨by decide, rfl⟩ rfl rfl (Nat.le_of_ble_eq_true rfl) ⟨by decide, by decide⟩ ⟨hk.1, hk.2⟩ dL_law_1099 ?_
  exact w_icmp_eq C (t := 1324) dL_law_1102 (by decide) (fun _ => w_widen (by omega) (by omega) (kk h2 X' c' m' o')) (fun hne => absurd rfl hne)
theorem lc_37 (CC : lwC p l s m b meth c G A α Ln xs) (hc : CI h X) (hm : MI h X) (ho : okX (300 * j) X) (hj : 5 * j + 5 ≤ Ln) (kk : ∀ h2 X', CI h2 X' → MI h2 X' → okX (300 * j + 300) X' → WW p l e room_1 s m #[.ref b] below meth c G A 8 Q α LF h2 (101 + j) (6325 + 6 * j) 1324 (lwv j) []) : WW p l e room_1 s m #[.ref b] below meth c G A 8 Q α LF h (100 + j) (6319 + 6 * j) 1107 (lwv j) [] := by
  obtain ⟨C, X0, Y, hX, hbl, hbA, hα, hLn, hst⟩ := CC
  have hk : 100 + j ≤ room_1.cells ∧ 6319 + 6 * j ≤ room_1.slots := ⟨show 100 + j ≤ 601024 by omega, show 6319 + 6 * j ≤ 7293034 by omega⟩
  obtain ⟨h1, h2, r, X', e1, e2, c', m', o'⟩ := clean_P hc hm ho  (xs (5 * j + 1))
  refine w_aload_n C 2 dL_law_1107 rfl rfl ?_
  refine w_arg C hX hbl hbA hα (t := 1) 1 0 rfl rfl (by decide) (by omega) hLn dL_law_1108 dL_law_1109 dL_law_1111 dL_law_1112 dL_law_1113 ?_
  refine w_callV (st := []) (As := [.int (xs (5 * j + 1))]) C X0 ml_RL_183 k_X10_clean (m_X10_clean (d := 1000) (by omega) e1) iO_0 ⟨by decide, rfl⟩ rfl rfl (Nat.le_of_ble_eq_true rfl) ⟨by decide, by decide⟩ ⟨hk.1, hk.2⟩ dL_law_1114 ?_
  refine w_aload_n C 3 dL_law_1117 rfl rfl ?_
  refine w_arg C hX hbl hbA hα (t := 1) 1 0 rfl rfl (by decide) (by omega) hLn dL_law_1118 dL_law_1119 dL_law_1121 dL_law_1122 dL_law_1123 ?_
  refine w_callV (st := [.int r]) (As := [.int (xs (5 * j + 1))]) C X0 ml_RL_186 k_X11_clean (m_X11_clean (d := 1000) (by omega) e2) iO_73 ⟨by decide, rfl⟩ rfl rfl (Nat.le_of_ble_eq_true rfl) ⟨by decide, by decide⟩ ⟨hk.1, hk.2⟩ dL_law_1124 ?_
  exact w_icmp_eq C (t := 1324) dL_law_1127 (by decide) (fun _ => w_widen (by omega) (by omega) (kk h2 X' c' m' o')) (fun hne => absurd rfl hne)
theorem lc_38 (CC : lwC p l s m b meth c G A α Ln xs) (hc : CI h X) (hm : MI h X) (ho : okX (300 * j) X) (hj : 5 * j + 5 ≤ Ln) (kk : ∀ h2 X', CI h2 X' → MI h2 X' → okX (300 * j + 300) X' → WW p l e room_1 s m #[.ref b] below meth c G A 8 Q α LF h2 (101 + j) (6325 + 6 * j) 1324 (lwv j) []) : WW p l e room_1 s m #[.ref b] below meth c G A 8 Q α LF h (100 + j) (6319 + 6 * j) 1132 (lwv j) [] := by
  obtain ⟨C, X0, Y, hX, hbl, hbA, hα, hLn, hst⟩ := CC
  have hk : 100 + j ≤ room_1.cells ∧ 6319 + 6 * j ≤ room_1.slots := ⟨show 100 + j ≤ 601024 by omega, show 6319 + 6 * j ≤ 7293034 by omega⟩
  obtain ⟨h1, h2, r, X', e1, e2, c', m', o'⟩ := rests_P hc hm ho  (xs (5 * j + 1))
  refine w_aload_n C 2 dL_law_1132 rfl rfl ?_
  refine w_arg C hX hbl hbA hα (t := 1) 1 0 rfl rfl (by decide) (by omega) hLn dL_law_1133 dL_law_1134 dL_law_1136 dL_law_1137 dL_law_1138 ?_
  refine w_callV (st := []) (As := [.int (xs (5 * j + 1))]) C X0 ml_RL_187 k_X10_rests (m_X10_rests (d := 1000) (by omega) e1) iO_0 ⟨by decide, rfl⟩ rfl rfl (Nat.le_of_ble_eq_true rfl) ⟨by decide, by decide⟩ ⟨hk.1, hk.2⟩ dL_law_1139 ?_
  refine w_aload_n C 3 dL_law_1142 rfl rfl ?_
  refine w_arg C hX hbl hbA hα (t := 1) 1 0 rfl rfl (by decide) (by omega) hLn dL_law_1143 dL_law_1144 dL_law_1146 dL_law_1147 dL_law_1148 ?_
  refine w_callV (st := [.int r]) (As := [.int (xs (5 * j + 1))]) C X0 ml_RL_190 k_X11_rests (m_X11_rests (d := 1000) (by omega) e2) iO_73 ⟨by decide, rfl⟩ rfl rfl (Nat.le_of_ble_eq_true rfl) ⟨by decide, by decide⟩ ⟨hk.1, hk.2⟩ dL_law_1149 ?_
  exact w_icmp_eq C (t := 1324) dL_law_1152 (by decide) (fun _ => w_widen (by omega) (by omega) (kk h2 X' c' m' o')) (fun hne => absurd rfl hne)
theorem lc_39 (CC : lwC p l s m b meth c G A α Ln xs) (hc : CI h X) (hm : MI h X) (ho : okX (300 * j) X) (hj : 5 * j + 5 ≤ Ln) (kk : ∀ h2 X', CI h2 X' → MI h2 X' → okX (300 * j + 300) X' → WW p l e room_1 s m #[.ref b] below meth c G A 8 Q α LF h2 (101 + j) (6325 + 6 * j) 1324 (lwv j) []) : WW p l e room_1 s m #[.ref b] below meth c G A 8 Q α LF h (100 + j) (6319 + 6 * j) 1157 (lwv j) [] := by
  obtain ⟨C, X0, Y, hX, hbl, hbA, hα, hLn, hst⟩ := CC
  have hk : 100 + j ≤ room_1.cells ∧ 6319 + 6 * j ≤ room_1.slots := ⟨show 100 + j ≤ 601024 by omega, show 6319 + 6 * j ≤ 7293034 by omega⟩
  obtain ⟨h1, h2, r, X', e1, e2, c', m', o'⟩ := weeks_P hc hm ho (by omega) (xs (5 * j + 1)) (xs (5 * j + 2))
  refine w_aload_n C 2 dL_law_1157 rfl rfl ?_
  refine w_arg C hX hbl hbA hα (t := 1) 1 0 rfl rfl (by decide) (by omega) hLn dL_law_1158 dL_law_1159 dL_law_1161 dL_law_1162 dL_law_1163 ?_
  refine w_arg C hX hbl hbA hα (t := 2) 1 0 rfl rfl (by decide) (by omega) hLn dL_law_1164 dL_law_1165 dL_law_1167 dL_law_1168 dL_law_1169 ?_
  refine w_callV (st := []) (As := [.int (xs (5 * j + 1)), .int (xs (5 * j + 2))]) C X0 ml_RL_191 k_X10_weeks (m_X10_weeks (d := 1000) (by omega) e1) iO_0 ⟨by decide, rfl⟩ rfl rfl (Nat.le_of_ble_eq_true rfl) ⟨by decide, by decide⟩ ⟨hk.1, hk.2⟩ dL_law_1170 ?_
  refine w_aload_n C 3 dL_law_1173 rfl rfl ?_
  refine w_arg C hX hbl hbA hα (t := 1) 1 0 rfl rfl (by decide) (by omega) hLn dL_law_1174 dL_law_1175 dL_law_1177 dL_law_1178 dL_law_1179 ?_
  refine w_arg C hX hbl hbA hα (t := 2) 1 0 rfl rfl (by decide) (by omega) hLn dL_law_1180 dL_law_1181 dL_law_1183 dL_law_1184 dL_law_1185 ?_
  refine w_callV (st := [.int r]) (As := [.int (xs (5 * j + 1)), .int (xs (5 * j + 2))]) C X0 ml_RL_194 k_X11_weeks (m_X11_weeks (d := 1000) (by omega) e2) iO_73 ⟨by decide, rfl⟩ rfl rfl (Nat.le_of_ble_eq_true rfl) ⟨by decide, by decide⟩ ⟨hk.1, hk.2⟩ dL_law_1186 ?_
  exact w_icmp_eq C (t := 1324) dL_law_1189 (by decide) (fun _ => w_widen (by omega) (by omega) (kk h2 X' c' m' o')) (fun hne => absurd rfl hne)
theorem lc_40 (CC : lwC p l s m b meth c G A α Ln xs) (hc : CI h X) (hm : MI h X) (ho : okX (300 * j) X) (hj : 5 * j + 5 ≤ Ln) (kk : ∀ h2 X', CI h2 X' → MI h2 X' → okX (300 * j + 300) X' → WW p l e room_1 s m #[.ref b] below meth c G A 8 Q α LF h2 (101 + j) (6325 + 6 * j) 1324 (lwv j) []) : WW p l e room_1 s m #[.ref b] below meth c G A 8 Q α LF h (100 + j) (6319 + 6 * j) 1194 (lwv j) [] := by
  obtain ⟨C, X0, Y, hX, hbl, hbA, hα, hLn, hst⟩ := CC
  have hk : 100 + j ≤ room_1.cells ∧ 6319 + 6 * j ≤ room_1.slots := ⟨show 100 + j ≤ 601024 by omega, show 6319 + 6 * j ≤ 7293034 by omega⟩
  obtain ⟨h1, h2, r, X', e1, e2, c', m', o'⟩ := keep_P hc hm ho  (xs (5 * j + 1))
  refine w_aload_n C 2 dL_law_1194 rfl rfl ?_
  refine w_arg C hX hbl hbA hα (t := 1) 1 0 rfl rfl (by decide) (by omega) hLn dL_law_1195 dL_law_1196 dL_law_1198 dL_law_1199 dL_law_1200 ?_
  refine w_callV (st := []) (As := [.int (xs (5 * j + 1))]) C X0 ml_RL_195 k_X10_keep (m_X10_keep (d := 1000) (by omega) e1) iO_0 ⟨by decide, rfl⟩ rfl rfl (Nat.le_of_ble_eq_true rfl) ⟨by decide, by decide⟩ ⟨hk.1, hk.2⟩ dL_law_1201 ?_
  refine w_aload_n C 3 dL_law_1204 rfl rfl ?_
  refine w_arg C hX hbl hbA hα (t := 1) 1 0 rfl rfl (by decide) (by omega) hLn dL_law_1205 dL_law_1206 dL_law_1208 dL_law_1209 dL_law_1210 ?_
  refine w_callV (st := [.int r]) (As := [.int (xs (5 * j + 1))]) C X0 ml_RL_198 k_X11_keep (m_X11_keep (d := 1000) (by omega) e2) iO_73 ⟨by decide, rfl⟩ rfl rfl (Nat.le_of_ble_eq_true rfl) ⟨by decide, by decide⟩ ⟨hk.1, hk.2⟩ dL_law_1211 ?_
  exact w_icmp_eq C (t := 1324) dL_law_1214 (by decide) (fun _ => w_widen (by omega) (by omega) (kk h2 X' c' m' o')) (fun hne => absurd rfl hne)
theorem lc_41 (CC : lwC p l s m b meth c G A α Ln xs) (hc : CI h X) (hm : MI h X) (ho : okX (300 * j) X) (hj : 5 * j + 5 ≤ Ln) (kk : ∀ h2 X', CI h2 X' → MI h2 X' → okX (300 * j + 300) X' → WW p l e room_1 s m #[.ref b] below meth c G A 8 Q α LF h2 (101 + j) (6325 + 6 * j) 1324 (lwv j) []) : WW p l e room_1 s m #[.ref b] below meth c G A 8 Q α LF h (100 + j) (6319 + 6 * j) 1219 (lwv j) [] := by
  obtain ⟨C, X0, Y, hX, hbl, hbA, hα, hLn, hst⟩ := CC
  have hk : 100 + j ≤ room_1.cells ∧ 6319 + 6 * j ≤ room_1.slots := ⟨show 100 + j ≤ 601024 by omega, show 6319 + 6 * j ≤ 7293034 by omega⟩
  obtain ⟨h1, h2, r, X', e1, e2, c', m', o'⟩ := again_P hc hm ho  (xs (5 * j + 1))
  refine w_aload_n C 2 dL_law_1219 rfl rfl ?_
  refine w_arg C hX hbl hbA hα (t := 1) 1 0 rfl rfl (by decide) (by omega) hLn dL_law_1220 dL_law_1221 dL_law_1223 dL_law_1224 dL_law_1225 ?_
  refine w_callV (st := []) (As := [.int (xs (5 * j + 1))]) C X0 ml_RL_199 k_X10_again (m_X10_again (d := 1000) (by omega) e1) iO_0 ⟨by decide, rfl⟩ rfl rfl (Nat.le_of_ble_eq_true rfl) ⟨by decide, by decide⟩ ⟨hk.1, hk.2⟩ dL_law_1226 ?_
  refine w_aload_n C 3 dL_law_1229 rfl rfl ?_
  refine w_arg C hX hbl hbA hα (t := 1) 1 0 rfl rfl (by decide) (by omega) hLn dL_law_1230 dL_law_1231 dL_law_1233 dL_law_1234 dL_law_1235 ?_
  refine w_callV (st := [.int r]) (As := [.int (xs (5 * j + 1))]) C X0 ml_RL_202 k_X11_again (m_X11_again (d := 1000) (by omega) e2) iO_73 ⟨by decide, rfl⟩ rfl rfl (Nat.le_of_ble_eq_true rfl) ⟨by decide, by decide⟩ ⟨hk.1, hk.2⟩ dL_law_1236 ?_
  exact w_icmp_eq C (t := 1324) dL_law_1239 (by decide) (fun _ => w_widen (by omega) (by omega) (kk h2 X' c' m' o')) (fun hne => absurd rfl hne)
theorem lc_42 (CC : lwC p l s m b meth c G A α Ln xs) (hc : CI h X) (hm : MI h X) (ho : okX (300 * j) X) (hj : 5 * j + 5 ≤ Ln) (kk : ∀ h2 X', CI h2 X' → MI h2 X' → okX (300 * j + 300) X' → WW p l e room_1 s m #[.ref b] below meth c G A 8 Q α LF h2 (101 + j) (6325 + 6 * j) 1324 (lwv j) []) : WW p l e room_1 s m #[.ref b] below meth c G A 8 Q α LF h (100 + j) (6319 + 6 * j) 1244 (lwv j) [] := by
  obtain ⟨C, X0, Y, hX, hbl, hbA, hα, hLn, hst⟩ := CC
  have hk : 100 + j ≤ room_1.cells ∧ 6319 + 6 * j ≤ room_1.slots := ⟨show 100 + j ≤ 601024 by omega, show 6319 + 6 * j ≤ 7293034 by omega⟩
  obtain ⟨r, e1, e2⟩ := count_R hc hm ho (xs (5 * j + 1))
  refine w_aload_n C 2 dL_law_1244 rfl rfl ?_
  refine w_arg C hX hbl hbA hα (t := 1) 1 0 rfl rfl (by decide) (by omega) hLn dL_law_1245 dL_law_1246 dL_law_1248 dL_law_1249 dL_law_1250 ?_
  refine w_callV (st := []) (As := [.int (xs (5 * j + 1))]) C X0 ml_RL_203 k_X10_count (m_X10_count (d := 1000) (by omega) e1) iO_0 ⟨by decide, rfl⟩ rfl rfl (Nat.le_of_ble_eq_true rfl) ⟨by decide, by decide⟩ ⟨hk.1, hk.2⟩ dL_law_1251 ?_
  refine w_aload_n C 3 dL_law_1254 rfl rfl ?_
  refine w_arg C hX hbl hbA hα (t := 1) 1 0 rfl rfl (by decide) (by omega) hLn dL_law_1255 dL_law_1256 dL_law_1258 dL_law_1259 dL_law_1260 ?_
  refine w_callV (st := [.int r]) (As := [.int (xs (5 * j + 1))]) C X0 ml_RL_206 k_X11_count (m_X11_count (d := 1000) (by omega) e2) iO_73 ⟨by decide, rfl⟩ rfl rfl (Nat.le_of_ble_eq_true rfl) ⟨by decide, by decide⟩ ⟨hk.1, hk.2⟩ dL_law_1261 ?_
  exact w_icmp_eq C (t := 1324) dL_law_1264 (by decide) (fun _ => w_widen (by omega) (by omega) (kk _ X (CI_mdl (only_sI (by unfold mdl; omega)) hc) (MI_scr thr_M hm) (okX_mono (by omega) ho))) (fun hne => absurd rfl hne)
end LAWC

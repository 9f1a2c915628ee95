/-! The law, from its entry to its loop. -/
theorem law_start {p : Program} {l : Launch} {e : Env} {s : State} {m : MethodId} {b : Nat} {below : List Frame} {meth : Method} {c : Code} {G : eG} {A : Nat → Prop} {α : Nat → Nat} {Ln : Nat} {xs : Nat → Int32} (CC : lwC p l s m b meth c G A α Ln xs) (hA : ∀ q, A q ↔ s.heap.size ≤ q) : WW p l e room_1 s m #[.ref b] below meth c G A 8 (lw_Z below #[Value.ref b] s) α wL0 wH0 0 0 0 [(0, .ref e_scr)] [] := by
  obtain ⟨C, X0, Y, hX, hbl, hbA, hα, hLn, hst⟩ := id CC
  have o0 : ∀ n, okv n (.ref e_scr) := fun n => Or.inr (by decide)
  have ok1 : ∀ n, ∀ q ∈ [((0 : Nat), Value.ref e_scr)], okv n q.2 := fun n q hq => by rw [List.mem_singleton.mp hq]; exact o0 n
  refine w_new (ci := 10) C X0 (by decide) (e_df0 10 (by decide)) cl_RL_8 it_10 in_10 ww0_0 ⟨ok1 _, fun v hv => nomatch hv⟩ ⟨by decide, by decide⟩ dL_law_0 (fun α1 a1 X1 => ?_)
  refine w_dup C dL_law_3 ?_
  refine w_callI (L := wL1) (h := wH1) (st := [.ref 0]) (As := []) C X1 ml_RL_23 k_X10_init (m_X10_init (d := 1000) (by omega)) ⟨ok1 _, fun v hv => by rw [List.mem_singleton.mp hv]; exact Or.inl (by decide)⟩ rfl rfl (by decide) ⟨by decide, by decide⟩ ⟨by decide, by decide⟩ dL_law_4 (fun α2 a2 X2 => ?_)
  refine w_astore_n (i := 1) (lv' := [(1, .ref 0), (0, .ref e_scr)]) C dL_law_7 rfl (by decide) rfl ?_
  have ok2 : ∀ n, 0 < n → ∀ q ∈ [((1 : Nat), Value.ref 0), (0, .ref e_scr)], okv n q.2 := fun n hn q hq => by
    rcases List.mem_cons.mp hq with rfl | hq
    · exact Or.inl hn
    · exact ok1 n q hq
  refine w_new (ci := 11) (L := wL70) (h := wH111) C X2 (by decide) (e_df0 11 (by decide)) cl_RL_24 it_11 in_11 ww70_111 ⟨ok2 _ (by decide), fun v hv => nomatch hv⟩ ⟨by decide, by decide⟩ dL_law_8 (fun α3 a3 X3 => ?_)
  refine w_dup C dL_law_11 ?_
  refine w_callI (L := wL71) (h := wH112) (st := [.ref 73]) (As := []) C X3 ml_RL_26 k_X11_init (m_X11_init (d := 1000) (by omega)) ⟨ok2 _ (by decide), fun v hv => by rw [List.mem_singleton.mp hv]; exact Or.inl (by decide)⟩ rfl rfl (by decide) ⟨by decide, by decide⟩ ⟨by decide, by decide⟩ dL_law_12 (fun α4 a4 X4 => ?_)
  refine w_astore_n (i := 2) (lv' := [(2, .ref 73), (1, .ref 0), (0, .ref e_scr)]) C dL_law_15 rfl (by decide) rfl ?_
  have ok3 : ∀ n, 73 < n → ∀ q ∈ [((2 : Nat), Value.ref 73), (1, .ref 0), (0, .ref e_scr)], okv n q.2 := fun n hn q hq => by
    rcases List.mem_cons.mp hq with rfl | hq
    · exact Or.inl hn
    · exact ok2 n (by omega) q hq
  refine w_iconst C (v := 1) dL_law_16 (by decide) ?_
  refine w_newJ (N := 1) (L := wL96) (h := wH168) C X4 aw_long (by decide) (by decide) (by decide) ww96_168 ⟨ok3 _ (by decide), fun v hv => nomatch hv⟩ ⟨by decide, by decide⟩ dL_law_17 (fun α5 a5 X5 => ?_)
  refine w_astore_n (i := 3) (lv' := [(3, .ref 99), (2, .ref 73), (1, .ref 0), (0, .ref e_scr)]) C dL_law_19 rfl (by decide) rfl ?_
  refine w_iconst C (v := 0) dL_law_20 (by decide) ?_
  refine w_istore C (lv' := [(4, .int 0), (3, .ref 99), (2, .ref 73), (1, .ref 0), (0, .ref e_scr)]) dL_law_21 (by decide) rfl ?_
  refine w_sub (lv' := lwv 0) [0, 4, 3, 2, 1] rfl ?_
  have hα5 : α5 e_scr = b := (a5 _ (Or.inr (by decide))).trans ((a4 _ (Or.inr (by decide))).trans ((a3 _ (Or.inr (by decide))).trans ((a2 _ (Or.inr (by decide))).trans ((a1 _ (Or.inr (by decide))).trans hα))))
  exact law_loop ⟨C, X5, Y, hX, hbl, hbA, hα5, hLn, hst⟩ hA 512 0 (by decide) (by omega) wH169 x0 x0_C x0_M x0_ok

/-! the law's own methods: a call in a try, returned or caught -/
theorem met_H {l : Launch} {y : MethodName} {ws ws' : List Cond} {rm : Room} {Pc : Array Value → State → Prop} {Qc : Array Value → State → Outcome → State → Prop} {mc ms : Nat} {free : Addr → Prop} {cc : ByteArray} {maxL : Nat} {ret : Option FieldType} {hh : List (Nat × Nat × Nat × Nat)}
    (hy : plainName y.cls = true) (hw : ws = Cond.codeWith y cc maxL ret hh :: ws')
    (body : ∀ p e s m args below meth c s₁, BodyLoose p l y (headSpec ws rm) cc maxL ret e s m args below meth c s₁ → c.maxLocals = maxL → c.exceptionTable.toList = tableOf hh → Pc args s →
      W p l e (headSpec ws rm).room s m args below meth c s.heap [] 0 0 (MQ below Qc args s mc ms free) (entryFrame m args maxL)) : Met l y ws rm Pc Qc mc ms free := by
  refine MetFree.of_bodyS (code := cc) (maxLocals := maxL) (ret := ret) hy ?_ ?_
  · intro args s m h hn
    obtain ⟨m9, meth, c, hn9, h1, h2, h3, h4, -, h5, h6, -⟩ := Cond.codeWith_spec (atoms_spec (ws := ws) h _ (by rw [hw]; exact List.mem_cons_self))
    cases hn.symm.trans hn9
    exact ⟨meth, c, h1, h2, h3, h4, h5, h6⟩
  · intro p e s m args below meth c s₁ B hml hP _
    have hh0 : s₁.heap = s.heap := by rw [B.state]; rfl
    have ht := vx_table (x := y) B (atoms_spec (ws := ws) B.pre _ (by rw [hw]; exact List.mem_cons_self))
    obtain ⟨t, a1, o, b1, b2, b3⟩ := body p e s m args below meth c s₁ B hml ht hP s₁ hh0 (Stand.of_body B)
    exact ⟨t, o, a1, b1, b2, ⟨b3.1, b3.2⟩⟩
def hL_Met (l : Launch) (y : MethodName) (cc : ByteArray) (nL : Nat) (ret : Option FieldType) (hh : List (Nat × Nat × Nat × Nat)) (d mc ms : Nat) (L : eL) (h : eH) (as : List Value) (Qa : Option Value → eL → eH → Prop) : Prop := ∀ (G : eG) (α : Nat → Nat) (A : Nat → Prop), Met l y (.codeWith y cc nL ret hh :: e_gw) (e_rm d mc ms) (t_P G α A L h as) (e_Q G α A L true Qa) mc ms A
theorem hL_met {l : Launch} {y : MethodName} {cc : ByteArray} {nL : Nat} {ret : Option FieldType} {hh : List (Nat × Nat × Nat × Nat)} {d mc ms : Nat} {L : eL} {h : eH} {as : List Value} {Qa : Option Value → eL → eH → Prop} (hy : plainName y.cls = true) (hn : (lg_sl as).length ≤ nL)
    (hE : ∀ (G : eG) (α : Nat → Nat) (A : Nat → Prop) (p : Program) (e : Env) (s : State) (m : MethodId) (args : Array Value) (below : List Frame) (meth : Method) (c : Code), e_C y cc nL ret G A p s m args meth c → e_X α A s → e_Y A s → c.exceptionTable.toList = tableOf hh → WW p l e (e_rm d mc ms) s m args below meth c G A nL (MQ below (e_Q G α A L true Qa) args s mc ms A) α L h 0 0 0 (lv_args 0 as) []) : hL_Met l y cc nL ret hh d mc ms L h as Qa := by
  intro G α A
  refine met_H (cc := cc) (maxL := nL) (ret := ret) (hh := hh) hy rfl ?_
  intro p e s m args below meth c s₁ B hml ht hv
  obtain ⟨⟨rfl, ⟨hP, hD⟩, hK, hA, hX⟩, hY⟩ := hv
  have hts := atoms_spec (ws := .codeWith y cc nL ret hh :: e_gw) B.pre
  have hl := lv_entry (as.map (e_tv α)) (n := nL) (by rw [e_sl]; exact hn)
  rw [e_args] at hl
  rw [lg_entry_eq]
  exact hE G α A p e s m _ below meth c ⟨B.exec, B.bytes, B.returns, hml, findClass_of_methodNamed B.named, (name_of_methodNamed B.named B.method).1, fun w hw => hts w (List.mem_cons_of_mem _ hw), B.notSynchronized, hK, hA⟩ hX hY ht s.heap [] _ hP hD va_S.rf hl
section OWN
variable {p : Program} {l : Launch} {e : Env} {R : Room} {s : State} {m : MethodId} {args : Array Value} {below : List Frame} {meth : Method} {c : Code} {G : eG} {A : Nat → Prop} {nL : Nat} {Q : State → Prop} {α : Nat → Nat} {L : eL} {h : eH} {k n pc : Nat} {lv : List (Nat × Value)} {st : List Value}
variable {y : MethodName} {cc : ByteArray} {ret : Option FieldType}
theorem w_last (C : e_C y cc nL ret G A p s m args meth c) {b : Nat} {i : Int32} {v : Int64} (hi : inA L b 1 i = true) (hd : decode cc pc = .ok (.lastore, 1)) (kk : WW p l e R s m args below meth c G A nL Q α L (sL h b i.toNatClampNeg v) k n (pc + 1) lv st) : WW p l e R s m args below meth c G A nL Q α L h k n pc lv (.long v :: .int i :: .ref b :: st) := by
  intro H locs ls hP hD hS hl
  obtain ⟨z, h1, h2⟩ := inA_spec hi
  refine va_last C.1 C.2.1 C.2.2.2.2.2.2.2.2.1 hP hD hS b 1 (e_ws_A h1) rfl h2 hd (fun H1 locs1 hP hD hS => ?_)
  rw [e_set_aL h1] at hP hD
  exact kk H1 locs1 ls hP hD hS hl
theorem w_iret (C : e_C y cc nL ret G A p s m args meth c) {mc ms : Nat} {x : Int32} {L0 : eL} {Qa : Option Value → eL → eH → Prop} (ha : e_ag true L0 α L α) (hr : ret = some .int) (hd : decode cc pc = .ok (.ireturn, 1)) (hq : Qa (some (.int x)) L h) : WW p l e R s m args below meth c G A nL (MQ below (e_Q G α A L0 true Qa) args s mc ms A) α L h mc ms pc lv [.int x] :=
  fun H locs ls hP hD hS hl => W.iret C.1 C.2.1 (C.2.2.1.trans hr) (e_rq hq ha hP hD hS) (fun q hq => hS.2.2 q hq) hd C.2.2.2.2.2.2.2.1
variable {y' : MethodName} {cc' : ByteArray} {nL' n' ix b ci d : Nat} {ret' : Option FieldType} {As sk : List Value}
/-- a call that throws, caught at once -/
theorem w_callT (C : e_C y cc nL ret G A p s m args meth c) (X : e_X α A s) (Y : e_Y A s) {hh : List (Nat × Nat × Nat × Nat)} {lo hi tg ct : Nat} (ht : c.exceptionTable.toList = tableOf hh) (hhe : hh = [(lo, hi, tg, ct)]) (hcov : covers (⟨lo, hi, tg, ct⟩ : ExceptionTableEntry) pc = true) (h0 : ct ≠ 0) (hlink : Cond.classLink y.cls ct nseN ∈ e_gw)
    (hw : Cond.methodLink y.cls ix y' ∈ e_gw) (hV : e_cV y' cc' nL' ret' n') (hM : t_Met l y' cc' nL' ret' d L h (.ref b :: As)) (hO : isO L b ci = true) (hC : ci < 12 ∧ e_R ci = y'.cls) (hn : As.length = n') (hs : sk = As.reverse ++ .ref b :: st) (h8 : (st.map fun v => v.category).sum ≤ 8) (hR : d + 1 ≤ R.frames ∧ 8 + (nL' + 11) + 64 * d ≤ R.locals) (hk : k + 1 ≤ R.cells ∧ n + 6 ≤ R.slots) (hd : decode cc pc = .ok (.invokevirtual ix, 3))
    (kk : ∀ (q : Addr) (H : Heap) (locs : List Loc) (ls : Array Slot), va_P (e_D G) vwCl (e_ws G α L h) H → va_D A (e_ws G α L h) → va_S A s.heap H locs → lv_has ls nL (e_lm α lv) → W p l e R s m args below meth c H locs (k + 1) (n + 6) Q (F0 m tg ls [.ref q])) : WW p l e R s m args below meth c G A nL Q α L h k n pc lv sk := by
  intro H locs ls hP hD hS hl
  obtain ⟨⟨w1, w2⟩, w3, w4, w5⟩ := hV
  have hts := C.2.2.2.2.2.2.1
  have hrun := vx_runV (R := R) (locs := locs) (cells := k) (slots := n) (As := As.map (e_tv α)) (rest := st.map (e_tv α)) (b := α b) (C := y'.cls) (n := n') (index := ix) (g := F0 m pc ls (sk.map (e_tv α))) (e := e) (below := below) (meth := meth) ⟨C.1, C.2.1, C.2.2.2.1, C.2.2.2.2.1, hts⟩ (hM G α A)
    ⟨callB_of n' hts (e_good w4) rfl rfl rfl (hts _ w3) (hts _ hw) w5 hR, hts _ w1, hts _ w2⟩
    ⟨t_blind, by
      obtain ⟨g1, -⟩ := e_cl ci hC.1
      have := va_recv C.2.2.2.2.2.2.2.2.1 hP g1 (e_ws_O hO)
      rw [← hC.2]; exact this, fun U hU hW => ⟨e_pre (as := .ref b :: As) C.2.2.2.2.2.2.2.2.1 C.2.2.2.2.2.2.2.2.2 X hP hD hS U hU hW, Y.mv hW (fun a h1 h2 => by rw [hU]; exact hS.2.1 a h1 h2)⟩⟩
    rfl (by rw [List.length_map]; exact hn) hl.1 (by subst hs; simp [e_tv]) (by rw [e_cats]; simpa [JFrame.monitorRoom] using h8) hd ⟨hk.1, hk.2⟩
  intro T hT XT
  rcases hrun T hT XT with ⟨v, st₀, t, T', L1, h00, X', hL, e1, e2, hf, hst⟩ | ⟨q, st₀, t, T', L1, E, ce, h00, X', hL, e1, e2, ⟨u, -, ⟨hE, hP1⟩, hF⟩, hce, hcv, hcl, hst⟩
  · exact hf.elim
  · obtain ⟨k1, k2, k3⟩ := vx_keep h00 e1 hS (fun q h1 h2 => h2) (fun q h => h) hL hF
    subst hE
    have hW : W p l e R s m args below meth c T'.heap (locs ++ L1) (k + 1) (n + 6) Q (F0 m tg ls [.ref q]) := kk q T'.heap (locs ++ L1) ls (by rw [e1]; exact hP1) hD k3 hl
    have hx := vx_catch (own := y.cls) (name := nseN) (E := nseN) (ce := ce) (q := q) (pc := pc) (ls := ls) (rest := st.map (e_tv α)) C.2.2.2.2.1 [] (⟨lo, hi, tg, ct⟩ : ExceptionTableEntry) [] (by rw [ht, hhe]; rfl) (fun z hz => nomatch hz) hcov h0 (hts _ hlink) (va_Nw.use rfl (X.1 _ nse_ct)) (by rw [e1]; exact hce) hcv hcl hW
    obtain ⟨t2, a1, b1⟩ := hx T' rfl X'
    exact ⟨t2, hst.trans a1, b1⟩
end OWN
theorem cl_RL_13 : Cond.classLink RL 13 nseN ∈ e_gw := e_mem 1048 (by decide +kernel) (by decide +kernel)
theorem o_spot {l : Launch} {h : eH} {v w r : Int32} (hf : f_X10_spot LF h 0 v w = some r) : hL_Met l yL_spot cL_spot 5 (some .int) [(0, 10, 13, 13)] 40 1 6 LF h [.ref 0, .int v, .int w, .ref 99] (Qx (some (.int 0)) LF (sL h 99 0 r.toInt64)) := by
  refine hL_met (by decide) (Nat.le_of_ble_eq_true rfl) ?_
  intro G α A pp e s m args below meth c C X Y ht
  refine w_aload_n C 3 dL_spot_0 rfl rfl ?_
  refine w_iconst C (v := 0) dL_spot_1 (by decide) ?_
  refine w_aload_n C 0 dL_spot_2 rfl rfl ?_
  refine w_iload_n C 1 dL_spot_3 rfl rfl ?_
  refine w_iload_n C 2 dL_spot_4 rfl rfl ?_
  refine w_callV (st := [.int 0, .ref 99]) C X ml_RL_7 k_X10_spot (m_X10_spot (d := 30) (by omega) hf) iO_0 ⟨by decide, rfl⟩ rfl rfl (Nat.le_of_ble_eq_true rfl) ⟨by decide, by decide⟩ ⟨Nat.le_of_ble_eq_true rfl, Nat.le_of_ble_eq_true rfl⟩ dL_spot_5 ?_
  refine w_i2l C dL_spot_8 ?_
  refine w_last C (by decide) dL_spot_9 ?_
  refine w_goto C (t := 17) dL_spot_10 (by decide) ?_
  refine w_iconst C (v := 0) dL_spot_17 (by decide) ?_
  refine w_widen (k' := 1) (n' := 6) (by omega) (by omega) ?_
  exact w_iret C ⟨fun _ => ⟨rfl, rfl⟩, fun _ _ => rfl⟩ rfl dL_spot_18 ⟨rfl, rfl, rfl⟩
theorem x_spot {l : Launch} {h : eH} {v w : Int32} (hM : t_Met l yX10_spot cX10_spot 3 (some .int) 20 LF h [.ref 0, .int v, .int w]) : hL_Met l yL_spot cL_spot 5 (some .int) [(0, 10, 13, 13)] 40 1 6 LF h [.ref 0, .int v, .int w, .ref 99] (Qx (some (.int 1)) LF h) := by
  refine hL_met (by decide) (Nat.le_of_ble_eq_true rfl) ?_
  intro G α A pp e s m args below meth c C X Y ht
  refine w_aload_n C 3 dL_spot_0 rfl rfl ?_
  refine w_iconst C (v := 0) dL_spot_1 (by decide) ?_
  refine w_aload_n C 0 dL_spot_2 rfl rfl ?_
  refine w_iload_n C 1 dL_spot_3 rfl rfl ?_
  refine w_iload_n C 2 dL_spot_4 rfl rfl ?_
  refine w_callT (st := [.int 0, .ref 99]) (As := [.int v, .int w]) C X Y ht rfl (by decide) (by decide) cl_RL_13 ml_RL_7 k_X10_spot hM iO_0 ⟨by decide, rfl⟩ rfl rfl (Nat.le_of_ble_eq_true rfl) ⟨by decide, by decide⟩ ⟨Nat.le_of_ble_eq_true rfl, Nat.le_of_ble_eq_true rfl⟩ dL_spot_5 ?_
  intro q H locs ls hP hD hS hl
  refine lv_astore (lv' := (4, .ref q) :: e_lm α (lv_args 0 [.ref 0, .int v, .int w, .ref 99])) C.1 C.2.1 dL_spot_13 hl (by decide) rfl (fun ls hl => ?_)
  refine lv_iconst (v := 1) C.1 C.2.1 dL_spot_15 (by decide) ?_
  exact W.iret C.1 C.2.1 (C.2.2.1.trans rfl) (e_rq (Qa := Qx (some (.int 1)) LF h) (fx := true) (L0 := LF) ⟨rfl, rfl, rfl⟩ ⟨fun _ => ⟨rfl, rfl⟩, fun _ _ => rfl⟩ hP hD hS) (fun q hq => hS.2.2 q hq) dL_spot_16 C.2.2.2.2.2.2.2.1
theorem o_machine {l : Launch} {h h1 : eH} {v r : Int32} (hf : f_X10_machine LF h 0 v = some (h1, r)) : hL_Met l yL_machine cL_machine 4 (some .int) [(0, 9, 12, 13)] 40 1 6 LF h [.ref 0, .int v, .ref 99] (Qx (some (.int 0)) LF (sL h1 99 0 r.toInt64)) := by
  refine hL_met (by decide) (Nat.le_of_ble_eq_true rfl) ?_
  intro G α A pp e s m args below meth c C X Y ht
  refine w_aload_n C 2 dL_machine_0 rfl rfl ?_
  refine w_iconst C (v := 0) dL_machine_1 (by decide) ?_
  refine w_aload_n C 0 dL_machine_2 rfl rfl ?_
  refine w_iload_n C 1 dL_machine_3 rfl rfl ?_
  refine w_callV (st := [.int 0, .ref 99]) C X ml_RL_15 k_X10_machine (m_X10_machine (d := 30) (by omega) hf) iO_0 ⟨by decide, rfl⟩ rfl rfl (Nat.le_of_ble_eq_true rfl) ⟨by decide, by decide⟩ ⟨Nat.le_of_ble_eq_true rfl, Nat.le_of_ble_eq_true rfl⟩ dL_machine_4 ?_
  refine w_i2l C dL_machine_7 ?_
  refine w_last C (by decide) dL_machine_8 ?_
  refine w_goto C (t := 15) dL_machine_9 (by decide) ?_
  refine w_iconst C (v := 0) dL_machine_15 (by decide) ?_
  refine w_widen (k' := 1) (n' := 6) (by omega) (by omega) ?_
  exact w_iret C ⟨fun _ => ⟨rfl, rfl⟩, fun _ _ => rfl⟩ rfl dL_machine_16 ⟨rfl, rfl, rfl⟩
theorem x_machine {l : Launch} {h : eH} {v : Int32} (hM : t_Met l yX10_machine cX10_machine 2 (some .int) 20 LF h [.ref 0, .int v]) : hL_Met l yL_machine cL_machine 4 (some .int) [(0, 9, 12, 13)] 40 1 6 LF h [.ref 0, .int v, .ref 99] (Qx (some (.int 1)) LF h) := by
  refine hL_met (by decide) (Nat.le_of_ble_eq_true rfl) ?_
  intro G α A pp e s m args below meth c C X Y ht
  refine w_aload_n C 2 dL_machine_0 rfl rfl ?_
  refine w_iconst C (v := 0) dL_machine_1 (by decide) ?_
  refine w_aload_n C 0 dL_machine_2 rfl rfl ?_
  refine w_iload_n C 1 dL_machine_3 rfl rfl ?_
  refine w_callT (st := [.int 0, .ref 99]) (As := [.int v]) C X Y ht rfl (by decide) (by decide) cl_RL_13 ml_RL_15 k_X10_machine hM iO_0 ⟨by decide, rfl⟩ rfl rfl (Nat.le_of_ble_eq_true rfl) ⟨by decide, by decide⟩ ⟨Nat.le_of_ble_eq_true rfl, Nat.le_of_ble_eq_true rfl⟩ dL_machine_4 ?_
  intro q H locs ls hP hD hS hl
  refine lv_astore_n (lv' := (3, .ref q) :: e_lm α (lv_args 0 [.ref 0, .int v, .ref 99])) C.1 C.2.1 dL_machine_12 rfl hl (by decide) rfl (fun ls hl => ?_)
  refine lv_iconst (v := 1) C.1 C.2.1 dL_machine_13 (by decide) ?_
  exact W.iret C.1 C.2.1 (C.2.2.1.trans rfl) (e_rq (Qa := Qx (some (.int 1)) LF h) (fx := true) (L0 := LF) ⟨rfl, rfl, rfl⟩ ⟨fun _ => ⟨rfl, rfl⟩, fun _ _ => rfl⟩ hP hD hS) (fun q hq => hS.2.2 q hq) dL_machine_14 C.2.2.2.2.2.2.2.1
theorem o_row {l : Launch} {h : eH} {v : Int32} {r : Int64} (hf : f_X10_row LF h 0 v = some r) : hL_Met l yL_row cL_row 4 (some .int) [(0, 8, 11, 13)] 40 1 6 LF h [.ref 0, .int v, .ref 99] (Qx (some (.int 0)) LF (sL h 99 0 r)) := by
  refine hL_met (by decide) (Nat.le_of_ble_eq_true rfl) ?_
  intro G α A pp e s m args below meth c C X Y ht
  refine w_aload_n C 2 dL_row_0 rfl rfl ?_
  refine w_iconst C (v := 0) dL_row_1 (by decide) ?_
  refine w_aload_n C 0 dL_row_2 rfl rfl ?_
  refine w_iload_n C 1 dL_row_3 rfl rfl ?_
  refine w_callV (st := [.int 0, .ref 99]) C X ml_RL_19 k_X10_row (m_X10_row (d := 30) (by omega) hf) iO_0 ⟨by decide, rfl⟩ rfl rfl (Nat.le_of_ble_eq_true rfl) ⟨by decide, by decide⟩ ⟨Nat.le_of_ble_eq_true rfl, Nat.le_of_ble_eq_true rfl⟩ dL_row_4 ?_
  refine w_last C (by decide) dL_row_7 ?_
  refine w_goto C (t := 14) dL_row_8 (by decide) ?_
  refine w_iconst C (v := 0) dL_row_14 (by decide) ?_
  refine w_widen (k' := 1) (n' := 6) (by omega) (by omega) ?_
  exact w_iret C ⟨fun _ => ⟨rfl, rfl⟩, fun _ _ => rfl⟩ rfl dL_row_15 ⟨rfl, rfl, rfl⟩
theorem x_row {l : Launch} {h : eH} {v : Int32} (hM : t_Met l yX10_row cX10_row 2 (some .long) 20 LF h [.ref 0, .int v]) : hL_Met l yL_row cL_row 4 (some .int) [(0, 8, 11, 13)] 40 1 6 LF h [.ref 0, .int v, .ref 99] (Qx (some (.int 1)) LF h) := by
  refine hL_met (by decide) (Nat.le_of_ble_eq_true rfl) ?_
  intro G α A pp e s m args below meth c C X Y ht
  refine w_aload_n C 2 dL_row_0 rfl rfl ?_
  refine w_iconst C (v := 0) dL_row_1 (by decide) ?_
  refine w_aload_n C 0 dL_row_2 rfl rfl ?_
  refine w_iload_n C 1 dL_row_3 rfl rfl ?_
  refine w_callT (st := [.int 0, .ref 99]) (As := [.int v]) C X Y ht rfl (by decide) (by decide) cl_RL_13 ml_RL_19 k_X10_row hM iO_0 ⟨by decide, rfl⟩ rfl rfl (Nat.le_of_ble_eq_true rfl) ⟨by decide, by decide⟩ ⟨Nat.le_of_ble_eq_true rfl, Nat.le_of_ble_eq_true rfl⟩ dL_row_4 ?_
  intro q H locs ls hP hD hS hl
  refine lv_astore_n (lv' := (3, .ref q) :: e_lm α (lv_args 0 [.ref 0, .int v, .ref 99])) C.1 C.2.1 dL_row_11 rfl hl (by decide) rfl (fun ls hl => ?_)
  refine lv_iconst (v := 1) C.1 C.2.1 dL_row_12 (by decide) ?_
  exact W.iret C.1 C.2.1 (C.2.2.1.trans rfl) (e_rq (Qa := Qx (some (.int 1)) LF h) (fx := true) (L0 := LF) ⟨rfl, rfl, rfl⟩ ⟨fun _ => ⟨rfl, rfl⟩, fun _ _ => rfl⟩ hP hD hS) (fun q hq => hS.2.2 q hq) dL_row_13 C.2.2.2.2.2.2.2.1

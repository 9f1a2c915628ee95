/-! THE CLAIM OUT OF ONE WALK OF THE LAW'S BODY. Your part is whole_start (and what it stands on); all else here is the same for every law, but numbers. -/
def R_law : String := "UnderTheSofaLaw"
def lw_P (b : Addr) (xs : List Int32) (args : Array Value) (s : State) : Prop := args = #[.ref b] ∧ s.IntsAt b xs ∧ xs.length ≤ 2560 ∧ (Jvm.Cond.and given_1 narrow_1).before args s = true
def lw_Q (_ : Array Value) (s : State) (o : Outcome) (t : State) : Prop := o = .returned (some (.int 1)) ∧ Framed s o t [] 601024 7293034
def lw_Z (below : List Frame) (a : Array Value) (s : State) : State → Prop := fun t => ∃ o, t.status = .running ∧ Ended t below o ∧ lw_Q a s o t
/-- the law's own end, with 1 on the stack, nothing written that was there before, its room as the claim has it -/
theorem lw_ret {p : Program} {l : Launch} {e : Env} {s : State} {m : MethodId} {below : List Frame} {meth : Method} {c : Code} {b : Nat} (hx : p.tables.exec = Jvm.exec) (hb : c.code = code) (hr : meth.sig.returnType = ret) (hlocks : meth.locks = false) {pc : Nat} {H : Heap} {ls : Array Slot} (hdg : decode code pc = .ok (.ireturn, 1)) : W p l e room_1 s m #[Value.ref b] below meth c H [] 601024 7293034 (lw_Z below #[Value.ref b] s) (F0 m pc ls [.int 1]) := by
  intro T hT X
  obtain ⟨fs, hret, hrun, hended, hW, hframe⟩ := X.leave (v := some (.int 1)) (hlocks := hlocks) (fun h => by rw [hr] at h; cases h)
  have hmeth' : T.vm.method? m = some meth := X.method'
  refine ⟨T.setFrames fs, ?_, .returned (some (.int 1)), hrun, hended, rfl, ⟨_, rfl⟩, hW, hframe⟩
  jvm_step X.here [X.here.top, hx, hb, hdg, hmeth', hr, ret, narrow_b1]
  (try refine ⟨rfl, ?_⟩); (try refine ⟨rfl, ?_⟩)
  first | (intro acts; rw [hret _ acts rfl rfl rfl]) | rw [hret _ _ rfl rfl rfl]
  exact Steps.refl _
/-- what holds at the law's entry: the machine, the code, the tables' words (any of lw_tbl by 'hts w (by decide +kernel)'), the script of L ints xs at the cell b, what the Statement gives of the start (any of its parts by flat_of_before) -/
def lw_At (p : Program) (s : State) (m : MethodId) (meth : Method) (c : Code) (b L : Nat) (xs : Nat → Int32) : Prop :=
  p.tables.exec = Jvm.exec ∧ c.code = code ∧ meth.sig.returnType = ret ∧ c.maxLocals = 8 ∧ s.vm.findClass R_law = some m.cls ∧ (∀ w ∈ lw_tbl, w.before #[Value.ref b] s = true) ∧ va_X b L xs s s.heap ∧ b < s.heap.size ∧ meth.locks = false ∧ (Jvm.Cond.and given_1 narrow_1).before #[Value.ref b] s = true
/-! the law's walk: rows of its own -/
def e_scr : Nat := 3000000
section LAWR
variable {p : Program} {l : Launch} {e : Env} {R : Room} {s : State} {m : MethodId} {args : Array Value} {below : List Frame} {meth : Method} {c : Code} {G : eG} {A : Nat → Prop} {nL : Nat} {Q : State → Prop} {α : Nat → Nat} {L : eL} {h : eH} {k n pc : Nat} {lv : List (Nat × Value)} {st : List Value}
variable {y : MethodName} {cc : ByteArray} {ret : Option FieldType}
theorem w_iinc (C : e_C y cc nL ret G A p s m args meth c) {i : Nat} {z : Int} {x : Int32} {lv' : List (Nat × Value)} (j : Nat) (hd : decode cc pc = .ok (.iinc i z, 3)) (hj : lv[j]? = some (i, .int x)) (hn : i < nL) (hl' : (i, .int (x + Int32.ofInt z)) :: lv.filter (fun q => !(q.1 == i) && !(q.1 + 1 == i && q.2.category == 2)) = lv') (kk : WW p l e R s m args below meth c G A nL Q α L h k n (pc + 3) lv' st) : WW p l e R s m args below meth c G A nL Q α L h k n pc lv st := by
  intro H locs ls hP hD hS hl
  refine lv_iinc (lv' := e_lm α lv') C.1 C.2.1 hd hl (e_lv hj) rfl hn ?_ (fun ls hl => kk H locs ls hP hD hS hl)
  rw [← hl', e_lf1]; rfl
theorem w_lcmp (C : e_C y cc nL ret G A p s m args meth c) {x b : Int64} (hd : decode cc pc = .ok (.lcmp, 1)) (kk : WW p l e R s m args below meth c G A nL Q α L h k n (pc + 1) lv (.int (lg_cmp x b) :: st)) : WW p l e R s m args below meth c G A nL Q α L h k n pc lv (.long b :: .long x :: st) := fun H locs ls hP hD hS hl => W.lcmp C.1 C.2.1 hd (kk H locs ls hP hD hS hl)
theorem w_dup (C : e_C y cc nL ret G A p s m args meth c) {x : Nat} (hd : decode cc pc = .ok (.dup, 1)) (kk : WW p l e R s m args below meth c G A nL Q α L h k n (pc + 1) lv (.ref x :: .ref x :: st)) : WW p l e R s m args below meth c G A nL Q α L h k n pc lv (.ref x :: st) := fun H locs ls hP hD hS hl => lv_dup C.1 C.2.1 hd rfl (kk H locs ls hP hD hS hl)
theorem w_astore_n (C : e_C y cc nL ret G A p s m args meth c) {q : Fin 4} {i : Nat} {x : Nat} {lv' : List (Nat × Value)} (hd : decode cc pc = .ok (.astore_n q, 1)) (hi : (q : Nat) = i) (hn : i < nL) (hl' : (i, .ref x) :: lv.filter (fun q => !(q.1 == i) && !(q.1 + 1 == i && q.2.category == 2)) = lv') (kk : WW p l e R s m args below meth c G A nL Q α L h k n (pc + 1) lv' st) : WW p l e R s m args below meth c G A nL Q α L h k n pc lv (.ref x :: st) := by
  intro H locs ls hP hD hS hl
  refine lv_astore_n (lv' := e_lm α lv') C.1 C.2.1 hd hi hl hn ?_ (fun ls hl => kk H locs ls hP hD hS hl)
  rw [← hl', e_lf1]; rfl
theorem w_slen (C : e_C y cc nL ret G A p s m args meth c) {b Ln : Nat} {xs : Nat → Int32} (hX : va_X b Ln xs s s.heap) (hbl : b < s.heap.size) (hbA : ¬ A b) (hα : α e_scr = b) (hd : decode cc pc = .ok (.arraylength, 1)) (kk : WW p l e R s m args below meth c G A nL Q α L h k n (pc + 1) lv (.int (Int32.ofNat Ln) :: st)) : WW p l e R s m args below meth c G A nL Q α L h k n pc lv (.ref e_scr :: st) := by
  intro H locs ls hP hD hS hl
  have := va_slen (rest := st.map (e_tv α)) C.1 C.2.1 hX hbl hbA hS hd (kk H locs ls hP hD hS hl)
  rw [← hα] at this
  exact this
theorem w_sld (C : e_C y cc nL ret G A p s m args meth c) {b Ln : Nat} {xs : Nat → Int32} (hX : va_X b Ln xs s s.heap) (hbl : b < s.heap.size) (hbA : ¬ A b) (hα : α e_scr = b) {q : Nat} (hq : q < Ln) (hq2 : q < 2 ^ 31) (hd : decode cc pc = .ok (.iaload, 1)) (kk : WW p l e R s m args below meth c G A nL Q α L h k n (pc + 1) lv (.int (xs q) :: st)) : WW p l e R s m args below meth c G A nL Q α L h k n pc lv (.int (nI q) :: .ref e_scr :: st) := by
  intro H locs ls hP hD hS hl
  have hin : vp_in (nI q) Ln := by
    intro h0
    rcases h0 with h0 | h0
    · exact nI_pos hq2 h0
    · rw [nI_clamp hq2] at h0; omega
  have kk := kk H locs ls hP hD hS hl
  have := va_sld (rest := st.map (e_tv α)) C.1 C.2.1 hX hbl hbA hS hin hd (by rw [nI_clamp hq2]; exact kk)
  rw [← hα] at this
  exact this
/-- one argument, out of the script -/
theorem w_arg (C : e_C y cc nL ret G A p s m args meth c) {b Ln : Nat} {xs : Nat → Int32} (hX : va_X b Ln xs s s.heap) (hbl : b < s.heap.size) (hbA : ¬ A b) (hα : α e_scr = b) {j t : Nat} {i : Int} (j0 j4 : Nat) (h0 : lv[j0]? = some (0, .ref e_scr)) (h4 : lv[j4]? = some (4, .int (nI (5 * j)))) (hi : Int32.ofInt i = nI t) (hq : 5 * j + t < Ln) (hL : Ln ≤ 2560)
    (d0 : decode cc pc = .ok (.aload_n 0, 1)) (d1 : decode cc (pc + 1) = .ok (.iload 4, 2)) (d3 : decode cc (pc + 3) = .ok (.iconst i, 1)) (d4 : decode cc (pc + 4) = .ok (.iadd, 1)) (d5 : decode cc (pc + 5) = .ok (.iaload, 1)) (kk : WW p l e R s m args below meth c G A nL Q α L h k n (pc + 6) lv (.int (xs (5 * j + t)) :: st)) : WW p l e R s m args below meth c G A nL Q α L h k n pc lv st := by
  refine w_aload_n C j0 d0 rfl h0 ?_
  refine w_iload C j4 d1 h4 ?_
  refine w_iconst C d3 hi ?_
  refine w_iadd C d4 ?_
  rw [nI_add]
  exact w_sld C hX hbl hbA hα hq (by omega) d5 kk
variable {y' : MethodName} {cc' : ByteArray} {nL' n' ix b ci d mc ms : Nat} {ret' : Option FieldType} {hh : List (Nat × Nat × Nat × Nat)} {As sk : List Value} {v : Option Value} {h1 : eH} {L1 : eL}
theorem e_goodH {y : MethodName} {cc : ByteArray} {nL : Nat} {ret : Option FieldType} {hh : List (Nat × Nat × Nat × Nat)} (h : Cond.codeWith y cc nL ret hh ∈ e_gw) : GoodIn e_gw (.codeWith y cc nL ret hh :: e_gw) := by
  intro w hw
  have hw : w ∈ e_gw := by
    rcases List.mem_cons.mp hw with rfl | h1
    · exact h
    · exact h1
  exact ⟨hw, good_of_word (List.mem_filter.mp hw).2⟩
theorem w_callSH (C : e_C y cc nL ret G A p s m args meth c) (X : e_X α A s) (Y : e_Y A s) (hw : Cond.methodLink y.cls ix y' ∈ e_gw) (hcw : Cond.codeWith y' cc' nL' ret' hh ∈ e_gw) (hst : Cond.static y' ∈ e_gw) (hin : Cond.initialized y'.cls ∈ e_gw) (hne : y'.cls ≠ "java/lang/invoke/MethodHandle" ∧ y'.cls ≠ "java/lang/invoke/VarHandle") (hpar : (parseMethodDescriptor y'.desc).map (fun d => d.parameters.length) = some n')
    (hM : hL_Met l y' cc' nL' ret' hh d mc ms L h As (Qx v L h1)) (hn : As.length = n') (hs : sk = As.reverse ++ st) (h8 : (st.map fun v => v.category).sum ≤ 8) (hR : d + 1 ≤ R.frames ∧ 8 + (nL' + 11) + 64 * d ≤ R.locals) (hk : k + mc ≤ R.cells ∧ n + ms ≤ R.slots) (hd : decode cc pc = .ok (.invokestatic ix, 3)) (kk : WW p l e R s m args below meth c G A nL Q α L h1 (k + mc) (n + ms) (pc + 3) lv (v.toList ++ st)) : WW p l e R s m args below meth c G A nL Q α L h k n pc lv sk := by
  intro H locs ls hP hD hS hl
  have hts := C.2.2.2.2.2.2.1
  have hrun := vx_runSW (R := R) (locs := locs) (cells := k) (slots := n) (As := As.map (e_tv α)) (rest := st.map (e_tv α)) (n := n') (index := ix) (g := F0 m pc ls (sk.map (e_tv α))) (e := e) (below := below) (meth := meth) (hh := hh) (bytes := cc') (maxL := nL') (ret := ret') ⟨C.1, C.2.1, C.2.2.2.1, C.2.2.2.2.1, hts⟩ (hM G α A)
    ⟨⟨rfl, rfl, hR.1, hR.2, pay_in hts (e_goodH hcw), List.mem_cons_self⟩, hts _ hcw, hts _ hin, hne, (fun sig hsig => by rw [hsig] at hpar; exact (Option.some.inj hpar).symm), hts _ hw, hts _ hst⟩
    ⟨t_blind, fun U hU hW => ⟨e_pre (as := As) C.2.2.2.2.2.2.2.2.1 C.2.2.2.2.2.2.2.2.2 X hP hD hS U hU hW, Y.mv hW (fun a h1 h2 => by rw [hU]; exact hS.2.1 a h1 h2)⟩⟩
    rfl (by rw [List.length_map]; exact hn) hl.1 (by subst hs; simp [e_tv]) (by rw [e_cats]; simpa [JFrame.monitorRoom] using h8) hd ⟨hk.1, hk.2⟩
  refine e_cont hrun hS (fun v' α' L' h' H1 locs1 hq hag hP1 hD1 hS1 => ?_)
  obtain ⟨rfl, rfl, rfl⟩ := hq
  obtain ⟨rfl, -⟩ := hag.1 rfl
  have := kk H1 locs1 ls hP1 hD1 hS1 hl
  rw [List.map_append] at this
  cases v' <;> exact this
theorem w_new (C : e_C y cc nL ret G A p s m args meth c) (X : e_X α A s) (hci : ci < 12) (hdf : e_df ci) (hcl : Cond.classLink y.cls ix (e_R ci) ∈ e_gw) (hinst : Cond.instantiable (e_R ci) (e_N ci) ∈ e_gw) (hini : Cond.initialized (e_R ci) ∈ e_gw) (hwf : wfR L h) (hok : okl L.1 lv st) (hR : k + 1 ≤ R.cells ∧ n + e_N ci ≤ R.slots) (hd : decode cc pc = .ok (.new ix, 3)) (kk : ∀ α', (∀ i, i < L.1 ∨ e_str ≤ i → α' i = α i) → e_X α' A s → WW p l e R s m args below meth c G A nL Q α' (nW L (.inl ci)) (zH h L.1) (k + 1) (n + e_N ci) (pc + 3) lv (.ref L.1 :: st)) : WW p l e R s m args below meth c G A nL Q α L h k n pc lv st := by
  intro H locs ls hP hD hS hl
  obtain ⟨h1, h2, h3, h4⟩ := e_cl ci hci
  have hts := C.2.2.2.2.2.2.1
  refine va_new (ci := ci) (fs := e_fs α (zH h L.1) L.1 ci) C.1 C.2.1 hts h2 (e_ty ci) h3 C.2.2.2.2.1 (hts _ hcl) (hts _ hinst) (hts _ hini) C.2.2.2.2.2.2.2.2.1 hP hD hS C.2.2.2.2.2.2.2.2.2 h1 (fun j hj => ?_) hR.1 hR.2 hd (fun q H1 hP1 hD1 hS1 => ?_)
  · rw [hdf j hj]
    simp only [vp_V, List.getD_eq_getElem?_getD, e_fs_get hj, Option.getD_some]
    cases e_ty ci j <;> simp [e_fv, e_dv, zH, va_rf]
  · have ha := e_upa (L := L) (α := α) (q := q) hwf.1
    have e1 := e_push (G := G) (α := α) (L := L) (h := h) (s := .inl ci) (q := q) hwf
    rw [e_entO (α' := α)] at e1
    rw [← e1] at hP1 hD1
    have := kk (eup α L.1 q) ha (X.ag (fun i hi => ha i (Or.inr hi))) H1 locs ls hP1 hD1 hS1 (by rw [e_lma ha hok.1]; exact hl)
    rw [List.map_cons, e_sta ha hok.2] at this
    simpa [e_tv, eup] using this
theorem w_newJ (C : e_C y cc nL ret G A p s m args meth c) (X : e_X α A s) {z : Int32} {N : Nat} (harr : Cond.arrayClass .long ∈ e_gw) (hn : ¬ z < 0) (hN : z.toNatClampNeg = N) (hb : N ≤ 100000) (hwf : wfR L h) (hok : okl L.1 lv st) (hR : k + 1 ≤ R.cells ∧ n + N ≤ R.slots) (hd : decode cc pc = .ok (.newarray .long, 2)) (kk : ∀ α', (∀ i, i < L.1 ∨ e_str ≤ i → α' i = α i) → e_X α' A s → WW p l e R s m args below meth c G A nL Q α' (nW L (.inr (1, N))) (zH h L.1) (k + 1) (n + N) (pc + 2) lv (.ref L.1 :: st)) : WW p l e R s m args below meth c G A nL Q α L h k n pc lv (.int z :: st) := by
  intro H locs ls hP hD hS hl
  have hts := C.2.2.2.2.2.2.1
  refine va_newa (atype := .long) (ty := .long) (a0 := (N, .inr (.inl (fun _ => 0)))) C.1 C.2.1 (hts (.arrayClass .long) harr) rfl C.2.2.2.2.2.2.2.2.1 hP hD hS C.2.2.2.2.2.2.2.2.2 (fun _ => rfl) hn hN (by show N * 8 ≤ 536870912; omega) hR.1 hR.2 hd (fun q cA H1 hK1 hP1 hD1 hS1 => ?_)
  have hcA := e_cAeq (t := 1) C.2.2.2.2.2.2.2.2.1 hK1 rfl
  subst hcA
  have ha := e_upa (L := L) (α := α) (q := q) hwf.1
  have e1 := e_push (G := G) (α := α) (L := L) (h := h) (s := .inr (1, N)) (q := q) hwf
  have hea : ∀ (G : eG) (α : Nat → Nat), e_arr G α (zH h L.1) L.1 1 N = .inl (G.2.2 1, (N, .inr (.inl (fun _ => 0)))) := fun G α => by simp [e_arr, zH]
  rw [e_entA, hea] at e1
  rw [← e1] at hP1 hD1
  have := kk (eup α L.1 q) ha (X.ag (fun i hi => ha i (Or.inr hi))) H1 locs ls hP1 hD1 hS1 (by rw [e_lma ha hok.1]; exact hl)
  rw [List.map_cons, e_sta ha hok.2] at this
  simpa [e_tv, eup] using this
theorem w_callI (C : e_C y cc nL ret G A p s m args meth c) (X : e_X α A s) (hw : Cond.methodLink y.cls ix y' ∈ e_gw) (hV : e_cI y' cc' nL' n') (hM : e_Met l y' cc' nL' none d mc ms false L h (.ref b :: As) (Qx none L1 h1)) (hok : okl L.1 lv st) (hn : As.length = n') (hs : sk = As.reverse ++ .ref b :: st) (h8 : (st.map fun v => v.category).sum ≤ 8) (hR : d + 1 ≤ R.frames ∧ 8 + (nL' + 11) + 64 * d ≤ R.locals) (hk : k + mc ≤ R.cells ∧ n + ms ≤ R.slots) (hd : decode cc pc = .ok (.invokespecial ix, 3)) (kk : ∀ α', (∀ i, i < L.1 ∨ e_str ≤ i → α' i = α i) → e_X α' A s → WW p l e R s m args below meth c G A nL Q α' L1 h1 (k + mc) (n + ms) (pc + 3) lv st) : WW p l e R s m args below meth c G A nL Q α L h k n pc lv sk := by
  intro H locs ls hP hD hS hl
  obtain ⟨⟨w1, w2⟩, w3, w4, w5⟩ := hV
  have hts := C.2.2.2.2.2.2.1
  have hrun := va_runI (R := R) (locs := locs) (cells := k) (slots := n) (As := As.map (e_tv α)) (rest := st.map (e_tv α)) (b := α b) (n := n') (index := ix) (g := F0 m pc ls (sk.map (e_tv α))) (e := e) (below := below) (meth := meth) ⟨C.1, C.2.1, C.2.2.2.1, C.2.2.2.2.1, hts⟩ (hM G α A)
    ⟨callB_of n' hts (e_good w4) rfl rfl rfl (hts _ w3) (hts _ hw) w5 hR, w2, hts _ w1⟩
    ⟨e_blind, fun U hU hW => e_pre (as := .ref b :: As) C.2.2.2.2.2.2.2.2.1 C.2.2.2.2.2.2.2.2.2 X hP hD hS U hU hW⟩
    rfl (by rw [List.length_map]; exact hn) hl.1 (by subst hs; simp [e_tv]) (by rw [e_cats]; simpa [JFrame.monitorRoom] using h8) hd ⟨hk.1, hk.2⟩
  refine e_cont hrun hS (fun v' α' L' h' H1 locs1 hq hag hP1 hD1 hS1 => ?_)
  obtain ⟨rfl, rfl, rfl⟩ := hq
  have := kk α' hag.2 (X.ag (fun i hi => hag.2 i (Or.inr hi))) H1 locs1 ls hP1 hD1 hS1 (by rw [e_lma hag.2 hok.1]; exact hl)
  rw [e_sta hag.2 hok.2] at this
  exact this
end LAWR

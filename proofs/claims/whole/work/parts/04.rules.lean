/-! The judgement E: from this point of a method, over this abstract world, it comes to its end with Qa. -/
def e_rm (d mc ms : Nat) : Room := { frames := d, cells := mc, slots := ms, locals := 64 * d }
def e_ag (fx : Bool) (L0 : eL) (α0 : Nat → Nat) (L : eL) (α : Nat → Nat) : Prop := (fx = true → α = α0 ∧ L = L0) ∧ ∀ i, i < L0.1 ∨ e_str ≤ i → α i = α0 i
def e_P (G : eG) (α : Nat → Nat) (A : Nat → Prop) (L : eL) (h : eH) (as : List Value) : Array Value → State → Prop := va_Pc (as.map (e_tv α)) (fun U => (va_P (e_D G) vwCl (e_ws G α L h) U.heap ∧ va_D A (e_ws G α L h)) ∧ va_K (e_D G) vwCl (e_tys G) U ∧ (∀ q : Nat, U.heap.size ≤ q → A q) ∧ e_X α A U)
def e_Q (G : eG) (α0 : Nat → Nat) (A : Nat → Prop) (L0 : eL) (fx : Bool) (Qa : Option Value → eL → eH → Prop) : Array Value → State → Outcome → State → Prop := fun _ st oc t => (∃ (v : Option Value) (α' : Nat → Nat) (L' : eL) (h' : eH), oc = .returned (v.map (e_tv α')) ∧ Qa v L' h' ∧ e_ag fx L0 α0 L' α' ∧ va_P (e_D G) vwCl (e_ws G α' L' h') t.heap ∧ va_D A (e_ws G α' L' h')) ∧ va_F A st t
def e_Met (l : Launch) (y : MethodName) (cc : ByteArray) (nL : Nat) (ret : Option FieldType) (d mc ms : Nat) (fx : Bool) (L : eL) (h : eH) (as : List Value) (Qa : Option Value → eL → eH → Prop) : Prop := ∀ (G : eG) (α : Nat → Nat) (A : Nat → Prop), Met l y (.code y cc nL ret :: e_gw) (e_rm d mc ms) (e_P G α A L h as) (e_Q G α A L fx Qa) mc ms A
def e_C (y : MethodName) (cc : ByteArray) (nL : Nat) (ret : Option FieldType) (G : eG) (A : Nat → Prop) (p : Program) (s : State) (m : MethodId) (args : Array Value) (meth : Method) (c : Code) : Prop :=
  p.tables.exec = Jvm.exec ∧ c.code = cc ∧ meth.sig.returnType = ret ∧ c.maxLocals = nL ∧ s.vm.findClass y.cls = some m.cls ∧ meth.name = y.name ∧ (∀ w ∈ e_gw, w.before args s = true) ∧ meth.locks = false ∧ va_K (e_D G) vwCl (e_tys G) s ∧ ∀ q : Nat, s.heap.size ≤ q → A q
def e_lm (α : Nat → Nat) (lv : List (Nat × Value)) : List (Nat × Value) := lv.map (fun q => (q.1, e_tv α q.2))
def E (l : Launch) (y : MethodName) (cc : ByteArray) (nL : Nat) (ret : Option FieldType) (R : Room) (mc ms : Nat) (fx : Bool) (L0 : eL) (Qa : Option Value → eL → eH → Prop) (L : eL) (h : eH) (k n pc : Nat) (lv : List (Nat × Value)) (st : List Value) : Prop :=
  ∀ (G : eG) (α0 α : Nat → Nat) (A : Nat → Prop) (p : Program) (e : Env) (s : State) (m : MethodId) (args : Array Value) (below : List Frame) (meth : Method) (c : Code) (H : Heap) (locs : List Loc) (ls : Array Slot), e_C y cc nL ret G A p s m args meth c → e_X α A s → e_ag fx L0 α0 L α → va_P (e_D G) vwCl (e_ws G α L h) H → va_D A (e_ws G α L h) → va_S A s.heap H locs → lv_has ls nL (e_lm α lv) →
  W p l e R s m args below meth c H locs k n (MQ below (e_Q G α0 A L0 fx Qa) args s mc ms A) (F0 m pc ls (st.map (e_tv α)))
theorem e_cat (α : Nat → Nat) (v : Value) : (e_tv α v).category = v.category := by cases v <;> rfl
theorem e_lv {α : Nat → Nat} {lv : List (Nat × Value)} {j i : Nat} {v : Value} (h : lv[j]? = some (i, v)) : (e_lm α lv)[j]? = some (i, e_tv α v) := by simp [e_lm, h]
theorem e_lf1 {α : Nat → Nat} {lv : List (Nat × Value)} {i : Nat} : (e_lm α lv).filter (fun q => !(q.1 == i) && !(q.1 + 1 == i && q.2.category == 2)) = e_lm α (lv.filter (fun q => !(q.1 == i) && !(q.1 + 1 == i && q.2.category == 2))) := by
  simp only [e_lm, List.filter_map]
  congr 1
  apply List.filter_congr
  intro q _
  simp [Function.comp, e_cat]
theorem e_lf2 {α : Nat → Nat} {lv : List (Nat × Value)} {i : Nat} : (e_lm α lv).filter (fun q => !(q.1 == i) && (!(q.1 == i + 1) && !(q.1 + 1 == i && q.2.category == 2))) = e_lm α (lv.filter (fun q => !(q.1 == i) && (!(q.1 == i + 1) && !(q.1 + 1 == i && q.2.category == 2)))) := by
  simp only [e_lm, List.filter_map]
  congr 1
  apply List.filter_congr
  intro q _
  simp [Function.comp, e_cat]
theorem e_args {α : Nat → Nat} : ∀ (as : List Value) (i : Nat), lv_args i (as.map (e_tv α)) = e_lm α (lv_args i as)
  | [], _ => rfl
  | v :: vs, i => by
    show (i, e_tv α v) :: lv_args (if (e_tv α v).category = 2 then i + 2 else i + 1) (vs.map (e_tv α)) = _
    rw [e_cat, e_args vs]; rfl
theorem e_sl {α : Nat → Nat} (as : List Value) : (lg_sl (as.map (e_tv α))).length = (lg_sl as).length := by
  induction as with
  | nil => rfl
  | cons v vs ih =>
    simp only [lg_sl, List.map_cons, List.flatMap_cons, List.length_append] at ih ⊢
    rw [ih]
    cases v <;> rfl
theorem e_pick {α : Nat → Nat} {lv : List (Nat × Value)} (ks : List Nat) : lv_pick (e_lm α lv) ks = e_lm α (lv_pick lv ks) := by
  simp only [lv_pick, e_lm, List.map_filterMap]
  congr 1
  funext k
  simp [List.getElem?_map]
section
variable {l : Launch} {y : MethodName} {cc : ByteArray} {nL : Nat} {ret : Option FieldType} {R : Room} {mc ms : Nat} {fx : Bool} {L0 : eL} {Qa : Option Value → eL → eH → Prop} {L : eL} {h : eH} {k n pc : Nat} {lv : List (Nat × Value)} {st : List Value}
/-- a contract out of a walk from the entry -/
theorem e_met {d : Nat} {as : List Value} (hy : plainName y.cls = true) (hn : (lg_sl as).length ≤ nL) (hE : E l y cc nL ret (e_rm d mc ms) mc ms fx L Qa L h 0 0 0 (lv_args 0 as) []) : e_Met l y cc nL ret d mc ms fx L h as Qa := by
  intro G α A
  refine Met.ofW (cc := cc) (maxL := nL) (ret := ret) hy rfl ?_
  intro p e s m args below meth c s₁ B hml hv
  obtain ⟨rfl, ⟨hP, hD⟩, hK, hA, hX⟩ := hv
  have hts := atoms_spec (ws := .code y cc nL ret :: e_gw) B.pre
  have hl := lv_entry (as.map (e_tv α)) (n := nL) (by rw [e_sl]; exact hn)
  rw [e_args] at hl
  rw [lg_entry_eq]
  exact hE G α α A p e s m _ below meth c s.heap [] _ ⟨B.exec, B.bytes, B.returns, hml, findClass_of_methodNamed B.named, (name_of_methodNamed B.named B.method).1, fun w hw => hts w (List.mem_cons_of_mem _ hw), B.notSynchronized, hK, hA⟩ hX ⟨fun _ => ⟨rfl, rfl⟩, fun _ _ => rfl⟩ hP hD va_S.rf hl
theorem e_sub {lv' : List (Nat × Value)} (ks : List Nat) (hk : lv_pick lv ks = lv') (kk : E l y cc nL ret R mc ms fx L0 Qa L h k n pc lv' st) : E l y cc nL ret R mc ms fx L0 Qa L h k n pc lv st :=
  fun G α0 α A p e s m args below meth c H locs ls C X a hP hD hS hl => kk G α0 α A p e s m args below meth c H locs ls C X a hP hD hS (lv_sub hl ks (by rw [e_pick, hk]))
theorem e_post {Qb : Option Value → eL → eH → Prop} (hq : ∀ v L' h', Qb v L' h' → Qa v L' h') (kk : E l y cc nL ret R mc ms fx L0 Qb L h k n pc lv st) : E l y cc nL ret R mc ms fx L0 Qa L h k n pc lv st := by
  intro G α0 α A p e s m args below meth c H locs ls C X a hP hD hS hl T hT hst
  obtain ⟨t, t1, o, t2, t3, ⟨⟨v, α', L', h', q1, q2, q3⟩, q4⟩, t5⟩ := kk G α0 α A p e s m args below meth c H locs ls C X a hP hD hS hl T hT hst
  exact ⟨t, t1, o, t2, t3, ⟨⟨v, α', L', h', q1, hq _ _ _ q2, q3⟩, q4⟩, t5⟩
theorem e_iadd {x b : Int32} (hd : decode cc pc = .ok (.iadd, 1)) (kk : E l y cc nL ret R mc ms fx L0 Qa L h k n (pc + 1) lv (.int (x + b) :: st)) : E l y cc nL ret R mc ms fx L0 Qa L h k n pc lv (.int b :: .int x :: st) :=
  fun G α0 α A p e s m args below meth c H locs ls C X a hP hD hS hl => lv_iadd C.1 C.2.1 hd (kk G α0 α A p e s m args below meth c H locs ls C X a hP hD hS hl)
theorem e_isub {x b : Int32} (hd : decode cc pc = .ok (.isub, 1)) (kk : E l y cc nL ret R mc ms fx L0 Qa L h k n (pc + 1) lv (.int (x - b) :: st)) : E l y cc nL ret R mc ms fx L0 Qa L h k n pc lv (.int b :: .int x :: st) :=
  fun G α0 α A p e s m args below meth c H locs ls C X a hP hD hS hl => lv_isub C.1 C.2.1 hd (kk G α0 α A p e s m args below meth c H locs ls C X a hP hD hS hl)
theorem e_imul {x b : Int32} (hd : decode cc pc = .ok (.imul, 1)) (kk : E l y cc nL ret R mc ms fx L0 Qa L h k n (pc + 1) lv (.int (x * b) :: st)) : E l y cc nL ret R mc ms fx L0 Qa L h k n pc lv (.int b :: .int x :: st) :=
  fun G α0 α A p e s m args below meth c H locs ls C X a hP hD hS hl => lv_imul C.1 C.2.1 hd (kk G α0 α A p e s m args below meth c H locs ls C X a hP hD hS hl)
theorem e_iand {x b : Int32} (hd : decode cc pc = .ok (.iand, 1)) (kk : E l y cc nL ret R mc ms fx L0 Qa L h k n (pc + 1) lv (.int (x &&& b) :: st)) : E l y cc nL ret R mc ms fx L0 Qa L h k n pc lv (.int b :: .int x :: st) :=
  fun G α0 α A p e s m args below meth c H locs ls C X a hP hD hS hl => lv_iand C.1 C.2.1 hd (kk G α0 α A p e s m args below meth c H locs ls C X a hP hD hS hl)
theorem e_ior {x b : Int32} (hd : decode cc pc = .ok (.ior, 1)) (kk : E l y cc nL ret R mc ms fx L0 Qa L h k n (pc + 1) lv (.int (x ||| b) :: st)) : E l y cc nL ret R mc ms fx L0 Qa L h k n pc lv (.int b :: .int x :: st) :=
  fun G α0 α A p e s m args below meth c H locs ls C X a hP hD hS hl => lv_ior C.1 C.2.1 hd (kk G α0 α A p e s m args below meth c H locs ls C X a hP hD hS hl)
theorem e_ishl {x b : Int32} (hd : decode cc pc = .ok (.ishl, 1)) (kk : E l y cc nL ret R mc ms fx L0 Qa L h k n (pc + 1) lv (.int (x <<< (b &&& 31)) :: st)) : E l y cc nL ret R mc ms fx L0 Qa L h k n pc lv (.int b :: .int x :: st) :=
  fun G α0 α A p e s m args below meth c H locs ls C X a hP hD hS hl => lv_ishl C.1 C.2.1 hd (kk G α0 α A p e s m args below meth c H locs ls C X a hP hD hS hl)
theorem e_ishr {x b : Int32} (hd : decode cc pc = .ok (.ishr, 1)) (kk : E l y cc nL ret R mc ms fx L0 Qa L h k n (pc + 1) lv (.int (x >>> (b &&& 31)) :: st)) : E l y cc nL ret R mc ms fx L0 Qa L h k n pc lv (.int b :: .int x :: st) :=
  fun G α0 α A p e s m args below meth c H locs ls C X a hP hD hS hl => lv_ishr C.1 C.2.1 hd (kk G α0 α A p e s m args below meth c H locs ls C X a hP hD hS hl)
theorem e_iushr {x b : Int32} (hd : decode cc pc = .ok (.iushr, 1)) (kk : E l y cc nL ret R mc ms fx L0 Qa L h k n (pc + 1) lv (.int ((x.toUInt32 >>> (b.toUInt32 &&& Int32.toUInt32 31)).toInt32) :: st)) : E l y cc nL ret R mc ms fx L0 Qa L h k n pc lv (.int b :: .int x :: st) :=
  fun G α0 α A p e s m args below meth c H locs ls C X a hP hD hS hl => lv_iushr C.1 C.2.1 hd rfl (kk G α0 α A p e s m args below meth c H locs ls C X a hP hD hS hl)
theorem e_idiv {x b : Int32} (hd : decode cc pc = .ok (.idiv, 1)) (hb : ¬ b = 0) (kk : E l y cc nL ret R mc ms fx L0 Qa L h k n (pc + 1) lv (.int (x / b) :: st)) : E l y cc nL ret R mc ms fx L0 Qa L h k n pc lv (.int b :: .int x :: st) :=
  fun G α0 α A p e s m args below meth c H locs ls C X a hP hD hS hl => lv_idiv C.1 C.2.1 hd hb (kk G α0 α A p e s m args below meth c H locs ls C X a hP hD hS hl)
theorem e_irem {x b : Int32} (hd : decode cc pc = .ok (.irem, 1)) (hb : ¬ b = 0) (kk : E l y cc nL ret R mc ms fx L0 Qa L h k n (pc + 1) lv (.int (x - x / b * b) :: st)) : E l y cc nL ret R mc ms fx L0 Qa L h k n pc lv (.int b :: .int x :: st) :=
  fun G α0 α A p e s m args below meth c H locs ls C X a hP hD hS hl => lv_irem C.1 C.2.1 hd hb (kk G α0 α A p e s m args below meth c H locs ls C X a hP hD hS hl)
theorem e_ineg {x : Int32} (hd : decode cc pc = .ok (.ineg, 1)) (kk : E l y cc nL ret R mc ms fx L0 Qa L h k n (pc + 1) lv (.int (-x) :: st)) : E l y cc nL ret R mc ms fx L0 Qa L h k n pc lv (.int x :: st) :=
  fun G α0 α A p e s m args below meth c H locs ls C X a hP hD hS hl => lv_ineg C.1 C.2.1 hd (kk G α0 α A p e s m args below meth c H locs ls C X a hP hD hS hl)
theorem e_i2l {x : Int32} (hd : decode cc pc = .ok (.i2l, 1)) (kk : E l y cc nL ret R mc ms fx L0 Qa L h k n (pc + 1) lv (.long x.toInt64 :: st)) : E l y cc nL ret R mc ms fx L0 Qa L h k n pc lv (.int x :: st) :=
  fun G α0 α A p e s m args below meth c H locs ls C X a hP hD hS hl => lv_i2l C.1 C.2.1 hd rfl (kk G α0 α A p e s m args below meth c H locs ls C X a hP hD hS hl)
theorem e_i2b {x : Int32} (hd : decode cc pc = .ok (.i2b, 1)) (kk : E l y cc nL ret R mc ms fx L0 Qa L h k n (pc + 1) lv (.int x.toInt8.toInt32 :: st)) : E l y cc nL ret R mc ms fx L0 Qa L h k n pc lv (.int x :: st) :=
  fun G α0 α A p e s m args below meth c H locs ls C X a hP hD hS hl => lv_i2b C.1 C.2.1 hd rfl (kk G α0 α A p e s m args below meth c H locs ls C X a hP hD hS hl)
theorem e_i2s {x : Int32} (hd : decode cc pc = .ok (.i2s, 1)) (kk : E l y cc nL ret R mc ms fx L0 Qa L h k n (pc + 1) lv (.int x.toInt16.toInt32 :: st)) : E l y cc nL ret R mc ms fx L0 Qa L h k n pc lv (.int x :: st) :=
  fun G α0 α A p e s m args below meth c H locs ls C X a hP hD hS hl => lv_i2s C.1 C.2.1 hd rfl (kk G α0 α A p e s m args below meth c H locs ls C X a hP hD hS hl)
theorem e_i2c {x : Int32} (hd : decode cc pc = .ok (.i2c, 1)) (kk : E l y cc nL ret R mc ms fx L0 Qa L h k n (pc + 1) lv (.int (x.toUInt32 % 65536).toInt32 :: st)) : E l y cc nL ret R mc ms fx L0 Qa L h k n pc lv (.int x :: st) :=
  fun G α0 α A p e s m args below meth c H locs ls C X a hP hD hS hl => lv_i2c C.1 C.2.1 hd rfl (kk G α0 α A p e s m args below meth c H locs ls C X a hP hD hS hl)
theorem e_l2i {x : Int64} (hd : decode cc pc = .ok (.l2i, 1)) (kk : E l y cc nL ret R mc ms fx L0 Qa L h k n (pc + 1) lv (.int x.toInt32 :: st)) : E l y cc nL ret R mc ms fx L0 Qa L h k n pc lv (.long x :: st) :=
  fun G α0 α A p e s m args below meth c H locs ls C X a hP hD hS hl => lv_l2i C.1 C.2.1 hd rfl (kk G α0 α A p e s m args below meth c H locs ls C X a hP hD hS hl)
theorem e_ladd {x b : Int64} (hd : decode cc pc = .ok (.ladd, 1)) (kk : E l y cc nL ret R mc ms fx L0 Qa L h k n (pc + 1) lv (.long (x + b) :: st)) : E l y cc nL ret R mc ms fx L0 Qa L h k n pc lv (.long b :: .long x :: st) :=
  fun G α0 α A p e s m args below meth c H locs ls C X a hP hD hS hl => lv_ladd C.1 C.2.1 hd (kk G α0 α A p e s m args below meth c H locs ls C X a hP hD hS hl)
theorem e_lsub {x b : Int64} (hd : decode cc pc = .ok (.lsub, 1)) (kk : E l y cc nL ret R mc ms fx L0 Qa L h k n (pc + 1) lv (.long (x - b) :: st)) : E l y cc nL ret R mc ms fx L0 Qa L h k n pc lv (.long b :: .long x :: st) :=
  fun G α0 α A p e s m args below meth c H locs ls C X a hP hD hS hl => lv_lsub C.1 C.2.1 hd (kk G α0 α A p e s m args below meth c H locs ls C X a hP hD hS hl)
theorem e_lmul {x b : Int64} (hd : decode cc pc = .ok (.lmul, 1)) (kk : E l y cc nL ret R mc ms fx L0 Qa L h k n (pc + 1) lv (.long (x * b) :: st)) : E l y cc nL ret R mc ms fx L0 Qa L h k n pc lv (.long b :: .long x :: st) :=
  fun G α0 α A p e s m args below meth c H locs ls C X a hP hD hS hl => lv_lmul C.1 C.2.1 hd (kk G α0 α A p e s m args below meth c H locs ls C X a hP hD hS hl)
theorem e_land {x b : Int64} (hd : decode cc pc = .ok (.land, 1)) (kk : E l y cc nL ret R mc ms fx L0 Qa L h k n (pc + 1) lv (.long (x &&& b) :: st)) : E l y cc nL ret R mc ms fx L0 Qa L h k n pc lv (.long b :: .long x :: st) :=
  fun G α0 α A p e s m args below meth c H locs ls C X a hP hD hS hl => lv_land C.1 C.2.1 hd (kk G α0 α A p e s m args below meth c H locs ls C X a hP hD hS hl)
theorem e_lor {x b : Int64} (hd : decode cc pc = .ok (.lor, 1)) (kk : E l y cc nL ret R mc ms fx L0 Qa L h k n (pc + 1) lv (.long (x ||| b) :: st)) : E l y cc nL ret R mc ms fx L0 Qa L h k n pc lv (.long b :: .long x :: st) :=
  fun G α0 α A p e s m args below meth c H locs ls C X a hP hD hS hl => lv_lor C.1 C.2.1 hd (kk G α0 α A p e s m args below meth c H locs ls C X a hP hD hS hl)
theorem e_lxor {x b : Int64} (hd : decode cc pc = .ok (.lxor, 1)) (kk : E l y cc nL ret R mc ms fx L0 Qa L h k n (pc + 1) lv (.long (x ^^^ b) :: st)) : E l y cc nL ret R mc ms fx L0 Qa L h k n pc lv (.long b :: .long x :: st) :=
  fun G α0 α A p e s m args below meth c H locs ls C X a hP hD hS hl => lv_lxor C.1 C.2.1 hd (kk G α0 α A p e s m args below meth c H locs ls C X a hP hD hS hl)
theorem e_ldiv {x b : Int64} (hd : decode cc pc = .ok (.ldiv, 1)) (hb : ¬ b = 0) (kk : E l y cc nL ret R mc ms fx L0 Qa L h k n (pc + 1) lv (.long (x / b) :: st)) : E l y cc nL ret R mc ms fx L0 Qa L h k n pc lv (.long b :: .long x :: st) :=
  fun G α0 α A p e s m args below meth c H locs ls C X a hP hD hS hl => lv_ldiv C.1 C.2.1 hd hb (kk G α0 α A p e s m args below meth c H locs ls C X a hP hD hS hl)
theorem e_lrem {x b : Int64} (hd : decode cc pc = .ok (.lrem, 1)) (hb : ¬ b = 0) (kk : E l y cc nL ret R mc ms fx L0 Qa L h k n (pc + 1) lv (.long (x - x / b * b) :: st)) : E l y cc nL ret R mc ms fx L0 Qa L h k n pc lv (.long b :: .long x :: st) :=
  fun G α0 α A p e s m args below meth c H locs ls C X a hP hD hS hl => lv_lrem C.1 C.2.1 hd hb (kk G α0 α A p e s m args below meth c H locs ls C X a hP hD hS hl)
theorem e_lshl {x : Int64} {b : Int32} (hd : decode cc pc = .ok (.lshl, 1)) (kk : E l y cc nL ret R mc ms fx L0 Qa L h k n (pc + 1) lv (.long (x <<< (b.toInt64 &&& 63)) :: st)) : E l y cc nL ret R mc ms fx L0 Qa L h k n pc lv (.int b :: .long x :: st) :=
  fun G α0 α A p e s m args below meth c H locs ls C X a hP hD hS hl => lv_lshl C.1 C.2.1 hd rfl (kk G α0 α A p e s m args below meth c H locs ls C X a hP hD hS hl)
theorem e_lshr {x : Int64} {b : Int32} (hd : decode cc pc = .ok (.lshr, 1)) (kk : E l y cc nL ret R mc ms fx L0 Qa L h k n (pc + 1) lv (.long (x >>> (b.toInt64 &&& 63)) :: st)) : E l y cc nL ret R mc ms fx L0 Qa L h k n pc lv (.int b :: .long x :: st) :=
  fun G α0 α A p e s m args below meth c H locs ls C X a hP hD hS hl => lv_lshr C.1 C.2.1 hd rfl (kk G α0 α A p e s m args below meth c H locs ls C X a hP hD hS hl)
theorem e_lushr {x : Int64} {b : Int32} (hd : decode cc pc = .ok (.lushr, 1)) (kk : E l y cc nL ret R mc ms fx L0 Qa L h k n (pc + 1) lv (.long ((x.toUInt64 >>> (b.toInt64.toUInt64 &&& Int64.toUInt64 63)).toInt64) :: st)) : E l y cc nL ret R mc ms fx L0 Qa L h k n pc lv (.int b :: .long x :: st) :=
  fun G α0 α A p e s m args below meth c H locs ls C X a hP hD hS hl => lv_lushr C.1 C.2.1 hd rfl (kk G α0 α A p e s m args below meth c H locs ls C X a hP hD hS hl)
theorem e_iconst {i : Int} {v : Int32} (hd : decode cc pc = .ok (.iconst i, 1)) (hv : Int32.ofInt i = v) (kk : E l y cc nL ret R mc ms fx L0 Qa L h k n (pc + 1) lv (.int v :: st)) : E l y cc nL ret R mc ms fx L0 Qa L h k n pc lv (st) :=
  fun G α0 α A p e s m args below meth c H locs ls C X a hP hD hS hl => lv_iconst C.1 C.2.1 hd hv (kk G α0 α A p e s m args below meth c H locs ls C X a hP hD hS hl)
theorem e_bipush {i : Int} {v : Int32} (hd : decode cc pc = .ok (.bipush i, 2)) (hv : (Int8.ofInt i).toInt32 = v) (kk : E l y cc nL ret R mc ms fx L0 Qa L h k n (pc + 2) lv (.int v :: st)) : E l y cc nL ret R mc ms fx L0 Qa L h k n pc lv (st) :=
  fun G α0 α A p e s m args below meth c H locs ls C X a hP hD hS hl => lv_bipush C.1 C.2.1 hd hv (kk G α0 α A p e s m args below meth c H locs ls C X a hP hD hS hl)
theorem e_sipush {i : Int} {v : Int32} (hd : decode cc pc = .ok (.sipush i, 3)) (hv : (Int16.ofInt i).toInt32 = v) (kk : E l y cc nL ret R mc ms fx L0 Qa L h k n (pc + 3) lv (.int v :: st)) : E l y cc nL ret R mc ms fx L0 Qa L h k n pc lv (st) :=
  fun G α0 α A p e s m args below meth c H locs ls C X a hP hD hS hl => lv_sipush C.1 C.2.1 hd hv (kk G α0 α A p e s m args below meth c H locs ls C X a hP hD hS hl)
theorem e_lconst {i : Fin 2} {v : Int64} (hd : decode cc pc = .ok (.lconst i, 1)) (hv : Int64.ofNat (i : Nat) = v) (kk : E l y cc nL ret R mc ms fx L0 Qa L h k n (pc + 1) lv (.long v :: st)) : E l y cc nL ret R mc ms fx L0 Qa L h k n pc lv (st) :=
  fun G α0 α A p e s m args below meth c H locs ls C X a hP hD hS hl => lv_lconst C.1 C.2.1 hd hv (kk G α0 α A p e s m args below meth c H locs ls C X a hP hD hS hl)
theorem e_null  (hd : decode cc pc = .ok (.aconst_null, 1)) (kk : E l y cc nL ret R mc ms fx L0 Qa L h k n (pc + 1) lv (.null :: st)) : E l y cc nL ret R mc ms fx L0 Qa L h k n pc lv (st) :=
  fun G α0 α A p e s m args below meth c H locs ls C X a hP hD hS hl => lv_null C.1 C.2.1 hd (kk G α0 α A p e s m args below meth c H locs ls C X a hP hD hS hl)
theorem e_popI {x : Int32} (hd : decode cc pc = .ok (.pop, 1)) (kk : E l y cc nL ret R mc ms fx L0 Qa L h k n (pc + 1) lv st) : E l y cc nL ret R mc ms fx L0 Qa L h k n pc lv (.int x :: st) :=
  fun G α0 α A p e s m args below meth c H locs ls C X a hP hD hS hl => lv_pop C.1 C.2.1 hd rfl (kk G α0 α A p e s m args below meth c H locs ls C X a hP hD hS hl)
theorem e_popR {x : Nat} (hd : decode cc pc = .ok (.pop, 1)) (kk : E l y cc nL ret R mc ms fx L0 Qa L h k n (pc + 1) lv st) : E l y cc nL ret R mc ms fx L0 Qa L h k n pc lv (.ref x :: st) :=
  fun G α0 α A p e s m args below meth c H locs ls C X a hP hD hS hl => lv_pop C.1 C.2.1 hd rfl (kk G α0 α A p e s m args below meth c H locs ls C X a hP hD hS hl)
theorem e_dupI {x : Int32} (hd : decode cc pc = .ok (.dup, 1)) (kk : E l y cc nL ret R mc ms fx L0 Qa L h k n (pc + 1) lv (.int x :: .int x :: st)) : E l y cc nL ret R mc ms fx L0 Qa L h k n pc lv (.int x :: st) :=
  fun G α0 α A p e s m args below meth c H locs ls C X a hP hD hS hl => lv_dup C.1 C.2.1 hd rfl (kk G α0 α A p e s m args below meth c H locs ls C X a hP hD hS hl)
theorem e_dupR {x : Nat} (hd : decode cc pc = .ok (.dup, 1)) (kk : E l y cc nL ret R mc ms fx L0 Qa L h k n (pc + 1) lv (.ref x :: .ref x :: st)) : E l y cc nL ret R mc ms fx L0 Qa L h k n pc lv (.ref x :: st) :=
  fun G α0 α A p e s m args below meth c H locs ls C X a hP hD hS hl => lv_dup C.1 C.2.1 hd rfl (kk G α0 α A p e s m args below meth c H locs ls C X a hP hD hS hl)
theorem e_dup2 {x : Int32} {i : Nat} (hd : decode cc pc = .ok (.dup2, 1)) (kk : E l y cc nL ret R mc ms fx L0 Qa L h k n (pc + 1) lv (.int x :: .ref i :: .int x :: .ref i :: st)) : E l y cc nL ret R mc ms fx L0 Qa L h k n pc lv (.int x :: .ref i :: st) :=
  fun G α0 α A p e s m args below meth c H locs ls C X a hP hD hS hl => lv_dup2_11 C.1 C.2.1 hd rfl rfl (kk G α0 α A p e s m args below meth c H locs ls C X a hP hD hS hl)
theorem e_lcmp {x b : Int64} (hd : decode cc pc = .ok (.lcmp, 1)) (kk : E l y cc nL ret R mc ms fx L0 Qa L h k n (pc + 1) lv (.int (lg_cmp x b) :: st)) : E l y cc nL ret R mc ms fx L0 Qa L h k n pc lv (.long b :: .long x :: st) := by
  intro G α0 α A p e s m args below meth c H locs ls C X a hP hD hS hl
  exact W.lcmp C.1 C.2.1 hd (kk G α0 α A p e s m args below meth c H locs ls C X a hP hD hS hl)
theorem e_iload_n {q : Fin 4} {i : Nat} {x : Int32} (j : Nat) (hd : decode cc pc = .ok (.iload_n q, 1)) (hi : (q : Nat) = i) (hj : lv[j]? = some (i, .int x)) (kk : E l y cc nL ret R mc ms fx L0 Qa L h k n (pc + 1) lv (.int x :: st)) : E l y cc nL ret R mc ms fx L0 Qa L h k n pc lv st :=
  fun G α0 α A p e s m args below meth c H locs ls C X a hP hD hS hl => lv_iload_n C.1 C.2.1 hd hi (lv_at hl j (e_lv hj)) (kk G α0 α A p e s m args below meth c H locs ls C X a hP hD hS hl)
theorem e_iload {i : Nat} {x : Int32} (j : Nat) (hd : decode cc pc = .ok (.iload i, 2)) (hj : lv[j]? = some (i, .int x)) (kk : E l y cc nL ret R mc ms fx L0 Qa L h k n (pc + 2) lv (.int x :: st)) : E l y cc nL ret R mc ms fx L0 Qa L h k n pc lv st :=
  fun G α0 α A p e s m args below meth c H locs ls C X a hP hD hS hl => lv_iload C.1 C.2.1 hd (lv_at hl j (e_lv hj)) (kk G α0 α A p e s m args below meth c H locs ls C X a hP hD hS hl)
theorem e_lload_n {q : Fin 4} {i : Nat} {x : Int64} (j : Nat) (hd : decode cc pc = .ok (.lload_n q, 1)) (hi : (q : Nat) = i) (hj : lv[j]? = some (i, .long x)) (kk : E l y cc nL ret R mc ms fx L0 Qa L h k n (pc + 1) lv (.long x :: st)) : E l y cc nL ret R mc ms fx L0 Qa L h k n pc lv st :=
  fun G α0 α A p e s m args below meth c H locs ls C X a hP hD hS hl => lv_lload_n C.1 C.2.1 hd hi (lv_at hl j (e_lv hj)) (kk G α0 α A p e s m args below meth c H locs ls C X a hP hD hS hl)
theorem e_lload {i : Nat} {x : Int64} (j : Nat) (hd : decode cc pc = .ok (.lload i, 2)) (hj : lv[j]? = some (i, .long x)) (kk : E l y cc nL ret R mc ms fx L0 Qa L h k n (pc + 2) lv (.long x :: st)) : E l y cc nL ret R mc ms fx L0 Qa L h k n pc lv st :=
  fun G α0 α A p e s m args below meth c H locs ls C X a hP hD hS hl => lv_lload C.1 C.2.1 hd (lv_at hl j (e_lv hj)) (kk G α0 α A p e s m args below meth c H locs ls C X a hP hD hS hl)
theorem e_aload_n {q : Fin 4} {i : Nat} {x : Nat} (j : Nat) (hd : decode cc pc = .ok (.aload_n q, 1)) (hi : (q : Nat) = i) (hj : lv[j]? = some (i, .ref x)) (kk : E l y cc nL ret R mc ms fx L0 Qa L h k n (pc + 1) lv (.ref x :: st)) : E l y cc nL ret R mc ms fx L0 Qa L h k n pc lv st :=
  fun G α0 α A p e s m args below meth c H locs ls C X a hP hD hS hl => lv_aload_n C.1 C.2.1 hd hi (lv_at hl j (e_lv hj)) (kk G α0 α A p e s m args below meth c H locs ls C X a hP hD hS hl)
theorem e_aload {i : Nat} {x : Nat} (j : Nat) (hd : decode cc pc = .ok (.aload i, 2)) (hj : lv[j]? = some (i, .ref x)) (kk : E l y cc nL ret R mc ms fx L0 Qa L h k n (pc + 2) lv (.ref x :: st)) : E l y cc nL ret R mc ms fx L0 Qa L h k n pc lv st :=
  fun G α0 α A p e s m args below meth c H locs ls C X a hP hD hS hl => lv_aload C.1 C.2.1 hd (lv_at hl j (e_lv hj)) (kk G α0 α A p e s m args below meth c H locs ls C X a hP hD hS hl)
theorem e_istore_n {q : Fin 4} {i : Nat} {x : Int32} {lv' : List (Nat × Value)} (hd : decode cc pc = .ok (.istore_n q, 1)) (hi : (q : Nat) = i) (hn : i < nL) (hl' : (i, .int x) :: lv.filter (fun q => !(q.1 == i) && !(q.1 + 1 == i && q.2.category == 2)) = lv') (kk : E l y cc nL ret R mc ms fx L0 Qa L h k n (pc + 1) lv' st) : E l y cc nL ret R mc ms fx L0 Qa L h k n pc lv (.int x :: st) := by
  intro G α0 α A p e s m args below meth c H locs ls C X a hP hD hS hl
  refine lv_istore_n (lv' := e_lm α lv') C.1 C.2.1 hd hi hl hn ?_ (fun ls hl => kk G α0 α A p e s m args below meth c H locs ls C X a hP hD hS hl)
  rw [← hl', e_lf1]; rfl
theorem e_istore {i : Nat} {x : Int32} {lv' : List (Nat × Value)} (hd : decode cc pc = .ok (.istore i, 2)) (hn : i < nL) (hl' : (i, .int x) :: lv.filter (fun q => !(q.1 == i) && !(q.1 + 1 == i && q.2.category == 2)) = lv') (kk : E l y cc nL ret R mc ms fx L0 Qa L h k n (pc + 2) lv' st) : E l y cc nL ret R mc ms fx L0 Qa L h k n pc lv (.int x :: st) := by
  intro G α0 α A p e s m args below meth c H locs ls C X a hP hD hS hl
  refine lv_istore (lv' := e_lm α lv') C.1 C.2.1 hd hl hn ?_ (fun ls hl => kk G α0 α A p e s m args below meth c H locs ls C X a hP hD hS hl)
  rw [← hl', e_lf1]; rfl
theorem e_astore_n {q : Fin 4} {i : Nat} {x : Nat} {lv' : List (Nat × Value)} (hd : decode cc pc = .ok (.astore_n q, 1)) (hi : (q : Nat) = i) (hn : i < nL) (hl' : (i, .ref x) :: lv.filter (fun q => !(q.1 == i) && !(q.1 + 1 == i && q.2.category == 2)) = lv') (kk : E l y cc nL ret R mc ms fx L0 Qa L h k n (pc + 1) lv' st) : E l y cc nL ret R mc ms fx L0 Qa L h k n pc lv (.ref x :: st) := by
  intro G α0 α A p e s m args below meth c H locs ls C X a hP hD hS hl
  refine lv_astore_n (lv' := e_lm α lv') C.1 C.2.1 hd hi hl hn ?_ (fun ls hl => kk G α0 α A p e s m args below meth c H locs ls C X a hP hD hS hl)
  rw [← hl', e_lf1]; rfl
theorem e_astore {i : Nat} {x : Nat} {lv' : List (Nat × Value)} (hd : decode cc pc = .ok (.astore i, 2)) (hn : i < nL) (hl' : (i, .ref x) :: lv.filter (fun q => !(q.1 == i) && !(q.1 + 1 == i && q.2.category == 2)) = lv') (kk : E l y cc nL ret R mc ms fx L0 Qa L h k n (pc + 2) lv' st) : E l y cc nL ret R mc ms fx L0 Qa L h k n pc lv (.ref x :: st) := by
  intro G α0 α A p e s m args below meth c H locs ls C X a hP hD hS hl
  refine lv_astore (lv' := e_lm α lv') C.1 C.2.1 hd hl hn ?_ (fun ls hl => kk G α0 α A p e s m args below meth c H locs ls C X a hP hD hS hl)
  rw [← hl', e_lf1]; rfl
theorem e_lstore_n {q : Fin 4} {i : Nat} {x : Int64} {lv' : List (Nat × Value)} (hd : decode cc pc = .ok (.lstore_n q, 1)) (hi : (q : Nat) = i) (hn : i + 1 < nL) (hl' : (i, .long x) :: lv.filter (fun q => !(q.1 == i) && (!(q.1 == i + 1) && !(q.1 + 1 == i && q.2.category == 2))) = lv') (kk : E l y cc nL ret R mc ms fx L0 Qa L h k n (pc + 1) lv' st) : E l y cc nL ret R mc ms fx L0 Qa L h k n pc lv (.long x :: st) := by
  intro G α0 α A p e s m args below meth c H locs ls C X a hP hD hS hl
  refine lv_lstore_n (lv' := e_lm α lv') C.1 C.2.1 hd hi hl hn ?_ (fun ls hl => kk G α0 α A p e s m args below meth c H locs ls C X a hP hD hS hl)
  rw [← hl', e_lf2]; rfl
theorem e_lstore {i : Nat} {x : Int64} {lv' : List (Nat × Value)} (hd : decode cc pc = .ok (.lstore i, 2)) (hn : i + 1 < nL) (hl' : (i, .long x) :: lv.filter (fun q => !(q.1 == i) && (!(q.1 == i + 1) && !(q.1 + 1 == i && q.2.category == 2))) = lv') (kk : E l y cc nL ret R mc ms fx L0 Qa L h k n (pc + 2) lv' st) : E l y cc nL ret R mc ms fx L0 Qa L h k n pc lv (.long x :: st) := by
  intro G α0 α A p e s m args below meth c H locs ls C X a hP hD hS hl
  refine lv_lstore (lv' := e_lm α lv') C.1 C.2.1 hd hl hn ?_ (fun ls hl => kk G α0 α A p e s m args below meth c H locs ls C X a hP hD hS hl)
  rw [← hl', e_lf2]; rfl
theorem e_iinc {i : Nat} {z : Int} {x : Int32} {lv' : List (Nat × Value)} (j : Nat) (hd : decode cc pc = .ok (.iinc i z, 3)) (hj : lv[j]? = some (i, .int x)) (hn : i < nL) (hl' : (i, .int (x + Int32.ofInt z)) :: lv.filter (fun q => !(q.1 == i) && !(q.1 + 1 == i && q.2.category == 2)) = lv') (kk : E l y cc nL ret R mc ms fx L0 Qa L h k n (pc + 3) lv' st) : E l y cc nL ret R mc ms fx L0 Qa L h k n pc lv st := by
  intro G α0 α A p e s m args below meth c H locs ls C X a hP hD hS hl
  refine lv_iinc (lv' := e_lm α lv') C.1 C.2.1 hd hl (e_lv hj) rfl hn ?_ (fun ls hl => kk G α0 α A p e s m args below meth c H locs ls C X a hP hD hS hl)
  rw [← hl', e_lf1]; rfl
theorem e_goto {o : Int} {t : Nat} (hd : decode cc pc = .ok (.goto o, 3)) (ht : (pc : Int) + o = (t : Int)) (kk : E l y cc nL ret R mc ms fx L0 Qa L h k n t lv st) : E l y cc nL ret R mc ms fx L0 Qa L h k n pc lv st :=
  fun G α0 α A p e s m args below meth c H locs ls C X a hP hD hS hl => lv_goto C.1 C.2.1 hd ht (kk G α0 α A p e s m args below meth c H locs ls C X a hP hD hS hl)
theorem e_icmp_eq {o : Int} {t : Nat} {x b : Int32} (hd : decode cc pc = .ok (.if_icmp .eq o, 3)) (ht : (pc : Int) + o = (t : Int)) (kt : x = b → E l y cc nL ret R mc ms fx L0 Qa L h k n t lv st) (kf : ¬ x = b → E l y cc nL ret R mc ms fx L0 Qa L h k n (pc + 3) lv st) : E l y cc nL ret R mc ms fx L0 Qa L h k n pc lv (.int b :: .int x :: st) :=
  fun G α0 α A p e s m args below meth c H locs ls C X a hP hD hS hl => lv_icmp_eq C.1 C.2.1 hd ht (fun q => kt q G α0 α A p e s m args below meth c H locs ls C X a hP hD hS hl) (fun q => kf q G α0 α A p e s m args below meth c H locs ls C X a hP hD hS hl)
theorem e_if_eq {o : Int} {t : Nat} {x : Int32} (hd : decode cc pc = .ok (.ifCond .eq o, 3)) (ht : (pc : Int) + o = (t : Int)) (kt : x = 0 → E l y cc nL ret R mc ms fx L0 Qa L h k n t lv st) (kf : ¬ x = 0 → E l y cc nL ret R mc ms fx L0 Qa L h k n (pc + 3) lv st) : E l y cc nL ret R mc ms fx L0 Qa L h k n pc lv (.int x :: st) :=
  fun G α0 α A p e s m args below meth c H locs ls C X a hP hD hS hl => lv_if_eq C.1 C.2.1 hd ht (fun q => kt q G α0 α A p e s m args below meth c H locs ls C X a hP hD hS hl) (fun q => kf q G α0 α A p e s m args below meth c H locs ls C X a hP hD hS hl)
theorem e_icmp_ne {o : Int} {t : Nat} {x b : Int32} (hd : decode cc pc = .ok (.if_icmp .ne o, 3)) (ht : (pc : Int) + o = (t : Int)) (kt : x ≠ b → E l y cc nL ret R mc ms fx L0 Qa L h k n t lv st) (kf : x = b → E l y cc nL ret R mc ms fx L0 Qa L h k n (pc + 3) lv st) : E l y cc nL ret R mc ms fx L0 Qa L h k n pc lv (.int b :: .int x :: st) :=
  fun G α0 α A p e s m args below meth c H locs ls C X a hP hD hS hl => lv_icmp_ne C.1 C.2.1 hd ht (fun q => kt q G α0 α A p e s m args below meth c H locs ls C X a hP hD hS hl) (fun q => kf q G α0 α A p e s m args below meth c H locs ls C X a hP hD hS hl)
theorem e_if_ne {o : Int} {t : Nat} {x : Int32} (hd : decode cc pc = .ok (.ifCond .ne o, 3)) (ht : (pc : Int) + o = (t : Int)) (kt : x ≠ 0 → E l y cc nL ret R mc ms fx L0 Qa L h k n t lv st) (kf : x = 0 → E l y cc nL ret R mc ms fx L0 Qa L h k n (pc + 3) lv st) : E l y cc nL ret R mc ms fx L0 Qa L h k n pc lv (.int x :: st) :=
  fun G α0 α A p e s m args below meth c H locs ls C X a hP hD hS hl => lv_if_ne C.1 C.2.1 hd ht (fun q => kt q G α0 α A p e s m args below meth c H locs ls C X a hP hD hS hl) (fun q => kf q G α0 α A p e s m args below meth c H locs ls C X a hP hD hS hl)
theorem e_icmp_lt {o : Int} {t : Nat} {x b : Int32} (hd : decode cc pc = .ok (.if_icmp .lt o, 3)) (ht : (pc : Int) + o = (t : Int)) (kt : x < b → E l y cc nL ret R mc ms fx L0 Qa L h k n t lv st) (kf : ¬ x < b → E l y cc nL ret R mc ms fx L0 Qa L h k n (pc + 3) lv st) : E l y cc nL ret R mc ms fx L0 Qa L h k n pc lv (.int b :: .int x :: st) :=
  fun G α0 α A p e s m args below meth c H locs ls C X a hP hD hS hl => lv_icmp_lt C.1 C.2.1 hd ht (fun q => kt q G α0 α A p e s m args below meth c H locs ls C X a hP hD hS hl) (fun q => kf q G α0 α A p e s m args below meth c H locs ls C X a hP hD hS hl)
theorem e_if_lt {o : Int} {t : Nat} {x : Int32} (hd : decode cc pc = .ok (.ifCond .lt o, 3)) (ht : (pc : Int) + o = (t : Int)) (kt : x < 0 → E l y cc nL ret R mc ms fx L0 Qa L h k n t lv st) (kf : ¬ x < 0 → E l y cc nL ret R mc ms fx L0 Qa L h k n (pc + 3) lv st) : E l y cc nL ret R mc ms fx L0 Qa L h k n pc lv (.int x :: st) :=
  fun G α0 α A p e s m args below meth c H locs ls C X a hP hD hS hl => lv_if_lt C.1 C.2.1 hd ht (fun q => kt q G α0 α A p e s m args below meth c H locs ls C X a hP hD hS hl) (fun q => kf q G α0 α A p e s m args below meth c H locs ls C X a hP hD hS hl)
theorem e_icmp_ge {o : Int} {t : Nat} {x b : Int32} (hd : decode cc pc = .ok (.if_icmp .ge o, 3)) (ht : (pc : Int) + o = (t : Int)) (kt : b ≤ x → E l y cc nL ret R mc ms fx L0 Qa L h k n t lv st) (kf : ¬ b ≤ x → E l y cc nL ret R mc ms fx L0 Qa L h k n (pc + 3) lv st) : E l y cc nL ret R mc ms fx L0 Qa L h k n pc lv (.int b :: .int x :: st) :=
  fun G α0 α A p e s m args below meth c H locs ls C X a hP hD hS hl => lv_icmp_ge C.1 C.2.1 hd ht (fun q => kt q G α0 α A p e s m args below meth c H locs ls C X a hP hD hS hl) (fun q => kf q G α0 α A p e s m args below meth c H locs ls C X a hP hD hS hl)
theorem e_if_ge {o : Int} {t : Nat} {x : Int32} (hd : decode cc pc = .ok (.ifCond .ge o, 3)) (ht : (pc : Int) + o = (t : Int)) (kt : 0 ≤ x → E l y cc nL ret R mc ms fx L0 Qa L h k n t lv st) (kf : ¬ 0 ≤ x → E l y cc nL ret R mc ms fx L0 Qa L h k n (pc + 3) lv st) : E l y cc nL ret R mc ms fx L0 Qa L h k n pc lv (.int x :: st) :=
  fun G α0 α A p e s m args below meth c H locs ls C X a hP hD hS hl => lv_if_ge C.1 C.2.1 hd ht (fun q => kt q G α0 α A p e s m args below meth c H locs ls C X a hP hD hS hl) (fun q => kf q G α0 α A p e s m args below meth c H locs ls C X a hP hD hS hl)
theorem e_icmp_gt {o : Int} {t : Nat} {x b : Int32} (hd : decode cc pc = .ok (.if_icmp .gt o, 3)) (ht : (pc : Int) + o = (t : Int)) (kt : b < x → E l y cc nL ret R mc ms fx L0 Qa L h k n t lv st) (kf : ¬ b < x → E l y cc nL ret R mc ms fx L0 Qa L h k n (pc + 3) lv st) : E l y cc nL ret R mc ms fx L0 Qa L h k n pc lv (.int b :: .int x :: st) :=
  fun G α0 α A p e s m args below meth c H locs ls C X a hP hD hS hl => lv_icmp_gt C.1 C.2.1 hd ht (fun q => kt q G α0 α A p e s m args below meth c H locs ls C X a hP hD hS hl) (fun q => kf q G α0 α A p e s m args below meth c H locs ls C X a hP hD hS hl)
theorem e_if_gt {o : Int} {t : Nat} {x : Int32} (hd : decode cc pc = .ok (.ifCond .gt o, 3)) (ht : (pc : Int) + o = (t : Int)) (kt : 0 < x → E l y cc nL ret R mc ms fx L0 Qa L h k n t lv st) (kf : ¬ 0 < x → E l y cc nL ret R mc ms fx L0 Qa L h k n (pc + 3) lv st) : E l y cc nL ret R mc ms fx L0 Qa L h k n pc lv (.int x :: st) :=
  fun G α0 α A p e s m args below meth c H locs ls C X a hP hD hS hl => lv_if_gt C.1 C.2.1 hd ht (fun q => kt q G α0 α A p e s m args below meth c H locs ls C X a hP hD hS hl) (fun q => kf q G α0 α A p e s m args below meth c H locs ls C X a hP hD hS hl)
theorem e_icmp_le {o : Int} {t : Nat} {x b : Int32} (hd : decode cc pc = .ok (.if_icmp .le o, 3)) (ht : (pc : Int) + o = (t : Int)) (kt : x ≤ b → E l y cc nL ret R mc ms fx L0 Qa L h k n t lv st) (kf : ¬ x ≤ b → E l y cc nL ret R mc ms fx L0 Qa L h k n (pc + 3) lv st) : E l y cc nL ret R mc ms fx L0 Qa L h k n pc lv (.int b :: .int x :: st) :=
  fun G α0 α A p e s m args below meth c H locs ls C X a hP hD hS hl => lv_icmp_le C.1 C.2.1 hd ht (fun q => kt q G α0 α A p e s m args below meth c H locs ls C X a hP hD hS hl) (fun q => kf q G α0 α A p e s m args below meth c H locs ls C X a hP hD hS hl)
theorem e_if_le {o : Int} {t : Nat} {x : Int32} (hd : decode cc pc = .ok (.ifCond .le o, 3)) (ht : (pc : Int) + o = (t : Int)) (kt : x ≤ 0 → E l y cc nL ret R mc ms fx L0 Qa L h k n t lv st) (kf : ¬ x ≤ 0 → E l y cc nL ret R mc ms fx L0 Qa L h k n (pc + 3) lv st) : E l y cc nL ret R mc ms fx L0 Qa L h k n pc lv (.int x :: st) :=
  fun G α0 α A p e s m args below meth c H locs ls C X a hP hD hS hl => lv_if_le C.1 C.2.1 hd ht (fun q => kt q G α0 α A p e s m args below meth c H locs ls C X a hP hD hS hl) (fun q => kf q G α0 α A p e s m args below meth c H locs ls C X a hP hD hS hl)
theorem e_ifnull {o : Int} {x : Nat} (hd : decode cc pc = .ok (.ifnull o, 3)) (kk : E l y cc nL ret R mc ms fx L0 Qa L h k n (pc + 3) lv st) : E l y cc nL ret R mc ms fx L0 Qa L h k n pc lv (.ref x :: st) :=
  fun G α0 α A p e s m args below meth c H locs ls C X a hP hD hS hl => lv_ifnull C.1 C.2.1 hd (kk G α0 α A p e s m args below meth c H locs ls C X a hP hD hS hl)
theorem e_ifnonnull {o : Int} {t : Nat} {x : Nat} (hd : decode cc pc = .ok (.ifnonnull o, 3)) (ht : (pc : Int) + o = (t : Int)) (kk : E l y cc nL ret R mc ms fx L0 Qa L h k n t lv st) : E l y cc nL ret R mc ms fx L0 Qa L h k n pc lv (.ref x :: st) :=
  fun G α0 α A p e s m args below meth c H locs ls C X a hP hD hS hl => lv_ifnonnull C.1 C.2.1 hd ht (kk G α0 α A p e s m args below meth c H locs ls C X a hP hD hS hl)
theorem e_ldc {i : Nat} {v : Int32} (hw : Cond.constant y.cls i v ∈ e_gw) (hd : decode cc pc = .ok (.ldc i, 2)) (kk : E l y cc nL ret R mc ms fx L0 Qa L h k n (pc + 2) lv (.int v :: st)) : E l y cc nL ret R mc ms fx L0 Qa L h k n pc lv st :=
  fun G α0 α A p e s m args below meth c H locs ls C X a hP hD hS hl => lv_ldc C.1 C.2.1 C.2.2.2.2.1 (C.2.2.2.2.2.2.1 _ hw) hd (kk G α0 α A p e s m args below meth c H locs ls C X a hP hD hS hl)
theorem e_ldcw {i : Nat} {v : Int32} (hw : Cond.constant y.cls i v ∈ e_gw) (hd : decode cc pc = .ok (.ldc_w i, 3)) (kk : E l y cc nL ret R mc ms fx L0 Qa L h k n (pc + 3) lv (.int v :: st)) : E l y cc nL ret R mc ms fx L0 Qa L h k n pc lv st :=
  fun G α0 α A p e s m args below meth c H locs ls C X a hP hD hS hl => lv_ldcw C.1 C.2.1 C.2.2.2.2.1 (C.2.2.2.2.2.2.1 _ hw) hd (kk G α0 α A p e s m args below meth c H locs ls C X a hP hD hS hl)
theorem e_ldc2 {i : Nat} {v : Int64} (hw : Cond.constantLong y.cls i v ∈ e_gw) (hd : decode cc pc = .ok (.ldc2_w i, 3)) (kk : E l y cc nL ret R mc ms fx L0 Qa L h k n (pc + 3) lv (.long v :: st)) : E l y cc nL ret R mc ms fx L0 Qa L h k n pc lv st :=
  fun G α0 α A p e s m args below meth c H locs ls C X a hP hD hS hl => lv_ldc2 C.1 C.2.1 C.2.2.2.2.1 (C.2.2.2.2.2.2.1 _ hw) hd (kk G α0 α A p e s m args below meth c H locs ls C X a hP hD hS hl)
theorem e_rq {G : eG} {α0 α : Nat → Nat} {A : Nat → Prop} {s : State} {H : Heap} {locs : List Loc} {args : Array Value} {v : Option Value} (hq : Qa v L h) (a : e_ag fx L0 α0 L α) (hP : va_P (e_D G) vwCl (e_ws G α L h) H) (hD : va_D A (e_ws G α L h)) (hS : va_S A s.heap H locs) : ∀ t : State, t.heap = H → s.WarmedH t.vm → e_Q G α0 A L0 fx Qa args s (.returned (v.map (e_tv α))) t :=
  fun t ht _ => ⟨⟨v, α, L, h, rfl, hq, a, by rw [ht]; exact hP, hD⟩, hS.F ht⟩
theorem e_iret {x : Int32} (hr : ret = some .int) (hd : decode cc pc = .ok (.ireturn, 1)) (hq : Qa (some (.int x)) L h) : E l y cc nL ret R mc ms fx L0 Qa L h mc ms pc lv [.int x] :=
  fun G α0 α A p e s m args below meth c H locs ls C X a hP hD hS hl => W.iret C.1 C.2.1 (C.2.2.1.trans hr) (e_rq hq a hP hD hS) (fun q hq => hS.2.2 q hq) hd C.2.2.2.2.2.2.2.1
theorem e_zret {x : Int32} {ty : FieldType} (hr : ret = some ty) (hn : narrow ty (.int x) = .int x) (hd : decode cc pc = .ok (.ireturn, 1)) (hq : Qa (some (.int x)) L h) : E l y cc nL ret R mc ms fx L0 Qa L h mc ms pc lv [.int x] :=
  fun G α0 α A p e s m args below meth c H locs ls C X a hP hD hS hl => W.zret C.1 C.2.1 (C.2.2.1.trans hr) hn (e_rq hq a hP hD hS) (fun q hq => hS.2.2 q hq) hd C.2.2.2.2.2.2.2.1
theorem e_lret {x : Int64} (hr : ret = some .long) (hd : decode cc pc = .ok (.lreturn, 1)) (hq : Qa (some (.long x)) L h) : E l y cc nL ret R mc ms fx L0 Qa L h mc ms pc lv [.long x] :=
  fun G α0 α A p e s m args below meth c H locs ls C X a hP hD hS hl => W.lret C.1 C.2.1 (C.2.2.1.trans hr) (e_rq hq a hP hD hS) (fun q hq => hS.2.2 q hq) hd C.2.2.2.2.2.2.2.1
theorem e_vret (hr : ret = none) (hd : decode cc pc = .ok (.return_, 1)) (hq : Qa none L h) : E l y cc nL ret R mc ms fx L0 Qa L h mc ms pc lv [] :=
  fun G α0 α A p e s m args below meth c H locs ls C X a hP hD hS hl => W.vret C.1 C.2.1 (C.2.2.1.trans hr) (e_rq (v := none) hq a hP hD hS) (fun q hq => hS.2.2 q hq) hd C.2.2.2.2.2.2.2.1
end

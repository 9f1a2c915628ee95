/-! Making: new objects and arrays, constructors. -/
def zH (h : eH) (i : Nat) : eH := (fun j q => if j = i then 0 else h.1 j q, fun j q => if j = i then 0 else h.2.1 j q, fun j q => if j = i then none else h.2.2 j q)
def nW (L : eL) (s : eS) : eL := (L.1 + 1, fun i => if i = L.1 then s else L.2 i)
def eup (α : Nat → Nat) (n q : Nat) : Nat → Nat := fun i => if i = n then q else α i
def wfR (L : eL) (h : eH) : Prop := L.1 < e_str ∧ ∀ i, i < L.1 → ∀ k j, h.2.2 i k = some j → j < L.1
def okv (n : Nat) : Value → Prop
  | .ref i => i < n ∨ e_str ≤ i
  | _ => True
def okl (n : Nat) (lv : List (Nat × Value)) (st : List Value) : Prop := (∀ q ∈ lv, okv n q.2) ∧ ∀ v ∈ st, okv n v
def e_dv : FieldType → Value
  | .long => .long 0
  | .object _ => .null
  | .array _ => .null
  | _ => .int 0
def e_df (ci : Nat) : Prop := ∀ j, j < e_N ci → defaultValue (e_ty ci j) = e_dv (e_ty ci j)
theorem e_tva {n : Nat} {α α' : Nat → Nat} (ha : ∀ i, i < n ∨ e_str ≤ i → α' i = α i) {v : Value} (hv : okv n v) : e_tv α' v = e_tv α v := by
  cases v <;> first | rfl | (show Value.ref _ = Value.ref _; rw [ha _ hv])
theorem e_sta {n : Nat} {α α' : Nat → Nat} (ha : ∀ i, i < n ∨ e_str ≤ i → α' i = α i) {st : List Value} (hs : ∀ v ∈ st, okv n v) : st.map (e_tv α') = st.map (e_tv α) := List.map_congr_left (fun v hv => e_tva ha (hs v hv))
theorem e_lma {n : Nat} {α α' : Nat → Nat} (ha : ∀ i, i < n ∨ e_str ≤ i → α' i = α i) {lv : List (Nat × Value)} (hs : ∀ q ∈ lv, okv n q.2) : e_lm α' lv = e_lm α lv := List.map_congr_left (fun q hq => by rw [e_tva ha (hs q hq)])
theorem e_X.ag {α α' : Nat → Nat} {A : Nat → Prop} {s : State} (ha : ∀ i, e_str ≤ i → α' i = α i) (h : e_X α A s) : e_X α' A s := by
  obtain ⟨h1, ⟨h2, h3⟩, h4, h5, h6⟩ := h
  have e1 : α' e_ris = α e_ris := ha _ (by decide)
  have e2 : (fun i => α' (e_str + i)) = fun i => α (e_str + i) := funext fun i => ha _ (Nat.le_add_right _ _)
  have e3 : (fun i => α' (e_svl + i)) = fun i => α (e_svl + i) := funext fun i => ha _ (by unfold e_str e_svl; omega)
  refine ⟨h1, ⟨by rw [e1]; exact h2, by rw [e1]; exact h3⟩, by rw [e2, e3]; exact h4, fun q hq => ?_, h6⟩
  obtain ⟨tx, hz⟩ := h5 q hq
  exact ⟨tx, by rw [ha _ (Nat.le_add_right _ _)]; exact hz⟩
theorem e_entn {G : eG} {α : Nat → Nat} {L : eL} {h : eH} {s : eS} {q i : Nat} (hw : wfR L h) (hi : i < L.1) : e_ent G (eup α L.1 q) (nW L s) (zH h L.1) i = e_ent G α L h i := by
  have hne : i ≠ L.1 := Nat.ne_of_lt hi
  have hr : ∀ k, Option.map (eup α L.1 q) (h.2.2 i k) = Option.map α (h.2.2 i k) := fun k => by
    cases hk : h.2.2 i k with
    | none => rfl
    | some j =>
      have := hw.2 i hi k j hk
      simp [eup, Nat.ne_of_lt this]
  have h1 : (zH h L.1).1 i = h.1 i := by funext k; simp [zH, hne]
  have h2 : (zH h L.1).2.1 i = h.2.1 i := by funext k; simp [zH, hne]
  have h3 : (zH h L.1).2.2 i = h.2.2 i := by funext k; simp [zH, hne]
  have hf : ∀ ci, e_fs (eup α L.1 q) (zH h L.1) i ci = e_fs α h i ci := fun ci => by
    simp only [e_fs]
    refine List.map_congr_left (fun k _ => ?_)
    cases e_ty ci k <;> simp [e_fv, h1, h2, h3, hr]
  have hL : (nW L s).2 i = L.2 i := by simp [nW, hne]
  unfold e_ent
  rw [hL]
  split
  · rw [hf]
  · unfold e_arr
    split <;> simp [h1, h2, h3, hr]
theorem e_push {G : eG} {α : Nat → Nat} {L : eL} {h : eH} {s : eS} {q : Nat} (hw : wfR L h) : e_ws G (eup α L.1 q) (nW L s) (zH h L.1) = e_ws G α L h ++ [(q, e_ent G (eup α L.1 q) (nW L s) (zH h L.1) L.1)] := by
  unfold e_ws
  show (List.range (L.1 + 1)).map _ = _
  rw [List.range_succ, List.map_append]
  congr 1
  · refine List.map_congr_left (fun i hi => ?_)
    have hi : i < L.1 := List.mem_range.mp hi
    rw [e_entn hw hi]
    simp [eup, Nat.ne_of_lt hi]
  · simp [eup]
theorem e_entO {G : eG} {α α' : Nat → Nat} {L : eL} {h : eH} {ci : Nat} : e_ent G α (nW L (.inl ci)) (zH h L.1) L.1 = .inr (ci, e_fs α' (zH h L.1) L.1 ci) := by
  have : (nW L (.inl ci)).2 L.1 = .inl ci := by simp [nW]
  unfold e_ent
  rw [this]
  simp only [e_fs]
  congr 2
  refine List.map_congr_left (fun k _ => ?_)
  cases e_ty ci k <;> simp [e_fv, zH]
theorem e_entA {G : eG} {α : Nat → Nat} {L : eL} {h : eH} {t n : Nat} : e_ent G α (nW L (.inr (t, n))) (zH h L.1) L.1 = e_arr G α (zH h L.1) L.1 t n := by
  have : (nW L (.inr (t, n))).2 L.1 = .inr (t, n) := by simp [nW]
  unfold e_ent
  rw [this]
theorem e_cAeq {G : eG} {cA : ClassId} {ty : FieldType} {s : State} {t : Nat} (hK : va_K (e_D G) vwCl (e_tys G) s) (hK1 : va_K (e_D G) vwCl (e_tys G ++ [(cA, ty)]) s) (ht : (e_tys G)[t]? = some (G.2.2 t, ty)) : cA = G.2.2 t := by
  have h1 := (hK.2 t _ ht).2
  have h2 := (hK1.2 4 (cA, ty) rfl).2
  cases ty with
  | object C =>
    obtain ⟨_, _, _, _, _, a1⟩ := h1
    obtain ⟨_, _, _, _, _, a2⟩ := h2
    exact Option.some.inj (a2.symm.trans a1)
  | _ => exact Option.some.inj (Eq.trans (Eq.symm h2) h1)
theorem e_agn {L0 L : eL} {α0 α : Nat → Nat} {s : eS} {q : Nat} (hL : L0.1 ≤ L.1) (hw : L.1 < e_str) (a : e_ag false L0 α0 L α) : e_ag false L0 α0 (nW L s) (eup α L.1 q) := by
  refine ⟨fun (z : false = true) => absurd z (by decide), fun i hi => ?_⟩
  rw [← a.2 i hi]
  have : i ≠ L.1 := by rcases hi with h | h <;> omega
  simp [eup, this]
theorem e_upa {L : eL} {α : Nat → Nat} {q : Nat} (hw : L.1 < e_str) : ∀ i, i < L.1 ∨ e_str ≤ i → eup α L.1 q i = α i := by
  intro i hi
  have : i ≠ L.1 := by rcases hi with h | h <;> omega
  simp [eup, this]
section
variable {l : Launch} {y : MethodName} {cc : ByteArray} {nL : Nat} {ret : Option FieldType} {R : Room} {mc ms : Nat} {L0 : eL} {Qa : Option Value → eL → eH → Prop} {L : eL} {h : eH} {k n pc : Nat} {lv : List (Nat × Value)} {st : List Value}
theorem e_new {ci ix : Nat} (hci : ci < 12) (hdf : e_df ci) (hcl : Cond.classLink y.cls ix (e_R ci) ∈ e_gw) (hinst : Cond.instantiable (e_R ci) (e_N ci) ∈ e_gw) (hini : Cond.initialized (e_R ci) ∈ e_gw) (hwf : wfR L h) (hL : L0.1 ≤ L.1) (hok : okl L.1 lv st) (hR : k + 1 ≤ R.cells ∧ n + e_N ci ≤ R.slots) (hd : decode cc pc = .ok (.new ix, 3)) (kk : E l y cc nL ret R mc ms false L0 Qa (nW L (.inl ci)) (zH h L.1) (k + 1) (n + e_N ci) (pc + 3) lv (.ref L.1 :: st)) : E l y cc nL ret R mc ms false L0 Qa L h k n pc lv st := by
  intro G α0 α A p e s m args below meth c H locs ls C X a hP hD hS hl
  obtain ⟨h1, h2, h3, h4⟩ := e_cl ci hci
  have hts := C.2.2.2.2.2.2.1
  refine va_new (ci := ci) (fs := e_fs α (zH h L.1) L.1 ci) C.1 C.2.1 hts h2 (e_ty ci) h3 C.2.2.2.2.1 (hts _ hcl) (hts _ hinst) (hts _ hini) C.2.2.2.2.2.2.2.2.1 hP hD hS C.2.2.2.2.2.2.2.2.2 h1 (fun j hj => ?_) hR.1 hR.2 hd (fun q H1 hP1 hD1 hS1 => ?_)
  · rw [hdf j hj]
    simp only [vp_V, List.getD_eq_getElem?_getD, e_fs_get hj, Option.getD_some]
    cases e_ty ci j <;> simp [e_fv, e_dv, zH, va_rf]
  · have ha := e_upa (L := L) (α := α) (q := q) hwf.1
    have e1 := e_push (G := G) (α := α) (L := L) (h := h) (s := .inl ci) (q := q) hwf
    rw [e_entO (α' := α)] at e1
    rw [← e1] at hP1 hD1
    have := kk G α0 (eup α L.1 q) A p e s m args below meth c H1 locs ls C (X.ag (fun i hi => ha i (Or.inr hi))) (e_agn hL hwf.1 a) hP1 hD1 hS1 (by rw [e_lma ha hok.1]; exact hl)
    rw [List.map_cons, e_sta ha hok.2] at this
    simpa [e_tv, eup] using this
theorem e_newA {at' : ArrayType} {ty : FieldType} {t : Nat} {z : Int32} {N : Nat} (hty : newarray.typeOf at' = ty) (ht : ∀ G : eG, (e_tys G)[t]? = some (G.2.2 t, ty)) (harr : Cond.arrayClass (newarray.typeOf at') ∈ e_gw) (a0 : vp_A) (ha0 : ∀ cA : ClassId, vp_cell cA a0 = arrV cA N (fun _ => defaultValue ty)) (hea : ∀ (G : eG) (α : Nat → Nat), e_arr G α (zH h L.1) L.1 t N = .inl (G.2.2 t, a0)) (hn : ¬ z < 0) (hN : z.toNatClampNeg = N) (hb : N * componentBytes ty ≤ 536870912) (hwf : wfR L h) (hL : L0.1 ≤ L.1) (hok : okl L.1 lv st) (hR : k + 1 ≤ R.cells ∧ n + N ≤ R.slots) (hd : decode cc pc = .ok (.newarray at', 2)) (kk : E l y cc nL ret R mc ms false L0 Qa (nW L (.inr (t, N))) (zH h L.1) (k + 1) (n + N) (pc + 2) lv (.ref L.1 :: st)) : E l y cc nL ret R mc ms false L0 Qa L h k n pc lv (.int z :: st) := by
  intro G α0 α A p e s m args below meth c H locs ls C X a hP hD hS hl
  have hts := C.2.2.2.2.2.2.1
  refine va_newa C.1 C.2.1 (hts _ harr) hty C.2.2.2.2.2.2.2.2.1 hP hD hS C.2.2.2.2.2.2.2.2.2 ha0 hn hN hb hR.1 hR.2 hd (fun q cA H1 hK1 hP1 hD1 hS1 => ?_)
  have hcA := e_cAeq C.2.2.2.2.2.2.2.2.1 hK1 (ht G)
  subst hcA
  have ha := e_upa (L := L) (α := α) (q := q) hwf.1
  have e1 := e_push (G := G) (α := α) (L := L) (h := h) (s := .inr (t, N)) (q := q) hwf
  rw [e_entA, hea] at e1
  rw [← e1] at hP1 hD1
  have := kk G α0 (eup α L.1 q) A p e s m args below meth c H1 locs ls C (X.ag (fun i hi => ha i (Or.inr hi))) (e_agn hL hwf.1 a) hP1 hD1 hS1 (by rw [e_lma ha hok.1]; exact hl)
  rw [List.map_cons, e_sta ha hok.2] at this
  simpa [e_tv, eup] using this
theorem e_newS {ix : Nat} {z : Int32} {N : Nat} (hcl : Cond.classLink y.cls ix "UnderTheSofa$State" ∈ e_gw) (hn : ¬ z < 0) (hN : z.toNatClampNeg = N) (hb : N * 4 ≤ 536870912) (hwf : wfR L h) (hL : L0.1 ≤ L.1) (hok : okl L.1 lv st) (hR : k + 1 ≤ R.cells ∧ n + N ≤ R.slots) (hd : decode cc pc = .ok (.anewarray ix, 3)) (kk : E l y cc nL ret R mc ms false L0 Qa (nW L (.inr (3, N))) (zH h L.1) (k + 1) (n + N) (pc + 3) lv (.ref L.1 :: st)) : E l y cc nL ret R mc ms false L0 Qa L h k n pc lv (.int z :: st) := by
  intro G α0 α A p e s m args below meth c H locs ls C X a hP hD hS hl
  have hts := C.2.2.2.2.2.2.1
  refine va_newq C.1 C.2.1 C.2.2.2.2.1 (hts _ hcl) X.2.2.2.2.2.2.2.2 C.2.2.2.2.2.2.2.2.1 hP hD hS C.2.2.2.2.2.2.2.2.2 hn hN hb hR.1 hR.2 hd (fun q cA H1 hK1 hP1 hD1 hS1 => ?_)
  have hcA := e_cAeq (t := 3) C.2.2.2.2.2.2.2.2.1 hK1 rfl
  subst hcA
  have ha := e_upa (L := L) (α := α) (q := q) hwf.1
  have e1 := e_push (G := G) (α := α) (L := L) (h := h) (s := .inr (3, N)) (q := q) hwf
  have e2 : e_arr G (eup α L.1 q) (zH h L.1) L.1 3 N = .inl (G.2.2 3, N, .inr (.inr (.inr (.inr (fun _ => none))))) := by
    show Sum.inl (G.2.2 3, N, _) = _
    congr 8
    funext k
    simp [zH]
  rw [e_entA, e2] at e1
  rw [← e1] at hP1 hD1
  have := kk G α0 (eup α L.1 q) A p e s m args below meth c H1 locs ls C (X.ag (fun i hi => ha i (Or.inr hi))) (e_agn hL hwf.1 a) hP1 hD1 hS1 (by rw [e_lma ha hok.1]; exact hl)
  rw [List.map_cons, e_sta ha hok.2] at this
  simpa [e_tv, eup] using this
theorem e_putF {i ci f ix b : Nat} {fx : Bool} (hO : isO L i ci = true) (hF : (ci < 12 ∧ f < e_N ci) ∧ ((∃ c, e_ty ci f = .object c) ∨ ∃ c, e_ty ci f = .array c)) (hfin : (e_T ci f).2.2.2 = true) (hin : y.name = "<init>") (hdc : (e_T ci f).1 = y.cls) (hw : e_lk y.cls ix ci f) (hd : decode cc pc = .ok (.putfield ix, 3)) (kk : E l y cc nL ret R mc ms fx L0 Qa L (sR h i f (some b)) k n (pc + 3) lv st) : E l y cc nL ret R mc ms fx L0 Qa L h k n pc lv (.ref b :: .ref i :: st) := by
  intro G α0 α A p e s m args below meth c H locs ls C X a hP hD hS hl
  obtain ⟨h1, h2, h3, h4⟩ := e_cl ci hF.1.1
  refine va_putF (v := va_rf ((some b).map α)) C.1 C.2.1 C.2.2.2.2.2.2.1 h2 (e_ty ci) h3 h4 C.2.2.2.2.1 C.2.2.2.2.2.2.2.2.1 hP hD hS i (e_ws_O hO) h1 f hF.1.2 (C.2.2.2.2.2.2.1 _ hw) (fun _ q => q) hfin (C.2.2.2.2.2.1.trans hin) hdc (h3 f hF.1.2) (by rcases hF.2 with ⟨c, q⟩ | ⟨c, q⟩ <;> rw [q] <;> rfl) (by rcases hF.2 with ⟨c, q⟩ | ⟨c, q⟩ <;> rw [q] <;> rfl) (by simp [e_fs, hF.1.2]) hd (fun H1 locs1 hP hD hS => ?_)
  rw [e_set_fR hO hF.2] at hP hD
  exact kk G α0 α A p e s m args below meth c H1 locs1 ls C X a hP hD hS hl
theorem e_rast {b v : Nat} {i : Int32} {fx : Bool} (hi : inA L b 3 i = true) (hO : isO L v 6 = true) (hd : decode cc pc = .ok (.aastore, 1)) (kk : E l y cc nL ret R mc ms fx L0 Qa L (sR h b i.toNatClampNeg (some v)) k n (pc + 1) lv st) : E l y cc nL ret R mc ms fx L0 Qa L h k n pc lv (.ref v :: .int i :: .ref b :: st) := by
  intro G α0 α A p e s m args below meth c H locs ls C X a hP hD hS hl
  obtain ⟨z, h1, h2⟩ := inA_spec hi
  obtain ⟨g1, -⟩ := e_cl 6 (by decide)
  refine va_astq C.1 C.2.1 C.2.2.2.2.2.2.2.2.1 hP hD hS b 3 v 6 (r := (e_R 6, e_T 6, e_N 6)) (e_ws_A h1) rfl (e_ws_O hO) g1 h2 hd (fun H1 locs1 hP1 hD1 hS1 => ?_)
  have e1 : (e_ws G α L h).set b (α b, .inl (G.2.2 3, z, .inr (.inr (.inr (.inr (va_up (fun k => (h.2.2 b k).map α) i.toNatClampNeg (some (α v)))))))) = e_ws G α L (sR h b i.toNatClampNeg (some v)) := by
    simp only [isA, Bool.and_eq_true, decide_eq_true_eq] at h1
    refine e_ws_set ?_ (fun j hj => e_ent_ext rfl rfl (sR_o hj))
    simp only [e_ent, h1.2, e_arr]
    congr 8
    funext k
    by_cases hk : k = i.toNatClampNeg <;> simp [va_up, sR, hk]
  rw [e1] at hP1 hD1
  exact kk G α0 α A p e s m args below meth c H1 locs1 ls C X a hP1 hD1 hS1 hl
end
section
variable {l : Launch} {y : MethodName} {cc : ByteArray} {nL : Nat} {ret : Option FieldType} {d mc ms : Nat} {L0 : eL} {Qa : Option Value → eL → eH → Prop} {L : eL} {h : eH} {k n pc : Nat} {lv : List (Nat × Value)} {st : List Value}
variable {y' : MethodName} {cc' : ByteArray} {nL' n' ix b mc' ms' : Nat} {As sk : List Value} {L1 : eL} {h1 : eH}
theorem e_oinit {fx : Bool} (hw : Cond.methodLink y.cls ix Lib.objectInit ∈ e_gw) (hi : Cond.instanceMethod Lib.objectInit ∈ e_gw) (hc : Cond.code Lib.objectInit ⟨#[0xb1]⟩ 1 none ∈ e_gw) (hR : 1 ≤ d) (h8 : (st.map fun v => v.category).sum ≤ 8) (hd : decode cc pc = .ok (.invokespecial ix, 3)) (kk : E l y cc nL ret (e_rm d mc ms) mc ms fx L0 Qa L h k n (pc + 3) lv st) : E l y cc nL ret (e_rm d mc ms) mc ms fx L0 Qa L h k n pc lv (.ref b :: st) := by
  intro G α0 α A p e s m args below meth c H locs ls C X a hP hD hS hl
  have hts := C.2.2.2.2.2.2.1
  exact W.objInit C.1 C.2.1 C.2.2.2.2.1 (hts _ hw) (hts _ hi) (hts _ hc) rfl (hl.1.trans C.2.2.2.1.symm) rfl hd hR (by rw [e_cats]; simp only [e_rm, JFrame.monitorRoom]; simp; omega) (kk G α0 α A p e s m args below meth c H locs ls C X a hP hD hS hl)
theorem e_agt {L0 L L' : eL} {α0 α α' : Nat → Nat} (hL : L0.1 ≤ L.1) (a : e_ag false L0 α0 L α) (b : ∀ i, i < L.1 ∨ e_str ≤ i → α' i = α i) : e_ag false L0 α0 L' α' := by
  refine ⟨fun (z : false = true) => absurd z (by decide), fun i hi => ?_⟩
  rw [← a.2 i hi]
  exact b i (by rcases hi with h | h <;> omega)
theorem e_callI (hw : Cond.methodLink y.cls ix y' ∈ e_gw) (hV : e_cI y' cc' nL' n') (hM : e_Met l y' cc' nL' none (d - 1) mc' ms' false L h (.ref b :: As) (Qx none L1 h1)) (hL : L0.1 ≤ L.1) (hok : okl L.1 lv st) (hn : As.length = n') (hs : sk = As.reverse ++ .ref b :: st) (h8 : (st.map fun v => v.category).sum ≤ 8) (hR : 1 ≤ d ∧ nL' ≤ 45) (hk : k + mc' ≤ mc ∧ n + ms' ≤ ms) (hd : decode cc pc = .ok (.invokespecial ix, 3)) (kk : E l y cc nL ret (e_rm d mc ms) mc ms false L0 Qa L1 h1 (k + mc') (n + ms') (pc + 3) lv st) : E l y cc nL ret (e_rm d mc ms) mc ms false L0 Qa L h k n pc lv sk := by
  intro G α0 α A p e s m args below meth c H locs ls C X a hP hD hS hl
  obtain ⟨⟨w1, w2⟩, w3, w4, w5⟩ := hV
  have hts := C.2.2.2.2.2.2.1
  have hrun := va_runI (R := e_rm d mc ms) (locs := locs) (cells := k) (slots := n) (As := As.map (e_tv α)) (rest := st.map (e_tv α)) (b := α b) (n := n') (index := ix) (g := F0 m pc ls (sk.map (e_tv α))) (e := e) (below := below) (meth := meth) ⟨C.1, C.2.1, C.2.2.2.1, C.2.2.2.2.1, hts⟩ (hM G α A)
    ⟨callB_of n' hts (e_good w4) rfl rfl rfl (hts _ w3) (hts _ hw) w5 (by simp only [e_rm]; omega), w2, hts _ w1⟩
    ⟨e_blind, fun U hU hW => e_pre (as := .ref b :: As) C.2.2.2.2.2.2.2.2.1 C.2.2.2.2.2.2.2.2.2 X hP hD hS U hU hW⟩
    rfl (by rw [List.length_map]; exact hn) hl.1 (by subst hs; simp [e_tv]) (by rw [e_cats]; simpa [JFrame.monitorRoom] using h8) hd ⟨hk.1, hk.2⟩
  refine e_cont hrun hS (fun v' α' L' h' H1 locs1 hq hag hP1 hD1 hS1 => ?_)
  obtain ⟨rfl, rfl, rfl⟩ := hq
  have := kk G α0 α' A p e s m args below meth c H1 locs1 ls C (X.ag (fun i hi => hag.2 i (Or.inr hi))) (e_agt hL a hag.2) hP1 hD1 hS1 (by rw [e_lma hag.2 hok.1]; exact hl)
  rw [e_sta hag.2 hok.2] at this
  exact this
theorem e_callIN {host : String} (hw : Cond.methodLinkNest y.cls ix y' host ∈ e_nw) (hV : e_cI y' cc' nL' n') (hM : e_Met l y' cc' nL' none (d - 1) mc' ms' false L h (.ref b :: As) (Qx none L1 h1)) (hL : L0.1 ≤ L.1) (hok : okl L.1 lv st) (hn : As.length = n') (hs : sk = As.reverse ++ .ref b :: st) (h8 : (st.map fun v => v.category).sum ≤ 8) (hR : 1 ≤ d ∧ nL' ≤ 45) (hk : k + mc' ≤ mc ∧ n + ms' ≤ ms) (hd : decode cc pc = .ok (.invokespecial ix, 3)) (kk : E l y cc nL ret (e_rm d mc ms) mc ms false L0 Qa L1 h1 (k + mc') (n + ms') (pc + 3) lv st) : E l y cc nL ret (e_rm d mc ms) mc ms false L0 Qa L h k n pc lv sk := by
  intro G α0 α A p e s m args below meth c H locs ls C X a hP hD hS hl
  obtain ⟨⟨w1, w2⟩, w3, w4, w5⟩ := hV
  have hts := C.2.2.2.2.2.2.1
  have hrun := va_runIN (R := e_rm d mc ms) (locs := locs) (cells := k) (slots := n) (As := As.map (e_tv α)) (rest := st.map (e_tv α)) (b := α b) (n := n') (index := ix) (g := F0 m pc ls (sk.map (e_tv α))) (e := e) (below := below) (meth := meth) ⟨C.1, C.2.1, C.2.2.2.1, C.2.2.2.2.1, hts⟩ (hM G α A)
    ⟨va_cnB n' hts (e_good w4) rfl rfl rfl (X.1 _ hw) (hts _ w3) w5 (by simp only [e_rm]; omega), w2, hts _ w1⟩
    ⟨e_blind, fun U hU hW => e_pre (as := .ref b :: As) C.2.2.2.2.2.2.2.2.1 C.2.2.2.2.2.2.2.2.2 X hP hD hS U hU hW⟩
    rfl (by rw [List.length_map]; exact hn) hl.1 (by subst hs; simp [e_tv]) (by rw [e_cats]; simpa [JFrame.monitorRoom] using h8) hd ⟨hk.1, hk.2⟩
  refine e_cont hrun hS (fun v' α' L' h' H1 locs1 hq hag hP1 hD1 hS1 => ?_)
  obtain ⟨rfl, rfl, rfl⟩ := hq
  have := kk G α0 α' A p e s m args below meth c H1 locs1 ls C (X.ag (fun i hi => hag.2 i (Or.inr hi))) (e_agt hL a hag.2) hP1 hD1 hS1 (by rw [e_lma hag.2 hok.1]; exact hl)
  rw [e_sta hag.2 hok.2] at this
  exact this
end
/-! small rows for making -/
theorem isO_lt {L : eL} {i ci : Nat} (h : isO L i ci = true) : i < L.1 := by
  simp only [isO, Bool.and_eq_true, decide_eq_true_eq] at h; exact h.1
theorem isO_n {L : eL} {i ci : Nat} {s : eS} (h : isO L i ci = true) : isO (nW L s) i ci = true := by
  have h1 := isO_lt h
  simp only [isO, Bool.and_eq_true, decide_eq_true_eq] at h ⊢
  have hne : i ≠ L.1 := by omega
  refine ⟨?_, ?_⟩
  · show i < L.1 + 1
    omega
  · show (if i = L.1 then s else L.2 i) = .inl ci
    rw [if_neg hne]
    exact h.2
theorem wf_n {L : eL} {h : eH} {s : eS} (hw : wfR L h) (hb : L.1 + 1 < e_str) : wfR (nW L s) (zH h L.1) := by
  refine ⟨hb, fun i hi k j hj => ?_⟩
  by_cases he : i = L.1
  · simp [zH, he] at hj
  · simp only [zH, if_neg he] at hj
    have hi : i < L.1 + 1 := hi
    have := hw.2 i (by omega) k j hj
    show j < L.1 + 1
    omega
theorem wf_sI {L : eL} {h : eH} {i k : Nat} {v : Int32} (hw : wfR L h) : wfR L (sI h i k v) := hw
theorem wf_sL {L : eL} {h : eH} {i k : Nat} {v : Int64} (hw : wfR L h) : wfR L (sL h i k v) := hw
theorem wf_sR {L : eL} {h : eH} {i k j : Nat} (hw : wfR L h) (hj : j < L.1) : wfR L (sR h i k (some j)) := by
  refine ⟨hw.1, fun a ha q b hb => ?_⟩
  simp only [sR] at hb
  split at hb
  · cases hb; exact hj
  · exact hw.2 a ha q b hb
theorem wf_sU {L : eL} {h : eH} {i k : Nat} (hw : wfR L h) : wfR L (sR h i k none) := by
  refine ⟨hw.1, fun a ha q b hb => ?_⟩
  simp only [sR] at hb
  split at hb
  · cases hb
  · exact hw.2 a ha q b hb
theorem okl1 {n i : Nat} (h : i < n) : okl n [(0, .ref i)] [.ref i] := ⟨fun q hq => by rw [List.mem_singleton.mp hq]; exact Or.inl h, fun v hv => by rw [List.mem_singleton.mp hv]; exact Or.inl h⟩
def okb (n : Nat) : Value → Bool
  | .ref i => decide (i < n)
  | _ => true
theorem okl_b {n : Nat} {lv : List (Nat × Value)} {st : List Value} (h : (lv.all (fun q => okb n q.2) && st.all (okb n)) = true) : okl n lv st := by
  simp only [Bool.and_eq_true, List.all_eq_true] at h
  have hv : ∀ v, okb n v = true → okv n v := fun v hv => by
    cases v <;> first | trivial | exact Or.inl (by simpa [okb] using hv)
  exact ⟨fun q hq => hv _ (h.1 q hq), fun v hq => hv _ (h.2 v hq)⟩
theorem e_df0 : ∀ ci, ci < 12 → e_df ci := by
  have h : ∀ ci, ci < 12 → ∀ j, j < e_N ci → defaultValue (e_ty ci j) = e_dv (e_ty ci j) := by
    intro ci hci
    match ci, hci with
    | 0, _ => decide +kernel
    | 1, _ => decide +kernel
    | 2, _ => decide +kernel
    | 3, _ => decide +kernel
    | 4, _ => decide +kernel
    | 5, _ => decide +kernel
    | 6, _ => decide +kernel
    | 7, _ => decide +kernel
    | 8, _ => decide +kernel
    | 9, _ => decide +kernel
    | 10, _ => decide +kernel
    | 11, _ => decide +kernel
  exact h
section
variable {l : Launch} {y : MethodName} {cc : ByteArray} {nL : Nat} {ret : Option FieldType} {R : Room} {mc ms : Nat} {L0 : eL} {Qa : Option Value → eL → eH → Prop} {L : eL} {h : eH} {k n pc : Nat} {lv : List (Nat × Value)} {st : List Value}
theorem e_newI {z : Int32} {N : Nat} (harr : Cond.arrayClass .int ∈ e_gw) (hn : ¬ z < 0) (hN : z.toNatClampNeg = N) (hb : N ≤ 100000) (hwf : wfR L h) (hL : L0.1 ≤ L.1) (hok : okl L.1 lv st) (hR : k + 1 ≤ R.cells ∧ n + N ≤ R.slots) (hd : decode cc pc = .ok (.newarray .int, 2)) (kk : E l y cc nL ret R mc ms false L0 Qa (nW L (.inr (0, N))) (zH h L.1) (k + 1) (n + N) (pc + 2) lv (.ref L.1 :: st)) : E l y cc nL ret R mc ms false L0 Qa L h k n pc lv (.int z :: st) :=
  e_newA (at' := .int) (t := 0) rfl (fun _ => rfl) harr (N, .inl (fun _ => 0)) (fun _ => rfl) (fun G α => by simp [e_arr, zH]) hn hN (by show N * 4 ≤ 536870912; omega) hwf hL hok hR hd kk
theorem e_newJ {z : Int32} {N : Nat} (harr : Cond.arrayClass .long ∈ e_gw) (hn : ¬ z < 0) (hN : z.toNatClampNeg = N) (hb : N ≤ 100000) (hwf : wfR L h) (hL : L0.1 ≤ L.1) (hok : okl L.1 lv st) (hR : k + 1 ≤ R.cells ∧ n + N ≤ R.slots) (hd : decode cc pc = .ok (.newarray .long, 2)) (kk : E l y cc nL ret R mc ms false L0 Qa (nW L (.inr (1, N))) (zH h L.1) (k + 1) (n + N) (pc + 2) lv (.ref L.1 :: st)) : E l y cc nL ret R mc ms false L0 Qa L h k n pc lv (.int z :: st) :=
  e_newA (at' := .long) (t := 1) rfl (fun _ => rfl) harr (N, .inr (.inl (fun _ => 0))) (fun _ => rfl) (fun G α => by simp [e_arr, zH]) hn hN (by show N * 8 ≤ 536870912; omega) hwf hL hok hR hd kk
theorem e_newZ {z : Int32} {N : Nat} (harr : Cond.arrayClass .boolean ∈ e_gw) (hn : ¬ z < 0) (hN : z.toNatClampNeg = N) (hb : N ≤ 100000) (hwf : wfR L h) (hL : L0.1 ≤ L.1) (hok : okl L.1 lv st) (hR : k + 1 ≤ R.cells ∧ n + N ≤ R.slots) (hd : decode cc pc = .ok (.newarray .boolean, 2)) (kk : E l y cc nL ret R mc ms false L0 Qa (nW L (.inr (2, N))) (zH h L.1) (k + 1) (n + N) (pc + 2) lv (.ref L.1 :: st)) : E l y cc nL ret R mc ms false L0 Qa L h k n pc lv (.int z :: st) :=
  e_newA (at' := .boolean) (t := 2) rfl (fun _ => rfl) harr (N, .inl (fun _ => 0)) (fun _ => rfl) (fun G α => by simp [e_arr, zH]) hn hN (by show N * 1 ≤ 536870912; omega) hwf hL hok hR hd kk
theorem e_putU {i ci f ix : Nat} {fx : Bool} (hO : isO L i ci = true) (hF : (ci < 12 ∧ f < e_N ci) ∧ ((∃ c, e_ty ci f = .object c) ∨ ∃ c, e_ty ci f = .array c)) (hfin : (e_T ci f).2.2.2 = false) (hw : e_lk y.cls ix ci f) (hd : decode cc pc = .ok (.putfield ix, 3)) (kk : E l y cc nL ret R mc ms fx L0 Qa L (sR h i f none) k n (pc + 3) lv st) : E l y cc nL ret R mc ms fx L0 Qa L h k n pc lv (.null :: .ref i :: st) := by
  intro G α0 α A p e s m args below meth c H locs ls C X a hP hD hS hl
  obtain ⟨h1, h2, h3, h4⟩ := e_cl ci hF.1.1
  refine va_put (v := va_rf ((none : Option Nat).map α)) C.1 C.2.1 C.2.2.2.2.2.2.1 h2 (e_ty ci) h3 h4 C.2.2.2.2.1 C.2.2.2.2.2.2.2.2.1 hP hD hS i (e_ws_O hO) h1 f hF.1.2 (C.2.2.2.2.2.2.1 _ hw) (fun _ q => q) hfin (h3 f hF.1.2) (by rcases hF.2 with ⟨c, q⟩ | ⟨c, q⟩ <;> rw [q] <;> rfl) (by rcases hF.2 with ⟨c, q⟩ | ⟨c, q⟩ <;> rw [q] <;> rfl) (by simp [e_fs, hF.1.2]) hd (fun H1 locs1 hP hD hS => ?_)
  rw [e_set_fR hO hF.2] at hP hD
  exact kk G α0 α A p e s m args below meth c H1 locs1 ls C X a hP hD hS hl
theorem e_ren {fx : Bool} {L' : eL} {h' : eH} {lv' : List (Nat × Value)} {st' : List Value} (hL : L = L') (hh : h = h') (hlv : lv = lv') (hst : st = st') (kk : E l y cc nL ret R mc ms fx L0 Qa L' h' k n pc lv' st') : E l y cc nL ret R mc ms fx L0 Qa L h k n pc lv st := by
  subst hL; subst hh; subst hlv; subst hst; exact kk
end

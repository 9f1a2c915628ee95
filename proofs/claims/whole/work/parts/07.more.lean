/-! Rules for switches, array lengths, copies of arrays, the static array, strings. -/
def isArr (L : eL) (a : Nat) : Bool := decide (a < L.1) && (match L.2 a with
  | .inr _ => true
  | .inl _ => false)
def alen (L : eL) (a : Nat) : Int32 := match L.2 a with
  | .inr (_, n) => Int32.ofNat n
  | .inl _ => 0
theorem isArr_spec {L : eL} {a : Nat} (h : isArr L a = true) : ∃ t n, isA L a t n = true ∧ Int32.ofNat n = alen L a := by
  unfold isArr at h
  unfold alen
  split at h
  · rename_i q he
    obtain ⟨t, n⟩ := q
    simp only [Bool.and_eq_true, decide_eq_true_eq] at h
    exact ⟨t, n, by simp [isA, h.1, he], by simp [he]⟩
  · simp at h
/-- a copy of n entries from a at sp to b at dp can be done -/
def cpOK (L : eL) (a b t : Nat) (sp dp n : Int32) : Bool := decide (a < L.1) && decide (b < L.1) && !(decide (sp < 0)) && !(decide (dp < 0)) && !(decide (n < 0)) && (match L.2 a, L.2 b with
  | .inr (t1, n1), .inr (t2, n2) => decide (t1 = t) && decide (t2 = t) && decide (sp.toNatClampNeg + n.toNatClampNeg ≤ n1) && decide (dp.toNatClampNeg + n.toNatClampNeg ≤ n2)
  | _, _ => false)
theorem cpOK_spec {L : eL} {a b t : Nat} {sp dp n : Int32} (h : cpOK L a b t sp dp n = true) : ∃ n1 n2, isA L a t n1 = true ∧ isA L b t n2 = true ∧ ¬ sp < 0 ∧ ¬ dp < 0 ∧ ¬ n < 0 ∧ sp.toNatClampNeg + n.toNatClampNeg ≤ n1 ∧ dp.toNatClampNeg + n.toNatClampNeg ≤ n2 := by
  unfold cpOK at h
  split at h
  · rename_i t1 n1 t2 n2 e1 e2
    simp only [Bool.and_eq_true, decide_eq_true_eq, Bool.not_eq_true', decide_eq_false_iff_not] at h
    obtain ⟨⟨⟨⟨⟨h1, h2⟩, h3⟩, h4⟩, h5⟩, ⟨⟨h6, h7⟩, h8⟩, h9⟩ := h
    subst h6
    subst h7
    exact ⟨n1, n2, by simp [isA, h1, e1], by simp [isA, h2, e2], h3, h4, h5, h8, h9⟩
  · simp at h
def cpI (h : eH) (a b : Nat) (sp dp n : Int32) : eH := (fun j q => if j = b then va_cpy (h.1 a) (h.1 b) sp.toNatClampNeg dp.toNatClampNeg n.toNatClampNeg q else h.1 j q, h.2.1, h.2.2)
def cpL (h : eH) (a b : Nat) (sp dp n : Int32) : eH := (h.1, fun j q => if j = b then va_cpy (h.2.1 a) (h.2.1 b) sp.toNatClampNeg dp.toNatClampNeg n.toNatClampNeg q else h.2.1 j q, h.2.2)
theorem e_set_cI {G : eG} {α : Nat → Nat} {L : eL} {h : eH} {a b z : Nat} {sp dp n : Int32} (hi : isA L b 0 z = true) : (e_ws G α L h).set b (α b, .inl (G.2.2 0, z, .inl (va_cpy (h.1 a) (h.1 b) sp.toNatClampNeg dp.toNatClampNeg n.toNatClampNeg))) = e_ws G α L (cpI h a b sp dp n) := by
  simp only [isA, Bool.and_eq_true, decide_eq_true_eq] at hi
  refine e_ws_set ?_ (fun j hj => e_ent_ext (by funext q; simp [cpI, hj]) rfl rfl)
  have e1 : (cpI h a b sp dp n).1 b = va_cpy (h.1 a) (h.1 b) sp.toNatClampNeg dp.toNatClampNeg n.toNatClampNeg := by funext q; simp [cpI]
  rw [← e1]; simp [e_ent, hi.2, e_arr]
theorem e_set_cL {G : eG} {α : Nat → Nat} {L : eL} {h : eH} {a b z : Nat} {sp dp n : Int32} (hi : isA L b 1 z = true) : (e_ws G α L h).set b (α b, .inl (G.2.2 1, z, .inr (.inl (va_cpy (h.2.1 a) (h.2.1 b) sp.toNatClampNeg dp.toNatClampNeg n.toNatClampNeg)))) = e_ws G α L (cpL h a b sp dp n) := by
  simp only [isA, Bool.and_eq_true, decide_eq_true_eq] at hi
  refine e_ws_set ?_ (fun j hj => e_ent_ext rfl (by funext q; simp [cpL, hj]) rfl)
  have e1 : (cpL h a b sp dp n).2.1 b = va_cpy (h.2.1 a) (h.2.1 b) sp.toNatClampNeg dp.toNatClampNeg n.toNatClampNeg := by funext q; simp [cpL]
  rw [← e1]; simp [e_ent, hi.2, e_arr]
def e_cop (own : String) (ix : Nat) : Prop := Cond.methodLink own ix arraycopyName ∈ e_gw ∧ Cond.native arraycopyName ∈ e_gw ∧ Cond.static arraycopyName ∈ e_gw ∧ Cond.initialized "java/lang/System" ∈ e_gw
def risv (i : Int32) : Int32 := ([0, 3, 1, 2] : List Int32).getD i.toNatClampNeg 0
theorem e_out {x : Int32} {lo hi : Int} (h : ∀ j : Int, lo ≤ j → j ≤ hi → ¬ x = Int32.ofInt j) : x.toInt < lo ∨ hi < x.toInt := by
  by_cases h1 : x.toInt < lo
  · exact Or.inl h1
  · by_cases h2 : hi < x.toInt
    · exact Or.inr h2
    · exact absurd (by rw [Int32.ofInt_toInt]) (h x.toInt (by omega) (by omega))
theorem e_ine {x : Int32} {j : Int} (h : ¬ x = Int32.ofInt j) : ¬ j = x.toInt := by
  intro q
  exact h (by rw [q, Int32.ofInt_toInt])
section
variable {l : Launch} {y : MethodName} {cc : ByteArray} {nL : Nat} {ret : Option FieldType} {R : Room} {mc ms : Nat} {fx : Bool} {L0 : eL} {Qa : Option Value → eL → eH → Prop} {L : eL} {h : eH} {k n pc : Nat} {lv : List (Nat × Value)} {st : List Value}
theorem e_len {b : Nat} (hA : isArr L b = true) (hd : decode cc pc = .ok (.arraylength, 1)) (kk : E l y cc nL ret R mc ms fx L0 Qa L h k n (pc + 1) lv (.int (alen L b) :: st)) : E l y cc nL ret R mc ms fx L0 Qa L h k n pc lv (.ref b :: st) := by
  obtain ⟨t, z, h1, h2⟩ := isArr_spec hA
  exact e_alen (ty := .int) h1 h2 hd kk
theorem e_tabIn {df lo hi : Int} {offs : Array Int} {ln t : Nat} {x : Int32} {off : Int} (hd : decode cc pc = .ok (.tableswitch df lo hi offs, ln)) (h1 : ¬ x.toInt < lo) (h2 : ¬ hi < x.toInt) (ho : offs[(x.toInt - lo).toNat]? = some off) (ht : (pc : Int) + off = (t : Int)) (kk : E l y cc nL ret R mc ms fx L0 Qa L h k n t lv st) : E l y cc nL ret R mc ms fx L0 Qa L h k n pc lv (.int x :: st) :=
  fun G α0 α A p e s m args below meth c H locs ls C X a hP hD hS hl => lv_tableIn C.1 C.2.1 hd h1 h2 ho ht (kk G α0 α A p e s m args below meth c H locs ls C X a hP hD hS hl)
theorem e_tabOut {df lo hi : Int} {offs : Array Int} {ln t : Nat} {x : Int32} (hd : decode cc pc = .ok (.tableswitch df lo hi offs, ln)) (h1 : x.toInt < lo ∨ hi < x.toInt) (ht : (pc : Int) + df = (t : Int)) (kk : E l y cc nL ret R mc ms fx L0 Qa L h k n t lv st) : E l y cc nL ret R mc ms fx L0 Qa L h k n pc lv (.int x :: st) :=
  fun G α0 α A p e s m args below meth c H locs ls C X a hP hD hS hl => lv_tableOut C.1 C.2.1 hd h1 ht (kk G α0 α A p e s m args below meth c H locs ls C X a hP hD hS hl)
theorem e_look {df : Int} {ps : Array (Int × Int)} {ln t : Nat} {x : Int32} {off : Int} (hd : decode cc pc = .ok (.lookupswitch df ps, ln)) (hp : (ps.toList.zip (ps.toList.drop 1)).all (fun (a, next) => a.1 < next.1) = true) (ho : Op.lookupswitch.offset ps.toList df x.toInt = off) (ht : (pc : Int) + off = (t : Int)) (kk : E l y cc nL ret R mc ms fx L0 Qa L h k n t lv st) : E l y cc nL ret R mc ms fx L0 Qa L h k n pc lv (.int x :: st) :=
  fun G α0 α A p e s m args below meth c H locs ls C X a hP hD hS hl => lv_lookup C.1 C.2.1 hd hp ho ht (kk G α0 α A p e s m args below meth c H locs ls C X a hP hD hS hl)
theorem e_risS {ix : Nat} (hw : Cond.fieldLink y.cls ix "UnderTheSofa$Sweep" "RISING" "[I" ∈ e_gw) (hd : decode cc pc = .ok (.getstatic ix, 3)) (kk : E l y cc nL ret R mc ms fx L0 Qa L h k n (pc + 3) lv (.ref e_ris :: st)) : E l y cc nL ret R mc ms fx L0 Qa L h k n pc lv st :=
  fun G α0 α A p e s m args below meth c H locs ls C X a hP hD hS hl => va_gets C.1 C.2.1 X.2.1.1 hS C.2.2.2.2.1 (C.2.2.2.2.2.2.1 _ hw) (fun _ q => q) hd (kk G α0 α A p e s m args below meth c H locs ls C X a hP hD hS hl)
theorem e_risL (hd : decode cc pc = .ok (.arraylength, 1)) (kk : E l y cc nL ret R mc ms fx L0 Qa L h k n (pc + 1) lv (.int 4 :: st)) : E l y cc nL ret R mc ms fx L0 Qa L h k n pc lv (.ref e_ris :: st) :=
  fun G α0 α A p e s m args below meth c H locs ls C X a hP hD hS hl => va_tlen C.1 C.2.1 X.2.1.2 hS rfl hd (kk G α0 α A p e s m args below meth c H locs ls C X a hP hD hS hl)
theorem e_risA {i : Int32} (hi : vp_in i 4) (hd : decode cc pc = .ok (.iaload, 1)) (kk : E l y cc nL ret R mc ms fx L0 Qa L h k n (pc + 1) lv (.int (risv i) :: st)) : E l y cc nL ret R mc ms fx L0 Qa L h k n pc lv (.int i :: .ref e_ris :: st) :=
  fun G α0 α A p e s m args below meth c H locs ls C X a hP hD hS hl => va_ti C.1 C.2.1 X.2.1.2 hS hi rfl hd (kk G α0 α A p e s m args below meth c H locs ls C X a hP hD hS hl)
theorem e_ldcS {ix j : Nat} (hw : (y.cls, ix, j) ∈ e_srefs) (hd : decode cc pc = .ok (.ldc ix, 2)) (kk : E l y cc nL ret R mc ms fx L0 Qa L h k n (pc + 2) lv (.ref (e_str + j) :: st)) : E l y cc nL ret R mc ms fx L0 Qa L h k n pc lv st := by
  intro G α0 α A p e s m args below meth c H locs ls C X a hP hD hS hl
  obtain ⟨tx, hz⟩ := X.2.2.2.1 _ hw
  exact va_ldcS C.1 C.2.1 C.2.2.2.2.1 hz hd (kk G α0 α A p e s m args below meth c H locs ls C X a hP hD hS hl)
end
section
variable {l : Launch} {y : MethodName} {cc : ByteArray} {nL : Nat} {ret : Option FieldType} {d mc ms : Nat} {fx : Bool} {L0 : eL} {Qa : Option Value → eL → eH → Prop} {L : eL} {h : eH} {k n pc : Nat} {lv : List (Nat × Value)} {st : List Value}
theorem e_copyI {ix a b : Nat} {sp dp z : Int32} (hw : e_cop y.cls ix) (hc : cpOK L a b 0 sp dp z = true) (hR : 1 ≤ d) (h8 : (st.map fun v => v.category).sum ≤ 8) (hd : decode cc pc = .ok (.invokestatic ix, 3)) (kk : E l y cc nL ret (e_rm d mc ms) mc ms fx L0 Qa L (cpI h a b sp dp z) k n (pc + 3) lv st) : E l y cc nL ret (e_rm d mc ms) mc ms fx L0 Qa L h k n pc lv (.int z :: .int dp :: .ref b :: .int sp :: .ref a :: st) := by
  intro G α0 α A p e s m args below meth c H locs ls C X ag hP hD hS hl
  obtain ⟨w1, w2, w3, w4⟩ := hw
  obtain ⟨n1, n2, i1, i2, i3, i4, i5, i6, i7⟩ := cpOK_spec hc
  have hts := C.2.2.2.2.2.2.1
  refine va_copyi C.1 C.2.1 (C.2.2.2.1.trans hl.1.symm) C.2.2.2.2.1 (hts _ w1) (hts _ w2) (hts _ w3) (hts _ w4) C.2.2.2.2.2.2.2.2.1 hP hD hS a b 0 0 (e_ws_A i1) (e_ws_A i2) rfl rfl (ty := .int) rfl i3 i4 i5 i6 i7 (fun _ _ => rfl) hR ?_ hd (fun H1 locs1 hP1 hD1 hS1 => ?_)
  · rw [e_cats]
    have : nativeFrameWords "java/lang/System" "arraycopy" 5 + 11 ≤ 40 := by decide +kernel
    simp only [e_rm]; omega
  · rw [e_set_cI i2] at hP1 hD1
    exact kk G α0 α A p e s m args below meth c H1 locs1 ls C X ag hP1 hD1 hS1 hl
theorem e_copyL {ix a b : Nat} {sp dp z : Int32} (hw : e_cop y.cls ix) (hc : cpOK L a b 1 sp dp z = true) (hR : 1 ≤ d) (h8 : (st.map fun v => v.category).sum ≤ 8) (hd : decode cc pc = .ok (.invokestatic ix, 3)) (kk : E l y cc nL ret (e_rm d mc ms) mc ms fx L0 Qa L (cpL h a b sp dp z) k n (pc + 3) lv st) : E l y cc nL ret (e_rm d mc ms) mc ms fx L0 Qa L h k n pc lv (.int z :: .int dp :: .ref b :: .int sp :: .ref a :: st) := by
  intro G α0 α A p e s m args below meth c H locs ls C X ag hP hD hS hl
  obtain ⟨w1, w2, w3, w4⟩ := hw
  obtain ⟨n1, n2, i1, i2, i3, i4, i5, i6, i7⟩ := cpOK_spec hc
  have hts := C.2.2.2.2.2.2.1
  refine va_copyl C.1 C.2.1 (C.2.2.2.1.trans hl.1.symm) C.2.2.2.2.1 (hts _ w1) (hts _ w2) (hts _ w3) (hts _ w4) C.2.2.2.2.2.2.2.2.1 hP hD hS a b 1 1 (e_ws_A i1) (e_ws_A i2) rfl rfl (ty := .long) rfl i3 i4 i5 i6 i7 (fun _ _ => rfl) hR ?_ hd (fun H1 locs1 hP1 hD1 hS1 => ?_)
  · rw [e_cats]
    have : nativeFrameWords "java/lang/System" "arraycopy" 5 + 11 ≤ 40 := by decide +kernel
    simp only [e_rm]; omega
  · rw [e_set_cL i2] at hP1 hD1
    exact kk G α0 α A p e s m args below meth c H1 locs1 ls C X ag hP1 hD1 hS1 hl
end

/-! Rules for fields, arrays and calls. -/
def inA (L : eL) (a t : Nat) (i : Int32) : Bool := decide (a < L.1) && (match L.2 a with
  | .inr (t', n) => decide (t' = t) && !(decide (i < 0)) && decide (i.toNatClampNeg < n)
  | .inl _ => false)
theorem inA_spec {L : eL} {a t : Nat} {i : Int32} (h : inA L a t i = true) : ∃ n, isA L a t n = true ∧ vp_in i n := by
  unfold inA at h
  split at h
  · rename_i t' n he
    simp only [Bool.and_eq_true, decide_eq_true_eq, Bool.not_eq_true', decide_eq_false_iff_not] at h
    obtain ⟨h1, ⟨h2, h3⟩, h4⟩ := h
    subst h2
    refine ⟨n, ?_, ?_⟩
    · simp [isA, h1, he]
    · rintro (q | q)
      · exact h3 q
      · omega
  · simp at h
def Qx (v : Option Value) (L : eL) (h : eH) : Option Value → eL → eH → Prop := fun v' L' h' => v' = v ∧ L' = L ∧ h' = h
/-- how a model's parts are read off -/
theorem e_if {α : Type} {c : Bool} {x : Option α} {r : α} (h : (if c = true then x else none) = some r) : c = true ∧ x = some r := by
  cases c with
  | true => exact ⟨rfl, by simpa using h⟩
  | false => simp at h
theorem e_ifp {α : Type} {c : Prop} [Decidable c] {x : Option α} {r : α} (h : (if c then none else x) = some r) : ¬ c ∧ x = some r := by
  by_cases hc : c
  · simp [hc] at h
  · exact ⟨hc, by simpa [hc] using h⟩
theorem e_ifq {α : Type} {c : Prop} [Decidable c] {x : Option α} {r : α} (h : (if c then x else none) = some r) : c ∧ x = some r := by
  by_cases hc : c
  · exact ⟨hc, by simpa [hc] using h⟩
  · simp [hc] at h
theorem e_bd {α β : Type} {x : Option α} {f : α → Option β} {r : β} (h : x.bind f = some r) : ∃ a, x = some a ∧ f a = some r := by
  cases x with
  | none => simp at h
  | some a => exact ⟨a, rfl, by simpa using h⟩
theorem e_it {α : Type} {c : Prop} [Decidable c] {x z : α} {r : α} (hc : c) (h : (if c then x else z) = r) : x = r := by rw [if_pos hc] at h; exact h
theorem e_ie {α : Type} {c : Prop} [Decidable c] {x z : α} {r : α} (hc : ¬ c) (h : (if c then x else z) = r) : z = r := by rw [if_neg hc] at h; exact h
theorem e_tvr {α : Nat → Nat} {r : Option Nat} {a : Nat} (h : r = some a) : va_rf (r.map α) = e_tv α (.ref a) := by rw [h]; rfl
section
variable {l : Launch} {y : MethodName} {cc : ByteArray} {nL : Nat} {ret : Option FieldType} {R : Room} {mc ms : Nat} {fx : Bool} {L0 : eL} {Qa : Option Value → eL → eH → Prop} {L : eL} {h : eH} {k n pc : Nat} {lv : List (Nat × Value)} {st : List Value}
theorem e_getV {i ci f ix : Nat} {v : Value} (hO : isO L i ci = true) (hci : ci < 12) (hf : f < e_N ci) (hw : e_lk y.cls ix ci f) (hd : decode cc pc = .ok (.getfield ix, 3)) (hv : ∀ α, e_fv α h i f (e_ty ci f) = e_tv α v) (kk : E l y cc nL ret R mc ms fx L0 Qa L h k n (pc + 3) lv (v :: st)) : E l y cc nL ret R mc ms fx L0 Qa L h k n pc lv (.ref i :: st) := by
  intro G α0 α A p e s m args below meth c H locs ls C X a hP hD hS hl
  obtain ⟨h1, h2, h3, h4⟩ := e_cl ci hci
  exact va_get C.1 C.2.1 C.2.2.2.2.2.2.1 h2 C.2.2.2.2.1 C.2.2.2.2.2.2.2.2.1 hP i (e_ws_O hO) h1 f hf (C.2.2.2.2.2.2.1 _ hw) (fun _ q => q) (v := e_tv α v) (by rw [e_fs_get hf, hv]) hd (kk G α0 α A p e s m args below meth c H locs ls C X a hP hD hS hl)
theorem e_getVN {i ci f ix : Nat} {host : String} {v : Value} (hO : isO L i ci = true) (hci : ci < 12) (hf : f < e_N ci) (hw : e_lkN y.cls ix ci f host) (hd : decode cc pc = .ok (.getfield ix, 3)) (hv : ∀ α, e_fv α h i f (e_ty ci f) = e_tv α v) (kk : E l y cc nL ret R mc ms fx L0 Qa L h k n (pc + 3) lv (v :: st)) : E l y cc nL ret R mc ms fx L0 Qa L h k n pc lv (.ref i :: st) := by
  intro G α0 α A p e s m args below meth c H locs ls C X a hP hD hS hl
  obtain ⟨h1, h2, h3, h4⟩ := e_cl ci hci
  exact va_getN C.1 C.2.1 C.2.2.2.2.2.2.1 h2 C.2.2.2.2.1 C.2.2.2.2.2.2.2.2.1 hP i (e_ws_O hO) h1 f hf (va_Nw.use rfl (X.1 _ hw)) (fun _ q => q) (v := e_tv α v) (by rw [e_fs_get hf, hv]) hd (kk G α0 α A p e s m args below meth c H locs ls C X a hP hD hS hl)
theorem e_getI {i ci f ix : Nat} (hO : isO L i ci = true) (hF : (ci < 12 ∧ f < e_N ci) ∧ e_ty ci f = .int) (hw : e_lk y.cls ix ci f) (hd : decode cc pc = .ok (.getfield ix, 3)) (kk : E l y cc nL ret R mc ms fx L0 Qa L h k n (pc + 3) lv (.int (gI h i f) :: st)) : E l y cc nL ret R mc ms fx L0 Qa L h k n pc lv (.ref i :: st) :=
  e_getV hO hF.1.1 hF.1.2 hw hd (fun α => by rw [hF.2]; rfl) kk
theorem e_getL {i ci f ix : Nat} (hO : isO L i ci = true) (hF : (ci < 12 ∧ f < e_N ci) ∧ e_ty ci f = .long) (hw : e_lk y.cls ix ci f) (hd : decode cc pc = .ok (.getfield ix, 3)) (kk : E l y cc nL ret R mc ms fx L0 Qa L h k n (pc + 3) lv (.long (gL h i f) :: st)) : E l y cc nL ret R mc ms fx L0 Qa L h k n pc lv (.ref i :: st) :=
  e_getV hO hF.1.1 hF.1.2 hw hd (fun α => by rw [hF.2]; rfl) kk
theorem e_getR {i ci f ix b : Nat} (hO : isO L i ci = true) (hF : (ci < 12 ∧ f < e_N ci) ∧ ((∃ c, e_ty ci f = .object c) ∨ ∃ c, e_ty ci f = .array c)) (hw : e_lk y.cls ix ci f) (hd : decode cc pc = .ok (.getfield ix, 3)) (hb : gR h i f = some b) (kk : E l y cc nL ret R mc ms fx L0 Qa L h k n (pc + 3) lv (.ref b :: st)) : E l y cc nL ret R mc ms fx L0 Qa L h k n pc lv (.ref i :: st) :=
  e_getV hO hF.1.1 hF.1.2 hw hd (fun α => by rcases hF.2 with ⟨c, q⟩ | ⟨c, q⟩ <;> rw [q] <;> exact e_tvr hb) kk
theorem e_getIN {i ci f ix : Nat} {host : String} (hO : isO L i ci = true) (hF : (ci < 12 ∧ f < e_N ci) ∧ e_ty ci f = .int) (hw : e_lkN y.cls ix ci f host) (hd : decode cc pc = .ok (.getfield ix, 3)) (kk : E l y cc nL ret R mc ms fx L0 Qa L h k n (pc + 3) lv (.int (gI h i f) :: st)) : E l y cc nL ret R mc ms fx L0 Qa L h k n pc lv (.ref i :: st) :=
  e_getVN hO hF.1.1 hF.1.2 hw hd (fun α => by rw [hF.2]; rfl) kk
theorem e_getLN {i ci f ix : Nat} {host : String} (hO : isO L i ci = true) (hF : (ci < 12 ∧ f < e_N ci) ∧ e_ty ci f = .long) (hw : e_lkN y.cls ix ci f host) (hd : decode cc pc = .ok (.getfield ix, 3)) (kk : E l y cc nL ret R mc ms fx L0 Qa L h k n (pc + 3) lv (.long (gL h i f) :: st)) : E l y cc nL ret R mc ms fx L0 Qa L h k n pc lv (.ref i :: st) :=
  e_getVN hO hF.1.1 hF.1.2 hw hd (fun α => by rw [hF.2]; rfl) kk
theorem e_getRN {i ci f ix b : Nat} {host : String} (hO : isO L i ci = true) (hF : (ci < 12 ∧ f < e_N ci) ∧ ((∃ c, e_ty ci f = .object c) ∨ ∃ c, e_ty ci f = .array c)) (hw : e_lkN y.cls ix ci f host) (hd : decode cc pc = .ok (.getfield ix, 3)) (hb : gR h i f = some b) (kk : E l y cc nL ret R mc ms fx L0 Qa L h k n (pc + 3) lv (.ref b :: st)) : E l y cc nL ret R mc ms fx L0 Qa L h k n pc lv (.ref i :: st) :=
  e_getVN hO hF.1.1 hF.1.2 hw hd (fun α => by rcases hF.2 with ⟨c, q⟩ | ⟨c, q⟩ <;> rw [q] <;> exact e_tvr hb) kk
theorem e_putI {i ci f ix : Nat} {v : Int32} (hO : isO L i ci = true) (hF : (ci < 12 ∧ f < e_N ci) ∧ e_ty ci f = .int) (hfin : (e_T ci f).2.2.2 = false) (hw : e_lk y.cls ix ci f) (hd : decode cc pc = .ok (.putfield ix, 3)) (kk : E l y cc nL ret R mc ms fx L0 Qa L (sI h i f v) k n (pc + 3) lv st) : E l y cc nL ret R mc ms fx L0 Qa L h k n pc lv (.int v :: .ref i :: st) := by
  intro G α0 α A p e s m args below meth c H locs ls C X a hP hD hS hl
  obtain ⟨h1, h2, h3, h4⟩ := e_cl ci hF.1.1
  refine va_put (v := .int v) C.1 C.2.1 C.2.2.2.2.2.2.1 h2 (e_ty ci) h3 h4 C.2.2.2.2.1 C.2.2.2.2.2.2.2.2.1 hP hD hS i (e_ws_O hO) h1 f hF.1.2 (C.2.2.2.2.2.2.1 _ hw) (fun _ q => q) hfin (h3 f hF.1.2) (by rw [hF.2]; rfl) (by rw [hF.2]; rfl) (by simp [e_fs, hF.1.2]) hd (fun H1 locs1 hP hD hS => ?_)
  rw [e_set_fI hO hF.2] at hP hD
  exact kk G α0 α A p e s m args below meth c H1 locs1 ls C X a hP hD hS hl
theorem e_putL {i ci f ix : Nat} {v : Int64} (hO : isO L i ci = true) (hF : (ci < 12 ∧ f < e_N ci) ∧ e_ty ci f = .long) (hfin : (e_T ci f).2.2.2 = false) (hw : e_lk y.cls ix ci f) (hd : decode cc pc = .ok (.putfield ix, 3)) (kk : E l y cc nL ret R mc ms fx L0 Qa L (sL h i f v) k n (pc + 3) lv st) : E l y cc nL ret R mc ms fx L0 Qa L h k n pc lv (.long v :: .ref i :: st) := by
  intro G α0 α A p e s m args below meth c H locs ls C X a hP hD hS hl
  obtain ⟨h1, h2, h3, h4⟩ := e_cl ci hF.1.1
  refine va_put (v := .long v) C.1 C.2.1 C.2.2.2.2.2.2.1 h2 (e_ty ci) h3 h4 C.2.2.2.2.1 C.2.2.2.2.2.2.2.2.1 hP hD hS i (e_ws_O hO) h1 f hF.1.2 (C.2.2.2.2.2.2.1 _ hw) (fun _ q => q) hfin (h3 f hF.1.2) (by rw [hF.2]; rfl) (by rw [hF.2]; rfl) (by simp [e_fs, hF.1.2]) hd (fun H1 locs1 hP hD hS => ?_)
  rw [e_set_fL hO hF.2] at hP hD
  exact kk G α0 α A p e s m args below meth c H1 locs1 ls C X a hP hD hS hl
theorem e_putR {i ci f ix b : Nat} (hO : isO L i ci = true) (hF : (ci < 12 ∧ f < e_N ci) ∧ ((∃ c, e_ty ci f = .object c) ∨ ∃ c, e_ty ci f = .array c)) (hfin : (e_T ci f).2.2.2 = false) (hw : e_lk y.cls ix ci f) (hd : decode cc pc = .ok (.putfield ix, 3)) (kk : E l y cc nL ret R mc ms fx L0 Qa L (sR h i f (some b)) k n (pc + 3) lv st) : E l y cc nL ret R mc ms fx L0 Qa L h k n pc lv (.ref b :: .ref i :: st) := by
  intro G α0 α A p e s m args below meth c H locs ls C X a hP hD hS hl
  obtain ⟨h1, h2, h3, h4⟩ := e_cl ci hF.1.1
  refine va_put (v := va_rf ((some b).map α)) C.1 C.2.1 C.2.2.2.2.2.2.1 h2 (e_ty ci) h3 h4 C.2.2.2.2.1 C.2.2.2.2.2.2.2.2.1 hP hD hS i (e_ws_O hO) h1 f hF.1.2 (C.2.2.2.2.2.2.1 _ hw) (fun _ q => q) hfin (h3 f hF.1.2) (by rcases hF.2 with ⟨c, q⟩ | ⟨c, q⟩ <;> rw [q] <;> rfl) (by rcases hF.2 with ⟨c, q⟩ | ⟨c, q⟩ <;> rw [q] <;> rfl) (by simp [e_fs, hF.1.2]) hd (fun H1 locs1 hP hD hS => ?_)
  rw [e_set_fR hO hF.2] at hP hD
  exact kk G α0 α A p e s m args below meth c H1 locs1 ls C X a hP hD hS hl
theorem e_putIN {i ci f ix : Nat} {host : String} {v : Int32} (hO : isO L i ci = true) (hF : (ci < 12 ∧ f < e_N ci) ∧ e_ty ci f = .int) (hfin : (e_T ci f).2.2.2 = false) (hw : e_lkN y.cls ix ci f host) (hd : decode cc pc = .ok (.putfield ix, 3)) (kk : E l y cc nL ret R mc ms fx L0 Qa L (sI h i f v) k n (pc + 3) lv st) : E l y cc nL ret R mc ms fx L0 Qa L h k n pc lv (.int v :: .ref i :: st) := by
  intro G α0 α A p e s m args below meth c H locs ls C X a hP hD hS hl
  obtain ⟨h1, h2, h3, h4⟩ := e_cl ci hF.1.1
  refine va_putN (v := .int v) C.1 C.2.1 C.2.2.2.2.2.2.1 h2 (e_ty ci) h3 h4 C.2.2.2.2.1 C.2.2.2.2.2.2.2.2.1 hP hD hS i (e_ws_O hO) h1 f hF.1.2 (va_Nw.use rfl (X.1 _ hw)) (fun _ q => q) hfin (h3 f hF.1.2) (by rw [hF.2]; rfl) (by rw [hF.2]; rfl) (by simp [e_fs, hF.1.2]) hd (fun H1 locs1 hP hD hS => ?_)
  rw [e_set_fI hO hF.2] at hP hD
  exact kk G α0 α A p e s m args below meth c H1 locs1 ls C X a hP hD hS hl
theorem e_putLN {i ci f ix : Nat} {host : String} {v : Int64} (hO : isO L i ci = true) (hF : (ci < 12 ∧ f < e_N ci) ∧ e_ty ci f = .long) (hfin : (e_T ci f).2.2.2 = false) (hw : e_lkN y.cls ix ci f host) (hd : decode cc pc = .ok (.putfield ix, 3)) (kk : E l y cc nL ret R mc ms fx L0 Qa L (sL h i f v) k n (pc + 3) lv st) : E l y cc nL ret R mc ms fx L0 Qa L h k n pc lv (.long v :: .ref i :: st) := by
  intro G α0 α A p e s m args below meth c H locs ls C X a hP hD hS hl
  obtain ⟨h1, h2, h3, h4⟩ := e_cl ci hF.1.1
  refine va_putN (v := .long v) C.1 C.2.1 C.2.2.2.2.2.2.1 h2 (e_ty ci) h3 h4 C.2.2.2.2.1 C.2.2.2.2.2.2.2.2.1 hP hD hS i (e_ws_O hO) h1 f hF.1.2 (va_Nw.use rfl (X.1 _ hw)) (fun _ q => q) hfin (h3 f hF.1.2) (by rw [hF.2]; rfl) (by rw [hF.2]; rfl) (by simp [e_fs, hF.1.2]) hd (fun H1 locs1 hP hD hS => ?_)
  rw [e_set_fL hO hF.2] at hP hD
  exact kk G α0 α A p e s m args below meth c H1 locs1 ls C X a hP hD hS hl
theorem e_iald {b : Nat} {i : Int32} (hi : inA L b 0 i = true) (hd : decode cc pc = .ok (.iaload, 1)) (kk : E l y cc nL ret R mc ms fx L0 Qa L h k n (pc + 1) lv (.int (gI h b i.toNatClampNeg) :: st)) : E l y cc nL ret R mc ms fx L0 Qa L h k n pc lv (.int i :: .ref b :: st) := by
  intro G α0 α A p e s m args below meth c H locs ls C X a hP hD hS hl
  obtain ⟨z, h1, h2⟩ := inA_spec hi
  exact va_iald C.1 C.2.1 C.2.2.2.2.2.2.2.2.1 hP b 0 (e_ws_A h1) rfl h2 hd (kk G α0 α A p e s m args below meth c H locs ls C X a hP hD hS hl)
theorem e_zald {b : Nat} {i : Int32} (hi : inA L b 2 i = true) (hd : decode cc pc = .ok (.baload, 1)) (kk : E l y cc nL ret R mc ms fx L0 Qa L h k n (pc + 1) lv (.int (gI h b i.toNatClampNeg) :: st)) : E l y cc nL ret R mc ms fx L0 Qa L h k n pc lv (.int i :: .ref b :: st) := by
  intro G α0 α A p e s m args below meth c H locs ls C X a hP hD hS hl
  obtain ⟨z, h1, h2⟩ := inA_spec hi
  exact va_zald C.1 C.2.1 C.2.2.2.2.2.2.2.2.1 hP b 2 (e_ws_A h1) rfl h2 hd (kk G α0 α A p e s m args below meth c H locs ls C X a hP hD hS hl)
theorem e_lald {b : Nat} {i : Int32} (hi : inA L b 1 i = true) (hd : decode cc pc = .ok (.laload, 1)) (kk : E l y cc nL ret R mc ms fx L0 Qa L h k n (pc + 1) lv (.long (gL h b i.toNatClampNeg) :: st)) : E l y cc nL ret R mc ms fx L0 Qa L h k n pc lv (.int i :: .ref b :: st) := by
  intro G α0 α A p e s m args below meth c H locs ls C X a hP hD hS hl
  obtain ⟨z, h1, h2⟩ := inA_spec hi
  exact va_lald C.1 C.2.1 C.2.2.2.2.2.2.2.2.1 hP b 1 (e_ws_A h1) rfl h2 hd (kk G α0 α A p e s m args below meth c H locs ls C X a hP hD hS hl)
theorem e_rald {b v : Nat} {i : Int32} (hi : inA L b 3 i = true) (hv : gR h b i.toNatClampNeg = some v) (hd : decode cc pc = .ok (.aaload, 1)) (kk : E l y cc nL ret R mc ms fx L0 Qa L h k n (pc + 1) lv (.ref v :: st)) : E l y cc nL ret R mc ms fx L0 Qa L h k n pc lv (.int i :: .ref b :: st) := by
  intro G α0 α A p e s m args below meth c H locs ls C X a hP hD hS hl
  obtain ⟨z, h1, h2⟩ := inA_spec hi
  refine va_aldq C.1 C.2.1 C.2.2.2.2.2.2.2.2.1 hP b 3 (e_ws_A h1) rfl h2 hd ?_
  have hk := kk G α0 α A p e s m args below meth c H locs ls C X a hP hD hS hl
  rw [show (Option.map α (h.2.2 b i.toNatClampNeg)) = some (α v) from by rw [show h.2.2 b i.toNatClampNeg = some v from hv]; rfl]
  exact hk
theorem e_iast {b : Nat} {i v : Int32} (hi : inA L b 0 i = true) (hd : decode cc pc = .ok (.iastore, 1)) (kk : E l y cc nL ret R mc ms fx L0 Qa L (sI h b i.toNatClampNeg v) k n (pc + 1) lv st) : E l y cc nL ret R mc ms fx L0 Qa L h k n pc lv (.int v :: .int i :: .ref b :: st) := by
  intro G α0 α A p e s m args below meth c H locs ls C X a hP hD hS hl
  obtain ⟨z, h1, h2⟩ := inA_spec hi
  refine va_iast C.1 C.2.1 C.2.2.2.2.2.2.2.2.1 hP hD hS b 0 (e_ws_A h1) rfl h2 hd (fun H1 locs1 hP hD hS => ?_)
  rw [e_set_aI h1] at hP hD
  exact kk G α0 α A p e s m args below meth c H1 locs1 ls C X a hP hD hS hl
theorem e_zast {b : Nat} {i v : Int32} (hi : inA L b 2 i = true) (hd : decode cc pc = .ok (.bastore, 1)) (kk : E l y cc nL ret R mc ms fx L0 Qa L (sI h b i.toNatClampNeg (vp_nar .boolean v)) k n (pc + 1) lv st) : E l y cc nL ret R mc ms fx L0 Qa L h k n pc lv (.int v :: .int i :: .ref b :: st) := by
  intro G α0 α A p e s m args below meth c H locs ls C X a hP hD hS hl
  obtain ⟨z, h1, h2⟩ := inA_spec hi
  refine va_zast C.1 C.2.1 C.2.2.2.2.2.2.2.2.1 hP hD hS b 2 (e_ws_A h1) rfl h2 hd (fun H1 locs1 hP hD hS => ?_)
  rw [e_set_aZ h1] at hP hD
  exact kk G α0 α A p e s m args below meth c H1 locs1 ls C X a hP hD hS hl
theorem e_last {b : Nat} {i : Int32} {v : Int64} (hi : inA L b 1 i = true) (hd : decode cc pc = .ok (.lastore, 1)) (kk : E l y cc nL ret R mc ms fx L0 Qa L (sL h b i.toNatClampNeg v) k n (pc + 1) lv st) : E l y cc nL ret R mc ms fx L0 Qa L h k n pc lv (.long v :: .int i :: .ref b :: st) := by
  intro G α0 α A p e s m args below meth c H locs ls C X a hP hD hS hl
  obtain ⟨z, h1, h2⟩ := inA_spec hi
  refine va_last C.1 C.2.1 C.2.2.2.2.2.2.2.2.1 hP hD hS b 1 (e_ws_A h1) rfl h2 hd (fun H1 locs1 hP hD hS => ?_)
  rw [e_set_aL h1] at hP hD
  exact kk G α0 α A p e s m args below meth c H1 locs1 ls C X a hP hD hS hl
theorem e_alen {b t z : Nat} {ty : FieldType} {v : Int32} (hA : isA L b t z = true) (hv : Int32.ofNat z = v) (hd : decode cc pc = .ok (.arraylength, 1)) (kk : E l y cc nL ret R mc ms fx L0 Qa L h k n (pc + 1) lv (.int v :: st)) : E l y cc nL ret R mc ms fx L0 Qa L h k n pc lv (.ref b :: st) := by
  intro G α0 α A p e s m args below meth c H locs ls C X a hP hD hS hl
  have h0 := e_ws_A (G := G) (α := α) (h := h) hA
  have hk := kk G α0 α A p e s m args below meth c H locs ls C X a hP hD hS hl
  unfold e_arr at h0
  split at h0
  · exact va_alen C.1 C.2.1 C.2.2.2.2.2.2.2.2.1 hP b 0 h0 rfl hv hd hk
  · exact va_alen C.1 C.2.1 C.2.2.2.2.2.2.2.2.1 hP b 1 h0 rfl hv hd hk
  · exact va_alen C.1 C.2.1 C.2.2.2.2.2.2.2.2.1 hP b 2 h0 rfl hv hd hk
  · exact va_alen C.1 C.2.1 C.2.2.2.2.2.2.2.2.1 hP b 3 h0 rfl hv hd hk
end
/-! calls -/
theorem e_blind {G : eG} {α : Nat → Nat} {A : Nat → Prop} {L : eL} {h : eH} {as : List Value} : FrameBlind (e_P G α A L h as) := by
  intro a U g mk q
  obtain ⟨q0, ⟨qP, qD⟩, qK, qA, qX⟩ := q
  exact ⟨q0, ⟨qP, qD⟩, va_K.moved (u := U) (U := U.calling g mk a) (Vm.Alike.refl U.vm) qK, qA, qX.calling g mk a⟩
theorem e_good {y : MethodName} {cc : ByteArray} {nL : Nat} {ret : Option FieldType} (h : Cond.code y cc nL ret ∈ e_gw) : GoodIn e_gw (.code y cc nL ret :: e_gw) := by
  intro w hw
  have hw : w ∈ e_gw := by
    rcases List.mem_cons.mp hw with rfl | h1
    · exact h
    · exact h1
  exact ⟨hw, good_of_word (List.mem_filter.mp hw).2⟩
theorem e_pre {G : eG} {α : Nat → Nat} {A : Nat → Prop} {L : eL} {h : eH} {as : List Value} {s : State} {H : Heap} {locs : List Loc} (hK : va_K (e_D G) vwCl (e_tys G) s) (hA : ∀ q : Nat, s.heap.size ≤ q → A q) (X : e_X α A s) (hP : va_P (e_D G) vwCl (e_ws G α L h) H) (hD : va_D A (e_ws G α L h)) (hS : va_S A s.heap H locs) : ∀ U : State, U.heap = H → s.WarmedH U.vm → e_P G α A L h as (as.map (e_tv α)).toArray U := by
  intro U hU hW
  refine ⟨rfl, ⟨by rw [hU]; exact hP, hD⟩, va_K.moved hW.alike hK, fun q hq => hA q (Nat.le_trans hS.1 (by rw [← hU]; exact hq)), X.mv hW (fun a h1 h2 => by rw [hU]; exact hS.2.1 a h1 h2)⟩
theorem e_cont {p : Program} {l : Launch} {e : Env} {R : Room} {s : State} {m : MethodId} {args : Array Value} {below : List Frame} {meth : Method} {c : Code} {H : Heap} {locs : List Loc} {cells slots : Nat} {Q : State → Prop} {pc : Nat} {ls : Array Slot} {rest st0 : List Value} {a : Array Value} {A : Nat → Prop} {mc ms : Nat} {G : eG} {α : Nat → Nat} {L : eL} {fx : Bool} {Qb : Option Value → eL → eH → Prop}
    (hr : va_Run p l e R s m args below meth c H locs cells slots mc ms (F0 m pc ls st0) rest (e_Q G α A L fx Qb a) A) (hS : va_S A s.heap H locs)
    (kk : ∀ (v : Option Value) (α' : Nat → Nat) (L' : eL) (h' : eH) (H1 : Heap) (locs1 : List Loc), Qb v L' h' → e_ag fx L α L' α' → va_P (e_D G) vwCl (e_ws G α' L' h') H1 → va_D A (e_ws G α' L' h') → va_S A s.heap H1 locs1 → W p l e R s m args below meth c H1 locs1 (cells + mc) (slots + ms) Q (F0 m (pc + 3) ls ((v.map (e_tv α')).toList ++ rest))) : W p l e R s m args below meth c H locs cells slots Q (F0 m pc ls st0) := by
  intro T hT X
  obtain ⟨v, st₀, t, T', L1, h0, X', hL, e1, e2, ⟨⟨v', α', L', h', hv, hq, hag, hP, hD⟩, hz, hk⟩, st⟩ := hr T hT X
  cases hv
  rw [h0] at hz hk
  obtain ⟨t2, a1, b1⟩ := kk v' α' L' h' T'.heap (locs ++ L1) hq hag (by rw [e1]; exact hP) hD
    ⟨Nat.le_trans hS.1 (by rw [e1]; exact hz), fun q h1 h2 => by rw [e1, hk q (Nat.lt_of_lt_of_le h1 hS.1) (fun z => h2 z)]; exact hS.2.1 q h1 h2, fun q hq => by
      rcases List.mem_append.mp hq with h | h
      · exact hS.2.2 q h
      · exact hL q h⟩ T' rfl X'
  exact ⟨t2, st t2 a1, b1⟩
theorem e_cats {α : Nat → Nat} (st : List Value) : ((st.map (e_tv α)).map fun v => v.category).sum = (st.map fun v => v.category).sum := by
  rw [List.map_map]
  congr 1
  exact List.map_congr_left (fun v _ => e_cat α v)
section
variable {l : Launch} {y : MethodName} {cc : ByteArray} {nL : Nat} {ret : Option FieldType} {d mc ms : Nat} {fx : Bool} {L0 : eL} {Qa : Option Value → eL → eH → Prop} {L : eL} {h : eH} {k n pc : Nat} {lv : List (Nat × Value)} {st : List Value}
variable {y' : MethodName} {cc' : ByteArray} {nL' n' ix b ci : Nat} {ret' : Option FieldType} {As sk : List Value} {v : Option Value} {h1 : eH}
theorem e_callV (hw : Cond.methodLink y.cls ix y' ∈ e_gw) (hV : e_cV y' cc' nL' ret' n') (hM : e_Met l y' cc' nL' ret' (d - 1) 0 0 true L h (.ref b :: As) (Qx v L h1)) (hO : isO L b ci = true) (hC : ci < 12 ∧ e_R ci = y'.cls) (hn : As.length = n') (hs : sk = As.reverse ++ .ref b :: st) (h8 : (st.map fun v => v.category).sum ≤ 8) (hR : 1 ≤ d ∧ nL' ≤ 45) (hk : k ≤ mc ∧ n ≤ ms) (hd : decode cc pc = .ok (.invokevirtual ix, 3)) (kk : E l y cc nL ret (e_rm d mc ms) mc ms fx L0 Qa L h1 k n (pc + 3) lv (v.toList ++ st)) : E l y cc nL ret (e_rm d mc ms) mc ms fx L0 Qa L h k n pc lv sk := by
  intro G α0 α A p e s m args below meth c H locs ls C X a hP hD hS hl
  obtain ⟨⟨w1, w2⟩, w3, w4, w5⟩ := hV
  have hts := C.2.2.2.2.2.2.1
  have hrun := va_runV (R := e_rm d mc ms) (locs := locs) (cells := k) (slots := n) (As := As.map (e_tv α)) (rest := st.map (e_tv α)) (b := α b) (C := y'.cls) (n := n') (index := ix) (g := F0 m pc ls (sk.map (e_tv α))) (e := e) (below := below) (meth := meth) ⟨C.1, C.2.1, C.2.2.2.1, C.2.2.2.2.1, hts⟩ (hM G α A)
    ⟨callB_of n' hts (e_good w4) rfl rfl rfl (hts _ w3) (hts _ hw) w5 (by simp only [e_rm]; omega), hts _ w1, hts _ w2⟩
    ⟨e_blind, by
      obtain ⟨g1, -⟩ := e_cl ci hC.1
      have := va_recv C.2.2.2.2.2.2.2.2.1 hP g1 (e_ws_O hO)
      rw [← hC.2]; exact this, fun U hU hW => e_pre (as := .ref b :: As) C.2.2.2.2.2.2.2.2.1 C.2.2.2.2.2.2.2.2.2 X hP hD hS U hU hW⟩
    rfl (by rw [List.length_map]; exact hn) hl.1 (by subst hs; simp [e_tv]) (by rw [e_cats]; simpa [JFrame.monitorRoom] using h8) hd ⟨hk.1, hk.2⟩
  refine e_cont hrun hS (fun v' α' L' h' H1 locs1 hq hag hP1 hD1 hS1 => ?_)
  obtain ⟨rfl, rfl, rfl⟩ := hq
  obtain ⟨rfl, -⟩ := hag.1 rfl
  have := kk G α0 _ A p e s m args below meth c H1 locs1 ls C X a hP1 hD1 hS1 hl
  rw [List.map_append] at this
  cases v' <;> exact this
theorem e_callVN {host : String} (hw : Cond.methodLinkNest y.cls ix y' host ∈ e_nw) (hV : e_cV y' cc' nL' ret' n') (hM : e_Met l y' cc' nL' ret' (d - 1) 0 0 true L h (.ref b :: As) (Qx v L h1)) (hO : isO L b ci = true) (hC : ci < 12 ∧ e_R ci = y'.cls) (hn : As.length = n') (hs : sk = As.reverse ++ .ref b :: st) (h8 : (st.map fun v => v.category).sum ≤ 8) (hR : 1 ≤ d ∧ nL' ≤ 45) (hk : k ≤ mc ∧ n ≤ ms) (hd : decode cc pc = .ok (.invokevirtual ix, 3)) (kk : E l y cc nL ret (e_rm d mc ms) mc ms fx L0 Qa L h1 k n (pc + 3) lv (v.toList ++ st)) : E l y cc nL ret (e_rm d mc ms) mc ms fx L0 Qa L h k n pc lv sk := by
  intro G α0 α A p e s m args below meth c H locs ls C X a hP hD hS hl
  obtain ⟨⟨w1, w2⟩, w3, w4, w5⟩ := hV
  have hts := C.2.2.2.2.2.2.1
  have hrun := va_runVN (R := e_rm d mc ms) (locs := locs) (cells := k) (slots := n) (As := As.map (e_tv α)) (rest := st.map (e_tv α)) (b := α b) (C := y'.cls) (n := n') (index := ix) (g := F0 m pc ls (sk.map (e_tv α))) (e := e) (below := below) (meth := meth) ⟨C.1, C.2.1, C.2.2.2.1, C.2.2.2.2.1, hts⟩ (hM G α A)
    ⟨va_cnB n' hts (e_good w4) rfl rfl rfl (X.1 _ hw) (hts _ w3) w5 (by simp only [e_rm]; omega), hts _ w1, hts _ w2⟩
    ⟨e_blind, by
      obtain ⟨g1, -⟩ := e_cl ci hC.1
      have := va_recv C.2.2.2.2.2.2.2.2.1 hP g1 (e_ws_O hO)
      rw [← hC.2]; exact this, fun U hU hW => e_pre (as := .ref b :: As) C.2.2.2.2.2.2.2.2.1 C.2.2.2.2.2.2.2.2.2 X hP hD hS U hU hW⟩
    rfl (by rw [List.length_map]; exact hn) hl.1 (by subst hs; simp [e_tv]) (by rw [e_cats]; simpa [JFrame.monitorRoom] using h8) hd ⟨hk.1, hk.2⟩
  refine e_cont hrun hS (fun v' α' L' h' H1 locs1 hq hag hP1 hD1 hS1 => ?_)
  obtain ⟨rfl, rfl, rfl⟩ := hq
  obtain ⟨rfl, -⟩ := hag.1 rfl
  have := kk G α0 _ A p e s m args below meth c H1 locs1 ls C X a hP1 hD1 hS1 hl
  rw [List.map_append] at this
  cases v' <;> exact this
theorem e_callS (hw : Cond.methodLink y.cls ix y' ∈ e_gw) (hV : e_cS y' cc' nL' ret' n') (hM : e_Met l y' cc' nL' ret' (d - 1) 0 0 true L h As (Qx v L h1)) (hn : As.length = n') (hs : sk = As.reverse ++ st) (h8 : (st.map fun v => v.category).sum ≤ 8) (hR : 1 ≤ d ∧ nL' ≤ 45) (hk : k ≤ mc ∧ n ≤ ms) (hd : decode cc pc = .ok (.invokestatic ix, 3)) (kk : E l y cc nL ret (e_rm d mc ms) mc ms fx L0 Qa L h1 k n (pc + 3) lv (v.toList ++ st)) : E l y cc nL ret (e_rm d mc ms) mc ms fx L0 Qa L h k n pc lv sk := by
  intro G α0 α A p e s m args below meth c H locs ls C X a hP hD hS hl
  obtain ⟨w1, w3, w4, w5⟩ := hV
  have hts := C.2.2.2.2.2.2.1
  have hrun := va_runS (R := e_rm d mc ms) (locs := locs) (cells := k) (slots := n) (As := As.map (e_tv α)) (rest := st.map (e_tv α)) (n := n') (index := ix) (g := F0 m pc ls (sk.map (e_tv α))) (e := e) (below := below) (meth := meth) ⟨C.1, C.2.1, C.2.2.2.1, C.2.2.2.2.1, hts⟩ (hM G α A)
    ⟨callB_of n' hts (e_good w4) rfl rfl rfl (hts _ w3) (hts _ hw) w5 (by simp only [e_rm]; omega), hts _ w1⟩
    ⟨e_blind, fun U hU hW => e_pre (as := As) C.2.2.2.2.2.2.2.2.1 C.2.2.2.2.2.2.2.2.2 X hP hD hS U hU hW⟩
    rfl (by rw [List.length_map]; exact hn) hl.1 (by subst hs; simp [e_tv]) (by rw [e_cats]; simpa [JFrame.monitorRoom] using h8) hd ⟨hk.1, hk.2⟩
  refine e_cont hrun hS (fun v' α' L' h' H1 locs1 hq hag hP1 hD1 hS1 => ?_)
  obtain ⟨rfl, rfl, rfl⟩ := hq
  obtain ⟨rfl, -⟩ := hag.1 rfl
  have := kk G α0 _ A p e s m args below meth c H1 locs1 ls C X a hP1 hD1 hS1 hl
  rw [List.map_append] at this
  cases v' <;> exact this
theorem e_callSN {host : String} (hw : Cond.methodLinkNest y.cls ix y' host ∈ e_nw) (hV : e_cS y' cc' nL' ret' n') (hM : e_Met l y' cc' nL' ret' (d - 1) 0 0 true L h As (Qx v L h1)) (hn : As.length = n') (hs : sk = As.reverse ++ st) (h8 : (st.map fun v => v.category).sum ≤ 8) (hR : 1 ≤ d ∧ nL' ≤ 45) (hk : k ≤ mc ∧ n ≤ ms) (hd : decode cc pc = .ok (.invokestatic ix, 3)) (kk : E l y cc nL ret (e_rm d mc ms) mc ms fx L0 Qa L h1 k n (pc + 3) lv (v.toList ++ st)) : E l y cc nL ret (e_rm d mc ms) mc ms fx L0 Qa L h k n pc lv sk := by
  intro G α0 α A p e s m args below meth c H locs ls C X a hP hD hS hl
  obtain ⟨w1, w3, w4, w5⟩ := hV
  have hts := C.2.2.2.2.2.2.1
  have hrun := va_runSN (R := e_rm d mc ms) (locs := locs) (cells := k) (slots := n) (As := As.map (e_tv α)) (rest := st.map (e_tv α)) (n := n') (index := ix) (g := F0 m pc ls (sk.map (e_tv α))) (e := e) (below := below) (meth := meth) ⟨C.1, C.2.1, C.2.2.2.1, C.2.2.2.2.1, hts⟩ (hM G α A)
    ⟨va_cnB n' hts (e_good w4) rfl rfl rfl (X.1 _ hw) (hts _ w3) w5 (by simp only [e_rm]; omega), hts _ w1, trivial⟩
    ⟨e_blind, fun U hU hW => e_pre (as := As) C.2.2.2.2.2.2.2.2.1 C.2.2.2.2.2.2.2.2.2 X hP hD hS U hU hW⟩
    rfl (by rw [List.length_map]; exact hn) hl.1 (by subst hs; simp [e_tv]) (by rw [e_cats]; simpa [JFrame.monitorRoom] using h8) hd ⟨hk.1, hk.2⟩
  refine e_cont hrun hS (fun v' α' L' h' H1 locs1 hq hag hP1 hD1 hS1 => ?_)
  obtain ⟨rfl, rfl, rfl⟩ := hq
  obtain ⟨rfl, -⟩ := hag.1 rfl
  have := kk G α0 _ A p e s m args below meth c H1 locs1 ls C X a hP1 hD1 hS1 hl
  rw [List.map_append] at this
  cases v' <;> exact this
end

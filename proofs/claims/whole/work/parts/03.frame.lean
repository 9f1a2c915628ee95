/-! Abstract worlds: cells by number, their contents by three maps; every method is walked over these. -/
/-- a cell's shape: a class by its number in vwCl, or an array (0 int, 1 long, 2 boolean, 3 of State) and its length -/
abbrev eS : Type := Nat ⊕ (Nat × Nat)
abbrev eL : Type := Nat × (Nat → eS)
abbrev eH : Type := (Nat → Nat → Int32) × (Nat → Nat → Int64) × (Nat → Nat → Option Nat)
abbrev eG : Type := (Nat → ClassId) × (Nat → Nat → Nat) × (Nat → ClassId)
/-- numbers that stand for what lies outside: strings, the static array -/
def e_str : Nat := 1000000
def e_svl : Nat := 1500000
def e_ris : Nat := 2000000
def e_tv (α : Nat → Nat) : Value → Value
  | .ref i => .ref (α i)
  | v => v
def e_tys (G : eG) : List (ClassId × FieldType) := [(G.2.2 0, .int), (G.2.2 1, .long), (G.2.2 2, .boolean), (G.2.2 3, .object "UnderTheSofa$State")]
abbrev e_D (G : eG) : va_G := (G.1, G.2.1)
def e_ty (ci : Nat) : Nat → FieldType := match ci with
  | 0 => tyX0 | 1 => tyX1 | 2 => tyX2 | 3 => tyX3 | 4 => tyX4 | 5 => tyX5 | 6 => tyX6 | 7 => tyX7 | 8 => tyX8 | 9 => tyX9 | 10 => tyX10 | _ => tyX11
def e_N (ci : Nat) : Nat := match ci with
  | 0 => 3 | 1 => 3 | 2 => 8 | 3 => 2 | 4 => 3 | 5 => 4 | 6 => 9 | 7 => 9 | 8 => 2 | 9 => 2 | 10 => 20 | _ => 46
def e_fv (α : Nat → Nat) (h : eH) (i k : Nat) : FieldType → Value
  | .long => .long (h.2.1 i k)
  | .object _ => va_rf ((h.2.2 i k).map α)
  | .array _ => va_rf ((h.2.2 i k).map α)
  | _ => .int (h.1 i k)
def e_fs (α : Nat → Nat) (h : eH) (i ci : Nat) : List Value := (List.range (e_N ci)).map (fun k => e_fv α h i k (e_ty ci k))
def e_arr (G : eG) (α : Nat → Nat) (h : eH) (i t n : Nat) : va_E := match t with
  | 0 => .inl (G.2.2 0, n, .inl (h.1 i))
  | 1 => .inl (G.2.2 1, n, .inr (.inl (h.2.1 i)))
  | 2 => .inl (G.2.2 2, n, .inl (h.1 i))
  | _ => .inl (G.2.2 3, n, .inr (.inr (.inr (.inr (fun k => (h.2.2 i k).map α)))))
def e_ent (G : eG) (α : Nat → Nat) (L : eL) (h : eH) (i : Nat) : va_E := match L.2 i with
  | .inl ci => .inr (ci, e_fs α h i ci)
  | .inr (t, n) => e_arr G α h i t n
def e_ws (G : eG) (α : Nat → Nat) (L : eL) (h : eH) : va_W := (List.range L.1).map (fun i => (α i, e_ent G α L h i))
/-- reading and writing -/
def gI (h : eH) (i k : Nat) : Int32 := h.1 i k
def gL (h : eH) (i k : Nat) : Int64 := h.2.1 i k
def gR (h : eH) (i k : Nat) : Option Nat := h.2.2 i k
def sI (h : eH) (i k : Nat) (v : Int32) : eH := (fun j q => if j = i ∧ q = k then v else h.1 j q, h.2.1, h.2.2)
def sL (h : eH) (i k : Nat) (v : Int64) : eH := (h.1, fun j q => if j = i ∧ q = k then v else h.2.1 j q, h.2.2)
def sR (h : eH) (i k : Nat) (v : Option Nat) : eH := (h.1, h.2.1, fun j q => if j = i ∧ q = k then v else h.2.2 j q)
/-- cell i is an object of class ci; an array of kind t and length n -/
def isO (L : eL) (i ci : Nat) : Bool := decide (i < L.1) && decide (L.2 i = .inl ci)
def isA (L : eL) (i t n : Nat) : Bool := decide (i < L.1) && decide (L.2 i = .inr (t, n))
/-- the words that may be carried into any callee, and those of nest mates -/
def e_gw : List Cond := lw_tbl.filter goodWord
def e_isn : Cond → Bool
  | .fieldLinkNest .. => true
  | .methodLinkNest .. => true
  | .castable .. => true
  | .declares .. => true
  | _ => false
def e_nw : List Cond := lw_tbl.filter e_isn
def e_slen : List Nat := [5, 3, 5, 3, 2, 2, 5]
def e_sbyt : List (List Int32) := [[35, 46, 114, 112, 113], [35, 46, 114], [98, 104, 115, 114, 100], [60, 62, 61], [43, 45], [42, 47], [115, 116, 100, 99, 108]]
def e_srefs : List (String × Nat × Nat) := [("UnderTheSofaModel", 171, 0), ("UnderTheSofaModel", 173, 1), ("UnderTheSofaModel", 205, 2), ("UnderTheSofaModel", 213, 3), ("UnderTheSofaModel", 215, 4), ("UnderTheSofaModel", 217, 5), ("UnderTheSofaModel", 306, 6), ("UnderTheSofa", 157, 7), ("UnderTheSofa", 190, 8), ("UnderTheSofa", 215, 9), ("UnderTheSofa", 453, 10)]
def e_risf (j : Nat) : Value := .int (([0, 3, 1, 2] : List Int32).getD j 0)
def e_J (A : Nat → Prop) (U : State) (H : Heap) : Prop := va_Z "java/lang/String" "COMPACT_STRINGS" "Z" (.int 1) A U H ∧ va_Zq "jdk/internal/util/Preconditions" "SIOOBE_FORMATTER" "Ljava/util/function/BiFunction;" A U H ∧ va_Zq "java/lang/Throwable" "SUPPRESSED_SENTINEL" "Ljava/util/List;" A U H ∧ va_Zq "java/lang/Throwable" "UNASSIGNED_STACK" "[Ljava/lang/StackTraceElement;" A U H ∧ va_AO "UnderTheSofa$State" U
def e_X (α : Nat → Nat) (A : Nat → Prop) (U : State) : Prop :=
  (∀ w ∈ e_nw, va_Nw w U) ∧ (va_Z "UnderTheSofa$Sweep" "RISING" "[I" (.ref (α e_ris)) A U U.heap ∧ va_T .int (α e_ris) 4 e_risf A U U.heap) ∧
  vk_S 7 e_slen e_sbyt (fun i => α (e_str + i)) (fun i => α (e_svl + i)) A U U.heap ∧ (∀ q ∈ e_srefs, ∃ tx : String, vk_R q.1 q.2.1 tx (α (e_str + q.2.2)) U) ∧ e_J A U U.heap
theorem e_X.mv {α : Nat → Nat} {A : Nat → Prop} {s U : State} (h : e_X α A s) (hW : s.WarmedH U.vm) (hq : ∀ a : Nat, a < s.heap.size → ¬ A a → U.heap[a]? = s.heap[a]?) : e_X α A U := by
  obtain ⟨h1, ⟨h2, h3⟩, h4, h5, h7, h8, h9, h10, h11⟩ := h
  refine ⟨fun w hw => ?_, ⟨(h2.moved hW.alike).kept hq, (h3.moved hW.alike).kept hq⟩, (h4.moved hW.alike).kept hq, fun q hq => (h5 q hq).elim (fun tx h => ⟨tx, h.warm hW⟩), (h7.moved hW.alike).kept hq, (h8.moved hW.alike).kept hq, (h9.moved hW.alike).kept hq, (h10.moved hW.alike).kept hq, h11.moved hW.alike⟩
  have h0 := h1 w hw
  have h6 := (List.mem_filter.mp hw).2
  cases w <;> first | exact va_Nw.warmF hW h0 | exact va_Nw.warmM hW h0 | exact va_Nw.warmC hW h0 | exact va_Nw.warmD hW h0 | (exact absurd h6 (by simp [e_isn]))
theorem e_X.calling {α : Nat → Nat} {A : Nat → Prop} {U : State} (h : e_X α A U) (g : JFrame) (mk : MethodId) (a : Array Value) : e_X α A (U.calling g mk a) := by
  obtain ⟨h1, ⟨h2, h3⟩, h4, h5, h7, h8, h9, h10, h11⟩ := h
  have hv : U.vm.Alike (U.calling g mk a).vm := Vm.Alike.refl U.vm
  refine ⟨fun w hw => ?_, ⟨h2.moved hv, h3.moved hv⟩, h4.moved hv, fun q hq => (h5 q hq).elim (fun tx h => ⟨tx, vk_R.same rfl h⟩), h7.moved hv, h8.moved hv, h9.moved hv, h10.moved hv, h11.moved hv⟩
  have h0 := h1 w hw
  have h6 := (List.mem_filter.mp hw).2
  cases w <;> first | exact va_Nw.same rfl rfl h0 | (exact absurd h6 (by simp [e_isn]))
/-! the cells of a world -/
theorem e_ws_get {G : eG} {α : Nat → Nat} {L : eL} {h : eH} {i : Nat} (hi : i < L.1) : (e_ws G α L h)[i]? = some (α i, e_ent G α L h i) := by simp [e_ws, hi]
theorem e_ws_O {G : eG} {α : Nat → Nat} {L : eL} {h : eH} {i ci : Nat} (hi : isO L i ci = true) : (e_ws G α L h)[i]? = some (α i, .inr (ci, e_fs α h i ci)) := by
  simp only [isO, Bool.and_eq_true, decide_eq_true_eq] at hi
  rw [e_ws_get hi.1]; simp [e_ent, hi.2]
theorem e_ws_A {G : eG} {α : Nat → Nat} {L : eL} {h : eH} {i t n : Nat} (hi : isA L i t n = true) : (e_ws G α L h)[i]? = some (α i, e_arr G α h i t n) := by
  simp only [isA, Bool.and_eq_true, decide_eq_true_eq] at hi
  rw [e_ws_get hi.1]; simp [e_ent, hi.2]
theorem e_ws_set {G : eG} {α : Nat → Nat} {L : eL} {h h' : eH} {i : Nat} {e : va_E} (he : e_ent G α L h' i = e) (ho : ∀ j, j ≠ i → e_ent G α L h' j = e_ent G α L h j) : (e_ws G α L h).set i (α i, e) = e_ws G α L h' := by
  apply List.ext_getElem?
  intro j
  by_cases hj : j < L.1
  · by_cases hji : j = i
    · subst hji
      rw [List.getElem?_set_self (by simp [e_ws, hj]), e_ws_get hj, he]
    · rw [List.getElem?_set_ne (fun q => hji q.symm), e_ws_get hj, e_ws_get hj, ho j hji]
  · rw [List.getElem?_eq_none (by simp [e_ws]; omega), List.getElem?_eq_none (by simp [e_ws]; omega)]
theorem e_fs_get {α : Nat → Nat} {h : eH} {i ci k : Nat} (hk : k < e_N ci) : (e_fs α h i ci)[k]? = some (e_fv α h i k (e_ty ci k)) := by simp [e_fs, hk]
theorem e_fs_set {α : Nat → Nat} {h h' : eH} {i ci k : Nat} {v : Value} (hv : e_fv α h' i k (e_ty ci k) = v) (ho : ∀ q, q ≠ k → ∀ ty, e_fv α h' i q ty = e_fv α h i q ty) : (e_fs α h i ci).set k v = e_fs α h' i ci := by
  apply List.ext_getElem?
  intro j
  by_cases hj : j < e_N ci
  · by_cases hjk : j = k
    · subst hjk
      rw [List.getElem?_set_self (by simp [e_fs, hj]), e_fs_get hj, hv]
    · rw [List.getElem?_set_ne (fun q => hjk q.symm), e_fs_get hj, e_fs_get hj, ho j hjk]
  · rw [List.getElem?_eq_none (by simp [e_fs]; omega), List.getElem?_eq_none (by simp [e_fs]; omega)]
theorem e_fv_ext {α : Nat → Nat} {h h' : eH} {i k : Nat} (h1 : h'.1 i k = h.1 i k) (h2 : h'.2.1 i k = h.2.1 i k) (h3 : h'.2.2 i k = h.2.2 i k) : ∀ ty, e_fv α h' i k ty = e_fv α h i k ty := by
  intro ty
  cases ty <;> simp [e_fv, h1, h2, h3]
theorem e_ent_ext {G : eG} {α : Nat → Nat} {L : eL} {h h' : eH} {i : Nat} (h1 : h'.1 i = h.1 i) (h2 : h'.2.1 i = h.2.1 i) (h3 : h'.2.2 i = h.2.2 i) : e_ent G α L h' i = e_ent G α L h i := by
  have hf : ∀ ci, e_fs α h' i ci = e_fs α h i ci := fun ci => by
    simp only [e_fs]
    exact List.map_congr_left (fun k _ => e_fv_ext (by rw [h1]) (by rw [h2]) (by rw [h3]) _)
  unfold e_ent
  split
  · rw [hf]
  · rename_i t n _
    unfold e_arr
    split <;> simp [h1, h2, h3]
theorem sI_o {h : eH} {i k j : Nat} {v : Int32} (hj : j ≠ i) : (sI h i k v).1 j = h.1 j := by funext q; simp [sI, hj]
theorem sL_o {h : eH} {i k j : Nat} {v : Int64} (hj : j ≠ i) : (sL h i k v).2.1 j = h.2.1 j := by funext q; simp [sL, hj]
theorem sR_o {h : eH} {i k j : Nat} {v : Option Nat} (hj : j ≠ i) : (sR h i k v).2.2 j = h.2.2 j := by funext q; simp [sR, hj]
/-- an int field, a long field, a reference field is set -/
theorem e_set_fI {G : eG} {α : Nat → Nat} {L : eL} {h : eH} {i ci k : Nat} {v : Int32} (hi : isO L i ci = true) (ht : e_ty ci k = .int) : (e_ws G α L h).set i (α i, .inr (ci, (e_fs α h i ci).set k (.int v))) = e_ws G α L (sI h i k v) := by
  simp only [isO, Bool.and_eq_true, decide_eq_true_eq] at hi
  refine e_ws_set ?_ (fun j hj => e_ent_ext (sI_o hj) rfl rfl)
  rw [e_fs_set (h := h) (α := α) (i := i) (ci := ci) (k := k) (h' := sI h i k v) (by rw [ht]; simp [e_fv, sI]) (fun q hq => e_fv_ext (by simp [sI, hq]) rfl rfl)]
  simp [e_ent, hi.2]
theorem e_set_fL {G : eG} {α : Nat → Nat} {L : eL} {h : eH} {i ci k : Nat} {v : Int64} (hi : isO L i ci = true) (ht : e_ty ci k = .long) : (e_ws G α L h).set i (α i, .inr (ci, (e_fs α h i ci).set k (.long v))) = e_ws G α L (sL h i k v) := by
  simp only [isO, Bool.and_eq_true, decide_eq_true_eq] at hi
  refine e_ws_set ?_ (fun j hj => e_ent_ext rfl (sL_o hj) rfl)
  rw [e_fs_set (h := h) (α := α) (i := i) (ci := ci) (k := k) (h' := sL h i k v) (by rw [ht]; simp [e_fv, sL]) (fun q hq => e_fv_ext rfl (by simp [sL, hq]) rfl)]
  simp [e_ent, hi.2]
theorem e_set_fR {G : eG} {α : Nat → Nat} {L : eL} {h : eH} {i ci k : Nat} {v : Option Nat} (hi : isO L i ci = true) (ht : (∃ c, e_ty ci k = .object c) ∨ ∃ c, e_ty ci k = .array c) : (e_ws G α L h).set i (α i, .inr (ci, (e_fs α h i ci).set k (va_rf (v.map α)))) = e_ws G α L (sR h i k v) := by
  simp only [isO, Bool.and_eq_true, decide_eq_true_eq] at hi
  refine e_ws_set ?_ (fun j hj => e_ent_ext rfl rfl (sR_o hj))
  rw [e_fs_set (h := h) (α := α) (i := i) (ci := ci) (k := k) (h' := sR h i k v) (by rcases ht with ⟨c, ht⟩ | ⟨c, ht⟩ <;> rw [ht] <;> simp [e_fv, sR]) (fun q hq => e_fv_ext rfl rfl (by simp [sR, hq]))]
  simp [e_ent, hi.2]
theorem e_upd {h : eH} {i k : Nat} {v : Int32} : upd (h.1 i) k v = (sI h i k v).1 i := by funext q; simp [upd, sI]
theorem e_updL {h : eH} {i k : Nat} {v : Int64} : vp_updL (h.2.1 i) k v = (sL h i k v).2.1 i := by funext q; simp [vp_updL, sL]
theorem e_set_aI {G : eG} {α : Nat → Nat} {L : eL} {h : eH} {i n k : Nat} {v : Int32} (hi : isA L i 0 n = true) : (e_ws G α L h).set i (α i, .inl (G.2.2 0, n, .inl (upd (h.1 i) k v))) = e_ws G α L (sI h i k v) := by
  simp only [isA, Bool.and_eq_true, decide_eq_true_eq] at hi
  refine e_ws_set ?_ (fun j hj => e_ent_ext (sI_o hj) rfl rfl)
  rw [e_upd]; simp [e_ent, hi.2, e_arr]
theorem e_set_aZ {G : eG} {α : Nat → Nat} {L : eL} {h : eH} {i n k : Nat} {v : Int32} (hi : isA L i 2 n = true) : (e_ws G α L h).set i (α i, .inl (G.2.2 2, n, .inl (upd (h.1 i) k v))) = e_ws G α L (sI h i k v) := by
  simp only [isA, Bool.and_eq_true, decide_eq_true_eq] at hi
  refine e_ws_set ?_ (fun j hj => e_ent_ext (sI_o hj) rfl rfl)
  rw [e_upd]; simp [e_ent, hi.2, e_arr]
theorem e_set_aL {G : eG} {α : Nat → Nat} {L : eL} {h : eH} {i n k : Nat} {v : Int64} (hi : isA L i 1 n = true) : (e_ws G α L h).set i (α i, .inl (G.2.2 1, n, .inr (.inl (vp_updL (h.2.1 i) k v)))) = e_ws G α L (sL h i k v) := by
  simp only [isA, Bool.and_eq_true, decide_eq_true_eq] at hi
  refine e_ws_set ?_ (fun j hj => e_ent_ext rfl (sL_o hj) rfl)
  rw [e_updL]; simp [e_ent, hi.2, e_arr]

/-! Constant strings: their length and their signs; the static array. -/
def sLen (b : Nat) : Option Int32 := if e_str ≤ b ∧ b < e_str + 7 then some (Int32.ofNat (e_slen.getD (b - e_str) 0)) else none
def sAt (b : Nat) (i : Int32) : Option Int32 := if e_str ≤ b ∧ b < e_str + 7 then (if i < 0 ∨ e_slen.getD (b - e_str) 0 ≤ i.toNatClampNeg then none else some ((e_sbyt.getD (b - e_str) []).getD i.toNatClampNeg 0)) else none
def inR (i : Int32) : Bool := !(decide (i < 0)) && decide (i.toNatClampNeg < 4)
theorem inR_in {i : Int32} (h : inR i = true) : vp_in i 4 := by
  simp only [inR, Bool.and_eq_true, Bool.not_eq_true', decide_eq_false_iff_not, decide_eq_true_eq] at h
  rintro (q | q)
  · exact h.1 q
  · omega
theorem ris_w : Cond.fieldLink "UnderTheSofa$Sweep" 91 "UnderTheSofa$Sweep" "RISING" "[I" ∈ e_gw := e_mem 868 (by decide +kernel) (by decide +kernel)
theorem js_38 : Cond.fieldLink "java/lang/String" 38 "java/lang/String" "COMPACT_STRINGS" "Z" ∈ e_gw := e_mem 1329 (by decide +kernel) (by decide +kernel)
theorem js_1053 : Cond.fieldLink "java/lang/String" 1053 "jdk/internal/util/Preconditions" "SIOOBE_FORMATTER" "Ljava/util/function/BiFunction;" ∈ e_gw := e_mem 1345 (by decide +kernel) (by decide +kernel)
theorem js_9 : Cond.fieldLink "java/lang/String" 9 "java/lang/String" "value" "[B" ∈ e_gw := e_mem 1782 (by decide +kernel) (by decide +kernel)
theorem js_15 : Cond.fieldLink "java/lang/String" 15 "java/lang/String" "coder" "B" ∈ e_gw := e_mem 1783 (by decide +kernel) (by decide +kernel)
theorem e_atlt {D : va_G} {cl : List vw_C} {q : Nat × va_E} {H : Heap} (h : va_at D cl q H) : q.1 < H.size := by
  unfold va_at at h
  split at h
  · exact (Array.getElem?_eq_some_iff.mp h).1
  · obtain ⟨r, -, cell, h1, -⟩ := h
    exact (Array.getElem?_eq_some_iff.mp h1).1
section
variable {l : Launch} {y : MethodName} {cc : ByteArray} {nL : Nat} {ret : Option FieldType} {R : Room} {mc ms : Nat} {fx : Bool} {L0 : eL} {Qa : Option Value → eL → eH → Prop} {L : eL} {h : eH} {k n pc : Nat} {lv : List (Nat × Value)} {st : List Value}
theorem e_ldcwS {ix j : Nat} (hw : (y.cls, ix, j) ∈ e_srefs) (hd : decode cc pc = .ok (.ldc_w ix, 3)) (kk : E l y cc nL ret R mc ms fx L0 Qa L h k n (pc + 3) lv (.ref (e_str + j) :: st)) : E l y cc nL ret R mc ms fx L0 Qa L h k n pc lv st := by
  intro G α0 α A p e s m args below meth c H locs ls C X a hP hD hS hl T hT XX
  obtain ⟨tx, hz⟩ := X.2.2.2.1 _ hw
  obtain ⟨t, a1, b1⟩ := kk G α0 α A p e s m args below meth c H locs ls C X a hP hD hS hl T hT XX
  exact ⟨t, XX.ldcStringW C.1 (own := y.cls) (text := tx) (index := ix) (a := α (e_str + j)) C.2.2.2.2.1 hz.1 hz.2 (g := F0 m pc ls (st.map (e_tv α))) rfl (by rw [C.2.1]; exact hd) t a1, b1⟩
theorem e_cmpS {ix : Nat} (hw : Cond.fieldLink y.cls ix "java/lang/String" "COMPACT_STRINGS" "Z" ∈ e_gw) (hd : decode cc pc = .ok (.getstatic ix, 3)) (kk : E l y cc nL ret R mc ms fx L0 Qa L h k n (pc + 3) lv (.int 1 :: st)) : E l y cc nL ret R mc ms fx L0 Qa L h k n pc lv st :=
  fun G α0 α A p e s m args below meth c H locs ls C X a hP hD hS hl => va_gets C.1 C.2.1 X.2.2.2.2.1 hS C.2.2.2.2.1 (C.2.2.2.2.2.2.1 _ hw) (fun _ q => q) hd (kk G α0 α A p e s m args below meth c H locs ls C X a hP hD hS hl)
theorem e_strC {ix j : Nat} (hj : j < 7) (hw : Cond.fieldLink y.cls ix "java/lang/String" "coder" "B" ∈ e_gw) (hd : decode cc pc = .ok (.getfield ix, 3)) (kk : E l y cc nL ret R mc ms fx L0 Qa L h k n (pc + 3) lv (.int 0 :: st)) : E l y cc nL ret R mc ms fx L0 Qa L h k n pc lv (.ref (e_str + j) :: st) :=
  fun G α0 α A p e s m args below meth c H locs ls C X a hP hD hS hl => vk_getf C.1 C.2.1 (X.2.2.1.1 j hj).2.1 hS C.2.2.2.2.1 (C.2.2.2.2.2.2.1 _ hw) (fun _ q => q) hd (kk G α0 α A p e s m args below meth c H locs ls C X a hP hD hS hl)
theorem e_strV {ix j : Nat} (hj : j < 7) (hw : Cond.fieldLink y.cls ix "java/lang/String" "value" "[B" ∈ e_gw) (hd : decode cc pc = .ok (.getfield ix, 3)) (kk : E l y cc nL ret R mc ms fx L0 Qa L h k n (pc + 3) lv (.ref (e_svl + j) :: st)) : E l y cc nL ret R mc ms fx L0 Qa L h k n pc lv (.ref (e_str + j) :: st) :=
  fun G α0 α A p e s m args below meth c H locs ls C X a hP hD hS hl => vk_getf C.1 C.2.1 (X.2.2.1.1 j hj).2.2.1 hS C.2.2.2.2.1 (C.2.2.2.2.2.2.1 _ hw) (fun _ q => q) hd (kk G α0 α A p e s m args below meth c H locs ls C X a hP hD hS hl)
theorem e_svlL {j : Nat} (hj : j < 7) (hd : decode cc pc = .ok (.arraylength, 1)) (kk : E l y cc nL ret R mc ms fx L0 Qa L h k n (pc + 1) lv (.int (Int32.ofNat (e_slen.getD j 0)) :: st)) : E l y cc nL ret R mc ms fx L0 Qa L h k n pc lv (.ref (e_svl + j) :: st) :=
  fun G α0 α A p e s m args below meth c H locs ls C X a hP hD hS hl => va_tlen C.1 C.2.1 (X.2.2.1.1 j hj).2.2.2 hS rfl hd (kk G α0 α A p e s m args below meth c H locs ls C X a hP hD hS hl)
theorem e_svlA {j : Nat} {i : Int32} (hj : j < 7) (hi : vp_in i (e_slen.getD j 0)) (hd : decode cc pc = .ok (.baload, 1)) (kk : E l y cc nL ret R mc ms fx L0 Qa L h k n (pc + 1) lv (.int ((e_sbyt.getD j []).getD i.toNatClampNeg 0) :: st)) : E l y cc nL ret R mc ms fx L0 Qa L h k n pc lv (.int i :: .ref (e_svl + j) :: st) :=
  fun G α0 α A p e s m args below meth c H locs ls C X a hP hD hS hl => va_tb C.1 C.2.1 (X.2.2.1.1 j hj).2.2.2 hS hi rfl hd (kk G α0 α A p e s m args below meth c H locs ls C X a hP hD hS hl)
end
set_option maxRecDepth 100000 in
set_option maxHeartbeats 4000000 in
theorem c_checkIndex (l : Launch) (d : Nat) (i n : Int32) (v : Value) (hv : v.category = 1) (h0 : ¬ i < 0) (h1 : i < n) : Met l yJ3_checkIndex_8e157 (.code yJ3_checkIndex_8e157 cJ3_checkIndex_8e157 3 (some .int) :: e_gw) (e_rm d 0 0) (va_Pc [.int i, .int n, v] (fun _ => True)) (va_Qi (fun r (_ : Unit) => r = i) (fun _ _ => True) (fun _ => False)) 0 0 (fun _ => False) := by
  refine Met.ofW (cc := cJ3_checkIndex_8e157) (maxL := 3) (ret := some .int) (by decide) rfl ?_
  intro p e s m args below meth c s₁ B hml hpv
  obtain ⟨rfl, -⟩ := hpv
  have hx := B.exec
  have hb := B.bytes
  have hr := B.returns
  have hlocks := B.notSynchronized
  have hlen : (lg_sl [Value.int i, .int n, v]).length ≤ 3 := by cases v <;> first | exact Nat.le_of_ble_eq_true rfl | (simp [Value.category] at hv)
  have hl := lv_entry ([.int i, .int n, v]) (n := 3) hlen
  rw [lg_entry_eq]
  generalize (lg_sl ([.int i, .int n, v]) ++ List.replicate (3 - (lg_sl ([.int i, .int n, v])).length) Slot.unset).toArray = ls at hl ⊢
  have hl : lv_has ls 3 [(0, .int i), (1, .int n), (2, v)] := hl
  refine lv_iload_n hx hb dJ3_checkIndex_8e157_0 rfl (lv_at hl 0 rfl) ?_
  refine lv_if_lt (tgt := 9) hx hb dJ3_checkIndex_8e157_1 (by decide) (fun c => absurd c h0) (fun _ => ?_)
  refine lv_iload_n hx hb dJ3_checkIndex_8e157_4 rfl (lv_at hl 0 rfl) ?_
  refine lv_iload_n hx hb dJ3_checkIndex_8e157_5 rfl (lv_at hl 1 rfl) ?_
  refine lv_icmp_lt (tgt := 16) hx hb dJ3_checkIndex_8e157_6 (by decide) (fun _ => ?_) (fun c => absurd h1 c)
  refine lv_iload_n hx hb dJ3_checkIndex_8e157_16 rfl (lv_at hl 0 rfl) ?_
  exact W.iret hx hb hr (fun t ht _ => ⟨⟨i, (), rfl, rfl, trivial⟩, by rw [ht]; exact Nat.le_refl _, fun q _ _ => by rw [ht]⟩) (fun q hq => by cases hq) dJ3_checkIndex_8e157_17
section
variable {l : Launch} {y : MethodName} {cc : ByteArray} {nL : Nat} {ret : Option FieldType} {d mc ms : Nat} {fx : Bool} {L0 : eL} {Qa : Option Value → eL → eH → Prop} {L : eL} {h : eH} {k n pc : Nat} {lv : List (Nat × Value)} {st : List Value}
variable {y' : MethodName} {cc' : ByteArray} {nL' n' ix : Nat} {ret' : Option FieldType} {As sk : List Value} {v : Option Value} {h1 : eH}
theorem e_chk {i z : Int32} {ix2 : Nat} (hw : Cond.fieldLink y.cls ix "jdk/internal/util/Preconditions" "SIOOBE_FORMATTER" "Ljava/util/function/BiFunction;" ∈ e_gw) (hw2 : Cond.methodLink y.cls ix2 yJ3_checkIndex_8e157 ∈ e_gw) (h0 : ¬ i < 0) (h1 : i < z) (hR : 2 ≤ d) (h8 : (st.map fun v => v.category).sum ≤ 8) (hk : k ≤ mc ∧ n ≤ ms) (hd : decode cc pc = .ok (.getstatic ix, 3)) (hd2 : decode cc (pc + 3) = .ok (.invokestatic ix2, 3)) (kk : E l y cc nL ret (e_rm d mc ms) mc ms fx L0 Qa L h k n (pc + 6) lv (.int i :: st)) : E l y cc nL ret (e_rm d mc ms) mc ms fx L0 Qa L h k n pc lv (.int z :: .int i :: st) := by
  intro G α0 α A p e s m args below meth c H locs ls C X a hP hD hS hl
  have hts := C.2.2.2.2.2.2.1
  obtain ⟨w1, w3, w4, w5⟩ := k_J3_checkIndex_8e157
  have go : ∀ v : Value, v.category = 1 → W p l e (e_rm d mc ms) s m args below meth c H locs k n (MQ below (e_Q G α0 A L0 fx Qa) args s mc ms A) (F0 m (pc + 3) ls (v :: .int z :: .int i :: st.map (e_tv α))) := by
    intro v hv
    have hrun := va_runS (R := e_rm d mc ms) (locs := locs) (cells := k) (slots := n) (As := [.int i, .int z, v]) (rest := st.map (e_tv α)) (n := 3) (index := ix2) (g := F0 m (pc + 3) ls (v :: .int z :: .int i :: st.map (e_tv α))) (e := e) (below := below) (meth := meth) (H := H) (m := m) (p := p) (c := c) (s := s) (args := args) (own := y.cls) ⟨C.1, C.2.1, C.2.2.2.1, C.2.2.2.2.1, hts⟩ (c_checkIndex l (d - 1) i z v hv h0 h1)
      ⟨callB_of 3 hts (e_good w4) rfl rfl rfl (hts _ w3) (hts _ hw2) w5 (by simp only [e_rm]; omega), hts _ w1⟩
      ⟨fun a U g mk q => q, fun U hU hW => ⟨rfl, trivial⟩⟩
      rfl rfl hl.1 rfl (by rw [e_cats]; simpa [JFrame.monitorRoom] using h8) hd2 ⟨hk.1, hk.2⟩
    refine va_calli hrun hS (fun _ _ f => absurd f id) (fun _ f => absurd f id) (fun r u t H1 locs1 ht hvm hp hB hz1 hk1 hS1 => ?_)
    subst hp
    exact kk G α0 α A p e s m args below meth c H1 locs1 ls C X a (hP.kept (fun k' q hq => hk1 q.1 (e_atlt (hP k' q hq)) (fun f => f))) hD hS1 hl
  rcases X.2.2.2.2.2.1 with hz | ⟨t, hz⟩
  · exact va_gets C.1 C.2.1 hz hS C.2.2.2.2.1 (hts _ hw) (fun _ q => q) hd (go .null rfl)
  · exact va_gets C.1 C.2.1 hz hS C.2.2.2.2.1 (hts _ hw) (fun _ q => q) hd (go (.ref t) rfl)
theorem e_callVs {j : Nat} (hj : j < 7) (hy : y'.cls = "java/lang/String") (hw : Cond.methodLink y.cls ix y' ∈ e_gw) (hV : e_cV y' cc' nL' ret' n') (hM : e_Met l y' cc' nL' ret' (d - 1) 0 0 true L h (.ref (e_str + j) :: As) (Qx v L h1)) (hn : As.length = n') (hs : sk = As.reverse ++ .ref (e_str + j) :: st) (h8 : (st.map fun v => v.category).sum ≤ 8) (hR : 1 ≤ d ∧ nL' ≤ 45) (hk : k ≤ mc ∧ n ≤ ms) (hd : decode cc pc = .ok (.invokevirtual ix, 3)) (kk : E l y cc nL ret (e_rm d mc ms) mc ms fx L0 Qa L h1 k n (pc + 3) lv (v.toList ++ st)) : E l y cc nL ret (e_rm d mc ms) mc ms fx L0 Qa L h k n pc lv sk := by
  intro G α0 α A p e s m args below meth c H locs ls C X a hP hD hS hl
  obtain ⟨⟨w1, w2⟩, w3, w4, w5⟩ := hV
  have hts := C.2.2.2.2.2.2.1
  have hrun := va_runV (R := e_rm d mc ms) (locs := locs) (cells := k) (slots := n) (As := As.map (e_tv α)) (rest := st.map (e_tv α)) (b := α (e_str + j)) (C := y'.cls) (n := n') (index := ix) (g := F0 m pc ls (sk.map (e_tv α))) (e := e) (below := below) (meth := meth) ⟨C.1, C.2.1, C.2.2.2.1, C.2.2.2.2.1, hts⟩ (hM G α A)
    ⟨callB_of n' hts (e_good w4) rfl rfl rfl (hts _ w3) (hts _ hw) w5 (by simp only [e_rm]; omega), hts _ w1, hts _ w2⟩
    ⟨e_blind, by rw [hy]; exact vk_recv (adK := fun i => α (e_str + i)) (i := j) X.2.2.1 hj hS, fun U hU hW => e_pre (as := .ref (e_str + j) :: As) C.2.2.2.2.2.2.2.2.1 C.2.2.2.2.2.2.2.2.2 X hP hD hS U hU hW⟩
    rfl (by rw [List.length_map]; exact hn) hl.1 (by subst hs; simp [e_tv]) (by rw [e_cats]; simpa [JFrame.monitorRoom] using h8) hd ⟨hk.1, hk.2⟩
  refine e_cont hrun hS (fun v' α' L' h' H1 locs1 hq hag hP1 hD1 hS1 => ?_)
  obtain ⟨rfl, rfl, rfl⟩ := hq
  obtain ⟨rfl, -⟩ := hag.1 rfl
  have := kk G α0 _ A p e s m args below meth c H1 locs1 ls C X a hP1 hD1 hS1 hl
  rw [List.map_append] at this
  cases v' <;> exact this
end
set_option maxRecDepth 100000 in
theorem m_strCoder {l : Launch} {d : Nat} {L : eL} {h : eH} {j : Nat} (hj : j < 7) : e_Met l yJ0_coder_7d493 cJ0_coder_7d493 1 (some .byte) d 0 0 true L h [.ref (e_str + j)] (Qx (some (.int 0)) L h) := by
  refine e_metl (by decide) (Nat.le_of_ble_eq_true rfl) (lv := [(0, .ref (e_str + j))]) rfl ?_
  refine e_cmpS js_38 dJ0_coder_7d493_0 ?_
  refine e_if_eq (t := 13) dJ0_coder_7d493_3 (by decide) (fun c => absurd c (by decide)) (fun _ => ?_)
  refine e_aload_n 0 dJ0_coder_7d493_6 rfl rfl ?_
  refine e_strC hj js_15 dJ0_coder_7d493_7 ?_
  refine e_goto (t := 14) dJ0_coder_7d493_10 (by decide) ?_
  exact e_zret (ty := .byte) rfl rfl dJ0_coder_7d493_14 ⟨rfl, rfl, rfl⟩
set_option maxRecDepth 100000 in
theorem m_strLatin {l : Launch} {d : Nat} {L : eL} {h : eH} {j : Nat} (hj : j < 7) : e_Met l yJ0_isLatin1_aae02 cJ0_isLatin1_aae02 1 (some .boolean) d 0 0 true L h [.ref (e_str + j)] (Qx (some (.int 1)) L h) := by
  refine e_metl (by decide) (Nat.le_of_ble_eq_true rfl) (lv := [(0, .ref (e_str + j))]) rfl ?_
  refine e_cmpS js_38 dJ0_isLatin1_aae02_0 ?_
  refine e_if_eq (t := 17) dJ0_isLatin1_aae02_3 (by decide) (fun c => absurd c (by decide)) (fun _ => ?_)
  refine e_aload_n 0 dJ0_isLatin1_aae02_6 rfl rfl ?_
  refine e_strC hj js_15 dJ0_isLatin1_aae02_7 ?_
  refine e_if_ne (t := 17) dJ0_isLatin1_aae02_10 (by decide) (fun c => absurd rfl c) (fun _ => ?_)
  refine e_iconst (v := 1) dJ0_isLatin1_aae02_13 (by decide) ?_
  refine e_goto (t := 18) dJ0_isLatin1_aae02_14 (by decide) ?_
  exact e_zret (ty := .boolean) rfl rfl dJ0_isLatin1_aae02_18 ⟨rfl, rfl, rfl⟩
theorem e_sl0 : ∀ j, j < 7 → Int32.ofNat (e_slen.getD j 0) >>> ((0 : Int32) &&& 31) = Int32.ofNat (e_slen.getD j 0) := by decide +kernel
set_option maxRecDepth 100000 in
theorem m_strLength {l : Launch} {d : Nat} {L : eL} {h : eH} {j : Nat} (hj : j < 7) (hd : 2 ≤ d) : e_Met l yJ0_length_8abf5 cJ0_length_8abf5 1 (some .int) d 0 0 true L h [.ref (e_str + j)] (Qx (some (.int (Int32.ofNat (e_slen.getD j 0)))) L h) := by
  refine e_metl (by decide) (Nat.le_of_ble_eq_true rfl) (lv := [(0, .ref (e_str + j))]) rfl ?_
  refine e_aload_n 0 dJ0_length_8abf5_0 rfl rfl ?_
  refine e_strV hj js_9 dJ0_length_8abf5_1 ?_
  refine e_svlL hj dJ0_length_8abf5_4 ?_
  refine e_aload_n 0 dJ0_length_8abf5_5 rfl rfl ?_
  refine e_callVs (st := [.int _]) hj rfl ml_RJ0_335 k_J0_coder_7d493 (m_strCoder (d := d - 1) hj) rfl rfl (Nat.le_of_ble_eq_true rfl) ⟨by omega, by decide⟩ ⟨Nat.le_refl _, Nat.le_refl _⟩ dJ0_length_8abf5_6 ?_
  refine e_ishr dJ0_length_8abf5_9 ?_
  exact e_iret rfl dJ0_length_8abf5_10 (qT (e_sl0 j hj))
set_option maxRecDepth 100000 in
theorem m_strCheck {l : Launch} {d : Nat} {L : eL} {h : eH} {i n : Int32} (h0 : ¬ i < 0) (h1 : i < n) (hd : 2 ≤ d) : e_Met l yJ0_checkIndex_df160 cJ0_checkIndex_df160 2 none d 0 0 true L h [.int i, .int n] (Qx none L h) := by
  refine e_metl (by decide) (Nat.le_of_ble_eq_true rfl) (lv := [(0, .int i), (1, .int n)]) rfl ?_
  refine e_iload_n 0 dJ0_checkIndex_df160_0 rfl rfl ?_
  refine e_iload_n 1 dJ0_checkIndex_df160_1 rfl rfl ?_
  refine e_chk js_1053 ml_RJ0_1059 h0 h1 hd (Nat.le_of_ble_eq_true rfl) ⟨Nat.le_refl _, Nat.le_refl _⟩ dJ0_checkIndex_df160_2 dJ0_checkIndex_df160_5 ?_
  refine e_popI dJ0_checkIndex_df160_8 ?_
  exact e_vret rfl dJ0_checkIndex_df160_9 ⟨rfl, rfl, rfl⟩
theorem e_sch : ∀ j, j < 7 → ∀ i, i < e_slen.getD j 0 → ((((e_sbyt.getD j []).getD i 0) &&& 255).toUInt32 % 65536).toInt32 = (e_sbyt.getD j []).getD i 0 := by decide +kernel
theorem e_slt {j : Nat} {i : Int32} (hj : j < 7) (hi : vp_in i (e_slen.getD j 0)) : ¬ i < 0 ∧ i < Int32.ofNat (e_slen.getD j 0) ∧ i.toNatClampNeg < e_slen.getD j 0 := by
  have hb : ∀ j, j < 7 → e_slen.getD j 0 < 2 ^ 31 := by decide
  obtain ⟨q, h1, h2⟩ := vp_in_of hi (hb j hj)
  refine ⟨fun c => hi (Or.inl c), ?_, by rw [h2, nI_clamp (by have := hb j hj; omega)]; exact h1⟩
  rw [h2]
  exact nI_lt h1 (hb j hj)
set_option maxRecDepth 100000 in
theorem m_latAt {l : Launch} {d : Nat} {L : eL} {h : eH} {j : Nat} {i : Int32} (hj : j < 7) (hi : vp_in i (e_slen.getD j 0)) (hd : 3 ≤ d) : e_Met l yJ1_charAt_3b067 cJ1_charAt_3b067 2 (some .char) d 0 0 true L h [.ref (e_svl + j), .int i] (Qx (some (.int ((e_sbyt.getD j []).getD i.toNatClampNeg 0))) L h) := by
  obtain ⟨h0, h1, h2⟩ := e_slt hj hi
  refine e_metl (by decide) (Nat.le_of_ble_eq_true rfl) (lv := [(0, .ref (e_svl + j)), (1, .int i)]) rfl ?_
  refine e_iload_n 1 dJ1_charAt_3b067_0 rfl rfl ?_
  refine e_aload_n 0 dJ1_charAt_3b067_1 rfl rfl ?_
  refine e_svlL hj dJ1_charAt_3b067_2 ?_
  refine e_callS (st := []) ml_RJ1_9 k_J0_checkIndex_df160 (m_strCheck (d := d - 1) h0 h1 (by omega)) rfl rfl (Nat.le_of_ble_eq_true rfl) ⟨by omega, by decide⟩ ⟨Nat.le_refl _, Nat.le_refl _⟩ dJ1_charAt_3b067_3 ?_
  refine e_aload_n 0 dJ1_charAt_3b067_6 rfl rfl ?_
  refine e_iload_n 1 dJ1_charAt_3b067_7 rfl rfl ?_
  refine e_svlA hj hi dJ1_charAt_3b067_8 ?_
  refine e_sipush (v := 255) dJ1_charAt_3b067_9 (by decide) ?_
  refine e_iand dJ1_charAt_3b067_12 ?_
  refine e_i2c dJ1_charAt_3b067_13 ?_
  exact e_zret (ty := .char) rfl (pk_nc _) dJ1_charAt_3b067_14 (qT (e_sch j hj _ h2))
set_option maxRecDepth 100000 in
theorem m_strAt {l : Launch} {d : Nat} {L : eL} {h : eH} {j : Nat} {i : Int32} (hj : j < 7) (hi : vp_in i (e_slen.getD j 0)) (hd : 4 ≤ d) : e_Met l yJ0_charAt_5068e cJ0_charAt_5068e 2 (some .char) d 0 0 true L h [.ref (e_str + j), .int i] (Qx (some (.int ((e_sbyt.getD j []).getD i.toNatClampNeg 0))) L h) := by
  obtain ⟨h0, h1, h2⟩ := e_slt hj hi
  refine e_metl (by decide) (Nat.le_of_ble_eq_true rfl) (lv := [(0, .ref (e_str + j)), (1, .int i)]) rfl ?_
  refine e_aload_n 0 dJ0_charAt_5068e_0 rfl rfl ?_
  refine e_callVs (st := []) hj rfl ml_RJ0_492 k_J0_isLatin1_aae02 (m_strLatin (d := d - 1) hj) rfl rfl (Nat.le_of_ble_eq_true rfl) ⟨by omega, by decide⟩ ⟨Nat.le_refl _, Nat.le_refl _⟩ dJ0_charAt_5068e_1 ?_
  refine e_if_eq (t := 16) dJ0_charAt_5068e_4 (by decide) (fun c => absurd c (by decide)) (fun _ => ?_)
  refine e_aload_n 0 dJ0_charAt_5068e_7 rfl rfl ?_
  refine e_strV hj js_9 dJ0_charAt_5068e_8 ?_
  refine e_iload_n 1 dJ0_charAt_5068e_11 rfl rfl ?_
  refine e_callS (st := []) ml_RJ0_495 k_J1_charAt_3b067 (m_latAt (d := d - 1) hj hi (by omega)) rfl rfl (Nat.le_of_ble_eq_true rfl) ⟨by omega, by decide⟩ ⟨Nat.le_refl _, Nat.le_refl _⟩ dJ0_charAt_5068e_12 ?_
  refine e_zret (ty := .char) rfl ?_ dJ0_charAt_5068e_15 ⟨rfl, rfl, rfl⟩
  rw [← e_sch j hj _ h2]
  exact pk_nc _
section
variable {l : Launch} {y : MethodName} {cc : ByteArray} {nL : Nat} {ret : Option FieldType} {d mc ms : Nat} {fx : Bool} {L0 : eL} {Qa : Option Value → eL → eH → Prop} {L : eL} {h : eH} {k n pc : Nat} {lv : List (Nat × Value)} {st : List Value} {ix b : Nat} {r i : Int32}
theorem e_slen' (hw : Cond.methodLink y.cls ix yJ0_length_8abf5 ∈ e_gw) (hr : sLen b = some r) (hR : 5 ≤ d) (h8 : (st.map fun v => v.category).sum ≤ 8) (hk : k ≤ mc ∧ n ≤ ms) (hd : decode cc pc = .ok (.invokevirtual ix, 3)) (kk : E l y cc nL ret (e_rm d mc ms) mc ms fx L0 Qa L h k n (pc + 3) lv (.int r :: st)) : E l y cc nL ret (e_rm d mc ms) mc ms fx L0 Qa L h k n pc lv (.ref b :: st) := by
  unfold sLen at hr
  obtain ⟨hb, hr⟩ := e_ifq hr
  have hr := Option.some.inj hr
  subst hr
  obtain ⟨j, rfl⟩ : ∃ j, b = e_str + j := ⟨b - e_str, by omega⟩
  have hj : j < 7 := by omega
  rw [Nat.add_sub_cancel_left] at kk
  exact e_callVs (st := st) hj rfl hw k_J0_length_8abf5 (m_strLength (d := d - 1) hj (by omega)) rfl rfl h8 ⟨by omega, by decide⟩ hk hd kk
theorem e_sat (hw : Cond.methodLink y.cls ix yJ0_charAt_5068e ∈ e_gw) (hr : sAt b i = some r) (hR : 5 ≤ d) (h8 : (st.map fun v => v.category).sum ≤ 8) (hk : k ≤ mc ∧ n ≤ ms) (hd : decode cc pc = .ok (.invokevirtual ix, 3)) (kk : E l y cc nL ret (e_rm d mc ms) mc ms fx L0 Qa L h k n (pc + 3) lv (.int r :: st)) : E l y cc nL ret (e_rm d mc ms) mc ms fx L0 Qa L h k n pc lv (.int i :: .ref b :: st) := by
  unfold sAt at hr
  obtain ⟨hb, hr⟩ := e_ifq hr
  obtain ⟨hi, hr⟩ := e_ifp hr
  have hr := Option.some.inj hr
  subst hr
  obtain ⟨j, rfl⟩ : ∃ j, b = e_str + j := ⟨b - e_str, by omega⟩
  have hj : j < 7 := by omega
  rw [Nat.add_sub_cancel_left] at kk hi
  exact e_callVs (st := st) hj rfl hw k_J0_charAt_5068e (m_strAt (d := d - 1) hj hi (by omega)) rfl rfl h8 ⟨by omega, by decide⟩ hk hd kk
end
theorem e_hn {l : Launch} {y : MethodName} {cc : ByteArray} {nL : Nat} {ret : Option FieldType} {R : Room} {mc ms : Nat} {fx : Bool} {L0 : eL} {Qa : Option Value → eL → eH → Prop} {L : eL} {h h' : eH} {k n pc : Nat} {lv : List (Nat × Value)} {st : List Value} (hh : some h = some h') (kk : E l y cc nL ret R mc ms fx L0 Qa L h' k n pc lv st) : E l y cc nL ret R mc ms fx L0 Qa L h k n pc lv st := by
  have e1 := Option.some.inj hh
  rw [e1]; exact kk

/-! What each side holds, told by one abstract state: flat, rule, text, state, undone, kept, heard, row. -/
abbrev AX : Type := FV × (Nat × (Nat → Nat)) × (Nat × (Nat → Nat)) × (Nat → Int32) × (Nat × (Nat → Nat → Int32)) × (Nat × (Nat → Nat → Int32)) × (Nat × (Nat → Nat)) × List Int64
abbrev xF (X : AX) : FV := X.1
abbrev xR (X : AX) : Nat × (Nat → Nat) := X.2.1
abbrev xT (X : AX) : Nat × (Nat → Nat) := X.2.2.1
abbrev xS (X : AX) : Nat → Int32 := X.2.2.2.1
abbrev xU (X : AX) : Nat × (Nat → Nat → Int32) := X.2.2.2.2.1
abbrev xK (X : AX) : Nat × (Nat → Nat → Int32) := X.2.2.2.2.2.1
abbrev xH (X : AX) : Nat × (Nat → Nat) := X.2.2.2.2.2.2.1
abbrev xW (X : AX) : List Int64 := X.2.2.2.2.2.2.2
def CT (h : eH) (T : Nat × (Nat → Nat)) : Prop := gI h 1 1 = nI T.1 ∧ ∀ k, k < T.1 → gI h 2 k = nI (T.2 k)
def MT (h : eH) (T : Nat × (Nat → Nat)) : Prop := gI h 73 10 = nI T.1 ∧ ∀ k, k < T.1 → gI h 78 k = nI (T.2 k)
def okTx (T : Nat × (Nat → Nat)) : Prop := T.1 ≤ 80 ∧ ∀ k, k < T.1 → T.2 k < 256
def CU (h : eH) (U : Nat × (Nat → Nat → Int32)) : Prop := ∃ nx, nx < 15 ∧ gI h 6 1 = nI nx ∧ gI h 6 2 = nI U.1 ∧ ∀ j, j < U.1 → CS h (8 + 2 * ((nx + 14 - j) % 15)) (U.2 j)
def MU (h : eH) (U : Nat × (Nat → Nat → Int32)) : Prop := gI h 73 24 = nI U.1 ∧ ∀ j, j < U.1 → MS h 84 (79 * (U.1 - 1 - j)) (U.2 j)
def okU (F : FV) (B : Nat) (U : Nat × (Nat → Nat → Int32)) : Prop := U.1 ≤ 15 ∧ ∀ j, j < U.1 → okA F B (U.2 j)
def CK (h : eH) (K : Nat × (Nat → Nat → Int32)) : Prop := gI h 0 19 = nI K.1 ∧ ∀ i, i < 3 → K.1.testBit i = true → CS h (53 + 2 * i) (K.2 i)
def MK (h : eH) (K : Nat × (Nat → Nat → Int32)) : Prop := ∀ i, i < 3 → gI h 97 i = (if K.1.testBit i then 1 else 0) ∧ (K.1.testBit i = true → MS h 98 (79 * i) (K.2 i))
def okK (F : FV) (B : Nat) (K : Nat × (Nat → Nat → Int32)) : Prop := K.1 < 8 ∧ ∀ i, i < 3 → K.1.testBit i = true → okA F B (K.2 i)
def cH (w : Nat) : Nat := if w = 0 then 0 else if w = 1 then 4 else w - 1
def CH (h : eH) (H : Nat × (Nat → Nat)) : Prop := gI h 40 2 = nI H.1 ∧ ∀ k, k < H.1 → gI h 41 k = nI (cH (H.2 k))
def MH (h : eH) (H : Nat × (Nat → Nat)) : Prop := gI h 73 36 = nI H.1 ∧ ∀ k, k < H.1 → gI h 91 k = nI (H.2 k)
def okH (H : Nat × (Nat → Nat)) : Prop := H.1 ≤ 12 ∧ ∀ k, k < H.1 → H.2 k < 5
def CW (h : eH) (l : List Int64) : Prop := gI h 3 1 = nI l.length ∧ ∀ k, k < l.length → gL h 4 k = l.getD k 0
def MW (h : eH) (l : List Int64) : Prop := gI h 73 1 = nI l.length ∧ ∀ k, k < l.length → gL h 74 k = l.getD k 0
def okW (l : List Int64) : Prop := l.length ≤ 37
def CI (h : eH) (X : AX) : Prop := RefsOK h ∧ (∃ p, CF h p (xF X)) ∧ (∃ q, CR h q (xR X).1 (xR X).2) ∧ CT h (xT X) ∧ CS h 46 (xS X) ∧ CU h (xU X) ∧ CK h (xK X) ∧ CH h (xH X) ∧ CW h (xW X)
def MI (h : eH) (X : AX) : Prop := MF h (xF X) ∧ MR h (xR X).1 (xR X).2 ∧ gI h 73 23 = -1 ∧ MT h (xT X) ∧ MS h 76 0 (xS X) ∧ MU h (xU X) ∧ MK h (xK X) ∧ MH h (xH X) ∧ MW h (xW X)
def okX (B : Nat) (X : AX) : Prop := okF (xF X) ∧ okR (xR X).1 (xR X).2 ∧ okTx (xT X) ∧ okA (xF X) B (xS X) ∧ okU (xF X) B (xU X) ∧ okK (xF X) B (xK X) ∧ okH (xH X) ∧ okW (xW X)
def setS (X : AX) (S : Nat → Int32) : AX := (X.1, X.2.1, X.2.2.1, S, X.2.2.2.2)
def setU (X : AX) (U : Nat × (Nat → Nat → Int32)) : AX := (X.1, X.2.1, X.2.2.1, X.2.2.2.1, U, X.2.2.2.2.2)
def setH (X : AX) (H : Nat × (Nat → Nat)) : AX := (X.1, X.2.1, X.2.2.1, X.2.2.2.1, X.2.2.2.2.1, X.2.2.2.2.2.1, H, X.2.2.2.2.2.2.2)
def setW (X : AX) (l : List Int64) : AX := (X.1, X.2.1, X.2.2.1, X.2.2.2.1, X.2.2.2.2.1, X.2.2.2.2.2.1, X.2.2.2.2.2.2.1, l)
def setT (X : AX) (T : Nat × (Nat → Nat)) : AX := (X.1, X.2.1, T, X.2.2.2)
/-- the class's cells, the reference's cells -/
def cls (j _k : Nat) : Prop := j < 73
def mdl (j _k : Nat) : Prop := 73 ≤ j
theorem o_I {W : Nat → Nat → Prop} {h h' : eH} (ho : only W h h') {j k : Nat} (hW : ¬ W j k) : gI h' j k = gI h j k := (ho.1 j k hW).1
theorem o_L {W : Nat → Nat → Prop} {h h' : eH} (ho : only W h h') {j k : Nat} (hW : ¬ W j k) : gL h' j k = gL h j k := (ho.1 j k hW).2
theorem CT_only {W : Nat → Nat → Prop} {h h' : eH} {T : Nat × (Nat → Nat)} (ho : only W h h') (hW : ∀ j k, j = 1 ∨ j = 2 → ¬ W j k) (hc : CT h T) : CT h' T := ⟨(o_I ho (hW 1 _ (by omega))).trans hc.1, fun k hk => (o_I ho (hW 2 _ (by omega))).trans (hc.2 k hk)⟩
theorem MT_only {W : Nat → Nat → Prop} {h h' : eH} {T : Nat × (Nat → Nat)} (ho : only W h h') (hW : ¬ W 73 10) (hW2 : ∀ k, ¬ W 78 k) (hc : MT h T) : MT h' T := ⟨(o_I ho hW).trans hc.1, fun k hk => (o_I ho (hW2 k)).trans (hc.2 k hk)⟩
theorem CU_only {W : Nat → Nat → Prop} {h h' : eH} {U : Nat × (Nat → Nat → Int32)} (ho : only W h h') (hW : ∀ j k, j = 6 ∨ (8 ≤ j ∧ j ≤ 37) → ¬ W j k) (hc : CU h U) : CU h' U := by
  obtain ⟨nx, n1, n2, n3, n4⟩ := hc
  refine ⟨nx, n1, (o_I ho (hW 6 _ (by omega))).trans n2, (o_I ho (hW 6 _ (by omega))).trans n3, fun j hj => ?_⟩
  have hm : (nx + 14 - j) % 15 < 15 := Nat.mod_lt _ (by decide)
  exact CS_only ho (fun k => ⟨hW _ _ (by omega), hW _ _ (by omega)⟩) (n4 j hj)
theorem MU_only {W : Nat → Nat → Prop} {h h' : eH} {U : Nat × (Nat → Nat → Int32)} (ho : only W h h') (hW : ¬ W 73 24) (hW2 : ∀ k, ¬ W 84 k) (hc : MU h U) : MU h' U := ⟨(o_I ho hW).trans hc.1, fun j hj => MS_only ho hW2 (hc.2 j hj)⟩
theorem CK_only {W : Nat → Nat → Prop} {h h' : eH} {K : Nat × (Nat → Nat → Int32)} (ho : only W h h') (hW : ¬ W 0 19) (hW2 : ∀ j k, 53 ≤ j → j ≤ 58 → ¬ W j k) (hc : CK h K) : CK h' K := ⟨(o_I ho hW).trans hc.1, fun i hi ht => CS_only ho (fun k => ⟨hW2 _ _ (by omega) (by omega), hW2 _ _ (by omega) (by omega)⟩) (hc.2 i hi ht)⟩
theorem MK_only {W : Nat → Nat → Prop} {h h' : eH} {K : Nat × (Nat → Nat → Int32)} (ho : only W h h') (hW : ∀ k, ¬ W 97 k) (hW2 : ∀ k, ¬ W 98 k) (hc : MK h K) : MK h' K := fun i hi => ⟨(o_I ho (hW i)).trans (hc i hi).1, fun ht => MS_only ho hW2 ((hc i hi).2 ht)⟩
theorem CH_only {W : Nat → Nat → Prop} {h h' : eH} {H : Nat × (Nat → Nat)} (ho : only W h h') (hW : ∀ j k, j = 40 ∨ j = 41 → ¬ W j k) (hc : CH h H) : CH h' H := ⟨(o_I ho (hW 40 _ (by omega))).trans hc.1, fun k hk => (o_I ho (hW 41 _ (by omega))).trans (hc.2 k hk)⟩
theorem MH_only {W : Nat → Nat → Prop} {h h' : eH} {H : Nat × (Nat → Nat)} (ho : only W h h') (hW : ¬ W 73 36) (hW2 : ∀ k, ¬ W 91 k) (hc : MH h H) : MH h' H := ⟨(o_I ho hW).trans hc.1, fun k hk => (o_I ho (hW2 k)).trans (hc.2 k hk)⟩
theorem CW_only {W : Nat → Nat → Prop} {h h' : eH} {l : List Int64} (ho : only W h h') (hW : ∀ j k, j = 3 ∨ j = 4 → ¬ W j k) (hc : CW h l) : CW h' l := ⟨(o_I ho (hW 3 _ (by omega))).trans hc.1, fun k hk => (o_L ho (hW 4 _ (by omega))).trans (hc.2 k hk)⟩
theorem MW_only {W : Nat → Nat → Prop} {h h' : eH} {l : List Int64} (ho : only W h h') (hW : ¬ W 73 1) (hW2 : ∀ k, ¬ W 74 k) (hc : MW h l) : MW h' l := ⟨(o_I ho hW).trans hc.1, fun k hk => (o_L ho (hW2 k)).trans (hc.2 k hk)⟩
/-- the other side's writing leaves one's own as it was -/
theorem CI_mdl {h h' : eH} {X : AX} (ho : only mdl h h') (hc : CI h X) : CI h' X := by
  obtain ⟨c1, ⟨p, c2⟩, ⟨q, c3⟩, c4, c5, c6, c7, c8, c9⟩ := hc
  exact ⟨only_refs ho c1, ⟨p, CF_only ho (fun j k a b => by unfold mdl; omega) c2⟩, ⟨q, CR_only ho (fun j k a => by unfold mdl; omega) c3⟩, CT_only ho (fun j k a => by unfold mdl; omega) c4, CS_only ho (fun k => by unfold mdl; omega) c5, CU_only ho (fun j k a => by unfold mdl; omega) c6, CK_only ho (by unfold mdl; omega) (fun j k a b => by unfold mdl; omega) c7, CH_only ho (fun j k a => by unfold mdl; omega) c8, CW_only ho (fun j k a => by unfold mdl; omega) c9⟩
theorem MI_cls {h h' : eH} {X : AX} (ho : only cls h h') (hc : MI h X) : MI h' X := by
  obtain ⟨c1, c2, c3, c4, c5, c6, c7, c8, c9⟩ := hc
  exact ⟨MF_only ho (fun k a => by unfold cls; omega) (fun k => by unfold cls; omega) c1, MR_only ho (by unfold cls; omega) (fun k => by unfold cls; omega) c2, (o_I ho (by unfold cls; omega)).trans c3, MT_only ho (by unfold cls; omega) (fun k => by unfold cls; omega) c4, MS_only ho (fun k => by unfold cls; omega) c5, MU_only ho (by unfold cls; omega) (fun k => by unfold cls; omega) c6, MK_only ho (fun k => by unfold cls; omega) (fun k => by unfold cls; omega) c7, MH_only ho (by unfold cls; omega) (fun k => by unfold cls; omega) c8, MW_only ho (by unfold cls; omega) (fun k => by unfold cls; omega) c9⟩
/-- scratch cells of the class, of the reference -/
def csc (j _k : Nat) : Prop := j = 38 ∨ j = 39 ∨ (42 ≤ j ∧ j ≤ 45) ∨ (48 ≤ j ∧ j ≤ 51) ∨ (59 ≤ j ∧ j ≤ 62) ∨ j = 69 ∨ j = 72
def msc (j k : Nat) : Prop := (j = 73 ∧ (k = 0 ∨ (11 ≤ k ∧ k ≤ 13) ∨ k = 15 ∨ k = 16 ∨ k = 20 ∨ k = 28 ∨ k = 29 ∨ k = 34 ∨ k = 35 ∨ k = 43)) ∨ j = 77 ∨ j = 79 ∨ (81 ≤ j ∧ j ≤ 83) ∨ (85 ≤ j ∧ j ≤ 90) ∨ (92 ≤ j ∧ j ≤ 96) ∨ j = 99
def cscW (j k : Nat) : Prop := csc j k ∨ j = 3 ∨ j = 4
def mscW (j k : Nat) : Prop := msc j k ∨ (j = 73 ∧ k = 1) ∨ j = 74
theorem csc_cls {j k : Nat} (h : csc j k) : cls j k := by unfold csc at h; unfold cls; omega
theorem cscW_cls {j k : Nat} (h : cscW j k) : cls j k := by unfold cscW csc at h; unfold cls; omega
theorem msc_mdl {j k : Nat} (h : msc j k) : mdl j k := by unfold msc at h; unfold mdl; omega
theorem mscW_mdl {j k : Nat} (h : mscW j k) : mdl j k := by unfold mscW msc at h; unfold mdl; omega
theorem CI_row {h h' : eH} {X : AX} {l : List Int64} (ho : only cscW h h') (hl : CW h' l) (hc : CI h X) : CI h' (setW X l) := by
  obtain ⟨c1, ⟨p, c2⟩, ⟨q, c3⟩, c4, c5, c6, c7, c8, c9⟩ := hc
  exact ⟨only_refs ho c1, ⟨p, CF_only ho (fun j k a b => by unfold cscW csc; omega) c2⟩, ⟨q, CR_only ho (fun j k a => by unfold cscW csc; omega) c3⟩, CT_only ho (fun j k a => by unfold cscW csc; omega) c4, CS_only ho (fun k => by unfold cscW csc; omega) c5, CU_only ho (fun j k a => by unfold cscW csc; omega) c6, CK_only ho (by unfold cscW csc; omega) (fun j k a b => by unfold cscW csc; omega) c7, CH_only ho (fun j k a => by unfold cscW csc; omega) c8, hl⟩
theorem CI_scr {h h' : eH} {X : AX} (ho : only csc h h') (hc : CI h X) : CI h' X := CI_row (l := xW X) (only_mono (fun _ _ x => Or.inl x) ho) (CW_only ho (fun j k a => by unfold csc; omega) hc.2.2.2.2.2.2.2.2) hc
theorem MI_row {h h' : eH} {X : AX} {l : List Int64} (ho : only mscW h h') (hl : MW h' l) (hc : MI h X) : MI h' (setW X l) := by
  obtain ⟨c1, c2, c3, c4, c5, c6, c7, c8, c9⟩ := hc
  exact ⟨MF_only ho (fun k a => by unfold mscW msc; omega) (fun k => by unfold mscW msc; omega) c1, MR_only ho (by unfold mscW msc; omega) (fun k => by unfold mscW msc; omega) c2, (o_I ho (by unfold mscW msc; omega)).trans c3, MT_only ho (by unfold mscW msc; omega) (fun k => by unfold mscW msc; omega) c4, MS_only ho (fun k => by unfold mscW msc; omega) c5, MU_only ho (by unfold mscW msc; omega) (fun k => by unfold mscW msc; omega) c6, MK_only ho (fun k => by unfold mscW msc; omega) (fun k => by unfold mscW msc; omega) c7, MH_only ho (by unfold mscW msc; omega) (fun k => by unfold mscW msc; omega) c8, hl⟩
theorem MI_scr {h h' : eH} {X : AX} (ho : only msc h h') (hc : MI h X) : MI h' X := MI_row (l := xW X) (only_mono (fun _ _ x => Or.inl x) ho) (MW_only ho (by unfold msc; omega) (fun k => by unfold msc; omega) hc.2.2.2.2.2.2.2.2) hc
theorem thr_M {h : eH} : only msc h (sI h 73 0 0) := only_sI (Or.inl ⟨rfl, Or.inl rfl⟩)
/-! the row -/
theorem getD_app {l : List Int64} {v : Int64} {k : Nat} (hk : k < (l ++ [v]).length) : (l ++ [v]).getD k 0 = if k = l.length then v else l.getD k 0 := by
  rw [List.length_append] at hk
  have hk : k < l.length + 1 := hk
  by_cases h : k = l.length
  · subst h; rw [if_pos rfl]; simp [List.getD]
  · rw [if_neg h]; simp [List.getD, List.getElem?_append_left (show k < l.length by omega)]
theorem rowbeg_C (h : eH) : f_X3_begin LF h 3 = some (sI h 3 1 0) ∧ CW (sI h 3 1 0) [] := by
  unfold f_X3_begin
  rw [if_pos iO_3]
  exact ⟨rfl, by rw [gI_sI, if_pos ⟨rfl, rfl⟩]; rfl, fun k hk => absurd hk (Nat.not_lt_zero k)⟩
theorem rowadd_C {h : eH} {l : List Int64} (hR : RefsOK h) (hl : CW h l) (h37 : l.length < 37) (v : Int64) : ∃ h', f_X3_add LF h 3 v = some h' ∧ CW h' (l ++ [v]) ∧ only (fun j _ => j = 3 ∨ j = 4) h h' := by
  have e1 : gI (sL h 4 l.length v) 3 1 = nI l.length := hl.1
  unfold f_X3_add
  rw [if_pos iO_3, hl.1, if_neg (nI_pos (by omega)), if_neg (show ¬ (37 : Int32) ≤ nI l.length from nI_ge (b := 37) h37 (by decide)), r_3_0 hR, Option.bind_some, iA_4, if_pos (in_nI h37 (by decide)), nI_clamp (by omega), e1, Option.bind_some, nI_1]
  refine ⟨_, rfl, ⟨?_, fun k hk => ?_⟩, only_trans (only_sL (Or.inr rfl)) (only_sI (Or.inl rfl))⟩
  · rw [gI_sI, if_pos ⟨rfl, rfl⟩, List.length_append]; rfl
  · rw [getD_app hk, gL_sI, gL_sL]
    by_cases hkl : k = l.length
    · rw [if_pos ⟨rfl, hkl⟩, if_pos hkl]
    · rw [if_neg (by omega), if_neg hkl]
      rw [List.length_append] at hk
      have hk : k < l.length + 1 := hk
      exact hl.2 k (by omega)
theorem rowadd_M {h : eH} {l : List Int64} (hR : RefsOK h) (hl : MW h l) (h48 : l.length < 48) (v : Int64) : ∃ h', f_X11_enters LF h 73 v = some h' ∧ MW h' (l ++ [v]) ∧ only (fun j k => (j = 73 ∧ k = 1) ∨ j = 74) h h' := by
  have e1 : gI (sL h 74 l.length v) 73 1 = nI l.length := hl.1
  unfold f_X11_enters
  rw [if_pos iO_73, hl.1, r_73_2 hR, Option.bind_some, iA_74, if_pos (in_nI h48 (by decide)), nI_clamp (by omega), e1, Option.bind_some, nI_1]
  refine ⟨_, rfl, ⟨?_, fun k hk => ?_⟩, only_trans (only_sL (Or.inr rfl)) (only_sI (Or.inl ⟨rfl, rfl⟩))⟩
  · rw [gI_sI, if_pos ⟨rfl, rfl⟩, List.length_append]; rfl
  · rw [getD_app hk, gL_sI, gL_sL]
    by_cases hkl : k = l.length
    · rw [if_pos ⟨rfl, hkl⟩, if_pos hkl]
    · rw [if_neg (by omega), if_neg hkl]
      rw [List.length_append] at hk
      have hk : k < l.length + 1 := hk
      exact hl.2 k (by omega)
theorem rowbeg_M (h : eH) : MW (sI h 73 1 0) [] := ⟨by rw [gI_sI, if_pos ⟨rfl, rfl⟩]; rfl, fun k hk => absurd hk (Nat.not_lt_zero k)⟩
/-! forget, the first call in the new form -/
theorem forget_C {h : eH} {X : AX} (hc : CI h X) : ∃ h', f_X10_forget LF h 0 = some (h', nI (xH X).1) ∧ CI h' (setH X (0, (xH X).2)) ∧ only cls h h' := by
  obtain ⟨c1, ⟨p, c2⟩, ⟨q, c3⟩, c4, c5, c6, c7, c8, c9⟩ := hc
  unfold f_X10_forget f_X0_size f_X0_clear
  rw [if_pos iO_0, r_0_5 c1, Option.bind_some, if_pos iO_40, if_pos iO_40, Option.bind_some, Option.bind_some, if_pos iO_40, if_pos iO_40, Option.bind_some, c8.1]
  have ho : only (fun j _ => j = 40) h (sI h 40 2 0) := only_sI rfl
  refine ⟨_, rfl, ⟨only_refs ho c1, ⟨p, CF_only ho (fun j k a b => by omega) c2⟩, ⟨q, CR_only ho (fun j k a => by omega) c3⟩, CT_only ho (fun j k a => by omega) c4, CS_only ho (fun k => by omega) c5, CU_only ho (fun j k a => by omega) c6, CK_only ho (by omega) (fun j k a b => by omega) c7, ⟨?_, fun k hk => absurd hk (Nat.not_lt_zero k)⟩, CW_only ho (fun j k a => by omega) c9⟩, only_mono (fun j k a => by unfold cls; omega) ho⟩
  rw [gI_sI, if_pos ⟨rfl, rfl⟩]; rfl
theorem forget_M {h : eH} {X : AX} (hc : MI h X) : ∃ h', f_X11_forget LF h 73 = some (h', nI (xH X).1) ∧ MI h' (setH X (0, (xH X).2)) ∧ only mdl h h' := by
  obtain ⟨c1, c2, c3, c4, c5, c6, c7, c8, c9⟩ := hc
  have e : gI (sI h 73 0 0) 73 36 = nI (xH X).1 := by rw [gI_sI, if_neg (by omega)]; exact c8.1
  unfold f_X11_forget
  rw [if_pos iO_73, e]
  have ho : only (fun j k => j = 73 ∧ (k = 0 ∨ k = 36)) h (sI (sI h 73 0 0) 73 36 0) := only_trans (only_sI ⟨rfl, Or.inl rfl⟩) (only_sI ⟨rfl, Or.inr rfl⟩)
  refine ⟨_, rfl, ⟨MF_only ho (fun k a => by omega) (fun k => by omega) c1, MR_only ho (by omega) (fun k => by omega) c2, (o_I ho (by omega)).trans c3, MT_only ho (by omega) (fun k => by omega) c4, MS_only ho (fun k => by omega) c5, MU_only ho (by omega) (fun k => by omega) c6, MK_only ho (fun k => by omega) (fun k => by omega) c7, ⟨?_, fun k hk => absurd hk (Nat.not_lt_zero k)⟩, MW_only ho (by omega) (fun k => by omega) c9⟩, only_mono (fun j k a => by unfold mdl; omega) ho⟩
  rw [gI_sI, if_pos ⟨rfl, rfl⟩]; rfl

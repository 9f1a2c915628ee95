/-! THE TEXT on both sides: sign, end. -/
theorem in_nI {N k : Nat} (hk : k < N) (hN : N < 2 ^ 31) : (!(decide (nI k < 0)) && decide ((nI k).toNatClampNeg < N)) = true := by
  have h1 : ¬ nI k < 0 := nI_pos (by omega)
  rw [nI_clamp (by omega)]
  simp [h1, hk]
theorem fu_s (m : Nat) (hm : m ≤ 3000) : ∃ n, e_fu = n + m + 1 := ⟨3999 - m, by unfold e_fu; omega⟩
theorem nI_p1 (n : Nat) : nI n + Int32.ofInt 1 = nI (n + 1) := nI_succ n ▸ rfl
/-- the i-th of the four signs of v -/
def sg (v : Int32) (i : Nat) : Int32 := ((v.toUInt32 >>> ((24 - (8 * nI i)).toUInt32 &&& Int32.toUInt32 31)).toInt32) &&& 255
def sm (v : Int32) (i : Nat) : Int32 := (v >>> ((24 - (8 * nI i)) &&& 31)) &&& 255
/-- m entries f i, f (i + 1), .. are written from place n + i of the array c on -/
def wrI (c n : Nat) (f : Nat → Int32) : Nat → Nat → eH → eH
  | 0, _, h => h
  | m + 1, i, h => wrI c n f m (i + 1) (sI h c (n + i) (f i))
theorem wrI_gI {c n : Nat} {f : Nat → Int32} : ∀ (m i : Nat) (h : eH) (j k : Nat), gI (wrI c n f m i h) j k = if j = c ∧ n + i ≤ k ∧ k < n + i + m then f (k - n) else gI h j k
  | 0, i, h, j, k => by
    have : ¬ (j = c ∧ n + i ≤ k ∧ k < n + i + 0) := by omega
    rw [if_neg this]; rfl
  | m + 1, i, h, j, k => by
    show gI (wrI c n f m (i + 1) (sI h c (n + i) (f i))) j k = _
    rw [wrI_gI m (i + 1)]
    by_cases h1 : j = c ∧ n + (i + 1) ≤ k ∧ k < n + (i + 1) + m
    · rw [if_pos h1, if_pos (by omega)]
    · rw [if_neg h1, gI_sI]
      by_cases h2 : j = c ∧ k = n + i
      · rw [if_pos h2, if_pos (by omega), h2.2, Nat.add_sub_cancel_left]
      · rw [if_neg h2, if_neg (by omega)]
theorem wrI_gL {c n : Nat} {f : Nat → Int32} : ∀ (m i : Nat) (h : eH) (j k : Nat), gL (wrI c n f m i h) j k = gL h j k
  | 0, _, _, _, _ => rfl
  | m + 1, i, h, j, k => wrI_gL m (i + 1) _ j k
theorem wrI_gR {c n : Nat} {f : Nat → Int32} : ∀ (m i : Nat) (h : eH) (j k : Nat), gR (wrI c n f m i h) j k = gR h j k
  | 0, _, _, _, _ => rfl
  | m + 1, i, h, j, k => wrI_gR m (i + 1) _ j k
theorem wrI_refs {c n m i : Nat} {f : Nat → Int32} {h : eH} (hR : RefsOK h) : RefsOK (wrI c n f m i h) := fun q hq => by rw [wrI_gR]; exact hR q hq
theorem addFour_loop {k57 : eH → Nat → Option (eH × Int32)} {v : Int32} {n : Nat} : ∀ (m i fu : Nat) (h : eH), i + m = 4 → n + 4 ≤ 80 → RefsOK h → gI h 1 1 = nI n → f_X8_addFour_L22 LF (fu + m + 1) k57 h 1 v (nI i) = k57 (wrI 2 n (sg v) m i h) 1 := by
  intro m
  induction m with
  | zero =>
    intro i fu h hi hn hR hl
    have : i = 4 := by omega
    subst this
    unfold f_X8_addFour_L22
    rw [if_pos (by decide)]
    rfl
  | succ m ih =>
    intro i fu h hi hn hR hl
    unfold f_X8_addFour_L22
    rw [if_neg (show ¬ (4 : Int32) ≤ nI i from nI_ge (b := 4) (by omega) (by decide)), if_pos iO_1, r_1_0 hR, Option.bind_some, hl, nI_add, iA_2, if_pos (in_nI (by omega) (by decide)), nI_clamp (by omega), nI_p1]
    exact ih (i + 1) fu _ (by omega) hn (refs_sI hR) (by rw [gI_sI, if_neg (by omega)]; exact hl)
theorem addFour_loop0 {k57 : eH → Nat → Option (eH × Int32)} {v : Int32} {n : Nat} (fu : Nat) (h : eH) (hn : n + 4 ≤ 80) (hR : RefsOK h) (hl : gI h 1 1 = nI n) : f_X8_addFour_L22 LF (fu + 4 + 1) k57 h 1 v 0 = k57 (wrI 2 n (sg v) 4 0 h) 1 := addFour_loop 4 0 fu h rfl hn hR hl
theorem addFour_ok {h : eH} (hR : RefsOK h) {n : Nat} (hn : n + 4 ≤ 80) (hl : gI h 1 1 = nI n) (v : Int32) : f_X8_addFour LF h 1 v = some (sI (wrI 2 n (sg v) 4 0 h) 1 1 (nI (n + 4)), 1) := by
  have c2 : nI n + 4 ≤ 80 := by
    rw [show (4 : Int32) = nI 4 from rfl, nI_add]
    exact nI_le (b := 80) hn (by decide)
  obtain ⟨q, hq⟩ := fu_s 4 (by decide)
  have hl2 : gI (wrI 2 n (sg v) 4 0 h) 1 1 = nI n := by rw [wrI_gI, if_neg (by omega)]; exact hl
  unfold f_X8_addFour
  rw [if_pos iO_1, hl, if_neg (nI_pos (by omega)), if_pos c2, hq, addFour_loop0 q h hn hR hl]
  simp only [iO_1, if_true, hl2]
  rw [show (4 : Int32) = nI 4 from rfl, nI_add]
theorem addFour_no {h : eH} {n : Nat} (hn : n ≤ 80) (h4 : ¬ n + 4 ≤ 80) (hl : gI h 1 1 = nI n) (v : Int32) : f_X8_addFour LF h 1 v = some (h, 0) := by
  have c2 : ¬ nI n + 4 ≤ 80 := by
    rw [show (4 : Int32) = nI 4 from rfl, nI_add]
    exact nI_ge (a := 80) (by omega) (by omega)
  unfold f_X8_addFour
  rw [if_pos iO_1, hl, if_neg (nI_pos (by omega)), if_neg c2]
theorem sign_C {h : eH} (hR : RefsOK h) {n : Nat} (hn : n ≤ 80) (hl : gI h 1 1 = nI n) (v : Int32) : f_X10_sign LF h 0 v = if n + 4 ≤ 80 then some (sI (wrI 2 n (sg v) 4 0 h) 1 1 (nI (n + 4)), nI (n + 4)) else some (h, -1) := by
  unfold f_X10_sign
  rw [if_pos iO_0, r_0_0 hR, Option.bind_some, if_pos iO_1]
  by_cases h4 : n + 4 ≤ 80
  · rw [addFour_ok hR h4 hl, Option.bind_some, if_pos h4, if_neg (show ¬ (1 : Int32) = 0 by decide)]
    have hR2 : RefsOK (sI (wrI 2 n (sg v) 4 0 h) 1 1 (nI (n + 4))) := refs_sI (wrI_refs hR)
    rw [r_0_0 hR2, Option.bind_some, if_pos iO_1]
    simp only [f_X8_size, iO_1, if_true, Option.bind_some, gI_sI, and_self]
  · rw [addFour_no hn h4 hl, Option.bind_some, if_pos rfl, if_neg h4]
theorem sign_loopM {k53 : eH → Nat → Option (eH × Int32)} {v : Int32} {n : Nat} : ∀ (m i fu : Nat) (h : eH), i + m = 4 → n + 4 ≤ 80 → RefsOK h → gI h 73 10 = nI n → f_X11_sign_L18 LF (fu + m + 1) k53 h 73 v (nI i) = k53 (wrI 78 n (sm v) m i h) 73 := by
  intro m
  induction m with
  | zero =>
    intro i fu h hi hn hR hl
    have : i = 4 := by omega
    subst this
    unfold f_X11_sign_L18
    rw [if_pos (by decide)]
    rfl
  | succ m ih =>
    intro i fu h hi hn hR hl
    unfold f_X11_sign_L18
    rw [if_neg (show ¬ (4 : Int32) ≤ nI i from nI_ge (b := 4) (by omega) (by decide)), if_pos iO_73, r_73_9 hR, Option.bind_some, hl, nI_add, iA_78, if_pos (in_nI (by omega) (by decide)), nI_clamp (by omega), nI_p1]
    exact ih (i + 1) fu _ (by omega) hn (refs_sI hR) (by rw [gI_sI, if_neg (by omega)]; exact hl)
theorem sign_loopM0 {k53 : eH → Nat → Option (eH × Int32)} {v : Int32} {n : Nat} (fu : Nat) (h : eH) (hn : n + 4 ≤ 80) (hR : RefsOK h) (hl : gI h 73 10 = nI n) : f_X11_sign_L18 LF (fu + 4 + 1) k53 h 73 v 0 = k53 (wrI 78 n (sm v) 4 0 h) 73 := sign_loopM 4 0 fu h rfl hn hR hl
theorem sign_M {h : eH} (hR : RefsOK h) {n : Nat} (hn : n ≤ 80) (hl : gI h 73 10 = nI n) (v : Int32) : f_X11_sign LF h 73 v = if n + 4 ≤ 80 then some (sI (wrI 78 n (sm v) 4 0 (sI h 73 0 0)) 73 10 (nI (n + 4)), nI (n + 4)) else some (sI h 73 0 0, -1) := by
  have hl1 : gI (sI h 73 0 0) 73 10 = nI n := by rw [gI_sI, if_neg (by omega)]; exact hl
  unfold f_X11_sign
  rw [if_pos iO_73, hl1]
  by_cases h4 : n + 4 ≤ 80
  · obtain ⟨q, hq⟩ := fu_s 4 (by decide)
    have hl2 : gI (wrI 78 n (sm v) 4 0 (sI h 73 0 0)) 73 10 = nI n := by rw [wrI_gI, if_neg (by omega)]; exact hl1
    rw [if_pos (show nI n ≤ 76 from nI_le (b := 76) (by omega) (by decide)), if_pos h4, hq, sign_loopM0 q _ h4 (refs_sI hR) hl1]
    simp only [iO_73, if_true, hl2, gI_sI, and_self]
    rw [show (4 : Int32) = nI 4 from rfl, nI_add]
  · rw [if_neg (show ¬ nI n ≤ 76 from nI_ge (a := 76) (by omega) (by omega)), if_neg h4]
theorem sg_amt : ∀ i, i < 4 → (24 : Int32) - 8 * nI i = nI (24 - 8 * i) := by decide +kernel
theorem sg_sm (v : Int32) {i : Nat} (hi : i < 4) : sg v i = sm v i := by
  unfold sg sm
  rw [sg_amt i hi]
  apply b_ext
  intro j hj
  rw [b_and, b_and, b_255, b_ushr _ (by omega), b_sshr _ (by omega) _ hj]
  by_cases h8 : j < 8
  · rw [if_pos (by omega)]
  · simp [h8]
def sgN (v : Int32) (i : Nat) : Nat := ((v.toUInt32 >>> ((24 - (8 * nI i)).toUInt32 &&& Int32.toUInt32 31)).toInt32).toBitVec.toNat % 2 ^ 8
theorem sg_nI (v : Int32) (i : Nat) : sg v i = nI (sgN v i) := pk_and _ 8 (by decide)
theorem sgN_lt (v : Int32) (i : Nat) : sgN v i < 256 := Nat.mod_lt _ (by decide)
/-- THE TEXT on both sides: n signs t -/
def RT (h : eH) (n : Nat) (t : Nat → Nat) : Prop := n ≤ 80 ∧ gI h 1 1 = nI n ∧ gI h 73 10 = nI n ∧ ∀ k, k < n → t k < 256 ∧ gI h 2 k = nI (t k) ∧ gI h 78 k = nI (t k)
theorem RT_congr {h h' : eH} {n : Nat} {t : Nat → Nat} (h1 : gI h' 1 1 = gI h 1 1) (h2 : gI h' 73 10 = gI h 73 10) (h3 : ∀ k, gI h' 2 k = gI h 2 k) (h4 : ∀ k, gI h' 78 k = gI h 78 k) (hr : RT h n t) : RT h' n t :=
  ⟨hr.1, h1.trans hr.2.1, h2.trans hr.2.2.1, fun k hk => ⟨(hr.2.2.2 k hk).1, (h3 k).trans (hr.2.2.2 k hk).2.1, (h4 k).trans (hr.2.2.2 k hk).2.2⟩⟩
/-- sign: both answer alike, and THE TEXT is alike again; what else is written: the model's thrown -/
theorem sign_rel {h : eH} (hR : RefsOK h) {n : Nat} {t : Nat → Nat} (hT : RT h n t) (v : Int32) : ∃ (h1 h2 : eH) (r : Int32) (n' : Nat) (t' : Nat → Nat), f_X10_sign LF h 0 v = some (h1, r) ∧ f_X11_sign LF h1 73 v = some (h2, r) ∧ RT h2 n' t' ∧ RefsOK h2 ∧ (∀ j k, gL h2 j k = gL h j k) ∧ (∀ j k, gR h2 j k = gR h j k) ∧ (∀ j k, j ≠ 1 → j ≠ 2 → j ≠ 78 → ¬ (j = 73 ∧ (k = 0 ∨ k = 10)) → gI h2 j k = gI h j k) ∧ gI h2 73 0 = 0 := by
  obtain ⟨hn, hl, hm, ht⟩ := hT
  by_cases h4 : n + 4 ≤ 80
  · have e1 := sign_C hR hn hl v
    rw [if_pos h4] at e1
    have hR1 : RefsOK (sI (wrI 2 n (sg v) 4 0 h) 1 1 (nI (n + 4))) := refs_sI (wrI_refs hR)
    have hm1 : gI (sI (wrI 2 n (sg v) 4 0 h) 1 1 (nI (n + 4))) 73 10 = nI n := by
      rw [gI_sI, if_neg (by omega), wrI_gI, if_neg (by omega)]; exact hm
    have e2 := sign_M hR1 hn hm1 v
    rw [if_pos h4] at e2
    refine ⟨_, _, _, n + 4, fun k => if k < n then t k else sgN v (k - n), e1, e2, ⟨h4, ?_, ?_, fun k hk => ⟨?_, ?_, ?_⟩⟩, refs_sI (wrI_refs (refs_sI hR1)), ?_, ?_, ?_, ?_⟩
    · rw [gI_sI, if_neg (by omega), wrI_gI, if_neg (by omega), gI_sI, if_neg (by omega), gI_sI, if_pos ⟨rfl, rfl⟩]
    · rw [gI_sI, if_pos ⟨rfl, rfl⟩]
    · show (if k < n then t k else sgN v (k - n)) < 256
      split
      · exact (ht k (by assumption)).1
      · exact sgN_lt _ _
    · show _ = nI (if k < n then t k else sgN v (k - n))
      rw [gI_sI, if_neg (by omega), wrI_gI, if_neg (by omega), gI_sI, if_neg (by omega), gI_sI, if_neg (by omega), wrI_gI]
      by_cases hk2 : k < n
      · rw [if_neg (by omega), if_pos hk2]; exact (ht k hk2).2.1
      · rw [if_pos (by omega), if_neg hk2]; exact sg_nI v (k - n)
    · show _ = nI (if k < n then t k else sgN v (k - n))
      rw [gI_sI, if_neg (by omega), wrI_gI]
      by_cases hk2 : k < n
      · rw [if_neg (by omega), if_pos hk2, gI_sI, if_neg (by omega), gI_sI, if_neg (by omega), wrI_gI, if_neg (by omega)]
        exact (ht k hk2).2.2
      · rw [if_pos (by omega), if_neg hk2, ← sg_nI]; exact (sg_sm v (by omega)).symm
    · intro j k
      rw [gL_sI, wrI_gL, gL_sI, gL_sI, wrI_gL]
    · intro j k
      rw [gR_sI, wrI_gR, gR_sI, gR_sI, wrI_gR]
    · intro j k a1 a2 a3 a4
      rw [gI_sI, if_neg (by omega), wrI_gI, if_neg (by omega), gI_sI, if_neg (by omega), gI_sI, if_neg (by omega), wrI_gI, if_neg (by omega)]
    · rw [gI_sI, if_neg (by omega), wrI_gI, if_neg (by omega), gI_sI, if_pos ⟨rfl, rfl⟩]
  · have e1 := sign_C hR hn hl v
    rw [if_neg h4] at e1
    have e2 := sign_M hR hn hm v
    rw [if_neg h4] at e2
    refine ⟨_, _, _, n, t, e1, e2, RT_congr ?_ ?_ ?_ ?_ ⟨hn, hl, hm, ht⟩, refs_sI hR, fun _ _ => rfl, fun _ _ => rfl, ?_, ?_⟩
    · rw [gI_sI, if_neg (by omega)]
    · rw [gI_sI, if_neg (by omega)]
    · intro k; rw [gI_sI, if_neg (by omega)]
    · intro k; rw [gI_sI, if_neg (by omega)]
    · intro j k a1 a2 a3 a4
      rw [gI_sI, if_neg (by omega)]
    · rw [gI_sI, if_pos ⟨rfl, rfl⟩]

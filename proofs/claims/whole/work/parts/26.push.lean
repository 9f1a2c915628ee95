/-! Remembering a state, on both sides. -/
theorem mn15 {n : Nat} (h : n ≤ 15) : mnI (nI n + 1) 15 = nI (min (n + 1) 15) := by
  have : ∀ n, n ≤ 15 → mnI (nI n + 1) 15 = nI (min (n + 1) 15) := by decide +kernel
  exact this n h
theorem push_ok {h : eH} (hR : RefsOK h) {len nx b : Nat} (hb : b ∈ stL) (hl : len ≤ 15) (hn : nx < 15) (h2 : gI h 6 2 = nI len) (h1 : gI h 6 1 = nI nx) : ∃ h', f_X1_push LF h 6 b = some h' ∧ gI h' 6 2 = nI (min (len + 1) 15) ∧ gI h' 6 1 = nI ((nx + 1) % 15) ∧ sameS h b h' (8 + 2 * nx) ∧ (∀ j k, j ≠ 8 + 2 * nx → j ≠ 9 + 2 * nx → j ≠ 6 → gI h' j k = gI h j k) ∧ (∀ j k, j ≠ 8 + 2 * nx → gL h' j k = gL h j k) ∧ ∀ j k, gR h' j k = gR h j k := by
  obtain ⟨hc, c1, c2, c3, c4, c5⟩ := copyFrom_ok hR (st_r nx hn) hb
  have e1 : gI hc 6 1 = nI nx := by rw [c3 6 1 (by omega) (by omega)]; exact h1
  have e2 : gI hc 6 2 = nI len := by rw [c3 6 2 (by omega) (by omega)]; exact h2
  have hJ : ∀ s1 : Int32, s1 = nI ((nx + 1) % 15) → f_X1_push_J64 LF hc 6 6 s1 = some (sI (sI hc 6 1 (nI ((nx + 1) % 15))) 6 2 (nI (min (len + 1) 15))) := by
    intro s1 hs
    subst hs
    unfold f_X1_push_J64
    rw [if_pos iO_6, if_pos iO_6, gI_sI, if_neg (by omega), e2, mn15 hl, Option.bind_some]
  refine ⟨sI (sI hc 6 1 (nI ((nx + 1) % 15))) 6 2 (nI (min (len + 1) 15)), ?_, ?_, ?_, ⟨fun k hk => ?_, fun k a b => ?_, ?_⟩, ?_, ?_, ?_⟩
  · unfold f_X1_push
    rw [if_pos iO_6, h1, if_neg (nI_pos (by omega)), if_neg (show ¬ (15 : Int32) ≤ nI nx from nI_ge (b := 15) hn (by decide)), r_6_0 hR, Option.bind_some, iA_7, if_pos (in_nI hn (by decide)), nI_clamp (by omega), r_7 hR hn, Option.bind_some, Option.bind_some, iA_7, if_pos (in_nI hn (by decide)), r_7 hR hn, Option.bind_some, if_pos (st_O _ (st_r nx hn)), c1, Option.bind_some, e1]
    rw [show (1 : Int32) = nI 1 from rfl, nI_add]
    by_cases hz : nx = 14
    · subst hz
      rw [if_pos (by decide)]
      exact hJ 0 rfl
    · rw [if_neg (show ¬ (15 : Int32) ≤ nI (nx + 1) from nI_ge (b := 15) (by omega) (by decide))]
      exact hJ _ (by congr 1; omega)
  · rw [gI_sI, if_pos ⟨rfl, rfl⟩]
  · rw [gI_sI, if_neg (by omega), gI_sI, if_pos ⟨rfl, rfl⟩]
  · rw [gI_sI, if_neg (by omega), gI_sI, if_neg (by omega)]; exact c2.1 k hk
  · rw [gI_sI, if_neg (by omega), gI_sI, if_neg (by omega)]; exact c2.2.1 k a b
  · exact c2.2.2
  · intro j k a b c
    rw [gI_sI, if_neg (by omega), gI_sI, if_neg (by omega)]; exact c3 j k a (by omega)
  · intro j k a
    exact c4 j k a
  · intro j k
    exact c5 j k
/-- entries 0 .. of the array 84 move down by 79 -/
def shI : Nat → Nat → eH → eH
  | 0, _, h => h
  | m + 1, i, h => shI m (i + 1) (sI h 84 i (gI h 84 (i + 79)))
theorem shI_gI : ∀ (m i : Nat) (h : eH) (j k : Nat), gI (shI m i h) j k = if j = 84 ∧ i ≤ k ∧ k < i + m then gI h 84 (k + 79) else gI h j k
  | 0, i, h, j, k => by
    have : ¬ (j = 84 ∧ i ≤ k ∧ k < i + 0) := by omega
    rw [if_neg this]; rfl
  | m + 1, i, h, j, k => by
    show gI (shI m (i + 1) (sI h 84 i (gI h 84 (i + 79)))) j k = _
    rw [shI_gI m (i + 1)]
    by_cases h1 : j = 84 ∧ i + 1 ≤ k ∧ k < i + 1 + m
    · rw [if_pos h1, if_pos (by omega), gI_sI, if_neg (by omega)]
    · rw [if_neg h1, gI_sI]
      by_cases h2 : j = 84 ∧ k = i
      · rw [if_pos h2, if_pos (by omega), h2.2]
      · rw [if_neg h2, if_neg (by omega)]
theorem shI_gL : ∀ (m i : Nat) (h : eH) (j k : Nat), gL (shI m i h) j k = gL h j k
  | 0, _, _, _, _ => rfl
  | m + 1, i, h, j, k => shI_gL m (i + 1) _ j k
theorem shI_gR : ∀ (m i : Nat) (h : eH) (j k : Nat), gR (shI m i h) j k = gR h j k
  | 0, _, _, _, _ => rfl
  | m + 1, i, h, j, k => shI_gR m (i + 1) _ j k
theorem adds_loop {k49 : eH → Nat → Int32 → Option (eH × Int32)} {v : Int32} : ∀ (m i fu : Nat) (h : eH), i + m = 1185 → RefsOK h → f_X11_adds_L21 LF (fu + m + 1) k49 h 73 v (nI i) = k49 (shI m i h) 73 v := by
  intro m
  induction m with
  | zero =>
    intro i fu h hi hR
    have : i = 1185 := by omega
    subst this
    unfold f_X11_adds_L21
    rw [if_pos (by decide)]
    rfl
  | succ m ih =>
    intro i fu h hi hR
    unfold f_X11_adds_L21
    rw [if_neg (show ¬ (1185 : Int32) ≤ nI i from nI_ge (b := 1185) (by omega) (by decide)), if_pos iO_73, r_73_25 hR, Option.bind_some, Option.bind_some, show (79 : Int32) = nI 79 from rfl, nI_add, iA_84, if_pos (in_nI (by omega) (by decide)), iA_84, if_pos (in_nI (by omega) (by decide)), nI_clamp (n := i) (by omega), nI_clamp (n := i + 79) (by omega), Option.bind_some, nI_p1]
    have := ih (i + 1) fu (sI h 84 i (gI h 84 (i + 79))) (by omega) (refs_sI hR)
    simpa only [shI, Nat.add_assoc] using this
/-- adds: how the reference's row of what can be undone goes on -/
theorem adds_ok {h : eH} (hR : RefsOK h) {len : Nat} (hl : len ≤ 15) (h24 : gI h 73 24 = nI len) (v : Int32) : ∃ h', f_X11_adds LF h 73 v = some (h', v) ∧ gI h' 73 24 = nI (min (len + 1) 15) ∧ (∀ k, gI h' 84 k = if len = 15 ∧ k < 1185 then gI h 84 (k + 79) else gI h 84 k) ∧ (∀ j k, j ≠ 84 → ¬ (j = 73 ∧ k = 24) → gI h' j k = gI h j k) ∧ (∀ j k, gL h' j k = gL h j k) ∧ ∀ j k, gR h' j k = gR h j k := by
  have e1 : gI h 73 24 + 1 = nI (len + 1) := by rw [h24, show (1 : Int32) = nI 1 from rfl, nI_add]
  have e2 : gI (sI h 73 24 (nI (len + 1))) 73 24 = nI (len + 1) := by rw [gI_sI, if_pos ⟨rfl, rfl⟩]
  unfold f_X11_adds
  rw [if_pos iO_73, e1, e2]
  by_cases h15 : len = 15
  · subst h15
    rw [if_neg (by decide)]
    obtain ⟨fu, hfu⟩ := fu_s 1185 (by decide)
    have hlp := adds_loop (k49 := fun (h11 : eH) (w0_12 : Nat) (w1_13 : Int32) => if isO LF w0_12 11 = true then some (sI h11 w0_12 24 ((gI h11 w0_12 24) - 1), w1_13) else none) (v := v) 1185 0 fu (sI h 73 24 (nI (15 + 1))) rfl (refs_sI hR)
    have hlp2 : f_X11_adds_L21 LF (fu + 1185 + 1) (fun (h11 : eH) (w0_12 : Nat) (w1_13 : Int32) => if isO LF w0_12 11 = true then some (sI h11 w0_12 24 ((gI h11 w0_12 24) - 1), w1_13) else none) (sI h 73 24 (nI (15 + 1))) 73 v 0 = _ := hlp
    rw [hfu, hlp2]
    have e3 : gI (shI 1185 0 (sI h 73 24 (nI (15 + 1)))) 73 24 - 1 = nI 15 := by
      rw [shI_gI, if_neg (by omega), gI_sI, if_pos ⟨rfl, rfl⟩]; decide
    simp only [iO_73, if_true, e3]
    refine ⟨_, rfl, ?_, fun k => ?_, fun j k a b => ?_, fun j k => ?_, fun j k => ?_⟩
    · rw [gI_sI, if_pos ⟨rfl, rfl⟩]; rfl
    · rw [gI_sI, if_neg (by omega), shI_gI]
      by_cases hk : k < 1185
      · rw [if_pos (by omega), if_pos ⟨trivial, hk⟩, gI_sI, if_neg (by omega)]
      · rw [if_neg (by omega), if_neg (by omega), gI_sI, if_neg (by omega)]
    · rw [gI_sI, if_neg (by omega), shI_gI, if_neg (by omega), gI_sI, if_neg (by omega)]
    · rw [gL_sI, shI_gL, gL_sI]
    · rw [gR_sI, shI_gR, gR_sI]
  · rw [if_pos (show nI (len + 1) ≤ 15 from nI_le (b := 15) (by omega) (by decide))]
    refine ⟨_, rfl, ?_, fun k => ?_, fun j k a b => ?_, fun j k => ?_, fun j k => ?_⟩
    · rw [e2, Nat.min_eq_left (by omega)]
    · rw [gI_sI, if_neg (by omega), if_neg (by omega)]
    · rw [gI_sI, if_neg (by omega)]
    · rfl
    · rfl
theorem putsBy_ok {h : eH} (hR : RefsOK h) {len : Nat} (hl : len ≤ 15) (h24 : gI h 73 24 = nI len) : ∃ h', f_X11_putsBy LF h 73 = some h' ∧ (∀ k, gI h' 84 k = if 79 * len ≤ k ∧ k < 79 * len + 79 then gI h 76 (k - 79 * len) else gI h 84 k) ∧ (∀ j k, j ≠ 84 → gI h' j k = gI h j k) ∧ (∀ j k, gL h' j k = gL h j k) ∧ ∀ j k, gR h' j k = gR h j k := by
  obtain ⟨fu, hfu⟩ := fu_s 79 (by decide)
  have hlp := putsBy_loop (k := fun (h8 : eH) => some h8) (g := fun j => gI h 76 j) (u := len) hl 79 0 fu h rfl hR h24 (fun _ => rfl)
  have hlp2 : f_X11_putsBy_L2 LF (fu + 79 + 1) (fun (h8 : eH) => some h8) h 73 0 = _ := hlp
  refine ⟨wrI 84 (79 * len) (fun j => gI h 76 (0 + j)) 79 0 h, ?_, fun k => ?_, fun j k a => ?_, fun j k => ?_, fun j k => ?_⟩
  · unfold f_X11_putsBy
    rw [hfu]
    exact hlp2
  · rw [wrI_gI]
    by_cases hk : 79 * len ≤ k ∧ k < 79 * len + 79
    · rw [if_pos (by omega), if_pos hk, Nat.zero_add]
    · rw [if_neg (by omega), if_neg hk]
  · rw [wrI_gI, if_neg (by omega)]
  · rw [wrI_gL]
  · rw [wrI_gR]
/-- a state is remembered on both sides -/
theorem RU_push {h0 h2 : eH} {F : FV} {B len nx : Nat} (a1 : len ≤ 15) (a2 : nx < 15) (a6 : ∀ j, j < len → RSr h0 (8 + 2 * ((nx + 14 - j) % 15)) 84 (79 * (len - 1 - j)) ∧ okS h0 (8 + 2 * ((nx + 14 - j) % 15)) F B) (hS : RSr h0 46 76 0) (ho : okS h0 46 F B)
    (c1 : gI h2 6 1 = nI ((nx + 1) % 15)) (c2 : gI h2 6 2 = nI (min (len + 1) 15)) (c3 : gI h2 73 24 = nI (min (len + 1) 15)) (c4 : sameS h0 46 h2 (8 + 2 * nx)) (c5 : ∀ i, i < 15 → i ≠ nx → sameS h0 (8 + 2 * i) h2 (8 + 2 * i))
    (c6 : ∀ k, k < 79 → gI h2 84 (79 * (min (len + 1) 15 - 1) + k) = gI h0 76 k) (c7 : ∀ k, k < 79 * (min (len + 1) 15 - 1) → gI h2 84 k = gI h0 84 (if len = 15 then k + 79 else k)) : RU h2 F B := by
  refine ⟨min (len + 1) 15, (nx + 1) % 15, by omega, Nat.mod_lt _ (by decide), c2, c1, c3, fun j hj => ?_⟩
  by_cases hj0 : j = 0
  · subst hj0
    have e1 : ((nx + 1) % 15 + 14 - 0) % 15 = nx := by omega
    rw [e1]
    exact ⟨RSr_same c4 (fun k hk => by rw [Nat.sub_zero, c6 k hk, Nat.zero_add]) hS, okS_same c4 ho⟩
  · have e1 : ((nx + 1) % 15 + 14 - j) % 15 = (nx + 14 - (j - 1)) % 15 := by omega
    have hjl : j - 1 < len := by omega
    obtain ⟨b1, b2⟩ := a6 (j - 1) hjl
    have hm : (nx + 14 - (j - 1)) % 15 < 15 := Nat.mod_lt _ (by decide)
    have hs := c5 ((nx + 14 - (j - 1)) % 15) hm (by omega)
    rw [e1]
    refine ⟨RSr_same hs (fun k hk => ?_) b1, okS_same hs b2⟩
    rw [c7 _ (by omega)]
    congr 1
    split <;> omega

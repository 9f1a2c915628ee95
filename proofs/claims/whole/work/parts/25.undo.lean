/-! What can be undone, on both sides: undo, again. -/
def RU (h : eH) (F : FV) (B : Nat) : Prop := ∃ len nx, len ≤ 15 ∧ nx < 15 ∧ gI h 6 2 = nI len ∧ gI h 6 1 = nI nx ∧ gI h 73 24 = nI len ∧ ∀ j, j < len → RSr h (8 + 2 * ((nx + 14 - j) % 15)) 84 (79 * (len - 1 - j)) ∧ okS h (8 + 2 * ((nx + 14 - j) % 15)) F B
theorem RU_congr {h h' : eH} {F : FV} {B : Nat} (h1 : ∀ k, gI h' 6 k = gI h 6 k) (h2 : gI h' 73 24 = gI h 73 24) (h3 : ∀ k, gI h' 84 k = gI h 84 k) (h4 : ∀ j k, 8 ≤ j → j ≤ 37 → gI h' j k = gI h j k) (h5 : ∀ j k, 8 ≤ j → j ≤ 37 → gL h' j k = gL h j k) (hr : RU h F B) : RU h' F B := by
  obtain ⟨len, nx, a1, a2, a3, a4, a5, a6⟩ := hr
  refine ⟨len, nx, a1, a2, (h1 2).trans a3, (h1 1).trans a4, h2.trans a5, fun j hj => ?_⟩
  obtain ⟨b1, b2⟩ := a6 j hj
  have hm : (nx + 14 - j) % 15 < 15 := Nat.mod_lt _ (by decide)
  have hs : sameS h (8 + 2 * ((nx + 14 - j) % 15)) h' (8 + 2 * ((nx + 14 - j) % 15)) := sameS_rf (fun k => h4 _ k (by omega) (by omega)) (fun k => h4 _ k (by omega) (by omega)) (h5 _ 8 (by omega) (by omega))
  exact ⟨RSr_same hs (fun k _ => h3 _) b1, okS_same hs b2⟩
theorem st_r : ∀ i, i < 15 → 8 + 2 * i ∈ stL := by decide
theorem r_7t : ∀ i, i < 15 → (7, i, 8 + 2 * i) ∈ rTab := by decide +kernel
theorem r_7 {h : eH} (hR : RefsOK h) {i : Nat} (hi : i < 15) : gR h 7 i = some (8 + 2 * i) := hR _ (r_7t i hi)
theorem pop_ok {h : eH} (hR : RefsOK h) {len nx : Nat} (hl : len ≤ 15) (hn : nx < 15) (h2 : gI h 6 2 = nI len) (h1 : gI h 6 1 = nI nx) (h0 : 0 < len) : ∃ h', f_X1_pop LF h 6 46 = some (h', 1) ∧ gI h' 6 2 = nI (len - 1) ∧ gI h' 6 1 = nI ((nx + 14) % 15) ∧ sameS h (8 + 2 * ((nx + 14) % 15)) h' 46 ∧ (∀ j k, j ≠ 46 → j ≠ 47 → j ≠ 6 → gI h' j k = gI h j k) ∧ (∀ j k, j ≠ 46 → gL h' j k = gL h j k) ∧ ∀ j k, gR h' j k = gR h j k := by
  have hp : (nx + 14) % 15 < 15 := Nat.mod_lt _ (by decide)
  have hJ : ∀ s1 : Int32, s1 = nI ((nx + 14) % 15) → ∃ h', f_X1_pop_J28 LF h 6 46 6 s1 = some (h', 1) ∧ gI h' 6 2 = nI (len - 1) ∧ gI h' 6 1 = nI ((nx + 14) % 15) ∧ sameS h (8 + 2 * ((nx + 14) % 15)) h' 46 ∧ (∀ j k, j ≠ 46 → j ≠ 47 → j ≠ 6 → gI h' j k = gI h j k) ∧ (∀ j k, j ≠ 46 → gL h' j k = gL h j k) ∧ ∀ j k, gR h' j k = gR h j k := by
    intro s1 hs1
    subst hs1
    have e2 : gI (sI h 6 1 (nI ((nx + 14) % 15))) 6 2 - 1 = nI (len - 1) := by
      rw [gI_sI, if_neg (by omega), h2]
      exact pk_sub (b := 1) h0
    have hR4 : RefsOK (sI (sI h 6 1 (nI ((nx + 14) % 15))) 6 2 (nI (len - 1))) := refs_sI (refs_sI hR)
    have e1 : gI (sI (sI h 6 1 (nI ((nx + 14) % 15))) 6 2 (nI (len - 1))) 6 1 = nI ((nx + 14) % 15) := by
      rw [gI_sI, if_neg (by omega), gI_sI, if_pos ⟨rfl, rfl⟩]
    obtain ⟨hc, c1, c2, c3, c4, c5⟩ := copyFrom_ok hR4 (show (46 : Nat) ∈ stL by decide) (st_r _ hp)
    refine ⟨hc, ?_, ?_, ?_, ?_, ?_, ?_, ?_⟩
    · unfold f_X1_pop_J28
      rw [if_pos iO_6, if_pos iO_6, e2, Option.bind_some, e1, if_neg (show ¬ (15 : Int32) ≤ nI ((nx + 14) % 15) from nI_ge (b := 15) hp (by decide)), r_6_0 hR4, Option.bind_some, iA_7, if_pos (in_nI hp (by decide)), nI_clamp (by omega), r_7 hR4 hp, Option.bind_some, if_pos iO_46, c1, Option.bind_some]
    · rw [c3 6 2 (by omega) (by omega), gI_sI, if_pos ⟨rfl, rfl⟩]
    · rw [c3 6 1 (by omega) (by omega)]; exact e1
    · refine ⟨fun k hk => ?_, fun k a b => ?_, ?_⟩
      · rw [c2.1 k hk, gI_sI, if_neg (by omega), gI_sI, if_neg (by omega)]
      · rw [c2.2.1 k a b, gI_sI, if_neg (by omega), gI_sI, if_neg (by omega)]
      · rw [c2.2.2]; rfl
    · intro j k a b c
      rw [c3 j k a b, gI_sI, if_neg (by omega), gI_sI, if_neg (by omega)]
    · intro j k a
      rw [c4 j k a]; rfl
    · intro j k
      rw [c5]; rfl
  unfold f_X1_pop
  rw [if_pos iO_6, h2, if_pos (show (0 : Int32) < nI len from nI_lt (a := 0) h0 (by omega)), h1]
  by_cases hz : nx = 0
  · subst hz
    rw [if_pos (by decide)]
    exact hJ 14 rfl
  · rw [if_neg (show ¬ nI nx ≤ (0 : Int32) from nI_nle (by omega) (by omega))]
    refine hJ _ ?_
    rw [show (1 : Int32) = nI 1 from rfl, pk_sub (by omega)]
    congr 1
    omega
theorem undo_rel {h : eH} {F : FV} {B : Nat} (hR : RefsOK h) (hS : RSr h 46 76 0) (ho : okS h 46 F B) (hU : RU h F B) : ∃ (h1 h2 : eH) (r : Int32), f_X10_undo LF h 0 = some (h1, r) ∧ f_X11_undo LF h1 73 = some (h2, r) ∧ RU h2 F B ∧ RSr h2 46 76 0 ∧ okS h2 46 F B ∧ only (fun j k => j = 6 ∨ j = 46 ∨ j = 47 ∨ j = 76 ∨ (j = 73 ∧ (k = 0 ∨ k = 24))) h h2 := by
  obtain ⟨len, nx, a1, a2, a3, a4, a5, a6⟩ := hU
  by_cases h0 : len = 0
  · subst h0
    have c0 : f_X1_pop LF h 6 46 = some (h, 0) := by
      unfold f_X1_pop
      rw [if_pos iO_6, a3, if_neg (by decide)]
    have e0 : gI (sI h 73 0 0) 73 24 = 0 := by rw [gI_sI, if_neg (by omega)]; exact a5
    refine ⟨h, sI h 73 0 0, -1, ?_, ?_, RU_congr ?_ ?_ ?_ ?_ ?_ ⟨0, nx, a1, a2, a3, a4, a5, a6⟩, ?_, ?_, ⟨fun j k hW => ⟨?_, rfl⟩, fun _ _ => rfl⟩⟩
    · unfold f_X10_undo
      rw [if_pos iO_0, r_0_3 hR, Option.bind_some, r_0_7 hR, Option.bind_some, if_pos iO_6, c0, Option.bind_some, if_pos rfl]
    · unfold f_X11_undo
      rw [if_pos iO_73, e0, if_pos rfl]
    · intro k; rw [gI_sI, if_neg (by omega)]
    · rw [gI_sI, if_neg (by omega)]
    · intro k; rw [gI_sI, if_neg (by omega)]
    · intro j k _ _; rw [gI_sI, if_neg (by omega)]
    · intro j k _ _; rfl
    · refine RSr_same (h := h) (sameS_rf (h := h) (fun k => ?_) (fun k => ?_) rfl) (fun k hk => ?_) hS
      · rw [gI_sI, if_neg (by omega)]
      · rw [gI_sI, if_neg (by omega)]
      · rw [gI_sI, if_neg (by omega)]
    · refine okS_same (h := h) (sameS_rf (h := h) (fun k => ?_) (fun k => ?_) rfl) ho
      · rw [gI_sI, if_neg (by omega)]
      · rw [gI_sI, if_neg (by omega)]
    · rw [gI_sI, if_neg (by omega)]
  · have hpos : 0 < len := by omega
    obtain ⟨h1, p1, p2, p3, p4, p5, p6, p7⟩ := pop_ok hR a1 a2 a3 a4 hpos
    have hR1 : RefsOK h1 := fun q hq => by rw [p7]; exact hR q hq
    have hp : (nx + 14) % 15 < 15 := Nat.mod_lt _ (by decide)
    obtain ⟨fu, hfu⟩ := fu_s 79 (by decide)
    have m0 : gI (sI h1 73 0 0) 73 24 = nI len := by rw [gI_sI, if_neg (by omega), p5 73 24 (by omega) (by omega) (by omega)]; exact a5
    have m1 : nI len - 1 = nI (len - 1) := pk_sub (b := 1) hpos
    have hRm : RefsOK (sI (sI h1 73 0 0) 73 24 (nI (len - 1))) := refs_sI (refs_sI hR1)
    have hl := undo_loop (k := fun (h13 : eH) (w0_14 : Nat) => if isO LF w0_14 11 = true then some (h13, gI h13 w0_14 24) else none) (g := fun j => gI h 84 j) (u := len - 1) (by omega) 79 0 fu (sI (sI h1 73 0 0) 73 24 (nI (len - 1))) rfl hRm (by rw [gI_sI, if_pos ⟨rfl, rfl⟩]) (fun j => by rw [gI_sI, if_neg (by omega), gI_sI, if_neg (by omega), p5 84 j (by omega) (by omega) (by omega)])
    have cu : gI (wrI 76 0 (fun j => gI h 84 (79 * (len - 1) + j)) 79 0 (sI (sI h1 73 0 0) 73 24 (nI (len - 1)))) 73 24 = nI (len - 1) := by
      rw [wrI_gI, if_neg (by omega), gI_sI, if_pos ⟨rfl, rfl⟩]
    have hnow : ∀ j k, j ≠ 73 → j ≠ 76 → gI (wrI 76 0 (fun j => gI h 84 (79 * (len - 1) + j)) 79 0 (sI (sI h1 73 0 0) 73 24 (nI (len - 1)))) j k = gI h1 j k := by
      intro j k a b
      rw [wrI_gI, if_neg (by omega), gI_sI, if_neg (by omega), gI_sI, if_neg (by omega)]
    have hlong : ∀ j k, gL (wrI 76 0 (fun j => gI h 84 (79 * (len - 1) + j)) 79 0 (sI (sI h1 73 0 0) 73 24 (nI (len - 1)))) j k = gL h1 j k := by
      intro j k; rw [wrI_gL]; rfl
    obtain ⟨t1, t2⟩ := a6 0 hpos
    have hs : sameS h (8 + 2 * ((nx + 14) % 15)) (wrI 76 0 (fun j => gI h 84 (79 * (len - 1) + j)) 79 0 (sI (sI h1 73 0 0) 73 24 (nI (len - 1)))) 46 := by
      refine ⟨fun k hk => ?_, fun k a b => ?_, ?_⟩
      · rw [hnow _ _ (by omega) (by omega)]; exact p4.1 k hk
      · rw [hnow _ _ (by omega) (by omega)]; exact p4.2.1 k a b
      · rw [hlong]; exact p4.2.2
    refine ⟨h1, _, nI (len - 1), ?_, ?_, ⟨len - 1, (nx + 14) % 15, by omega, hp, ?_, ?_, cu, fun j hj => ?_⟩, RSr_same hs (fun k hk => ?_) t1, okS_same hs t2, ⟨fun j k hW => ⟨?_, ?_⟩, fun j k => ?_⟩⟩
    · unfold f_X10_undo
      rw [if_pos iO_0, r_0_3 hR, Option.bind_some, r_0_7 hR, Option.bind_some, if_pos iO_6, p1, Option.bind_some, if_neg (show ¬ (1 : Int32) = 0 by decide), r_0_3 hR1, Option.bind_some, if_pos iO_6]
      unfold f_X1_size
      rw [if_pos iO_6, Option.bind_some, p2]
    · unfold f_X11_undo
      rw [if_pos iO_73, m0, if_neg (nI_ne0 hpos (by omega)), m1, Option.bind_some, hfu]
      have hl2 : f_X11_undo_L26 LF (fu + 79 + 1) (fun (h13 : eH) (w0_14 : Nat) => if isO LF w0_14 11 = true then some (h13, gI h13 w0_14 24) else none) (sI (sI h1 73 0 0) 73 24 (nI (len - 1))) 73 0 = _ := hl
      rw [hl2]
      simp only [iO_73, if_true, cu]
    · rw [hnow _ _ (by omega) (by omega)]; exact p2
    · rw [hnow _ _ (by omega) (by omega)]; exact p3
    · obtain ⟨b1, b2⟩ := a6 (j + 1) (by omega)
      have e1 : ((nx + 14) % 15 + 14 - j) % 15 = (nx + 14 - (j + 1)) % 15 := by omega
      have e2 : len - 1 - 1 - j = len - 1 - (j + 1) := by omega
      have hm : (nx + 14 - (j + 1)) % 15 < 15 := Nat.mod_lt _ (by decide)
      have hs2 : sameS h (8 + 2 * ((nx + 14 - (j + 1)) % 15)) (wrI 76 0 (fun j => gI h 84 (79 * (len - 1) + j)) 79 0 (sI (sI h1 73 0 0) 73 24 (nI (len - 1)))) (8 + 2 * ((nx + 14 - (j + 1)) % 15)) := by
        refine sameS_rf (fun k => ?_) (fun k => ?_) ?_
        · rw [hnow _ _ (by omega) (by omega)]; exact p5 _ _ (by omega) (by omega) (by omega)
        · rw [hnow _ _ (by omega) (by omega)]; exact p5 _ _ (by omega) (by omega) (by omega)
        · rw [hlong]; exact p6 _ _ (by omega)
      rw [e1, e2]
      refine ⟨RSr_same hs2 (fun k _ => ?_) b1, okS_same hs2 b2⟩
      rw [hnow _ _ (by omega) (by omega)]; exact p5 _ _ (by omega) (by omega) (by omega)
    · show gI _ 76 (0 + k) = gI h 84 (79 * (len - 1 - 0) + k)
      rw [wrI_gI, if_pos (by omega)]
      show gI h 84 (79 * (len - 1) + (0 + k - 0)) = _
      congr 1
      omega
    · by_cases hz : j = 73
      · subst hz
        rw [wrI_gI, if_neg (by omega), gI_sI, if_neg (by omega), gI_sI, if_neg (by omega)]
        exact p5 _ _ (by omega) (by omega) (by omega)
      · rw [hnow j k hz (by omega)]; exact p5 _ _ (by omega) (by omega) (by omega)
    · rw [hlong]; exact p6 _ _ (by omega)
    · rw [wrI_gR]
      show gR h1 j k = _
      exact p7 j k

/-! again and end, on both sides. -/
theorem kn_bit : ∀ kn, kn < 8 → ∀ i, i < 3 → ((nI kn >>> (nI i &&& 31)) &&& 1 = 0 ↔ kn.testBit i = false) := by decide +kernel
def againW (j k : Nat) : Prop := j = 6 ∨ j = 46 ∨ j = 47 ∨ j = 76 ∨ (j = 73 ∧ (k = 0 ∨ k = 24))
theorem again_no {h : eH} {F : FV} {B : Nat} (hS : RSr h 46 76 0) (ho : okS h 46 F B) (hU : RU h F B) : RU (sI h 73 0 0) F B ∧ RSr (sI h 73 0 0) 46 76 0 ∧ okS (sI h 73 0 0) 46 F B ∧ only againW h (sI h 73 0 0) := by
  have g : ∀ j k, ¬ (j = 73 ∧ k = 0) → gI (sI h 73 0 0) j k = gI h j k := fun j k a => by rw [gI_sI, if_neg a]
  have hs : sameS h 46 (sI h 73 0 0) 46 := sameS_rf (fun k => g _ _ (by omega)) (fun k => g _ _ (by omega)) rfl
  refine ⟨RU_congr (fun k => g _ _ (by omega)) (g _ _ (by omega)) (fun k => g _ _ (by omega)) (fun j k _ _ => g _ _ (by omega)) (fun _ _ _ _ => rfl) hU, RSr_same hs (fun k _ => g _ _ (by omega)) hS, okS_same hs ho, ⟨fun j k hW => ⟨?_, rfl⟩, fun _ _ => rfl⟩⟩
  unfold againW at hW
  exact g _ _ (by omega)
theorem again_rel {h : eH} {F : FV} {B : Nat} (hR : RefsOK h) (hS : RSr h 46 76 0) (ho : okS h 46 F B) (hU : RU h F B) (hK : RK h F B) (v : Int32) : ∃ (h1 h2 : eH) (r : Int32), f_X10_again LF h 0 v = some (h1, r) ∧ f_X11_again LF h1 73 v = some (h2, r) ∧ RU h2 F B ∧ RSr h2 46 76 0 ∧ okS h2 46 F B ∧ only againW h h2 := by
  have bad : (f_X11_in v.toInt64 0 2 = if v < 0 then 0 else if (2 : Int32) < v then 0 else 1) := in_spec v 0 2
  obtain ⟨n1, n2, n3, n4⟩ := again_no hS ho hU
  rcases pos3 v with hv | ⟨hv, hv3⟩ | ⟨i, hi, rfl⟩
  · refine ⟨h, sI h 73 0 0, 0, ?_, ?_, n1, n2, n3, n4⟩
    · unfold f_X10_again; rw [if_pos hv]
    · unfold f_X11_again; rw [if_pos iO_73, bad, if_pos hv, if_pos rfl]
  · have e3 : (3 : Int32).toInt = 3 := by decide
    have e2 : (2 : Int32).toInt = 2 := by decide
    have h2 : (2 : Int32) < v := by rw [fa_lt] at hv3 ⊢; omega
    have h3 : (3 : Int32) ≤ v := by rw [fa_lt] at hv3; rw [fa_le]; omega
    refine ⟨h, sI h 73 0 0, 0, ?_, ?_, n1, n2, n3, n4⟩
    · unfold f_X10_again; rw [if_neg hv, if_pos h3]
    · unfold f_X11_again; rw [if_pos iO_73, bad, if_neg hv, if_pos h2, if_pos rfl]
  · obtain ⟨kn, k1, k2, k3⟩ := hK
    have q0 : ¬ nI i < 0 := nI_pos (by omega)
    have q3 : ¬ (3 : Int32) ≤ nI i := nI_ge (b := 3) hi (by decide)
    have q2 : ¬ (2 : Int32) < nI i := nI_nlt (a := 2) (by omega) (by decide)
    have hin : f_X11_in (nI i).toInt64 0 2 = 1 := by rw [bad, if_neg q0, if_neg q2]
    have hR0 : RefsOK (sI h 73 0 0) := refs_sI hR
    have kb := kn_bit kn k1 i hi
    by_cases ht : kn.testBit i = true
    · obtain ⟨hA, c1, c2, c3, c4, c5⟩ := copyFrom_ok hR (show (46 : Nat) ∈ stL by decide) (st_k i hi)
      have hRA : RefsOK hA := fun q hq => by rw [c5]; exact hR q hq
      obtain ⟨fu, hfu⟩ := fu_s 79 (by decide)
      have hR1 : RefsOK (sI hA 6 2 0) := refs_sI hRA
      have hR2 : RefsOK (sI (sI hA 6 2 0) 73 0 0) := refs_sI hR1
      have hl := again_loop (k := fun (h14 : eH) (w0_15 : Nat) => if isO LF w0_15 11 = true then some (sI h14 w0_15 24 0, 1) else none) (g := fun j => gI h 98 j) hi 79 0 fu (sI (sI hA 6 2 0) 73 0 0) rfl hR2 (fun j => by rw [gI_sI, if_neg (by omega), gI_sI, if_neg (by omega), c3 98 j (by omega) (by omega)])
      have hl2 : f_X11_again_L30 LF (fu + 79 + 1) (fun (h14 : eH) (w0_15 : Nat) => if isO LF w0_15 11 = true then some (sI h14 w0_15 24 0, 1) else none) (sI (sI hA 6 2 0) 73 0 0) 73 (nI i) 0 = _ := hl
      have hZ : ∀ j k, ¬ (j = 73 ∧ (k = 24 ∨ k = 0)) → j ≠ 76 → ¬ (j = 6 ∧ k = 2) → gI (sI (wrI 76 0 (fun j => gI h 98 (79 * i + j)) 79 0 (sI (sI hA 6 2 0) 73 0 0)) 73 24 0) j k = gI hA j k := fun j k a b c => by
        rw [gI_sI, if_neg (by omega), wrI_gI, if_neg (by omega), gI_sI, if_neg (by omega), gI_sI, if_neg (by omega)]
      have hZl : ∀ j k, gL (sI (wrI 76 0 (fun j => gI h 98 (79 * i + j)) 79 0 (sI (sI hA 6 2 0) 73 0 0)) 73 24 0) j k = gL hA j k := fun j k => by rw [gL_sI, wrI_gL]; rfl
      obtain ⟨t1, t2⟩ := (k3 i hi).2 ht
      have hs : sameS h (53 + 2 * i) (sI (wrI 76 0 (fun j => gI h 98 (79 * i + j)) 79 0 (sI (sI hA 6 2 0) 73 0 0)) 73 24 0) 46 := by
        refine ⟨fun k hk => ?_, fun k a b => ?_, ?_⟩
        · rw [hZ _ _ (by omega) (by omega) (by omega)]; exact c2.1 k hk
        · rw [hZ _ _ (by omega) (by omega) (by omega)]; exact c2.2.1 k a b
        · rw [hZl]; exact c2.2.2
      obtain ⟨len, nx, a1, a2, a3, a4, a5, a6⟩ := hU
      refine ⟨sI hA 6 2 0, _, 1, ?_, ?_, ⟨0, nx, by omega, a2, ?_, ?_, ?_, fun j hj => absurd hj (Nat.not_lt_zero j)⟩, RSr_same hs (fun k hk => ?_) t1, okS_same hs t2, ⟨fun j k hW => ⟨?_, ?_⟩, fun j k => ?_⟩⟩
      · unfold f_X10_again
        rw [if_neg q0, if_neg q3, if_pos iO_0, k2, if_neg (fun e => by rw [kb.mp e] at ht; cases ht), r_0_7 hR, Option.bind_some, r_0_10 hR, Option.bind_some, iA_52, if_pos (in_nI hi (by decide)), nI_clamp (by omega), r_52 hR hi, Option.bind_some, if_pos iO_46, c1, Option.bind_some, r_0_3 hRA, Option.bind_some, if_pos iO_6]
        unfold f_X1_clear
        rw [if_pos iO_6, Option.bind_some]
      · unfold f_X11_again
        have e1 : gI (sI (sI hA 6 2 0) 73 0 0) 97 i = 1 := by
          rw [gI_sI, if_neg (by omega), gI_sI, if_neg (by omega), c3 97 i (by omega) (by omega), (k3 i hi).1, if_pos ht]
        rw [if_pos iO_73, hin, if_neg (by decide), r_73_44 hR2, Option.bind_some, iA_97, if_pos (in_nI hi (by decide)), nI_clamp (by omega), e1, if_neg (by decide), hfu, hl2]
        simp only [iO_73, if_true]
      · rw [gI_sI, if_neg (by omega), wrI_gI, if_neg (by omega), gI_sI, if_neg (by omega), gI_sI, if_pos ⟨rfl, rfl⟩]; rfl
      · rw [hZ _ _ (by omega) (by omega) (by omega), c3 6 1 (by omega) (by omega)]; exact a4
      · rw [gI_sI, if_pos ⟨rfl, rfl⟩]; rfl
      · rw [gI_sI, if_neg (by omega), wrI_gI, if_pos (by omega)]
        exact congrArg (gI h 98) (by omega)
      · unfold againW at hW
        rw [hZ _ _ (by omega) (by omega) (by omega)]; exact c3 _ _ (by omega) (by omega)
      · unfold againW at hW
        rw [hZl]; exact c4 _ _ (by omega)
      · rw [gR_sI, wrI_gR]; exact c5 j k
    · have hf : kn.testBit i = false := by simpa using ht
      have e1 : gI (sI h 73 0 0) 97 i = 0 := by
        rw [gI_sI, if_neg (by omega), (k3 i hi).1, if_neg ht]
      refine ⟨h, sI h 73 0 0, 0, ?_, ?_, n1, n2, n3, n4⟩
      · unfold f_X10_again
        rw [if_neg q0, if_neg q3, if_pos iO_0, k2, if_pos (kb.mpr hf)]
      · unfold f_X11_again
        rw [if_pos iO_73, hin, if_neg (by decide), r_73_44 hR0, Option.bind_some, iA_97, if_pos (in_nI hi (by decide)), nI_clamp (by omega), e1, if_pos rfl]
theorem end_rel {h : eH} (hR : RefsOK h) {n : Nat} {t : Nat → Nat} (hT : RT h n t) (v : Int32) : ∃ (h1 h2 : eH) (r : Int32) (n' : Nat), f_X10_end LF h 0 v = some (h1, r) ∧ f_X11_end LF h1 73 v = some (h2, r) ∧ RT h2 n' t ∧ only (fun j k => (j = 1 ∧ k = 1) ∨ (j = 73 ∧ (k = 0 ∨ k = 10))) h h2 := by
  obtain ⟨hn, hl, hm, ht⟩ := hT
  have em : ∀ h' : eH, gI h' 73 10 = nI n → f_X11_in v.toInt64 0 ((gI (sI h' 73 0 0) 73 10).toInt64) = if v < 0 then 0 else if nI n < v then 0 else 1 := fun h' e => by
    rw [gI_sI, if_neg (by omega), e]; exact in_spec v 0 (nI n)
  by_cases hv : v < 0
  · refine ⟨h, sI h 73 0 0, 0, n, ?_, ?_, RT_congr ?_ ?_ ?_ ?_ ⟨hn, hl, hm, ht⟩, ⟨fun j k hW => ⟨?_, rfl⟩, fun _ _ => rfl⟩⟩
    · unfold f_X10_end f_X8_cut
      rw [if_pos iO_0, r_0_0 hR, Option.bind_some, if_pos iO_1, if_pos hv, Option.bind_some, if_pos (show isB 0 = true by decide)]
    · unfold f_X11_end
      rw [if_pos iO_73, em h hm, if_pos hv, if_pos rfl]
    · rw [gI_sI, if_neg (by omega)]
    · rw [gI_sI, if_neg (by omega)]
    · intro k; rw [gI_sI, if_neg (by omega)]
    · intro k; rw [gI_sI, if_neg (by omega)]
    · rw [gI_sI, if_neg (by omega)]
  · by_cases hle : v ≤ nI n
    · obtain ⟨m, m1, m2⟩ := nI_of2 (M := nI n) (nI_toInt (by omega)) hv hle
      subst m2
      have q : ¬ nI n < nI m := nI_nlt m1 (by omega)
      refine ⟨sI h 1 1 (nI m), sI (sI (sI h 1 1 (nI m)) 73 0 0) 73 10 (nI m), 1, m, ?_, ?_, ⟨by omega, ?_, ?_, fun k hk => ⟨(ht k (by omega)).1, ?_, ?_⟩⟩, ⟨fun j k hW => ⟨?_, rfl⟩, fun _ _ => rfl⟩⟩
      · unfold f_X10_end f_X8_cut
        rw [if_pos iO_0, r_0_0 hR, Option.bind_some, if_pos iO_1, if_neg hv, if_pos iO_1, hl, if_pos hle, Option.bind_some, if_pos (show isB 1 = true by decide)]
      · unfold f_X11_end
        rw [if_pos iO_73, em _ (by rw [gI_sI, if_neg (by omega)]; exact hm), if_neg hv, if_neg q, if_neg (by decide)]
      · rw [gI_sI, if_neg (by omega), gI_sI, if_neg (by omega), gI_sI, if_pos ⟨rfl, rfl⟩]
      · rw [gI_sI, if_pos ⟨rfl, rfl⟩]
      · rw [gI_sI, if_neg (by omega), gI_sI, if_neg (by omega), gI_sI, if_neg (by omega)]; exact (ht k (by omega)).2.1
      · rw [gI_sI, if_neg (by omega), gI_sI, if_neg (by omega), gI_sI, if_neg (by omega)]; exact (ht k (by omega)).2.2
      · rw [gI_sI, if_neg (by omega), gI_sI, if_neg (by omega), gI_sI, if_neg (by omega)]
    · have q : nI n < v := by rw [fa_le] at hle; rw [fa_lt]; omega
      refine ⟨h, sI h 73 0 0, 0, n, ?_, ?_, RT_congr ?_ ?_ ?_ ?_ ⟨hn, hl, hm, ht⟩, ⟨fun j k hW => ⟨?_, rfl⟩, fun _ _ => rfl⟩⟩
      · unfold f_X10_end f_X8_cut
        rw [if_pos iO_0, r_0_0 hR, Option.bind_some, if_pos iO_1, if_neg hv, if_pos iO_1, hl, if_neg hle, Option.bind_some, if_pos (show isB 0 = true by decide)]
      · unfold f_X11_end
        rw [if_pos iO_73, em h hm, if_neg hv, if_pos q, if_pos rfl]
      · rw [gI_sI, if_neg (by omega)]
      · rw [gI_sI, if_neg (by omega)]
      · intro k; rw [gI_sI, if_neg (by omega)]
      · intro k; rw [gI_sI, if_neg (by omega)]
      · rw [gI_sI, if_neg (by omega)]

/-! ===== order of ints, in all its forms, and through longs ===== -/
theorem fa_lt (a b : Int32) : a < b ↔ a.toInt < b.toInt := Int32.lt_iff_toInt_lt
theorem fa_le (a b : Int32) : a ≤ b ↔ a.toInt ≤ b.toInt := Int32.le_iff_toInt_le
theorem fa_eq (a b : Int32) : a = b ↔ a.toInt = b.toInt := Int32.toInt_inj.symm
theorem fa_lt64 (a b : Int64) : a < b ↔ a.toInt < b.toInt := Int64.lt_iff_toInt_lt
theorem fa_le64 (a b : Int64) : a ≤ b ↔ a.toInt ≤ b.toInt := Int64.le_iff_toInt_le
theorem fa_eq64 (a b : Int64) : a = b ↔ a.toInt = b.toInt := Int64.toInt_inj.symm
/-- a comparison of two ints taken as longs -/
theorem fa_wide_lt (a b : Int32) : a.toInt64 < b.toInt64 ↔ a < b := by rw [fa_lt64, fa_lt, Int32.toInt_toInt64, Int32.toInt_toInt64]
theorem fa_wide_le (a b : Int32) : a.toInt64 ≤ b.toInt64 ↔ a ≤ b := by rw [fa_le64, fa_le, Int32.toInt_toInt64, Int32.toInt_toInt64]
theorem fa_wide_eq (a b : Int32) : a.toInt64 = b.toInt64 ↔ a = b := by rw [fa_eq64, fa_eq, Int32.toInt_toInt64, Int32.toInt_toInt64]
/-! The relation of the two sides' states; keep and end. -/
theorem in_spec (v a b : Int32) : f_X11_in v.toInt64 a.toInt64 b.toInt64 = if v < a then 0 else if b < v then 0 else 1 := by
  unfold f_X11_in
  simp only [lg_cmp_lt, lg_cmp_gt, fa_wide_lt]
/-- a flat: rows, columns, the kind of each spot (0 beyond), the plug -/
abbrev FV : Type := Nat × Nat × (Nat → Nat) × Option Nat
def nF (F : FV) : Nat := F.1 * F.2.1
def kF (F : FV) (k : Nat) : Nat := if k < nF F then F.2.2.1 k else 0
/-- state s of the class stands well on the flat; at most B strikes -/
def okS (h : eH) (s : Nat) (F : FV) (B : Nat) : Prop := (∃ sp, sp < 36 ∧ kF F sp ≠ 0 ∧ tb (gL h s 8) sp = false ∧ gI h s 1 = nI sp) ∧ (∃ hd, hd < 4 ∧ gI h s 2 = nI hd) ∧ (∃ cu, cu ≤ 999 ∧ gI h s 3 = nI cu) ∧ (∃ bu, bu ≤ B ∧ gI h s 6 = nI bu) ∧ (∀ k, k < 36 → ∃ du, du ≤ 99 ∧ gI h (s + 1) k = nI du ∧ (kF F k = 0 → du = 0)) ∧ ∀ k, tb (gL h s 8) k = true → k < 36 ∧ kF F k ≠ 0
/-- state s of the class, and the 79 entries from o on of the array a -/
def RSr (h : eH) (s a o : Nat) : Prop := (∀ k, k < 36 → gI h (s + 1) k = gI h a (o + k)) ∧ (∀ k, k < 36 → gI h a (o + (36 + k)) = if tb (gL h s 8) k then 1 else 0) ∧ ∀ k, 1 ≤ k → k ≤ 7 → gI h s k = gI h a (o + (71 + k))
theorem okS_same {h h' : eH} {s s' B : Nat} {F : FV} (hs : sameS h s h' s') (ho : okS h s F B) : okS h' s' F B := by
  obtain ⟨h1, h2, h3⟩ := hs
  obtain ⟨⟨sp, a1, a2, a3, a4⟩, ⟨hd, b1, b2⟩, ⟨cu, c1, c2⟩, ⟨bu, d1, d2⟩, e1, g1⟩ := ho
  refine ⟨⟨sp, a1, a2, by rw [h3]; exact a3, by rw [h2 1 (by omega) (by omega)]; exact a4⟩, ⟨hd, b1, by rw [h2 2 (by omega) (by omega)]; exact b2⟩, ⟨cu, c1, by rw [h2 3 (by omega) (by omega)]; exact c2⟩, ⟨bu, d1, by rw [h2 6 (by omega) (by omega)]; exact d2⟩, fun k hk => ?_, fun k hk => ?_⟩
  · rw [h1 k hk]; exact e1 k hk
  · rw [h3] at hk; exact g1 k hk
theorem okS_mono {h : eH} {s B B' : Nat} {F : FV} (hB : B ≤ B') (ho : okS h s F B) : okS h s F B' := by
  obtain ⟨h1, h2, h3, ⟨bu, d1, d2⟩, h5⟩ := ho
  exact ⟨h1, h2, h3, ⟨bu, Nat.le_trans d1 hB, d2⟩, h5⟩
theorem RSr_same {h h' : eH} {s s' a a' o o' : Nat} (hs : sameS h s h' s') (ha : ∀ k, k < 79 → gI h' a' (o' + k) = gI h a (o + k)) (hr : RSr h s a o) : RSr h' s' a' o' := by
  obtain ⟨h1, h2, h3⟩ := hs
  obtain ⟨r1, r2, r3⟩ := hr
  refine ⟨fun k hk => ?_, fun k hk => ?_, fun k k1 k7 => ?_⟩
  · rw [h1 k hk, ha k (by omega)]; exact r1 k hk
  · rw [ha (36 + k) (by omega), h3]; exact r2 k hk
  · rw [h2 k k1 k7, ha (71 + k) (by omega)]; exact r3 k k1 k7
theorem sameS_rf {h h' : eH} {s : Nat} (h1 : ∀ k, gI h' (s + 1) k = gI h (s + 1) k) (h2 : ∀ k, gI h' s k = gI h s k) (h3 : gL h' s 8 = gL h s 8) : sameS h s h' s := ⟨fun k _ => h1 k, fun k _ _ => h2 k, h3⟩
/-- what is kept, on both sides -/
def RK (h : eH) (F : FV) (B : Nat) : Prop := ∃ kn, kn < 8 ∧ gI h 0 19 = nI kn ∧ ∀ i, i < 3 → gI h 97 i = (if kn.testBit i then 1 else 0) ∧ (kn.testBit i = true → RSr h (53 + 2 * i) 98 (79 * i) ∧ okS h (53 + 2 * i) F B)
theorem RK_congr {h h' : eH} {F : FV} {B : Nat} (h1 : gI h' 0 19 = gI h 0 19) (h2 : ∀ k, gI h' 97 k = gI h 97 k) (h3 : ∀ k, gI h' 98 k = gI h 98 k) (h4 : ∀ j k, 53 ≤ j → j ≤ 58 → gI h' j k = gI h j k) (h5 : ∀ j k, 53 ≤ j → j ≤ 58 → gL h' j k = gL h j k) (hr : RK h F B) : RK h' F B := by
  obtain ⟨kn, k1, k2, k3⟩ := hr
  refine ⟨kn, k1, h1.trans k2, fun i hi => ⟨(h2 i).trans (k3 i hi).1, fun ht => ?_⟩⟩
  obtain ⟨a, b⟩ := (k3 i hi).2 ht
  have hs : sameS h (53 + 2 * i) h' (53 + 2 * i) := sameS_rf (fun k => h4 _ k (by omega) (by omega)) (fun k => h4 _ k (by omega) (by omega)) (h5 _ 8 (by omega) (by omega))
  exact ⟨RSr_same hs (fun k _ => h3 _) a, okS_same hs b⟩
theorem st_k : ∀ i, i < 3 → 53 + 2 * i ∈ stL := by decide
theorem r_52 {h : eH} (hR : RefsOK h) {i : Nat} (hi : i < 3) : gR h 52 i = some (53 + 2 * i) := by
  have : i = 0 ∨ i = 1 ∨ i = 2 := by omega
  rcases this with rfl | rfl | rfl
  · exact r_52_0 hR
  · exact r_52_1 hR
  · exact r_52_2 hR
theorem kn_or : ∀ kn, kn < 8 → ∀ i, i < 3 → nI kn ||| ((1 : Int32) <<< (nI i &&& 31)) = nI (kn ||| 2 ^ i) ∧ kn ||| 2 ^ i < 8 ∧ ∀ j, j < 3 → (kn ||| 2 ^ i).testBit j = (kn.testBit j || decide (j = i)) := by decide +kernel
theorem nar1 : vp_nar .boolean 1 = 1 := by decide +kernel
theorem pos3 (v : Int32) : v < 0 ∨ (¬ v < 0 ∧ ¬ v < 3) ∨ ∃ j, j < 3 ∧ v = nI j := by
  rcases pk_ix v (n := 3) (by decide) with h | h | h
  · exact Or.inl h
  · refine Or.inr (Or.inl ⟨?_, ?_⟩)
    · intro q
      rw [fa_lt] at q
      have h : (3 : Int32) ≤ v := h
      rw [fa_le] at h
      have e3 : (3 : Int32).toInt = 3 := by decide
      have e0 : (0 : Int32).toInt = 0 := by decide
      omega
    · intro q
      rw [fa_lt] at q
      have h : (3 : Int32) ≤ v := h
      rw [fa_le] at h
      omega
  · exact Or.inr (Or.inr h)
/-- what a pair of calls may have changed: nothing but the cells that W names -/
def only (W : Nat → Nat → Prop) (h h' : eH) : Prop := (∀ j k, ¬ W j k → gI h' j k = gI h j k ∧ gL h' j k = gL h j k) ∧ ∀ j k, gR h' j k = gR h j k
theorem keep_rel {h : eH} {F : FV} {B : Nat} (hR : RefsOK h) (hS : RSr h 46 76 0) (ho : okS h 46 F B) (hK : RK h F B) (v : Int32) : ∃ (h1 h2 : eH) (r : Int32), f_X10_keep LF h 0 v = some (h1, r) ∧ f_X11_keep LF h1 73 v = some (h2, r) ∧ RK h2 F B ∧ only (fun j k => (j = 0 ∧ k = 19) ∨ (53 ≤ j ∧ j ≤ 58) ∨ j = 97 ∨ j = 98 ∨ (j = 73 ∧ k = 0)) h h2 := by
  have no : ∀ b : Bool, True := fun _ => trivial
  have bad : (f_X11_in v.toInt64 0 2 = if v < 0 then 0 else if (2 : Int32) < v then 0 else 1) := in_spec v 0 2
  rcases pos3 v with hv | ⟨hv, hv3⟩ | ⟨i, hi, rfl⟩
  · refine ⟨h, sI h 73 0 0, 0, ?_, ?_, RK_congr ?_ ?_ ?_ ?_ ?_ hK, ⟨fun j k hW => ⟨?_, rfl⟩, fun _ _ => rfl⟩⟩
    · unfold f_X10_keep; rw [if_pos hv]
    · unfold f_X11_keep; rw [if_pos iO_73, bad, if_pos hv, if_pos rfl]
    · rw [gI_sI, if_neg (by omega)]
    · intro k; rw [gI_sI, if_neg (by omega)]
    · intro k; rw [gI_sI, if_neg (by omega)]
    · intro j k _ _; rw [gI_sI, if_neg (by omega)]
    · intro j k _ _; rfl
    · rw [gI_sI, if_neg (by omega)]
  · have h2 : (2 : Int32) < v := by
      rw [fa_lt] at hv3 ⊢
      have e3 : (3 : Int32).toInt = 3 := by decide
      have e2 : (2 : Int32).toInt = 2 := by decide
      omega
    refine ⟨h, sI h 73 0 0, 0, ?_, ?_, RK_congr ?_ ?_ ?_ ?_ ?_ hK, ⟨fun j k hW => ⟨?_, rfl⟩, fun _ _ => rfl⟩⟩
    · unfold f_X10_keep; rw [if_neg hv, if_neg hv3]
    · unfold f_X11_keep; rw [if_pos iO_73, bad, if_neg hv, if_pos h2, if_pos rfl]
    · rw [gI_sI, if_neg (by omega)]
    · intro k; rw [gI_sI, if_neg (by omega)]
    · intro k; rw [gI_sI, if_neg (by omega)]
    · intro j k _ _; rw [gI_sI, if_neg (by omega)]
    · intro j k _ _; rfl
    · rw [gI_sI, if_neg (by omega)]
  · obtain ⟨hc, e1, s1, g1, l1, r1⟩ := copyFrom_ok hR (st_k i hi) (show (46 : Nat) ∈ stL by decide)
    obtain ⟨kn, k1, k2, k3⟩ := hK
    have hRc : RefsOK hc := fun q hq => by rw [r1]; exact hR q hq
    have q0 : ¬ nI i < 0 := nI_pos (by omega)
    have q3 : nI i < 3 := nI_lt (b := 3) hi (by decide)
    have q2 : ¬ (2 : Int32) < nI i := nI_nlt (a := 2) (by omega) (by decide)
    have kc : gI hc 0 19 = nI kn := by rw [g1 0 19 (by omega) (by omega)]; exact k2
    obtain ⟨o1, o2, o3⟩ := kn_or kn k1 i hi
    have c1 : f_X10_keep LF h 0 (nI i) = some (sI hc 0 19 (nI (kn ||| 2 ^ i)), 1) := by
      unfold f_X10_keep
      rw [if_neg q0, if_pos q3, if_pos iO_0, r_0_10 hR, Option.bind_some, iA_52, if_pos (in_nI hi (by decide)), nI_clamp (by omega), r_52 hR hi, Option.bind_some, r_0_7 hR, Option.bind_some, if_pos (st_O _ (st_k i hi)), e1, Option.bind_some, kc, o1, Option.bind_some]
    have hR1 : RefsOK (sI hc 0 19 (nI (kn ||| 2 ^ i))) := refs_sI hRc
    obtain ⟨fu, hfu⟩ := fu_s 79 (by decide)
    have c2 : f_X11_keep LF (sI hc 0 19 (nI (kn ||| 2 ^ i))) 73 (nI i) = some (wrI 98 (79 * i) (fun j => gI h 76 (0 + j)) 79 0 (sI (sI (sI hc 0 19 (nI (kn ||| 2 ^ i))) 73 0 0) 97 i 1), 1) := by
      unfold f_X11_keep
      have hin : f_X11_in (nI i).toInt64 0 2 = 1 := by rw [bad, if_neg q0, if_neg q2]
      have hR2 : RefsOK (sI (sI hc 0 19 (nI (kn ||| 2 ^ i))) 73 0 0) := refs_sI hR1
      rw [if_pos iO_73, hin, if_neg (by decide), r_73_44 hR2, Option.bind_some, iA_97, if_pos (in_nI hi (by decide)), nar1, nI_clamp (by omega), Option.bind_some, hfu]
      exact keep_loop (g := fun j => gI h 76 j) hi 79 0 fu _ rfl (refs_sI hR2) (fun j => by rw [gI_sI, if_neg (by omega), gI_sI, if_neg (by omega), gI_sI, if_neg (by omega), g1 76 j (by omega) (by omega)])
    have hnow : ∀ j k, j ≠ 0 → j ≠ 73 → j ≠ 97 → j ≠ 98 → gI (wrI 98 (79 * i) (fun j => gI h 76 (0 + j)) 79 0 (sI (sI (sI hc 0 19 (nI (kn ||| 2 ^ i))) 73 0 0) 97 i 1)) j k = gI hc j k := by
      intro j k a b c d
      rw [wrI_gI, if_neg (by omega), gI_sI, if_neg (by omega), gI_sI, if_neg (by omega), gI_sI, if_neg (by omega)]
    have hlong : ∀ j k, gL (wrI 98 (79 * i) (fun j => gI h 76 (0 + j)) 79 0 (sI (sI (sI hc 0 19 (nI (kn ||| 2 ^ i))) 73 0 0) 97 i 1)) j k = gL hc j k := by
      intro j k; rw [wrI_gL]; rfl
    refine ⟨_, _, 1, c1, c2, ⟨kn ||| 2 ^ i, o2, ?_, fun m hm => ⟨?_, fun ht => ?_⟩⟩, ⟨fun j k hW => ⟨?_, ?_⟩, fun j k => ?_⟩⟩
    · rw [wrI_gI, if_neg (by omega), gI_sI, if_neg (by omega), gI_sI, if_neg (by omega), gI_sI, if_pos ⟨rfl, rfl⟩]
    · rw [wrI_gI, if_neg (by omega), gI_sI, o3 m hm]
      by_cases hmi : m = i
      · rw [if_pos ⟨rfl, hmi⟩]; simp [hmi]
      · rw [if_neg (by omega), gI_sI, if_neg (by omega), gI_sI, if_neg (by omega), g1 97 m (by omega) (by omega), (k3 m hm).1]; simp [hmi]
    · by_cases hmi : m = i
      · subst hmi
        have hs : sameS h 46 (wrI 98 (79 * m) (fun j => gI h 76 (0 + j)) 79 0 (sI (sI (sI hc 0 19 (nI (kn ||| 2 ^ m))) 73 0 0) 97 m 1)) (53 + 2 * m) := by
          refine ⟨fun k hk => ?_, fun k a b => ?_, ?_⟩
          · rw [hnow _ _ (by omega) (by omega) (by omega) (by omega)]; exact s1.1 k hk
          · rw [hnow _ _ (by omega) (by omega) (by omega) (by omega)]; exact s1.2.1 k a b
          · rw [hlong]; exact s1.2.2
        refine ⟨RSr_same hs (fun k hk => ?_) hS, okS_same hs ho⟩
        rw [wrI_gI, if_pos (by omega)]
        show gI h 76 (0 + (79 * m + k - 79 * m)) = _
        rw [Nat.add_sub_cancel_left]
      · rw [o3 m hm] at ht
        have ht : kn.testBit m = true := by simpa [hmi] using ht
        obtain ⟨a, b⟩ := (k3 m hm).2 ht
        have hs : sameS h (53 + 2 * m) (wrI 98 (79 * i) (fun j => gI h 76 (0 + j)) 79 0 (sI (sI (sI hc 0 19 (nI (kn ||| 2 ^ i))) 73 0 0) 97 i 1)) (53 + 2 * m) := by
          refine sameS_rf (fun k => ?_) (fun k => ?_) ?_
          · rw [hnow _ _ (by omega) (by omega) (by omega) (by omega)]; exact g1 _ k (by omega) (by omega)
          · rw [hnow _ _ (by omega) (by omega) (by omega) (by omega)]; exact g1 _ k (by omega) (by omega)
          · rw [hlong]; exact l1 _ _ (by omega)
        refine ⟨RSr_same hs (fun k hk => ?_) a, okS_same hs b⟩
        rw [wrI_gI, if_neg (by omega), gI_sI, if_neg (by omega), gI_sI, if_neg (by omega), gI_sI, if_neg (by omega)]
        exact g1 98 _ (by omega) (by omega)
    · by_cases hz : j = 73
      · subst hz
        rw [wrI_gI, if_neg (by omega), gI_sI, if_neg (by omega), gI_sI, if_neg (by omega), gI_sI, if_neg (by omega)]
        exact g1 _ _ (by omega) (by omega)
      · by_cases hz0 : j = 0
        · subst hz0
          rw [wrI_gI, if_neg (by omega), gI_sI, if_neg (by omega), gI_sI, if_neg (by omega), gI_sI, if_neg (by omega)]
          exact g1 _ _ (by omega) (by omega)
        · rw [hnow j k hz0 hz (by omega) (by omega)]; exact g1 _ _ (by omega) (by omega)
    · rw [hlong]; exact l1 _ _ (by omega)
    · rw [wrI_gR]; exact r1 j k

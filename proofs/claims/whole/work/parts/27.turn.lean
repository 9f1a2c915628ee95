/-! turn, on both sides. -/
theorem hd4 : ∀ a, a < 4 → ∀ b, b < 4 → (nI a + nI b) &&& 3 = nI ((a + b) % 4) ∧ (nI a + nI b) - (nI a + nI b) / 4 * 4 = nI ((a + b) % 4) := by decide +kernel
theorem pos4 (v : Int32) : v < 0 ∨ (¬ v < 0 ∧ ¬ v < 4) ∨ ∃ j, j < 4 ∧ v = nI j := by
  rcases pk_ix v (n := 4) (by decide) with h | h | h
  · exact Or.inl h
  · have h : (4 : Int32) ≤ v := h
    rw [fa_le] at h
    have e4 : (4 : Int32).toInt = 4 := by decide
    have e0 : (0 : Int32).toInt = 0 := by decide
    exact Or.inr (Or.inl ⟨fun q => by rw [fa_lt] at q; omega, fun q => by rw [fa_lt] at q; omega⟩)
  · exact Or.inr (Or.inr h)
theorem in03 (v : Int32) : f_X11_in v.toInt64 0 3 = if v < 0 then 0 else if v < 4 then 1 else 0 := by
  have h := in_spec v 0 3
  have e : f_X11_in v.toInt64 0 3 = if v < 0 then 0 else if (3 : Int32) < v then 0 else 1 := h
  rw [e]
  by_cases h0 : v < 0
  · rw [if_pos h0, if_pos h0]
  · rw [if_neg h0, if_neg h0]
    have e4 : (4 : Int32).toInt = 4 := by decide
    have e3 : (3 : Int32).toInt = 3 := by decide
    by_cases h4 : v < 4
    · rw [if_pos h4, if_neg (by rw [fa_lt] at h4 ⊢; omega)]
    · rw [if_neg h4, if_pos (by rw [fa_lt] at h4 ⊢; omega)]
theorem only_refs {W : Nat → Nat → Prop} {h h' : eH} (ho : only W h h') (hR : RefsOK h) : RefsOK h' := fun q hq => by rw [ho.2]; exact hR q hq
def turnW (j k : Nat) : Prop := j = 6 ∨ (8 ≤ j ∧ j ≤ 37) ∨ (j = 46 ∧ k = 2) ∨ j = 48 ∨ j = 49 ∨ j = 84 ∨ (j = 76 ∧ k = 73) ∨ (j = 73 ∧ (k = 0 ∨ k = 24))
theorem turn_no {h : eH} {F : FV} {B : Nat} (hR : RefsOK h) (hS : RSr h 46 76 0) (ho : okS h 46 F B) (hU : RU h F B) (v : Int32) (hc : ∀ L h, f_X10_turnRight L h 0 v = some (h, -1)) (hm : f_X11_in v.toInt64 0 3 = 0) : ∃ (h1 h2 : eH) (r : Int32), f_X10_turn LF h 0 v = some (h1, r) ∧ f_X11_turn LF h1 73 v = some (h2, r) ∧ RU h2 F B ∧ RSr h2 46 76 0 ∧ okS h2 46 F B ∧ only turnW h h2 := by
  obtain ⟨hA, c1, c2, c3, c4, c5⟩ := copyFrom_ok hR (show (48 : Nat) ∈ stL by decide) (show (46 : Nat) ∈ stL by decide)
  have g : ∀ j k, j ≠ 48 → j ≠ 49 → ¬ (j = 73 ∧ k = 0) → gI (sI hA 73 0 0) j k = gI h j k := fun j k a b c => by rw [gI_sI, if_neg (by omega)]; exact c3 j k a b
  have gl : ∀ j k, j ≠ 48 → gL (sI hA 73 0 0) j k = gL h j k := fun j k a => c4 j k a
  have hs : sameS h 46 (sI hA 73 0 0) 46 := sameS_rf (fun k => g _ _ (by omega) (by omega) (by omega)) (fun k => g _ _ (by omega) (by omega) (by omega)) (gl _ _ (by omega))
  refine ⟨hA, sI hA 73 0 0, -1, ?_, ?_, RU_congr ?_ ?_ ?_ ?_ ?_ hU, RSr_same hs (fun k _ => g _ _ (by omega) (by omega) (by omega)) hS, okS_same hs ho, ⟨fun j k hW => ⟨?_, ?_⟩, fun j k => ?_⟩⟩
  · unfold f_X10_turn
    rw [if_pos iO_0, r_0_8 hR, Option.bind_some, r_0_7 hR, Option.bind_some, if_pos iO_48, c1, Option.bind_some, hc, Option.bind_some]
    unfold f_X10_remembered
    rw [if_pos (by show (-1 : Int32) < 0; decide), Option.bind_some]
  · unfold f_X11_turn
    rw [if_pos iO_73, hm, if_pos rfl]
  · intro k; exact g _ _ (by omega) (by omega) (by omega)
  · exact g _ _ (by omega) (by omega) (by omega)
  · intro k; exact g _ _ (by omega) (by omega) (by omega)
  · intro j k a b; exact g _ _ (by omega) (by omega) (by omega)
  · intro j k a b; exact gl _ _ (by omega)
  · unfold turnW at hW; exact g _ _ (by omega) (by omega) (by omega)
  · unfold turnW at hW; exact gl _ _ (by omega)
  · exact c5 j k
theorem turn_rel {h : eH} {F : FV} {B : Nat} (hR : RefsOK h) (hS : RSr h 46 76 0) (ho : okS h 46 F B) (hU : RU h F B) (v : Int32) : ∃ (h1 h2 : eH) (r : Int32), f_X10_turn LF h 0 v = some (h1, r) ∧ f_X11_turn LF h1 73 v = some (h2, r) ∧ RU h2 F B ∧ RSr h2 46 76 0 ∧ okS h2 46 F B ∧ only turnW h h2 := by
  rcases pos4 v with hv | ⟨hv, hv4⟩ | ⟨n, hn, rfl⟩
  · refine turn_no hR hS ho hU v (fun L h => ?_) (by rw [in03, if_pos hv])
    unfold f_X10_turnRight; rw [if_pos hv]
  · refine turn_no hR hS ho hU v (fun L h => ?_) (by rw [in03, if_neg hv, if_neg hv4])
    unfold f_X10_turnRight; rw [if_neg hv, if_neg hv4]
  · obtain ⟨hA, c1, c2, c3, c4, c5⟩ := copyFrom_ok hR (show (48 : Nat) ∈ stL by decide) (show (46 : Nat) ∈ stL by decide)
    have hRA : RefsOK hA := fun q hq => by rw [c5]; exact hR q hq
    obtain ⟨hd, d1, d2⟩ := ho.2.1
    obtain ⟨x1, x2⟩ := hd4 hd d1 n hn
    have q0 : ¬ nI n < 0 := nI_pos (by omega)
    have q4 : nI n < 4 := nI_lt (b := 4) hn (by decide)
    have hlt : (hd + n) % 4 < 4 := Nat.mod_lt _ (by decide)
    have eA : gI hA 46 2 = nI hd := by rw [c3 46 2 (by omega) (by omega)]; exact d2
    have hRB : RefsOK (sI hA 46 2 (nI ((hd + n) % 4))) := refs_sI hRA
    have t1 : f_X10_turnRight LF hA 0 (nI n) = some (sI hA 46 2 (nI ((hd + n) % 4)), nI ((hd + n) % 4)) := by
      unfold f_X10_turnRight f_X6_turnBy
      rw [if_neg q0, if_pos q4, if_pos iO_0, r_0_7 hRA, Option.bind_some, if_pos iO_46, if_pos iO_46, eA, x1, Option.bind_some, r_0_7 hRB, Option.bind_some, if_pos iO_46, gI_sI, if_pos ⟨rfl, rfl⟩]
    obtain ⟨len, nx, a1, a2, a3, a4, a5, a6⟩ := hU
    obtain ⟨hC, p1, p2, p3, p4, p5, p6, p7⟩ := push_ok hRB (show (48 : Nat) ∈ stL by decide) a1 a2 (by rw [gI_sI, if_neg (by omega), c3 6 2 (by omega) (by omega)]; exact a3) (by rw [gI_sI, if_neg (by omega), c3 6 1 (by omega) (by omega)]; exact a4)
    have hRC : RefsOK hC := fun q hq => by rw [p7]; exact hRB q hq
    have f1 : f_X10_turn LF h 0 (nI n) = some (hC, nI ((hd + n) % 4)) := by
      unfold f_X10_turn
      rw [if_pos iO_0, r_0_8 hR, Option.bind_some, r_0_7 hR, Option.bind_some, if_pos iO_48, c1, Option.bind_some, t1, Option.bind_some]
      unfold f_X10_remembered
      rw [if_neg (show ¬ nI ((hd + n) % 4) < 0 from nI_pos (by omega)), if_pos iO_0, r_0_3 hRB, Option.bind_some, r_0_8 hRB, Option.bind_some, if_pos iO_6, p1, Option.bind_some, Option.bind_some]
    -- the class's world, seen from the first one
    have gC : ∀ j k, j ≠ 6 → ¬ (8 ≤ j ∧ j ≤ 37) → ¬ (j = 46 ∧ k = 2) → j ≠ 48 → j ≠ 49 → gI hC j k = gI h j k := fun j k a b c d e => by
      rw [p5 j k (by omega) (by omega) a, gI_sI, if_neg c]; exact c3 j k d e
    have lC : ∀ j k, ¬ (8 ≤ j ∧ j ≤ 37) → j ≠ 48 → gL hC j k = gL h j k := fun j k a b => by rw [p6 j k (by omega)]; exact c4 j k b
    have hRD : RefsOK (sI hC 73 0 0) := refs_sI hRC
    obtain ⟨hE, y1, y2, y3, y4, y5⟩ := putsBy_ok hRD a1 (by rw [gI_sI, if_neg (by omega), gC 73 24 (by omega) (by omega) (by omega) (by omega) (by omega)]; exact a5)
    have hRE : RefsOK hE := fun q hq => by rw [y5]; exact hRD q hq
    have e73 : (73 : Int32).toNatClampNeg = 73 := by decide
    have m0 : gI h 76 73 = nI hd := by
      have := hS.2.2 2 (by omega) (by omega)
      rw [d2] at this; exact this.symm
    have m1 : gI hE 76 73 = nI hd := by rw [y3 76 73 (by omega), gI_sI, if_neg (by omega), gC 76 73 (by omega) (by omega) (by omega) (by omega) (by omega)]; exact m0
    have hRG : RefsOK (sI hE 76 73 (nI ((hd + n) % 4))) := refs_sI hRE
    obtain ⟨hZ, z1, z2, z3, z4, z5, z6⟩ := adds_ok hRG a1 (by rw [gI_sI, if_neg (by omega), y3 73 24 (by omega), gI_sI, if_neg (by omega), gC 73 24 (by omega) (by omega) (by omega) (by omega) (by omega)]; exact a5) (nI ((hd + n) % 4))
    have i73 : inA LF 76 0 73 = true := by decide
    have f2 : f_X11_turn LF hC 73 (nI n) = some (hZ, nI ((hd + n) % 4)) := by
      unfold f_X11_turn
      rw [if_pos iO_73, in03, if_neg q0, if_pos q4, if_neg (by decide), y1, Option.bind_some, r_73_7 hRE, Option.bind_some, Option.bind_some, if_pos i73, if_pos i73, e73, m1, x2, Option.bind_some, r_73_7 hRG, Option.bind_some, if_pos i73, gI_sI, if_pos ⟨rfl, rfl⟩, z1, Option.bind_some]
    -- the last world, seen from the first one
    have gZ : ∀ j k, ¬ turnW j k → gI hZ j k = gI h j k := fun j k hW => by
      unfold turnW at hW
      rw [z4 j k (by omega) (by omega), gI_sI, if_neg (by omega), y3 j k (by omega), gI_sI, if_neg (by omega)]
      exact gC j k (by omega) (by omega) (by omega) (by omega) (by omega)
    have lZ : ∀ j k, ¬ turnW j k → gL hZ j k = gL h j k := fun j k hW => by
      unfold turnW at hW
      rw [z5, gL_sI, y4, gL_sI]; exact lC j k (by omega) (by omega)
    have rZ : ∀ j, j < 73 → ∀ k, gI hZ j k = gI hC j k := fun j hj k => by
      rw [z4 j k (by omega) (by omega), gI_sI, if_neg (by omega), y3 j k (by omega), gI_sI, if_neg (by omega)]
    have rL : ∀ j k, gL hZ j k = gL hC j k := fun j k => by rw [z5, gL_sI, y4, gL_sI]
    have hhead : gI hZ 46 2 = nI ((hd + n) % 4) := by rw [rZ 46 (by omega), p5 46 2 (by omega) (by omega) (by omega), gI_sI, if_pos ⟨rfl, rfl⟩]
    have mhead : gI hZ 76 73 = nI ((hd + n) % 4) := by rw [z4 76 73 (by omega) (by omega), gI_sI, if_pos ⟨rfl, rfl⟩]
    refine ⟨hC, hZ, _, f1, f2, RU_push (h0 := h) a1 a2 a6 hS ho ?_ ?_ z2 ?_ ?_ ?_ ?_, ⟨fun k hk => ?_, fun k hk => ?_, fun k k1 k7 => ?_⟩, ⟨?_, ⟨(hd + n) % 4, hlt, hhead⟩, ?_, ?_, ?_, ?_⟩, ⟨fun j k hW => ⟨gZ j k hW, lZ j k hW⟩, fun j k => ?_⟩⟩
    · rw [rZ 6 (by omega)]; exact p3
    · rw [rZ 6 (by omega)]; exact p2
    · refine ⟨fun k hk => ?_, fun k k1 k7 => ?_, ?_⟩
      · rw [rZ _ (by omega), p4.1 k hk, gI_sI, if_neg (by omega)]; exact c2.1 k hk
      · rw [rZ _ (by omega), p4.2.1 k k1 k7, gI_sI, if_neg (by omega)]; exact c2.2.1 k k1 k7
      · rw [rL, p4.2.2]; exact c2.2.2
    · intro i hi hne
      refine sameS_rf (fun k => ?_) (fun k => ?_) ?_
      · rw [rZ _ (by omega), p5 _ _ (by omega) (by omega) (by omega), gI_sI, if_neg (by omega)]; exact c3 _ _ (by omega) (by omega)
      · rw [rZ _ (by omega), p5 _ _ (by omega) (by omega) (by omega), gI_sI, if_neg (by omega)]; exact c3 _ _ (by omega) (by omega)
      · rw [rL, p6 _ _ (by omega)]; exact c4 _ _ (by omega)
    · intro k hk
      have e76 : ∀ q, gI (sI hC 73 0 0) 76 q = gI h 76 q := fun q => by rw [gI_sI, if_neg (by omega)]; exact gC 76 q (by omega) (by omega) (by omega) (by omega) (by omega)
      rw [z3]
      by_cases h15 : len = 15
      · subst h15
        rw [if_pos ⟨rfl, by omega⟩, gI_sI, if_neg (by omega), y2, if_pos (by omega), e76]
        exact congrArg (gI h 76) (by omega)
      · rw [if_neg (by omega), gI_sI, if_neg (by omega), y2, if_pos (by omega), e76]
        exact congrArg (gI h 76) (by omega)
    · intro k hk
      have e84 : ∀ q, gI (sI hC 73 0 0) 84 q = gI h 84 q := fun q => by rw [gI_sI, if_neg (by omega)]; exact gC 84 q (by omega) (by omega) (by omega) (by omega) (by omega)
      rw [z3]
      by_cases h15 : len = 15
      · subst h15
        rw [if_pos ⟨rfl, by omega⟩, if_pos rfl, gI_sI, if_neg (by omega), y2, if_neg (by omega), e84]
      · rw [if_neg (by omega), if_neg h15, gI_sI, if_neg (by omega), y2, if_neg (by omega), e84]
    · rw [gZ 47 k (by unfold turnW; omega), gZ 76 (0 + k) (by unfold turnW; omega)]; exact hS.1 k hk
    · rw [gZ 76 (0 + (36 + k)) (by unfold turnW; omega), lZ 46 8 (by unfold turnW; omega)]; exact hS.2.1 k hk
    · by_cases hk2 : k = 2
      · subst hk2; rw [hhead]; exact mhead.symm
      · rw [gZ 46 k (by unfold turnW; omega), gZ 76 (0 + (71 + k)) (by unfold turnW; omega)]; exact hS.2.2 k k1 k7
    · obtain ⟨sp, s1, s2, s3, s4⟩ := ho.1
      exact ⟨sp, s1, s2, by rw [lZ 46 8 (by unfold turnW; omega)]; exact s3, by rw [gZ 46 1 (by unfold turnW; omega)]; exact s4⟩
    · obtain ⟨cu, s1, s2⟩ := ho.2.2.1
      exact ⟨cu, s1, by rw [gZ 46 3 (by unfold turnW; omega)]; exact s2⟩
    · obtain ⟨bu, s1, s2⟩ := ho.2.2.2.1
      exact ⟨bu, s1, by rw [gZ 46 6 (by unfold turnW; omega)]; exact s2⟩
    · intro k hk
      rw [gZ 47 k (by unfold turnW; omega)]; exact ho.2.2.2.2.1 k hk
    · intro k hk
      rw [lZ 46 8 (by unfold turnW; omega)] at hk; exact ho.2.2.2.2.2 k hk
    · rw [z6, gR_sI, y5, gR_sI, p7, gR_sI]; exact c5 j k

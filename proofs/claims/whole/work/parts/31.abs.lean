/-! One side at a time: a state is told by the reference's row of 79 numbers, on both sides. -/
def CS (h : eH) (s : Nat) (S : Nat → Int32) : Prop := (∀ k, k < 36 → gI h (s + 1) k = S k) ∧ (∀ k, k < 36 → S (36 + k) = if tb (gL h s 8) k then 1 else 0) ∧ (∀ k, 1 ≤ k → k ≤ 7 → gI h s k = S (71 + k)) ∧ ∀ k, tb (gL h s 8) k = true → k < 36
def MS (h : eH) (a o : Nat) (S : Nat → Int32) : Prop := ∀ k, k < 79 → gI h a (o + k) = S k
def okA (F : FV) (B : Nat) (S : Nat → Int32) : Prop := (∃ sp, sp < 36 ∧ kF F sp ≠ 0 ∧ S (36 + sp) = 0 ∧ S 72 = nI sp) ∧ (∃ hd, hd < 4 ∧ S 73 = nI hd) ∧ (∃ cu, cu ≤ 999 ∧ S 74 = nI cu) ∧ (∃ bu, bu ≤ B ∧ S 77 = nI bu) ∧ (∀ k, k < 36 → ∃ du, du ≤ 99 ∧ S k = nI du ∧ (kF F k = 0 → du = 0)) ∧ ∀ k, k < 36 → S (36 + k) = 0 ∨ (S (36 + k) = 1 ∧ kF F k ≠ 0)
theorem i10 : ¬ (1 : Int32) = 0 := by decide
theorem i01 : ¬ (0 : Int32) = 1 := by decide
theorem b_if {b : Bool} (h : (if b then (1 : Int32) else 0) = 0) : b = false := by cases b <;> first | rfl | exact absurd h i10
theorem rel_A {h : eH} {s a o B : Nat} {F : FV} (hr : RSr h s a o) (ho : okS h s F B) : ∃ S, CS h s S ∧ MS h a o S ∧ okA F B S := by
  obtain ⟨r1, r2, r3⟩ := hr
  obtain ⟨⟨sp, a1, a2, a3, a4⟩, ⟨hd, b1, b2⟩, ⟨cu, c1, c2⟩, ⟨bu, d1, d2⟩, e1, g1⟩ := ho
  refine ⟨fun k => gI h a (o + k), ⟨r1, r2, fun k x y => r3 k x y, fun k hk => (g1 k hk).1⟩, fun k _ => rfl, ⟨sp, a1, a2, ?_, ?_⟩, ⟨hd, b1, ?_⟩, ⟨cu, c1, ?_⟩, ⟨bu, d1, ?_⟩, fun k hk => ?_, fun k hk => ?_⟩
  · exact (r2 sp a1).trans (by rw [a3]; rfl)
  · exact (r3 1 (by omega) (by omega)).symm.trans a4
  · exact (r3 2 (by omega) (by omega)).symm.trans b2
  · exact (r3 3 (by omega) (by omega)).symm.trans c2
  · exact (r3 6 (by omega) (by omega)).symm.trans d2
  · obtain ⟨du, x, y, z⟩ := e1 k hk
    exact ⟨du, x, (r1 k hk).symm.trans y, z⟩
  · show gI h a (o + (36 + k)) = 0 ∨ _
    rw [r2 k hk]
    by_cases ht : tb (gL h s 8) k = true
    · rw [ht]; exact Or.inr ⟨(r2 k hk).trans (by rw [ht]; rfl), (g1 k ht).2⟩
    · rw [if_neg ht]; exact Or.inl rfl
theorem A_ok {h : eH} {s B : Nat} {F : FV} {S : Nat → Int32} (hc : CS h s S) (ho : okA F B S) : okS h s F B := by
  obtain ⟨r1, r2, r3, r4⟩ := hc
  obtain ⟨⟨sp, a1, a2, a3, a4⟩, ⟨hd, b1, b2⟩, ⟨cu, c1, c2⟩, ⟨bu, d1, d2⟩, e1, g1⟩ := ho
  refine ⟨⟨sp, a1, a2, ?_, (r3 1 (by omega) (by omega)).trans a4⟩, ⟨hd, b1, (r3 2 (by omega) (by omega)).trans b2⟩, ⟨cu, c1, (r3 3 (by omega) (by omega)).trans c2⟩, ⟨bu, d1, (r3 6 (by omega) (by omega)).trans d2⟩, fun k hk => ?_, fun k hk => ?_⟩
  · exact b_if ((r2 sp a1).symm.trans a3)
  · obtain ⟨du, x, y, z⟩ := e1 k hk
    exact ⟨du, x, (r1 k hk).trans y, z⟩
  · have hk2 := r4 k hk
    refine ⟨hk2, ?_⟩
    rcases g1 k hk2 with g | g
    · rw [r2 k hk2, hk] at g; exact absurd g i10
    · exact g.2
theorem A_rel {h : eH} {s a o : Nat} {S : Nat → Int32} (hc : CS h s S) (hm : MS h a o S) : RSr h s a o := by
  obtain ⟨r1, r2, r3, r4⟩ := hc
  exact ⟨fun k hk => (r1 k hk).trans (hm k (by omega)).symm, fun k hk => (hm (36 + k) (by omega)).trans (r2 k hk), fun k x y => (r3 k x y).trans (hm (71 + k) (by omega)).symm⟩
theorem CS_same {h h' : eH} {s s' : Nat} {S : Nat → Int32} (hs : sameS h s h' s') (hc : CS h s S) : CS h' s' S := by
  obtain ⟨h1, h2, h3⟩ := hs
  obtain ⟨r1, r2, r3, r4⟩ := hc
  exact ⟨fun k hk => (h1 k hk).trans (r1 k hk), fun k hk => by rw [h3]; exact r2 k hk, fun k x y => (h2 k x y).trans (r3 k x y), fun k hk => by rw [h3] at hk; exact r4 k hk⟩
/-! what is left as it was -/
theorem only_trans {W : Nat → Nat → Prop} {a b c : eH} (h1 : only W a b) (h2 : only W b c) : only W a c := ⟨fun j k hW => ⟨(h2.1 j k hW).1.trans (h1.1 j k hW).1, (h2.1 j k hW).2.trans (h1.1 j k hW).2⟩, fun j k => (h2.2 j k).trans (h1.2 j k)⟩
theorem only_mono {W V : Nat → Nat → Prop} {a b : eH} (hWV : ∀ j k, W j k → V j k) (h1 : only W a b) : only V a b := ⟨fun j k hV => h1.1 j k (fun w => hV (hWV j k w)), h1.2⟩
theorem only_rfl {W : Nat → Nat → Prop} {a : eH} : only W a a := ⟨fun _ _ _ => ⟨rfl, rfl⟩, fun _ _ => rfl⟩
theorem only_sI {W : Nat → Nat → Prop} {a : eH} {i k : Nat} {v : Int32} (hW : W i k) : only W a (sI a i k v) := ⟨fun j q hn => ⟨by rw [gI_sI, if_neg (by rintro ⟨rfl, rfl⟩; exact hn hW)], rfl⟩, fun _ _ => rfl⟩
theorem only_sL {W : Nat → Nat → Prop} {a : eH} {i k : Nat} {v : Int64} (hW : W i k) : only W a (sL a i k v) := ⟨fun j q hn => ⟨rfl, by rw [gL_sL, if_neg (by rintro ⟨rfl, rfl⟩; exact hn hW)]⟩, fun _ _ => rfl⟩
theorem only_wr {W : Nat → Nat → Prop} {a : eH} {c n m i : Nat} {f : Nat → Int32} (hW : ∀ k, W c k) : only W a (wrI c n f m i a) := ⟨fun j q hn => ⟨by rw [wrI_gI, if_neg (by rintro ⟨rfl, _⟩; exact hn (hW q))], wrI_gL _ _ _ _ _⟩, fun _ _ => wrI_gR _ _ _ _ _⟩
theorem CS_only {W : Nat → Nat → Prop} {h h' : eH} {s : Nat} {S : Nat → Int32} (ho : only W h h') (hW : ∀ k, ¬ W s k ∧ ¬ W (s + 1) k) (hc : CS h s S) : CS h' s S := CS_same (sameS_rf (fun k => (ho.1 _ _ (hW k).2).1) (fun k => (ho.1 _ _ (hW k).1).1) (ho.1 _ _ (hW 8).1).2) hc
theorem MS_only {W : Nat → Nat → Prop} {h h' : eH} {a o : Nat} {S : Nat → Int32} (ho : only W h h') (hW : ∀ k, ¬ W a k) (hm : MS h a o S) : MS h' a o S := fun k hk => ((ho.1 _ _ (hW _)).1).trans (hm k hk)
/-! the flat, one side at a time -/
def okF (F : FV) : Prop := 1 ≤ F.1 ∧ F.1 ≤ 6 ∧ 1 ≤ F.2.1 ∧ F.2.1 ≤ 6 ∧ (∀ k, F.2.2.1 k ≤ 2) ∧ ∀ p, F.2.2.2 = some p → p < 36 ∧ kF F p ≠ 0
def plI (F : FV) : Int32 := match F.2.2.2 with
  | none => -1
  | some p => nI p
def CP (h : eH) (p : Nat) (F : FV) : Prop := gI h p 1 = nI F.1 ∧ gI h p 2 = nI F.2.1 ∧ gI h p 3 = plI F ∧ (∀ k, tb (gL h p 4) k = decide (kF F k ≠ 0)) ∧ (∀ k, tb (gL h p 5) k = decide (kF F k = 2)) ∧ gL h p 6 = lN (leN F.1 F.2.1) ∧ gL h p 7 = lN (reN F.1 F.2.1) ∧ ∀ k, k < nF F → gI h (p + 1) k = nI (kF F k)
def CF (h : eH) (p : Nat) (F : FV) : Prop := (p = 63 ∨ p = 65) ∧ gR h 0 15 = some p ∧ gR h 0 16 = some (128 - p) ∧ CP h p F
def MF (h : eH) (F : FV) : Prop := gI h 73 3 = nI F.1 ∧ gI h 73 4 = nI F.2.1 ∧ gI h 73 5 = plI F ∧ ∀ k, k < 36 → gI h 75 k = nI (kF F k)
theorem CF_only {W : Nat → Nat → Prop} {h h' : eH} {p : Nat} {F : FV} (ho : only W h h') (hW : ∀ j k, 63 ≤ j → j ≤ 66 → ¬ W j k) (hc : CF h p F) : CF h' p F := by
  obtain ⟨hp, r1, r2, c1, c2, c3, c4, c5, c6, c7, c8⟩ := hc
  have w1 : ∀ k, ¬ W p k := fun k => hW p k (by omega) (by omega)
  have w2 : ∀ k, ¬ W (p + 1) k := fun k => hW (p + 1) k (by omega) (by omega)
  refine ⟨hp, (ho.2 _ _).trans r1, (ho.2 _ _).trans r2, (ho.1 _ _ (w1 _)).1.trans c1, (ho.1 _ _ (w1 _)).1.trans c2, (ho.1 _ _ (w1 _)).1.trans c3, fun k => ?_, fun k => ?_, (ho.1 _ _ (w1 _)).2.trans c6, (ho.1 _ _ (w1 _)).2.trans c7, fun k hk => (ho.1 _ _ (w2 _)).1.trans (c8 k hk)⟩
  · rw [(ho.1 _ _ (w1 4)).2]; exact c4 k
  · rw [(ho.1 _ _ (w1 5)).2]; exact c5 k
theorem MF_only {W : Nat → Nat → Prop} {h h' : eH} {F : FV} (ho : only W h h') (hW : ∀ k, k = 3 ∨ k = 4 ∨ k = 5 → ¬ W 73 k) (hW2 : ∀ k, ¬ W 75 k) (hc : MF h F) : MF h' F :=
  ⟨(ho.1 _ _ (hW 3 (by omega))).1.trans hc.1, (ho.1 _ _ (hW 4 (by omega))).1.trans hc.2.1, (ho.1 _ _ (hW 5 (by omega))).1.trans hc.2.2.1, fun k hk => (ho.1 _ _ (hW2 k)).1.trans (hc.2.2.2 k hk)⟩
theorem nF_le {F : FV} (hF : okF F) : nF F ≤ 36 := Nat.mul_le_mul hF.2.1 hF.2.2.2.1
theorem kF_lt {F : FV} {k : Nat} (h : kF F k ≠ 0) : k < nF F := by
  unfold kF at h
  by_cases hk : k < nF F
  · exact hk
  · rw [if_neg hk] at h; exact absurd rfl h
theorem kF_le {F : FV} (hF : okF F) (k : Nat) : kF F k ≤ 2 := by
  unfold kF
  split
  · exact hF.2.2.2.2.1 k
  · omega
theorem nI_inj {a b : Nat} (ha : a < 2 ^ 31) (hb : b < 2 ^ 31) (h : nI a = nI b) : a = b := (nI_eq ha hb).mp h
/-! sets of spots -/
theorem tb_and (x y : Int64) (k : Nat) : tb (x &&& y) k = (tb x k && tb y k) := by unfold tb; rw [Int64.toBitVec_and, BitVec.getLsbD_and]
theorem tb_or (x y : Int64) (k : Nat) : tb (x ||| y) k = (tb x k || tb y k) := by unfold tb; rw [Int64.toBitVec_or, BitVec.getLsbD_or]
theorem tb_xor (x y : Int64) (k : Nat) : tb (x ^^^ y) k = (tb x k ^^ tb y k) := by unfold tb; rw [Int64.toBitVec_xor, BitVec.getLsbD_xor]
theorem tb_big {x : Int64} {k : Nat} (h : 64 ≤ k) : tb x k = false := BitVec.getLsbD_of_ge _ _ h
theorem tb_m1 {k : Nat} (h : k < 64) : tb (-1) k = true := (by decide +kernel : ∀ k, k < 64 → tb (-1) k = true) k h
theorem tb_not (x : Int64) {k : Nat} (h : k < 64) : tb (x ^^^ (-1)) k = !tb x k := by rw [tb_xor, tb_m1 h]; cases tb x k <;> rfl
theorem tb_0 (k : Nat) : tb 0 k = false := BitVec.getLsbD_zero
theorem tb_ext {x y : Int64} (h : ∀ k, k < 64 → tb x k = tb y k) : x = y := Int64.toBitVec_inj.mp (BitVec.eq_of_getLsbD_eq (fun i hi => h i hi))
theorem lg_0 (x y : Int64) : lg_cmp x y = 0 ↔ x = y := by
  unfold lg_cmp
  constructor
  · intro h
    split at h
    · exact absurd h (by decide)
    · split at h
      · assumption
      · exact absurd h (by decide)
  · intro h
    subst h
    rw [if_neg (show ¬ x > x by show ¬ x < x; rw [fa_lt64]; omega), if_pos rfl]
theorem holds_k (x : Int64) {k : Nat} (hk : k < 36) : f_X10_holds x (nI k) = if tb x k then 1 else 0 := by
  unfold f_X10_holds
  rw [if_neg (nI_pos (by omega)), if_neg (show ¬ (36 : Int32) ≤ nI k from nI_ge (b := 36) hk (by decide))]
  have e := ts_bit (w := x) (s := (nI k).toInt64.toUInt64 &&& Int64.toUInt64 63) (j := k) (by omega) (by rw [wb_cu k (by omega)]; show (BitVec.ofNat 64 k).toNat = k; rw [BitVec.toNat_ofNat, Nat.mod_eq_of_lt (by omega)])
  by_cases ht : tb x k = true
  · rw [if_neg, if_pos ht]
    rw [lg_0, e]
    intro q
    unfold tb at ht
    rw [q] at ht; cases ht
  · rw [if_pos, if_neg ht]
    rw [lg_0, e]
    exact ts_nt ht
theorem holds_m (x : Int64) : f_X10_holds x (-1) = 0 := by unfold f_X10_holds; rw [if_pos (by decide)]
theorem tb_1 (k : Nat) : ∀ j, j < 64 → k < 64 → tb ((1 : Int64) <<< ((nI k).toInt64 &&& 63)) j = decide (j = k) := by
  intro j hj hk
  exact (by decide +kernel : ∀ k, k < 64 → ∀ j, j < 64 → tb ((1 : Int64) <<< ((nI k).toInt64 &&& 63)) j = decide (j = k)) k hk j hj
theorem bit_k {k : Nat} (hk : k < 36) : f_X10_bit (nI k) = (1 : Int64) <<< ((nI k).toInt64 &&& 63) := by
  unfold f_X10_bit
  rw [if_neg (nI_pos (by omega)), if_neg (show ¬ (36 : Int32) ≤ nI k from nI_ge (b := 36) hk (by decide))]
theorem bit_tb {k : Nat} (hk : k < 36) (j : Nat) : tb (f_X10_bit (nI k)) j = decide (j = k) := by
  rcases Nat.lt_or_ge j 64 with h | h
  · rw [bit_k hk]; exact tb_1 k j h (by omega)
  · rw [tb_big h, decide_eq_false (by omega)]
theorem bit_m : f_X10_bit (-1) = 0 := by unfold f_X10_bit; rw [if_pos (by decide)]
/-- a neighbour -/
def nb (F : FV) (s d : Nat) : Int32 := besideP (nI F.1) (nI F.2.1) (nI s) (nI d)
theorem nb_or {F : FV} (hF : okF F) {s d : Nat} (hs : s < nF F) (hd : d < 4) : nb F s d = -1 ∨ ∃ t, t < nF F ∧ nb F s d = nI t := geo2 F.1 (by have := hF.2.1; omega) F.2.1 (by have := hF.2.2.2.1; omega) s hs d hd
theorem p_O {h : eH} {p : Nat} {F : FV} (hc : CF h p F) : isO LF p 2 = true := by
  rcases hc.1 with rfl | rfl
  · exact iO_63
  · exact iO_65
theorem ahead_nb {h : eH} {p : Nat} {F : FV} (hF : okF F) (hc : CF h p F) {s d : Nat} (hs : s < nF F) (hd : d < 4) : f_X2_aheadOf LF h p (nI s) (nI d) = some (nb F s d) := by
  rw [ahead_P (p_O hc), hc.2.2.2.1, hc.2.2.2.2.1, hc.2.2.2.2.2.2.2.2.1, hc.2.2.2.2.2.2.2.2.2.1]
  exact congrArg some (geo1 F.1 (by have := hF.2.1; omega) F.2.1 (by have := hF.2.2.2.1; omega) s hs d hd)
theorem beside_nb {h : eH} {F : FV} (hF : okF F) (hm : MF h F) (s d : Nat) : f_X11_beside LF h 73 (nI s) (nI d) = some (nb F s d) := by
  have := hF.2.2.1
  have := hF.2.2.2.1
  rw [beside_P (by rw [hm.2.1]; exact nI_ne0 (by omega) (by omega)), hm.1, hm.2.1]
  rfl
/-- a spot is free in the state S -/
def frA (F : FV) (S : Nat → Int32) (t : Nat) : Bool := decide (kF F t ≠ 0) && decide (S (36 + t) = 0)
theorem frA_lt {F : FV} (hF : okF F) {S : Nat → Int32} {t : Nat} (h : frA F S t = true) : t < 36 := by
  have h2 : kF F t ≠ 0 := by
    intro q; unfold frA at h; rw [q] at h; simp at h
  have := kF_lt h2
  have := nF_le hF
  omega
theorem free_tb {h : eH} {p s : Nat} {F : FV} {S : Nat → Int32} (hF : okF F) (hc : CF h p F) (hs : CS h s S) (k : Nat) : tb ((gL h p 4) &&& ((gL h s 8) ^^^ (-1))) k = frA F S k := by
  rw [tb_and, hc.2.2.2.2.2.2.1]
  unfold frA
  by_cases hz : kF F k = 0
  · simp [hz]
  · have h1 := kF_lt hz
    have h2 := nF_le hF
    rw [tb_not _ (by omega), hs.2.1 k (by omega)]
    cases tb (gL h s 8) k <;> simp [hz]
theorem inA36 {a : Nat} (ha : a = 76 ∨ a = 77) (i : Int32) : inA LF a 0 i = (!(decide (i < 0)) && decide (i.toNatClampNeg < 79)) := by
  rcases ha with rfl | rfl
  · exact iA_76 i
  · exact iA_77 i
theorem isFree_k {h : eH} {a t : Nat} {F : FV} {S : Nat → Int32} (hF : okF F) (hR : RefsOK h) (ha : a = 76 ∨ a = 77) (hm : MF h F) (hs : MS h a 0 S) (ht : t < 36) : f_X11_isFree LF h 73 a (nI t) = some (if frA F S t then 1 else 0) := by
  have e36 : (36 : Int32) + nI t = nI (36 + t) := by rw [show (36 : Int32) = nI 36 from rfl, nI_add]
  have hS : gI h a (36 + t) = S (36 + t) := by have := hs (36 + t) (by omega); rwa [Nat.zero_add] at this
  unfold f_X11_isFree frA
  rw [if_neg (nI_pos (by omega)), if_pos iO_73, r_73_6 hR, Option.bind_some, iA_75, if_pos (in_nI ht (by decide)), nI_clamp (by omega), hm.2.2.2 t ht, e36, inA36 ha, if_pos (in_nI (by omega) (by decide)), nI_clamp (by omega), hS]
  by_cases hz : kF F t = 0
  · rw [hz, if_pos nI_0]; simp
  · have hk := kF_le hF t
    rw [if_neg (show ¬ nI (kF F t) = 0 from nI_ne0 (by omega) (by omega))]
    by_cases hs0 : S (36 + t) = 0 <;> simp [hz, hs0]
theorem isFree_m {h : eH} {a : Nat} : f_X11_isFree LF h 73 a (-1) = some 0 := by unfold f_X11_isFree; rw [if_pos (by decide)]

/-! A step, one side at a time. -/
theorem rm4 (x : Int32) : (x - x / 4 * 4).toInt = x.toInt.tmod 4 := by
  have h4 : (4 : Int32).toInt = 4 := by decide
  have hd : (x / 4).toInt = x.toInt.tdiv 4 := by rw [Int32.toInt_div_of_ne_right x 4 (by decide), h4]
  have e := Int.mul_tdiv_add_tmod x.toInt 4
  have l1 := Int.tmod_lt_of_pos x.toInt (show (0 : Int) < 4 by decide)
  have l2 := Int.lt_tmod_of_pos x.toInt (show (0 : Int) < 4 by decide)
  have b1 := Int32.le_toInt x
  have b2 := Int32.toInt_lt x
  rw [Int32.toInt_sub, Int32.toInt_mul, hd, h4]
  by_cases h0 : 0 ≤ x.toInt
  · have := Int.tmod_nonneg 4 h0
    simp only [Int.bmod_def]
    omega
  · have h0' : x.toInt ≤ 0 := by omega
    have : x.toInt.tmod 4 ≤ 0 := by
      have := Int.neg_tmod (-x.toInt) 4
      rw [Int.neg_neg] at this
      have h9 := Int.tmod_nonneg 4 (show 0 ≤ -x.toInt by omega)
      omega
    simp only [Int.bmod_def]
    omega
theorem rmA_lt (x : Int32) : ∃ q, q < 4 ∧ rmA x = nI q := by
  have e := rm4 x
  have l1 := Int.tmod_lt_of_pos x.toInt (show (0 : Int) < 4 by decide)
  have l2 := Int.lt_tmod_of_pos x.toInt (show (0 : Int) < 4 by decide)
  have z0 : (0 : Int32).toInt = 0 := by decide
  have z4 : (4 : Int32).toInt = 4 := by decide
  unfold rmA
  by_cases h : 0 ≤ x - x / 4 * 4
  · rw [if_pos h]
    rw [fa_le, z0, e] at h
    refine ⟨(x.toInt.tmod 4).toNat, by omega, ?_⟩
    rw [fa_eq, e, nI_toInt (by omega)]
    omega
  · rw [if_neg h]
    rw [fa_le, z0, e] at h
    refine ⟨(x.toInt.tmod 4 + 4).toNat, by omega, ?_⟩
    rw [fa_eq, Int32.toInt_add, e, z4, nI_toInt (by omega)]
    simp only [Int.bmod_def]
    omega
def okT (ft : Int32) : Prop := ft = -1 ∨ ∃ q, q < 4 ∧ ft = nI q
theorem tnA_lt {F : FV} {n : Nat} {c : Nat → Nat} {ft : Int32} (hf : okT ft) (S : Nat → Int32) : ∃ q, q < 4 ∧ tnA F n c ft S = nI q := by
  unfold tnA
  rcases hf with rfl | ⟨q, q1, rfl⟩
  · rw [if_pos (by decide)]; exact rmA_lt _
  · rw [if_neg (nI_pos (by omega))]; exact ⟨q, q1, rfl⟩
def payA (S : Nat → Int32) (cost : Int32) : Nat → Int32 := upd (upd S 74 (S 74 - cost)) 76 (S 76 + 1)
def ahA (F : FV) (S : Nat → Int32) : Int32 := besideP (nI F.1) (nI F.2.1) (S 72) (S 73)
def frI (F : FV) (S : Nat → Int32) (t : Int32) : Bool := if t < 0 then false else frA F S t.toNatClampNeg
def goA (F : FV) (n : Nat) (c : Nat → Nat) (ft : Int32) (S : Nat → Int32) : Nat → Int32 :=
  if frI F S (ahA F S) then upd (upd (upd S 72 (ahA F S)) 75 (S 75 + S (ahA F S).toNatClampNeg)) (ahA F S).toNatClampNeg 0 else upd (upd S 73 ((S 73 + tnA F n c ft S) &&& 3)) 77 (S 77 + 1)
/-! how a state changes, one side at a time -/
theorem u_n {S : Nat → Int32} {k j : Nat} {x : Int32} (h : j ≠ k) : upd S k x j = S j := pk_un h
theorem CS_f {h : eH} {s k : Nat} {S : Nat → Int32} (v : Int32) (hc : CS h s S) (k1 : 1 ≤ k) (k7 : k ≤ 7) : CS (sI h s k v) s (upd S (71 + k) v) := by
  obtain ⟨r1, r2, r3, r4⟩ := hc
  refine ⟨fun q hq => ?_, fun q hq => ?_, fun q q1 q7 => ?_, fun q hq => r4 q hq⟩
  · rw [gI_sI, if_neg (by omega), u_n (by omega)]; exact r1 q hq
  · rw [u_n (by omega)]; exact r2 q hq
  · by_cases hqk : q = k
    · subst hqk; rw [gI_sI, if_pos ⟨rfl, rfl⟩, pk_us]
    · rw [gI_sI, if_neg (by omega), u_n (by omega)]; exact r3 q q1 q7
theorem CS_d {h : eH} {s k : Nat} {S : Nat → Int32} (v : Int32) (hc : CS h s S) (hk : k < 36) : CS (sI h (s + 1) k v) s (upd S k v) := by
  obtain ⟨r1, r2, r3, r4⟩ := hc
  refine ⟨fun q hq => ?_, fun q hq => ?_, fun q q1 q7 => ?_, fun q hq => r4 q hq⟩
  · by_cases hqk : q = k
    · subst hqk; rw [gI_sI, if_pos ⟨rfl, rfl⟩, pk_us]
    · rw [gI_sI, if_neg (by omega), u_n (by omega)]; exact r1 q hq
  · rw [u_n (by omega)]; exact r2 q hq
  · rw [gI_sI, if_neg (by omega), u_n (by omega)]; exact r3 q q1 q7
theorem MS_u {h : eH} {a k : Nat} {S : Nat → Int32} (v : Int32) (hm : MS h a 0 S) : MS (sI h a k v) a 0 (upd S k v) := fun q hq => by
  by_cases hqk : q = k
  · subst hqk; rw [gI_sI, if_pos ⟨rfl, by omega⟩, pk_us]
  · rw [gI_sI, if_neg (by omega), u_n hqk]; exact hm q hq
theorem MS_0 {h : eH} {a k : Nat} {S : Nat → Int32} (hm : MS h a 0 S) (hk : k < 79) : gI h a k = S k := by have := hm k hk; rwa [Nat.zero_add] at this
theorem and3 {a b : Nat} (ha : a < 4) (hb : b < 4) : (nI a + nI b) &&& 3 = nI ((a + b) % 4) := (hd4 a ha b hb).1
/-- the state stands well again -/
theorem okA_pay {F : FV} {B : Nat} {S : Nat → Int32} {co : Nat} (ho : okA F B S) (hc : ¬ S 74 < nI co) (hco : co ≤ 2) : okA F B (payA S (nI co)) := by
  obtain ⟨⟨sp, a1, a2, a3, a4⟩, ⟨hd, b1, b2⟩, ⟨cu, c1, c2⟩, ⟨bu, d1, d2⟩, e1, g1⟩ := ho
  unfold payA
  refine ⟨⟨sp, a1, a2, ?_, ?_⟩, ⟨hd, b1, ?_⟩, ⟨cu - co, by omega, ?_⟩, ⟨bu, d1, ?_⟩, fun k hk => ?_, fun k hk => ?_⟩
  · rw [u_n (by omega), u_n (by omega)]; exact a3
  · rw [u_n (by omega), u_n (by omega)]; exact a4
  · rw [u_n (by omega), u_n (by omega)]; exact b2
  · rw [u_n (by omega), pk_us, c2]
    rw [c2, nI_ltI (by omega) (by omega)] at hc
    exact pk_sub (by omega)
  · rw [u_n (by omega), u_n (by omega)]; exact d2
  · rw [u_n (by omega), u_n (by omega)]; exact e1 k hk
  · rw [u_n (by omega), u_n (by omega)]; exact g1 k hk
theorem ahA_nb {F : FV} {S : Nat → Int32} {sp hd : Nat} (a : S 72 = nI sp) (b : S 73 = nI hd) : ahA F S = nb F sp hd := by unfold ahA nb; rw [a, b]
theorem okA_go {F : FV} {B n : Nat} {c : Nat → Nat} {ft : Int32} {S : Nat → Int32} (hF : okF F) (hf : okT ft) (ho : okA F B S) : okA F (B + 1) (goA F n c ft S) := by
  obtain ⟨t, t1, t2⟩ := tnA_lt (F := F) (n := n) (c := c) hf S
  obtain ⟨⟨sp, a1, a2, a3, a4⟩, ⟨hd, b1, b2⟩, ⟨cu, c1, c2⟩, ⟨bu, d1, d2⟩, e1, g1⟩ := ho
  have hn := ahA_nb (F := F) a4 b2
  have hsp := kF_lt a2
  have h36 := nF_le hF
  unfold goA
  by_cases hfr : frI F S (ahA F S) = true
  · rw [if_pos hfr]
    rcases nb_or hF hsp b1 with q | ⟨u, u1, u2⟩
    · rw [hn, q] at hfr; exact absurd hfr (by unfold frI; rw [if_pos (by decide)]; decide)
    · rw [hn, u2] at hfr ⊢
      have hfr2 : frA F S u = true := by unfold frI at hfr; rw [if_neg (nI_pos (by omega)), nI_clamp (by omega)] at hfr; exact hfr
      rw [nI_clamp (by omega)]
      have k1 : kF F u ≠ 0 := by unfold frA at hfr2; simp at hfr2; exact hfr2.1
      have k2 : S (36 + u) = 0 := by unfold frA at hfr2; simp at hfr2; exact hfr2.2
      refine ⟨⟨u, by omega, k1, ?_, ?_⟩, ⟨hd, b1, ?_⟩, ⟨cu, c1, ?_⟩, ⟨bu, by omega, ?_⟩, fun k hk => ?_, fun k hk => ?_⟩
      · rw [u_n (by omega), u_n (by omega), u_n (by omega)]; exact k2
      · rw [u_n (by omega), u_n (by omega), pk_us]
      · rw [u_n (by omega), u_n (by omega), u_n (by omega)]; exact b2
      · rw [u_n (by omega), u_n (by omega), u_n (by omega)]; exact c2
      · rw [u_n (by omega), u_n (by omega), u_n (by omega)]; exact d2
      · by_cases hku : k = u
        · subst hku; exact ⟨0, by omega, by rw [pk_us]; rfl, fun _ => rfl⟩
        · rw [u_n hku, u_n (by omega), u_n (by omega)]; exact e1 k hk
      · rw [u_n (by omega), u_n (by omega), u_n (by omega)]; exact g1 k hk
  · rw [if_neg hfr, t2, b2, and3 b1 t1]
    refine ⟨⟨sp, a1, a2, ?_, ?_⟩, ⟨(hd + t) % 4, Nat.mod_lt _ (by decide), ?_⟩, ⟨cu, c1, ?_⟩, ⟨bu + 1, by omega, ?_⟩, fun k hk => ?_, fun k hk => ?_⟩
    · rw [u_n (by omega), u_n (by omega)]; exact a3
    · rw [u_n (by omega), u_n (by omega)]; exact a4
    · rw [u_n (by omega), pk_us]
    · rw [u_n (by omega), u_n (by omega)]; exact c2
    · rw [pk_us, d2, nI_1]
    · rw [u_n (by omega), u_n (by omega)]; exact e1 k hk
    · rw [u_n (by omega), u_n (by omega)]; exact g1 k hk
/-- a step in the reference -/
theorem step_M {h : eH} {n a B co : Nat} {c : Nat → Nat} {F : FV} {S : Nat → Int32} {ft : Int32} (hF : okF F) (hw : okR n c) (ha : a = 76 ∨ a = 77) (ho : okA F B S) (hR : RefsOK h) (hq : MR h n c) (hm : MF h F) (hS : MS h a 0 S) (hft : gI h 73 23 = ft) (hf : okT ft) (hco : co ≤ 2) : ∃ h', f_X11_stepGoes LF h 73 a (nI co) = some (h', if S 74 < nI co then 0 else 1) ∧ MS h' a 0 (if S 74 < nI co then S else goA F n c ft (payA S (nI co))) ∧ only (fun j _ => j = a ∨ j = 82 ∨ j = 83) h h' := by
  obtain ⟨i1, i2, i3, i4, i5, i6, i7⟩ := iM ha
  unfold f_X11_stepGoes
  rw [if_pos i3, c74, MS_0 hS (by omega)]
  by_cases hlt : S 74 < nI co
  · rw [if_pos hlt, if_pos hlt, if_neg (by rw [fa_le]; rw [fa_lt] at hlt; omega)]
    exact ⟨h, rfl, hS, only_rfl⟩
  · have hP := okA_pay ho hlt hco
    rw [if_neg hlt, if_neg hlt, if_pos (by rw [fa_le]; rw [fa_lt] at hlt; omega), Option.bind_some, if_pos i5, Option.bind_some, if_pos i1, if_pos i2, if_pos iO_73, c76]
    have s1 : MS (sI (sI h a 74 (S 74 - nI co)) a 76 (gI (sI h a 74 (S 74 - nI co)) a 76 + 1)) a 0 (payA S (nI co)) := by
      have e : gI (sI h a 74 (S 74 - nI co)) a 76 = S 76 := by rw [gI_sI, if_neg (by omega)]; exact MS_0 hS (by omega)
      rw [e]
      exact MS_u _ (MS_u _ hS)
    have o1 : only (fun j _ => j = a ∨ j = 82 ∨ j = 83) h (sI (sI h a 74 (S 74 - nI co)) a 76 (gI (sI h a 74 (S 74 - nI co)) a 76 + 1)) := only_trans (only_sI (Or.inl rfl)) (only_sI (Or.inl rfl))
    generalize sI (sI h a 74 (S 74 - nI co)) a 76 (gI (sI h a 74 (S 74 - nI co)) a 76 + 1) = h5 at s1 o1 ⊢
    generalize payA S (nI co) = P at hP s1 ⊢
    have hR5 := only_refs o1 hR
    have hm5 : MF h5 F := MF_only o1 (fun k _ => by omega) (fun k => by omega) hm
    have hq5 : MR h5 n c := MR_only o1 (by omega) (fun k => by omega) hq
    have hft5 : gI h5 73 23 = ft := (o1.1 _ _ (by omega)).1.trans hft
    obtain ⟨t, t1, t2⟩ := tnA_lt (F := F) (n := n) (c := c) hf P
    obtain ⟨⟨sp, a1, a2, a3, a4⟩, ⟨hd, b1, b2⟩, -, -, -, -⟩ := id hP
    have hn := ahA_nb (F := F) a4 b2
    have hsp := kF_lt a2
    have h36 := nF_le hF
    rw [c72, c73, MS_0 s1 (by omega), MS_0 s1 (by omega), a4, b2, beside_nb hF hm5, Option.bind_some]
    unfold goA
    rw [hn]
    -- a strike
    have strike : frI F P (nb F sp hd) = false → f_X11_isFree LF h5 73 a (nb F sp hd) = some 0 → ∃ h', ((f_X11_isFree LF h5 73 a (nb F sp hd)).bind fun r12 => if r12 = 0 then (f_X11_turnOf LF h5 73 a).bind fun r14 => (some (sI r14.1 a 73 ((nI hd + r14.2) - (nI hd + r14.2) / 4 * 4))).bind fun h16 => if inA LF a 0 77 = true then (some (sI h16 a (77 : Int32).toNatClampNeg ((gI h16 a (77 : Int32).toNatClampNeg) + 1))).bind fun h19 => some (h19, 1) else none else if inA LF a 0 75 = true then if inA LF a 0 (nb F sp hd) = true then (some (sI (sI h5 a 72 (nb F sp hd)) a (75 : Int32).toNatClampNeg ((gI (sI h5 a 72 (nb F sp hd)) a (75 : Int32).toNatClampNeg) + (gI (sI h5 a 72 (nb F sp hd)) a (nb F sp hd).toNatClampNeg)))).bind fun h23 => some (sI h23 a (nb F sp hd).toNatClampNeg 0, 1) else none else none) = some (h', (1 : Int32)) ∧ MS h' a 0 (if frI F P (nb F sp hd) = true then upd (upd (upd P 72 (nb F sp hd)) 75 (P 75 + P (nb F sp hd).toNatClampNeg)) (nb F sp hd).toNatClampNeg 0 else upd (upd P 73 ((P 73 + tnA F n c ft P) &&& 3)) 77 (P 77 + 1)) ∧ only (fun j _ => j = a ∨ j = 82 ∨ j = 83) h h' := by
      intro x1 x2
      obtain ⟨h6, y1, y2⟩ := turn_M hF hw ha hP hR5 hq5 hm5 s1 hft5
      have s6 : MS h6 a 0 P := MS_only y2 (fun k => by omega) s1
      have e3 : nI hd + nI t - (nI hd + nI t) / 4 * 4 = (nI hd + nI t) &&& 3 := ((hd4 hd b1 t t1).2).trans ((hd4 hd b1 t t1).1).symm
      rw [x1, x2, if_neg (show ¬ (false = true) by decide), Option.bind_some, if_pos rfl, y1, Option.bind_some, Option.bind_some, if_pos i6, c77, Option.bind_some, t2, b2, e3]
      have s7 := MS_u (k := 73) ((nI hd + nI t) &&& 3) s6
      refine ⟨_, rfl, ?_, only_trans o1 (only_trans (only_mono (fun j k hj => Or.inr hj) y2) (only_trans (only_sI (Or.inl rfl)) (only_sI (Or.inl rfl))))⟩
      have e77 : gI (sI h6 a 73 ((nI hd + nI t) &&& 3)) a 77 = P 77 := by rw [gI_sI, if_neg (by omega)]; exact MS_0 s6 (by omega)
      show MS (sI (sI h6 a 73 ((nI hd + nI t) &&& 3)) a 77 (gI (sI h6 a 73 ((nI hd + nI t) &&& 3)) a 77 + 1)) a 0 _
      rw [e77]
      exact MS_u _ s7
    rcases nb_or hF hsp b1 with q | ⟨u, u1, u2⟩
    · refine strike ?_ ?_
      · rw [q]; unfold frI; rw [if_pos (by decide)]
      · rw [q]; exact isFree_m
    · have hfi := isFree_k hF hR5 ha hm5 s1 (show u < 36 by omega)
      have hfr : frI F P (nI u) = frA F P u := by unfold frI; rw [if_neg (nI_pos (by omega)), nI_clamp (by omega)]
      by_cases hfr2 : frA F P u = true
      · rw [u2, hfi, hfr, hfr2, if_pos rfl, if_pos rfl, Option.bind_some, if_neg (by decide), if_pos i4, inA36 ha, if_pos (in_nI (by omega) (by decide)), nI_clamp (by omega), Option.bind_some, c75]
        refine ⟨_, rfl, ?_, only_trans o1 (only_trans (only_sI (Or.inl rfl)) (only_trans (only_sI (Or.inl rfl)) (only_sI (Or.inl rfl))))⟩
        have e75 : gI (sI h5 a 72 (nI u)) a 75 = P 75 := by rw [gI_sI, if_neg (by omega)]; exact MS_0 s1 (by omega)
        have eu : gI (sI h5 a 72 (nI u)) a u = P u := by rw [gI_sI, if_neg (by omega)]; exact MS_0 s1 (by omega)
        rw [e75, eu]
        exact MS_u _ (MS_u _ (MS_u _ s1))
      · refine strike ?_ ?_
        · rw [u2, hfr]; exact ts_nt hfr2
        · rw [u2, hfi, if_neg hfr2]

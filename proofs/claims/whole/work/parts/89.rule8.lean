/-! rule: both sides put together -/
theorem mn40 : ∀ n, n < 81 → mnI (nI n) 40 = nI (min n 40) := by decide +kernel
theorem fault_40 {g : eH} {c : Nat → Nat} {n e : Nat} {b : Bool} (hd : RD g c (min n 40) e) (hn : n ≤ 80) : f_X11_faultOf LF g 73 (nI n) 40 (if b then 1 else 0) = some (if b = true ∧ e = min n 40 ∧ n ≤ 40 then 0 else -1 - nI e) := by
  have e5 := hd.2.2.2.2
  have J0 : f_X11_faultOf_J20 LF g 73 (nI n) 40 0 = some (-1 - nI e) := by
    unfold f_X11_faultOf_J20 f_X11_faultOf_J44
    by_cases q : n ≤ 40
    · rw [if_pos (show nI n ≤ 40 from nI_le (b := 40) q (by decide)), if_pos rfl, if_pos iO_73, hd.2.1]
    · rw [if_neg (show ¬ nI n ≤ 40 from nI_ge (a := 40) (by omega) (by omega)), if_pos rfl, if_pos iO_73, hd.2.1]
      by_cases q2 : e < 40
      · rw [if_pos (show nI e < 40 from nI_lt (b := 40) q2 (by decide)), if_pos rfl, if_pos iO_73]
      · rw [if_neg (show ¬ nI e < 40 from nI_nlt (b := 40) (by omega) (by omega)), show e = 40 by omega]; rfl
  unfold f_X11_faultOf
  cases b with
  | false =>
    rw [if_neg (show ¬ (false = true) by decide), if_pos rfl, J0, if_neg (fun x => by cases x.1)]
  | true =>
    rw [if_pos rfl, if_neg i10, if_pos iO_73, hd.2.1, hd.1]
    by_cases z : e = min n 40
    · rw [if_pos (by rw [z])]
      unfold f_X11_faultOf_J20 f_X11_faultOf_J44
      by_cases q : n ≤ 40
      · rw [if_pos (show nI n ≤ 40 from nI_le (b := 40) q (by decide)), if_neg i10, if_pos ⟨rfl, z, q⟩]
      · rw [if_neg (show ¬ nI n ≤ 40 from nI_ge (a := 40) (by omega) (by omega)), if_neg i10, if_neg (fun x => q x.2.2), show e = 40 by omega]; rfl
    · rw [if_neg (fun x => z (nI_inj (by omega) (by omega) x)), J0, if_neg (fun x => z x.2.1)]
/-- what a text of n signs says -/
def ruG (c : Nat → Nat) (n : Nat) : Bool := n == 0 || ((ExP c (min n 40) 4 0).1 && ((ExP c (min n 40) 4 0).2.1 == min n 40) && decide (n ≤ 40))
def ruL (c : Nat → Nat) (n : Nat) : List Nat := if n = 0 then [] else (ExP c (min n 40) 4 0).2.2
def ruE (c : Nat → Nat) (n : Nat) : Nat := (ExP c (min n 40) 4 0).2.1
theorem ruG_n {c : Nat → Nat} {n : Nat} (hn : n ≠ 0) : ruG c n = true ↔ ((ExP c (min n 40) 4 0).1 = true ∧ (ExP c (min n 40) 4 0).2.1 = min n 40 ∧ n ≤ 40) := by
  unfold ruG
  simp [hn, and_assoc]
def rnX (X : AX) : AX := (xF X, ((ruL (xT X).2 (xT X).1).length, fun k => (ruL (xT X).2 (xT X).1).getD k 0), (0, (xT X).2), X.2.2.2)
theorem ruL_ok {c : Nat → Nat} {n : Nat} (h : ruG c n = true) : okR (ruL c n).length (fun k => (ruL c n).getD k 0) := by
  unfold ruL
  by_cases z : n = 0
  · rw [if_pos z]
    exact ⟨Nat.zero_le _, fun k hk => absurd hk (Nat.not_lt_zero k), fun hk => absurd hk (Nat.lt_irrefl 0)⟩
  · rw [if_neg z]
    obtain ⟨g1, g2, g3⟩ := (ruG_n z).mp h
    have ok := ExP_ok (c := c) (lim := min n 40) 4 0 (Nat.zero_le _)
    have o3 := ok.2.2 g1
    generalize ExP c (min n 40) 4 0 = r at ok o3 ⊢
    have v := vL_ok (c := fun k => r.2.2.getD k 0) r.2.2 0 0 1 (fun k hk => by show r.2.2.getD (0 + k) 0 = _; rw [Nat.zero_add]) rfl (o3.2.2 0)
    refine ⟨by have := o3.2.1; have := ok.2.1; omega, fun k hk => ?_, fun _ => ?_⟩
    · have := v.1 k hk
      rw [Nat.zero_add] at this
      exact this
    · have := v.2
      rw [Nat.zero_add] at this
      rw [this]; exact Nat.le_refl 1
theorem okX_rn {B : Nat} {X : AX} (ho : okX B X) (h : ruG (xT X).2 (xT X).1 = true) : okX B (rnX X) := by
  obtain ⟨o1, o2, o3, o4, o5, o6, o7, o8⟩ := ho
  exact ⟨o1, ruL_ok h, ⟨Nat.zero_le _, fun k hk => absurd hk (Nat.not_lt_zero k)⟩, o4, o5, o6, o7, o8⟩
/-! the class's side -/
theorem CI_sR5 {h : eH} {X : AX} {k : Nat} {v : Option Nat} (hk : k = 0 ∨ k = 1) (hc : CI h X) : CI (sR h 5 k v) X := by
  obtain ⟨c1, ⟨p, c2⟩, ⟨q, c3⟩, c4, c5, c6, c7, c8, c9⟩ := hc
  have nR : ∀ j k', j ≠ 5 → gR (sR h 5 k v) j k' = gR h j k' := fun j k' hj => by rw [gR_sR, if_neg (fun e => hj e.1)]
  exact ⟨refs_sR (by rcases hk with rfl | rfl <;> decide) c1, ⟨p, c2.1, (nR 0 15 (by omega)).trans c2.2.1, (nR 0 16 (by omega)).trans c2.2.2.1, c2.2.2.2⟩, ⟨q, c3.1, (nR 0 17 (by omega)).trans c3.2.1, (nR 0 18 (by omega)).trans c3.2.2.1, c3.2.2.2⟩, c4, c5, c6, c7, c8, c9⟩
def rdD (d : Nat) (j _k : Nat) : Prop := j = 5 ∨ j = d ∨ j = d + 1
theorem ruRead_C {h : eH} {X : AX} {B d : Nat} (hc : CI h X) (ho : okX B X) (hd : d = 67 ∨ d = 70) : ∃ g, f_X5_read LF h 5 1 d = some (g, if ruG (xT X).2 (xT X).1 then -1 else nI (ruE (xT X).2 (xT X).1)) ∧ only (rdD d) (sR (sR h 5 0 (some 1)) 5 1 (some d)) g ∧ (ruG (xT X).2 (xT X).1 = true → gI g d 2 = nI (ruL (xT X).2 (xT X).1).length ∧ ∀ k, k < (ruL (xT X).2 (xT X).1).length → gI g (d + 1) k = ccA ((ruL (xT X).2 (xT X).1).getD k 0)) := by
  have t80 := ho.2.2.1.1
  have hc0 : CI (sR (sR h 5 0 (some 1)) 5 1 (some d)) X := CI_sR5 (Or.inr rfl) (CI_sR5 (Or.inl rfl) hc)
  have r0 : gR (sR (sR h 5 0 (some 1)) 5 1 (some d)) 5 0 = some 1 := by rw [gR_sR, if_neg (by omega), gR_sR, if_pos ⟨rfl, rfl⟩]
  have r1 : gR (sR (sR h 5 0 (some 1)) 5 1 (some d)) 5 1 = some d := by rw [gR_sR, if_pos ⟨rfl, rfl⟩]
  unfold f_X5_read
  generalize sR (sR h 5 0 (some 1)) 5 1 (some d) = h0 at hc0 r0 r1 ⊢
  have hsz0 : f_X8_size LF h0 1 = some (nI (xT X).1) := by unfold f_X8_size; rw [if_pos iO_1, hc0.2.2.2.1.1]
  have o8 : only (rdD d) h0 (sI (sI (sI h0 5 2 (nI (min (xT X).1 40))) 5 3 0) d 2 0) := only_trans (only_sI (Or.inl rfl)) (only_trans (only_sI (Or.inl rfl)) (only_sI (Or.inr (Or.inl rfl))))
  have bg : f_X4_begin LF (sI (sI h0 5 2 (nI (min (xT X).1 40))) 5 3 0) d = some (sI (sI (sI h0 5 2 (nI (min (xT X).1 40))) 5 3 0) d 2 0) := by unfold f_X4_begin; rw [if_pos (q_O hd)]
  rw [if_pos iO_5, if_pos iO_1, hsz0, Option.bind_some, mn40 _ (by omega), Option.bind_some, if_pos (q_O hd), bg, Option.bind_some]
  have cq : CQ (sI (sI (sI h0 5 2 (nI (min (xT X).1 40))) 5 3 0) d 2 0) d (min (xT X).1 40) 0 [] := ⟨by rw [gI_sI, if_neg (by omega), gI_sI, if_pos ⟨rfl, rfl⟩]; rfl, by rw [gI_sI, if_neg (by omega), gI_sI, if_neg (by omega), gI_sI, if_pos ⟨rfl, rfl⟩], r0, r1, by rw [gI_sI, if_pos ⟨rfl, rfl⟩]; rfl, fun k hk => absurd hk (Nat.not_lt_zero k)⟩
  generalize sI (sI (sI h0 5 2 (nI (min (xT X).1 40))) 5 3 0) d 2 0 = g8 at o8 cq ⊢
  have hR8 := only_refs o8 hc0.1
  have hT8 : CT g8 (xT X) := CT_only o8 (fun j k a => by unfold rdD; omega) hc0.2.2.2.1
  have hsz8 : f_X8_size LF g8 1 = some (nI (xT X).1) := by unfold f_X8_size; rw [if_pos iO_1, hT8.1]
  rw [hsz8, Option.bind_some]
  by_cases z : (xT X).1 = 0
  · have eG : ruG (xT X).2 (xT X).1 = true := by unfold ruG; rw [z]; rfl
    have eL : ruL (xT X).2 (xT X).1 = [] := by unfold ruL; rw [if_pos z]
    rw [eL]
    refine ⟨g8, ?_, o8, fun _ => ⟨cq.2.2.2.2.1, fun k hk => absurd hk (Nat.not_lt_zero k)⟩⟩
    rw [if_pos (by rw [z]; rfl), if_pos eG]
  · have hQ : QE (xT X) (min (xT X).1 40) d := ⟨hd, ho.2.2.1, by omega, by omega⟩
    obtain ⟨g, x1, x2, x3, x4⟩ := nest_C hQ 4 70 (by omega) g8 0 [] hR8 hT8 cq (Nat.zero_le _) (Nat.zero_le _)
    have x1 : f_X5_readLevel LF g8 5 0 0 = some (g, if (ExP (xT X).2 (min (xT X).1 40) 4 0).1 then 1 else 0) := x1
    have o9 : only (rdD d) h0 g := only_trans o8 (only_mono (fun j k a => by unfold rqW at a; unfold rdD; omega) x4)
    have hTg : CT g (xT X) := CT_only o9 (fun j k a => by unfold rdD; omega) hc0.2.2.2.1
    have hsz : f_X8_size LF g 1 = some (nI (xT X).1) := by unfold f_X8_size; rw [if_pos iO_1, hTg.1]
    have e52 : gI g 5 2 = nI (min (xT X).1 40) := (o_I x4 (by unfold rqW; omega)).trans cq.2.1
    have eL : ruL (xT X).2 (xT X).1 = (ExP (xT X).2 (min (xT X).1 40) 4 0).2.2 := by unfold ruL; rw [if_neg z]
    have gi := ruG_n (c := (xT X).2) z
    have ok := ExP_ok (c := (xT X).2) (lim := min (xT X).1 40) 4 0 (Nat.zero_le _)
    have J76 : f_X5_read_J76 LF g 5 = some (g, nI (ruE (xT X).2 (xT X).1)) := by unfold f_X5_read_J76; rw [if_pos iO_5, x2]; rfl
    refine ⟨g, ?_, o9, fun h => ?_⟩
    · rw [if_neg (nI_ne0 (by omega) (by omega)), x1, Option.bind_some]
      show (if (if (ExP (xT X).2 (min (xT X).1 40) 4 0).1 = true then (1 : Int32) else 0) = 0 then f_X5_read_J76 LF g 5 else if (gI g 5 3) = (gI g 5 2) then (f_X8_size LF g 1).bind fun r15 => if r15 = (gI g 5 2) then some (g, (-1)) else f_X5_read_J76 LF g 5 else f_X5_read_J76 LF g 5) = _
      rw [J76, x2, e52, hsz]
      by_cases h1 : (ExP (xT X).2 (min (xT X).1 40) 4 0).1 = true
      · rw [if_pos h1, if_neg i10]
        by_cases h2 : (ExP (xT X).2 (min (xT X).1 40) 4 0).2.1 = min (xT X).1 40
        · rw [if_pos (by rw [h2]), Option.bind_some]
          by_cases h3 : (xT X).1 ≤ 40
          · rw [if_pos (by rw [show min (xT X).1 40 = (xT X).1 by omega]), if_pos (gi.mpr ⟨h1, h2, h3⟩)]
          · rw [if_neg (fun x => by have := nI_inj (by omega) (by omega) x; omega), if_neg (fun x => h3 (gi.mp x).2.2)]
        · rw [if_neg (fun x => h2 (nI_inj (by omega) (by omega) x)), if_neg (fun x => h2 (gi.mp x).2.1)]
      · rw [if_neg h1, if_pos rfl, if_neg (fun x => h1 (gi.mp x).1)]
    · have := x3 (gi.mp h).1
      rw [eL]
      exact ⟨this.2.2.2.2.1, this.2.2.2.2.2⟩
theorem CI_rd {h h' : eH} {X : AX} {q : Nat} {T : Nat × (Nat → Nat)} (hq : CR h q (xR X).1 (xR X).2) (ho : only (fun j k => rdD (137 - q) j k ∨ j = 1 ∨ j = 2) h h') (hT : CT h' T) (hc : CI h X) : CI h' (setT X T) := by
  obtain ⟨c1, ⟨p, c2⟩, -, c4, c5, c6, c7, c8, c9⟩ := hc
  have hqq := hq.1
  have a : ∀ j k, j ≠ 5 → j ≠ 1 → j ≠ 2 → (j < 67 ∨ 71 < j) → ¬ (rdD (137 - q) j k ∨ j = 1 ∨ j = 2) := fun j k x1 x2 x3 x4 => by unfold rdD; omega
  have w1 : ∀ k, ¬ (rdD (137 - q) q k ∨ q = 1 ∨ q = 2) := fun k => by unfold rdD; omega
  have w2 : ∀ k, ¬ (rdD (137 - q) (q + 1) k ∨ q + 1 = 1 ∨ q + 1 = 2) := fun k => by unfold rdD; omega
  obtain ⟨-, r1, r2, e1, e2⟩ := hq
  exact ⟨only_refs ho c1, ⟨p, CF_only ho (fun j k b b2 => a j k (by omega) (by omega) (by omega) (by omega)) c2⟩, ⟨q, hqq, (ho.2 _ _).trans r1, (ho.2 _ _).trans r2, (o_I ho (w1 _)).trans e1, fun k hk => (o_I ho (w2 _)).trans (e2 k hk)⟩, hT, CS_only ho (fun k => ⟨a _ _ (by omega) (by omega) (by omega) (by omega), a _ _ (by omega) (by omega) (by omega) (by omega)⟩) c5, CU_only ho (fun j k b => a j k (by omega) (by omega) (by omega) (by omega)) c6, CK_only ho (a _ _ (by omega) (by omega) (by omega) (by omega)) (fun j k b b2 => a j k (by omega) (by omega) (by omega) (by omega)) c7, CH_only ho (fun j k b => a j k (by omega) (by omega) (by omega) (by omega)) c8, CW_only ho (fun j k b => a j k (by omega) (by omega) (by omega) (by omega)) c9⟩
theorem rule_C {h : eH} {X : AX} {B : Nat} (hc : CI h X) (ho : okX B X) : ∃ h1, f_X10_rule LF h 0 = some (h1, if ruG (xT X).2 (xT X).1 then 0 else -1 - nI (ruE (xT X).2 (xT X).1)) ∧ CI h1 (if ruG (xT X).2 (xT X).1 then rnX X else setT X (0, (xT X).2)) ∧ ∀ j k, ¬ cls j k → gI h1 j k = gI h j k ∧ gL h1 j k = gL h j k := by
  have t80 := ho.2.2.1.1
  obtain ⟨q, hq⟩ := hc.2.2.1
  have hd : 137 - q = 67 ∨ 137 - q = 70 := by have := hq.1; omega
  obtain ⟨g, x1, x2, x3⟩ := ruRead_C hc ho hd
  have hc0 : CI (sR (sR h 5 0 (some 1)) 5 1 (some (137 - q))) X := CI_sR5 (Or.inr rfl) (CI_sR5 (Or.inl rfl) hc)
  have nR : ∀ j k', j ≠ 5 → gR (sR (sR h 5 0 (some 1)) 5 1 (some (137 - q))) j k' = gR h j k' := fun j k' hj => by rw [gR_sR, if_neg (fun e => hj e.1), gR_sR, if_neg (fun e => hj e.1)]
  have hq0 : CR (sR (sR h 5 0 (some 1)) 5 1 (some (137 - q))) q (xR X).1 (xR X).2 := ⟨hq.1, (nR 0 17 (by omega)).trans hq.2.1, (nR 0 18 (by omega)).trans hq.2.2.1, hq.2.2.2⟩
  have v0 : ∀ j k, gI (sR (sR h 5 0 (some 1)) 5 1 (some (137 - q))) j k = gI h j k ∧ gL (sR (sR h 5 0 (some 1)) 5 1 (some (137 - q))) j k = gL h j k := fun j k => ⟨rfl, rfl⟩
  generalize sR (sR h 5 0 (some 1)) 5 1 (some (137 - q)) = h0 at x2 hc0 hq0 v0
  have hRg := only_refs x2 hc0.1
  have eT : gI g 1 1 = nI (xT X).1 := (o_I x2 (by unfold rdD; omega)).trans hc0.2.2.2.1.1
  have ct : f_X8_cut LF g 1 0 = some (sI g 1 1 0, 1) := by
    unfold f_X8_cut
    rw [if_neg (by decide), if_pos iO_1, eT, if_pos (show 0 ≤ nI (xT X).1 from nI_le (a := 0) (by omega) (by omega))]
  have o12 : only (fun j k => rdD (137 - q) j k ∨ j = 1 ∨ j = 2) h0 (sI g 1 1 0) := only_trans (only_mono (fun j k a => Or.inl a) x2) (only_sI (Or.inr (Or.inl rfl)))
  have hc12 : CI (sI g 1 1 0) (setT X (0, (xT X).2)) := CI_rd hq0 o12 ⟨by rw [gI_sI, if_pos ⟨rfl, rfl⟩]; rfl, fun k hk => absurd hk (Nat.not_lt_zero k)⟩ hc0
  have cls12 : ∀ j k, ¬ cls j k → gI (sI g 1 1 0) j k = gI h j k ∧ gL (sI g 1 1 0) j k = gL h j k := fun j k a => by
    have := o12.1 j k (by unfold rdD; unfold cls at a; omega)
    exact ⟨this.1.trans (v0 j k).1, this.2.trans (v0 j k).2⟩
  have r17 : gR (sI g 1 1 0) 0 17 = some q := (o12.2 0 17).trans hq0.2.1
  have r18 : gR (sI g 1 1 0) 0 18 = some (137 - q) := (o12.2 0 18).trans hq0.2.2.1
  have l12 : ruG (xT X).2 (xT X).1 = true → gI (sI g 1 1 0) (137 - q) 2 = nI (ruL (xT X).2 (xT X).1).length ∧ ∀ k, k < (ruL (xT X).2 (xT X).1).length → gI (sI g 1 1 0) (137 - q + 1) k = ccA ((ruL (xT X).2 (xT X).1).getD k 0) := fun e => by
    have := x3 e
    exact ⟨by rw [gI_sI, if_neg (by omega)]; exact this.1, fun k hk => by rw [gI_sI, if_neg (by omega)]; exact this.2 k hk⟩
  have start : ∀ z, (if (if ruG (xT X).2 (xT X).1 = true then (-1 : Int32) else nI (ruE (xT X).2 (xT X).1)) = (-1) then (gR (sI g 1 1 0) 0 17).bind fun b16 => (gR (sI g 1 1 0) 0 18).bind fun b18 => (some (sR (sR (sI g 1 1 0) 0 17 (some b18)) 0 18 (some b16))).bind fun h20 => some (h20, (0 : Int32)) else some (sI g 1 1 0, (-1) - (if ruG (xT X).2 (xT X).1 = true then (-1 : Int32) else nI (ruE (xT X).2 (xT X).1)))) = z → f_X10_rule LF h 0 = z := fun z hz => by
    unfold f_X10_rule
    rw [if_pos iO_0, r_0_2 hc.1, Option.bind_some, r_0_0 hc.1, Option.bind_some, hq.2.2.1, Option.bind_some, if_pos iO_5, x1, Option.bind_some, r_0_0 hRg, Option.bind_some, if_pos iO_1, ct, Option.bind_some]
    exact hz
  generalize sI g 1 1 0 = g12 at o12 hc12 cls12 r17 r18 l12 start
  by_cases e : ruG (xT X).2 (xT X).1 = true
  · rw [if_pos e, if_pos e]
    refine ⟨sR (sR g12 0 17 (some (137 - q))) 0 18 (some q), start _ ?_, ?_, cls12⟩
    · rw [if_pos e, if_pos rfl, r17, Option.bind_some, r18, Option.bind_some, Option.bind_some]
    · obtain ⟨c1, ⟨p, c2⟩, -, c4, c5, c6, c7, c8, c9⟩ := hc12
      have nR2 : ∀ j k', ¬ (j = 0 ∧ k' = 17) → ¬ (j = 0 ∧ k' = 18) → gR (sR (sR g12 0 17 (some (137 - q))) 0 18 (some q)) j k' = gR g12 j k' := fun j k' h1 h2 => by rw [gR_sR, if_neg h2, gR_sR, if_neg h1]
      have l := l12 e
      refine ⟨refs_sR (by decide) (refs_sR (by decide) c1), ⟨p, c2.1, (nR2 0 15 (by omega) (by omega)).trans c2.2.1, (nR2 0 16 (by omega) (by omega)).trans c2.2.2.1, c2.2.2.2⟩, ⟨137 - q, hd, ?_, ?_, l.1, l.2⟩, c4, c5, c6, c7, c8, c9⟩
      · rw [gR_sR, if_neg (by omega), gR_sR, if_pos ⟨rfl, rfl⟩]
      · rw [gR_sR, if_pos ⟨rfl, rfl⟩, show 137 - (137 - q) = q by have := hq.1; omega]
  · rw [if_neg e, if_neg e]
    have ok := ExP_ok (c := (xT X).2) (lim := min (xT X).1 40) 4 0 (Nat.zero_le _)
    have ne : ¬ nI (ruE (xT X).2 (xT X).1) = -1 := by
      have : ∀ e, e < 81 → ¬ nI e = -1 := by decide +kernel
      exact this _ (by unfold ruE; omega)
    refine ⟨g12, start _ ?_, hc12, cls12⟩
    rw [if_neg e, if_neg ne]
/-! the reference's side -/
theorem L61_M {g : eH} {l : List Nat} (hR : RefsOK g) (hl : l.length ≤ 40) (h20 : gI g 73 20 = nI l.length) (hk : ∀ k, k < l.length → gI g 81 k = nI (l.getD k 0)) : ∃ g', f_X11_rule_L61 LF e_fu (fun (h16 : eH) => some (h16, 0)) g 73 0 = some (g', 0) ∧ (∀ k, k < l.length → gI g' 80 k = nI (l.getD k 0)) ∧ only (fun j _ => j = 80) g g' := by
  refine lpF (N := l.length) (s := g) (run := fun fu (g' : eH) i => f_X11_rule_L61 LF fu (fun (h16 : eH) => some (h16, (0 : Int32))) g' 73 (nI i)) (Inv := fun i g' => (∀ k, k < i → gI g' 80 k = nI (l.getD k 0)) ∧ only (fun j _ => j = 80) g g') (Post := fun o => ∃ g', o = some (g', 0) ∧ (∀ k, k < l.length → gI g' 80 k = nI (l.getD k 0)) ∧ only (fun j _ => j = 80) g g') (by omega) ⟨fun k hk => absurd hk (Nat.not_lt_zero k), only_rfl⟩ ?_ ?_
  · rintro fu g' ⟨a1, a2⟩
    refine ⟨g', ?_, a1, a2⟩
    have e : gI g' 73 20 = nI l.length := (o_I a2 (by omega)).trans h20
    show f_X11_rule_L61 LF (fu + 1) _ g' 73 (nI l.length) = _
    unfold f_X11_rule_L61
    rw [if_pos iO_73, e, if_pos (nI_le (Nat.le_refl _) (by omega))]
  · rintro i fu g' hi ⟨a1, a2⟩
    have hRg := only_refs a2 hR
    have e : gI g' 73 20 = nI l.length := (o_I a2 (by omega)).trans h20
    have e81 : gI g' 81 i = nI (l.getD i 0) := (o_I a2 (by omega)).trans (hk i hi)
    refine Or.inr ⟨sI g' 80 i (nI (l.getD i 0)), ⟨fun k hk => ?_, only_trans a2 (only_sI rfl)⟩, fun z hz => ?_⟩
    · rw [gI_sI]
      by_cases x : k = i
      · rw [if_pos ⟨rfl, x⟩, x]
      · rw [if_neg (fun y => x y.2)]; exact a1 k (by omega)
    · show f_X11_rule_L61 LF (fu + 1) _ g' 73 (nI i) = z
      unfold f_X11_rule_L61
      rw [if_pos iO_73, e, if_neg (nI_ge hi (by omega)), r_73_17 hRg, Option.bind_some, r_73_18 hRg, Option.bind_some, iA_81, if_pos (in_nI (by omega) (by decide)), iA_80, if_pos (in_nI (by omega) (by decide)), nI_clamp (by omega), e81, Option.bind_some, nI_p1]
      exact hz
theorem rule_M {h1 : eH} {X : AX} {B : Nat} (hR : RefsOK h1) (hm : MI h1 X) (ho : okX B X) : ∃ h2, f_X11_rule LF h1 73 = some (h2, if ruG (xT X).2 (xT X).1 then 0 else -1 - nI (ruE (xT X).2 (xT X).1)) ∧ MI h2 (if ruG (xT X).2 (xT X).1 then rnX X else setT X (0, (xT X).2)) ∧ only mdl h1 h2 := by
  have t80 := ho.2.2.1.1
  obtain ⟨g, b1, b2, b3, b4, b5⟩ := begins_M (L := 40) hm ho (by decide) (mn40 _ (by omega))
  have b1 : f_X11_begins LF (sI h1 73 0 0) 73 40 = some (g, nI (xT X).1) := b1
  have hRg := only_refs b5 hR
  have o1 : only (fun j k => j = 73 ∧ k = 20) g (sI g 73 20 0) := only_sI ⟨rfl, rfl⟩
  have q1 : MQr (sI g 73 20 0) (xT X).2 (min (xT X).1 40) 0 [] := ⟨RD_only o1 (by omega) (by omega) (fun k => by omega) b2, by rw [gI_sI, if_pos ⟨rfl, rfl⟩]; rfl, fun k hk => absurd hk (Nat.not_lt_zero k)⟩
  have oM : ∀ g', only mqW g g' → RefsOK g' ∧ MI g' (setT X (0, (xT X).2)) ∧ only mdl h1 g' := fun g' o => by
    have o2 : only msc g g' := only_mono (fun j k a => by unfold mqW at a; unfold msc; omega) o
    exact ⟨only_refs o2 hRg, MI_scr o2 b4, only_trans (only_mono (fun j k a => by unfold bgW at a; unfold mdl; omega) b5) (only_mono (fun _ _ => msc_mdl) o2)⟩
  have fin : ∀ g', only mqW g g' → gI g' 73 20 = nI (ruL (xT X).2 (xT X).1).length → (∀ k, k < (ruL (xT X).2 (xT X).1).length → gI g' 81 k = nI ((ruL (xT X).2 (xT X).1).getD k 0)) → ruG (xT X).2 (xT X).1 = true → ∃ h2, f_X11_rule_L61 LF e_fu (fun (h16 : eH) => some (h16, 0)) (sI g' 73 19 (gI g' 73 20)) 73 0 = some (h2, 0) ∧ MI h2 (rnX X) ∧ only mdl h1 h2 := fun g' o e1 e2 eG => by
    obtain ⟨u1, u2, u3⟩ := oM g' o
    have l40 := (ruL_ok eG).1
    rw [e1]
    obtain ⟨h2, y1, y2, y3⟩ := L61_M (g := sI g' 73 19 (nI (ruL (xT X).2 (xT X).1).length)) (l := ruL (xT X).2 (xT X).1) (refs_sI u1) l40 (by rw [gI_sI, if_neg (by omega)]; exact e1) (fun k hk => by rw [gI_sI, if_neg (by omega)]; exact e2 k hk)
    have oZ : only (fun j k => (j = 73 ∧ k = 19) ∨ j = 80) g' h2 := only_trans (only_sI (Or.inl ⟨rfl, rfl⟩)) (only_mono (fun j k a => Or.inr a) y3)
    have z19 : gI h2 73 19 = nI (ruL (xT X).2 (xT X).1).length := by rw [o_I y3 (by omega), gI_sI, if_pos ⟨rfl, rfl⟩]
    obtain ⟨c1, c2, c3, c4, c5, c6, c7, c8, c9⟩ := u2
    exact ⟨h2, y1, ⟨MF_only oZ (fun k a => by omega) (fun k => by omega) c1, ⟨z19, y2⟩, (o_I oZ (by omega)).trans c3, MT_only oZ (by omega) (fun k => by omega) c4, MS_only oZ (fun k => by omega) c5, MU_only oZ (by omega) (fun k => by omega) c6, MK_only oZ (fun k => by omega) (fun k => by omega) c7, MH_only oZ (by omega) (fun k => by omega) c8, MW_only oZ (by omega) (fun k => by omega) c9⟩, only_trans u3 (only_mono (fun j k a => by unfold mdl; omega) oZ)⟩
  have o1' : only mqW g (sI g 73 20 0) := only_mono (fun j k a => by unfold mqW; omega) o1
  have J34 : ∀ (g' : eH) (b : Bool) (e : Nat), RD g' (xT X).2 (min (xT X).1 40) e → f_X11_rule_J34 LF g' 73 (nI (xT X).1) (if b = true then 1 else 0) = if b = true ∧ e = min (xT X).1 40 ∧ (xT X).1 ≤ 40 then f_X11_rule_L61 LF e_fu (fun (h16 : eH) => some (h16, 0)) (sI g' 73 19 (gI g' 73 20)) 73 0 else some (g', -1 - nI e) := fun g' b e hd => by
    have e80 : e ≤ 80 := by have := hd.2.2.2.2; omega
    unfold f_X11_rule_J34
    rw [if_pos iO_73, fault_40 hd t80, Option.bind_some]
    by_cases q : b = true ∧ e = min (xT X).1 40 ∧ (xT X).1 ≤ 40
    · rw [if_pos q, if_pos q, if_pos (by decide)]
    · rw [if_neg q, if_neg q, if_neg (ge_m1 e80)]
  unfold f_X11_rule
  rw [if_pos iO_73, b1, Option.bind_some]
  show ∃ h2, (if nI (xT X).1 = 0 then f_X11_rule_J34 LF (sI g 73 20 0) 73 (nI (xT X).1) 1 else (f_X11_readsRank LF (sI g 73 20 0) 73 0).bind fun r17 => if r17.2 = 0 then f_X11_rule_J34 LF r17.1 73 (nI (xT X).1) 0 else f_X11_rule_J34 LF r17.1 73 (nI (xT X).1) 1) = _ ∧ _
  by_cases z : (xT X).1 = 0
  · have eG : ruG (xT X).2 (xT X).1 = true := by unfold ruG; rw [z]; rfl
    have eL : ruL (xT X).2 (xT X).1 = [] := by unfold ruL; rw [if_pos z]
    obtain ⟨h2, f1, f2, f3⟩ := fin (sI g 73 20 0) o1' (by rw [eL]; exact q1.2.1) (fun k hk => by rw [eL] at hk; exact absurd hk (Nat.not_lt_zero k)) eG
    have := J34 (sI g 73 20 0) true 0 q1.1
    rw [if_pos (show true = true from rfl), if_pos ⟨rfl, by omega, by omega⟩] at this
    refine ⟨h2, ?_, by rw [if_pos eG]; exact f2, f3⟩
    rw [if_pos (by rw [z]; rfl), this, if_pos eG]
    exact f1
  · obtain ⟨g2, x, y1, y2, y3, y4, y5, y6⟩ := nest_M (c := (xT X).2) (lim := min (xT X).1 40) (by omega) 4 (by omega) 75 (sI g 73 20 0) 0 [] (refs_sI hRg) q1 (by rw [gI_sI, if_neg (by omega)]; exact b3) (by omega) (Nat.zero_le _)
    have y1 : f_X11_readsRank LF (sI g 73 20 0) 73 0 = some (g2, if (ExP (xT X).2 (min (xT X).1 40) 4 0).1 then 1 else 0) := y1
    have oo : only mqW g g2 := only_trans o1' y6
    have gi := ruG_n (c := (xT X).2) z
    have eL : ruL (xT X).2 (xT X).1 = (ExP (xT X).2 (min (xT X).1 40) 4 0).2.2 := by unfold ruL; rw [if_neg z]
    have J := J34 g2 (ExP (xT X).2 (min (xT X).1 40) 4 0).1 (ExP (xT X).2 (min (xT X).1 40) 4 0).2.1 y2
    have start : (if nI (xT X).1 = 0 then f_X11_rule_J34 LF (sI g 73 20 0) 73 (nI (xT X).1) 1 else (f_X11_readsRank LF (sI g 73 20 0) 73 0).bind fun r17 => if r17.2 = 0 then f_X11_rule_J34 LF r17.1 73 (nI (xT X).1) 0 else f_X11_rule_J34 LF r17.1 73 (nI (xT X).1) 1) = f_X11_rule_J34 LF g2 73 (nI (xT X).1) (if (ExP (xT X).2 (min (xT X).1 40) 4 0).1 = true then 1 else 0) := by
      rw [if_neg (nI_ne0 (by omega) (by omega)), y1, Option.bind_some]
      show (if (if (ExP (xT X).2 (min (xT X).1 40) 4 0).1 = true then (1 : Int32) else 0) = 0 then f_X11_rule_J34 LF g2 73 (nI (xT X).1) 0 else f_X11_rule_J34 LF g2 73 (nI (xT X).1) 1) = _
      by_cases h1 : (ExP (xT X).2 (min (xT X).1 40) 4 0).1 = true
      · rw [if_pos h1, if_neg i10]
      · rw [if_neg h1, if_pos rfl]
    rw [start, J]
    by_cases e : ruG (xT X).2 (xT X).1 = true
    · obtain ⟨w1, w2⟩ := y5 (gi.mp e).1
      obtain ⟨h2, f1, f2, f3⟩ := fin g2 oo (by rw [eL]; exact w1.2.1) (fun k hk => by rw [eL] at hk ⊢; exact w1.2.2 k hk) e
      refine ⟨h2, ?_, by rw [if_pos e]; exact f2, f3⟩
      rw [if_pos (gi.mp e), if_pos e]
      exact f1
    · obtain ⟨u1, u2, u3⟩ := oM g2 oo
      refine ⟨g2, ?_, by rw [if_neg e]; exact u2, u3⟩
      rw [if_neg (fun h => e (gi.mpr h)), if_neg e]; rfl
theorem rule_P {B : Nat} {h : eH} {X : AX} (hc : CI h X) (hm : MI h X) (ho : okX B X) : PR B (f_X10_rule LF h 0) (fun h1 => f_X11_rule LF h1 73) := by
  obtain ⟨h1, x1, x2, x3⟩ := rule_C hc ho
  refine PR_mk2 hm (X' := if ruG (xT X).2 (xT X).1 then rnX X else setT X (0, (xT X).2)) (r := if ruG (xT X).2 (xT X).1 then 0 else -1 - nI (ruE (xT X).2 (xT X).1)) ⟨h1, x1, x2, x3⟩ (fun h1 hR h9 => rule_M hR h9 ho) ?_
  by_cases e : ruG (xT X).2 (xT X).1 = true
  · rw [if_pos e]; exact okX_mono (by omega) (okX_rn ho e)
  · rw [if_neg e]; exact okX_mono (by omega) (okX_txt ho)

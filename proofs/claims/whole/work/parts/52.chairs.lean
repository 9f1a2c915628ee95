/-! doors, chairs on both sides. -/
def drC (F : FV) (S : Nat → Int32) (sp p n : Nat) : Bool := frA F S n && !decide (n = p) && !decide (n = sp) && !rc F (frW F S (nI n)) sp 36 p
def drA (F : FV) (S : Nat → Int32) (sp p : Nat) : Nat → Int64
  | 0 => 0
  | n + 1 => if drC F S sp p n then drA F S sp p n ||| f_X10_bit (nI n) else drA F S sp p n
theorem drA_36 {F : FV} (hF : okF F) {S : Nat → Int32} {sp p : Nat} : drA F S sp p 36 = drA F S sp p (nF F) := by
  have h36 := nF_le hF
  have : ∀ m, drA F S sp p (nF F + m) = drA F S sp p (nF F) := fun m => by
    induction m with
    | zero => rfl
    | succ m ih =>
      show (if drC F S sp p (nF F + m) then _ else drA F S sp p (nF F + m)) = _
      rw [if_neg, ih]
      intro h
      unfold drC at h
      simp only [Bool.and_eq_true] at h
      have := frA_k h.1.1.1
      omega
  have h := this (36 - nF F)
  rw [show nF F + (36 - nF F) = 36 by omega] at h
  exact h
theorem canMeet_M {h : eH} {F : FV} {S : Nat → Int32} {w : Int32} {sp p : Nat} (hF : okF F) (hR : RefsOK h) (hm : MF h F) (hS : MS h 76 0 S) (hs : S 72 = nI sp) (hsp : sp < nF F) (hp : plI F = nI p) (hp2 : p < 36) : f_X11_canMeet LF h 73 w = some (if rc F (frW F S w) sp 36 p then 1 else 0) := by
  obtain ⟨y, y1, y2⟩ := reached_M (w := w) hF hR (Or.inl rfl) hm hS hsp
  have i72 : inA LF 76 0 72 = true := (iM (Or.inl rfl)).1
  unfold f_X11_canMeet
  rw [if_pos iO_73, r_73_7 hR, Option.bind_some, Option.bind_some, if_pos i72, c72, MS_0 hS (by omega), hs, y1, Option.bind_some, hm.2.2.1, hp]
  by_cases ht : tb y p = true
  · rw [if_pos ((sar_bit y (s := p) (by omega)).mpr ht), if_pos (by rw [← y2]; exact ht)]
  · rw [if_neg (fun e => ht ((sar_bit y (s := p) (by omega)).mp e)), if_neg (by rw [← y2]; exact ht)]
theorem doors_CL {P : Option (eH × Int32) → Prop} {k144 : eH → Nat → Int64 → Option (eH × Int32)} {h : eH} {X : AX} {B sp p pp : Nat} {x o : Int64} (hc : CI h X) (ho : okX B X) (hp : CF h pp (xF X)) (hs : xS X 72 = nI sp) (hsp : sp < nF (xF X)) (hpl : plI (xF X) = nI p) (hp36 : p < 36) (hx : ∀ k, tb x k = frA (xF X) (xS X) k) (hoo : ∀ k, k < 36 → tb o k = (frA (xF X) (xS X) k && !decide (k = sp) && !decide (k = p))) (y : P (k144 h 0 (drA (xF X) (xS X) sp p 36))) : P (f_X10_doors_L74 LF e_fu k144 h 0 x o 0 0) := by
  refine lpF (N := 36) (s := (0 : Int64)) (run := fun fu (q : Int64) i => f_X10_doors_L74 LF fu k144 h 0 x o q (nI i)) (Inv := fun i q => q = drA (xF X) (xS X) sp p i) (Post := P) (by decide) rfl ?_ ?_
  · rintro fu q rfl
    show P (f_X10_doors_L74 LF (fu + 1) k144 h 0 x o _ (nI 36))
    unfold f_X10_doors_L74
    rw [if_pos (by decide)]
    exact y
  · rintro i fu q hi rfl
    refine Or.inr ⟨drA (xF X) (xS X) sp p (i + 1), rfl, fun z hz => ?_⟩
    have hz : f_X10_doors_L74 LF fu k144 h 0 x o (if drC (xF X) (xS X) sp p i then drA (xF X) (xS X) sp p i ||| f_X10_bit (nI i) else drA (xF X) (xS X) sp p i) (nI (i + 1)) = z := hz
    show f_X10_doors_L74 LF (fu + 1) k144 h 0 x o (drA (xF X) (xS X) sp p i) (nI i) = z
    unfold f_X10_doors_L74
    rw [if_neg (show ¬ (36 : Int32) ≤ nI i from nI_ge (b := 36) hi (by decide))]
    have ho1 : f_X10_holds o (nI i) = if tb o i then 1 else 0 := holds_k o hi
    by_cases hoi : tb o i = true
    · have hcnd := hoo i hi
      rw [hoi] at hcnd
      have hcnd := hcnd.symm
      simp only [Bool.and_eq_true] at hcnd
      obtain ⟨⟨q1, q2⟩, q3⟩ := hcnd
      have hxi : ∀ k, tb (x &&& (f_X10_bit (nI i) ^^^ (-1))) k = frW (xF X) (xS X) (nI i) k := fun k => by
        rw [tb_and, hx]
        unfold frW
        cases hf : frA (xF X) (xS X) k with
        | false => simp
        | true =>
          have hk := frA_lt ho.1 hf
          rw [tb_not _ (by omega), bit_tb hi]
          by_cases hki : k = i
          · subst hki; simp
          · rw [decide_eq_false hki, decide_eq_false (fun e => hki (nI_inj (by omega) (by omega) e))]; rfl
      obtain ⟨w, w1, w2⟩ := reach_C ho.1 hp (fun s => frW_lt) hsp hxi
      rw [ho1, if_pos hoi, if_neg i10, if_pos iO_0, hp.2.1, Option.bind_some, r_0_7 hc.1, Option.bind_some, if_pos iO_46, if_pos (p_O hp), e46 hc, hs, w1, Option.bind_some, Option.bind_some, if_pos (p_O hp), hp.2.2.2.2.2.1, hpl, nI_p1]
      have hw : f_X10_holds w (nI p) = if rc (xF X) (frW (xF X) (xS X) (nI i)) sp 36 p then 1 else 0 := by rw [holds_k w hp36, w2]
      by_cases hr : rc (xF X) (frW (xF X) (xS X) (nI i)) sp 36 p = true
      · rw [show f_X10_holds w (nI p) = 1 by rw [hw, if_pos hr], if_neg i10]
        rw [if_neg (by unfold drC; simp [hr])] at hz
        exact hz
      · rw [show f_X10_holds w (nI p) = 0 by rw [hw, if_neg hr], if_pos rfl]
        rw [if_pos (by unfold drC; simp only [Bool.and_eq_true]; exact ⟨⟨⟨q1, q3⟩, q2⟩, by rw [ts_nt hr]; rfl⟩)] at hz
        exact hz
    · have e0 : f_X10_holds o (nI i) = 0 := by rw [ho1, if_neg hoi]
      rw [e0, if_pos rfl, nI_p1]
      rw [if_neg (fun e => hoi (by
        rw [hoo i hi]
        unfold drC at e
        simp only [Bool.and_eq_true] at e ⊢
        exact ⟨⟨e.1.1.1, e.1.2⟩, e.1.1.2⟩))] at hz
      exact hz
theorem doors_ML {P : Option (eH × Int32) → Prop} {k90 : eH → Nat → Int64 → Option (eH × Int32)} {h : eH} {F : FV} {S : Nat → Int32} {sp p : Nat} (hF : okF F) (hR : RefsOK h) (hm : MF h F) (hS : MS h 76 0 S) (hs : S 72 = nI sp) (hsp : sp < nF F) (hpl : plI F = nI p) (hp36 : p < 36) (y : P (k90 h 73 (drA F S sp p 36))) : P (f_X11_doors_L27 LF e_fu k90 h 73 0 0) := by
  have h36 := nF_le hF
  have i72 : inA LF 76 0 72 = true := (iM (Or.inl rfl)).1
  refine lpF (N := nF F) (s := (0 : Int64)) (run := fun fu (q : Int64) i => f_X11_doors_L27 LF fu k90 h 73 q (nI i)) (Inv := fun i q => q = drA F S sp p i) (Post := P) (by omega) rfl ?_ ?_
  · rintro fu q rfl
    show P (f_X11_doors_L27 LF (fu + 1) k90 h 73 _ (nI (nF F)))
    unfold f_X11_doors_L27
    rw [if_pos iO_73, spots_M hm, Option.bind_some, if_pos (nI_le (Nat.le_refl _) (by omega)), ← drA_36 hF]
    exact y
  · rintro i fu q hi rfl
    refine Or.inr ⟨drA F S sp p (i + 1), rfl, fun z hz => ?_⟩
    have hz : f_X11_doors_L27 LF fu k90 h 73 (if drC F S sp p i then drA F S sp p i ||| f_X10_bit (nI i) else drA F S sp p i) (nI (i + 1)) = z := hz
    show f_X11_doors_L27 LF (fu + 1) k90 h 73 (drA F S sp p i) (nI i) = z
    unfold f_X11_doors_L27
    rw [if_pos iO_73, spots_M hm, Option.bind_some, if_neg (nI_ge hi (by omega)), or0, sh1 (by omega), hm.2.2.1, hpl, nI_p1]
    by_cases c1 : i = p
    · rw [if_pos (by rw [c1])]
      rw [if_neg (by unfold drC; simp [c1])] at hz
      exact hz
    · rw [if_neg (fun e => c1 (nI_inj (by omega) (by omega) e)), r_73_7 hR, Option.bind_some, if_pos i72, c72, MS_0 hS (by omega), hs]
      by_cases c2 : i = sp
      · rw [if_pos (by rw [c2])]
        rw [if_neg (by unfold drC; simp [c2])] at hz
        exact hz
      · rw [if_neg (fun e => c2 (nI_inj (by omega) (by omega) e)), Option.bind_some, isFree_k hF hR (Or.inl rfl) hm hS (show i < 36 by omega), Option.bind_some]
        by_cases c3 : frA F S i = true
        · rw [if_pos c3, if_neg i10, canMeet_M hF hR hm hS hs hsp hpl hp36, Option.bind_some]
          by_cases c4 : rc F (frW F S (nI i)) sp 36 p = true
          · rw [if_pos c4, if_neg i10]
            rw [if_neg (by unfold drC; simp [c4])] at hz
            exact hz
          · rw [if_neg c4, if_pos rfl]
            rw [if_pos (by unfold drC; simp [c1, c2, c3, ts_nt c4])] at hz
            exact hz
        · rw [if_neg c3, if_pos rfl]
          rw [if_neg (by unfold drC; simp [ts_nt c3])] at hz
          exact hz
theorem doors_P {B : Nat} {h : eH} {X : AX} (hc : CI h X) (hm : MI h X) (ho : okX B X) : PR B (f_X10_doors LF h 0) (fun h1 => f_X11_doors LF h1 73) := by
  obtain ⟨pp, hp⟩ := hc.2.1
  obtain ⟨sp, a0, a1, a2, a3⟩ := spotX ho
  obtain ⟨y, y1, y2⟩ := reachX hc ho hp a2 a1
  have e3 : gI h pp 3 = plI (xF X) := hp.2.2.2.2.2.1
  cases hpl : (xF X).2.2.2 with
  | none =>
    have epl : plI (xF X) = -1 := by unfold plI; rw [hpl]
    refine PR_no hc hm ho (r := -2) ?_ (fun h1 hR h9 => ?_)
    · unfold f_X10_doors
      rw [if_pos iO_0, free_C hc hp, Option.bind_some, hp.2.1, Option.bind_some, r_0_7 hc.1, Option.bind_some, if_pos iO_46, if_pos (p_O hp), e46 hc, a2, y1, Option.bind_some, Option.bind_some, if_pos (p_O hp), e3, epl, holds_m, if_pos rfl]
    · show f_X11_doors LF h1 73 = _
      have e5 : gI (sI h1 73 0 0) 73 5 = -1 := (MI_scr thr_M h9).1.2.2.1.trans epl
      unfold f_X11_doors
      rw [if_pos iO_73, e5, if_pos (by decide)]
  | some p =>
    have epl : plI (xF X) = nI p := by unfold plI; rw [hpl]
    have hp36 := (ho.1.2.2.2.2.2 p hpl).1
    have hh : f_X10_holds y (nI p) = if rc (xF X) (frA (xF X) (xS X)) sp 36 p then 1 else 0 := by rw [holds_k y hp36, y2]
    refine PR_o hc hm ho (c := rc (xF X) (frA (xF X) (xS X)) sp 36 p = true) (r := f_J13_bitCount_95d88 (drA (xF X) (xS X) sp p 36)) (l := [drA (xF X) (xS X) sp p 36]) (by show 1 ≤ 37; omega) ?_ (fun h1 hR h9 => ?_)
    · by_cases hr : rc (xF X) (frA (xF X) (xS X)) sp 36 p = true
      · refine Or.inl ⟨hr, ?_⟩
        unfold f_X10_doors
        rw [if_pos iO_0, free_C hc hp, Option.bind_some, hp.2.1, Option.bind_some, r_0_7 hc.1, Option.bind_some, if_pos iO_46, if_pos (p_O hp), e46 hc, a2, y1, Option.bind_some, Option.bind_some, if_pos (p_O hp), e3, epl, show f_X10_holds y (nI p) = 1 by rw [hh, if_pos hr], if_neg i10, Option.bind_some, if_pos iO_46, Option.bind_some, if_pos (p_O hp), e46 hc, a2, e3, epl]
        refine doors_CL (P := fun r => ∃ h1, r = some (h1, _) ∧ CW h1 _ ∧ only cscW h h1) hc ho hp a2 a1 epl hp36 (fun k => free_tb ho.1 hp hc.2.2.2.2.1 k) (fun k hk => ?_) ?_
        · rw [tb_and, tb_and, free_tb ho.1 hp hc.2.2.2.2.1, tb_not _ (by omega), tb_not _ (by omega), bit_tb a0, bit_tb hp36]
        · obtain ⟨b1, b2⟩ := rowbeg_C h
          have hRb : RefsOK (sI h 3 1 0) := refs_sI hc.1
          obtain ⟨h3, r1, r2, r3⟩ := rowadd_C hRb b2 (by decide) (drA (xF X) (xS X) sp p 36)
          have obb : only (fun j _ => j = 3 ∨ j = 4) h (sI h 3 1 0) := only_sI (Or.inl rfl)
          refine ⟨h3, ?_, r2, row_w (only_trans obb r3)⟩
          rw [if_pos iO_0, r_0_1 hc.1, Option.bind_some, if_pos iO_3, b1, Option.bind_some, r_0_1 hRb, Option.bind_some, if_pos iO_3, r1, Option.bind_some]
      · refine Or.inr ⟨hr, h, ?_, only_rfl⟩
        unfold f_X10_doors
        rw [if_pos iO_0, free_C hc hp, Option.bind_some, hp.2.1, Option.bind_some, r_0_7 hc.1, Option.bind_some, if_pos iO_46, if_pos (p_O hp), e46 hc, a2, y1, Option.bind_some, Option.bind_some, if_pos (p_O hp), e3, epl, show f_X10_holds y (nI p) = 0 by rw [hh, if_neg hr], if_pos rfl]
    · have h9' := MI_scr thr_M h9
      have hR0 : RefsOK (sI h1 73 0 0) := refs_sI hR
      have e5 : gI (sI h1 73 0 0) 73 5 = nI p := h9'.1.2.2.1.trans epl
      have hcm := canMeet_M (w := -1) ho.1 hR0 h9'.1 h9'.2.2.2.2.1 a2 a1 epl hp36
      rw [frW_f ho.1] at hcm
      by_cases hr : rc (xF X) (frA (xF X) (xS X)) sp 36 p = true
      · refine Or.inl ⟨hr, ?_⟩
        show ∃ h2, f_X11_doors LF h1 73 = _ ∧ _
        unfold f_X11_doors
        rw [if_pos iO_73, e5, if_neg (nI_pos (by omega)), hcm, Option.bind_some, if_pos hr, if_neg i10]
        refine doors_ML (P := fun r => ∃ h2, r = some (h2, _) ∧ MW h2 _ ∧ only mscW h1 h2) ho.1 hR0 h9'.1 h9'.2.2.2.2.1 a2 a1 epl hp36 ?_
        have hRb : RefsOK (sI (sI h1 73 0 0) 73 1 0) := refs_sI hR0
        obtain ⟨h3, r1, r2, r3⟩ := rowadd_M hRb (rowbeg_M (sI h1 73 0 0)) (by decide) (drA (xF X) (xS X) sp p 36)
        have obb : only (fun j k => (j = 73 ∧ k = 1) ∨ j = 74) (sI h1 73 0 0) (sI (sI h1 73 0 0) 73 1 0) := only_sI (Or.inl ⟨rfl, rfl⟩)
        refine ⟨h3, ?_, r2, only_trans (msc_w thr_M) (rowm_w (only_trans obb r3))⟩
        rw [if_pos iO_73, r1, Option.bind_some]
      · refine Or.inr ⟨hr, sI h1 73 0 0, ?_, thr_M⟩
        show f_X11_doors LF h1 73 = _
        unfold f_X11_doors
        rw [if_pos iO_73, e5, if_neg (nI_pos (by omega)), hcm, Option.bind_some, if_neg hr, if_pos rfl]
/-! chairs -/
theorem rc_mono {F : FV} {fr fr' : Nat → Bool} {a : Nat} (h : ∀ s, fr s = true → fr' s = true) : ∀ n s, rc F fr a n s = true → rc F fr' a n s = true
  | 0, _, hs => hs
  | n + 1, s, hs => by
    rw [rc_succ] at hs ⊢
    simp only [Bool.or_eq_true, Bool.and_eq_true] at hs ⊢
    rcases hs with q | ⟨q1, q2⟩
    · exact Or.inl (rc_mono h n s q)
    · exact Or.inr ⟨h s q1, nbA_mono (rc_mono h n) q2⟩
def chD (F : FV) (S : Nat → Int32) (sp n : Nat) : Int32 := nI (fb_ct (rc F (frA F (upd S (36 + n) 0)) sp 36) 36) - nI (fb_ct (rc F (frA F S) sp 36) 36)
def chT (F : FV) (S : Nat → Int32) (sp : Nat) (b : Int32) : Nat → Int32 × Int32
  | 0 => (b, -1)
  | n + 1 => if S (36 + n) = 1 then (if chD F S sp n ≤ (chT F S sp b n).2 then chT F S sp b n else (nI n, chD F S sp n)) else chT F S sp b n
theorem frA_up {F : FV} {B : Nat} {S : Nat → Int32} {n : Nat} (ho : okA F B S) (hn : n < 36) (h1 : S (36 + n) = 1) (k : Nat) : frA F (upd S (36 + n) 0) k = (frA F S k || decide (k = n)) := by
  unfold frA
  by_cases hk : k = n
  · subst hk
    rw [pk_us]
    rcases ho.2.2.2.2.2 k hn with g | g
    · rw [g] at h1; exact absurd h1 i01
    · simp [g.2]
  · rw [u_n (by omega)]; simp [hk]
theorem chD_pos {F : FV} {B : Nat} {S : Nat → Int32} {sp n : Nat} (ho : okA F B S) (hn : n < 36) (h1 : S (36 + n) = 1) : ∃ d, d ≤ 36 ∧ chD F S sp n = nI d := by
  have hs : fb_ct (rc F (frA F S) sp 36) 36 ≤ fb_ct (rc F (frA F (upd S (36 + n) 0)) sp 36) 36 := fb_ct_sub (fun k _ hk => rc_mono (fun s hs => by rw [frA_up ho hn h1, hs]; rfl) 36 k hk)
  have := fb_ct_le (rc F (frA F (upd S (36 + n) 0)) sp 36) 36
  exact ⟨_, by omega, pk_sub hs⟩
theorem chT_same {F : FV} {B : Nat} {S : Nat → Int32} {sp : Nat} (ho : okA F B S) (b b' : Int32) : ∀ n, n ≤ 36 → ((∀ k, k < n → S (36 + k) ≠ 1) ∧ chT F S sp b n = (b, -1) ∧ chT F S sp b' n = (b', -1)) ∨ (chT F S sp b n = chT F S sp b' n ∧ ∃ k, k < n ∧ (chT F S sp b n).1 = nI k)
  | 0, _ => Or.inl ⟨fun k hk => absurd hk (Nat.not_lt_zero k), rfl, rfl⟩
  | n + 1, hn => by
    have ih := chT_same ho b b' (sp := sp) n (by omega)
    unfold chT
    by_cases h1 : S (36 + n) = 1
    · right
      rw [if_pos h1, if_pos h1]
      rcases ih with ⟨g1, g2, g3⟩ | ⟨g1, k, g2, g3⟩
      · obtain ⟨d, d1, d2⟩ := chD_pos (sp := sp) ho (by omega) h1
        have hd : ¬ chD F S sp n ≤ -1 := by
          rw [d2, fa_le, nI_toInt (by omega)]
          have : (-1 : Int32).toInt = -1 := by decide
          omega
        rw [g2, g3, if_neg hd, if_neg hd]
        exact ⟨rfl, n, by omega, rfl⟩
      · rw [← g1]
        refine ⟨rfl, ?_⟩
        split
        · exact ⟨k, by omega, g3⟩
        · exact ⟨n, by omega, rfl⟩
    · rw [if_neg h1, if_neg h1]
      rcases ih with ⟨g1, g2, g3⟩ | ⟨g1, k, g2, g3⟩
      · refine Or.inl ⟨fun k hk => ?_, g2, g3⟩
        rcases Nat.lt_or_ge k n with x | x
        · exact g1 k x
        · have : k = n := by omega
          subst this; exact h1
      · exact Or.inr ⟨g1, k, by omega, g3⟩
theorem chT_none {F : FV} {S : Nat → Int32} {sp : Nat} {b : Int32} (h : ∀ k, k < 36 → S (36 + k) ≠ 1) : ∀ n, n ≤ 36 → chT F S sp b n = (b, -1)
  | 0, _ => rfl
  | n + 1, hn => by
    unfold chT
    rw [if_neg (h n (by omega))]
    exact chT_none h n (by omega)
theorem chT_36 {F : FV} {B : Nat} {S : Nat → Int32} {sp : Nat} {b : Int32} (hF : okF F) (ho : okA F B S) : chT F S sp b 36 = chT F S sp b (nF F) := by
  have h36 := nF_le hF
  have : ∀ m, nF F + m ≤ 36 → chT F S sp b (nF F + m) = chT F S sp b (nF F) := fun m => by
    induction m with
    | zero => intro _; rfl
    | succ m ih =>
      intro hm
      show (if S (36 + (nF F + m)) = 1 then _ else chT F S sp b (nF F + m)) = _
      rw [if_neg, ih (by omega)]
      intro h
      rcases ho.2.2.2.2.2 (nF F + m) (by omega) with g | g
      · rw [g] at h; exact i01 h
      · have := kF_lt g.2; omega
  have h := this (36 - nF F) (by omega)
  rw [show nF F + (36 - nF F) = 36 by omega] at h
  exact h
theorem bitR {F : FV} {fr : Nat → Bool} {a : Nat} {y : Int64} (hF : okF F) (hfr : ∀ s, fr s = true → s < nF F) (ha : a < nF F) (hy : ∀ k, tb y k = rc F fr a 36 k) : f_J13_bitCount_95d88 y = nI (fb_ct (rc F fr a 36) 36) := by
  have h36 := nF_le hF
  rw [bitC36 (fun k hk => by
    rw [hy]
    cases hr : rc F fr a 36 k with
    | false => rfl
    | true => have := rc_lt hfr ha hr; omega)]
  congr 1
  exact fb_ct_cong (fun k _ => hy k)
theorem chairs_CL {P : Option (eH × Int32) → Prop} {k122 : eH → Nat → Int32 → Int32 → Option (eH × Int32)} {h : eH} {X : AX} {B sp pp : Nat} {x : Int64} (hc : CI h X) (ho : okX B X) (hp : CF h pp (xF X)) (hs : xS X 72 = nI sp) (hsp : sp < nF (xF X)) (hx : ∀ k, tb x k = frA (xF X) (xS X) k) (y : P (k122 h 0 (chT (xF X) (xS X) sp (-1) 36).1 (chT (xF X) (xS X) sp (-1) 36).2)) : P (f_X10_chairs_L48 LF e_fu k122 h 0 x (nI (fb_ct (rc (xF X) (frA (xF X) (xS X)) sp 36) 36)) (-1) (-1) 0) := by
  have hS := hc.2.2.2.2.1
  refine lpF (N := 36) (s := ((-1 : Int32), (-1 : Int32))) (run := fun fu (q : Int32 × Int32) i => f_X10_chairs_L48 LF fu k122 h 0 x (nI (fb_ct (rc (xF X) (frA (xF X) (xS X)) sp 36) 36)) q.1 q.2 (nI i)) (Inv := fun i q => q = chT (xF X) (xS X) sp (-1) i) (Post := P) (by decide) rfl ?_ ?_
  · rintro fu q rfl
    show P (f_X10_chairs_L48 LF (fu + 1) k122 h 0 x _ (chT (xF X) (xS X) sp (-1) 36).1 (chT (xF X) (xS X) sp (-1) 36).2 (nI 36))
    unfold f_X10_chairs_L48
    rw [if_pos (by decide)]
    exact y
  · rintro i fu q hi rfl
    refine Or.inr ⟨chT (xF X) (xS X) sp (-1) (i + 1), rfl, fun z hz => ?_⟩
    show f_X10_chairs_L48 LF (fu + 1) k122 h 0 x _ (chT (xF X) (xS X) sp (-1) i).1 (chT (xF X) (xS X) sp (-1) i).2 (nI i) = z
    have hch : f_X10_holds (gL h 46 8) (nI i) = xS X (36 + i) := by rw [holds_k _ hi, hS.2.1 i hi]
    have hz : f_X10_chairs_L48 LF fu k122 h 0 x (nI (fb_ct (rc (xF X) (frA (xF X) (xS X)) sp 36) 36)) (chT (xF X) (xS X) sp (-1) (i + 1)).1 (chT (xF X) (xS X) sp (-1) (i + 1)).2 (nI (i + 1)) = z := hz
    unfold f_X10_chairs_L48
    rw [if_neg (show ¬ (36 : Int32) ≤ nI i from nI_ge (b := 36) hi (by decide)), if_pos iO_0, r_0_7 hc.1, Option.bind_some, if_pos iO_46, hch]
    unfold chT at hz
    rcases ho.2.2.2.1.2.2.2.2.2 i hi with g | g
    · rw [if_neg (fun e => i01 (g.symm.trans e))] at hz
      rw [g, if_pos rfl, nI_p1]; exact hz
    · have hxi : ∀ k, tb (x ||| f_X10_bit (nI i)) k = frA (xF X) (upd (xS X) (36 + i) 0) k := fun k => by rw [tb_or, hx, bit_tb hi, frA_up ho.2.2.2.1 hi g.1]
      obtain ⟨w, w1, w2⟩ := reach_C (fr := frA (xF X) (upd (xS X) (36 + i) 0)) ho.1 hp (fun s => frA_k) hsp hxi
      have hb := bitR (fr := frA (xF X) (upd (xS X) (36 + i) 0)) ho.1 (fun s => frA_k) hsp w2
      have ed : nI (fb_ct (rc (xF X) (frA (xF X) (upd (xS X) (36 + i) 0)) sp 36) 36) - nI (fb_ct (rc (xF X) (frA (xF X) (xS X)) sp 36) 36) = chD (xF X) (xS X) sp i := rfl
      rw [if_pos g.1] at hz
      rw [g.1, if_neg i10, hp.2.1, Option.bind_some, Option.bind_some, if_pos iO_46, if_pos (p_O hp), e46 hc, hs, w1, Option.bind_some, hb, ed, nI_p1]
      by_cases hd : chD (xF X) (xS X) sp i ≤ (chT (xF X) (xS X) sp (-1) i).2
      · rw [if_pos hd] at hz
        rw [if_pos hd]; exact hz
      · rw [if_neg hd] at hz
        rw [if_neg hd]; exact hz
theorem upd_back {S : Nat → Int32} {i : Nat} (h : S i = 1) : upd (upd S i 0) i 1 = S := by
  funext k
  by_cases hk : k = i
  · subst hk; rw [pk_us]; exact h.symm
  · rw [u_n hk, u_n hk]
theorem chairs_ML {P : Option (eH × Int32) → Prop} {k131 : eH → Nat → Int32 → Int32 → Option (eH × Int32)} {h g0 : eH} {X : AX} {B sp : Nat} (hR : RefsOK h) (hm : MI h X) (ho : okX B X) (og : only msc h g0) (hS0 : MS g0 77 0 (xS X)) (hs : xS X 72 = nI sp) (hsp : sp < nF (xF X)) (y : ∀ g, only msc h g → P (k131 g 73 (chT (xF X) (xS X) sp (-2) 36).1 (chT (xF X) (xS X) sp (-2) 36).2)) : P (f_X11_chairs_L37 LF e_fu k131 g0 73 (nI (fb_ct (rc (xF X) (frA (xF X) (xS X)) sp 36) 36)) (-2) (-1) 0) := by
  have h36 := nF_le ho.1
  have i72 : inA LF 76 0 72 = true := (iM (Or.inl rfl)).1
  refine lpF (N := nF (xF X)) (s := (g0, (-2 : Int32), (-1 : Int32))) (run := fun fu (q : eH × Int32 × Int32) i => f_X11_chairs_L37 LF fu k131 q.1 73 (nI (fb_ct (rc (xF X) (frA (xF X) (xS X)) sp 36) 36)) q.2.1 q.2.2 (nI i)) (Inv := fun i q => only msc h q.1 ∧ MS q.1 77 0 (xS X) ∧ q.2 = chT (xF X) (xS X) sp (-2) i) (Post := P) (by omega) ⟨og, hS0, rfl⟩ ?_ ?_
  · rintro fu ⟨g, b, m⟩ ⟨g1, g2, g3⟩
    have g3 : (b, m) = chT (xF X) (xS X) sp (-2) (nF (xF X)) := g3
    have hmg := mW_MF (fun _ _ => msc_mW) g1 hm.1
    show P (f_X11_chairs_L37 LF (fu + 1) k131 g 73 _ b m (nI (nF (xF X))))
    unfold f_X11_chairs_L37
    rw [if_pos iO_73, spots_M hmg, Option.bind_some, if_pos (nI_le (Nat.le_refl _) (by omega))]
    have := y g g1
    rw [chT_36 ho.1 ho.2.2.2.1, ← g3] at this
    exact this
  · rintro i fu ⟨g, b, m⟩ hi ⟨g1, g2, g3⟩
    have g1 : only msc h g := g1
    have g2 : MS g 77 0 (xS X) := g2
    have g3 : (b, m) = chT (xF X) (xS X) sp (-2) i := g3
    have hRg := only_refs g1 hR
    have hmg := mW_MF (fun _ _ => msc_mW) g1 hm.1
    have hS := mW_S (fun _ _ => msc_mW) g1 hm.2.2.2.2.1
    have ei : (36 : Int32) + nI i = nI (36 + i) := nI_add 36 i
    have nx : chT (xF X) (xS X) sp (-2) (i + 1) = if xS X (36 + i) = 1 then (if chD (xF X) (xS X) sp i ≤ m then (b, m) else (nI i, chD (xF X) (xS X) sp i)) else (b, m) := by rw [g3]; show (if _ then (if _ ≤ (chT (xF X) (xS X) sp (-2) i).2 then _ else _) else _) = _; rw [← g3]
    rcases ho.2.2.2.1.2.2.2.2.2 i (by omega) with gz | gq
    · rw [if_neg (fun e => i01 (gz.symm.trans e))] at nx
      refine Or.inr ⟨(g, b, m), ⟨g1, g2, nx.symm⟩, fun z hz => ?_⟩
      show f_X11_chairs_L37 LF (fu + 1) k131 g 73 _ b m (nI i) = z
      unfold f_X11_chairs_L37
      rw [if_pos iO_73, spots_M hmg, Option.bind_some, if_neg (nI_ge hi (by omega)), r_73_7 hRg, Option.bind_some, ei, iA_76, if_pos (in_nI (by omega) (by decide)), nI_clamp (by omega), MS_0 hS (by omega), if_neg (fun e => i01 (gz.symm.trans e)), nI_p1]
      exact hz
    · rw [if_pos gq.1] at nx
      have o1 : only msc g (sI g 77 (36 + i) 0) := only_sI (by unfold msc; omega)
      have hR1 := only_refs o1 hRg
      have s1 : MS (sI g 77 (36 + i) 0) 77 0 (upd (xS X) (36 + i) 0) := MS_u _ g2
      obtain ⟨w, w1, w2⟩ := reached_M (w := -1) ho.1 hR1 (Or.inr rfl) (mW_MF (fun _ _ => msc_mW) o1 hmg) s1 hsp
      rw [frW_f ho.1] at w2
      have hb := bitR (fr := frA (xF X) (upd (xS X) (36 + i) 0)) ho.1 (fun s => frA_k) hsp w2
      have o2 : only msc h (sI (sI g 77 (36 + i) 0) 77 (36 + i) 1) := only_trans g1 (only_trans o1 (only_sI (by unfold msc; omega)))
      have s2 : MS (sI (sI g 77 (36 + i) 0) 77 (36 + i) 1) 77 0 (xS X) := by
        have := MS_u (k := 36 + i) 1 s1
        rw [upd_back gq.1] at this; exact this
      have e72 : gI (sI g 77 (36 + i) 0) 76 72 = nI sp := by rw [gI_sI, if_neg (by omega), MS_0 hS (by omega)]; exact hs
      have ed : nI (fb_ct (rc (xF X) (frA (xF X) (upd (xS X) (36 + i) 0)) sp 36) 36) - nI (fb_ct (rc (xF X) (frA (xF X) (xS X)) sp 36) 36) = chD (xF X) (xS X) sp i := rfl
      generalize chD (xF X) (xS X) sp i = D at nx ed
      have go : ∀ (b' m' : Int32) (fu : Nat) (z : Option (eH × Int32)), (if D ≤ m then (b, m) else (nI i, D)) = (b', m') → f_X11_chairs_L37 LF fu k131 (sI (sI g 77 (36 + i) 0) 77 (36 + i) 1) 73 (nI (fb_ct (rc (xF X) (frA (xF X) (xS X)) sp 36) 36)) b' m' (nI (i + 1)) = z → f_X11_chairs_L37 LF (fu + 1) k131 g 73 (nI (fb_ct (rc (xF X) (frA (xF X) (xS X)) sp 36) 36)) b m (nI i) = z := fun b' m' fu z hbm hz => by
        unfold f_X11_chairs_L37
        rw [if_pos iO_73, spots_M hmg, Option.bind_some, if_neg (nI_ge hi (by omega)), r_73_7 hRg, Option.bind_some, ei, iA_76, if_pos (in_nI (by omega) (by decide)), nI_clamp (by omega), MS_0 hS (by omega), if_pos gq.1, r_73_8 hRg, Option.bind_some, iA_77, if_pos (in_nI (by omega) (by decide)), r_73_8 hR1, Option.bind_some, r_73_7 hR1, Option.bind_some, if_pos i72, c72, e72, w1, Option.bind_some, Option.bind_some, iA_77, if_pos (in_nI (by omega) (by decide)), Option.bind_some, hb, ed, nI_p1]
        by_cases hd : D ≤ m
        · rw [if_pos hd] at hbm
          have hm2 : mxI m D = m := by unfold mxI; rw [if_neg (by rw [fa_lt]; rw [fa_le] at hd; omega)]
          cases hbm
          rw [if_pos hd, hm2]; exact hz
        · rw [if_neg hd] at hbm
          have hm2 : mxI m D = D := by unfold mxI; rw [if_pos (by rw [fa_lt]; rw [fa_le] at hd; omega)]
          cases hbm
          rw [if_neg hd, hm2]; exact hz
      obtain ⟨b', m', hbm⟩ : ∃ b' m', (if D ≤ m then (b, m) else (nI i, D)) = (b', m') := ⟨_, _, rfl⟩
      exact Or.inr ⟨(sI (sI g 77 (36 + i) 0) 77 (36 + i) 1, b', m'), ⟨o2, s2, hbm.symm.trans nx.symm⟩, fun z hz => go b' m' fu z hbm hz⟩
theorem chairs_P {B : Nat} {h : eH} {X : AX} (hc : CI h X) (hm : MI h X) (ho : okX B X) : PR B (f_X10_chairs LF h 0) (fun h1 => f_X11_chairs LF h1 73) := by
  obtain ⟨pp, hp⟩ := hc.2.1
  obtain ⟨sp, a0, a1, a2, a3⟩ := spotX ho
  obtain ⟨y, y1, y2⟩ := reachX hc ho hp a2 a1
  have hS := hc.2.2.2.2.1
  have hb := bitR (fr := frA (xF X) (xS X)) ho.1 (fun s => frA_k) a1 y2
  have hT := chT_same (sp := sp) ho.2.2.2.1 (-1) (-2) 36 (Nat.le_refl _)
  have hzero : gL h 46 8 = 0 ↔ ∀ k, k < 36 → xS X (36 + k) ≠ 1 := by
    constructor
    · intro e k hk
      rw [hS.2.1 k hk, e, tb_0]; exact i01
    · intro e
      apply tb_ext
      intro k _
      rw [tb_0]
      cases ht : tb (gL h 46 8) k with
      | false => rfl
      | true =>
        have hk := hS.2.2.2 k ht
        exact absurd ((hS.2.1 k hk).trans (by rw [ht]; rfl)) (e k hk)
  refine PR_o hc hm ho (c := ¬ ∀ k, k < 36 → xS X (36 + k) ≠ 1) (r := (chT (xF X) (xS X) sp (-2) 36).1) (l := [(chT (xF X) (xS X) sp (-2) 36).2.toInt64]) (by show 1 ≤ 37; omega) ?_ (fun h1 hR h9 => ?_)
  · by_cases hn : ∀ k, k < 36 → xS X (36 + k) ≠ 1
    · refine Or.inr ⟨fun q => q hn, h, ?_, only_rfl⟩
      unfold f_X10_chairs
      rw [if_pos iO_0, r_0_7 hc.1, Option.bind_some, if_pos iO_46, if_pos ((lg_0 _ 0).mpr (hzero.mpr hn))]
    · refine Or.inl ⟨hn, ?_⟩
      have hTT : chT (xF X) (xS X) sp (-1) 36 = chT (xF X) (xS X) sp (-2) 36 := hT.elim (fun q => absurd q.1 hn) (fun q => q.1)
      unfold f_X10_chairs
      rw [if_pos iO_0, r_0_7 hc.1, Option.bind_some, if_pos iO_46, if_neg (fun e => hn (hzero.mp ((lg_0 _ 0).mp e))), free_C hc hp, Option.bind_some, hp.2.1, Option.bind_some, Option.bind_some, if_pos iO_46, if_pos (p_O hp), e46 hc, a2, y1, Option.bind_some, hb]
      refine chairs_CL (P := fun r => ∃ h1, r = some (h1, _) ∧ CW h1 _ ∧ only cscW h h1) hc ho hp a2 a1 (fun k => free_tb ho.1 hp hc.2.2.2.2.1 k) ?_
      rw [hTT]
      generalize chT (xF X) (xS X) sp (-2) 36 = T
      obtain ⟨b1, b2⟩ := rowbeg_C h
      have hRb : RefsOK (sI h 3 1 0) := refs_sI hc.1
      obtain ⟨h3, r1, r2, r3⟩ := rowadd_C hRb b2 (by decide) T.2.toInt64
      have obb : only (fun j _ => j = 3 ∨ j = 4) h (sI h 3 1 0) := only_sI (Or.inl rfl)
      refine ⟨h3, ?_, r2, row_w (only_trans obb r3)⟩
      rw [if_pos iO_0, r_0_1 hc.1, Option.bind_some, if_pos iO_3, b1, Option.bind_some, r_0_1 hRb, Option.bind_some, if_pos iO_3, r1, Option.bind_some]
  · have h9' := MI_scr thr_M h9
    have hR0 : RefsOK (sI h1 73 0 0) := refs_sI hR
    obtain ⟨y', z1, z2⟩ := reached_M (w := -1) ho.1 hR0 (Or.inl rfl) h9'.1 h9'.2.2.2.2.1 a1
    rw [frW_f ho.1] at z2
    have hb' := bitR (fr := frA (xF X) (xS X)) ho.1 (fun s => frA_k) a1 z2
    have i72 : inA LF 76 0 72 = true := (iM (Or.inl rfl)).1
    obtain ⟨hP, x1, x2, x3⟩ := puts_M hR0 h9'.2.2.2.2.1
    have o2 : only msc h1 hP := only_trans thr_M (only_mono (fun j k a => by unfold msc; omega) x3)
    have e : ∀ Q : Option (eH × Int32) → Prop, Q (f_X11_chairs_L37 LF e_fu (fun (h32 : eH) (w0_33 : Nat) (w2_34 : Int32) (w3_35 : Int32) => if w2_34 < 0 then some (h32, w2_34) else if isO LF w0_33 11 = true then (f_X11_enters LF (sI h32 w0_33 1 0) w0_33 w3_35.toInt64).bind fun r37 => some (r37, w2_34) else none) hP 73 (nI (fb_ct (rc (xF X) (frA (xF X) (xS X)) sp 36) 36)) (-2) (-1) 0) → Q (f_X11_chairs LF h1 73) := fun Q hQ => by
      unfold f_X11_chairs
      rw [if_pos iO_73, r_73_7 hR0, Option.bind_some, Option.bind_some, if_pos i72, c72, MS_0 h9'.2.2.2.2.1 (by omega), a2, z1, Option.bind_some, x1, Option.bind_some, hb']
      exact hQ
    show (_ ∧ ∃ h2, f_X11_chairs LF h1 73 = some (h2, _) ∧ MW h2 _ ∧ only mscW h1 h2) ∨ (_ ∧ ∃ h2, f_X11_chairs LF h1 73 = some (h2, -2) ∧ only msc h1 h2)
    by_cases hn : ∀ k, k < 36 → xS X (36 + k) ≠ 1
    · refine Or.inr ⟨fun q => q hn, e (fun r => ∃ h2, r = some (h2, -2) ∧ only msc h1 h2) (chairs_ML (P := fun r => ∃ h2, r = some (h2, -2) ∧ only msc h1 h2) hR h9 ho o2 x2 a2 a1 (fun g og => ⟨g, ?_, og⟩))⟩
      have hT2 : chT (xF X) (xS X) sp (-2) 36 = (-2, -1) := by
        rcases hT with q | ⟨-, k, k1, k2⟩
        · exact q.2.2
        · exfalso
          have := chT_none (F := xF X) (sp := sp) (b := -1) hn 36 (Nat.le_refl _)
          rw [this] at k2
          exact nI_pos (n := k) (by omega) (by rw [← k2]; show (-1 : Int32) < 0; decide)
      rw [hT2, if_pos (by show (-2 : Int32) < 0; decide)]
    · have hk : ∃ k, k < 36 ∧ (chT (xF X) (xS X) sp (-2) 36).1 = nI k := hT.elim (fun q => absurd q.1 hn) (fun q => by rw [← q.1]; exact q.2)
      refine Or.inl ⟨hn, e (fun r => ∃ h2, r = some (h2, _) ∧ MW h2 _ ∧ only mscW h1 h2) (chairs_ML (P := fun r => ∃ h2, r = some (h2, _) ∧ MW h2 _ ∧ only mscW h1 h2) hR h9 ho o2 x2 a2 a1 (fun g og => ?_))⟩
      obtain ⟨k, k1, k2⟩ := hk
      generalize chT (xF X) (xS X) sp (-2) 36 = T at k2 ⊢
      have hRg := only_refs og hR
      have hRb : RefsOK (sI g 73 1 0) := refs_sI hRg
      obtain ⟨h3, r1, r2, r3⟩ := rowadd_M hRb (rowbeg_M g) (by decide) T.2.toInt64
      have obb : only (fun j k => (j = 73 ∧ k = 1) ∨ j = 74) g (sI g 73 1 0) := only_sI (Or.inl ⟨rfl, rfl⟩)
      refine ⟨h3, ?_, r2, only_trans (msc_w og) (rowm_w (only_trans obb r3))⟩
      rw [if_neg (by rw [k2]; exact nI_pos (by omega)), if_pos iO_73, r1, Option.bind_some]

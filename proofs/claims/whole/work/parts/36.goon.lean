/-! A step in the class. -/
theorem dustAt_k {h : eH} {s k : Nat} (hR : RefsOK h) (hs : s ∈ stL) (hk : k < 36) : f_X6_dustAt LF h s (nI k) = some (gI h (s + 1) k) := by
  unfold f_X6_dustAt
  rw [if_neg (nI_pos (by omega)), if_neg (show ¬ (36 : Int32) ≤ nI k from nI_ge (b := 36) hk (by decide)), if_pos (st_O s hs), st_ref hR hs, Option.bind_some, inA_of (st_sh s hs).2 (st_sh s hs).1, if_pos (in_nI hk (by decide)), nI_clamp (by omega)]
theorem putDust_k {h : eH} {s k : Nat} (hR : RefsOK h) (hs : s ∈ stL) (hk : k < 36) (v : Int32) : f_X6_putDust LF h s (nI k) v = some (sI h (s + 1) k (mxI 0 (mnI v 99))) := by
  unfold f_X6_putDust
  rw [if_neg (nI_pos (by omega)), if_neg (show ¬ (36 : Int32) ≤ nI k from nI_ge (b := 36) hk (by decide)), if_pos (st_O s hs), st_ref hR hs, Option.bind_some, inA_of (st_sh s hs).2 (st_sh s hs).1, if_pos (in_nI hk (by decide)), nI_clamp (by omega)]
theorem enter_k {h : eH} {s k : Nat} {S : Nat → Int32} (hR : RefsOK h) (hs : s ∈ stL) (hk : k < 36) (hS : CS h s S) : ∃ h', f_X6_enter LF h s (nI k) = some h' ∧ CS h' s (upd (upd (upd S 72 (nI k)) 75 (S 75 + S k)) k 0) ∧ only (fun j _ => j = s ∨ j = s + 1) h h' := by
  unfold f_X6_enter
  have e1 : gI (sI h s 1 (nI k)) (s + 1) k = S k := by rw [gI_sI, if_neg (by omega)]; exact hS.1 k hk
  have e4 : gI (sI h s 1 (nI k)) s 4 = S 75 := by rw [gI_sI, if_neg (by omega)]; exact hS.2.2.1 4 (by omega) (by omega)
  rw [if_pos (st_O s hs), dustAt_k (refs_sI hR) hs hk, Option.bind_some, Option.bind_some, e1, e4, putDust_k (refs_sI (refs_sI hR)) hs hk, Option.bind_some, show mxI 0 (mnI 0 99) = 0 by decide +kernel]
  refine ⟨_, rfl, CS_d _ (CS_f (k := 4) _ (CS_f (k := 1) _ hS (by omega) (by omega)) (by omega) (by omega)) hk, only_trans (only_sI (Or.inl rfl)) (only_trans (only_sI (Or.inl rfl)) (only_sI (Or.inr rfl)))⟩
theorem strike_k {h : eH} {s : Nat} {S : Nat → Int32} (hs : s ∈ stL) (hS : CS h s S) (v : Int32) : ∃ h', f_X6_strike LF h s v = some h' ∧ CS h' s (upd (upd S 73 ((S 73 + v) &&& 3)) 77 (S 77 + 1)) ∧ only (fun j _ => j = s ∨ j = s + 1) h h' := by
  unfold f_X6_strike f_X6_turnBy
  have e2 : gI h s 2 = S 73 := hS.2.2.1 2 (by omega) (by omega)
  have e6 : ∀ w, gI (sI h s 2 w) s 6 = S 77 := fun w => by rw [gI_sI, if_neg (by omega)]; exact hS.2.2.1 6 (by omega) (by omega)
  rw [if_pos (st_O s hs), if_pos (st_O s hs), Option.bind_some, e2, e6]
  exact ⟨_, rfl, CS_f (k := 6) _ (CS_f (k := 2) _ hS (by omega) (by omega)) (by omega) (by omega), only_trans (only_sI (Or.inl rfl)) (only_sI (Or.inl rfl))⟩
def coA (F : FV) (S : Nat → Int32) : Nat := if kF F (S 72).toNatClampNeg = 2 then 2 else 1
theorem coA_le {F : FV} {S : Nat → Int32} : coA F S ≤ 2 := by unfold coA; split <;> omega
theorem cost_C {h : eH} {p sp : Nat} {F : FV} {S : Nat → Int32} (hc : CF h p F) (h1 : sp < 36) (h2 : S 72 = nI sp) : f_X2_costFrom LF h p (nI sp) = some (nI (coA F S)) := by
  unfold f_X2_costFrom coA
  rw [if_pos (p_O hc), holds_k _ h1, hc.2.2.2.2.2.2.2.1, h2, nI_clamp (by omega)]
  by_cases hk : kF F sp = 2
  · rw [decide_eq_true hk, if_pos rfl, if_neg (by decide), if_pos hk]; rfl
  · rw [decide_eq_false hk, if_pos (show (if false = true then (1 : Int32) else 0) = 0 from rfl), if_neg hk]; rfl
theorem cost_M {h : eH} {sp : Nat} {F : FV} {S : Nat → Int32} (hF : okF F) (hR : RefsOK h) (hm : MF h F) (h1 : sp < 36) (h2 : S 72 = nI sp) : f_X11_costOf LF h 73 (nI sp) = some (nI (coA F S)) := by
  unfold f_X11_costOf coA
  rw [if_pos iO_73, r_73_6 hR, Option.bind_some, iA_75, if_pos (in_nI h1 (by decide)), nI_clamp (by omega), hm.2.2.2 sp h1, h2, nI_clamp (by omega)]
  by_cases hk : kF F sp = 2
  · rw [if_pos (by rw [hk]; rfl), if_pos hk]; rfl
  · rw [if_neg (show ¬ nI (kF F sp) = 2 from fun q => hk (nI_inj (by have := kF_le hF sp; omega) (by decide) q)), if_neg hk]; rfl
def gW (s q : Nat) (j _k : Nat) : Prop := j = s ∨ j = s + 1 ∨ j = q + 2
theorem goOn_J {h : eH} {q n s p B co : Nat} {c : Nat → Nat} {F : FV} {S : Nat → Int32} {ft : Int32} (hF : okF F) (hw : okR n c) (hs : s ∈ stL) (ho : okA F B S) (hB : B < 2 ^ 31) (hR : RefsOK h) (hq : CR h q n c) (hp : CF h p F) (hS : CS h s S) (hf : okT ft) (hco : co ≤ 2) : ∃ h', f_X10_goOn_J19 LF h 0 s ft (nI co) = some (h', if S 74 < nI co then 0 else 1) ∧ CS h' s (if S 74 < nI co then S else goA F n c ft (payA S (nI co))) ∧ only (gW s q) h h' := by
  have hq1 := hq.1
  have hp1 := hp.1
  have hsl := stL_ne hs
  have e3 : gI h s 3 = S 74 := hS.2.2.1 3 (by omega) (by omega)
  unfold f_X10_goOn_J19
  rw [if_pos (st_O s hs), e3]
  by_cases hlt : S 74 < nI co
  · rw [if_pos hlt, if_pos hlt, if_neg (by rw [fa_le]; rw [fa_lt] at hlt; omega)]
    exact ⟨h, rfl, hS, only_rfl⟩
  · have hP := okA_pay ho hlt hco
    have e5 : gI (sI h s 3 (S 74 - nI co)) s 5 = S 76 := by rw [gI_sI, if_neg (by omega)]; exact hS.2.2.1 5 (by omega) (by omega)
    rw [if_neg hlt, if_neg hlt, if_pos (by rw [fa_le]; rw [fa_lt] at hlt; omega), Option.bind_some, e5]
    have s1 : CS (sI (sI h s 3 (S 74 - nI co)) s 5 (S 76 + 1)) s (payA S (nI co)) := CS_f (k := 5) _ (CS_f (k := 3) _ hS (by omega) (by omega)) (by omega) (by omega)
    have o1 : only (gW s q) h (sI (sI h s 3 (S 74 - nI co)) s 5 (S 76 + 1)) := only_trans (only_sI (Or.inl rfl)) (only_sI (Or.inl rfl))
    generalize sI (sI h s 3 (S 74 - nI co)) s 5 (S 76 + 1) = h5 at s1 o1 ⊢
    generalize payA S (nI co) = P at hP s1 ⊢
    have hR5 := only_refs o1 hR
    have hp5 : CF h5 p F := CF_only o1 (fun j k x y => by unfold gW; omega) hp
    have hq5 : CR h5 q n c := CR_only o1 (fun j k x => by unfold gW; omega) hq
    obtain ⟨⟨sp, a1, a2, a3, a4⟩, ⟨hd, b1, b2⟩, -, -, -, -⟩ := id hP
    have hn := ahA_nb (F := F) a4 b2
    have hsp := kF_lt a2
    have h36 := nF_le hF
    have f1 : gI h5 s 1 = nI sp := (s1.2.2.1 1 (by omega) (by omega)).trans a4
    have f2 : gI h5 s 2 = nI hd := (s1.2.2.1 2 (by omega) (by omega)).trans b2
    rw [if_pos iO_0, hp5.2.1, Option.bind_some, if_pos (p_O hp), f1, f2, ahead_nb hF hp5 hsp b1, Option.bind_some, Option.bind_some, if_pos (p_O hp)]
    unfold goA
    rw [hn]
    have strike : frI F P (nb F sp hd) = false → f_X10_holds ((gL h5 p 4) &&& ((gL h5 s 8) ^^^ (-1))) (nb F sp hd) = 0 → ∃ h', (if f_X10_holds ((gL h5 p 4) &&& ((gL h5 s 8) ^^^ (-1))) (nb F sp hd) = 0 then if ft = -1 then (gR h5 0 17).bind fun b15 => (some p).bind fun b17 => if isO LF b15 4 = true then (f_X4_turnOf LF h5 b15 s b17).bind fun r20 => (f_X6_strike LF r20.1 s r20.2).bind fun r22 => some (r22, (1 : Int32)) else none else (f_X6_strike LF h5 s ft).bind fun r13 => some (r13, 1) else (f_X6_enter LF h5 s (nb F sp hd)).bind fun r24 => some (r24, 1)) = some (h', (1 : Int32)) ∧ CS h' s (if frI F P (nb F sp hd) = true then upd (upd (upd P 72 (nb F sp hd)) 75 (P 75 + P (nb F sp hd).toNatClampNeg)) (nb F sp hd).toNatClampNeg 0 else upd (upd P 73 ((P 73 + tnA F n c ft P) &&& 3)) 77 (P 77 + 1)) ∧ only (gW s q) h h' := by
      intro x1 x2
      rw [x1, x2, if_pos rfl, if_neg (show ¬ (false = true) by decide)]
      unfold tnA
      rcases hf with rfl | ⟨t, t1, rfl⟩
      · obtain ⟨h6, y1, y2⟩ := turn_C hF hw hs hP hB hR5 hq5 hp5 s1
        have s6 : CS h6 s P := CS_only y2 (fun k => ⟨by omega, by omega⟩) s1
        obtain ⟨h7, z1, z2, z3⟩ := strike_k hs s6 (rvA n c (askA F P))
        rw [if_pos rfl, hq5.2.1, Option.bind_some, Option.bind_some, if_pos (q_O hq.1), y1, Option.bind_some, z1, Option.bind_some, if_pos (show (-1 : Int32) < 0 by decide)]
        exact ⟨h7, rfl, z2, only_trans o1 (only_trans (only_mono (fun j k hj => Or.inr (Or.inr hj)) y2) (only_mono (fun j k hj => hj.elim Or.inl (fun x => Or.inr (Or.inl x))) z3))⟩
      · obtain ⟨h7, z1, z2, z3⟩ := strike_k hs s1 (nI t)
        rw [if_neg (show ¬ nI t = -1 from fun e => by have := nI_pos (n := t) (by omega); rw [e] at this; exact this (by decide)), z1, Option.bind_some, if_neg (nI_pos (by omega))]
        exact ⟨h7, rfl, z2, only_trans o1 (only_mono (fun j k hj => hj.elim Or.inl (fun x => Or.inr (Or.inl x))) z3)⟩
    rcases nb_or hF hsp b1 with e | ⟨u, u1, u2⟩
    · refine strike ?_ ?_
      · rw [e]; unfold frI; rw [if_pos (by decide)]
      · rw [e]; exact holds_m _
    · have hfi : f_X10_holds ((gL h5 p 4) &&& ((gL h5 s 8) ^^^ (-1))) (nI u) = if frA F P u then 1 else 0 := by rw [holds_k _ (by omega), free_tb hF hp5 s1]
      have hfr : frI F P (nI u) = frA F P u := by unfold frI; rw [if_neg (nI_pos (by omega)), nI_clamp (by omega)]
      by_cases hfr2 : frA F P u = true
      · obtain ⟨h7, z1, z2, z3⟩ := enter_k hR5 hs (show u < 36 by omega) s1
        rw [u2, hfi, hfr, hfr2, if_pos rfl, if_pos rfl, if_neg (by decide), z1, Option.bind_some, nI_clamp (by omega)]
        exact ⟨h7, rfl, z2, only_trans o1 (only_mono (fun j k hj => hj.elim Or.inl (fun x => Or.inr (Or.inl x))) z3)⟩
      · refine strike ?_ ?_
        · rw [u2, hfr]; exact ts_nt hfr2
        · rw [u2, hfi, if_neg hfr2]
/-- a step that costs, and one that does not -/
theorem goOn_1 {h : eH} {q n s p B : Nat} {c : Nat → Nat} {F : FV} {S : Nat → Int32} {ft : Int32} (hF : okF F) (hw : okR n c) (hs : s ∈ stL) (ho : okA F B S) (hB : B < 2 ^ 31) (hR : RefsOK h) (hq : CR h q n c) (hp : CF h p F) (hS : CS h s S) (hf : okT ft) : ∃ h', f_X10_goOn LF h 0 s 1 ft = some (h', if S 74 < nI (coA F S) then 0 else 1) ∧ CS h' s (if S 74 < nI (coA F S) then S else goA F n c ft (payA S (nI (coA F S)))) ∧ only (gW s q) h h' := by
  obtain ⟨⟨sp, a1, a2, a3, a4⟩, -, -, -, -, -⟩ := id ho
  unfold f_X10_goOn
  rw [if_neg (show ¬ (1 : Int32) = 0 by decide), if_pos iO_0, hp.2.1, Option.bind_some, if_pos (st_O s hs), if_pos (p_O hp), (hS.2.2.1 1 (by omega) (by omega)).trans a4, cost_C hp a1 a4, Option.bind_some]
  exact goOn_J hF hw hs ho hB hR hq hp hS hf coA_le
theorem goOn_0 {h : eH} {q n s p B : Nat} {c : Nat → Nat} {F : FV} {S : Nat → Int32} {ft : Int32} (hF : okF F) (hw : okR n c) (hs : s ∈ stL) (ho : okA F B S) (hB : B < 2 ^ 31) (hR : RefsOK h) (hq : CR h q n c) (hp : CF h p F) (hS : CS h s S) (hf : okT ft) : ∃ h', f_X10_goOn LF h 0 s 0 ft = some (h', 1) ∧ CS h' s (goA F n c ft (payA S 0)) ∧ only (gW s q) h h' := by
  obtain ⟨-, -, ⟨cu, c1, c2⟩, -, -, -⟩ := id ho
  have hn : ¬ S 74 < nI 0 := by rw [c2]; exact nI_nlt (by omega) (by omega)
  obtain ⟨h', x1, x2, x3⟩ := goOn_J (co := 0) hF hw hs ho hB hR hq hp hS hf (by omega)
  rw [if_neg hn] at x1 x2
  unfold f_X10_goOn
  rw [if_pos rfl]
  exact ⟨h', x1, x2, x3⟩

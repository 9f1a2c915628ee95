/-! best: the search, its bound, and the class's way of it -/
def bNote (b : Nat × Nat × (Nat → Nat)) (had dep : Nat) (path : Nat → Nat) : Nat × Nat × (Nat → Nat) := if b.1 < had ∨ (had = b.1 ∧ dep < b.2.1) then (had, dep, path) else b
def rsX (i : Nat) : Nat := if i = 0 then 0 else if i = 1 then 3 else if i = 2 then 1 else 2
def fo {β : Type} (st : β → Nat → β) (b : β) : Nat → β
  | 0 => b
  | i + 1 => st (fo st b i) (rsX i)
def ob2 {β : Type} (o : Option Nat) (b : β) (f : Nat → β) : β := match o with
  | none => b
  | some j => f j
def bSr (F : FV) (S : Nat → Int32) (du : Nat → Nat) : Nat → Nat → Nat → Nat → (Nat → Bool) → (Nat → Nat) → Nat × Nat × (Nat → Nat) → Nat × Nat × (Nat → Nat)
  | 0, _, had, dep, _, path, b => bNote b had dep path
  | k + 1, s, had, dep, tk, path, b => fo (fun b d => ob2 (nbF F s d) b (fun j => if frA F S j then bSr F S du k j (had + if tk j then 0 else du j) (dep + 1) (fun t => tk t || decide (t = j)) (fun q => if q = dep then j else path q) b else b)) (bNote b had dep path) 4
theorem bNote_no {b : Nat × Nat × (Nat → Nat)} {had dep : Nat} {path : Nat → Nat} (h : ¬ (b.1 < had ∨ (had = b.1 ∧ dep < b.2.1))) : bNote b had dep path = b := by unfold bNote; rw [if_neg h]
theorem fo_id {β : Type} {st : β → Nat → β} {b : β} (h : ∀ d, st b d = b) : ∀ n, fo st b n = b
  | 0 => rfl
  | n + 1 => by
    show st (fo st b n) (rsX n) = b
    rw [fo_id h n]; exact h _
theorem bSr_keep {F : FV} {S : Nat → Int32} {du : Nat → Nat} {rich : Nat} (hr : ∀ j, frA F S j = true → du j ≤ rich) : ∀ (k s had dep : Nat) (tk : Nat → Bool) (path : Nat → Nat) (b : Nat × Nat × (Nat → Nat)), (had + k * rich ≤ b.1 ∧ b.2.1 ≤ dep + k ∧ (had < b.1 ∨ b.2.1 ≤ dep)) → bSr F S du k s had dep tk path b = b
  | 0, s, had, dep, tk, path, b, h => bNote_no (by omega)
  | k + 1, s, had, dep, tk, path, b, h => by
    rw [Nat.succ_mul] at h
    show fo _ (bNote b had dep path) 4 = b
    rw [bNote_no (by omega)]
    have z : had + rich < b.1 ∨ b.2.1 ≤ dep + 1 := by
      rcases Nat.eq_zero_or_pos k with hk | hk
      · omega
      · rcases Nat.eq_zero_or_pos rich with hz | hz
        · omega
        · have hp : 0 < k * rich := Nat.mul_pos hk hz
          omega
    refine fo_id (fun d => ?_) 4
    cases nbF F s d with
    | none => rfl
    | some j =>
      show (if frA F S j = true then _ else b) = b
      cases hf : frA F S j with
      | false => rw [if_neg (by decide)]
      | true =>
        rw [if_pos rfl]
        have hj := hr j hf
        have h2 : had + (if tk j = true then 0 else du j) ≤ had + rich := by split <;> omega
        exact bSr_keep hr k j _ (dep + 1) _ _ b (by omega)
theorem fo_ok {β : Type} {st : β → Nat → β} {b : β} {C : β → Prop} (h0 : C b) (h : ∀ b d, C b → C (st b d)) : ∀ n, C (fo st b n)
  | 0 => h0
  | n + 1 => h _ _ (fo_ok h0 h n)
theorem bSr_ok {F : FV} {S : Nat → Int32} {du : Nat → Nat} (hd : ∀ j, du j ≤ 99) : ∀ (k s had dep : Nat) (tk : Nat → Bool) (path : Nat → Nat) (b : Nat × Nat × (Nat → Nat)), had + 99 * k ≤ 600 → dep + k ≤ 6 → (b.1 ≤ 600 ∧ b.2.1 ≤ 6) → ((bSr F S du k s had dep tk path b).1 ≤ 600 ∧ (bSr F S du k s had dep tk path b).2.1 ≤ 6)
  | 0, s, had, dep, tk, path, b, h1, h2, h3 => by
    show (bNote b had dep path).1 ≤ 600 ∧ (bNote b had dep path).2.1 ≤ 6
    unfold bNote
    split
    · exact ⟨by show had ≤ 600; omega, by show dep ≤ 6; omega⟩
    · exact h3
  | k + 1, s, had, dep, tk, path, b, h1, h2, h3 => by
    show (fo _ (bNote b had dep path) 4).1 ≤ 600 ∧ (fo _ (bNote b had dep path) 4).2.1 ≤ 6
    refine fo_ok (C := fun b : Nat × Nat × (Nat → Nat) => b.1 ≤ 600 ∧ b.2.1 ≤ 6) ?_ (fun b d hb => ?_) 4
    · unfold bNote
      split
      · exact ⟨by show had ≤ 600; omega, by show dep ≤ 6; omega⟩
      · exact h3
    · cases nbF F s d with
      | none => exact hb
      | some j =>
        show (if frA F S j = true then _ else b : Nat × Nat × (Nat → Nat)).1 ≤ 600 ∧ (if frA F S j = true then _ else b : Nat × Nat × (Nat → Nat)).2.1 ≤ 6
        cases frA F S j with
        | false => exact hb
        | true =>
          have hj := hd j
          have hl : (if tk j = true then 0 else du j) ≤ 99 := by split <;> omega
          exact bSr_ok hd k j _ (dep + 1) _ _ b (by omega) (by omega) hb
theorem bSr_lim {F : FV} {S : Nat → Int32} {du : Nat → Nat} {lim : Nat} : ∀ (k s had dep : Nat) (tk : Nat → Bool) (path : Nat → Nat) (b : Nat × Nat × (Nat → Nat)), dep + k ≤ lim → b.2.1 ≤ lim → (bSr F S du k s had dep tk path b).2.1 ≤ lim
  | 0, s, had, dep, tk, path, b, h2, h3 => by
    show (bNote b had dep path).2.1 ≤ lim
    unfold bNote
    split
    · show dep ≤ lim; omega
    · exact h3
  | k + 1, s, had, dep, tk, path, b, h2, h3 => by
    show (fo _ (bNote b had dep path) 4).2.1 ≤ lim
    refine fo_ok (C := fun b : Nat × Nat × (Nat → Nat) => b.2.1 ≤ lim) ?_ (fun b d hb => ?_) 4
    · unfold bNote
      split
      · show dep ≤ lim; omega
      · exact h3
    · cases nbF F s d with
      | none => exact hb
      | some j =>
        show (if frA F S j = true then _ else b : Nat × Nat × (Nat → Nat)).2.1 ≤ lim
        cases frA F S j with
        | false => exact hb
        | true => exact bSr_lim k j _ (dep + 1) _ _ b (by omega) hb
/-! the class's cells in the search -/
def swW (j k : Nat) : Prop := (j = 43 ∧ (k = 7 ∨ k = 8)) ∨ j = 44 ∨ j = 45
def BC (g : eH) (b : Nat × Nat × (Nat → Nat)) : Prop := gI g 43 7 = nI b.1 ∧ gI g 43 8 = nI b.2.1 ∧ ∀ q, q < b.2.1 → gI g 45 q = nI (b.2.2 q)
def PC (g : eH) (dep : Nat) (path : Nat → Nat) : Prop := ∀ q, q < dep → gI g 44 q = nI (path q)
def SC (g : eH) (p : Nat) (F : FV) (S : Nat → Int32) (lim rich : Nat) : Prop := RefsOK g ∧ gR g 43 2 = some p ∧ gR g 43 3 = some 46 ∧ CF g p F ∧ CS g 46 S ∧ (∀ k, tb (gL g 43 4) k = frA F S k) ∧ gI g 43 5 = nI lim ∧ gI g 43 6 = nI rich
theorem SC_only {g g' : eH} {p lim rich : Nat} {F : FV} {S : Nat → Int32} (o : only swW g g') (h : SC g p F S lim rich) : SC g' p F S lim rich := by
  obtain ⟨h1, h2, h3, h4, h5, h6, h7, h8⟩ := h
  exact ⟨only_refs o h1, (o.2 _ _).trans h2, (o.2 _ _).trans h3, CF_only o (fun j k a b => by unfold swW; omega) h4, CS_only o (fun k => ⟨by unfold swW; omega, by unfold swW; omega⟩) h5, fun k => by rw [o_L o (by unfold swW; omega)]; exact h6 k, (o_I o (by unfold swW; omega)).trans h7, (o_I o (by unfold swW; omega)).trans h8⟩
theorem noteF_C {g : eH} {had dep : Nat} {path : Nat → Nat} (hR : RefsOK g) (hd : dep ≤ 6) (hp : PC g dep path) : ∃ g', f_X7_noteFound LF g 43 (nI dep) (nI had) = some g' ∧ BC g' (had, dep, path) ∧ PC g' dep path ∧ only swW g g' := by
  unfold f_X7_noteFound
  rw [if_pos iO_43]
  have o0 : only swW g (sI (sI g 43 7 (nI had)) 43 8 (nI dep)) := only_trans (only_sI (by unfold swW; omega)) (only_sI (by unfold swW; omega))
  refine lpF (N := dep) (s := sI (sI g 43 7 (nI had)) 43 8 (nI dep)) (run := fun fu (g : eH) i => f_X7_noteFound_L12 LF fu (fun (h11 : eH) => some h11) g 43 (nI dep) (nI i)) (Inv := fun i g' => gI g' 43 7 = nI had ∧ gI g' 43 8 = nI dep ∧ (∀ q, q < i → gI g' 45 q = nI (path q)) ∧ PC g' dep path ∧ only swW g g') (Post := fun r => ∃ g', r = some g' ∧ BC g' (had, dep, path) ∧ PC g' dep path ∧ only swW g g') (by omega) ⟨by rw [gI_sI, if_neg (by omega), gI_sI, if_pos ⟨rfl, rfl⟩], by rw [gI_sI, if_pos ⟨rfl, rfl⟩], fun q hq => absurd hq (Nat.not_lt_zero q), fun q hq => by rw [gI_sI, if_neg (by omega), gI_sI, if_neg (by omega)]; exact hp q hq, o0⟩ ?_ ?_
  · rintro fu g' ⟨g1, g2, g3, g4, g5⟩
    refine ⟨g', ?_, ⟨g1, g2, g3⟩, g4, g5⟩
    show f_X7_noteFound_L12 LF (fu + 1) _ g' 43 (nI dep) (nI dep) = _
    unfold f_X7_noteFound_L12
    rw [if_pos (nI_le (Nat.le_refl _) (by omega))]
  · rintro i fu g' hi ⟨g1, g2, g3, g4, g5⟩
    have hR' := only_refs g5 hR
    have g4 : PC g' dep path := g4
    refine Or.inr ⟨sI g' 45 i (nI (path i)), ⟨by rw [gI_sI, if_neg (by omega)]; exact g1, by rw [gI_sI, if_neg (by omega)]; exact g2, fun q hq => ?_, fun q hq => by rw [gI_sI, if_neg (by omega)]; exact g4 q hq, only_trans g5 (only_sI (by unfold swW; omega))⟩, fun z hz => ?_⟩
    · rw [gI_sI]
      by_cases e : q = i
      · rw [if_pos ⟨rfl, e⟩, e]
      · rw [if_neg (fun x => e x.2)]; exact g3 q (by omega)
    · show f_X7_noteFound_L12 LF (fu + 1) _ g' 43 (nI dep) (nI i) = z
      unfold f_X7_noteFound_L12
      rw [if_neg (nI_ge hi (by omega)), if_neg (show ¬ (6 : Int32) ≤ nI i from nI_ge (b := 6) (by omega) (by decide)), if_pos iO_43, r_43_1 hR', Option.bind_some, r_43_0 hR', Option.bind_some, iA_44, if_pos (in_nI (by omega) (by decide)), iA_45, if_pos (in_nI (by omega) (by decide)), nI_clamp (by omega), g4 i hi, Option.bind_some, nI_p1]
      exact hz
theorem rs_k : ∀ i, i < 4 → inR (nI i) = true ∧ risv (nI i) = nI (rsX i) ∧ rsX i < 4 := by decide +kernel
def bStp (F : FV) (S : Nat → Int32) (du : Nat → Nat) (k s had dep : Nat) (tk : Nat → Bool) (path : Nat → Nat) (b : Nat × Nat × (Nat → Nat)) (d : Nat) : Nat × Nat × (Nat → Nat) := ob2 (nbF F s d) b (fun j => if frA F S j then bSr F S du k j (had + if tk j then 0 else du j) (dep + 1) (fun t => tk t || decide (t = j)) (fun q => if q = dep then j else path q) b else b)
theorem bSr_s {F : FV} {S : Nat → Int32} {du : Nat → Nat} {k s had dep : Nat} {tk : Nat → Bool} {path : Nat → Nat} {b : Nat × Nat × (Nat → Nat)} : bSr F S du (k + 1) s had dep tk path b = fo (bStp F S du k s had dep tk path) (bNote b had dep path) 4 := rfl
theorem note_C {rec : eH → Nat → Int32 → Int32 → Int32 → Int64 → Option eH} {g : eH} {s had dep : Nat} {path : Nat → Nat} {b : Nat × Nat × (Nat → Nat)} {tkm : Int64} (hR : RefsOK g) (hd : dep ≤ 6) (hh : had ≤ 600) (hb : b.1 ≤ 600 ∧ b.2.1 ≤ 6) (hB : BC g b) (hp : PC g dep path) : ∃ g1, f_X7_goFarther_o LF rec g 43 (nI s) (nI dep) (nI had) tkm = f_X7_goFarther_o_J30 LF rec g1 43 (nI s) (nI dep) (nI had) tkm ∧ BC g1 (bNote b had dep path) ∧ PC g1 dep path ∧ only swW g g1 := by
  obtain ⟨gn, n1, n2, n3, n4⟩ := noteF_C (had := had) hR hd hp
  unfold f_X7_goFarther_o bNote
  rw [if_pos iO_43, hB.1, hB.2.1]
  by_cases q1 : b.1 < had
  · rw [if_pos (nI_lt q1 (by omega)), if_pos (Or.inl q1), n1, Option.bind_some]
    exact ⟨gn, rfl, n2, n3, n4⟩
  · rw [if_neg (nI_nlt (by omega) (by omega))]
    by_cases q2 : had = b.1
    · rw [if_pos (by rw [q2])]
      by_cases q3 : b.2.1 ≤ dep
      · rw [if_pos (nI_le q3 (by omega)), if_neg (by omega)]
        exact ⟨g, rfl, hB, hp, only_rfl⟩
      · rw [if_neg (nI_ge (by omega) (by omega)), if_pos (by omega), n1, Option.bind_some]
        exact ⟨gn, rfl, n2, n3, n4⟩
    · rw [if_neg (fun e => q2 (nI_inj (by omega) (by omega) e)), if_neg (by omega)]
      exact ⟨g, rfl, hB, hp, only_rfl⟩
theorem better_C {g : eH} {p lim rich k had dep : Nat} {F : FV} {S : Nat → Int32} {b : Nat × Nat × (Nat → Nat)} (hS : SC g p F S lim rich) (hB : BC g b) (hl : dep + k = lim) (h6 : lim ≤ 6) (hr : rich ≤ 99) (hh : had ≤ 600) (hb : b.1 ≤ 600 ∧ b.2.1 ≤ 6) : f_X7_canBeBetter LF g 43 (nI dep) (nI had) = some (if b.1 < had + k * rich then 1 else 0) := by
  have le : k * rich ≤ 6 * 99 := Nat.mul_le_mul (by omega) hr
  have e : nI had + (nI lim - nI dep) * nI rich = nI (had + k * rich) := by rw [pk_sub (by omega), show lim - dep = k by omega, pk_mul, nI_add]
  unfold f_X7_canBeBetter
  rw [if_pos iO_43, hS.2.2.2.2.2.2.1, hS.2.2.2.2.2.2.2, e, hB.1]
  by_cases q1 : b.1 < had + k * rich
  · rw [if_neg (nI_ge q1 (by omega)), if_pos q1]
  · have q2 : had + k * rich ≤ b.1 := by omega
    rw [if_pos (nI_le q2 (by omega)), if_neg q1]
theorem goF_L {rec : eH → Nat → Int32 → Int32 → Int32 → Int64 → Option eH} {g : eH} {p lim rich k s had dep : Nat} {F : FV} {S : Nat → Int32} {du : Nat → Nat} {tk : Nat → Bool} {tkm : Int64} {path : Nat → Nat} {b : Nat × Nat × (Nat → Nat)} (hF : okF F) (hdu : ∀ j, j < 36 → S j = nI (du j)) (hd99 : ∀ j, du j ≤ 99) (hs : s < nF F) (hl : dep + (k + 1) = lim) (h6 : lim ≤ 6) (hh : had + 99 * (k + 1) ≤ 600) (htk : ∀ j, j < 36 → tb tkm j = tk j) (hS : SC g p F S lim rich) (hB : BC g b) (hp : PC g dep path) (hb : b.1 ≤ 600 ∧ b.2.1 ≤ 6) (hq : b.2.1 ≤ lim) (ih : ∀ (g : eH) (s had dep : Nat) (tk : Nat → Bool) (tkm : Int64) (path : Nat → Nat) (b : Nat × Nat × (Nat → Nat)), s < nF F → dep + k = lim → had + 99 * k ≤ 600 → (∀ j, j < 36 → tb tkm j = tk j) → SC g p F S lim rich → BC g b → PC g dep path → (b.1 ≤ 600 ∧ b.2.1 ≤ 6) → b.2.1 ≤ lim → ∃ g', rec g 43 (nI s) (nI dep) (nI had) tkm = some g' ∧ BC g' (bSr F S du k s had dep tk path b) ∧ PC g' dep path ∧ only swW g g') : ∃ g', f_X7_goFarther_o_L76 LF rec e_fu (fun (h29 : eH) => some h29) g 43 (nI s) (nI dep) (nI had) tkm 0 = some g' ∧ BC g' (fo (bStp F S du k s had dep tk path) b 4) ∧ PC g' dep path ∧ only swW g g' := by
  have h36 := nF_le hF
  have bok : ∀ b d, (b.1 ≤ 600 ∧ b.2.1 ≤ 6) → ((bStp F S du k s had dep tk path b d).1 ≤ 600 ∧ (bStp F S du k s had dep tk path b d).2.1 ≤ 6) := fun b d hb => by
    unfold bStp
    cases nbF F s d with
    | none => exact hb
    | some j =>
      show (if frA F S j = true then _ else b : Nat × Nat × (Nat → Nat)).1 ≤ 600 ∧ (if frA F S j = true then _ else b : Nat × Nat × (Nat → Nat)).2.1 ≤ 6
      cases frA F S j with
      | false => exact hb
      | true =>
        have hj := hd99 j
        have hl2 : (if tk j = true then 0 else du j) ≤ 99 := by split <;> omega
        exact bSr_ok hd99 k j _ (dep + 1) _ _ b (by omega) (by omega) hb
  have bokq : ∀ b d, b.2.1 ≤ lim → (bStp F S du k s had dep tk path b d).2.1 ≤ lim := fun b d hb => by
    unfold bStp
    cases nbF F s d with
    | none => exact hb
    | some j =>
      show (if frA F S j = true then _ else b : Nat × Nat × (Nat → Nat)).2.1 ≤ lim
      cases frA F S j with
      | false => exact hb
      | true => exact bSr_lim k j _ (dep + 1) _ _ b (by omega) hb
  refine lpF (N := 4) (s := g) (run := fun fu (g : eH) i => f_X7_goFarther_o_L76 LF rec fu (fun (h29 : eH) => some h29) g 43 (nI s) (nI dep) (nI had) tkm (nI i)) (Inv := fun i g' => BC g' (fo (bStp F S du k s had dep tk path) b i) ∧ PC g' dep path ∧ only swW g g') (Post := fun r => ∃ g', r = some g' ∧ BC g' (fo (bStp F S du k s had dep tk path) b 4) ∧ PC g' dep path ∧ only swW g g') (by decide) ⟨hB, hp, only_rfl⟩ ?_ ?_
  · rintro fu g' ⟨g1, g2, g3⟩
    refine ⟨g', ?_, g1, g2, g3⟩
    show f_X7_goFarther_o_L76 LF rec (fu + 1) _ g' 43 (nI s) (nI dep) (nI had) tkm (nI 4) = _
    unfold f_X7_goFarther_o_L76
    rw [if_pos (by decide)]
  · rintro i fu g' hi ⟨g1, g2, g3⟩
    have g2 : PC g' dep path := g2
    have hS' := SC_only g3 hS
    obtain ⟨s1, s2, s3, s4, s5, s6, s7, s8⟩ := id hS'
    obtain ⟨r1, r2, r3⟩ := rs_k i hi
    have nx : fo (bStp F S du k s had dep tk path) b (i + 1) = bStp F S du k s had dep tk path (fo (bStp F S du k s had dep tk path) b i) (rsX i) := rfl
    have fok := fo_ok (C := fun b : Nat × Nat × (Nat → Nat) => b.1 ≤ 600 ∧ b.2.1 ≤ 6) (st := bStp F S du k s had dep tk path) hb bok i
    have fokq := fo_ok (C := fun b : Nat × Nat × (Nat → Nat) => b.2.1 ≤ lim) (st := bStp F S du k s had dep tk path) hq bokq i
    generalize fo (bStp F S du k s had dep tk path) b (i + 1) = b2 at nx ⊢
    generalize fo (bStp F S du k s had dep tk path) b i = b1 at nx g1 fok fokq
    have n4 : ¬ (4 : Int32) ≤ nI i := nI_ge (b := 4) hi (by decide)
    have ea := ahead_nb hF s4 hs r3
    rw [nb_eq hF hs r3] at ea
    unfold bStp at nx
    cases hn : nbF F s (rsX i) with
    | none =>
      rw [hn] at nx ea
      have nx : b2 = b1 := nx
      refine Or.inr ⟨g', ⟨by rw [nx]; exact g1, g2, g3⟩, fun z hz => ?_⟩
      show f_X7_goFarther_o_L76 LF rec (fu + 1) _ g' 43 (nI s) (nI dep) (nI had) tkm (nI i) = z
      unfold f_X7_goFarther_o_L76
      rw [if_neg n4, if_pos iO_43, s2, Option.bind_some, if_pos r1, if_pos (p_O s4), r2, ea, Option.bind_some, if_pos (show f_X10_holds (gL g' 43 4) (oI none) = 0 from holds_m _), nI_p1]; exact hz
    | some j =>
      rw [hn] at nx ea
      have hj := (nbF_lt hF hs r3 hn).1
      have ea : f_X2_aheadOf LF g' p (nI s) (nI (rsX i)) = some (nI j) := ea
      have nx : b2 = if frA F S j = true then bSr F S du k j (had + if tk j = true then 0 else du j) (dep + 1) (fun t => tk t || decide (t = j)) (fun q => if q = dep then j else path q) b1 else b1 := nx
      have hh4 : f_X10_holds (gL g' 43 4) (nI j) = if frA F S j = true then 1 else 0 := by rw [holds_k _ (by omega), s6 j]
      cases hf : frA F S j with
      | false =>
        rw [hf, if_neg (by decide)] at nx
        rw [hf] at hh4
        refine Or.inr ⟨g', ⟨by rw [nx]; exact g1, g2, g3⟩, fun z hz => ?_⟩
        show f_X7_goFarther_o_L76 LF rec (fu + 1) _ g' 43 (nI s) (nI dep) (nI had) tkm (nI i) = z
        unfold f_X7_goFarther_o_L76
        rw [if_neg n4, if_pos iO_43, s2, Option.bind_some, if_pos r1, if_pos (p_O s4), r2, ea, Option.bind_some, if_pos (by rw [hh4]; rfl), nI_p1]; exact hz
      | true =>
        rw [hf, if_pos rfl] at nx
        rw [hf] at hh4
        have oj : only swW g' (sI g' 44 dep (nI j)) := only_sI (by unfold swW; omega)
        have hSj := SC_only oj hS'
        have BCj : BC (sI g' 44 dep (nI j)) b1 := ⟨(o_I (W := fun j _ => j = 44) (only_sI rfl) (by omega)).trans g1.1, (o_I (W := fun j _ => j = 44) (only_sI rfl) (by omega)).trans g1.2.1, fun q hq => (o_I (W := fun j _ => j = 44) (only_sI rfl) (by omega)).trans (g1.2.2 q hq)⟩
        have PCj : PC (sI g' 44 dep (nI j)) (dep + 1) (fun q => if q = dep then j else path q) := fun q hq => by
          rw [gI_sI]
          show _ = nI (if q = dep then j else path q)
          by_cases e : q = dep
          · rw [if_pos ⟨rfl, e⟩, if_pos e]
          · rw [if_neg (fun x => e x.2), if_neg e]; exact g2 q (by omega)
        have hj99 := hd99 j
        have hl2 : (if tk j = true then 0 else du j) ≤ 99 := by split <;> omega
        have tj : ∀ t, t < 36 → tb (tkm ||| f_X10_bit (nI j)) t = (tk t || decide (t = j)) := fun t ht => by rw [tb_or, htk t ht, bit_tb (by omega)]
        obtain ⟨g5, y1, y2, y3, y4⟩ := ih (sI g' 44 dep (nI j)) j (had + if tk j = true then 0 else du j) (dep + 1) (fun t => tk t || decide (t = j)) (tkm ||| f_X10_bit (nI j)) (fun q => if q = dep then j else path q) b1 hj (by omega) (by omega) tj hSj BCj PCj fok fokq
        refine Or.inr ⟨g5, ⟨by rw [nx]; exact y2, fun q hq => ?_, only_trans g3 (only_trans oj y4)⟩, fun z hz => ?_⟩
        · have := y3 q (by omega)
          rw [this]
          show nI (if q = dep then j else path q) = _
          rw [if_neg (by omega)]
        · show f_X7_goFarther_o_L76 LF rec (fu + 1) _ g' 43 (nI s) (nI dep) (nI had) tkm (nI i) = z
          have hz : f_X7_goFarther_o_L76 LF rec fu (fun (h29 : eH) => some h29) g5 43 (nI s) (nI dep) (nI had) tkm (nI (i + 1)) = z := hz
          have e47 : gI (sI g' 44 dep (nI j)) (46 + 1) j = nI (du j) := (hSj.2.2.2.2.1.1 j (by omega)).trans (hdu j (by omega))
          unfold f_X7_goFarther_o_L76
          rw [if_neg n4, if_pos iO_43, s2, Option.bind_some, if_pos r1, if_pos (p_O s4), r2, ea, Option.bind_some, if_neg (by rw [hh4]; exact i10), r_43_0 s1, Option.bind_some, iA_44, if_pos (in_nI (by omega) (by decide)), nI_clamp (by omega), holds_k _ (by omega), htk j (by omega)]
          unfold f_X7_goFarther_o_J144
          cases ht : tk j with
          | true =>
            rw [ht, if_pos rfl] at y1
            rw [if_neg (show ¬ (if true = true then (1 : Int32) else 0) = 0 from i10), if_pos iO_43, show nI dep + 1 = nI (dep + 1) from nI_add dep 1, show nI had + 0 = nI (had + 0) from nI_add had 0, y1, Option.bind_some, nI_p1]
            exact hz
          | false =>
            rw [ht, if_neg (by decide)] at y1
            rw [if_pos (show (if false = true then (1 : Int32) else 0) = 0 from rfl), hSj.2.2.1, Option.bind_some, if_pos iO_46, dustAt_k hSj.1 (by decide) (by omega), Option.bind_some, e47, if_pos iO_43, show nI dep + 1 = nI (dep + 1) from nI_add dep 1, nI_add, y1, Option.bind_some, nI_p1]
            exact hz
theorem goF_C {p lim rich : Nat} {F : FV} {S : Nat → Int32} {du : Nat → Nat} (hF : okF F) (hdu : ∀ j, j < 36 → S j = nI (du j)) (hd99 : ∀ j, du j ≤ 99) (hr : ∀ j, frA F S j = true → du j ≤ rich) (hr9 : rich ≤ 99) (h6 : lim ≤ 6) : ∀ (k n t : Nat), k < n → ∀ (g : eH) (s had dep : Nat) (tk : Nat → Bool) (tkm : Int64) (path : Nat → Nat) (b : Nat × Nat × (Nat → Nat)), s < nF F → dep + k = lim → had + 99 * k ≤ 600 → (∀ j, j < 36 → tb tkm j = tk j) → SC g p F S lim rich → BC g b → PC g dep path → (b.1 ≤ 600 ∧ b.2.1 ≤ 6) → b.2.1 ≤ lim → ∃ g', fg_X7_goFarther LF n t g 43 (nI s) (nI dep) (nI had) tkm = some g' ∧ BC g' (bSr F S du k s had dep tk path b) ∧ PC g' dep path ∧ only swW g g'
  | 0, n, t, hn, g, s, had, dep, tk, tkm, path, b, hs, hl, hh, htk, hS, hB, hp, hb, hq => by
    obtain ⟨m, rfl⟩ : ∃ m, n = m + 1 := ⟨n - 1, by omega⟩
    obtain ⟨g1, n1, n2, n3, n4⟩ := note_C (rec := fun h y0 y1 y2 y3 y4 => fg_X7_goFarther LF m 0 h y0 y1 y2 y3 y4) (s := s) (tkm := tkm) hS.1 (show dep ≤ 6 by omega) (show had ≤ 600 by omega) hb hB hp
    refine ⟨g1, ?_, n2, n3, n4⟩
    show f_X7_goFarther_o LF (fun h y0 y1 y2 y3 y4 => fg_X7_goFarther LF m 0 h y0 y1 y2 y3 y4) g 43 (nI s) (nI dep) (nI had) tkm = _
    rw [n1]
    unfold f_X7_goFarther_o_J30
    rw [if_neg (nI_pos (by omega)), if_pos iO_43, (SC_only n4 hS).2.2.2.2.2.2.1, if_pos (nI_le (by omega) (by omega))]
  | k + 1, n, t, hn, g, s, had, dep, tk, tkm, path, b, hs, hl, hh, htk, hS, hB, hp, hb, hq => by
    obtain ⟨m, rfl⟩ : ∃ m, n = m + 1 := ⟨n - 1, by omega⟩
    obtain ⟨g1, n1, n2, n3, n4⟩ := note_C (rec := fun h y0 y1 y2 y3 y4 => fg_X7_goFarther LF m 0 h y0 y1 y2 y3 y4) (s := s) (tkm := tkm) hS.1 (show dep ≤ 6 by omega) (show had ≤ 600 by omega) hb hB hp
    have hS1 := SC_only n4 hS
    have hb1 : (bNote b had dep path).1 ≤ 600 ∧ (bNote b had dep path).2.1 ≤ 6 := by
      unfold bNote
      split
      · exact ⟨by show had ≤ 600; omega, by show dep ≤ 6; omega⟩
      · exact hb
    have hq1 : (bNote b had dep path).2.1 ≤ lim := by
      unfold bNote
      split
      · show dep ≤ lim; omega
      · exact hq
    have hn1 : had ≤ (bNote b had dep path).1 ∧ (had < (bNote b had dep path).1 ∨ (bNote b had dep path).2.1 ≤ dep) := by
      by_cases c : b.1 < had ∨ (had = b.1 ∧ dep < b.2.1)
      · unfold bNote
        rw [if_pos c]
        exact ⟨Nat.le_refl had, Or.inr (Nat.le_refl dep)⟩
      · rw [bNote_no c]; omega
    have hbet := better_C (k := k + 1) (had := had) (dep := dep) hS1 n2 hl h6 hr9 (by omega) hb1
    show ∃ g', f_X7_goFarther_o LF (fun h y0 y1 y2 y3 y4 => fg_X7_goFarther LF m 0 h y0 y1 y2 y3 y4) g 43 (nI s) (nI dep) (nI had) tkm = some g' ∧ _
    rw [n1, bSr_s]
    generalize bNote b had dep path = b1 at n2 hb1 hbet hq1 hn1
    unfold f_X7_goFarther_o_J30
    rw [if_neg (nI_pos (by omega)), if_pos iO_43, hS1.2.2.2.2.2.2.1, if_neg (nI_ge (by omega) (by omega)), if_neg (show ¬ (6 : Int32) ≤ nI dep from nI_ge (b := 6) (by omega) (by decide)), hbet, Option.bind_some]
    by_cases q : b1.1 < had + (k + 1) * rich
    · rw [if_pos q, if_neg i10, hS1.2.1, Option.bind_some, hS1.2.2.1, Option.bind_some]
      obtain ⟨g', y1, y2, y3, y4⟩ := goF_L (rec := fun h y0 y1 y2 y3 y4 => fg_X7_goFarther LF m 0 h y0 y1 y2 y3 y4) (k := k) hF hdu hd99 hs hl h6 hh htk hS1 n2 n3 hb1 hq1 (fun g s had dep tk tkm path b a1 a2 a3 a4 a5 a6 a7 a8 a9 => goF_C hF hdu hd99 hr hr9 h6 k m 0 (by omega) g s had dep tk tkm path b a1 a2 a3 a4 a5 a6 a7 a8 a9)
      exact ⟨g', y1, y2, y3, only_trans n4 y4⟩
    · rw [if_neg q, if_pos rfl]
      refine ⟨g1, rfl, ?_, n3, n4⟩
      have e : fo (bStp F S du k s had dep tk path) b1 4 = b1 := by
        have e2 := bSr_keep hr (k + 1) s had dep tk path b1 ⟨by omega, by omega, hn1.2⟩
        rw [bSr_s, bNote_no (b := b1) (had := had) (dep := dep) (path := path) (by omega)] at e2
        exact e2
      rw [e]; exact n2

/-! best: the search, its bound, and the class's way of it -/
def bNote (b : Nat × Nat × (Nat → Nat)) (had dep : Nat) (path : Nat → Nat) : Nat × Nat × (Nat → Nat) := if b.1 < had ∨ (had = b.1 ∧ dep < b.2.1) then (had, dep, path) else b
def rsX (i : Nat) : Nat := if i = 0 then 0 else if i = 1 then 3 else if i = 2 then 1 else 2
def fo {β : Type} (st : β → Nat → β) (b : β) : Nat → β
  | 0 => b
  | i + 1 => st (fo st b i) (rsX i)
def ob2 {β : Type} (o : Option Nat) (b : β) (f : Nat → β) : β := match o with
  | none => b
  | some j => f j
def bSr (F : FV) (S : Nat → Int32) (du : Nat → Nat) : Nat → Nat → Nat → Nat → (Nat → Bool) → (Nat → Nat) → Nat × Nat × (Nat → Nat) → Nat × Nat × (Nat → Nat)
  | 0, _, had, dep, _, path, b => bNote b had dep path
  | k + 1, s, had, dep, tk, path, b => fo (fun b d => ob2 (nbF F s d) b (fun j => if frA F S j then bSr F S du k j (had + if tk j then 0 else du j) (dep + 1) (fun t => tk t || decide (t = j)) (fun q => if q = dep then j else path q) b else b)) (bNote b had dep path) 4
theorem bNote_no {b : Nat × Nat × (Nat → Nat)} {had dep : Nat} {path : Nat → Nat} (h : ¬ (b.1 < had ∨ (had = b.1 ∧ dep < b.2.1))) : bNote b had dep path = b := by unfold bNote; rw [if_neg h]
theorem fo_id {β : Type} {st : β → Nat → β} {b : β} (h : ∀ d, st b d = b) : ∀ n, fo st b n = b
  | 0 => rfl
  | n + 1 => by
    show st (fo st b n) (rsX n) = b
    rw [fo_id h n]; exact h _
theorem bSr_keep {F : FV} {S : Nat → Int32} {du : Nat → Nat} {rich : Nat} (hr : ∀ j, frA F S j = true → du j ≤ rich) : ∀ (k s had dep : Nat) (tk : Nat → Bool) (path : Nat → Nat) (b : Nat × Nat × (Nat → Nat)), (had + k * rich < b.1 ∨ (had + k * rich = b.1 ∧ b.2.1 ≤ dep)) → bSr F S du k s had dep tk path b = b
  | 0, s, had, dep, tk, path, b, h => bNote_no (by omega)
  | k + 1, s, had, dep, tk, path, b, h => by
    rw [Nat.succ_mul] at h
    show fo _ (bNote b had dep path) 4 = b
    rw [bNote_no (by omega)]
    refine fo_id (fun d => ?_) 4
    cases nbF F s d with
    | none => rfl
    | some j =>
      show (if frA F S j = true then _ else b) = b
      cases hf : frA F S j with
      | false => rw [if_neg (by decide)]
      | true =>
        rw [if_pos rfl]
        have hj := hr j hf
        have h2 : had + (if tk j = true then 0 else du j) ≤ had + rich := by split <;> omega
        exact bSr_keep hr k j _ (dep + 1) _ _ b (by omega)
theorem fo_ok {β : Type} {st : β → Nat → β} {b : β} {C : β → Prop} (h0 : C b) (h : ∀ b d, C b → C (st b d)) : ∀ n, C (fo st b n)
  | 0 => h0
  | n + 1 => h _ _ (fo_ok h0 h n)
theorem bSr_ok {F : FV} {S : Nat → Int32} {du : Nat → Nat} (hd : ∀ j, du j ≤ 99) : ∀ (k s had dep : Nat) (tk : Nat → Bool) (path : Nat → Nat) (b : Nat × Nat × (Nat → Nat)), had + 99 * k ≤ 600 → dep + k ≤ 6 → (b.1 ≤ 600 ∧ b.2.1 ≤ 6) → ((bSr F S du k s had dep tk path b).1 ≤ 600 ∧ (bSr F S du k s had dep tk path b).2.1 ≤ 6)
  | 0, s, had, dep, tk, path, b, h1, h2, h3 => by
    show (bNote b had dep path).1 ≤ 600 ∧ (bNote b had dep path).2.1 ≤ 6
    unfold bNote
    split
    · exact ⟨by show had ≤ 600; omega, by show dep ≤ 6; omega⟩
    · exact h3
  | k + 1, s, had, dep, tk, path, b, h1, h2, h3 => by
    show (fo _ (bNote b had dep path) 4).1 ≤ 600 ∧ (fo _ (bNote b had dep path) 4).2.1 ≤ 6
    refine fo_ok (C := fun b : Nat × Nat × (Nat → Nat) => b.1 ≤ 600 ∧ b.2.1 ≤ 6) ?_ (fun b d hb => ?_) 4
    · unfold bNote
      split
      · exact ⟨by show had ≤ 600; omega, by show dep ≤ 6; omega⟩
      · exact h3
    · cases nbF F s d with
      | none => exact hb
      | some j =>
        show (if frA F S j = true then _ else b : Nat × Nat × (Nat → Nat)).1 ≤ 600 ∧ (if frA F S j = true then _ else b : Nat × Nat × (Nat → Nat)).2.1 ≤ 6
        cases frA F S j with
        | false => exact hb
        | true =>
          have hj := hd j
          have hl : (if tk j = true then 0 else du j) ≤ 99 := by split <;> omega
          exact bSr_ok hd k j _ (dep + 1) _ _ b (by omega) (by omega) hb
/-! the class's cells in the search -/
def swW (j k : Nat) : Prop := (j = 43 ∧ (k = 7 ∨ k = 8)) ∨ j = 44 ∨ j = 45
def BC (g : eH) (b : Nat × Nat × (Nat → Nat)) : Prop := gI g 43 7 = nI b.1 ∧ gI g 43 8 = nI b.2.1 ∧ ∀ q, q < b.2.1 → gI g 45 q = nI (b.2.2 q)
def PC (g : eH) (dep : Nat) (path : Nat → Nat) : Prop := ∀ q, q < dep → gI g 44 q = nI (path q)
def SC (g : eH) (p : Nat) (F : FV) (S : Nat → Int32) (lim rich : Nat) : Prop := RefsOK g ∧ gR g 43 2 = some p ∧ gR g 43 3 = some 46 ∧ CF g p F ∧ CS g 46 S ∧ (∀ k, tb (gL g 43 4) k = frA F S k) ∧ gI g 43 5 = nI lim ∧ gI g 43 6 = nI rich
theorem SC_only {g g' : eH} {p lim rich : Nat} {F : FV} {S : Nat → Int32} (o : only swW g g') (h : SC g p F S lim rich) : SC g' p F S lim rich := by
  obtain ⟨h1, h2, h3, h4, h5, h6, h7, h8⟩ := h
  exact ⟨only_refs o h1, (o.2 _ _).trans h2, (o.2 _ _).trans h3, CF_only o (fun j k a b => by unfold swW; omega) h4, CS_only o (fun k => ⟨by unfold swW; omega, by unfold swW; omega⟩) h5, fun k => by rw [o_L o (by unfold swW; omega)]; exact h6 k, (o_I o (by unfold swW; omega)).trans h7, (o_I o (by unfold swW; omega)).trans h8⟩
theorem noteF_C {g : eH} {had dep : Nat} {path : Nat → Nat} (hR : RefsOK g) (hd : dep ≤ 6) (hp : PC g dep path) : ∃ g', f_X7_noteFound LF g 43 (nI dep) (nI had) = some g' ∧ BC g' (had, dep, path) ∧ PC g' dep path ∧ only swW g g' := by
  unfold f_X7_noteFound
  rw [if_pos iO_43]
  have o0 : only swW g (sI (sI g 43 7 (nI had)) 43 8 (nI dep)) := only_trans (only_sI (by unfold swW; omega)) (only_sI (by unfold swW; omega))
  refine lpF (N := dep) (s := sI (sI g 43 7 (nI had)) 43 8 (nI dep)) (run := fun fu (g : eH) i => f_X7_noteFound_L12 LF fu (fun (h11 : eH) => some h11) g 43 (nI dep) (nI i)) (Inv := fun i g' => gI g' 43 7 = nI had ∧ gI g' 43 8 = nI dep ∧ (∀ q, q < i → gI g' 45 q = nI (path q)) ∧ PC g' dep path ∧ only swW g g') (Post := fun r => ∃ g', r = some g' ∧ BC g' (had, dep, path) ∧ PC g' dep path ∧ only swW g g') (by omega) ⟨by rw [gI_sI, if_neg (by omega), gI_sI, if_pos ⟨rfl, rfl⟩], by rw [gI_sI, if_pos ⟨rfl, rfl⟩], fun q hq => absurd hq (Nat.not_lt_zero q), fun q hq => by rw [gI_sI, if_neg (by omega), gI_sI, if_neg (by omega)]; exact hp q hq, o0⟩ ?_ ?_
  · rintro fu g' ⟨g1, g2, g3, g4, g5⟩
    refine ⟨g', ?_, ⟨g1, g2, g3⟩, g4, g5⟩
    show f_X7_noteFound_L12 LF (fu + 1) _ g' 43 (nI dep) (nI dep) = _
    unfold f_X7_noteFound_L12
    rw [if_pos (nI_le (Nat.le_refl _) (by omega))]
  · rintro i fu g' hi ⟨g1, g2, g3, g4, g5⟩
    have hR' := only_refs g5 hR
    have g4 : PC g' dep path := g4
    refine Or.inr ⟨sI g' 45 i (nI (path i)), ⟨by rw [gI_sI, if_neg (by omega)]; exact g1, by rw [gI_sI, if_neg (by omega)]; exact g2, fun q hq => ?_, fun q hq => by rw [gI_sI, if_neg (by omega)]; exact g4 q hq, only_trans g5 (only_sI (by unfold swW; omega))⟩, fun z hz => ?_⟩
    · rw [gI_sI]
      by_cases e : q = i
      · rw [if_pos ⟨rfl, e⟩, e]
      · rw [if_neg (fun x => e x.2)]; exact g3 q (by omega)
    · show f_X7_noteFound_L12 LF (fu + 1) _ g' 43 (nI dep) (nI i) = z
      unfold f_X7_noteFound_L12
      rw [if_neg (nI_ge hi (by omega)), if_neg (show ¬ (6 : Int32) ≤ nI i from nI_ge (b := 6) (by omega) (by decide)), if_pos iO_43, r_43_1 hR', Option.bind_some, r_43_0 hR', Option.bind_some, iA_44, if_pos (in_nI (by omega) (by decide)), iA_45, if_pos (in_nI (by omega) (by decide)), nI_clamp (by omega), g4 i hi, Option.bind_some, nI_p1]
      exact hz
theorem rs_k : ∀ i, i < 4 → inR (nI i) = true ∧ risv (nI i) = nI (rsX i) ∧ rsX i < 4 := by decide +kernel

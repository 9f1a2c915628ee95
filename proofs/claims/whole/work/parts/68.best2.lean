/-! best: the reference's way of it -/
def foA {β : Type} (st : β → Nat → β) (b : β) : Nat → β
  | 0 => b
  | j + 1 => st (foA st b j) j
def adjN (R C s j : Nat) : Bool := decide (nbN R C s 0 = some j) || decide (nbN R C s 1 = some j) || decide (nbN R C s 2 = some j) || decide (nbN R C s 3 = some j)
theorem adj_d : ∀ R, R < 7 → ∀ C, C < 7 → ∀ s, s < R * C → (List.range (R * C)).filter (adjN R C s) = [0, 3, 1, 2].filterMap (nbN R C s) := by decide +kernel
theorem foA_l {β : Type} (f : β → Nat → β) (a : Nat → Bool) (b : β) : ∀ n, foA (fun b j => if a j then f b j else b) b n = ((List.range n).filter a).foldl f b
  | 0 => rfl
  | n + 1 => by
    show (if a n then f (foA _ b n) n else foA _ b n) = _
    rw [foA_l f a b n, List.range_succ, List.filter_append, List.foldl_append]
    cases h : a n with
    | false => rw [if_neg (by decide), List.filter_cons_of_neg (by rw [h]; decide)]; rfl
    | true => rw [if_pos rfl, List.filter_cons_of_pos h]; rfl
theorem fo_l {β : Type} (f : β → Nat → β) (nbs : Nat → Option Nat) (b : β) : fo (fun b d => ob2 (nbs d) b (f b)) b 4 = ([0, 3, 1, 2].filterMap nbs).foldl f b := by
  show ob2 (nbs 2) (ob2 (nbs 1) (ob2 (nbs 3) (ob2 (nbs 0) b (f b)) (f (ob2 (nbs 0) b (f b)))) (f (ob2 (nbs 3) (ob2 (nbs 0) b (f b)) (f (ob2 (nbs 0) b (f b)))))) (f (ob2 (nbs 1) (ob2 (nbs 3) (ob2 (nbs 0) b (f b)) (f (ob2 (nbs 0) b (f b)))) (f (ob2 (nbs 3) (ob2 (nbs 0) b (f b)) (f (ob2 (nbs 0) b (f b))))))) = _
  cases h0 : nbs 0 <;> cases h3 : nbs 3 <;> cases h1 : nbs 1 <;> cases h2 : nbs 2 <;> simp [List.filterMap, h0, h1, h2, h3, ob2]
def bJ (F : FV) (S : Nat → Int32) (du : Nat → Nat) (k had dep : Nat) (tk : Nat → Bool) (path : Nat → Nat) (b : Nat × Nat × (Nat → Nat)) (j : Nat) : Nat × Nat × (Nat → Nat) := if frA F S j then bSr F S du k j (had + if tk j then 0 else du j) (dep + 1) (fun t => tk t || decide (t = j)) (fun q => if q = dep then j else path q) b else b
theorem fo_foA {F : FV} {S : Nat → Int32} {du : Nat → Nat} {k s had dep : Nat} {tk : Nat → Bool} {path : Nat → Nat} {b : Nat × Nat × (Nat → Nat)} (hF : okF F) (hs : s < nF F) : fo (bStp F S du k s had dep tk path) b 4 = foA (fun b j => if adjN F.1 F.2.1 s j then bJ F S du k had dep tk path b j else b) b (nF F) := by
  have e1 := fo_l (bJ F S du k had dep tk path) (nbF F s) b
  have e2 := foA_l (bJ F S du k had dep tk path) (adjN F.1 F.2.1 s) b (nF F)
  have e3 := adj_d F.1 (by have := hF.2.1; omega) F.2.1 (by have := hF.2.2.2.1; omega) s hs
  rw [e2]
  show fo (fun b d => ob2 (nbF F s d) b (bJ F S du k had dep tk path b)) b 4 = _
  rw [e1]
  show (List.filterMap (nbN F.1 F.2.1 s) [0, 3, 1, 2]).foldl _ b = _
  rw [← e3]; rfl
theorem oI_eq {o : Option Nat} {j : Nat} (hj : j < 36) (ho : ∀ u, o = some u → u < 36) : oI o = nI j ↔ o = some j := by
  cases o with
  | none => exact ⟨fun e => absurd e (fun e => nI_pos (n := j) (by omega) (by rw [← e]; decide)), fun e => by cases e⟩
  | some u =>
    have := ho u rfl
    constructor
    · intro e; rw [nI_inj (by omega) (by omega) (show nI u = nI j from e)]
    · intro e; cases e; rfl
def BM (g : eH) (b : Nat × Nat × (Nat → Nat)) : Prop := gI g 73 35 = nI b.1 ∧ gI g 73 34 = nI b.2.1 ∧ ∀ q, q < b.2.1 → gI g 90 q = nI (b.2.2 q)
def PM (g : eH) (dep : Nat) (path : Nat → Nat) : Prop := ∀ q, q < dep → gI g 89 q = nI (path q)
def gwW (j k : Nat) : Prop := (j = 73 ∧ (k = 34 ∨ k = 35)) ∨ j = 89 ∨ j = 90
def SM (g : eH) (F : FV) (S : Nat → Int32) : Prop := RefsOK g ∧ MF g F ∧ MS g 76 0 S
theorem SM_only {g g' : eH} {F : FV} {S : Nat → Int32} (o : only gwW g g') (h : SM g F S) : SM g' F S := ⟨only_refs o h.1, MF_only o (fun k a => by unfold gwW; omega) (fun k => by unfold gwW; omega) h.2.1, MS_only o (fun k => by unfold gwW; omega) h.2.2⟩
theorem gat_N {P : Option eH → Prop} {rec : eH → Nat → Int32 → Int32 → Int32 → Int64 → Int32 → Option eH} {k66 : eH → Nat → Int32 → Int32 → Int32 → Int64 → Int32 → Option eH} {g : eH} {had dep : Nat} {path : Nat → Nat} {v1 v3 : Int32} {v4 : Int64} (hR : RefsOK g) (hd : dep ≤ 6) (hp : PM g dep path) (y : ∀ g', only gwW g g' → BM g' (had, dep, path) → PM g' dep path → P (k66 g' 73 v1 (nI dep) v3 v4 (nI had))) : P (f_X11_gathers_o_L40 LF rec e_fu k66 (sI (sI g 73 35 (nI had)) 73 34 (nI dep)) 73 v1 (nI dep) v3 v4 (nI had) 0) := by
  have o0 : only gwW g (sI (sI g 73 35 (nI had)) 73 34 (nI dep)) := only_trans (only_sI (by unfold gwW; omega)) (only_sI (by unfold gwW; omega))
  refine lpF (N := dep) (s := sI (sI g 73 35 (nI had)) 73 34 (nI dep)) (run := fun fu (g : eH) i => f_X11_gathers_o_L40 LF rec fu k66 g 73 v1 (nI dep) v3 v4 (nI had) (nI i)) (Inv := fun i g' => gI g' 73 35 = nI had ∧ gI g' 73 34 = nI dep ∧ (∀ q, q < i → gI g' 90 q = nI (path q)) ∧ PM g' dep path ∧ only gwW g g') (Post := P) (by omega) ⟨by rw [gI_sI, if_neg (by omega), gI_sI, if_pos ⟨rfl, rfl⟩], by rw [gI_sI, if_pos ⟨rfl, rfl⟩], fun q hq => absurd hq (Nat.not_lt_zero q), fun q hq => by rw [gI_sI, if_neg (by omega), gI_sI, if_neg (by omega)]; exact hp q hq, o0⟩ ?_ ?_
  · rintro fu g' ⟨g1, g2, g3, g4, g5⟩
    show P (f_X11_gathers_o_L40 LF rec (fu + 1) k66 g' 73 v1 (nI dep) v3 v4 (nI had) (nI dep))
    unfold f_X11_gathers_o_L40
    rw [if_pos (nI_le (Nat.le_refl _) (by omega))]
    exact y g' g5 ⟨g1, g2, g3⟩ g4
  · rintro i fu g' hi ⟨g1, g2, g3, g4, g5⟩
    have hR' := only_refs g5 hR
    have g4 : PM g' dep path := g4
    refine Or.inr ⟨sI g' 90 i (nI (path i)), ⟨by rw [gI_sI, if_neg (by omega)]; exact g1, by rw [gI_sI, if_neg (by omega)]; exact g2, fun q hq => ?_, fun q hq => by rw [gI_sI, if_neg (by omega)]; exact g4 q hq, only_trans g5 (only_sI (by unfold gwW; omega))⟩, fun z hz => ?_⟩
    · rw [gI_sI]
      by_cases e : q = i
      · rw [if_pos ⟨rfl, e⟩, e]
      · rw [if_neg (fun x => e x.2)]; exact g3 q (by omega)
    · show f_X11_gathers_o_L40 LF rec (fu + 1) k66 g' 73 v1 (nI dep) v3 v4 (nI had) (nI i) = z
      unfold f_X11_gathers_o_L40
      rw [if_neg (nI_ge hi (by omega)), if_pos iO_73, r_73_33 hR', Option.bind_some, r_73_32 hR', Option.bind_some, iA_89, if_pos (in_nI (by omega) (by decide)), iA_90, if_pos (in_nI (by omega) (by decide)), nI_clamp (by omega), g4 i hi, Option.bind_some, nI_p1]
      exact hz
theorem gat_s {rec : eH → Nat → Int32 → Int32 → Int32 → Int64 → Int32 → Option eH} {n : Nat} {k209 : eH → Option eH} {h : eH} {v0 : Nat} {v1 v2 v3 v6 v7 : Int32} {v4 : Int64} : f_X11_gathers_o_L74 LF rec (n + 1) k209 h v0 v1 v2 v3 v4 v6 v7 = (if isO LF v0 11 = true then (f_X11_spots LF h v0).bind fun r19 => if r19 ≤ v7 then k209 h else (f_X11_beside LF h v0 v1 0).bind fun r21 => if r21 = v7 then f_X11_gathers_o_J132 LF rec (f_X11_gathers_o_L74 LF rec n k209) k209 h v0 v1 v2 v3 v4 v6 v7 1 else (f_X11_beside LF h v0 v1 1).bind fun r38 => if r38 = v7 then f_X11_gathers_o_J132 LF rec (f_X11_gathers_o_L74 LF rec n k209) k209 h v0 v1 v2 v3 v4 v6 v7 1 else (f_X11_beside LF h v0 v1 2).bind fun r40 => if r40 = v7 then f_X11_gathers_o_J132 LF rec (f_X11_gathers_o_L74 LF rec n k209) k209 h v0 v1 v2 v3 v4 v6 v7 1 else (f_X11_beside LF h v0 v1 3).bind fun r42 => if r42 = v7 then f_X11_gathers_o_J132 LF rec (f_X11_gathers_o_L74 LF rec n k209) k209 h v0 v1 v2 v3 v4 v6 v7 1 else f_X11_gathers_o_J132 LF rec (f_X11_gathers_o_L74 LF rec n k209) k209 h v0 v1 v2 v3 v4 v6 v7 0 else none) := rfl
theorem gat_L {rec : eH → Nat → Int32 → Int32 → Int32 → Int64 → Int32 → Option eH} {g : eH} {lim k s had dep : Nat} {F : FV} {S : Nat → Int32} {du : Nat → Nat} {tk : Nat → Bool} {tkm : Int64} {path : Nat → Nat} {b : Nat × Nat × (Nat → Nat)} (hF : okF F) (hdu : ∀ j, j < 36 → S j = nI (du j)) (hd99 : ∀ j, du j ≤ 99) (hs : s < nF F) (hl : dep + (k + 1) = lim) (h6 : lim ≤ 6) (hh : had + 99 * (k + 1) ≤ 600) (htk : ∀ j, j < 36 → tb tkm j = tk j) (hS : SM g F S) (hB : BM g b) (hp : PM g dep path) (hb : b.1 ≤ 600 ∧ b.2.1 ≤ 6) (ih : ∀ (g : eH) (s had dep : Nat) (tk : Nat → Bool) (tkm : Int64) (path : Nat → Nat) (b : Nat × Nat × (Nat → Nat)), s < nF F → dep + k = lim → had + 99 * k ≤ 600 → (∀ j, j < 36 → tb tkm j = tk j) → SM g F S → BM g b → PM g dep path → (b.1 ≤ 600 ∧ b.2.1 ≤ 6) → ∃ g', rec g 73 (nI s) (nI dep) (nI lim) tkm (nI had) = some g' ∧ BM g' (bSr F S du k s had dep tk path b) ∧ PM g' dep path ∧ only gwW g g') : ∃ g', f_X11_gathers_o_L74 LF rec e_fu (fun (h44 : eH) => some h44) g 73 (nI s) (nI dep) (nI lim) tkm (nI had) 0 = some g' ∧ BM g' (fo (bStp F S du k s had dep tk path) b 4) ∧ PM g' dep path ∧ only gwW g g' := by
  have h36 := nF_le hF
  rw [fo_foA hF hs]
  have bok : ∀ b j, (b.1 ≤ 600 ∧ b.2.1 ≤ 6) → ((bJ F S du k had dep tk path b j).1 ≤ 600 ∧ (bJ F S du k had dep tk path b j).2.1 ≤ 6) := fun b j hb => by
    unfold bJ
    cases frA F S j with
    | false => exact hb
    | true =>
      have hj := hd99 j
      have hl2 : (if tk j = true then 0 else du j) ≤ 99 := by split <;> omega
      exact bSr_ok hd99 k j _ (dep + 1) _ _ b (by omega) (by omega) hb
  have fok : ∀ n, (foA (fun b j => if adjN F.1 F.2.1 s j then bJ F S du k had dep tk path b j else b) b n).1 ≤ 600 ∧ (foA (fun b j => if adjN F.1 F.2.1 s j then bJ F S du k had dep tk path b j else b) b n).2.1 ≤ 6 := fun n => by
    induction n with
    | zero => exact hb
    | succ n ihn =>
      show (if adjN F.1 F.2.1 s n = true then bJ F S du k had dep tk path _ n else _ : Nat × Nat × (Nat → Nat)).1 ≤ 600 ∧ (if adjN F.1 F.2.1 s n = true then bJ F S du k had dep tk path _ n else _ : Nat × Nat × (Nat → Nat)).2.1 ≤ 6
      cases adjN F.1 F.2.1 s n with
      | false => exact ihn
      | true => exact bok _ n ihn
  refine lpF (N := nF F) (s := g) (run := fun fu (g : eH) i => f_X11_gathers_o_L74 LF rec fu (fun (h44 : eH) => some h44) g 73 (nI s) (nI dep) (nI lim) tkm (nI had) (nI i)) (Inv := fun i g' => BM g' (foA (fun b j => if adjN F.1 F.2.1 s j then bJ F S du k had dep tk path b j else b) b i) ∧ PM g' dep path ∧ only gwW g g') (Post := fun r => ∃ g', r = some g' ∧ BM g' (foA (fun b j => if adjN F.1 F.2.1 s j then bJ F S du k had dep tk path b j else b) b (nF F)) ∧ PM g' dep path ∧ only gwW g g') (by omega) ⟨hB, hp, only_rfl⟩ ?_ ?_
  · rintro fu g' ⟨g1, g2, g3⟩
    refine ⟨g', ?_, g1, g2, g3⟩
    show f_X11_gathers_o_L74 LF rec (fu + 1) _ g' 73 (nI s) (nI dep) (nI lim) tkm (nI had) (nI (nF F)) = _
    rw [gat_s, if_pos iO_73, spots_M (SM_only g3 hS).2.1, Option.bind_some, if_pos (nI_le (Nat.le_refl _) (by omega))]
  · rintro j fu g' hi ⟨g1, g2, g3⟩
    have g2 : PM g' dep path := g2
    have hS' := SM_only g3 hS
    have nx : foA (fun b j => if adjN F.1 F.2.1 s j then bJ F S du k had dep tk path b j else b) b (j + 1) = if adjN F.1 F.2.1 s j = true then bJ F S du k had dep tk path (foA (fun b j => if adjN F.1 F.2.1 s j then bJ F S du k had dep tk path b j else b) b j) j else foA (fun b j => if adjN F.1 F.2.1 s j then bJ F S du k had dep tk path b j else b) b j := rfl
    have fj := fok j
    generalize foA (fun b j => if adjN F.1 F.2.1 s j then bJ F S du k had dep tk path b j else b) b (j + 1) = b2 at nx ⊢
    generalize foA (fun b j => if adjN F.1 F.2.1 s j then bJ F S du k had dep tk path b j else b) b j = b1 at nx g1 fj
    have bs : ∀ d, d < 4 → f_X11_beside LF g' 73 (nI s) (nI d) = some (oI (nbF F s d)) := fun d hd => by rw [← nb_eq hF hs hd]; exact beside_nb hF hS'.2.1 s d
    have oe : ∀ d, d < 4 → (oI (nbF F s d) = nI j ↔ nbN F.1 F.2.1 s d = some j) := fun d hd => oI_eq (by omega) (fun u hu => by have := (nbF_lt hF hs hd hu).1; omega)
    have sel : f_X11_gathers_o_L74 LF rec (fu + 1) (fun (h44 : eH) => some h44) g' 73 (nI s) (nI dep) (nI lim) tkm (nI had) (nI j) = f_X11_gathers_o_J132 LF rec (f_X11_gathers_o_L74 LF rec fu (fun (h44 : eH) => some h44)) (fun (h44 : eH) => some h44) g' 73 (nI s) (nI dep) (nI lim) tkm (nI had) (nI j) (if adjN F.1 F.2.1 s j then 1 else 0) := by
      rw [gat_s, if_pos iO_73, spots_M hS'.2.1, Option.bind_some, if_neg (nI_ge hi (by omega)), show f_X11_beside LF g' 73 (nI s) 0 = some (oI (nbF F s 0)) from bs 0 (by omega), Option.bind_some, show f_X11_beside LF g' 73 (nI s) 1 = some (oI (nbF F s 1)) from bs 1 (by omega), Option.bind_some, show f_X11_beside LF g' 73 (nI s) 2 = some (oI (nbF F s 2)) from bs 2 (by omega), Option.bind_some, show f_X11_beside LF g' 73 (nI s) 3 = some (oI (nbF F s 3)) from bs 3 (by omega), Option.bind_some]
      unfold adjN
      by_cases q0 : nbN F.1 F.2.1 s 0 = some j
      · rw [if_pos ((oe 0 (by omega)).mpr q0), decide_eq_true q0]; rfl
      · rw [if_neg (fun w => q0 ((oe 0 (by omega)).mp w)), decide_eq_false q0]
        by_cases q1 : nbN F.1 F.2.1 s 1 = some j
        · rw [if_pos ((oe 1 (by omega)).mpr q1), decide_eq_true q1]; rfl
        · rw [if_neg (fun w => q1 ((oe 1 (by omega)).mp w)), decide_eq_false q1]
          by_cases q2 : nbN F.1 F.2.1 s 2 = some j
          · rw [if_pos ((oe 2 (by omega)).mpr q2), decide_eq_true q2]; rfl
          · rw [if_neg (fun w => q2 ((oe 2 (by omega)).mp w)), decide_eq_false q2]
            by_cases q3 : nbN F.1 F.2.1 s 3 = some j
            · rw [if_pos ((oe 3 (by omega)).mpr q3), decide_eq_true q3]; rfl
            · rw [if_neg (fun w => q3 ((oe 3 (by omega)).mp w)), decide_eq_false q3]; rfl
    have skip : (b2 = b1) → (∀ k74 : eH → Nat → Int32 → Int32 → Int32 → Int64 → Int32 → Int32 → Option eH, f_X11_gathers_o_J132 LF rec k74 (fun (h44 : eH) => some h44) g' 73 (nI s) (nI dep) (nI lim) tkm (nI had) (nI j) (if adjN F.1 F.2.1 s j then 1 else 0) = k74 g' 73 (nI s) (nI dep) (nI lim) tkm (nI had) (nI (j + 1))) → (∃ g'', (f_X11_gathers_o_L74 LF rec (fu + 1) (fun (h44 : eH) => some h44) g' 73 (nI s) (nI dep) (nI lim) tkm (nI had) (nI j) = some g'' ∧ BM g'' (foA (fun b j => if adjN F.1 F.2.1 s j then bJ F S du k had dep tk path b j else b) b (nF F)) ∧ PM g'' dep path ∧ only gwW g g'')) ∨ ∃ s', (BM s' b2 ∧ PM s' dep path ∧ only gwW g s') ∧ ∀ z, f_X11_gathers_o_L74 LF rec fu (fun (h44 : eH) => some h44) s' 73 (nI s) (nI dep) (nI lim) tkm (nI had) (nI (j + 1)) = z → f_X11_gathers_o_L74 LF rec (fu + 1) (fun (h44 : eH) => some h44) g' 73 (nI s) (nI dep) (nI lim) tkm (nI had) (nI j) = z := fun e1 e2 =>
      Or.inr ⟨g', ⟨by rw [e1]; exact g1, g2, g3⟩, fun z hz => by rw [sel, e2]; exact hz⟩
    cases ha : adjN F.1 F.2.1 s j with
    | false =>
      rw [ha, if_neg (by decide)] at nx
      refine skip nx (fun k74 => ?_)
      rw [ha]
      unfold f_X11_gathers_o_J132
      rw [if_pos (show (if false = true then (1 : Int32) else 0) = 0 from rfl), nI_p1]
    | true =>
      rw [ha, if_pos rfl] at nx
      unfold bJ at nx
      have fr := isFree_k (t := j) hF hS'.1 (Or.inl rfl) hS'.2.1 hS'.2.2 (by omega)
      cases hf : frA F S j with
      | false =>
        rw [hf, if_neg (by decide)] at nx
        rw [hf] at fr
        refine skip nx (fun k74 => ?_)
        rw [ha]
        unfold f_X11_gathers_o_J132
        rw [if_neg (show ¬ (if true = true then (1 : Int32) else 0) = 0 from i10), if_pos iO_73, r_73_7 hS'.1, Option.bind_some, fr, Option.bind_some, if_pos (show (if false = true then (1 : Int32) else 0) = 0 from rfl), nI_p1]
      | true =>
        rw [hf, if_pos rfl] at nx
        rw [hf] at fr
        have oj : only gwW g' (sI g' 89 dep (nI j)) := only_sI (by unfold gwW; omega)
        have hSj := SM_only oj hS'
        have BMj : BM (sI g' 89 dep (nI j)) b1 := ⟨(o_I (W := fun j _ => j = 89) (only_sI rfl) (by omega)).trans g1.1, (o_I (W := fun j _ => j = 89) (only_sI rfl) (by omega)).trans g1.2.1, fun q hq => (o_I (W := fun j _ => j = 89) (only_sI rfl) (by omega)).trans (g1.2.2 q hq)⟩
        have PMj : PM (sI g' 89 dep (nI j)) (dep + 1) (fun q => if q = dep then j else path q) := fun q hq => by
          rw [gI_sI]
          show _ = nI (if q = dep then j else path q)
          by_cases e : q = dep
          · rw [if_pos ⟨rfl, e⟩, if_pos e]
          · rw [if_neg (fun x => e x.2), if_neg e]; exact g2 q (by omega)
        have hj99 := hd99 j
        have hl2 : (if tk j = true then 0 else du j) ≤ 99 := by split <;> omega
        have tj : ∀ t, t < 36 → tb (tkm ||| f_X10_bit (nI j)) t = (tk t || decide (t = j)) := fun t ht => by rw [tb_or, htk t ht, bit_tb (by omega)]
        obtain ⟨g5, y1, y2, y3, y4⟩ := ih (sI g' 89 dep (nI j)) j (had + if tk j = true then 0 else du j) (dep + 1) (fun t => tk t || decide (t = j)) (tkm ||| f_X10_bit (nI j)) (fun q => if q = dep then j else path q) b1 hi (by omega) (by omega) tj hSj BMj PMj fj
        refine Or.inr ⟨g5, ⟨by rw [nx]; exact y2, fun q hq => ?_, only_trans g3 (only_trans oj y4)⟩, fun z hz => ?_⟩
        · have := y3 q (by omega)
          rw [this]
          show nI (if q = dep then j else path q) = _
          rw [if_neg (by omega)]
        · have hz : f_X11_gathers_o_L74 LF rec fu (fun (h44 : eH) => some h44) g5 73 (nI s) (nI dep) (nI lim) tkm (nI had) (nI (j + 1)) = z := hz
          show f_X11_gathers_o_L74 LF rec (fu + 1) (fun (h44 : eH) => some h44) g' 73 (nI s) (nI dep) (nI lim) tkm (nI had) (nI j) = z
          have e76 : gI (sI g' 89 dep (nI j)) 76 j = nI (du j) := (MS_0 hSj.2.2 (by omega)).trans (hdu j (by omega))
          have sb := sar_bit tkm (s := j) (by omega)
          rw [sel, ha]
          unfold f_X11_gathers_o_J132
          rw [if_neg (show ¬ (if true = true then (1 : Int32) else 0) = 0 from i10), if_pos iO_73, r_73_7 hS'.1, Option.bind_some, fr, Option.bind_some, if_neg (show ¬ (if true = true then (1 : Int32) else 0) = 0 from i10), r_73_32 hS'.1, Option.bind_some, iA_89, if_pos (in_nI (by omega) (by decide)), nI_clamp (show dep < 2 ^ 31 by omega), sh1 (by omega), show nI dep + 1 = nI (dep + 1) from nI_add dep 1]
          cases ht : tk j with
          | true =>
            rw [ht, if_pos rfl] at y1
            rw [if_pos (sb.mpr (by rw [htk j (by omega)]; exact ht)), show nI had + 0 = nI (had + 0) from nI_add had 0, y1, Option.bind_some, nI_p1]
            exact hz
          | false =>
            rw [ht, if_neg (by decide)] at y1
            rw [if_neg (fun w => by have := sb.mp w; rw [htk j (by omega), ht] at this; cases this), r_73_7 hSj.1, Option.bind_some, iA_76, if_pos (in_nI (by omega) (by decide)), nI_clamp (by omega), e76, nI_add, y1, Option.bind_some, nI_p1]
            exact hz

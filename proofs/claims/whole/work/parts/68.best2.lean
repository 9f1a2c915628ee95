/-! best: the reference's way of it -/
def foA {β : Type} (st : β → Nat → β) (b : β) : Nat → β
  | 0 => b
  | j + 1 => st (foA st b j) j
def adjN (R C s j : Nat) : Bool := decide (nbN R C s 0 = some j) || decide (nbN R C s 1 = some j) || decide (nbN R C s 2 = some j) || decide (nbN R C s 3 = some j)
theorem adj_d : ∀ R, R < 7 → ∀ C, C < 7 → ∀ s, s < R * C → (List.range (R * C)).filter (adjN R C s) = [0, 3, 1, 2].filterMap (nbN R C s) := by decide +kernel
theorem foA_l {β : Type} (f : β → Nat → β) (a : Nat → Bool) (b : β) : ∀ n, foA (fun b j => if a j then f b j else b) b n = ((List.range n).filter a).foldl f b
  | 0 => rfl
  | n + 1 => by
    show (if a n then f (foA _ b n) n else foA _ b n) = _
    rw [foA_l f a b n, List.range_succ, List.filter_append, List.foldl_append]
    cases h : a n with
    | false => rw [if_neg (by decide), List.filter_cons_of_neg (by rw [h]; decide)]; rfl
    | true => rw [if_pos rfl, List.filter_cons_of_pos h]; rfl
theorem fo_l {β : Type} (f : β → Nat → β) (nbs : Nat → Option Nat) (b : β) : fo (fun b d => ob2 (nbs d) b (f b)) b 4 = ([0, 3, 1, 2].filterMap nbs).foldl f b := by
  show ob2 (nbs 2) (ob2 (nbs 1) (ob2 (nbs 3) (ob2 (nbs 0) b (f b)) (f (ob2 (nbs 0) b (f b)))) (f (ob2 (nbs 3) (ob2 (nbs 0) b (f b)) (f (ob2 (nbs 0) b (f b)))))) (f (ob2 (nbs 1) (ob2 (nbs 3) (ob2 (nbs 0) b (f b)) (f (ob2 (nbs 0) b (f b)))) (f (ob2 (nbs 3) (ob2 (nbs 0) b (f b)) (f (ob2 (nbs 0) b (f b))))))) = _
  cases h0 : nbs 0 <;> cases h3 : nbs 3 <;> cases h1 : nbs 1 <;> cases h2 : nbs 2 <;> simp [List.filterMap, h0, h1, h2, h3, ob2]
def bJ (F : FV) (S : Nat → Int32) (du : Nat → Nat) (k had dep : Nat) (tk : Nat → Bool) (path : Nat → Nat) (b : Nat × Nat × (Nat → Nat)) (j : Nat) : Nat × Nat × (Nat → Nat) := if frA F S j then bSr F S du k j (had + if tk j then 0 else du j) (dep + 1) (fun t => tk t || decide (t = j)) (fun q => if q = dep then j else path q) b else b
theorem fo_foA {F : FV} {S : Nat → Int32} {du : Nat → Nat} {k s had dep : Nat} {tk : Nat → Bool} {path : Nat → Nat} {b : Nat × Nat × (Nat → Nat)} (hF : okF F) (hs : s < nF F) : fo (bStp F S du k s had dep tk path) b 4 = foA (fun b j => if adjN F.1 F.2.1 s j then bJ F S du k had dep tk path b j else b) b (nF F) := by
  have e1 := fo_l (bJ F S du k had dep tk path) (nbF F s) b
  have e2 := foA_l (bJ F S du k had dep tk path) (adjN F.1 F.2.1 s) b (nF F)
  have e3 := adj_d F.1 (by have := hF.2.1; omega) F.2.1 (by have := hF.2.2.2.1; omega) s hs
  rw [e2]
  show fo (fun b d => ob2 (nbF F s d) b (bJ F S du k had dep tk path b)) b 4 = _
  rw [e1]
  show (List.filterMap (nbN F.1 F.2.1 s) [0, 3, 1, 2]).foldl _ b = _
  rw [← e3]; rfl
theorem oI_eq {o : Option Nat} {j : Nat} (hj : j < 36) (ho : ∀ u, o = some u → u < 36) : oI o = nI j ↔ o = some j := by
  cases o with
  | none => exact ⟨fun e => absurd e (fun e => nI_pos (n := j) (by omega) (by rw [← e]; decide)), fun e => by cases e⟩
  | some u =>
    have := ho u rfl
    constructor
    · intro e; rw [nI_inj (by omega) (by omega) (show nI u = nI j from e)]
    · intro e; cases e; rfl
def BM (g : eH) (b : Nat × Nat × (Nat → Nat)) : Prop := gI g 73 35 = nI b.1 ∧ gI g 73 34 = nI b.2.1 ∧ ∀ q, q < b.2.1 → gI g 90 q = nI (b.2.2 q)
def PM (g : eH) (dep : Nat) (path : Nat → Nat) : Prop := ∀ q, q < dep → gI g 89 q = nI (path q)
def gwW (j k : Nat) : Prop := (j = 73 ∧ (k = 34 ∨ k = 35)) ∨ j = 89 ∨ j = 90
def SM (g : eH) (F : FV) (S : Nat → Int32) : Prop := RefsOK g ∧ MF g F ∧ MS g 76 0 S
theorem SM_only {g g' : eH} {F : FV} {S : Nat → Int32} (o : only gwW g g') (h : SM g F S) : SM g' F S := ⟨only_refs o h.1, MF_only o (fun k a => by unfold gwW; omega) (fun k => by unfold gwW; omega) h.2.1, MS_only o (fun k => by unfold gwW; omega) h.2.2⟩
theorem gat_N {P : Option eH → Prop} {rec : eH → Nat → Int32 → Int32 → Int32 → Int64 → Int32 → Option eH} {k66 : eH → Nat → Int32 → Int32 → Int32 → Int64 → Int32 → Option eH} {g : eH} {had dep : Nat} {path : Nat → Nat} {v1 v3 : Int32} {v4 : Int64} (hR : RefsOK g) (hd : dep ≤ 6) (hp : PM g dep path) (y : ∀ g', only gwW g g' → BM g' (had, dep, path) → PM g' dep path → P (k66 g' 73 v1 (nI dep) v3 v4 (nI had))) : P (f_X11_gathers_o_L40 LF rec e_fu k66 (sI (sI g 73 35 (nI had)) 73 34 (nI dep)) 73 v1 (nI dep) v3 v4 (nI had) 0) := by
  have o0 : only gwW g (sI (sI g 73 35 (nI had)) 73 34 (nI dep)) := only_trans (only_sI (by unfold gwW; omega)) (only_sI (by unfold gwW; omega))
  refine lpF (N := dep) (s := sI (sI g 73 35 (nI had)) 73 34 (nI dep)) (run := fun fu (g : eH) i => f_X11_gathers_o_L40 LF rec fu k66 g 73 v1 (nI dep) v3 v4 (nI had) (nI i)) (Inv := fun i g' => gI g' 73 35 = nI had ∧ gI g' 73 34 = nI dep ∧ (∀ q, q < i → gI g' 90 q = nI (path q)) ∧ PM g' dep path ∧ only gwW g g') (Post := P) (by omega) ⟨by rw [gI_sI, if_neg (by omega), gI_sI, if_pos ⟨rfl, rfl⟩], by rw [gI_sI, if_pos ⟨rfl, rfl⟩], fun q hq => absurd hq (Nat.not_lt_zero q), fun q hq => by rw [gI_sI, if_neg (by omega), gI_sI, if_neg (by omega)]; exact hp q hq, o0⟩ ?_ ?_
  · rintro fu g' ⟨g1, g2, g3, g4, g5⟩
    show P (f_X11_gathers_o_L40 LF rec (fu + 1) k66 g' 73 v1 (nI dep) v3 v4 (nI had) (nI dep))
    unfold f_X11_gathers_o_L40
    rw [if_pos (nI_le (Nat.le_refl _) (by omega))]
    exact y g' g5 ⟨g1, g2, g3⟩ g4
  · rintro i fu g' hi ⟨g1, g2, g3, g4, g5⟩
    have hR' := only_refs g5 hR
    have g4 : PM g' dep path := g4
    refine Or.inr ⟨sI g' 90 i (nI (path i)), ⟨by rw [gI_sI, if_neg (by omega)]; exact g1, by rw [gI_sI, if_neg (by omega)]; exact g2, fun q hq => ?_, fun q hq => by rw [gI_sI, if_neg (by omega)]; exact g4 q hq, only_trans g5 (only_sI (by unfold gwW; omega))⟩, fun z hz => ?_⟩
    · rw [gI_sI]
      by_cases e : q = i
      · rw [if_pos ⟨rfl, e⟩, e]
      · rw [if_neg (fun x => e x.2)]; exact g3 q (by omega)
    · show f_X11_gathers_o_L40 LF rec (fu + 1) k66 g' 73 v1 (nI dep) v3 v4 (nI had) (nI i) = z
      unfold f_X11_gathers_o_L40
      rw [if_neg (nI_ge hi (by omega)), if_pos iO_73, r_73_33 hR', Option.bind_some, r_73_32 hR', Option.bind_some, iA_89, if_pos (in_nI (by omega) (by decide)), iA_90, if_pos (in_nI (by omega) (by decide)), nI_clamp (by omega), g4 i hi, Option.bind_some, nI_p1]
      exact hz

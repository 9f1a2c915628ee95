/-! What was felt, and the places that fit it. -/
def hdS (F : FV) (S : Nat → Int32) (w : Nat) (Q : Nat → Nat → Bool) (d t : Nat) : Bool :=
  if w = 0 then ob (nbF F t ((d + 2) % 4)) (Q d) && frA F S t else if w = 1 then Q d t && !(ob (nbF F t d) (frA F S)) else Q ((d + 5 - w) % 4) t
def hdN (F : FV) (S : Nat → Int32) (H : Nat → Nat) : Nat → Nat → Nat → Bool
  | 0 => fun _ t => frA F S t
  | i + 1 => hdS F S (H i) (hdN F S H i)
theorem fr_far {F : FV} {S : Nat → Int32} {t : Nat} (h : nF F ≤ t) : frA F S t = false := by
  have : kF F t = 0 := by
    by_cases q : kF F t = 0
    · exact q
    · have := kF_lt q; omega
  unfold frA
  rw [this]; simp
theorem hdS_far {F : FV} {S : Nat → Int32} {w : Nat} {Q : Nat → Nat → Bool} (hQ : ∀ d t, nF F ≤ t → Q d t = false) : ∀ d t, nF F ≤ t → hdS F S w Q d t = false := fun d t ht => by
  unfold hdS
  split
  · rw [fr_far ht, Bool.and_false]
  · split
    · rw [hQ d t ht]; rfl
    · exact hQ _ t ht
theorem hdN_far {F : FV} {S : Nat → Int32} {H : Nat → Nat} : ∀ n d t, nF F ≤ t → hdN F S H n d t = false
  | 0, _, _, ht => fr_far ht
  | n + 1, d, t, ht => hdS_far (fun d t ht => hdN_far n d t ht) d t ht
def QC (g : eH) (Q : Nat → Nat → Bool) : Prop := ∀ d, d < 4 → ∀ t, tb (gL g 42 d) t = Q d t
theorem QC_cong {g : eH} {Q Q' : Nat → Nat → Bool} (h : QC g Q) (e : ∀ d, d < 4 → ∀ t, Q d t = Q' d t) : QC g Q' := fun d hd t => (h d hd t).trans (e d hd t)
def mixQ (i : Nat) (A C : Nat → Nat → Bool) (d t : Nat) : Bool := if d < i then A d t else C d t
theorem mix_1 {i d : Nat} {A C : Nat → Nat → Bool} (h : d < i) (t : Nat) : mixQ i A C d t = A d t := by unfold mixQ; rw [if_pos h]
theorem mix_0 {i d : Nat} {A C : Nat → Nat → Bool} (h : ¬ d < i) (t : Nat) : mixQ i A C d t = C d t := by unfold mixQ; rw [if_neg h]
theorem o42 {g : eH} {d : Nat} {v : Int64} : only csc g (sL g 42 d v) := only_sL (by unfold csc; omega)
theorem goAll_C {h g0 : eH} {X : AX} {B p : Nat} {Q : Nat → Nat → Bool} {fr : Int64} (hc : CI h X) (ho : okX B X) (hp : CF h p (xF X)) (hfr : ∀ k, tb fr k = frA (xF X) (xS X) k) (hQ : ∀ d t, nF (xF X) ≤ t → Q d t = false) (og : only csc h g0) (hq : QC g0 Q) : ∃ g, f_X0_goOnAll LF g0 40 p fr = some g ∧ only csc h g ∧ QC g (hdS (xF X) (xS X) 0 Q) := by
  unfold f_X0_goOnAll
  refine lpF (N := 4) (s := g0) (run := fun fu (g : eH) i => f_X0_goOnAll_L3 LF fu (fun (h11 : eH) => some h11) g 40 p fr (nI i)) (Inv := fun i g => only csc h g ∧ QC g (mixQ i (hdS (xF X) (xS X) 0 Q) Q)) (Post := fun r => ∃ g, r = some g ∧ only csc h g ∧ QC g (hdS (xF X) (xS X) 0 Q)) (by decide) ⟨og, QC_cong hq (fun d hd t => (mix_0 (by omega) t).symm)⟩ ?_ ?_
  · rintro fu g ⟨g1, g2⟩
    refine ⟨g, ?_, g1, QC_cong g2 (fun d hd t => mix_1 hd t)⟩
    show f_X0_goOnAll_L3 LF (fu + 1) _ g 40 p fr (nI 4) = _
    unfold f_X0_goOnAll_L3
    rw [if_pos (by decide)]
  · rintro i fu g hi ⟨g1, g2⟩
    have g1 : only csc h g := g1
    have hRg := only_refs g1 hc.1
    have hpg : CF g p (xF X) := CF_only g1 (fun j k a b => by unfold csc; omega) hp
    have e42 : ∀ t, tb (gL g 42 i) t = Q i t := fun t => by rw [g2 i hi t, mix_0 (by omega)]
    obtain ⟨y, y1, y2⟩ := moved_C ho.1 hpg (x := gL g 42 i) (fun k hk => by rw [e42]; exact hQ i k hk) hi
    refine Or.inr ⟨sL g 42 i (y &&& fr), ⟨only_trans g1 o42, fun d hd t => ?_⟩, fun z hz => ?_⟩
    · rw [gL_sL]
      by_cases e : d = i
      · rw [if_pos ⟨rfl, e⟩, mix_1 (by omega), tb_and, hfr, e]
        unfold hdS
        rw [if_pos rfl]
        rcases Nat.lt_or_ge t (nF (xF X)) with ht | ht
        · rw [y2 t ht]
          congr 1
          cases nbF (xF X) t ((i + 2) % 4) with
          | none => rfl
          | some u => exact e42 u
        · rw [fr_far ht, Bool.and_false, Bool.and_false]
      · rw [if_neg (fun q => e q.2), g2 d hd t]
        by_cases q : d < i
        · rw [mix_1 q, mix_1 (by omega)]
        · rw [mix_0 q, mix_0 (by omega)]
    · show f_X0_goOnAll_L3 LF (fu + 1) _ g 40 p fr (nI i) = z
      unfold f_X0_goOnAll_L3
      rw [if_neg (show ¬ (4 : Int32) ≤ nI i from nI_ge (b := 4) hi (by decide)), if_pos iO_40, r_40_1 hRg, Option.bind_some, Option.bind_some, iA_42, if_pos (in_nI hi (by decide)), if_pos (p_O hpg), nI_clamp (by omega), y1, Option.bind_some, if_pos (show (!decide (nI i < 0) && decide (i < 4)) = true by have := in_nI (k := i) hi (by decide); rwa [nI_clamp (by omega)] at this), nI_p1]
      exact hz
theorem canGo_C {g : eH} {F : FV} {p d : Nat} {S : Nat → Int32} {fr : Int64} (hF : okF F) (hp : CF g p F) (hfr : ∀ k, tb fr k = frA F S k) (hd : d < 4) : ∃ y, f_X0_canGo LF g p fr (nI d) = some y ∧ ∀ t, t < nF F → tb y t = ob (nbF F t d) (frA F S) := by
  obtain ⟨y, y1, y2⟩ := moved_C hF hp (x := fr) (d := (d + 2) % 4) (fun k hk => by rw [hfr]; exact fr_far hk) (by omega)
  refine ⟨y, ?_, fun t ht => ?_⟩
  · unfold f_X0_canGo
    rw [if_pos (p_O hp), show (nI d + 2) &&& 3 = nI ((d + 2) % 4) from and3 (b := 2) hd (by omega), y1, Option.bind_some]
  · rw [y2 t ht, show ((d + 2) % 4 + 2) % 4 = d by omega]
    cases nbF F t d with
    | none => rfl
    | some u => exact hfr u
theorem strAll_C {h g0 : eH} {X : AX} {B p : Nat} {Q : Nat → Nat → Bool} {fr : Int64} (hc : CI h X) (ho : okX B X) (hp : CF h p (xF X)) (hfr : ∀ k, tb fr k = frA (xF X) (xS X) k) (hQ : ∀ d t, nF (xF X) ≤ t → Q d t = false) (og : only csc h g0) (hq : QC g0 Q) : ∃ g, f_X0_strikeAll LF g0 40 p fr = some g ∧ only csc h g ∧ QC g (hdS (xF X) (xS X) 1 Q) := by
  have h36 := nF_le ho.1
  unfold f_X0_strikeAll
  refine lpF (N := 4) (s := g0) (run := fun fu (g : eH) i => f_X0_strikeAll_L3 LF fu (fun (h9 : eH) => some h9) g 40 p fr (nI i)) (Inv := fun i g => only csc h g ∧ QC g (mixQ i (hdS (xF X) (xS X) 1 Q) Q)) (Post := fun r => ∃ g, r = some g ∧ only csc h g ∧ QC g (hdS (xF X) (xS X) 1 Q)) (by decide) ⟨og, QC_cong hq (fun d hd t => (mix_0 (by omega) t).symm)⟩ ?_ ?_
  · rintro fu g ⟨g1, g2⟩
    refine ⟨g, ?_, g1, QC_cong g2 (fun d hd t => mix_1 hd t)⟩
    show f_X0_strikeAll_L3 LF (fu + 1) _ g 40 p fr (nI 4) = _
    unfold f_X0_strikeAll_L3
    rw [if_pos (by decide)]
  · rintro i fu g hi ⟨g1, g2⟩
    have g1 : only csc h g := g1
    have hRg := only_refs g1 hc.1
    have hpg : CF g p (xF X) := CF_only g1 (fun j k a b => by unfold csc; omega) hp
    have e42 : ∀ t, tb (gL g 42 i) t = Q i t := fun t => by rw [g2 i hi t, mix_0 (by omega)]
    obtain ⟨y, y1, y2⟩ := canGo_C ho.1 hpg hfr hi
    refine Or.inr ⟨sL g 42 i (gL g 42 i &&& (y ^^^ (-1))), ⟨only_trans g1 o42, fun d hd t => ?_⟩, fun z hz => ?_⟩
    · rw [gL_sL]
      by_cases e : d = i
      · rw [if_pos ⟨rfl, e⟩, mix_1 (by omega), tb_and, e42, e]
        unfold hdS
        rw [if_neg (by decide), if_pos rfl]
        rcases Nat.lt_or_ge t (nF (xF X)) with ht | ht
        · rw [tb_not _ (by omega), y2 t ht]
        · rw [hQ i t ht]; rfl
      · rw [if_neg (fun q => e q.2), g2 d hd t]
        by_cases q : d < i
        · rw [mix_1 q, mix_1 (by omega)]
        · rw [mix_0 q, mix_0 (by omega)]
    · show f_X0_strikeAll_L3 LF (fu + 1) _ g 40 p fr (nI i) = z
      unfold f_X0_strikeAll_L3
      rw [if_neg (show ¬ (4 : Int32) ≤ nI i from nI_ge (b := 4) hi (by decide)), if_pos iO_40, r_40_1 hRg, Option.bind_some, iA_42, if_pos (in_nI hi (by decide)), y1, Option.bind_some, nI_clamp (by omega), Option.bind_some, nI_p1]
      exact hz
theorem swAll_C {h g0 : eH} {n : Nat} {Q : Nat → Nat → Bool} (hR : RefsOK h) (hn : n ≤ 3) (og : only csc h g0) (hq : QC g0 Q) : ∃ g, f_X0_swingAll LF g0 40 (nI n) = some g ∧ only csc h g ∧ QC g (fun d t => Q ((d + 4 - n) % 4) t) := by
  unfold f_X0_swingAll
  refine lpF (N := n) (s := g0) (run := fun fu (g : eH) i => f_X0_swingAll_L2 LF fu (fun (h34 : eH) => some h34) g 40 (nI n) (nI i)) (Inv := fun i g => only csc h g ∧ QC g (fun d t => Q ((d + 4 - i) % 4) t)) (Post := fun r => ∃ g, r = some g ∧ only csc h g ∧ QC g (fun d t => Q ((d + 4 - n) % 4) t)) (by omega) ⟨og, QC_cong hq (fun d hd t => by rw [show (d + 4 - 0) % 4 = d by omega])⟩ ?_ ?_
  · rintro fu g ⟨g1, g2⟩
    refine ⟨g, ?_, g1, g2⟩
    show f_X0_swingAll_L2 LF (fu + 1) _ g 40 (nI n) (nI n) = _
    unfold f_X0_swingAll_L2
    rw [if_pos (nI_le (Nat.le_refl _) (by omega))]
  · rintro i fu g hi ⟨g1, g2⟩
    have g1 : only csc h g := g1
    have hRg := only_refs g1 hR
    have c0 : (0 : Int32).toNatClampNeg = 0 := by decide
    have c1 : (1 : Int32).toNatClampNeg = 1 := by decide
    have c2 : (2 : Int32).toNatClampNeg = 2 := by decide
    have c3 : (3 : Int32).toNatClampNeg = 3 := by decide
    have i0 : inA LF 42 1 0 = true := by rw [iA_42]; decide
    have i1 : inA LF 42 1 1 = true := by rw [iA_42]; decide
    have i2 : inA LF 42 1 2 = true := by rw [iA_42]; decide
    have i3 : inA LF 42 1 3 = true := by rw [iA_42]; decide
    have hA : RefsOK (sL g 42 3 (gL g 42 2)) := hRg
    have hB : ∀ v, RefsOK (sL (sL g 42 3 (gL g 42 2)) 42 2 v) := fun _ => hRg
    have hC : ∀ v u, RefsOK (sL (sL (sL g 42 3 (gL g 42 2)) 42 2 v) 42 1 u) := fun _ _ => hRg
    have e1 : gL (sL g 42 3 (gL g 42 2)) 42 1 = gL g 42 1 := by rw [gL_sL, if_neg (by omega)]
    have e0 : gL (sL (sL g 42 3 (gL g 42 2)) 42 2 (gL g 42 1)) 42 0 = gL g 42 0 := by rw [gL_sL, if_neg (by omega), gL_sL, if_neg (by omega)]
    refine Or.inr ⟨sL (sL (sL (sL g 42 3 (gL g 42 2)) 42 2 (gL g 42 1)) 42 1 (gL g 42 0)) 42 0 (gL g 42 3), ⟨only_trans g1 (only_trans o42 (only_trans o42 (only_trans o42 o42))), fun d hd t => ?_⟩, fun z hz => ?_⟩
    · rcases (show d = 0 ∨ d = 1 ∨ d = 2 ∨ d = 3 by omega) with rfl | rfl | rfl | rfl
      · rw [gL_sL, if_pos ⟨rfl, rfl⟩, g2 3 (by omega) t]
        show Q ((3 + 4 - i) % 4) t = Q ((0 + 4 - (i + 1)) % 4) t
        rw [show (3 + 4 - i) % 4 = (0 + 4 - (i + 1)) % 4 by omega]
      · rw [gL_sL, if_neg (by omega), gL_sL, if_pos ⟨rfl, rfl⟩, g2 0 (by omega) t]
        show Q ((0 + 4 - i) % 4) t = Q ((1 + 4 - (i + 1)) % 4) t
        rw [show (0 + 4 - i) % 4 = (1 + 4 - (i + 1)) % 4 by omega]
      · rw [gL_sL, if_neg (by omega), gL_sL, if_neg (by omega), gL_sL, if_pos ⟨rfl, rfl⟩, g2 1 (by omega) t]
        show Q ((1 + 4 - i) % 4) t = Q ((2 + 4 - (i + 1)) % 4) t
        rw [show (1 + 4 - i) % 4 = (2 + 4 - (i + 1)) % 4 by omega]
      · rw [gL_sL, if_neg (by omega), gL_sL, if_neg (by omega), gL_sL, if_neg (by omega), gL_sL, if_pos ⟨rfl, rfl⟩, g2 2 (by omega) t]
        show Q ((2 + 4 - i) % 4) t = Q ((3 + 4 - (i + 1)) % 4) t
        rw [show (2 + 4 - i) % 4 = (3 + 4 - (i + 1)) % 4 by omega]
    · show f_X0_swingAll_L2 LF (fu + 1) _ g 40 (nI n) (nI i) = z
      unfold f_X0_swingAll_L2
      rw [if_neg (nI_ge hi (by omega)), if_pos iO_40, r_40_1 hRg, Option.bind_some, if_pos i3, Option.bind_some, Option.bind_some, if_pos i2, if_pos i3, c3, c2, Option.bind_some, r_40_1 hA, Option.bind_some, Option.bind_some, if_pos i1, if_pos i2, c1, e1, Option.bind_some, r_40_1 (hB _), Option.bind_some, Option.bind_some, if_pos i0, if_pos i1, c0, e0, Option.bind_some, r_40_1 (hC _ _), Option.bind_some, if_pos i0, Option.bind_some, nI_p1]
      exact hz
theorem find_C {h : eH} {X : AX} {B p : Nat} {fr : Int64} (hc : CI h X) (ho : okX B X) (hp : CF h p (xF X)) (hfr : ∀ k, tb fr k = frA (xF X) (xS X) k) : ∃ g, f_X0_find LF h 40 p fr = some g ∧ only csc h g ∧ QC g (hdN (xF X) (xS X) (xH X).2 (xH X).1) := by
  obtain ⟨g1, f1, f2, f3⟩ := fillL (h := h) fr (by decide) sh_42 (by decide)
  have og1 : only csc h g1 := only_mono (fun j k a => by unfold csc; omega) f3
  obtain ⟨hH1, hH2⟩ := ho.2.2.2.2.2.2.1
  unfold f_X0_find
  rw [if_pos iO_40, r_40_1 hc.1, Option.bind_some, f1, Option.bind_some]
  refine lpF (N := (xH X).1) (s := g1) (run := fun fu (g : eH) i => f_X0_find_L11 LF fu (fun (h22 : eH) => some h22) g 40 p fr (nI i)) (Inv := fun i g => only csc h g ∧ QC g (hdN (xF X) (xS X) (xH X).2 i)) (Post := fun r => ∃ g, r = some g ∧ only csc h g ∧ QC g (hdN (xF X) (xS X) (xH X).2 (xH X).1)) (by omega) ⟨og1, fun d hd t => by rw [f2 d hd]; exact hfr t⟩ ?_ ?_
  · rintro fu g ⟨a1, a2⟩
    have hch := (CI_scr a1 hc).2.2.2.2.2.2.2.1
    refine ⟨g, ?_, a1, a2⟩
    show f_X0_find_L11 LF (fu + 1) _ g 40 p fr (nI (xH X).1) = _
    unfold f_X0_find_L11
    rw [if_pos iO_40, hch.1, if_pos (nI_le (Nat.le_refl _) (by omega))]
  · rintro i fu g hi ⟨a1, a2⟩
    have a1 : only csc h g := a1
    have hRg := only_refs a1 hc.1
    have hch := (CI_scr a1 hc).2.2.2.2.2.2.2.1
    have hw := hH2 i hi
    have far := hdN_far (F := xF X) (S := xS X) (H := (xH X).2) i
    have nx : hdN (xF X) (xS X) (xH X).2 (i + 1) = hdS (xF X) (xS X) ((xH X).2 i) (hdN (xF X) (xS X) (xH X).2 i) := rfl
    have e41 := hch.2 i hi
    have nN : ¬ nI (xH X).1 ≤ nI i := nI_ge hi (by omega)
    have n12 : ¬ (12 : Int32) ≤ nI i := nI_ge (b := 12) (by omega) (by decide)
    generalize (xH X).2 i = w at nx e41 hw
    rcases (show w = 0 ∨ w = 1 ∨ 2 ≤ w by omega) with rfl | rfl | h2
    · obtain ⟨g', x1, x2, x3⟩ := goAll_C hc ho hp hfr far a1 a2
      refine Or.inr ⟨g', ⟨x2, by rw [nx]; exact x3⟩, fun z hz => ?_⟩
      show f_X0_find_L11 LF (fu + 1) _ g 40 p fr (nI i) = z
      unfold f_X0_find_L11
      rw [if_pos iO_40, hch.1, if_neg nN, if_neg n12, r_40_0 hRg, Option.bind_some, iA_41, if_pos (in_nI (N := 12) (by omega) (by decide)), nI_clamp (by omega), e41, if_pos (show nI (cH 0) = 0 by decide), x1, Option.bind_some, nI_p1]
      exact hz
    · obtain ⟨g', x1, x2, x3⟩ := strAll_C hc ho hp hfr far a1 a2
      refine Or.inr ⟨g', ⟨x2, by rw [nx]; exact x3⟩, fun z hz => ?_⟩
      show f_X0_find_L11 LF (fu + 1) _ g 40 p fr (nI i) = z
      unfold f_X0_find_L11
      rw [if_pos iO_40, hch.1, if_neg nN, if_neg n12, r_40_0 hRg, Option.bind_some, iA_41, if_pos (in_nI (N := 12) (by omega) (by decide)), nI_clamp (by omega), e41, if_neg (show ¬ nI (cH 1) = 0 by decide), Option.bind_some, iA_41, if_pos (in_nI (N := 12) (by omega) (by decide)), e41, if_pos (show nI (cH 1) = 4 by decide), x1, Option.bind_some, nI_p1]
      exact hz
    · obtain ⟨g', x1, x2, x3⟩ := swAll_C (n := w - 1) hc.1 (by omega) a1 a2
      have ew : cH w = w - 1 := by unfold cH; rw [if_neg (by omega), if_neg (by omega)]
      rw [ew] at e41
      refine Or.inr ⟨g', ⟨x2, QC_cong x3 (fun d hd t => ?_)⟩, fun z hz => ?_⟩
      · rw [nx]
        unfold hdS
        rw [if_neg (by omega), if_neg (by omega), show (d + 4 - (w - 1)) % 4 = (d + 5 - w) % 4 by omega]
      · show f_X0_find_L11 LF (fu + 1) _ g 40 p fr (nI i) = z
        unfold f_X0_find_L11
        rw [if_pos iO_40, hch.1, if_neg nN, if_neg n12, r_40_0 hRg, Option.bind_some, iA_41, if_pos (in_nI (N := 12) (by omega) (by decide)), nI_clamp (by omega), e41, if_neg (nI_ne0 (by omega) (by omega)), Option.bind_some, iA_41, if_pos (in_nI (N := 12) (by omega) (by decide)), e41, if_neg (show ¬ nI (w - 1) = 4 from fun q => by have := nI_inj (b := 4) (by omega) (by omega) q; omega), Option.bind_some, iA_41, if_pos (in_nI (N := 12) (by omega) (by decide)), e41, x1, Option.bind_some, nI_p1]
        exact hz
/-! how many places, which spots -/
def ctQ (Q : Nat → Nat → Bool) : Nat := fb_ct (Q 0) 36 + fb_ct (Q 1) 36 + fb_ct (Q 2) 36 + fb_ct (Q 3) 36
theorem ct4 (Q : Nat → Nat → Bool) : ∀ n, fb_ct (fun p => Q (p % 4) (p / 4)) (4 * n) = fb_ct (Q 0) n + fb_ct (Q 1) n + fb_ct (Q 2) n + fb_ct (Q 3) n
  | 0 => rfl
  | n + 1 => by
    have ih := ct4 Q n
    rw [show 4 * (n + 1) = 4 * n + 1 + 1 + 1 + 1 by omega, fb_ct_succ, fb_ct_succ, fb_ct_succ, fb_ct_succ, fb_ct_succ, fb_ct_succ, fb_ct_succ, fb_ct_succ, ih]
    rw [show (4 * n) % 4 = 0 by omega, show (4 * n) / 4 = n by omega, show (4 * n + 1) % 4 = 1 by omega, show (4 * n + 1) / 4 = n by omega, show (4 * n + 1 + 1) % 4 = 2 by omega, show (4 * n + 1 + 1) / 4 = n by omega, show (4 * n + 1 + 1 + 1) % 4 = 3 by omega, show (4 * n + 1 + 1 + 1) / 4 = n by omega]
    omega
theorem ct144 (Q : Nat → Nat → Bool) : fb_ct (fun p => Q (p % 4) (p / 4)) 144 = ctQ Q := ct4 Q 36
theorem ctQ_le (Q : Nat → Nat → Bool) : ctQ Q ≤ 144 := by rw [← ct144]; exact fb_ct_le _ _
theorem ctQ_cong {Q Q' : Nat → Nat → Bool} (h : ∀ d, d < 4 → ∀ t, t < 36 → Q d t = Q' d t) : ctQ Q = ctQ Q' := by
  unfold ctQ
  rw [fb_ct_cong (h 0 (by omega)), fb_ct_cong (h 1 (by omega)), fb_ct_cong (h 2 (by omega)), fb_ct_cong (h 3 (by omega))]
def sm4 (f : Nat → Nat) : Nat → Nat
  | 0 => 0
  | n + 1 => sm4 f n + f n
theorem plc_C {g : eH} {Q : Nat → Nat → Bool} (hR : RefsOK g) (hq : QC g Q) (h36 : ∀ d t, 36 ≤ t → Q d t = false) : f_X0_places LF g 40 = some (nI (ctQ Q)) := by
  have e4 : sm4 (fun d => fb_ct (Q d) 36) 4 = ctQ Q := by unfold ctQ; show 0 + fb_ct (Q 0) 36 + fb_ct (Q 1) 36 + fb_ct (Q 2) 36 + fb_ct (Q 3) 36 = _; omega
  rw [← e4]
  unfold f_X0_places
  refine lpF (N := 4) (s := (0 : Int32)) (run := fun fu (q : Int32) i => f_X0_places_L4 LF g fu (fun (w1_5 : Int32) => some w1_5) 40 q (nI i)) (Inv := fun i q => q = nI (sm4 (fun d => fb_ct (Q d) 36) i)) (Post := fun r => r = some (nI (sm4 (fun d => fb_ct (Q d) 36) 4))) (by decide) rfl ?_ ?_
  · rintro fu q rfl
    show f_X0_places_L4 LF g (fu + 1) _ 40 _ (nI 4) = _
    unfold f_X0_places_L4
    rw [if_pos (by decide)]
  · rintro i fu q hi rfl
    have e : f_J13_bitCount_95d88 (gL g 42 i) = nI (fb_ct (Q i) 36) := by
      rw [bitC36 (fun k hk => by rw [hq i hi k]; exact h36 i k hk)]
      congr 1
      exact fb_ct_cong (fun k _ => hq i hi k)
    refine Or.inr ⟨nI (sm4 (fun d => fb_ct (Q d) 36) (i + 1)), rfl, fun z hz => ?_⟩
    have hz : f_X0_places_L4 LF g fu (fun (w1_5 : Int32) => some w1_5) 40 (nI (sm4 (fun d => fb_ct (Q d) 36) i + fb_ct (Q i) 36)) (nI (i + 1)) = z := hz
    show f_X0_places_L4 LF g (fu + 1) _ 40 (nI (sm4 (fun d => fb_ct (Q d) 36) i)) (nI i) = z
    unfold f_X0_places_L4
    rw [if_neg (show ¬ (4 : Int32) ≤ nI i from nI_ge (b := 4) hi (by decide)), if_pos iO_40, r_40_1 hR, Option.bind_some, iA_42, if_pos (in_nI hi (by decide)), nI_clamp (by omega), e, nI_add, nI_p1]
    exact hz
theorem spt_C {g : eH} {Q : Nat → Nat → Bool} (hR : RefsOK g) (hq : QC g Q) : ∃ w, f_X0_spots LF g 40 = some w ∧ ∀ t, tb w t = (Q 0 t || Q 1 t || Q 2 t || Q 3 t) := by
  have c0 : (0 : Int32).toNatClampNeg = 0 := by decide
  have c1 : (1 : Int32).toNatClampNeg = 1 := by decide
  have c2 : (2 : Int32).toNatClampNeg = 2 := by decide
  have c3 : (3 : Int32).toNatClampNeg = 3 := by decide
  have i0 : inA LF 42 1 0 = true := by rw [iA_42]; decide
  have i1 : inA LF 42 1 1 = true := by rw [iA_42]; decide
  have i2 : inA LF 42 1 2 = true := by rw [iA_42]; decide
  have i3 : inA LF 42 1 3 = true := by rw [iA_42]; decide
  refine ⟨(((gL g 42 0) ||| (gL g 42 1)) ||| (gL g 42 2)) ||| (gL g 42 3), ?_, fun t => ?_⟩
  · unfold f_X0_spots
    rw [if_pos iO_40, r_40_1 hR, Option.bind_some, if_pos i0, Option.bind_some, if_pos i1, Option.bind_some, if_pos i2, Option.bind_some, if_pos i3, c0, c1, c2, c3]
  · rw [tb_or, tb_or, tb_or, hq 0 (by omega), hq 1 (by omega), hq 2 (by omega), hq 3 (by omega)]
/-- the places that strike, turned by so many quarters -/
def skQ (F : FV) (S : Nat → Int32) (Q : Nat → Nat → Bool) (q d t : Nat) : Bool := Q d t && !(ob (nbF F t ((d + q) % 4)) (frA F S))
theorem stk_C {g : eH} {F : FV} {S : Nat → Int32} {p q : Nat} {fr : Int64} {Q : Nat → Nat → Bool} (hF : okF F) (hR : RefsOK g) (hp : CF g p F) (hfr : ∀ k, tb fr k = frA F S k) (hq4 : q < 4) (hq : QC g Q) (far : ∀ d t, nF F ≤ t → Q d t = false) : f_X0_strikes LF g 40 p fr (nI q) = some (nI (ctQ (skQ F S Q q))) := by
  have h36 := nF_le hF
  have e4 : sm4 (fun d => fb_ct (skQ F S Q q d) 36) 4 = ctQ (skQ F S Q q) := by unfold ctQ; show 0 + fb_ct (skQ F S Q q 0) 36 + fb_ct (skQ F S Q q 1) 36 + fb_ct (skQ F S Q q 2) 36 + fb_ct (skQ F S Q q 3) 36 = _; omega
  rw [← e4]
  unfold f_X0_strikes
  refine lpF (N := 4) (s := (0 : Int32)) (run := fun fu (a : Int32) i => f_X0_strikes_L6 LF g fu (fun (w5_7 : Int32) => some w5_7) 40 p fr (nI q) a (nI i)) (Inv := fun i a => a = nI (sm4 (fun d => fb_ct (skQ F S Q q d) 36) i)) (Post := fun r => r = some (nI (sm4 (fun d => fb_ct (skQ F S Q q d) 36) 4))) (by decide) rfl ?_ ?_
  · rintro fu a rfl
    show f_X0_strikes_L6 LF g (fu + 1) _ 40 p fr (nI q) _ (nI 4) = _
    unfold f_X0_strikes_L6
    rw [if_pos (by decide)]
  · rintro i fu a hi rfl
    obtain ⟨y, y1, y2⟩ := canGo_C (d := (i + q) % 4) hF hp hfr (by omega)
    have key : ∀ t, tb (gL g 42 i &&& (y ^^^ (-1))) t = skQ F S Q q i t := fun t => by
      unfold skQ
      rw [tb_and, hq i hi t]
      rcases Nat.lt_or_ge t (nF F) with ht | ht
      · rw [tb_not _ (by omega), y2 t ht]
      · rw [far i t ht]; rfl
    have e : f_J13_bitCount_95d88 (gL g 42 i &&& (y ^^^ (-1))) = nI (fb_ct (skQ F S Q q i) 36) := by
      rw [bitC36 (fun k hk => by rw [key]; unfold skQ; rw [far i k (by omega)]; rfl)]
      congr 1
      exact fb_ct_cong (fun k _ => key k)
    refine Or.inr ⟨nI (sm4 (fun d => fb_ct (skQ F S Q q d) 36) (i + 1)), rfl, fun z hz => ?_⟩
    have hz : f_X0_strikes_L6 LF g fu (fun (w5_7 : Int32) => some w5_7) 40 p fr (nI q) (nI (sm4 (fun d => fb_ct (skQ F S Q q d) 36) i + fb_ct (skQ F S Q q i) 36)) (nI (i + 1)) = z := hz
    show f_X0_strikes_L6 LF g (fu + 1) _ 40 p fr (nI q) (nI (sm4 (fun d => fb_ct (skQ F S Q q d) 36) i)) (nI i) = z
    unfold f_X0_strikes_L6
    rw [if_neg (show ¬ (4 : Int32) ≤ nI i from nI_ge (b := 4) hi (by decide)), if_pos iO_40, r_40_1 hR, Option.bind_some, iA_42, if_pos (in_nI hi (by decide)), and3 hi hq4, y1, Option.bind_some, nI_clamp (by omega), e, nI_add, nI_p1]
    exact hz
/-! the reference: a place is four times its spot, and its heading -/
def MQp (g : eH) (a : Nat) (Q : Nat → Nat → Bool) : Prop := ∀ p, p < 144 → gI g a p = if Q (p % 4) (p / 4) then 1 else 0
theorem div4 : ∀ p, p < 144 → nI p / 4 = nI (p / 4) ∧ nI p - nI p / 4 * 4 = nI (p % 4) := by decide +kernel
theorem adv4 : ∀ p, p < 144 → ∀ q, q < 5 → ((nI p + nI q) - (nI p + nI q) / 4 * 4 = nI ((p + q) % 4)) ∧ (1 ≤ q → ((nI p + nI q) - 1) - ((nI p + nI q) - 1) / 4 * 4 = nI ((p + q - 1) % 4)) := by decide +kernel
theorem nar_1 : vp_nar .boolean 1 = 1 := by decide
theorem nar_0 : vp_nar .boolean 0 = 0 := by decide
def tgt (F : FV) (S : Nat → Int32) (w p : Nat) : Option Nat := if w = 0 then (match nbF F (p / 4) (p % 4) with | none => none | some u => if frA F S u then some (4 * u + p % 4) else none) else if w = 1 then (if ob (nbF F (p / 4) (p % 4)) (frA F S) then none else some p) else some (p / 4 * 4 + (p + w - 1) % 4)
theorem tgt_iff {F : FV} {S : Nat → Int32} {Q : Nat → Nat → Bool} {w p' : Nat} (hF : okF F) (far : ∀ d t, nF F ≤ t → Q d t = false) (hw : w < 5) (hp' : p' < 144) : hdS F S w Q (p' % 4) (p' / 4) = true ↔ ∃ p, p < 144 ∧ Q (p % 4) (p / 4) = true ∧ tgt F S w p = some p' := by
  have h36 := nF_le hF
  have inF : ∀ d t, Q d t = true → t < nF F := fun d t q => by
    rcases Nat.lt_or_ge t (nF F) with x | x
    · exact x
    · rw [far d t x] at q; cases q
  unfold hdS tgt
  rcases (show w = 0 ∨ w = 1 ∨ 2 ≤ w by omega) with rfl | rfl | h2
  · rw [if_pos rfl]
    constructor
    · intro h
      rw [Bool.and_eq_true] at h
      obtain ⟨h1, h3⟩ := h
      have hu : p' / 4 < nF F := by
        rcases Nat.lt_or_ge (p' / 4) (nF F) with x | x
        · exact x
        · rw [fr_far x] at h3; cases h3
      cases hn : nbF F (p' / 4) ((p' % 4 + 2) % 4) with
      | none => rw [hn] at h1; cases h1
      | some t =>
        rw [hn] at h1
        have h1 : Q (p' % 4) t = true := h1
        obtain ⟨t1, t2, t3⟩ := nbF_lt hF hu (by omega) hn
        rw [show ((p' % 4 + 2) % 4 + 2) % 4 = p' % 4 by omega] at t2
        refine ⟨4 * t + p' % 4, by omega, ?_, ?_⟩
        · rw [show (4 * t + p' % 4) % 4 = p' % 4 by omega, show (4 * t + p' % 4) / 4 = t by omega]; exact h1
        · rw [show (4 * t + p' % 4) % 4 = p' % 4 by omega, show (4 * t + p' % 4) / 4 = t by omega, if_pos rfl, t2]
          show (if frA F S (p' / 4) then some (4 * (p' / 4) + p' % 4) else none) = some p'
          rw [if_pos h3, show 4 * (p' / 4) + p' % 4 = p' by omega]
    · rintro ⟨p, hp, hq, ht⟩
      rw [if_pos rfl] at ht
      cases hn : nbF F (p / 4) (p % 4) with
      | none => rw [hn] at ht; cases ht
      | some u =>
        rw [hn] at ht
        have ht : (if frA F S u then some (4 * u + p % 4) else none) = some p' := ht
        cases hf : frA F S u with
        | false => rw [hf, if_neg (by decide)] at ht; cases ht
        | true =>
          rw [hf, if_pos rfl] at ht
          have ht : 4 * u + p % 4 = p' := Option.some.inj ht
          obtain ⟨t1, t2, t3⟩ := nbF_lt hF (inF _ _ hq) (by omega) hn
          rw [show p' % 4 = p % 4 by omega, show p' / 4 = u by omega, t2, hf, Bool.and_true]
          exact hq
  · rw [if_neg (by decide), if_pos rfl]
    constructor
    · intro h
      rw [Bool.and_eq_true] at h
      refine ⟨p', hp', h.1, ?_⟩
      rw [if_neg (by decide), if_pos rfl]
      cases ho : ob (nbF F (p' / 4) (p' % 4)) (frA F S) with
      | false => rw [if_neg (by decide)]
      | true => rw [ho] at h; exact absurd h.2 (by decide)
    · rintro ⟨p, hp, hq, ht⟩
      rw [if_neg (by decide), if_pos rfl] at ht
      cases ho : ob (nbF F (p / 4) (p % 4)) (frA F S) with
      | true => rw [ho, if_pos rfl] at ht; cases ht
      | false =>
        rw [ho, if_neg (by decide)] at ht
        have ht : p = p' := Option.some.inj ht
        subst ht
        rw [hq, ho]; rfl
  · rw [if_neg (by omega), if_neg (by omega)]
    constructor
    · intro h
      refine ⟨4 * (p' / 4) + (p' % 4 + 5 - w) % 4, by omega, ?_, ?_⟩
      · rw [show (4 * (p' / 4) + (p' % 4 + 5 - w) % 4) % 4 = (p' % 4 + 5 - w) % 4 by omega, show (4 * (p' / 4) + (p' % 4 + 5 - w) % 4) / 4 = p' / 4 by omega]; exact h
      · rw [if_neg (by omega), if_neg (by omega)]
        congr 1
        rcases (show w = 2 ∨ w = 3 ∨ w = 4 by omega) with rfl | rfl | rfl <;> omega
    · rintro ⟨p, hp, hq, ht⟩
      rw [if_neg (by omega), if_neg (by omega)] at ht
      have ht : p / 4 * 4 + (p + w - 1) % 4 = p' := Option.some.inj ht
      have e1 : (p' % 4 + 5 - w) % 4 = p % 4 := by rcases (show w = 2 ∨ w = 3 ∨ w = 4 by omega) with rfl | rfl | rfl <;> omega
      rw [e1, show p' / 4 = p / 4 by omega]; exact hq
theorem isF_M {g : eH} {F : FV} {S : Nat → Int32} {t d : Nat} (hF : okF F) (hR : RefsOK g) (hm : MF g F) (hS : MS g 76 0 S) (ht : t < nF F) (hd : d < 4) : f_X11_isFree LF g 73 76 (nb F t d) = some (if ob (nbF F t d) (frA F S) then 1 else 0) := by
  have h36 := nF_le hF
  rw [nb_eq hF ht hd]
  cases hn : nbF F t d with
  | none => exact isFree_m
  | some u =>
    have := (nbF_lt hF ht hd hn).1
    exact isFree_k hF hR (Or.inl rfl) hm hS (by omega)
theorem goesBy_M {g : eH} {F : FV} {S : Nat → Int32} {p w : Nat} (hF : okF F) (hR : RefsOK g) (hm : MF g F) (hS : MS g 76 0 S) (hp : p < 144) (ht : p / 4 < nF F) (hw : w < 5) : ∃ g', f_X11_goesBy LF g 73 (nI p) (nI w) = some g' ∧ ((tgt F S w p = none ∧ g' = g) ∨ ∃ p', p' < 144 ∧ tgt F S w p = some p' ∧ g' = sI g 93 p' 1) := by
  have h36 := nF_le hF
  obtain ⟨d1, d2⟩ := div4 p hp
  have isF := isF_M hF hR hm hS ht (show p % 4 < 4 by omega)
  unfold f_X11_goesBy
  rw [if_pos iO_73, d2, d1, beside_nb hF hm, Option.bind_some, r_73_7 hR, Option.bind_some, isF, Option.bind_some]
  rcases (show w = 0 ∨ w = 1 ∨ 2 ≤ w by omega) with rfl | rfl | h2
  · rw [if_pos (show nI 0 ≤ 1 by decide), if_neg (show ¬ nI 0 = 1 by decide)]
    unfold f_X11_goesBy_J69 tgt
    rw [if_pos (show nI 0 = 0 from rfl), if_pos rfl, d2]
    rw [nb_eq hF ht (show p % 4 < 4 by omega)]
    cases hn : nbF F (p / 4) (p % 4) with
    | none => exact ⟨g, rfl, Or.inl ⟨rfl, rfl⟩⟩
    | some u =>
      have hu := (nbF_lt hF ht (by omega) hn).1
      show ∃ g', (if (if frA F S u = true then (1 : Int32) else 0) = 0 then some g else if isO LF 73 11 = true then (gR g 73 39).bind fun b9 => if inA LF b9 2 ((4 * nI u) + nI (p % 4)) = true then (some (sI g b9 ((4 * nI u) + nI (p % 4)).toNatClampNeg (vp_nar .boolean 1))).bind fun h12 => some h12 else none else none) = some g' ∧ (((if frA F S u = true then some (4 * u + p % 4) else none) = none ∧ g' = g) ∨ ∃ p', p' < 144 ∧ (if frA F S u = true then some (4 * u + p % 4) else none) = some p' ∧ g' = sI g 93 p' 1)
      cases hf : frA F S u with
      | false => exact ⟨g, rfl, Or.inl ⟨rfl, rfl⟩⟩
      | true =>
        refine ⟨sI g 93 (4 * u + p % 4) 1, ?_, Or.inr ⟨4 * u + p % 4, by omega, rfl, rfl⟩⟩
        rw [if_neg (show ¬ (if true = true then (1 : Int32) else 0) = 0 from i10), if_pos iO_73, r_73_39 hR, Option.bind_some, show (4 : Int32) * nI u + nI (p % 4) = nI (4 * u + p % 4) by rw [show (4 : Int32) = nI 4 from rfl, pk_mul, nI_add], iA_93, if_pos (in_nI (by omega) (by decide)), nI_clamp (by omega), nar_1, Option.bind_some]
  · rw [if_pos (show nI 1 ≤ 1 by decide), if_pos (show nI 1 = 1 from rfl)]
    have et : tgt F S 1 p = if ob (nbF F (p / 4) (p % 4)) (frA F S) = true then none else some p := by
      unfold tgt
      rw [if_neg (show ¬ (1 : Nat) = 0 by decide), if_pos (show (1 : Nat) = 1 from rfl)]
    rw [et]
    cases ho : ob (nbF F (p / 4) (p % 4)) (frA F S) with
    | false =>
      refine ⟨sI g 93 p 1, ?_, Or.inr ⟨p, hp, rfl, rfl⟩⟩
      rw [if_pos (show (if false = true then (1 : Int32) else 0) = 0 from rfl), r_73_39 hR, Option.bind_some, iA_93, if_pos (in_nI (by omega) (by decide)), nI_clamp (by omega), nar_1, Option.bind_some]
    | true =>
      refine ⟨g, ?_, Or.inl ⟨rfl, rfl⟩⟩
      rw [if_neg (show ¬ (if true = true then (1 : Int32) else 0) = 0 from i10)]
      unfold f_X11_goesBy_J69
      rw [if_neg (show ¬ nI 1 = 0 by decide)]
  · have e := (adv4 p hp w hw).2 (by omega)
    refine ⟨sI g 93 (p / 4 * 4 + (p + w - 1) % 4) 1, ?_, Or.inr ⟨p / 4 * 4 + (p + w - 1) % 4, by omega, ?_, rfl⟩⟩
    · rw [if_neg (show ¬ nI w ≤ 1 from nI_ge (a := 1) (by omega) (by omega)), r_73_39 hR, Option.bind_some, e, show nI (p / 4) * (4 : Int32) + nI ((p + w - 1) % 4) = nI (p / 4 * 4 + (p + w - 1) % 4) by rw [show (4 : Int32) = nI 4 from rfl, pk_mul, nI_add], iA_93, if_pos (in_nI (by omega) (by decide)), nI_clamp (by omega), nar_1, Option.bind_some]
    · unfold tgt
      rw [if_neg (by omega), if_neg (by omega)]
theorem lay_M1 {P : Option eH → Prop} {k64 : eH → Nat → Int32 → Option eH} {h g0 : eH} {v : Int32} {Q : Nat → Nat → Bool} (hR : RefsOK h) (og : only msc h g0) (h92 : MQp g0 92 Q) (y : ∀ g, only msc h g → MQp g 92 Q → (∀ k, k < 144 → gI g 93 k = 0) → P (k64 g 73 v)) : P (f_X11_laysPlaces_L44 LF e_fu k64 g0 73 v 0) := by
  refine lpF (N := 144) (s := g0) (run := fun fu (g : eH) i => f_X11_laysPlaces_L44 LF fu k64 g 73 v (nI i)) (Inv := fun i g => only msc h g ∧ MQp g 92 Q ∧ ∀ k, k < i → gI g 93 k = 0) (Post := P) (by decide) ⟨og, h92, fun k hk => absurd hk (Nat.not_lt_zero k)⟩ ?_ ?_
  · rintro fu g ⟨g1, g2, g3⟩
    show P (f_X11_laysPlaces_L44 LF (fu + 1) k64 g 73 v (nI 144))
    unfold f_X11_laysPlaces_L44
    rw [if_pos (by decide)]
    exact y g g1 g2 g3
  · rintro i fu g hi ⟨g1, g2, g3⟩
    have g1 : only msc h g := g1
    have hRg := only_refs g1 hR
    refine Or.inr ⟨sI g 93 i 0, ⟨only_trans g1 (only_sI (by unfold msc; omega)), fun k hk => ?_, fun k hk => ?_⟩, fun z hz => ?_⟩
    · rw [gI_sI, if_neg (by omega)]; exact g2 k hk
    · rw [gI_sI]
      by_cases e : k = i
      · rw [if_pos ⟨rfl, e⟩]
      · rw [if_neg (fun q => e q.2)]; exact g3 k (by omega)
    · show f_X11_laysPlaces_L44 LF (fu + 1) k64 g 73 v (nI i) = z
      unfold f_X11_laysPlaces_L44
      rw [if_neg (show ¬ (144 : Int32) ≤ nI i from nI_ge (b := 144) hi (by decide)), if_pos iO_73, r_73_39 hRg, Option.bind_some, iA_93, if_pos (in_nI hi (by decide)), nI_clamp (by omega), nar_0, Option.bind_some, nI_p1]; exact hz
theorem lay_M2 {P : Option eH → Prop} {k99 : eH → Nat → Int32 → Option eH} {h g0 : eH} {X : AX} {B n w : Nat} {Q : Nat → Nat → Bool} (hR : RefsOK h) (hm : MI h X) (ho : okX B X) (hn : n < 12) (hw : w < 5) (hw2 : ∀ g, only msc h g → gI g 91 n = nI w) (far : ∀ d t, nF (xF X) ≤ t → Q d t = false) (og : only msc h g0) (h92 : MQp g0 92 Q) (h93 : ∀ k, k < 144 → gI g0 93 k = 0) (y : ∀ g, only msc h g → MQp g 93 (hdS (xF X) (xS X) w Q) → P (k99 g 73 (nI n))) : P (f_X11_laysPlaces_L66 LF e_fu k99 g0 73 (nI n) 0) := by
  refine lpF (N := 144) (s := g0) (run := fun fu (g : eH) i => f_X11_laysPlaces_L66 LF fu k99 g 73 (nI n) (nI i)) (Inv := fun i g => only msc h g ∧ MQp g 92 Q ∧ ∀ k, k < 144 → (gI g 93 k = 1 ∧ ∃ p, p < i ∧ Q (p % 4) (p / 4) = true ∧ tgt (xF X) (xS X) w p = some k) ∨ (gI g 93 k = 0 ∧ ¬ ∃ p, p < i ∧ Q (p % 4) (p / 4) = true ∧ tgt (xF X) (xS X) w p = some k)) (Post := P) (by decide) ⟨og, h92, fun k hk => Or.inr ⟨h93 k hk, fun ⟨p, hp, _⟩ => absurd hp (Nat.not_lt_zero p)⟩⟩ ?_ ?_
  · rintro fu g ⟨g1, g2, g3⟩
    show P (f_X11_laysPlaces_L66 LF (fu + 1) k99 g 73 (nI n) (nI 144))
    unfold f_X11_laysPlaces_L66
    rw [if_pos (by decide)]
    refine y g g1 (fun k hk => ?_)
    have iff := tgt_iff (S := xS X) (Q := Q) (w := w) ho.1 far hw hk
    rcases g3 k hk with ⟨a, b⟩ | ⟨a, b⟩
    · rw [a, if_pos (iff.mpr b)]
    · rw [a, if_neg (fun q => b (iff.mp q))]
  · rintro i fu g hi ⟨g1, g2, g3⟩
    have g1 : only msc h g := g1
    have hRg := only_refs g1 hR
    have hmg := MI_scr g1 hm
    have n144 : ¬ (144 : Int32) ≤ nI i := nI_ge (b := 144) hi (by decide)
    have e92 := g2 i hi
    cases hq : Q (i % 4) (i / 4) with
    | false =>
      rw [hq, if_neg (by decide)] at e92
      refine Or.inr ⟨g, ⟨g1, g2, fun k hk => ?_⟩, fun z hz => ?_⟩
      · rcases g3 k hk with ⟨a, p, b1, b2⟩ | ⟨a, b⟩
        · exact Or.inl ⟨a, p, by omega, b2⟩
        · refine Or.inr ⟨a, fun ⟨p, c1, c2, c3⟩ => ?_⟩
          by_cases e : p = i
          · subst e; rw [hq] at c2; cases c2
          · exact b ⟨p, by omega, c2, c3⟩
      · show f_X11_laysPlaces_L66 LF (fu + 1) k99 g 73 (nI n) (nI i) = z
        unfold f_X11_laysPlaces_L66
        rw [if_neg n144, if_pos iO_73, r_73_38 hRg, Option.bind_some, iA_92, if_pos (in_nI hi (by decide)), nI_clamp (by omega), e92, if_pos rfl, nI_p1]; exact hz
    | true =>
      rw [hq, if_pos rfl] at e92
      have ht : i / 4 < nF (xF X) := by
        rcases Nat.lt_or_ge (i / 4) (nF (xF X)) with x | x
        · exact x
        · rw [far _ _ x] at hq; cases hq
      obtain ⟨g', x1, x2⟩ := goesBy_M (w := w) ho.1 hRg hmg.1 hmg.2.2.2.2.1 hi ht hw
      have un : ∀ z, f_X11_laysPlaces_L66 LF fu k99 g' 73 (nI n) (nI (i + 1)) = z → f_X11_laysPlaces_L66 LF (fu + 1) k99 g 73 (nI n) (nI i) = z := fun z hz => by
        unfold f_X11_laysPlaces_L66
        rw [if_neg n144, if_pos iO_73, r_73_38 hRg, Option.bind_some, iA_92, if_pos (in_nI hi (by decide)), nI_clamp (by omega), e92, if_neg i10, r_73_37 hRg, Option.bind_some, iA_91, if_pos (in_nI hn (by decide)), nI_clamp (by omega), hw2 g g1, x1, Option.bind_some, nI_p1]; exact hz
      rcases x2 with ⟨t1, rfl⟩ | ⟨p', l', t1, rfl⟩
      · refine Or.inr ⟨g', ⟨g1, g2, fun k hk => ?_⟩, un⟩
        rcases g3 k hk with ⟨a, p, b1, b2⟩ | ⟨a, b⟩
        · exact Or.inl ⟨a, p, by omega, b2⟩
        · refine Or.inr ⟨a, fun ⟨p, c1, c2, c3⟩ => ?_⟩
          by_cases e : p = i
          · subst e; rw [t1] at c3; cases c3
          · exact b ⟨p, by omega, c2, c3⟩
      · refine Or.inr ⟨sI g 93 p' 1, ⟨only_trans g1 (only_sI (by unfold msc; omega)), fun k hk => ?_, fun k hk => ?_⟩, un⟩
        · rw [gI_sI, if_neg (by omega)]; exact g2 k hk
        · rw [gI_sI]
          by_cases e : k = p'
          · rw [if_pos ⟨rfl, e⟩]
            exact Or.inl ⟨rfl, i, by omega, hq, by rw [e]; exact t1⟩
          · rw [if_neg (fun q => e q.2)]
            rcases g3 k hk with ⟨a, p, b1, b2⟩ | ⟨a, b⟩
            · exact Or.inl ⟨a, p, by omega, b2⟩
            · refine Or.inr ⟨a, fun ⟨p, c1, c2, c3⟩ => ?_⟩
              by_cases e2 : p = i
              · subst e2; rw [t1] at c3; exact e (Option.some.inj c3).symm
              · exact b ⟨p, by omega, c2, c3⟩
theorem lay_M3 {P : Option eH → Prop} {k126 : eH → Nat → Int32 → Option eH} {h g0 : eH} {v : Int32} {Q : Nat → Nat → Bool} (hR : RefsOK h) (og : only msc h g0) (h93 : MQp g0 93 Q) (y : ∀ g, only msc h g → MQp g 92 Q → P (k126 g 73 v)) : P (f_X11_laysPlaces_L101 LF e_fu k126 g0 73 v 0) := by
  refine lpF (N := 144) (s := g0) (run := fun fu (g : eH) i => f_X11_laysPlaces_L101 LF fu k126 g 73 v (nI i)) (Inv := fun i g => only msc h g ∧ MQp g 93 Q ∧ ∀ k, k < i → gI g 92 k = if Q (k % 4) (k / 4) then 1 else 0) (Post := P) (by decide) ⟨og, h93, fun k hk => absurd hk (Nat.not_lt_zero k)⟩ ?_ ?_
  · rintro fu g ⟨g1, g2, g3⟩
    show P (f_X11_laysPlaces_L101 LF (fu + 1) k126 g 73 v (nI 144))
    unfold f_X11_laysPlaces_L101
    rw [if_pos (by decide)]
    exact y g g1 g3
  · rintro i fu g hi ⟨g1, g2, g3⟩
    have g1 : only msc h g := g1
    have hRg := only_refs g1 hR
    have nar : vp_nar .boolean (if Q (i % 4) (i / 4) = true then 1 else 0) = if Q (i % 4) (i / 4) = true then 1 else 0 := by
      cases Q (i % 4) (i / 4)
      · exact nar_0
      · exact nar_1
    refine Or.inr ⟨sI g 92 i (if Q (i % 4) (i / 4) then 1 else 0), ⟨only_trans g1 (only_sI (by unfold msc; omega)), fun k hk => ?_, fun k hk => ?_⟩, fun z hz => ?_⟩
    · rw [gI_sI, if_neg (by omega)]; exact g2 k hk
    · rw [gI_sI]
      by_cases e : k = i
      · rw [if_pos ⟨rfl, e⟩, e]
      · rw [if_neg (fun q => e q.2)]; exact g3 k (by omega)
    · show f_X11_laysPlaces_L101 LF (fu + 1) k126 g 73 v (nI i) = z
      unfold f_X11_laysPlaces_L101
      rw [if_neg (show ¬ (144 : Int32) ≤ nI i from nI_ge (b := 144) hi (by decide)), if_pos iO_73, r_73_38 hRg, Option.bind_some, r_73_39 hRg, Option.bind_some, iA_93, if_pos (in_nI hi (by decide)), iA_92, if_pos (in_nI hi (by decide)), nI_clamp (by omega), g2 i hi, nar, Option.bind_some, nI_p1]; exact hz
theorem lay_s {n : Nat} {k132 : eH → Option eH} {h : eH} {v0 : Nat} {v1 : Int32} : f_X11_laysPlaces_L34 LF (n + 1) k132 h v0 v1 = (if isO LF v0 11 = true then if (gI h v0 36) ≤ v1 then k132 h else f_X11_laysPlaces_L44 LF e_fu (fun (h20 : eH) (w0_21 : Nat) (w1_22 : Int32) => f_X11_laysPlaces_L66 LF e_fu (fun (h32 : eH) (w0_33 : Nat) (w1_34 : Int32) => f_X11_laysPlaces_L101 LF e_fu (fun (h44 : eH) (w0_45 : Nat) (w1_46 : Int32) => f_X11_laysPlaces_L34 LF n k132 h44 w0_45 (w1_46 + Int32.ofInt 1)) h32 w0_33 w1_34 0) h20 w0_21 w1_22 0) h v0 v1 0 else none) := rfl
theorem lays_M {h g0 : eH} {X : AX} {B : Nat} (hR : RefsOK h) (hm : MI h X) (ho : okX B X) (og : only msc h g0) : ∃ g, f_X11_laysPlaces LF g0 73 = some g ∧ only msc h g ∧ MQp g 92 (hdN (xF X) (xS X) (xH X).2 (xH X).1) := by
  obtain ⟨hH1, hH2⟩ := ho.2.2.2.2.2.2.1
  unfold f_X11_laysPlaces
  refine lpF (N := 144) (s := g0) (run := fun fu (g : eH) i => f_X11_laysPlaces_L2 LF fu (fun (h11 : eH) (w0_12 : Nat) => f_X11_laysPlaces_L34 LF e_fu (fun (h47 : eH) => some h47) h11 w0_12 0) g 73 (nI i)) (Inv := fun i g => only msc h g ∧ ∀ k, k < i → gI g 92 k = if frA (xF X) (xS X) (k / 4) then 1 else 0) (Post := fun r => ∃ g, r = some g ∧ only msc h g ∧ MQp g 92 (hdN (xF X) (xS X) (xH X).2 (xH X).1)) (by decide) ⟨og, fun k hk => absurd hk (Nat.not_lt_zero k)⟩ ?_ ?_
  · rintro fu g ⟨g1, g2⟩
    show ∃ g', f_X11_laysPlaces_L2 LF (fu + 1) _ g 73 (nI 144) = some g' ∧ _
    unfold f_X11_laysPlaces_L2
    rw [if_pos (by decide)]
    refine lpF (N := (xH X).1) (s := g) (run := fun fu (g : eH) i => f_X11_laysPlaces_L34 LF fu (fun (h47 : eH) => some h47) g 73 (nI i)) (Inv := fun i g => only msc h g ∧ MQp g 92 (hdN (xF X) (xS X) (xH X).2 i)) (Post := fun r => ∃ g, r = some g ∧ only msc h g ∧ MQp g 92 (hdN (xF X) (xS X) (xH X).2 (xH X).1)) (by omega) ⟨g1, g2⟩ ?_ ?_
    · rintro fu g ⟨g1, g2⟩
      have hmh := (MI_scr g1 hm).2.2.2.2.2.2.2.1
      refine ⟨g, ?_, g1, g2⟩
      show f_X11_laysPlaces_L34 LF (fu + 1) _ g 73 (nI (xH X).1) = _
      rw [lay_s, if_pos iO_73, hmh.1, if_pos (nI_le (Nat.le_refl _) (by omega))]
    · rintro i fu g hi ⟨g1, g2⟩
      have g1 : only msc h g := g1
      have hmh := (MI_scr g1 hm).2.2.2.2.2.2.2.1
      obtain ⟨g', hg'⟩ : ∃ g', (only msc h g' ∧ MQp g' 92 (hdN (xF X) (xS X) (xH X).2 (i + 1))) ∧ f_X11_laysPlaces_L34 LF (fu + 1) (fun (h47 : eH) => some h47) g 73 (nI i) = f_X11_laysPlaces_L34 LF fu (fun (h47 : eH) => some h47) g' 73 (nI (i + 1)) := by
        rw [lay_s, if_pos iO_73, hmh.1, if_neg (nI_ge hi (by omega))]
        refine lay_M1 (P := fun r => ∃ g', (only msc h g' ∧ MQp g' 92 (hdN (xF X) (xS X) (xH X).2 (i + 1))) ∧ r = f_X11_laysPlaces_L34 LF fu (fun (h47 : eH) => some h47) g' 73 (nI (i + 1))) hR g1 g2 (fun ga a1 a2 a3 => ?_)
        refine lay_M2 (P := fun r => ∃ g', (only msc h g' ∧ MQp g' 92 (hdN (xF X) (xS X) (xH X).2 (i + 1))) ∧ r = f_X11_laysPlaces_L34 LF fu (fun (h47 : eH) => some h47) g' 73 (nI (i + 1))) (w := (xH X).2 i) hR hm ho (by omega) (hH2 i hi) (fun g o => (MI_scr o hm).2.2.2.2.2.2.2.1.2 i hi) (hdN_far i) a1 a2 a3 (fun gb b1 b2 => ?_)
        refine lay_M3 (P := fun r => ∃ g', (only msc h g' ∧ MQp g' 92 (hdN (xF X) (xS X) (xH X).2 (i + 1))) ∧ r = f_X11_laysPlaces_L34 LF fu (fun (h47 : eH) => some h47) g' 73 (nI (i + 1))) hR b1 b2 (fun gc c1 c2 => ?_)
        exact ⟨gc, ⟨c1, c2⟩, by rw [nI_p1]⟩
      exact Or.inr ⟨g', hg'.1, fun z hz => hg'.2.trans hz⟩
  · rintro i fu g hi ⟨g1, g2⟩
    have g1 : only msc h g := g1
    have hRg := only_refs g1 hR
    have hmg := MI_scr g1 hm
    have nar : vp_nar .boolean (if frA (xF X) (xS X) (i / 4) = true then 1 else 0) = if frA (xF X) (xS X) (i / 4) = true then 1 else 0 := by
      cases frA (xF X) (xS X) (i / 4)
      · exact nar_0
      · exact nar_1
    refine Or.inr ⟨sI g 92 i (if frA (xF X) (xS X) (i / 4) then 1 else 0), ⟨only_trans g1 (only_sI (by unfold msc; omega)), fun k hk => ?_⟩, fun z hz => ?_⟩
    · rw [gI_sI]
      by_cases e : k = i
      · rw [if_pos ⟨rfl, e⟩, e]
      · rw [if_neg (fun q => e q.2)]; exact g2 k (by omega)
    · show f_X11_laysPlaces_L2 LF (fu + 1) _ g 73 (nI i) = z
      unfold f_X11_laysPlaces_L2
      rw [if_neg (show ¬ (144 : Int32) ≤ nI i from nI_ge (b := 144) hi (by decide)), if_pos iO_73, r_73_38 hRg, Option.bind_some, r_73_7 hRg, Option.bind_some, (div4 i hi).1, isFree_k ho.1 hRg (Or.inl rfl) hmg.1 hmg.2.2.2.2.1 (by omega), Option.bind_some, iA_92, if_pos (in_nI hi (by decide)), nI_clamp (by omega), nar, Option.bind_some, nI_p1]; exact hz
theorem many_M {g : eH} {Q : Nat → Nat → Bool} (hR : RefsOK g) (hq : MQp g 92 Q) : f_X11_placeMany LF g 73 = some (nI (ctQ Q)) := by
  rw [← ct144]
  unfold f_X11_placeMany
  refine lpF (N := 144) (s := (0 : Int32)) (run := fun fu (q : Int32) i => f_X11_placeMany_L4 LF g fu (fun (w1_5 : Int32) => some w1_5) 73 q (nI i)) (Inv := fun i q => q = nI (fb_ct (fun p => Q (p % 4) (p / 4)) i)) (Post := fun r => r = some (nI (fb_ct (fun p => Q (p % 4) (p / 4)) 144))) (by decide) rfl ?_ ?_
  · rintro fu q rfl
    show f_X11_placeMany_L4 LF g (fu + 1) _ 73 _ (nI 144) = _
    unfold f_X11_placeMany_L4
    rw [if_pos (by decide)]
  · rintro i fu q hi rfl
    refine Or.inr ⟨nI (fb_ct (fun p => Q (p % 4) (p / 4)) (i + 1)), rfl, fun z hz => ?_⟩
    have hz : f_X11_placeMany_L4 LF g fu (fun (w1_5 : Int32) => some w1_5) 73 (nI (fb_ct (fun p => Q (p % 4) (p / 4)) i + (if Q (i % 4) (i / 4) then 1 else 0))) (nI (i + 1)) = z := hz
    have fl : f_X11_flag (if Q (i % 4) (i / 4) = true then 1 else 0) = nI (if Q (i % 4) (i / 4) = true then 1 else 0) := by cases Q (i % 4) (i / 4) <;> rfl
    show f_X11_placeMany_L4 LF g (fu + 1) _ 73 (nI (fb_ct (fun p => Q (p % 4) (p / 4)) i)) (nI i) = z
    unfold f_X11_placeMany_L4
    rw [if_neg (show ¬ (144 : Int32) ≤ nI i from nI_ge (b := 144) hi (by decide)), if_pos iO_73, r_73_38 hR, Option.bind_some, iA_92, if_pos (in_nI hi (by decide)), nI_clamp (by omega), hq i hi, fl, nI_add, nI_p1]
    exact hz
/-! felt and swung -/
theorem CI_H {h h' : eH} {X : AX} {w : Nat} (o : only (fun j _ => j = 40 ∨ j = 41) h h') (hc : CI h X) (hH : CH h' ((xH X).1 + 1, fun k => if k = (xH X).1 then w else (xH X).2 k)) : CI h' (setH X ((xH X).1 + 1, fun k => if k = (xH X).1 then w else (xH X).2 k)) := by
  obtain ⟨c1, ⟨p, c2⟩, ⟨q, c3⟩, c4, c5, c6, c7, c8, c9⟩ := hc
  exact ⟨only_refs o c1, ⟨p, CF_only o (fun j k a b => by omega) c2⟩, ⟨q, CR_only o (fun j k a => by have := c3.1; omega) c3⟩, CT_only o (fun j k a => by omega) c4, CS_only o (fun k => ⟨by omega, by omega⟩) c5, CU_only o (fun j k a b => by omega) c6, CK_only o (by omega) (fun j k a b => by omega) c7, hH, CW_only o (fun j k a => by omega) c9⟩
theorem MI_H {h h' : eH} {X : AX} {w : Nat} (o : only (fun j k => (j = 73 ∧ k = 36) ∨ j = 91) h h') (hm : MI h X) (hH : MH h' ((xH X).1 + 1, fun k => if k = (xH X).1 then w else (xH X).2 k)) : MI h' (setH X ((xH X).1 + 1, fun k => if k = (xH X).1 then w else (xH X).2 k)) := by
  obtain ⟨c1, c2, c3, c4, c5, c6, c7, c8, c9⟩ := hm
  exact ⟨MF_only o (fun k a => by omega) (fun k => by omega) c1, MR_only o (by omega) (fun k => by omega) c2, (o_I o (by omega)).trans c3, MT_only o (by omega) (fun k => by omega) c4, MS_only o (fun k => by omega) c5, MU_only o (by omega) (fun k => by omega) c6, MK_only o (fun k => by omega) (fun k => by omega) c7, hH, MW_only o (by omega) (fun k => by omega) c9⟩
theorem heard_P {B w : Nat} {h : eH} {X : AX} {a : Option (eH × Int32)} {b : eH → Option (eH × Int32)} (hc : CI h X) (hm : MI h X) (ho : okX B X) (hw : w < 5) (ha : a = (f_X10_heardOf LF h 0 (nI (cH w))).bind fun r => some (r.1, r.2)) (hb : ∀ h1, b h1 = if 12 ≤ gI (sI h1 73 0 0) 73 36 then some (sI h1 73 0 0, -1) else (f_X11_feels LF (sI h1 73 0 0) 73 (nI w)).bind fun r2 => some (r2.1, r2.2)) : PR B a b := by
  obtain ⟨hH1, hH2⟩ := id ho.2.2.2.2.2.2.1
  have hch := hc.2.2.2.2.2.2.2.1
  by_cases full : (xH X).1 = 12
  · refine PR_no hc hm ho (r := -1) ?_ (fun h1 hR h9 => ?_)
    · rw [ha]
      unfold f_X10_heardOf f_X0_add
      rw [if_pos iO_0, r_0_5 hc.1, Option.bind_some, if_pos iO_40, if_pos iO_40, hch.1, full, if_neg (show ¬ nI 12 < 0 by decide), if_neg (show ¬ nI 12 < 12 by decide), Option.bind_some]
      rfl
    · have h9' := MI_scr thr_M h9
      rw [hb, h9'.2.2.2.2.2.2.2.1.1, full, if_pos (by decide)]
  · have hn : (xH X).1 < 12 := by omega
    obtain ⟨Y, hY⟩ : ∃ Y, setH X ((xH X).1 + 1, fun k => if k = (xH X).1 then w else (xH X).2 k) = Y := ⟨_, rfl⟩
    have yF : xF Y = xF X := by rw [← hY]; rfl
    have yS : xS Y = xS X := by rw [← hY]; rfl
    have okY : okX B Y := by
      rw [← hY]
      obtain ⟨o1, o2, o3, o4, o5, o6, o7, o8⟩ := ho
      refine ⟨o1, o2, o3, o4, o5, o6, ⟨by show (xH X).1 + 1 ≤ 12; omega, fun k hk => ?_⟩, o8⟩
      show (if k = (xH X).1 then w else (xH X).2 k) < 5
      have hk : k < (xH X).1 + 1 := hk
      split
      · exact hw
      · exact hH2 k (by omega)
    refine PR_mk hm (X' := Y) (r := nI (ctQ (hdN (xF Y) (xS Y) (xH Y).2 (xH Y).1))) ?_ (fun h1 hR h9 => ?_) (okX_mono (by omega) okY)
    · have o1 : only (fun j _ => j = 40 ∨ j = 41) h (sI (sI h 41 (xH X).1 (nI (cH w))) 40 2 (nI ((xH X).1 + 1))) := only_trans (only_sI (Or.inr rfl)) (only_sI (Or.inl rfl))
      have c1 : CI (sI (sI h 41 (xH X).1 (nI (cH w))) 40 2 (nI ((xH X).1 + 1))) Y := by
        rw [← hY]
        refine CI_H o1 hc ⟨by rw [gI_sI, if_pos ⟨rfl, rfl⟩], fun k hk => ?_⟩
        rw [gI_sI, if_neg (by omega), gI_sI]
        by_cases e : k = (xH X).1
        · rw [if_pos ⟨rfl, e⟩]
          show _ = nI (cH (if k = (xH X).1 then w else (xH X).2 k))
          rw [if_pos e]
        · rw [if_neg (fun q => e q.2)]
          show _ = nI (cH (if k = (xH X).1 then w else (xH X).2 k))
          rw [if_neg e]
          have hk : k < (xH X).1 + 1 := hk
          exact hch.2 k (by omega)
      have add : f_X0_add LF h 40 (nI (cH w)) = some (sI (sI h 41 (xH X).1 (nI (cH w))) 40 2 (nI ((xH X).1 + 1)), 1) := by
        unfold f_X0_add
        rw [if_pos iO_40, hch.1, if_neg (nI_pos (by omega)), if_pos (show nI (xH X).1 < 12 from nI_lt (b := 12) hn (by decide)), r_40_0 hc.1, Option.bind_some, iA_41, if_pos (in_nI hn (by decide)), nI_clamp (by omega), gI_sI, if_neg (by omega), hch.1, show nI (xH X).1 + 1 = nI ((xH X).1 + 1) from nI_add _ 1, Option.bind_some]
      generalize sI (sI h 41 (xH X).1 (nI (cH w))) 40 2 (nI ((xH X).1 + 1)) = g1 at o1 c1 add
      obtain ⟨p, hp⟩ := c1.2.1
      obtain ⟨g, x1, x2, x3⟩ := find_C c1 okY hp (fr := (gL g1 p 4) &&& ((gL g1 46 8) ^^^ (-1))) (fun k => free_tb okY.1 hp c1.2.2.2.2.1 k)
      have hRg := only_refs x2 c1.1
      refine ⟨g, ?_, CI_scr x2 c1, only_trans (only_mono (fun j k a => by unfold cls; omega) o1) (only_mono (fun _ _ => csc_cls) x2)⟩
      rw [ha]
      unfold f_X10_heardOf
      rw [if_pos iO_0, r_0_5 hc.1, Option.bind_some, if_pos iO_40, add, Option.bind_some]
      show (if (1 : Int32) = 0 then _ else (gR g1 0 5).bind fun b7 => (gR g1 0 15).bind fun b9 => (f_X10_free LF g1 0).bind fun r11 => if isO LF b7 0 = true then (f_X0_find LF g1 b7 b9 r11).bind fun r14 => (gR r14 0 5).bind fun b16 => if isO LF b16 0 = true then (f_X0_places LF r14 b16).bind fun r19 => some (r14, r19) else none else none).bind (fun r => some (r.1, r.2)) = _
      rw [if_neg i10, r_0_5 c1.1, Option.bind_some, hp.2.1, Option.bind_some, free_C c1 hp, Option.bind_some, if_pos iO_40, x1, Option.bind_some, r_0_5 hRg, Option.bind_some, if_pos iO_40, plc_C hRg x3 (fun d t ht => hdN_far _ d t (by have := nF_le okY.1; omega)), Option.bind_some, Option.bind_some]
    · have h9' := MI_scr thr_M h9
      have hR0 : RefsOK (sI h1 73 0 0) := refs_sI hR
      have hmh := h9'.2.2.2.2.2.2.2.1
      have o0 : only mdl h1 (sI h1 73 0 0) := only_mono (fun _ _ => msc_mdl) thr_M
      rw [hb]
      generalize sI h1 73 0 0 = h0 at h9' hR0 hmh o0
      have o1 : only (fun j k => (j = 73 ∧ k = 36) ∨ j = 91) h0 (sI (sI h0 91 (xH X).1 (nI w)) 73 36 (nI ((xH X).1 + 1))) := only_trans (only_sI (Or.inr rfl)) (only_sI (Or.inl ⟨rfl, rfl⟩))
      have m1 : MI (sI (sI h0 91 (xH X).1 (nI w)) 73 36 (nI ((xH X).1 + 1))) Y := by
        rw [← hY]
        refine MI_H o1 h9' ⟨by rw [gI_sI, if_pos ⟨rfl, rfl⟩], fun k hk => ?_⟩
        rw [gI_sI, if_neg (by omega), gI_sI]
        by_cases e : k = (xH X).1
        · rw [if_pos ⟨rfl, e⟩]
          show _ = nI (if k = (xH X).1 then w else (xH X).2 k)
          rw [if_pos e]
        · rw [if_neg (fun q => e q.2)]
          show _ = nI (if k = (xH X).1 then w else (xH X).2 k)
          rw [if_neg e]
          have hk : k < (xH X).1 + 1 := hk
          exact hmh.2 k (by omega)
      have hR1 : RefsOK (sI (sI h0 91 (xH X).1 (nI w)) 73 36 (nI ((xH X).1 + 1))) := refs_sI (refs_sI hR0)
      obtain ⟨g, x1, x2, x3⟩ := lays_M hR1 m1 okY only_rfl
      have hRg := only_refs x2 hR1
      refine ⟨g, ?_, MI_scr x2 m1, only_trans o0 (only_trans (only_mono (fun j k a => by unfold mdl; omega) o1) (only_mono (fun _ _ => msc_mdl) x2))⟩
      rw [hmh.1, if_neg (show ¬ (12 : Int32) ≤ nI (xH X).1 from nI_ge (b := 12) hn (by decide))]
      unfold f_X11_feels
      rw [if_pos iO_73, r_73_37 hR0, Option.bind_some, hmh.1, iA_91, if_pos (in_nI hn (by decide)), nI_clamp (by omega), gI_sI, if_neg (by omega), hmh.1, show nI (xH X).1 + 1 = nI ((xH X).1 + 1) from nI_add _ 1, Option.bind_some, x1, Option.bind_some, many_M hRg x3, Option.bind_some, Option.bind_some]
theorem felt_P {B : Nat} {h : eH} {X : AX} (hc : CI h X) (hm : MI h X) (ho : okX B X) (v : Int32) : PR B (f_X10_felt LF h 0 v) (fun h1 => f_X11_felt LF h1 73 v) := by
  have in1 : f_X11_in v.toInt64 0 1 = if v < 0 then 0 else if nI 1 < v then 0 else 1 := in_00 v 1
  by_cases v0 : v = 0
  · refine heard_P (w := 0) hc hm ho (by omega) ?_ (fun h1 => ?_)
    · unfold f_X10_felt f_X10_felt_J11
      rw [if_pos v0, if_neg (by rw [v0]; decide), if_pos iO_0]; rfl
    · show f_X11_felt LF h1 73 v = _
      unfold f_X11_felt
      rw [if_pos iO_73, in1, if_neg (show ¬ (if v < 0 then (0 : Int32) else if nI 1 < v then 0 else 1) = 0 by rw [v0]; decide), v0]; rfl
  by_cases v1 : v = 1
  · refine heard_P (w := 1) hc hm ho (by omega) ?_ (fun h1 => ?_)
    · unfold f_X10_felt f_X10_felt_J11
      rw [if_neg v0, if_pos v1, if_pos v1, if_pos iO_0]; rfl
    · show f_X11_felt LF h1 73 v = _
      unfold f_X11_felt
      rw [if_pos iO_73, in1, if_neg (show ¬ (if v < 0 then (0 : Int32) else if nI 1 < v then 0 else 1) = 0 by rw [v1]; decide), v1]; rfl
  · refine PR_no hc hm ho (r := -1) ?_ (fun h1 hR h9 => ?_)
    · unfold f_X10_felt; rw [if_neg v0, if_neg v1]
    · show f_X11_felt LF h1 73 v = _
      unfold f_X11_felt
      have z : f_X11_in v.toInt64 0 1 = 0 := by
        rw [in1]
        rcases pos_le v 1 (by decide) with hv | ⟨hv, hv2, hv3⟩ | ⟨N, hN, e⟩
        · rw [if_pos hv]
        · rw [if_neg hv, if_pos hv3]
        · rcases (show N = 0 ∨ N = 1 by omega) with rfl | rfl
          · exact absurd e v0
          · exact absurd e v1
      rw [if_pos iO_73, z, if_pos rfl]
theorem swung_P {B : Nat} {h : eH} {X : AX} (hc : CI h X) (hm : MI h X) (ho : okX B X) (v : Int32) : PR B (f_X10_swung LF h 0 v) (fun h1 => f_X11_swung LF h1 73 v) := by
  have in3 : f_X11_in v.toInt64 1 3 = if v < 1 then 0 else if (3 : Int32) < v then 0 else 1 := in_lo v 3
  by_cases a3 : v < 1
  · refine PR_no hc hm ho (r := -1) ?_ (fun h1 hR h9 => ?_)
    · unfold f_X10_swung; rw [if_pos a3]
    · show f_X11_swung LF h1 73 v = _
      unfold f_X11_swung; rw [if_pos iO_73, in3, if_pos a3, if_pos rfl]
  by_cases a4 : v < 4
  · have l3 : v ≤ 3 := by
      rw [fa_lt] at a4; rw [fa_le]
      have e4 : (4 : Int32).toInt = 4 := by decide
      have e3 : (3 : Int32).toInt = 3 := by decide
      omega
    obtain ⟨N, q1, q2, e⟩ := low1 (n := 3) (by decide) a3 l3
    have n9 : ¬ f_X11_in v.toInt64 1 3 = 0 := by rw [in3, if_neg a3, if_neg (show ¬ (3 : Int32) < v by rw [fa_le] at l3; rw [fa_lt]; omega)]; exact i10
    refine heard_P (w := N + 1) hc hm ho (by omega) ?_ (fun h1 => ?_)
    · have ec : cH (N + 1) = N := by unfold cH; rw [if_neg (by omega), if_neg (by omega)]; omega
      unfold f_X10_swung
      rw [if_neg a3, if_pos a4, if_pos iO_0, e, ec]
    · show f_X11_swung LF h1 73 v = _
      unfold f_X11_swung
      rw [if_pos iO_73, if_neg n9, e, show (1 : Int32) + nI N = nI (N + 1) by rw [show (1 : Int32) = nI 1 from rfl, nI_add, Nat.add_comm]]
  · refine PR_no hc hm ho (r := -1) ?_ (fun h1 hR h9 => ?_)
    · unfold f_X10_swung; rw [if_neg a3, if_neg a4]
    · show f_X11_swung LF h1 73 v = _
      unfold f_X11_swung
      have g3 : (3 : Int32) < v := by
        rw [fa_lt] at a4 ⊢
        have e4 : (4 : Int32).toInt = 4 := by decide
        have e3 : (3 : Int32).toInt = 3 := by decide
        omega
      rw [if_pos iO_73, in3, if_neg a3, if_pos g3, if_pos rfl]

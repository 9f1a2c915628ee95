/-! best: both sides together -/
theorem gat_o {rec : eH → Nat → Int32 → Int32 → Int32 → Int64 → Int32 → Option eH} {g : eH} {lim s had dep : Nat} {tkm : Int64} {path : Nat → Nat} {b R : Nat × Nat × (Nat → Nat)} (hR : RefsOK g) (hd : dep ≤ 6) (hh : had ≤ 600) (hb : b.1 ≤ 600 ∧ b.2.1 ≤ 6) (hp : PM g dep path) (hcase : BM g b ∨ (gI g 73 35 = -1 ∧ bNote b had dep path = (had, dep, path))) (rest : ∀ g1, only gwW g g1 → BM g1 (bNote b had dep path) → PM g1 dep path → ∃ g', (if nI lim ≤ nI dep then some g1 else f_X11_gathers_o_L74 LF rec e_fu (fun (h44 : eH) => some h44) g1 73 (nI s) (nI dep) (nI lim) tkm (nI had) 0) = some g' ∧ BM g' R ∧ PM g' dep path ∧ only gwW g1 g') : ∃ g', f_X11_gathers_o LF rec g 73 (nI s) (nI dep) (nI lim) tkm (nI had) = some g' ∧ BM g' R ∧ PM g' dep path ∧ only gwW g g' := by
  have noted : bNote b had dep path = (had, dep, path) → ∃ g', f_X11_gathers_o_L40 LF rec e_fu (fun (h11 : eH) (w0_12 : Nat) (w1_13 : Int32) (w2_14 : Int32) (w3_15 : Int32) (w4_16 : Int64) (w6_17 : Int32) => if w3_15 ≤ w2_14 then some h11 else f_X11_gathers_o_L74 LF rec e_fu (fun (h44 : eH) => some h44) h11 w0_12 w1_13 w2_14 w3_15 w4_16 w6_17 0) (sI (sI g 73 35 (nI had)) 73 34 (nI dep)) 73 (nI s) (nI dep) (nI lim) tkm (nI had) 0 = some g' ∧ BM g' R ∧ PM g' dep path ∧ only gwW g g' := fun e => by
    refine gat_N (P := fun r => ∃ g', r = some g' ∧ BM g' R ∧ PM g' dep path ∧ only gwW g g') hR hd hp (fun g1 o1 b1 p1 => ?_)
    obtain ⟨g', y1, y2, y3, y4⟩ := rest g1 o1 (by rw [e]; exact b1) p1
    exact ⟨g', y1, y2, y3, only_trans o1 y4⟩
  have quiet : bNote b had dep path = b → BM g b → ∃ g', (if nI lim ≤ nI dep then some g else f_X11_gathers_o_L74 LF rec e_fu (fun (h44 : eH) => some h44) g 73 (nI s) (nI dep) (nI lim) tkm (nI had) 0) = some g' ∧ BM g' R ∧ PM g' dep path ∧ only gwW g g' := fun e hB => rest g only_rfl (by rw [e]; exact hB) hp
  unfold f_X11_gathers_o
  rw [if_pos iO_73]
  rcases hcase with hB | ⟨hB, e⟩
  · rw [hB.1, hB.2.1]
    by_cases q1 : b.1 < had
    · rw [if_pos (nI_lt q1 (by omega))]
      exact noted (by unfold bNote; rw [if_pos (Or.inl q1)])
    · rw [if_neg (nI_nlt (by omega) (by omega))]
      by_cases q2 : had = b.1
      · rw [if_pos (by rw [q2])]
        by_cases q3 : b.2.1 ≤ dep
        · rw [if_pos (nI_le q3 (by omega))]
          exact quiet (bNote_no (by omega)) hB
        · rw [if_neg (nI_ge (by omega) (by omega))]
          exact noted (by unfold bNote; rw [if_pos (by omega)])
      · rw [if_neg (fun e => q2 (nI_inj (by omega) (by omega) e))]
        exact quiet (bNote_no (by omega)) hB
  · have lt : (-1 : Int32) < nI had := by
      have e1 : (-1 : Int32).toInt = -1 := by decide
      rw [fa_lt, nI_toInt (by omega)]; omega
    rw [hB, if_pos lt]
    exact noted e
theorem gat_C {lim : Nat} {F : FV} {S : Nat → Int32} {du : Nat → Nat} (hF : okF F) (hdu : ∀ j, j < 36 → S j = nI (du j)) (hd99 : ∀ j, du j ≤ 99) (h6 : lim ≤ 6) : ∀ (k n t : Nat), k < n → ∀ (g : eH) (s had dep : Nat) (tk : Nat → Bool) (tkm : Int64) (path : Nat → Nat) (b : Nat × Nat × (Nat → Nat)), s < nF F → dep + k = lim → had + 99 * k ≤ 600 → (∀ j, j < 36 → tb tkm j = tk j) → SM g F S → (BM g b ∨ (gI g 73 35 = -1 ∧ bNote b had dep path = (had, dep, path))) → PM g dep path → (b.1 ≤ 600 ∧ b.2.1 ≤ 6) → ∃ g', fg_X11_gathers LF n t g 73 (nI s) (nI dep) (nI lim) tkm (nI had) = some g' ∧ BM g' (bSr F S du k s had dep tk path b) ∧ PM g' dep path ∧ only gwW g g'
  | 0, n, t, hn, g, s, had, dep, tk, tkm, path, b, hs, hl, hh, htk, hS, hB, hp, hb => by
    obtain ⟨m, rfl⟩ : ∃ m, n = m + 1 := ⟨n - 1, by omega⟩
    refine gat_o (rec := fun h y0 y1 y2 y3 y4 y5 => fg_X11_gathers LF m 0 h y0 y1 y2 y3 y4 y5) hS.1 (by omega) (by omega) hb hp hB (fun g1 o1 b1 p1 => ⟨g1, ?_, b1, p1, only_rfl⟩)
    rw [if_pos (nI_le (by omega) (by omega))]
  | k + 1, n, t, hn, g, s, had, dep, tk, tkm, path, b, hs, hl, hh, htk, hS, hB, hp, hb => by
    obtain ⟨m, rfl⟩ : ∃ m, n = m + 1 := ⟨n - 1, by omega⟩
    have hb1 : (bNote b had dep path).1 ≤ 600 ∧ (bNote b had dep path).2.1 ≤ 6 := by
      unfold bNote
      split
      · exact ⟨by show had ≤ 600; omega, by show dep ≤ 6; omega⟩
      · exact hb
    refine gat_o (rec := fun h y0 y1 y2 y3 y4 y5 => fg_X11_gathers LF m 0 h y0 y1 y2 y3 y4 y5) hS.1 (by omega) (by omega) hb hp hB (fun g1 o1 b1 p1 => ?_)
    rw [if_neg (nI_ge (by omega) (by omega)), bSr_s]
    exact gat_L (rec := fun h y0 y1 y2 y3 y4 y5 => fg_X11_gathers LF m 0 h y0 y1 y2 y3 y4 y5) (k := k) hF hdu hd99 hs hl h6 hh htk (SM_only o1 hS) b1 p1 hb1 (fun g s had dep tk tkm path b a1 a2 a3 a4 a5 a6 a7 a8 => gat_C hF hdu hd99 h6 k m 0 (by omega) g s had dep tk tkm path b a1 a2 a3 a4 a5 (Or.inl a6) a7 a8)
/-! the class: seek -/
def rcM (F : FV) (S : Nat → Int32) (du : Nat → Nat) : Nat → Nat
  | 0 => 0
  | i + 1 => max (rcM F S du i) (if frA F S i then du i else 0)
theorem rcM_ok {F : FV} {S : Nat → Int32} {du : Nat → Nat} (hd : ∀ j, du j ≤ 99) : ∀ n, rcM F S du n ≤ 99 ∧ ∀ j, j < n → frA F S j = true → du j ≤ rcM F S du n
  | 0 => ⟨by show 0 ≤ 99; omega, fun j hj => absurd hj (Nat.not_lt_zero j)⟩
  | n + 1 => by
    obtain ⟨h1, h2⟩ := rcM_ok (F := F) (S := S) hd n
    have e : rcM F S du (n + 1) = max (rcM F S du n) (if frA F S n then du n else 0) := rfl
    have hn := hd n
    rw [e]
    refine ⟨by split <;> omega, fun j hj hf => ?_⟩
    by_cases q : j = n
    · subst q; rw [if_pos hf]; omega
    · have := h2 j (by omega) hf; omega
theorem CI_sR {h : eH} {X : AX} {k : Nat} {v : Option Nat} (hk : k = 2 ∨ k = 3) (hc : CI h X) : CI (sR h 43 k v) X := by
  obtain ⟨c1, ⟨p, c2⟩, ⟨q, c3⟩, c4, c5, c6, c7, c8, c9⟩ := hc
  have nR : ∀ j k', j ≠ 43 → gR (sR h 43 k v) j k' = gR h j k' := fun j k' hj => by rw [gR_sR, if_neg (fun e => hj e.1)]
  exact ⟨refs_sR (by rcases hk with rfl | rfl <;> decide) c1, ⟨p, c2.1, (nR 0 15 (by omega)).trans c2.2.1, (nR 0 16 (by omega)).trans c2.2.2.1, c2.2.2.2⟩, ⟨q, c3.1, (nR 0 17 (by omega)).trans c3.2.1, (nR 0 18 (by omega)).trans c3.2.2.1, c3.2.2.2⟩, c4, c5, c6, c7, c8, c9⟩
theorem PR_mk2 {B : Nat} {h : eH} {X X' : AX} {a : Option (eH × Int32)} {b : eH → Option (eH × Int32)} {r : Int32} (hm : MI h X) (hC : ∃ h1, a = some (h1, r) ∧ CI h1 X' ∧ ∀ j k, ¬ cls j k → gI h1 j k = gI h j k ∧ gL h1 j k = gL h j k) (hM : ∀ h1, RefsOK h1 → MI h1 X → ∃ h2, b h1 = some (h2, r) ∧ MI h2 X' ∧ only mdl h1 h2) (ho : okX (B + 300) X') : PR B a b := by
  obtain ⟨h1, x1, x2, x3⟩ := hC
  have o : only cls h (h1.1, h1.2.1, h.2.2) := ⟨fun j k hW => x3 j k hW, fun _ _ => rfl⟩
  have m0 : MI (h1.1, h1.2.1, h.2.2) X := MI_cls o hm
  have m1 : MI h1 X := m0
  obtain ⟨h2, y1, y2, y3⟩ := hM h1 x2.1 m1
  exact ⟨h1, h2, r, X', x1, y1, CI_mdl y3 x2, y2, ho⟩
theorem mn6 : ∀ v, v < 7 → mnI (nI v) 6 = nI v := by decide +kernel
theorem seek_C {h : eH} {X : AX} {B N p sp : Nat} {du : Nat → Nat} (hc : CI h X) (ho : okX B X) (hp : CF h p (xF X)) (hN : N ≤ 6) (hdu : ∀ j, j < 36 → xS X j = nI (du j)) (hd99 : ∀ j, du j ≤ 99) (hsp : sp < nF (xF X)) (h72 : xS X 72 = nI sp) : ∃ g, f_X7_seek LF h 43 p 46 (nI N) = some g ∧ only csc (sR (sR h 43 2 (some p)) 43 3 (some 46)) g ∧ BC g (bSr (xF X) (xS X) du N sp 0 0 (fun t => decide (t = sp)) (fun _ => 0) (0, 0, fun _ => 0)) := by
  have h36 := nF_le ho.1
  have hc0 : CI (sR (sR h 43 2 (some p)) 43 3 (some 46)) X := CI_sR (Or.inr rfl) (CI_sR (Or.inl rfl) hc)
  have r2 : gR (sR (sR h 43 2 (some p)) 43 3 (some 46)) 43 2 = some p := by rw [gR_sR, if_neg (by omega), gR_sR, if_pos ⟨rfl, rfl⟩]
  have r3 : gR (sR (sR h 43 2 (some p)) 43 3 (some 46)) 43 3 = some 46 := by rw [gR_sR, if_pos ⟨rfl, rfl⟩]
  have hp0 : CF (sR (sR h 43 2 (some p)) 43 3 (some 46)) p (xF X) := ⟨hp.1, by rw [gR_sR, if_neg (by omega), gR_sR, if_neg (by omega)]; exact hp.2.1, by rw [gR_sR, if_neg (by omega), gR_sR, if_neg (by omega)]; exact hp.2.2.1, hp.2.2.2⟩
  unfold f_X7_seek
  rw [if_pos iO_43, if_pos (p_O hp), if_pos iO_46]
  generalize sR (sR h 43 2 (some p)) 43 3 (some 46) = h0 at hc0 r2 r3 hp0
  have hfr : ∀ k, tb ((gL h0 p 4) &&& ((gL h0 46 8) ^^^ (-1))) k = frA (xF X) (xS X) k := fun k => free_tb ho.1 hp0 hc0.2.2.2.2.1 k
  generalize (gL h0 p 4) &&& ((gL h0 46 8) ^^^ (-1)) = fr at hfr
  rw [Option.bind_some, Option.bind_some, mn6 N (by omega)]
  have oA : only csc h0 (sI (sI (sI (sI (sL h0 43 4 fr) 43 5 (nI N)) 43 7 0) 43 8 0) 43 6 0) := only_trans (only_sL (by unfold csc; omega)) (only_trans (only_sI (by unfold csc; omega)) (only_trans (only_sI (by unfold csc; omega)) (only_trans (only_sI (by unfold csc; omega)) (only_sI (by unfold csc; omega)))))
  have a4 : gL (sI (sI (sI (sI (sL h0 43 4 fr) 43 5 (nI N)) 43 7 0) 43 8 0) 43 6 0) 43 4 = fr := by rw [gL_sI, gL_sI, gL_sI, gL_sI, gL_sL, if_pos ⟨rfl, rfl⟩]
  have a5 : gI (sI (sI (sI (sI (sL h0 43 4 fr) 43 5 (nI N)) 43 7 0) 43 8 0) 43 6 0) 43 5 = nI N := by rw [gI_sI, if_neg (by omega), gI_sI, if_neg (by omega), gI_sI, if_neg (by omega), gI_sI, if_pos ⟨rfl, rfl⟩]
  have a6 : gI (sI (sI (sI (sI (sL h0 43 4 fr) 43 5 (nI N)) 43 7 0) 43 8 0) 43 6 0) 43 6 = 0 := by rw [gI_sI, if_pos ⟨rfl, rfl⟩]
  have a7 : gI (sI (sI (sI (sI (sL h0 43 4 fr) 43 5 (nI N)) 43 7 0) 43 8 0) 43 6 0) 43 7 = 0 := by rw [gI_sI, if_neg (by omega), gI_sI, if_neg (by omega), gI_sI, if_pos ⟨rfl, rfl⟩]
  have a8 : gI (sI (sI (sI (sI (sL h0 43 4 fr) 43 5 (nI N)) 43 7 0) 43 8 0) 43 6 0) 43 8 = 0 := by rw [gI_sI, if_neg (by omega), gI_sI, if_pos ⟨rfl, rfl⟩]
  generalize sI (sI (sI (sI (sL h0 43 4 fr) 43 5 (nI N)) 43 7 0) 43 8 0) 43 6 0 = gA at oA a4 a5 a6 a7 a8
  obtain ⟨rc1, rc2⟩ := rcM_ok (F := xF X) (S := xS X) hd99 36
  refine lpF (N := 36) (s := gA) (run := fun fu (g : eH) i => f_X7_seek_L55 LF fu (fun (h12 : eH) (w0_13 : Nat) (w2_14 : Nat) => if isO LF w2_14 6 = true then if isO LF w0_13 7 = true then (f_X7_goFarther LF h12 w0_13 (gI h12 w2_14 1) 0 0 (f_X10_bit (gI h12 w2_14 1))).bind fun r17 => some r17 else none else none) g 43 46 (nI i)) (Inv := fun i g => only (fun j k => j = 43 ∧ k = 6) gA g ∧ gI g 43 6 = nI (rcM (xF X) (xS X) du i)) (Post := fun r => ∃ g, r = some g ∧ only csc h0 g ∧ BC g (bSr (xF X) (xS X) du N sp 0 0 (fun t => decide (t = sp)) (fun _ => 0) (0, 0, fun _ => 0))) (by decide) ⟨only_rfl, a6⟩ ?_ ?_
  · rintro fu g ⟨g1, g2⟩
    have og : only csc h0 g := only_trans oA (only_mono (fun j k a => by unfold csc; omega) g1)
    have hcg := CI_scr og hc0
    have e1 : gI g 46 1 = nI sp := (hcg.2.2.2.2.1.2.2.1 1 (by omega) (by omega)).trans h72
    have hSC : SC g p (xF X) (xS X) N (rcM (xF X) (xS X) du 36) := ⟨hcg.1, (og.2 _ _).trans r2, (og.2 _ _).trans r3, CF_only og (fun j k a b => by unfold csc; omega) hp0, hcg.2.2.2.2.1, fun k => by rw [o_L g1 (by omega), a4]; exact hfr k, (o_I g1 (by omega)).trans a5, g2⟩
    obtain ⟨g', y1, y2, y3, y4⟩ := goF_C (p := p) (lim := N) ho.1 hdu hd99 (fun j hf => by
      rcases Nat.lt_or_ge j (nF (xF X)) with x | x
      · exact rc2 j (by omega) hf
      · rw [fr_far x] at hf; cases hf) rc1 hN N 100 0 (by omega) g sp 0 0 (fun t => decide (t = sp)) (f_X10_bit (nI sp)) (fun _ => 0) (0, 0, fun _ => 0) hsp (by omega) (by omega) (fun j hj => bit_tb (by omega) j) hSC ⟨(o_I g1 (by omega)).trans a7, (o_I g1 (by omega)).trans a8, fun q hq => absurd hq (Nat.not_lt_zero q)⟩ (fun q hq => absurd hq (Nat.not_lt_zero q)) ⟨by show 0 ≤ 600; omega, by show 0 ≤ 6; omega⟩ (Nat.zero_le N)
    refine ⟨g', ?_, only_trans og (only_mono (fun j k a => by unfold swW at a; unfold csc; omega) y4), y2⟩
    show f_X7_seek_L55 LF (fu + 1) _ g 43 46 (nI 36) = _
    unfold f_X7_seek_L55
    rw [if_pos (by decide)]
    show (if isO LF 46 6 = true then if isO LF 43 7 = true then (f_X7_goFarther LF g 43 (gI g 46 1) 0 0 (f_X10_bit (gI g 46 1))).bind fun r17 => some r17 else none else none) = _
    rw [if_pos iO_46, if_pos iO_43, e1]
    unfold f_X7_goFarther
    have y1 : fg_X7_goFarther LF 100 0 g 43 (nI sp) 0 0 (f_X10_bit (nI sp)) = some g' := y1
    rw [y1, Option.bind_some]
  · rintro i fu g hi ⟨g1, g2⟩
    have g1 : only (fun j k => j = 43 ∧ k = 6) gA g := g1
    have og : only csc h0 g := only_trans oA (only_mono (fun j k a => by unfold csc; omega) g1)
    have hcg := CI_scr og hc0
    have e4 : gL g 43 4 = fr := (o_L g1 (by omega)).trans a4
    have nx : rcM (xF X) (xS X) du (i + 1) = max (rcM (xF X) (xS X) du i) (if frA (xF X) (xS X) i = true then du i else 0) := rfl
    have bi := (rcM_ok (F := xF X) (S := xS X) hd99 i).1
    have di := hd99 i
    have hh : f_X10_holds (gL g 43 4) (nI i) = if frA (xF X) (xS X) i = true then 1 else 0 := by rw [e4, holds_k _ hi, hfr]
    have e47 : gI g (46 + 1) i = nI (du i) := (hcg.2.2.2.2.1.1 i hi).trans (hdu i hi)
    have n36 : ¬ (36 : Int32) ≤ nI i := nI_ge (b := 36) hi (by decide)
    cases hf : frA (xF X) (xS X) i with
    | false =>
      rw [hf, if_neg (by decide)] at nx
      rw [hf] at hh
      refine Or.inr ⟨sI g 43 6 (nI (rcM (xF X) (xS X) du (i + 1))), ⟨only_trans g1 (only_sI ⟨rfl, rfl⟩), by rw [gI_sI, if_pos ⟨rfl, rfl⟩]⟩, fun z hz => ?_⟩
      have hz : f_X7_seek_L55 LF fu _ (sI g 43 6 (nI (rcM (xF X) (xS X) du (i + 1)))) 43 46 (nI (i + 1)) = z := hz
      show f_X7_seek_L55 LF (fu + 1) _ g 43 46 (nI i) = z
      unfold f_X7_seek_L55
      rw [if_neg n36, if_pos iO_43, if_pos (by rw [hh]; rfl), g2, show mxI (nI (rcM (xF X) (xS X) du i)) 0 = nI (rcM (xF X) (xS X) du (i + 1)) by rw [show (0 : Int32) = nI 0 from rfl, mxI_n (by omega) (by omega), nx], nI_p1]
      exact hz
    | true =>
      rw [hf, if_pos rfl] at nx
      rw [hf] at hh
      refine Or.inr ⟨sI g 43 6 (nI (rcM (xF X) (xS X) du (i + 1))), ⟨only_trans g1 (only_sI ⟨rfl, rfl⟩), by rw [gI_sI, if_pos ⟨rfl, rfl⟩]⟩, fun z hz => ?_⟩
      have hz : f_X7_seek_L55 LF fu _ (sI g 43 6 (nI (rcM (xF X) (xS X) du (i + 1)))) 43 46 (nI (i + 1)) = z := hz
      show f_X7_seek_L55 LF (fu + 1) _ g 43 46 (nI i) = z
      unfold f_X7_seek_L55
      rw [if_neg n36, if_pos iO_43, if_neg (by rw [hh]; exact i10), if_pos iO_46, dustAt_k hcg.1 (by decide) hi, Option.bind_some, e47, g2, mxI_n (by omega) (by omega), ← nx, nI_p1]
      exact hz
def bL (b : Nat × Nat × (Nat → Nat)) (n : Nat) : List Int64 := (List.range n).map (fun q => (nI (b.2.2 q)).toInt64)
theorem bL_s (b : Nat × Nat × (Nat → Nat)) (n : Nat) : bL b (n + 1) = bL b n ++ [(nI (b.2.2 n)).toInt64] := by
  unfold bL
  rw [List.range_succ, List.map_append]; rfl
theorem bL_n (b : Nat × Nat × (Nat → Nat)) (n : Nat) : (bL b n).length = n := by unfold bL; rw [List.length_map, List.length_range]
theorem best_CL {P : Option (eH × Int32) → Prop} {k70 : eH → Nat → Option (eH × Int32)} {h g0 : eH} {b : Nat × Nat × (Nat → Nat)} (hR : RefsOK h) (hb : b.1 ≤ 600 ∧ b.2.1 ≤ 6) (og : only cscW h g0) (hw : CW g0 []) (hB : BC g0 b) (y : ∀ g, only cscW h g → CW g (bL b b.2.1) → BC g b → P (k70 g 0)) : P (f_X10_best_L37 LF e_fu k70 g0 0 0) := by
  refine lpF (N := b.2.1) (s := g0) (run := fun fu (g : eH) i => f_X10_best_L37 LF fu k70 g 0 (nI i)) (Inv := fun i g => only cscW h g ∧ CW g (bL b i) ∧ BC g b) (Post := P) (by omega) ⟨og, hw, hB⟩ ?_ ?_
  · rintro fu g ⟨g1, g2, g3⟩
    have hRg := only_refs g1 hR
    show P (f_X10_best_L37 LF (fu + 1) k70 g 0 (nI b.2.1))
    unfold f_X10_best_L37
    rw [if_pos iO_0, r_0_6 hRg, Option.bind_some, if_pos iO_43, g3.2.1, if_pos (nI_le (Nat.le_refl _) (by omega))]
    exact y g g1 g2 g3
  · rintro i fu g hi ⟨g1, g2, g3⟩
    have g1 : only cscW h g := g1
    have g2 : CW g (bL b i) := g2
    have hRg := only_refs g1 hR
    obtain ⟨g', r1, r2, r3⟩ := rowadd_C hRg g2 (by rw [bL_n]; omega) ((nI (b.2.2 i)).toInt64)
    refine Or.inr ⟨g', ⟨only_trans g1 (row_w r3), by rw [bL_s]; exact r2, (o_I r3 (by omega)).trans g3.1, (o_I r3 (by omega)).trans g3.2.1, fun q hq => (o_I r3 (by omega)).trans (g3.2.2 q hq)⟩, fun z hz => ?_⟩
    show f_X10_best_L37 LF (fu + 1) k70 g 0 (nI i) = z
    have ef : f_X7_foundAt LF g 43 (nI i) = some (nI (b.2.2 i)) := by
      unfold f_X7_foundAt
      rw [if_neg (nI_pos (by omega)), if_neg (show ¬ (6 : Int32) ≤ nI i from nI_ge (b := 6) (by omega) (by decide)), if_pos iO_43, r_43_1 hRg, Option.bind_some, iA_45, if_pos (in_nI (by omega) (by decide)), nI_clamp (by omega), g3.2.2 i hi]
    unfold f_X10_best_L37
    rw [if_pos iO_0, r_0_6 hRg, Option.bind_some, if_pos iO_43, g3.2.1, if_neg (nI_ge hi (by omega)), r_0_1 hRg, Option.bind_some, Option.bind_some, if_pos iO_43, ef, Option.bind_some, if_pos iO_3, r1, Option.bind_some, nI_p1]
    exact hz
theorem best_ML {P : Option (eH × Int32) → Prop} {k84 : eH → Nat → Option (eH × Int32)} {h g0 : eH} {b : Nat × Nat × (Nat → Nat)} (hR : RefsOK h) (hb : b.1 ≤ 600 ∧ b.2.1 ≤ 6) (og : only mscW h g0) (hw : MW g0 []) (hB : BM g0 b) (y : ∀ g, only mscW h g → MW g (bL b b.2.1) → BM g b → P (k84 g 73)) : P (f_X11_best_L59 LF e_fu k84 g0 73 0) := by
  refine lpF (N := b.2.1) (s := g0) (run := fun fu (g : eH) i => f_X11_best_L59 LF fu k84 g 73 (nI i)) (Inv := fun i g => only mscW h g ∧ MW g (bL b i) ∧ BM g b) (Post := P) (by omega) ⟨og, hw, hB⟩ ?_ ?_
  · rintro fu g ⟨g1, g2, g3⟩
    show P (f_X11_best_L59 LF (fu + 1) k84 g 73 (nI b.2.1))
    unfold f_X11_best_L59
    rw [if_pos iO_73, g3.2.1, if_pos (nI_le (Nat.le_refl _) (by omega))]
    exact y g g1 g2 g3
  · rintro i fu g hi ⟨g1, g2, g3⟩
    have g1 : only mscW h g := g1
    have g2 : MW g (bL b i) := g2
    have hRg := only_refs g1 hR
    obtain ⟨g', r1, r2, r3⟩ := rowadd_M hRg g2 (by rw [bL_n]; omega) ((nI (b.2.2 i)).toInt64)
    refine Or.inr ⟨g', ⟨only_trans g1 (rowm_w r3), by rw [bL_s]; exact r2, (o_I r3 (by omega)).trans g3.1, (o_I r3 (by omega)).trans g3.2.1, fun q hq => (o_I r3 (by omega)).trans (g3.2.2 q hq)⟩, fun z hz => ?_⟩
    show f_X11_best_L59 LF (fu + 1) k84 g 73 (nI i) = z
    unfold f_X11_best_L59
    rw [if_pos iO_73, g3.2.1, if_neg (nI_ge hi (by omega)), r_73_33 hRg, Option.bind_some, iA_90, if_pos (in_nI (by omega) (by decide)), nI_clamp (by omega), g3.2.2 i hi, r1, Option.bind_some, nI_p1]
    exact hz
theorem best_P {B : Nat} {h : eH} {X : AX} (hc : CI h X) (hm : MI h X) (ho : okX B X) (v : Int32) : PR B (f_X10_best LF h 0 v) (fun h1 => f_X11_best LF h1 73 v) := by
  have in6 : f_X11_in v.toInt64 0 6 = if v < 0 then 0 else if nI 6 < v then 0 else 1 := in_00 v 6
  have h36 := nF_le ho.1
  obtain ⟨p, hp⟩ := hc.2.1
  rcases pos_le v 6 (by decide) with hv | ⟨hv, hv2, hv3⟩ | ⟨N, hN, rfl⟩
  · refine PR_no hc hm ho (r := -1) ?_ (fun h1 hR h9 => ?_)
    · unfold f_X10_best; rw [if_pos hv]
    · show f_X11_best LF h1 73 v = _
      unfold f_X11_best; rw [if_pos iO_73, in6, if_pos hv, if_pos rfl]
  · refine PR_no hc hm ho (r := -1) ?_ (fun h1 hR h9 => ?_)
    · unfold f_X10_best; rw [if_neg hv, if_neg (show ¬ v ≤ 6 from hv2)]
    · show f_X11_best LF h1 73 v = _
      unfold f_X11_best; rw [if_pos iO_73, in6, if_neg hv, if_pos hv3, if_pos rfl]
  · have hin : ¬ f_X11_in (nI N).toInt64 0 6 = 0 := by rw [in6, if_neg (nI_pos (by omega)), if_neg (nI_nlt hN (by omega))]; exact i10
    obtain ⟨sp, a1, a2, a3, a4⟩ := ho.2.2.2.1.1
    have hsp := kF_lt a2
    obtain ⟨du, hdu, hd99⟩ : ∃ du : Nat → Nat, (∀ j, j < 36 → xS X j = nI (du j)) ∧ ∀ j, du j ≤ 99 := by
      refine ⟨fun j => if j < 36 then duA2 (xS X) j else 0, fun j hj => ?_, fun j => ?_⟩
      · obtain ⟨d, d1, d2, d3⟩ := ho.2.2.2.1.2.2.2.2.1 j hj
        show _ = nI (if j < 36 then duA2 (xS X) j else 0)
        rw [if_pos hj]
        unfold duA2
        rw [d2, nI_clamp (by omega)]
      · show (if j < 36 then duA2 (xS X) j else 0) ≤ 99
        by_cases hj : j < 36
        · obtain ⟨d, d1, d2, d3⟩ := ho.2.2.2.1.2.2.2.2.1 j hj
          rw [if_pos hj]
          unfold duA2
          rw [d2, nI_clamp (by omega)]; exact d1
        · rw [if_neg hj]; omega
    obtain ⟨g, x1, x2, x3⟩ := seek_C hc ho hp hN hdu hd99 hsp a4
    have hb := bSr_ok (F := xF X) (S := xS X) hd99 N sp 0 0 (fun t => decide (t = sp)) (fun _ => 0) (0, 0, fun _ => 0) (by omega) (by omega) ⟨by show 0 ≤ 600; omega, by show 0 ≤ 6; omega⟩
    have gat : ∀ g, SM g (xF X) (xS X) → gI g 73 35 = -1 → ∃ g', f_X11_gathers LF g 73 (nI sp) 0 (nI N) (f_X10_bit (nI sp)) 0 = some g' ∧ BM g' (bSr (xF X) (xS X) du N sp 0 0 (fun t => decide (t = sp)) (fun _ => 0) (0, 0, fun _ => 0)) ∧ PM g' 0 (fun _ => 0) ∧ only gwW g g' := fun g hS h35 => gat_C ho.1 hdu hd99 hN N 100 0 (by omega) g sp 0 0 (fun t => decide (t = sp)) (f_X10_bit (nI sp)) (fun _ => 0) (0, 0, fun _ => 0) hsp (by omega) (by omega) (fun j hj => bit_tb a1 j) hS (Or.inr ⟨h35, rfl⟩) (fun q hq => absurd hq (Nat.not_lt_zero q)) ⟨by show 0 ≤ 600; omega, by show 0 ≤ 6; omega⟩
    generalize bSr (xF X) (xS X) du N sp 0 0 (fun t => decide (t = sp)) (fun _ => 0) (0, 0, fun _ => 0) = b at x3 hb gat
    have hc0 : CI (sR (sR h 43 2 (some p)) 43 3 (some 46)) X := CI_sR (Or.inr rfl) (CI_sR (Or.inl rfl) hc)
    have hv0 : ∀ j k, gI (sR (sR h 43 2 (some p)) 43 3 (some 46)) j k = gI h j k ∧ gL (sR (sR h 43 2 (some p)) 43 3 (some 46)) j k = gL h j k := fun j k => ⟨rfl, rfl⟩
    generalize sR (sR h 43 2 (some p)) 43 3 (some 46) = h0 at x2 hc0 hv0
    refine PR_mk2 hm (X' := setW X (bL b b.2.1)) (r := nI b.1) ?_ (fun h1 hR h9 => ?_) ?_
    · have hRg := only_refs x2 hc0.1
      obtain ⟨b1, b2⟩ := rowbeg_C g
      have ob : only (fun j _ => j = 3 ∨ j = 4) g (sI g 3 1 0) := only_sI (Or.inl rfl)
      have BCb : BC (sI g 3 1 0) b := ⟨(o_I ob (by omega)).trans x3.1, (o_I ob (by omega)).trans x3.2.1, fun q hq => (o_I ob (by omega)).trans (x3.2.2 q hq)⟩
      unfold f_X10_best
      rw [if_neg (nI_pos (by omega)), if_pos (show nI N ≤ 6 from nI_le (b := 6) hN (by decide)), if_pos iO_0, r_0_6 hc.1, Option.bind_some, hp.2.1, Option.bind_some, r_0_7 hc.1, Option.bind_some, if_pos iO_43, x1, Option.bind_some, r_0_1 hRg, Option.bind_some, if_pos iO_3, b1, Option.bind_some]
      refine best_CL (P := fun r => ∃ h1, r = some (h1, nI b.1) ∧ CI h1 (setW X (bL b b.2.1)) ∧ ∀ j k, ¬ cls j k → gI h1 j k = gI h j k ∧ gL h1 j k = gL h j k) hc0.1 hb (only_trans (csc_w x2) (row_w ob)) b2 BCb (fun ge e1 e2 e3 => ⟨ge, ?_, CI_row e1 e2 hc0, fun j k hW => ?_⟩)
      · have hRe := only_refs e1 hc0.1
        rw [if_pos iO_0, r_0_6 hRe, Option.bind_some, if_pos iO_43, e3.1]
      · have := e1.1 j k (fun a => hW (cscW_cls a))
        exact ⟨this.1.trans (hv0 j k).1, this.2.trans (hv0 j k).2⟩
    · have o35 : only msc h1 (sI (sI (sI h1 73 0 0) 73 35 (-1)) 73 34 0) := only_trans thr_M (only_trans (only_sI (by unfold msc; omega)) (only_sI (by unfold msc; omega)))
      have e35 : gI (sI (sI (sI h1 73 0 0) 73 35 (-1)) 73 34 0) 73 35 = -1 := by rw [gI_sI, if_neg (by omega), gI_sI, if_pos ⟨rfl, rfl⟩]
      have i72 : inA LF 76 0 72 = true := (iM (Or.inl rfl)).1
      show ∃ h2, f_X11_best LF h1 73 (nI N) = _ ∧ _
      unfold f_X11_best
      rw [if_pos iO_73, if_neg hin]
      generalize sI (sI (sI h1 73 0 0) 73 35 (-1)) 73 34 0 = ga at o35 e35
      have hRa := only_refs o35 hR
      have hma := MI_scr o35 h9
      have e72 : gI ga 76 72 = nI sp := (MS_0 hma.2.2.2.2.1 (by omega)).trans a4
      obtain ⟨g5, y1, y2, y3, y4⟩ := gat ga ⟨hRa, hma.1, hma.2.2.2.2.1⟩ e35
      rw [r_73_7 hRa, Option.bind_some, if_pos i72, Option.bind_some, if_pos i72, c72, e72, sh1 a1, y1, Option.bind_some]
      have ob : only (fun j k => (j = 73 ∧ k = 1) ∨ j = 74) g5 (sI g5 73 1 0) := only_sI (Or.inl ⟨rfl, rfl⟩)
      have BMb : BM (sI g5 73 1 0) b := ⟨(o_I ob (by omega)).trans y2.1, (o_I ob (by omega)).trans y2.2.1, fun q hq => (o_I ob (by omega)).trans (y2.2.2 q hq)⟩
      have o5 : only mscW h1 (sI g5 73 1 0) := only_trans (msc_w o35) (only_trans (only_mono (fun j k a => by unfold gwW at a; unfold mscW msc; omega) y4) (rowm_w ob))
      refine best_ML (P := fun r => ∃ h2, r = some (h2, nI b.1) ∧ MI h2 (setW X (bL b b.2.1)) ∧ only mdl h1 h2) hR hb o5 (rowbeg_M g5) BMb (fun ge e1 e2 e3 => ⟨ge, ?_, MI_row e1 e2 h9, only_mono (fun _ _ => mscW_mdl) e1⟩)
      rw [if_pos iO_73, e3.1]
    · obtain ⟨o1, o2, o3, o4, o5, o6, o7, o8⟩ := okX_mono (show B ≤ B + 300 by omega) ho
      exact ⟨o1, o2, o3, o4, o5, o6, o7, by show (bL b b.2.1).length ≤ 37; rw [bL_n]; omega⟩

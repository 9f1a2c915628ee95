/-! rule: the reference's ranks and nests -/
theorem fg11_0 (n : Nat) (h : eH) (x0 : Nat) (x1 : Int32) : fg_X11_readsRank LF (n + 1) 0 h x0 x1 = f_X11_readsRank_o LF (fun h y0 => fg_X11_readsRank LF n 1 h y0 0) (fun h y0 y1 => fg_X11_readsRank LF n 0 h y0 y1) h x0 x1 := by
  rw [fg_X11_readsRank]; rw [if_pos rfl]
theorem fg11_1 (n : Nat) (h : eH) (x0 : Nat) (x1 : Int32) : fg_X11_readsRank LF (n + 1) 1 h x0 x1 = f_X11_readsThing_o LF (fun h y0 => fg_X11_readsRank LF n 1 h y0 0) (fun h y0 y1 => fg_X11_readsRank LF n 0 h y0 y1) h x0 := by
  rw [fg_X11_readsRank]; rw [if_neg (by decide)]
theorem thing_M {c : Nat → Nat} {lim dep n : Nat} {E : Option (Nat → Rs)} (h40 : lim ≤ 40) (hd4 : dep ≤ 4) (hE4 : E = none ↔ dep = 4) (hrec : ∀ e, E = some e → okP lim e ∧ ∀ K, MSp c lim K (dep + 1) (fun g => fg_X11_readsRank LF (n + K) 0 g 73 0) e) : ∀ f, MSp c lim f dep (fun g => fg_X11_readsRank LF (n + f + 1) 1 g 73 0) (sgP c lim E f) := by
  have hE : ∀ e, E = some e → okP lim e := fun e h => (hrec e h).1
  intro f
  induction f with
  | zero =>
    intro g a l hR hq h13 hK hl
    have := thingP_M (recT := fun h y0 => fg_X11_readsRank LF (n + 0) 1 h y0 0) (recR := fun h y0 y1 => fg_X11_readsRank LF (n + 0) 0 h y0 y1) h40 hd4 hE4 (fun e h => ⟨(hrec e h).1, (hrec e h).2 0⟩) hR hq h13 hK hl (by omega)
    show ∃ g' x, fg_X11_readsRank LF (n + 0 + 1) 1 g 73 0 = some (g', if (prm c lim E a).1 then 1 else 0) ∧ _
    rw [fg11_1]
    exact this
  | succ f ih =>
    intro g a l hR hq h13 hK hl
    have aL := hq.1.2.2.2.2
    by_cases q : a < lim ∧ c a = 45
    · have tk : f_X11_takes LF g 73 45 = some (sI g 73 11 (nI (a + 1)), 1) := by
        rcases takes_M (w := 45) hR hq.1 (by decide) with ⟨b1, b2⟩ | ⟨b1, b2⟩
        · exact b2
        · exact absurd q b1
      obtain ⟨q1, o1⟩ := MQ_11 (a' := a + 1) hq (by omega)
      obtain ⟨g2, x, y1, y2, y3, y4, y5, y6⟩ := ih _ (a + 1) l (refs_sI hR) q1 (by rw [gI_sI, if_neg (by omega)]; exact h13) (by omega) (by omega)
      have y1 : fg_X11_readsRank LF (n + f + 1) 1 (sI g 73 11 (nI (a + 1))) 73 0 = some (g2, if (sgP c lim E f (a + 1)).1 then 1 else 0) := y1
      have okA := sgP_ok (c := c) hE f (a + 1) (by omega)
      rw [sgP_m q]
      show ∃ g' x, fg_X11_readsRank LF (n + (f + 1) + 1) 1 g 73 0 = some (g', if (sgP c lim E f (a + 1)).1 then 1 else 0) ∧ RD g' c lim (sgP c lim E f (a + 1)).2.1 ∧ gI g' 73 20 = nI x ∧ x + a ≤ l.length + (sgP c lim E f (a + 1)).2.1 ∧ ((sgP c lim E f (a + 1)).1 = true → MQr g' c lim (sgP c lim E f (a + 1)).2.1 (l ++ ((sgP c lim E f (a + 1)).2.2 ++ [3000])) ∧ gI g' 73 13 = nI dep) ∧ only mqW g g'
      rw [show n + (f + 1) + 1 = (n + f + 1) + 1 by omega, fg11_1]
      have hR2 : RefsOK g2 := only_refs y6 (refs_sI hR)
      generalize sgP c lim E f (a + 1) = r at y1 y2 y4 y5 okA ⊢
      have o3 := codes_o (g := g2) (x := x) (v := 3000)
      have run : f_X11_readsThing_o LF (fun h y0 => fg_X11_readsRank LF (n + f + 1) 1 h y0 0) (fun h y0 y1 => fg_X11_readsRank LF (n + f + 1) 0 h y0 y1) g 73 = some (sI (sI g2 81 x 3000) 73 20 (nI (x + 1)), if r.1 = true then 1 else 0) := by
        unfold f_X11_readsThing_o
        rw [if_pos iO_73, tk, Option.bind_some]
        show (if (1 : Int32) = 0 then _ else (fg_X11_readsRank LF (n + f + 1) 1 (sI g 73 11 (nI (a + 1))) 73 0).bind fun r20 => (f_X11_codes LF r20.1 73 3000).bind fun r22 => if isB r20.2 = true then some (r22, r20.2) else none) = _
        rw [if_neg i10, y1, Option.bind_some]
        show ((f_X11_codes LF g2 73 3000).bind fun r22 => if isB (if r.1 = true then (1 : Int32) else 0) = true then some (r22, if r.1 = true then (1 : Int32) else 0) else none) = _
        rw [codes_x hR2 y3 (by omega), Option.bind_some, if_pos (isB_01 _)]
      refine ⟨_, x + 1, run, RD_only o3 (by omega) (by omega) (fun k => by omega) y2, by rw [gI_sI, if_pos ⟨rfl, rfl⟩], by omega, fun h => ?_, only_trans o1 (only_trans y6 (only_mono (fun j k a => by unfold mqW; omega) o3))⟩
      obtain ⟨z1, z2⟩ := y5 h
      have ol := okA.2.2 h
      obtain ⟨g3, w1, w2, w3, w4⟩ := codes_M (k := 3000) (v := 3000) hR2 z1 (by rw [List.length_append]; omega) rfl
      rw [codes_x hR2 y3 (by omega)] at w1
      have w1 := Option.some.inj w1
      rw [w1, ← List.append_assoc]
      exact ⟨w2, w3.trans z2⟩
    · have := thingP_M (recT := fun h y0 => fg_X11_readsRank LF (n + (f + 1)) 1 h y0 0) (recR := fun h y0 y1 => fg_X11_readsRank LF (n + (f + 1)) 0 h y0 y1) h40 hd4 hE4 (fun e h => ⟨(hrec e h).1, (hrec e h).2 (f + 1)⟩) hR hq h13 hK hl q
      rw [sgP_p q]
      show ∃ g' x, fg_X11_readsRank LF (n + (f + 1) + 1) 1 g 73 0 = some (g', if (prm c lim E a).1 then 1 else 0) ∧ _
      rw [fg11_1]
      exact this
theorem rank3_M {c : Nat → Nat} {lim K dep : Nat} {P : Nat → Rs} {recT : eH → Nat → Option (eH × Int32)} {recR : eH → Nat → Int32 → Option (eH × Int32)} (hrec : MSp c lim K dep (fun g => recT g 73) P) : MSp c lim K dep (fun g => f_X11_readsRank_o LF recT recR g 73 3) P := by
  intro g a l hR hq h13 hK hl
  obtain ⟨g1, x, x1, x2⟩ := hrec g a l hR hq h13 hK hl
  have x1 : recT g 73 = some (g1, if (P a).1 then 1 else 0) := x1
  refine ⟨g1, x, ?_, x2⟩
  show f_X11_readsRank_o LF recT recR g 73 3 = _
  unfold f_X11_readsRank_o
  rw [if_pos rfl, if_pos iO_73, x1, Option.bind_some, if_pos (isB_01 _)]
theorem rkL_M {c : Nat → Nat} {lim K dep lv : Nat} {P : Nat → Rs} {recT : eH → Nat → Option (eH × Int32)} {recR : eH → Nat → Int32 → Option (eH × Int32)} (h40 : lim ≤ 40) (h3 : lv < 3) (hP : okP lim P) (hrec : MSp c lim K dep (fun g => recR g 73 (nI (lv + 1))) P) : ∀ (n fu a : Nat) (g : eH) (l : List Nat), (lv = 0 → n = 1) → (lv ≠ 0 → lim < n + a) → RefsOK g → MQr g c lim a l → gI g 73 13 = nI dep → lim - a ≤ K → l.length ≤ a → ∃ g' x, f_X11_readsRank_o_L24 LF recT recR (fu + n + 2) (fun (h13 : eH) => some (h13, 1)) (fun (h14 : eH) => some (h14, 0)) (fun (h15 : eH) => some (h15, 1)) g 73 (nI lv) 1 = some (g', if (rpP c lim P lv n a).1 then 1 else 0) ∧ RD g' c lim (rpP c lim P lv n a).2.1 ∧ gI g' 73 20 = nI x ∧ x + a ≤ l.length + (rpP c lim P lv n a).2.1 ∧ ((rpP c lim P lv n a).1 = true → MQr g' c lim (rpP c lim P lv n a).2.1 (l ++ (rpP c lim P lv n a).2.2) ∧ gI g' 73 13 = nI dep) ∧ only mqW g g' := by
  intro n
  induction n with
  | zero =>
    intro fu a g l n1 n2 hR hq h13 hK hl
    have aL := hq.1.2.2.2.2
    by_cases z : lv = 0
    · have := n1 z; omega
    · have := n2 z; omega
  | succ n ih =>
    intro fu a g l n1 n2 hR hq h13 hK hl
    have aL := hq.1.2.2.2.2
    have un : f_X11_readsRank_o_L24 LF recT recR (fu + (n + 1) + 2) (fun (h13 : eH) => some (h13, 1)) (fun (h14 : eH) => some (h14, 0)) (fun (h15 : eH) => some (h15, 1)) g 73 (nI lv) 1 = f_X11_readsRank_o_J50 LF recT recR (f_X11_readsRank_o_L24 LF recT recR (fu + n + 2) (fun (h13 : eH) => some (h13, 1)) (fun (h14 : eH) => some (h14, 0)) (fun (h15 : eH) => some (h15, 1))) (fun (h13 : eH) => some (h13, 1)) (fun (h14 : eH) => some (h14, 0)) (fun (h15 : eH) => some (h15, 1)) g 73 (nI lv) 73 (e_str + (3 + lv)) := by
      show (if (1 : Int32) = 0 then _ else if nI lv = 0 then f_X11_readsRank_o_J50 LF recT recR (f_X11_readsRank_o_L24 LF recT recR (fu + n + 2) (fun (h13 : eH) => some (h13, 1)) (fun (h14 : eH) => some (h14, 0)) (fun (h15 : eH) => some (h15, 1))) (fun (h13 : eH) => some (h13, 1)) (fun (h14 : eH) => some (h14, 0)) (fun (h15 : eH) => some (h15, 1)) g 73 (nI lv) 73 (e_str + 3) else if nI lv = 1 then f_X11_readsRank_o_J50 LF recT recR (f_X11_readsRank_o_L24 LF recT recR (fu + n + 2) (fun (h13 : eH) => some (h13, 1)) (fun (h14 : eH) => some (h14, 0)) (fun (h15 : eH) => some (h15, 1))) (fun (h13 : eH) => some (h13, 1)) (fun (h14 : eH) => some (h14, 0)) (fun (h15 : eH) => some (h15, 1)) g 73 (nI lv) 73 (e_str + 4) else f_X11_readsRank_o_J50 LF recT recR (f_X11_readsRank_o_L24 LF recT recR (fu + n + 2) (fun (h13 : eH) => some (h13, 1)) (fun (h14 : eH) => some (h14, 0)) (fun (h15 : eH) => some (h15, 1))) (fun (h13 : eH) => some (h13, 1)) (fun (h14 : eH) => some (h14, 0)) (fun (h15 : eH) => some (h15, 1)) g 73 (nI lv) 73 (e_str + 5)) = _
      rw [if_neg i10]
      rcases (show lv = 0 ∨ lv = 1 ∨ lv = 2 by omega) with rfl | rfl | rfl
      · rw [if_pos (show nI 0 = 0 from rfl)]
      · rw [if_neg (show ¬ nI 1 = 0 by decide), if_pos (show nI 1 = 1 from rfl)]
      · rw [if_neg (show ¬ nI 2 = 0 by decide), if_neg (show ¬ nI 2 = 1 by decide)]
    rw [un]
    generalize hK24 : f_X11_readsRank_o_L24 LF recT recR (fu + n + 2) (fun (h13 : eH) => some (h13, (1 : Int32))) (fun (h14 : eH) => some (h14, 0)) (fun (h15 : eH) => some (h15, 1)) = K24
    unfold f_X11_readsRank_o_J50
    rw [if_pos iO_73]
    rcases takesOf_M hR hq.1 (show 3 + lv < 7 by omega) with ⟨i, t1, t2, t3, t4, t5⟩ | ⟨t1, t2⟩
    · obtain ⟨op, i5⟩ := ref_op h3 (hq.1.2.2.1 a t1).2 t2 t3
      obtain ⟨q1, o1⟩ := MQ_11 (a' := a + 1) hq (by omega)
      obtain ⟨g2, x, y1, y2, y3, y4, y5, y6⟩ := hrec _ (a + 1) l (refs_sI hR) q1 (by rw [gI_sI, if_neg (by omega)]; exact h13) (by omega) (by omega)
      have y1 : recR (sI g 73 11 (nI (a + 1))) 73 (nI (lv + 1)) = some (g2, if (P (a + 1)).1 then 1 else 0) := y1
      have hR2 : RefsOK g2 := only_refs y6 (refs_sI hR)
      have okA := hP (a + 1) (by omega)
      rw [rpP_k t1 op, t5, Option.bind_some]
      show ∃ g' x, (if (0 : Int32) ≤ nI i then if isO LF 73 11 = true then (recR (sI g 73 11 (nI (a + 1))) 73 (nI lv + 1)).bind fun r8 => if r8.2 = 0 then some (r8.1, (0 : Int32)) else if nI lv = 0 then f_X11_readsRank_o_J96 LF recT recR K24 (fun (h13 : eH) => some (h13, 1)) (fun (h14 : eH) => some (h14, 0)) (fun (h15 : eH) => some (h15, 1)) r8.1 73 (nI lv) 73 (2000 + nI i) 0 else if nI lv = 1 then f_X11_readsRank_o_J96 LF recT recR K24 (fun (h13 : eH) => some (h13, 1)) (fun (h14 : eH) => some (h14, 0)) (fun (h15 : eH) => some (h15, 1)) r8.1 73 (nI lv) 73 (2000 + nI i) 3 else f_X11_readsRank_o_J96 LF recT recR K24 (fun (h13 : eH) => some (h13, 1)) (fun (h14 : eH) => some (h14, 0)) (fun (h15 : eH) => some (h15, 1)) r8.1 73 (nI lv) 73 (2000 + nI i) 5 else none else _) = _ ∧ _
      rw [if_pos (show (0 : Int32) ≤ nI i from nI_le (a := 0) (by omega) (by omega)), if_pos iO_73, show nI lv + 1 = nI (lv + 1) from nI_add lv 1, y1, Option.bind_some]
      generalize hkk : 2000 + i + (if lv = 0 then 0 else if lv = 1 then 3 else 5) = kk at op ⊢
      have e96 : (if nI lv = 0 then f_X11_readsRank_o_J96 LF recT recR K24 (fun (h13 : eH) => some (h13, 1)) (fun (h14 : eH) => some (h14, 0)) (fun (h15 : eH) => some (h15, 1)) g2 73 (nI lv) 73 (2000 + nI i) 0 else if nI lv = 1 then f_X11_readsRank_o_J96 LF recT recR K24 (fun (h13 : eH) => some (h13, 1)) (fun (h14 : eH) => some (h14, 0)) (fun (h15 : eH) => some (h15, 1)) g2 73 (nI lv) 73 (2000 + nI i) 3 else f_X11_readsRank_o_J96 LF recT recR K24 (fun (h13 : eH) => some (h13, 1)) (fun (h14 : eH) => some (h14, 0)) (fun (h15 : eH) => some (h15, 1)) g2 73 (nI lv) 73 (2000 + nI i) 5) = (f_X11_codes LF g2 73 (nI kk)).bind fun r11 => if lv = 0 then K24 r11 73 (nI lv) 0 else K24 r11 73 (nI lv) 1 := by
        unfold f_X11_readsRank_o_J96
        rw [show (2000 : Int32) + nI i = nI (2000 + i) from nI_add 2000 i, if_pos iO_73]
        rcases (show lv = 0 ∨ lv = 1 ∨ lv = 2 by omega) with rfl | rfl | rfl
        · rw [if_pos (show nI 0 = 0 from rfl), show nI (2000 + i) + 0 = nI kk by rw [← hkk]; exact nI_add _ 0]
          rfl
        · rw [if_neg (show ¬ nI 1 = 0 by decide), if_pos (show nI 1 = 1 from rfl), show nI (2000 + i) + 3 = nI kk by rw [← hkk]; exact nI_add _ 3]
          rfl
        · rw [if_neg (show ¬ nI 2 = 0 by decide), if_neg (show ¬ nI 2 = 1 by decide), show nI (2000 + i) + 5 = nI kk by rw [← hkk]; exact nI_add _ 5]
          rfl
      show ∃ g' x, (if (if (P (a + 1)).1 = true then (1 : Int32) else 0) = 0 then some (g2, (0 : Int32)) else if nI lv = 0 then f_X11_readsRank_o_J96 LF recT recR K24 (fun (h13 : eH) => some (h13, 1)) (fun (h14 : eH) => some (h14, 0)) (fun (h15 : eH) => some (h15, 1)) g2 73 (nI lv) 73 (2000 + nI i) 0 else if nI lv = 1 then f_X11_readsRank_o_J96 LF recT recR K24 (fun (h13 : eH) => some (h13, 1)) (fun (h14 : eH) => some (h14, 0)) (fun (h15 : eH) => some (h15, 1)) g2 73 (nI lv) 73 (2000 + nI i) 3 else f_X11_readsRank_o_J96 LF recT recR K24 (fun (h13 : eH) => some (h13, 1)) (fun (h14 : eH) => some (h14, 0)) (fun (h15 : eH) => some (h15, 1)) g2 73 (nI lv) 73 (2000 + nI i) 5) = _ ∧ _
      rw [e96]
      unfold rpK
      have o5 : only mqW g g2 := only_trans o1 y6
      generalize P (a + 1) = r at y2 y4 y5 okA ⊢
      by_cases h1 : r.1 = true
      · obtain ⟨z1, z2⟩ := y5 h1
        have ol := okA.2.2 h1
        obtain ⟨g3, w1, w2, w3, w4⟩ := codes_M (k := kk) (v := nI kk) hR2 z1 (by rw [List.length_append]; omega) rfl
        rw [if_pos h1, if_neg i10, if_pos h1, w1, Option.bind_some]
        by_cases lz : lv = 0
        · have n0 : n = 0 := by have := n1 lz; omega
          rw [if_pos lz, ← hK24, n0]
          refine ⟨g3, (l ++ r.2.2 ++ [kk]).length, rfl, w2.1, w2.2.1, ?_, fun _ => ⟨?_, w3.trans z2⟩, only_trans o5 w4⟩
          · rw [List.length_append, List.length_append]
            show l.length + r.2.2.length + 1 + a ≤ l.length + r.2.1; omega
          · rw [List.append_assoc] at w2
            exact w2
        · rw [if_neg lz, ← hK24]
          obtain ⟨g4, x4, v1, v2, v3, v4, v5, v6⟩ := ih fu r.2.1 g3 (l ++ r.2.2 ++ [kk]) (fun h => absurd h lz) (fun _ => by have := n2 lz; omega) (only_refs w4 hR2) w2 (w3.trans z2) (by omega) (by rw [List.length_append, List.length_append]; show l.length + r.2.2.length + 1 ≤ r.2.1; omega)
          generalize rpP c lim P lv n r.2.1 = t at v1 v2 v4 v5 ⊢
          rw [List.length_append, List.length_append] at v4
          have v4 : x4 + r.2.1 ≤ l.length + r.2.2.length + 1 + t.2.1 := v4
          refine ⟨g4, x4, v1, v2, v3, ?_, fun h => ?_, only_trans o5 (only_trans w4 v6)⟩
          · show x4 + a ≤ l.length + t.2.1; omega
          · have := v5 h
            rw [List.append_assoc, List.append_assoc] at this
            exact this
      · rw [if_neg h1, if_pos rfl, if_neg h1]
        refine ⟨g2, x, rfl, y2, y3, ?_, (fun h => by cases h), o5⟩
        show x + a ≤ l.length + r.2.1; omega
    · have nk : a < lim → rlO lv (c a) = none := fun z => ref_no h3 (hq.1.2.2.1 a z).2 (t1 z)
      obtain ⟨q1, o1⟩ := MQ_11 (a' := a) hq aL
      rw [rpP_n nk, t2, Option.bind_some]
      show ∃ g' x, (if (0 : Int32) ≤ -1 then _ else some (sI g 73 11 (nI a), (1 : Int32))) = _ ∧ _
      rw [if_neg (by decide)]
      refine ⟨_, l.length, rfl, q1.1, q1.2.1, Nat.le_refl _, fun _ => ⟨?_, by rw [gI_sI, if_neg (by omega)]; exact h13⟩, o1⟩
      show MQr _ c lim a (l ++ [])
      rw [List.append_nil]; exact q1
theorem rank_M {c : Nat → Nat} {lim K dep lv most : Nat} {P : Nat → Rs} {recT : eH → Nat → Option (eH × Int32)} {recR : eH → Nat → Int32 → Option (eH × Int32)} (h40 : lim ≤ 40) (h3 : lv < 3) (hm : most = if lv = 0 then 1 else 40) (hP : okP lim P) (hrec : MSp c lim K dep (fun g => recR g 73 (nI (lv + 1))) P) : MSp c lim K dep (fun g => f_X11_readsRank_o LF recT recR g 73 (nI lv)) (lvP c lim P lv most) := by
  intro g a l hR hq h13 hK hl
  have aL := hq.1.2.2.2.2
  have m40 : most ≤ 40 := by rw [hm]; split <;> omega
  obtain ⟨g1, x, x1, x2, x3, x4, x5, x6⟩ := hrec g a l hR hq h13 hK hl
  have x1 : recR g 73 (nI (lv + 1)) = some (g1, if (P a).1 then 1 else 0) := x1
  have okA := hP a aL
  obtain ⟨fu, hfu⟩ : ∃ fu, e_fu = fu + most + 2 := ⟨e_fu - most - 2, by unfold e_fu; omega⟩
  show ∃ g' x, f_X11_readsRank_o LF recT recR g 73 (nI lv) = _ ∧ _
  unfold f_X11_readsRank_o
  rw [if_neg (show ¬ nI lv = 3 from fun e => by have := nI_inj (a := lv) (b := 3) (by omega) (by decide) e; omega), if_pos iO_73, show nI lv + 1 = nI (lv + 1) from nI_add lv 1, x1, Option.bind_some]
  show ∃ g' x, (if (if (P a).1 = true then (1 : Int32) else 0) = 0 then some (g1, (0 : Int32)) else f_X11_readsRank_o_L24 LF recT recR e_fu (fun (h13 : eH) => some (h13, 1)) (fun (h14 : eH) => some (h14, 0)) (fun (h15 : eH) => some (h15, 1)) g1 73 (nI lv) 1) = _ ∧ _
  unfold lvP
  by_cases h1 : (P a).1 = true
  · obtain ⟨z1, z2⟩ := x5 h1
    have o3 := okA.2.2 h1
    obtain ⟨g2, y, y1, y2, y3, y4, y5, y6⟩ := rkL_M (recT := recT) h40 h3 hP hrec most fu (P a).2.1 g1 (l ++ (P a).2.2) (fun z => by rw [hm, if_pos z]) (fun z => by rw [hm, if_neg z]; omega) (only_refs x6 hR) z1 z2 (by omega) (by rw [List.length_append]; omega)
    rw [if_pos h1, if_neg i10, if_pos h1, hfu, y1]
    generalize rpP c lim P lv most (P a).2.1 = t at y2 y4 y5 ⊢
    rw [List.length_append] at y4
    refine ⟨g2, y, rfl, y2, y3, ?_, fun h => ?_, only_trans x6 y6⟩
    · show y + a ≤ l.length + t.2.1; omega
    · have := y5 h
      rw [List.append_assoc] at this
      exact this
  · rw [if_neg h1, if_pos rfl, if_neg h1]
    exact ⟨g1, x, rfl, x2, x3, x4, (fun h => by cases h), x6⟩
theorem chain_M {c : Nat → Nat} {lim dep n : Nat} {E : Option (Nat → Rs)} (h40 : lim ≤ 40) (hd4 : dep ≤ 4) (hE4 : E = none ↔ dep = 4) (hrec : ∀ e, E = some e → okP lim e ∧ ∀ K, MSp c lim K (dep + 1) (fun g => fg_X11_readsRank LF (n + K) 0 g 73 0) e) (K : Nat) : MSp c lim K dep (fun g => fg_X11_readsRank LF (n + K + 1 + 1 + 1 + 1 + 1) 0 g 73 0) (ex0 c lim E) := by
  have hE : ∀ e, E = some e → okP lim e := fun e h => (hrec e h).1
  have t0 := thing_M h40 hd4 hE4 hrec K
  have t1 : MSp c lim K dep (fun g => fg_X11_readsRank LF (n + K + 1) 1 g 73 0) (ex3 c lim E) := fun g a l h1 h2 h3 h4 h5 => by
    have := t0 g a l h1 h2 h3 h4 h5
    rw [sgP_st K 40 a h4 (by omega)] at this
    exact this
  have t2 : MSp c lim K dep (fun g => fg_X11_readsRank LF (n + K + 1 + 1) 0 g 73 (nI 3)) (ex3 c lim E) := MSp_eq (fun g => fg11_0 (n + K + 1) g 73 (nI 3)) (rank3_M (recT := fun h y0 => fg_X11_readsRank LF (n + K + 1) 1 h y0 0) (recR := fun h y0 y1 => fg_X11_readsRank LF (n + K + 1) 0 h y0 y1) t1)
  have t3 : MSp c lim K dep (fun g => fg_X11_readsRank LF (n + K + 1 + 1 + 1) 0 g 73 (nI 2)) (ex2 c lim E) := MSp_eq (fun g => fg11_0 (n + K + 1 + 1) g 73 (nI 2)) (rank_M (lv := 2) (recT := fun h y0 => fg_X11_readsRank LF (n + K + 1 + 1) 1 h y0 0) (recR := fun h y0 y1 => fg_X11_readsRank LF (n + K + 1 + 1) 0 h y0 y1) h40 (by omega) rfl (ex3_ok hE) t2)
  have t4 : MSp c lim K dep (fun g => fg_X11_readsRank LF (n + K + 1 + 1 + 1 + 1) 0 g 73 (nI 1)) (ex1 c lim E) := MSp_eq (fun g => fg11_0 (n + K + 1 + 1 + 1) g 73 (nI 1)) (rank_M (lv := 1) (recT := fun h y0 => fg_X11_readsRank LF (n + K + 1 + 1 + 1) 1 h y0 0) (recR := fun h y0 y1 => fg_X11_readsRank LF (n + K + 1 + 1 + 1) 0 h y0 y1) h40 (by omega) rfl (ex2_ok hE) t3)
  exact MSp_eq (fun g => fg11_0 (n + K + 1 + 1 + 1 + 1) g 73 (nI 0)) (rank_M (lv := 0) (recT := fun h y0 => fg_X11_readsRank LF (n + K + 1 + 1 + 1 + 1) 1 h y0 0) (recR := fun h y0 y1 => fg_X11_readsRank LF (n + K + 1 + 1 + 1 + 1) 0 h y0 y1) h40 (by omega) rfl (ex1_ok hE) t4)
theorem nest_M {c : Nat → Nat} {lim : Nat} (h40 : lim ≤ 40) : ∀ r, r ≤ 4 → ∀ K, MSp c lim K (4 - r) (fun g => fg_X11_readsRank LF (5 * (r + 1) + K) 0 g 73 0) (ExP c lim r) := by
  intro r
  induction r with
  | zero =>
    intro hr K
    rw [show 5 * (0 + 1) + K = 0 + K + 1 + 1 + 1 + 1 + 1 by omega]
    exact chain_M (n := 0) (dep := 4) h40 (by omega) ⟨fun _ => rfl, fun _ => rfl⟩ (fun e h => by cases h) K
  | succ r ih =>
    intro hr K
    have hi := ih (by omega)
    rw [show 5 * (r + 1 + 1) + K = 5 * (r + 1) + K + 1 + 1 + 1 + 1 + 1 by omega]
    refine chain_M (n := 5 * (r + 1)) (dep := 4 - (r + 1)) (E := some (ExP c lim r)) h40 (by omega) ⟨(fun h => by cases h), (fun h => by omega)⟩ (fun e h => ?_) K
    cases h
    rw [show 4 - (r + 1) + 1 = 4 - r by omega]
    exact ⟨ExP_ok r, hi⟩

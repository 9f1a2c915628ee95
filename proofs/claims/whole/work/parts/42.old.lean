/-! The calls of the older form, told in the newer one: sign, end, keep, again, undo, turn. -/
def bigW (j k : Nat) : Prop := j = 1 ∨ j = 2 ∨ j = 6 ∨ (8 ≤ j ∧ j ≤ 37) ∨ (46 ≤ j ∧ j ≤ 49) ∨ (53 ≤ j ∧ j ≤ 58) ∨ (j = 0 ∧ k = 19) ∨ j = 76 ∨ j = 78 ∨ j = 84 ∨ j = 97 ∨ j = 98 ∨ (j = 73 ∧ (k = 0 ∨ k = 10 ∨ k = 24))
theorem PR_old {B : Nat} {h h1 h2 : eH} {r : Int32} {X : AX} {a : Option (eH × Int32)} {b : eH → Option (eH × Int32)} {T : Nat × (Nat → Nat)} {S : Nat → Int32} {U K : Nat × (Nat → Nat → Int32)} (hc : CI h X) (hm : MI h X) (ho : okX B X) (e1 : a = some (h1, r)) (e2 : b h1 = some (h2, r)) (o : only bigW h h2)
    (t : CT h2 T ∧ MT h2 T ∧ okTx T) (s : CS h2 46 S ∧ MS h2 76 0 S ∧ okA (xF X) B S) (u : CU h2 U ∧ MU h2 U ∧ okU (xF X) B U) (k : CK h2 K ∧ MK h2 K ∧ okK (xF X) B K) : PR B a b := by
  obtain ⟨c1, ⟨p, c2⟩, ⟨q, c3⟩, c4, c5, c6, c7, c8, c9⟩ := hc
  obtain ⟨m1, m2, m3, m4, m5, m6, m7, m8, m9⟩ := hm
  obtain ⟨o1, o2, o3, o4, o5, o6, o7, o8⟩ := ho
  refine ⟨h1, h2, r, (xF X, xR X, T, S, U, K, xH X, xW X), e1, e2, ⟨only_refs o c1, ⟨p, CF_only o (fun j k a b => by unfold bigW; omega) c2⟩, ⟨q, CR_only o (fun j k a => by unfold bigW; omega) c3⟩, t.1, s.1, u.1, k.1, CH_only o (fun j k a => by unfold bigW; omega) c8, CW_only o (fun j k a => by unfold bigW; omega) c9⟩, ⟨MF_only o (fun k a => by unfold bigW; omega) (fun k => by unfold bigW; omega) m1, MR_only o (by unfold bigW; omega) (fun k => by unfold bigW; omega) m2, (o_I o (by unfold bigW; omega)).trans m3, t.2.1, s.2.1, u.2.1, k.2.1, MH_only o (by unfold bigW; omega) (fun k => by unfold bigW; omega) m8, MW_only o (by unfold bigW; omega) (fun k => by unfold bigW; omega) m9⟩, okX_mono (show B ≤ B + 300 by omega) ⟨o1, o2, t.2.2, s.2.2, u.2.2, k.2.2, o7, o8⟩⟩
/-! from one form to the other -/
theorem toRT {h : eH} {X : AX} {B : Nat} (hc : CI h X) (hm : MI h X) (ho : okX B X) : RT h (xT X).1 (xT X).2 :=
  ⟨ho.2.2.1.1, hc.2.2.2.1.1, hm.2.2.2.1.1, fun k hk => ⟨ho.2.2.1.2 k hk, hc.2.2.2.1.2 k hk, hm.2.2.2.1.2 k hk⟩⟩
theorem ofRT {h : eH} {n : Nat} {t : Nat → Nat} (hr : RT h n t) : CT h (n, t) ∧ MT h (n, t) ∧ okTx (n, t) :=
  ⟨⟨hr.2.1, fun k hk => (hr.2.2.2 k hk).2.1⟩, ⟨hr.2.2.1, fun k hk => (hr.2.2.2 k hk).2.2⟩, ⟨hr.1, fun k hk => (hr.2.2.2 k hk).1⟩⟩
theorem toRS {h : eH} {X : AX} {B : Nat} (hc : CI h X) (hm : MI h X) (ho : okX B X) : RSr h 46 76 0 ∧ okS h 46 (xF X) B := ⟨A_rel hc.2.2.2.2.1 hm.2.2.2.2.1, A_ok hc.2.2.2.2.1 ho.2.2.2.1⟩
theorem toRU {h : eH} {X : AX} {B : Nat} (hc : CI h X) (hm : MI h X) (ho : okX B X) : RU h (xF X) B := by
  obtain ⟨nx, n1, n2, n3, n4⟩ := hc.2.2.2.2.2.1
  have mu := hm.2.2.2.2.2.1
  have ou := ho.2.2.2.2.1
  exact ⟨(xU X).1, nx, ou.1, n1, n3, n2, mu.1, fun j hj => ⟨A_rel (n4 j hj) (mu.2 j hj), A_ok (n4 j hj) (ou.2 j hj)⟩⟩
theorem ofRU {h : eH} {F : FV} {B : Nat} (hr : RU h F B) : ∃ U, CU h U ∧ MU h U ∧ okU F B U := by
  obtain ⟨len, nx, a1, a2, a3, a4, a5, a6⟩ := hr
  have hx : ∀ j, ∃ S : Nat → Int32, j < len → CS h (8 + 2 * ((nx + 14 - j) % 15)) S ∧ MS h 84 (79 * (len - 1 - j)) S ∧ okA F B S := fun j => by
    by_cases hj : j < len
    · obtain ⟨S, s1⟩ := rel_A (a6 j hj).1 (a6 j hj).2
      exact ⟨S, fun _ => s1⟩
    · exact ⟨fun _ => 0, fun q => absurd q hj⟩
  obtain ⟨f, hf⟩ := Classical.axiomOfChoice hx
  exact ⟨(len, f), ⟨nx, a2, a4, a3, fun j hj => (hf j hj).1⟩, ⟨a5, fun j hj => (hf j hj).2.1⟩, ⟨a1, fun j hj => (hf j hj).2.2⟩⟩
theorem toRK {h : eH} {X : AX} {B : Nat} (hc : CI h X) (hm : MI h X) (ho : okX B X) : RK h (xF X) B := by
  have ck := hc.2.2.2.2.2.2.1
  have mk := hm.2.2.2.2.2.2.1
  have ok := ho.2.2.2.2.2.1
  exact ⟨(xK X).1, ok.1, ck.1, fun i hi => ⟨(mk i hi).1, fun ht => ⟨A_rel (ck.2 i hi ht) ((mk i hi).2 ht), A_ok (ck.2 i hi ht) (ok.2 i hi ht)⟩⟩⟩
theorem ofRK {h : eH} {F : FV} {B : Nat} (hr : RK h F B) : ∃ K, CK h K ∧ MK h K ∧ okK F B K := by
  obtain ⟨kn, k1, k2, k3⟩ := hr
  have hx : ∀ i, ∃ S : Nat → Int32, i < 3 → kn.testBit i = true → CS h (53 + 2 * i) S ∧ MS h 98 (79 * i) S ∧ okA F B S := fun i => by
    by_cases hi : i < 3 ∧ kn.testBit i = true
    · obtain ⟨x, y⟩ := (k3 i hi.1).2 hi.2
      obtain ⟨S, s1⟩ := rel_A x y
      exact ⟨S, fun _ _ => s1⟩
    · exact ⟨fun _ => 0, fun q1 q2 => absurd ⟨q1, q2⟩ hi⟩
  obtain ⟨f, hf⟩ := Classical.axiomOfChoice hx
  exact ⟨(kn, f), ⟨k2, fun i hi ht => (hf i hi ht).1⟩, fun i hi => ⟨(k3 i hi).1, fun ht => (hf i hi ht).2.1⟩, ⟨k1, fun i hi ht => (hf i hi ht).2.2⟩⟩
/-! what is left alone -/
theorem keT {W : Nat → Nat → Prop} {h h2 : eH} {X : AX} {B : Nat} (hc : CI h X) (hm : MI h X) (ho : okX B X) (o : only W h h2) (hW : ∀ j k, W j k → j ≠ 1 ∧ j ≠ 2 ∧ j ≠ 78 ∧ ¬ (j = 73 ∧ k = 10)) : CT h2 (xT X) ∧ MT h2 (xT X) ∧ okTx (xT X) :=
  ⟨CT_only o (fun j k a w => by have := hW j k w; omega) hc.2.2.2.1, MT_only o (fun w => by have := hW _ _ w; omega) (fun k w => by have := hW _ _ w; omega) hm.2.2.2.1, ho.2.2.1⟩
theorem keS {W : Nat → Nat → Prop} {h h2 : eH} {X : AX} {B : Nat} (hc : CI h X) (hm : MI h X) (ho : okX B X) (o : only W h h2) (hW : ∀ j k, W j k → j ≠ 46 ∧ j ≠ 47 ∧ j ≠ 76) : CS h2 46 (xS X) ∧ MS h2 76 0 (xS X) ∧ okA (xF X) B (xS X) :=
  ⟨CS_only o (fun k => ⟨fun w => by have := hW _ _ w; omega, fun w => by have := hW _ _ w; omega⟩) hc.2.2.2.2.1, MS_only o (fun k w => by have := hW _ _ w; omega) hm.2.2.2.2.1, ho.2.2.2.1⟩
theorem keU {W : Nat → Nat → Prop} {h h2 : eH} {X : AX} {B : Nat} (hc : CI h X) (hm : MI h X) (ho : okX B X) (o : only W h h2) (hW : ∀ j k, W j k → j ≠ 6 ∧ ¬ (8 ≤ j ∧ j ≤ 37) ∧ j ≠ 84 ∧ ¬ (j = 73 ∧ k = 24)) : CU h2 (xU X) ∧ MU h2 (xU X) ∧ okU (xF X) B (xU X) :=
  ⟨CU_only o (fun j k a w => by have := hW _ _ w; omega) hc.2.2.2.2.2.1, MU_only o (fun w => by have := hW _ _ w; omega) (fun k w => by have := hW _ _ w; omega) hm.2.2.2.2.2.1, ho.2.2.2.2.1⟩
theorem keK {W : Nat → Nat → Prop} {h h2 : eH} {X : AX} {B : Nat} (hc : CI h X) (hm : MI h X) (ho : okX B X) (o : only W h h2) (hW : ∀ j k, W j k → ¬ (j = 0 ∧ k = 19) ∧ ¬ (53 ≤ j ∧ j ≤ 58) ∧ j ≠ 97 ∧ j ≠ 98) : CK h2 (xK X) ∧ MK h2 (xK X) ∧ okK (xF X) B (xK X) :=
  ⟨CK_only o (fun w => by have := hW _ _ w; omega) (fun j k a b w => by have := hW _ _ w; omega) hc.2.2.2.2.2.2.1, MK_only o (fun k w => by have := hW _ _ w; omega) (fun k w => by have := hW _ _ w; omega) hm.2.2.2.2.2.2.1, ho.2.2.2.2.2.1⟩
theorem sign_P {B : Nat} {h : eH} {X : AX} (hc : CI h X) (hm : MI h X) (ho : okX B X) (v : Int32) : PR B (f_X10_sign LF h 0 v) (fun h1 => f_X11_sign LF h1 73 v) := by
  obtain ⟨h1, h2, r, n', t', e1, e2, rt, rf, gl, gr, gi, -⟩ := sign_rel hc.1 (toRT hc hm ho) v
  have o : only (fun j k => j = 1 ∨ j = 2 ∨ j = 78 ∨ (j = 73 ∧ (k = 0 ∨ k = 10))) h h2 := ⟨fun j k hW => ⟨gi j k (by omega) (by omega) (by omega) (by omega), gl j k⟩, gr⟩
  exact PR_old hc hm ho e1 e2 (only_mono (fun j k a => by unfold bigW; omega) o) (ofRT rt) (keS hc hm ho o (fun j k a => by omega)) (keU hc hm ho o (fun j k a => by omega)) (keK hc hm ho o (fun j k a => by omega))
theorem end_P {B : Nat} {h : eH} {X : AX} (hc : CI h X) (hm : MI h X) (ho : okX B X) (v : Int32) : PR B (f_X10_end LF h 0 v) (fun h1 => f_X11_end LF h1 73 v) := by
  obtain ⟨h1, h2, r, n', e1, e2, rt, o⟩ := end_rel hc.1 (toRT hc hm ho) v
  exact PR_old hc hm ho e1 e2 (only_mono (fun j k a => by unfold bigW; omega) o) (ofRT rt) (keS hc hm ho o (fun j k a => by omega)) (keU hc hm ho o (fun j k a => by omega)) (keK hc hm ho o (fun j k a => by omega))
theorem keep_P {B : Nat} {h : eH} {X : AX} (hc : CI h X) (hm : MI h X) (ho : okX B X) (v : Int32) : PR B (f_X10_keep LF h 0 v) (fun h1 => f_X11_keep LF h1 73 v) := by
  obtain ⟨h1, h2, r, e1, e2, rk, o⟩ := keep_rel hc.1 (toRS hc hm ho).1 (toRS hc hm ho).2 (toRK hc hm ho) v
  obtain ⟨K, k⟩ := ofRK rk
  exact PR_old hc hm ho e1 e2 (only_mono (fun j k a => by unfold bigW; omega) o) (keT hc hm ho o (fun j k a => by omega)) (keS hc hm ho o (fun j k a => by omega)) (keU hc hm ho o (fun j k a => by omega)) k
theorem again_P {B : Nat} {h : eH} {X : AX} (hc : CI h X) (hm : MI h X) (ho : okX B X) (v : Int32) : PR B (f_X10_again LF h 0 v) (fun h1 => f_X11_again LF h1 73 v) := by
  obtain ⟨h1, h2, r, e1, e2, ru, rs, os, o⟩ := again_rel hc.1 (toRS hc hm ho).1 (toRS hc hm ho).2 (toRU hc hm ho) (toRK hc hm ho) v
  obtain ⟨U, u⟩ := ofRU ru
  obtain ⟨S, s⟩ := rel_A rs os
  exact PR_old hc hm ho e1 e2 (only_mono (fun j k a => by unfold againW at a; unfold bigW; omega) o) (keT hc hm ho o (fun j k a => by unfold againW at a; omega)) s u (keK hc hm ho o (fun j k a => by unfold againW at a; omega))
theorem undo_P {B : Nat} {h : eH} {X : AX} (hc : CI h X) (hm : MI h X) (ho : okX B X) : PR B (f_X10_undo LF h 0) (fun h1 => f_X11_undo LF h1 73) := by
  obtain ⟨h1, h2, r, e1, e2, ru, rs, os, o⟩ := undo_rel hc.1 (toRS hc hm ho).1 (toRS hc hm ho).2 (toRU hc hm ho)
  obtain ⟨U, u⟩ := ofRU ru
  obtain ⟨S, s⟩ := rel_A rs os
  exact PR_old hc hm ho e1 e2 (only_mono (fun j k a => by unfold bigW; omega) o) (keT hc hm ho o (fun j k a => by omega)) s u (keK hc hm ho o (fun j k a => by omega))
theorem turn_P {B : Nat} {h : eH} {X : AX} (hc : CI h X) (hm : MI h X) (ho : okX B X) (v : Int32) : PR B (f_X10_turn LF h 0 v) (fun h1 => f_X11_turn LF h1 73 v) := by
  obtain ⟨h1, h2, r, e1, e2, ru, rs, os, o⟩ := turn_rel hc.1 (toRS hc hm ho).1 (toRS hc hm ho).2 (toRU hc hm ho) v
  obtain ⟨U, u⟩ := ofRU ru
  obtain ⟨S, s⟩ := rel_A rs os
  exact PR_old hc hm ho e1 e2 (only_mono (fun j k a => by unfold turnW at a; unfold bigW; omega) o) (keT hc hm ho o (fun j k a => by unfold turnW at a; omega)) s u (keK hc hm ho o (fun j k a => by unfold turnW at a; omega))
theorem forget_P {B : Nat} {h : eH} {X : AX} (hc : CI h X) (hm : MI h X) (ho : okX B X) : PR B (f_X10_forget LF h 0) (fun h1 => f_X11_forget LF h1 73) := by
  refine PR_mk hm (X' := setH X (0, (xH X).2)) (forget_C hc) (fun h1 hR h9 => forget_M h9) ?_
  obtain ⟨o1, o2, o3, o4, o5, o6, o7, o8⟩ := okX_mono (show B ≤ B + 300 by omega) ho
  exact ⟨o1, o2, o3, o4, o5, o6, ⟨Nat.zero_le _, fun k hk => absurd hk (Nat.not_lt_zero k)⟩, o8⟩

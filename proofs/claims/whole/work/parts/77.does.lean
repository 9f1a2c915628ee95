/-! run: one act done, the reference's way -/
def actS (F : FV) (R : Nat × (Nat → Nat)) (S : Nat → Int32) (k v : Nat) : Bool × (Nat → Int32) := if k = 0 then (decide (0 < (walkA F R v S).1 ∨ v = 0), (walkA F R v S).2) else if k = 1 then (true, tuA S (nI v)) else if k = 2 then (!(decide ((acD F S (nI v)).1 < 0)), (acD F S (nI v)).2) else if k = 3 then (!(decide ((acH F S (nI v)).1 < 0)), (acH F S (nI v)).2) else (!(decide ((acL F S (nI (10 * v))).1 < 0)), (acL F S (nI (10 * v))).2)
def dsW (j k : Nat) : Prop := j = 82 ∨ j = 83 ∨ j = 76 ∨ amS j k
theorem neg_r {g : eH} {x : Int32} : (if x < 0 then some (g, (0 : Int32)) else some (g, 1)) = some (g, if (!(decide (x < 0))) = true then (1 : Int32) else 0) := by
  by_cases q : x < 0
  · rw [if_pos q, decide_eq_true q]; rfl
  · rw [if_neg q, decide_eq_false q]; rfl
theorem does_M {g : eH} {X : AX} {B m k v : Nat} (hR : RefsOK g) (hm : MI g X) (ho : okX B X) (hm6 : m < 60) (h85 : gI g 85 m = nI k) (h86 : gI g 86 m = nI v) (hk : k < 5) (hv : v ≤ 99) (hv1 : k = 1 → v < 4) : ∃ g', f_X11_does LF g 73 (nI m) = some (g', if (actS (xF X) (xR X) (xS X) k v).1 then 1 else 0) ∧ MS g' 76 0 (actS (xF X) (xR X) (xS X) k v).2 ∧ only dsW g g' := by
  have i73 : inA LF 76 0 73 = true := (iM (Or.inl rfl)).2.1
  unfold f_X11_does
  rw [if_pos iO_73, r_73_27 hR, Option.bind_some, iA_86, if_pos (in_nI hm6 (by decide)), r_73_26 hR, Option.bind_some, iA_85, if_pos (in_nI hm6 (by decide)), nI_clamp (by omega), h85, h86]
  rcases (show k = 0 ∨ k = 1 ∨ k = 2 ∨ k = 3 ∨ k = 4 by omega) with rfl | rfl | rfl | rfl | rfl
  · obtain ⟨g', x1, x2, x3⟩ := goesOn_M (N := v) ho.1 ho.2.1 (Or.inl rfl) (by omega) hR hm.1 hm.2.1 hm.2.2.1 hm.2.2.2.2.1 ho.2.2.2.1
    refine ⟨g', ?_, x2, only_mono (fun j k a => by unfold dsW; omega) x3⟩
    rw [if_pos (show nI 0 = 0 from rfl), r_73_7 hR, Option.bind_some, x1, Option.bind_some]
    show (if 0 < nI (walkA (xF X) (xR X) v (xS X)).1 then some (g', (1 : Int32)) else if nI v = 0 then some (g', 1) else some (g', 0)) = some (g', if decide (0 < (walkA (xF X) (xR X) v (xS X)).1 ∨ v = 0) = true then 1 else 0)
    have wl := walkA_le (F := xF X) (R := xR X) v (xS X)
    by_cases q : 0 < (walkA (xF X) (xR X) v (xS X)).1
    · rw [if_pos (show 0 < nI (walkA (xF X) (xR X) v (xS X)).1 from nI_lt (a := 0) q (by omega)), decide_eq_true (Or.inl q)]; rfl
    · rw [if_neg (show ¬ 0 < nI (walkA (xF X) (xR X) v (xS X)).1 from nI_nlt (a := 0) (by omega) (by omega))]
      by_cases q2 : v = 0
      · rw [if_pos (by rw [q2]; rfl), decide_eq_true (Or.inr q2)]; rfl
      · rw [if_neg (nI_ne0 (by omega) (by omega)), decide_eq_false (by omega)]; rfl
  · have e73 : gI g 76 73 = xS X 73 := MS_0 hm.2.2.2.2.1 (by omega)
    refine ⟨sI g 76 73 ((xS X 73 + nI v) &&& 3), ?_, MS_u _ hm.2.2.2.2.1, only_sI (by unfold dsW; omega)⟩
    rw [if_neg (show ¬ nI 1 = 0 by decide), if_pos (show nI 1 = 1 from rfl), r_73_7 hR, Option.bind_some, Option.bind_some, if_pos i73, if_pos i73, c73, e73, tuA_m ho.2.2.2.1 (hv1 rfl), Option.bind_some]; rfl
  · obtain ⟨g', x1, x2, x3⟩ := daysGo_M hR hm ho (nI v)
    refine ⟨g', ?_, x2, only_mono (fun j k a => Or.inr (Or.inr (Or.inr a))) x3⟩
    rw [if_neg (show ¬ nI 2 = 0 by decide), if_neg (show ¬ nI 2 = 1 by decide), if_pos (show nI 2 = 2 from rfl), x1, Option.bind_some]
    exact neg_r
  · obtain ⟨g', x1, x2, x3⟩ := chairsAt_M hR hm ho (nI v)
    refine ⟨g', ?_, x2, only_mono (fun j k a => Or.inr (Or.inr (Or.inr a))) x3⟩
    rw [if_neg (show ¬ nI 3 = 0 by decide), if_neg (show ¬ nI 3 = 1 by decide), if_neg (show ¬ nI 3 = 2 by decide), if_pos (show nI 3 = 3 from rfl), x1, Option.bind_some]
    exact neg_r
  · obtain ⟨g', x1, x2, x3⟩ := loads_M hR hm ho (nI (10 * v))
    refine ⟨g', ?_, x2, only_mono (fun j k a => Or.inr (Or.inr (Or.inr a))) x3⟩
    rw [if_neg (show ¬ nI 4 = 0 by decide), if_neg (show ¬ nI 4 = 1 by decide), if_neg (show ¬ nI 4 = 2 by decide), if_neg (show ¬ nI 4 = 3 by decide), show (10 : Int32) * nI v = nI (10 * v) from pk_mul 10 v, x1, Option.bind_some]
    exact neg_r

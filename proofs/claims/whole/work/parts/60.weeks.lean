/-! weeks -/
def drU (z : Int32) : Int32 := (z.toUInt32 >>> ((16 : Int32).toUInt32 &&& Int32.toUInt32 31)).toInt32
def drn (z m : Int32) : Int32 := drU z - drU z / m * m
theorem drU_lt (z : Int32) : 0 ≤ (drU z).toInt ∧ (drU z).toInt < 65536 := by
  have e : (drU z).toBitVec = z.toBitVec >>> 16 := by
    unfold drU
    show (z.toUInt32 >>> ((16 : Int32).toUInt32 &&& Int32.toUInt32 31)).toBitVec = _
    rw [UInt32.toBitVec_shiftRight]
    show (z.toUInt32.toBitVec >>> (((nI 16).toUInt32 &&& Int32.toUInt32 31).toBitVec % 32).toNat) = _
    rw [s_u 16 (by decide)]; rfl
  have e2 : (drU z).toInt = (z.toBitVec >>> 16).toInt := by rw [← e]; rfl
  have e3 : (z.toBitVec >>> 16).toNat < 65536 := by
    rw [BitVec.toNat_ushiftRight, Nat.shiftRight_eq_div_pow]
    have := z.toBitVec.isLt
    omega
  rw [e2, BitVec.toInt_eq_toNat_of_lt (by omega)]
  omega
theorem drn8 (z : Int32) : ∃ n, n < 8 ∧ drn z 8 = nI n := by
  obtain ⟨b1, b2⟩ := drU_lt z
  unfold drn
  generalize drU z = x at b1 b2
  have h8 : (8 : Int32).toInt = 8 := by decide
  have hd : (x / 8).toInt = x.toInt.tdiv 8 := by rw [Int32.toInt_div_of_ne_right x 8 (by decide), h8]
  have e := Int.mul_tdiv_add_tmod x.toInt 8
  have l1 := Int.tmod_lt_of_pos x.toInt (show (0 : Int) < 8 by decide)
  have l2 := Int.tmod_nonneg 8 b1
  refine ⟨(x.toInt.tmod 8).toNat, by omega, ?_⟩
  rw [fa_eq, Int32.toInt_sub, Int32.toInt_mul, hd, h8, nI_toInt (by omega)]
  simp only [Int.bmod_def]
  omega
theorem drawn_8 (z : Int32) : f_X10_drawn z 8 = some (drn z 8) := by
  unfold f_X10_drawn drn drU
  rw [if_neg (by decide), if_neg (by decide)]
theorem drawn_4 (z : Int32) : f_X10_drawn z 4 = some (drn z 4) := by
  unfold f_X10_drawn drn drU
  rw [if_neg (by decide), if_neg (by decide)]
theorem draws_8 (h : eH) : f_X11_draws LF h 73 8 = some (sI h 73 43 (f_X10_nextDraw (gI h 73 43)), drn (f_X10_nextDraw (gI h 73 43)) 8) := by
  unfold f_X11_draws drn drU f_X10_nextDraw
  rw [if_pos iO_73, Option.bind_some, if_neg (by decide), gI_sI, if_pos ⟨rfl, rfl⟩]
theorem draws_4 (h : eH) : f_X11_draws LF h 73 4 = some (sI h 73 43 (f_X10_nextDraw (gI h 73 43)), drn (f_X10_nextDraw (gI h 73 43)) 4) := by
  unfold f_X11_draws drn drU f_X10_nextDraw
  rw [if_pos iO_73, Option.bind_some, if_neg (by decide), gI_sI, if_pos ⟨rfl, rfl⟩]
def tuA (S : Nat → Int32) (v : Int32) : Nat → Int32 := upd S 73 ((S 73 + v) &&& 3)
theorem okA_tu {F : FV} {B : Nat} {S : Nat → Int32} {v : Nat} (ho : okA F B S) (hv : v < 4) : okA F B (tuA S (nI v)) := by
  obtain ⟨⟨sp, a1, a2, a3, a4⟩, ⟨hd, b1, b2⟩, ⟨cu, c1, c2⟩, ⟨bu, d1, d2⟩, e1, g1⟩ := ho
  unfold tuA
  refine ⟨⟨sp, a1, a2, ?_, ?_⟩, ⟨(hd + v) % 4, by omega, ?_⟩, ⟨cu, c1, ?_⟩, ⟨bu, d1, ?_⟩, fun k hk => ?_, fun k hk => ?_⟩
  · rw [u_n (by omega)]; exact a3
  · rw [u_n (by omega)]; exact a4
  · rw [pk_us, b2, and3 b1 hv]
  · rw [u_n (by omega)]; exact c2
  · rw [u_n (by omega)]; exact d2
  · rw [u_n (by omega)]; exact e1 k hk
  · rw [u_n (by omega)]; exact g1 k hk
theorem tuA_0 {F : FV} {B : Nat} {S : Nat → Int32} (ho : okA F B S) : tuA S 0 = S := by
  obtain ⟨hd, b1, b2⟩ := ho.2.1
  unfold tuA
  have e : (S 73 + 0) &&& 3 = S 73 := by
    rw [b2, show (0 : Int32) = nI 0 from rfl, and3 b1 (by omega), Nat.add_zero, Nat.mod_eq_of_lt b1]
  rw [e]
  funext k
  by_cases hk : k = 73
  · subst hk; rw [pk_us]
  · rw [u_n hk]
theorem tuA_m {F : FV} {B : Nat} {S : Nat → Int32} {v : Nat} (ho : okA F B S) (hv : v < 4) : (S 73 + nI v) - (S 73 + nI v) / 4 * 4 = (S 73 + nI v) &&& 3 := by
  obtain ⟨hd, b1, b2⟩ := ho.2.1
  rw [b2, (hd4 hd b1 v hv).1, (hd4 hd b1 v hv).2]
theorem turn_k {h : eH} {s : Nat} {S : Nat → Int32} (hs : s ∈ stL) (hS : CS h s S) (v : Int32) : ∃ h', f_X6_turnBy LF h s v = some h' ∧ CS h' s (tuA S v) ∧ only (fun j _ => j = s ∨ j = s + 1) h h' := by
  unfold f_X6_turnBy tuA
  have e2 : gI h s 2 = S 73 := hS.2.2.1 2 (by omega) (by omega)
  rw [if_pos (st_O s hs), e2]
  exact ⟨_, rfl, CS_f (k := 2) _ hS (by omega) (by omega), only_sI (Or.inl rfl)⟩
def wkS (F : FV) (R : Nat × (Nat → Nat)) (q : (Nat → Int32) × Int32) : (Nat → Int32) × Int32 :=
  if drn (f_X10_nextDraw q.2) 8 = 7 then (dayA F q.1, f_X10_nextDraw q.2) else if drn (f_X10_nextDraw q.2) 8 = 6 then (tuA q.1 1, f_X10_nextDraw q.2) else if kF F (st0 F R (-1) q.1 72).toNatClampNeg = 2 then (tuA (st0 F R (-1) q.1) (if drn (f_X10_nextDraw (f_X10_nextDraw q.2)) 4 = 0 then 1 else 0), f_X10_nextDraw (f_X10_nextDraw q.2)) else (st0 F R (-1) q.1, f_X10_nextDraw q.2)
def wkI (F : FV) (R : Nat × (Nat → Nat)) (q : (Nat → Int32) × Int32) : Nat → (Nat → Int32) × Int32
  | 0 => q
  | n + 1 => wkS F R (wkI F R q n)
theorem wkS_ok {F : FV} {R : Nat × (Nat → Nat)} {B : Nat} {q : (Nat → Int32) × Int32} (hF : okF F) (ho : okA F B q.1) : okA F (B + 1) (wkS F R q).1 := by
  have ok0 : okA F (B + 1) (st0 F R (-1) q.1) := okA_st0 hF okT_m ho
  unfold wkS
  generalize st0 F R (-1) q.1 = T at ok0 ⊢
  split
  · exact okA_mono (by omega) (okA_day hF ho)
  · split
    · exact okA_mono (by omega) (okA_tu (v := 1) ho (by omega))
    · split
      · show okA F (B + 1) (tuA T _)
        split
        · exact okA_tu (v := 1) ok0 (by omega)
        · exact okA_tu (v := 0) ok0 (by omega)
      · exact ok0
theorem wkI_ok {F : FV} {R : Nat × (Nat → Nat)} {B : Nat} {q : (Nat → Int32) × Int32} (hF : okF F) (ho : okA F B q.1) : ∀ n, okA F (B + n) (wkI F R q n).1
  | 0 => ho
  | n + 1 => wkS_ok hF (wkI_ok hF ho n)
theorem c50 {j : Nat} (a : j = 50 ∨ j = 50 + 1) (k : Nat) : csc j k := by unfold csc; omega
theorem weeks_CL {P : Option (eH × Int32) → Prop} {k152 : eH → Nat → Option (eH × Int32)} {h g0 : eH} {X : AX} {B N : Nat} {z0 : Int32} (hc : CI h X) (ho : okX B X) (hB : B + 1000 < 2 ^ 31) (hN : N ≤ 60) (og : only csc h g0) (hS : CS g0 50 (xS X)) (y : ∀ g, only csc h g → CS g 50 (wkI (xF X) (xR X) (xS X, z0) N).1 → P (k152 g 0)) : P (f_X10_weeks_L29 LF e_fu k152 g0 0 (nI N) z0 0) := by
  refine lpF (N := N) (s := (g0, z0)) (run := fun fu (q : eH × Int32) i => f_X10_weeks_L29 LF fu k152 q.1 0 (nI N) q.2 (nI i)) (Inv := fun i q => only csc h q.1 ∧ CS q.1 50 (wkI (xF X) (xR X) (xS X, z0) i).1 ∧ q.2 = (wkI (xF X) (xR X) (xS X, z0) i).2) (Post := P) (by omega) ⟨og, hS, rfl⟩ ?_ ?_
  · rintro fu ⟨g, z⟩ ⟨g1, g2, g3⟩
    show P (f_X10_weeks_L29 LF (fu + 1) k152 g 0 (nI N) z (nI N))
    unfold f_X10_weeks_L29
    rw [if_pos (nI_le (Nat.le_refl _) (by omega))]
    exact y g g1 g2
  · rintro i fu ⟨g, z⟩ hi ⟨g1, g2, g3⟩
    have g1 : only csc h g := g1
    have g2 : CS g 50 (wkI (xF X) (xR X) (xS X, z0) i).1 := g2
    have g3 : z = (wkI (xF X) (xR X) (xS X, z0) i).2 := g3
    have hok := wkI_ok (R := xR X) (q := (xS X, z0)) ho.1 ho.2.2.2.1 i
    have nx : wkI (xF X) (xR X) (xS X, z0) (i + 1) = wkS (xF X) (xR X) (wkI (xF X) (xR X) (xS X, z0) i) := rfl
    have hRg := only_refs g1 hc.1
    obtain ⟨p, hp⟩ := (CI_scr g1 hc).2.1
    have nN : ¬ nI N ≤ nI i := nI_ge hi (by omega)
    have m50 : (50 : Nat) ∈ stL := by decide
    generalize wkI (xF X) (xR X) (xS X, z0) (i + 1) = w' at nx ⊢
    generalize wkI (xF X) (xR X) (xS X, z0) i = w at g2 g3 hok nx
    have ok0 : okA (xF X) (B + i + 1) (st0 (xF X) (xR X) (-1) w.1) := okA_st0 ho.1 okT_m hok
    obtain ⟨gs, s1, s2, s3⟩ := step0_C hc ho g1 g2 hok (by omega) okT_m
    unfold wkS at nx
    rw [← g3] at nx
    by_cases q7 : drn (f_X10_nextDraw z) 8 = 7
    · obtain ⟨g', x1, x2, x3⟩ := dayFalls_C ho.1 hRg m50 hp g2 hok
      rw [if_pos q7] at nx
      refine Or.inr ⟨(g', f_X10_nextDraw z), ⟨only_trans g1 (only_mono (fun j k a => c50 a k) x3), by rw [nx]; exact x2, by rw [nx]⟩, fun zz hz => ?_⟩
      show f_X10_weeks_L29 LF (fu + 1) k152 g 0 (nI N) z (nI i) = zz
      unfold f_X10_weeks_L29
      rw [if_neg nN, drawn_8, Option.bind_some, if_pos q7, if_pos iO_0, r_0_9 hRg, Option.bind_some, hp.2.1, Option.bind_some, if_pos iO_50, x1, Option.bind_some, nI_p1]; exact hz
    · rw [if_neg q7] at nx
      by_cases q6 : drn (f_X10_nextDraw z) 8 = 6
      · obtain ⟨g', x1, x2, x3⟩ := turn_k m50 g2 1
        rw [if_pos q6] at nx
        refine Or.inr ⟨(g', f_X10_nextDraw z), ⟨only_trans g1 (only_mono (fun j k a => c50 a k) x3), by rw [nx]; exact x2, by rw [nx]⟩, fun zz hz => ?_⟩
        show f_X10_weeks_L29 LF (fu + 1) k152 g 0 (nI N) z (nI i) = zz
        unfold f_X10_weeks_L29
        rw [if_neg nN, drawn_8, Option.bind_some, if_neg q7, if_pos q6, if_pos iO_0, r_0_9 hRg, Option.bind_some, if_pos iO_50, x1, Option.bind_some, nI_p1]; exact hz
      · rw [if_neg q6] at nx
        generalize st0 (xF X) (xR X) (-1) w.1 = T at s2 ok0 nx
        have hRs := only_refs s3 hc.1
        obtain ⟨p2, hp2⟩ := (CI_scr s3 hc).2.1
        obtain ⟨sp, a1, a2, a3, a4⟩ := ok0.1
        have e1 : gI gs 50 1 = nI sp := (s2.2.2.1 1 (by omega) (by omega)).trans a4
        have hd := hp2.2.2.2.2.2.2.2.1 sp
        rw [a4, nI_clamp (by omega)] at nx
        by_cases k2 : kF (xF X) sp = 2
        · rw [if_pos k2] at nx
          have hh : ¬ f_X10_holds (gL gs p2 5) (nI sp) = 0 := by rw [holds_k _ a1, hd, decide_eq_true k2]; exact i10
          by_cases q4 : drn (f_X10_nextDraw (f_X10_nextDraw z)) 4 = 0
          · obtain ⟨g', x1, x2, x3⟩ := turn_k m50 s2 1
            rw [if_pos q4] at nx
            refine Or.inr ⟨(g', f_X10_nextDraw (f_X10_nextDraw z)), ⟨only_trans s3 (only_mono (fun j k a => c50 a k) x3), by rw [nx]; exact x2, by rw [nx]⟩, fun zz hz => ?_⟩
            show f_X10_weeks_L29 LF (fu + 1) k152 g 0 (nI N) z (nI i) = zz
            unfold f_X10_weeks_L29
            rw [if_neg nN, drawn_8, Option.bind_some, if_neg q7, if_neg q6, if_pos iO_0, r_0_9 hRg, Option.bind_some, s1, Option.bind_some, hp2.2.1, Option.bind_some, if_pos (p_O hp2), r_0_9 hRs, Option.bind_some, if_pos iO_50, e1, if_neg hh, Option.bind_some, drawn_4, Option.bind_some, if_pos q4, if_pos iO_50, show f_X10_oneIf 1 = 1 from rfl, x1, Option.bind_some, nI_p1]; exact hz
          · obtain ⟨g', x1, x2, x3⟩ := turn_k m50 s2 0
            rw [if_neg q4] at nx
            refine Or.inr ⟨(g', f_X10_nextDraw (f_X10_nextDraw z)), ⟨only_trans s3 (only_mono (fun j k a => c50 a k) x3), by rw [nx]; exact x2, by rw [nx]⟩, fun zz hz => ?_⟩
            show f_X10_weeks_L29 LF (fu + 1) k152 g 0 (nI N) z (nI i) = zz
            unfold f_X10_weeks_L29
            rw [if_neg nN, drawn_8, Option.bind_some, if_neg q7, if_neg q6, if_pos iO_0, r_0_9 hRg, Option.bind_some, s1, Option.bind_some, hp2.2.1, Option.bind_some, if_pos (p_O hp2), r_0_9 hRs, Option.bind_some, if_pos iO_50, e1, if_neg hh, Option.bind_some, drawn_4, Option.bind_some, if_neg q4, if_pos iO_50, show f_X10_oneIf 0 = 0 from rfl, x1, Option.bind_some, nI_p1]; exact hz
        · rw [if_neg k2] at nx
          have hh : f_X10_holds (gL gs p2 5) (nI sp) = 0 := by rw [holds_k _ a1, hd, decide_eq_false k2]; rfl
          refine Or.inr ⟨(gs, f_X10_nextDraw z), ⟨s3, by rw [nx]; exact s2, by rw [nx]⟩, fun zz hz => ?_⟩
          show f_X10_weeks_L29 LF (fu + 1) k152 g 0 (nI N) z (nI i) = zz
          unfold f_X10_weeks_L29
          rw [if_neg nN, drawn_8, Option.bind_some, if_neg q7, if_neg q6, if_pos iO_0, r_0_9 hRg, Option.bind_some, s1, Option.bind_some, hp2.2.1, Option.bind_some, if_pos (p_O hp2), r_0_9 hRs, Option.bind_some, if_pos iO_50, e1, if_pos hh, nI_p1]; exact hz
theorem m77 {j : Nat} (a : j = 77) (k : Nat) : msc j k := by unfold msc; omega
theorem J103_k {k30 : eH → Nat → Int32 → Int32 → Option (eH × Int32)} {k148 : eH → Nat → Option (eH × Int32)} {h g : eH} {X : AX} {B B0 v : Nat} {v2 v3 v4 : Int32} {S : Nat → Int32} (hR : RefsOK h) (hm : MI h X) (ho : okX B X) (og : only msc h g) (hS : MS g 77 0 S) (hok : okA (xF X) B0 S) (hv : v < 2) : ∃ g', f_X11_weeks_J103 LF k30 k148 g 73 v2 v3 v4 (nI v) = k30 g' 73 v2 (v3 + Int32.ofInt 1) ∧ MS g' 77 0 (if v4 = 7 then dayA (xF X) (tuA S (nI v)) else tuA S (nI v)) ∧ only (fun j _ => j = 77) g g' := by
  have hRg := only_refs og hR
  have i73 : inA LF 77 0 73 = true := (iM (Or.inr rfl)).2.1
  have fl : f_X11_flag (nI v) = nI v := by
    rcases (show v = 0 ∨ v = 1 by omega) with rfl | rfl
    · rfl
    · rfl
  have e73 : gI g 77 73 = S 73 := MS_0 hS (by omega)
  have hS2 : MS (sI g 77 73 ((S 73 + nI v) &&& 3)) 77 0 (tuA S (nI v)) := MS_u _ hS
  have o1 : only (fun j _ => j = 77) g (sI g 77 73 ((S 73 + nI v) &&& 3)) := only_sI rfl
  have og2 : only msc h (sI g 77 73 ((S 73 + nI v) &&& 3)) := only_trans og (only_mono (fun j k a => m77 a k) o1)
  have hok2 : okA (xF X) B0 (tuA S (nI v)) := okA_tu hok (by omega)
  unfold f_X11_weeks_J103
  rw [if_pos iO_73, r_73_8 hRg, Option.bind_some, Option.bind_some, if_pos i73, if_pos i73, c73, e73, fl, tuA_m hok (by omega), Option.bind_some]
  have hR2 : RefsOK (sI g 77 73 ((S 73 + nI v) &&& 3)) := refs_sI hRg
  generalize sI g 77 73 ((S 73 + nI v) &&& 3) = g2 at hS2 o1 og2 hR2 ⊢
  generalize tuA S (nI v) = T at hS2 hok2 ⊢
  by_cases q7 : v4 = 7
  · obtain ⟨g3, x1, x2, x3⟩ := dayGoes_M ho.1 hR2 (Or.inr rfl) (mW_MF (fun _ _ => msc_mW) og2 hm.1) hS2 hok2
    refine ⟨g3, ?_, by rw [if_pos q7]; exact x2, only_trans o1 x3⟩
    rw [if_pos q7, r_73_8 hR2, Option.bind_some, x1, Option.bind_some]
  · refine ⟨g2, ?_, by rw [if_neg q7]; exact hS2, o1⟩
    rw [if_neg q7]
theorem L30_s {n : Nat} {k148 : eH → Nat → Option (eH × Int32)} {h : eH} {v0 : Nat} {v2 v3 : Int32} : f_X11_weeks_L30 LF (n + 1) k148 h v0 v2 v3 = (if v2 ≤ v3 then k148 h v0 else if isO LF v0 11 = true then (f_X11_draws LF h v0 8).bind fun r5 => if 6 ≤ r5.2 then f_X11_weeks_J60 LF (f_X11_weeks_L30 LF n k148) k148 r5.1 v0 v2 v3 r5.2 else (gR r5.1 v0 8).bind fun b29 => (f_X11_stepGoes LF r5.1 v0 b29 0).bind fun r31 => f_X11_weeks_J60 LF (f_X11_weeks_L30 LF n k148) k148 r31.1 v0 v2 v3 r5.2 else none) := rfl
theorem weeks_ML {P : Option (eH × Int32) → Prop} {k148 : eH → Nat → Option (eH × Int32)} {h g0 : eH} {X : AX} {B N : Nat} {z0 : Int32} (hR : RefsOK h) (hm : MI h X) (ho : okX B X) (hN : N ≤ 60) (og : only msc h g0) (hz0 : gI g0 73 43 = z0) (hS : MS g0 77 0 (xS X)) (y : ∀ g, only msc h g → MS g 77 0 (wkI (xF X) (xR X) (xS X, z0) N).1 → P (k148 g 73)) : P (f_X11_weeks_L30 LF e_fu k148 g0 73 (nI N) 0) := by
  refine lpF (N := N) (s := g0) (run := fun fu (q : eH) i => f_X11_weeks_L30 LF fu k148 q 73 (nI N) (nI i)) (Inv := fun i q => only msc h q ∧ MS q 77 0 (wkI (xF X) (xR X) (xS X, z0) i).1 ∧ gI q 73 43 = (wkI (xF X) (xR X) (xS X, z0) i).2) (Post := P) (by omega) ⟨og, hS, hz0⟩ ?_ ?_
  · rintro fu g ⟨g1, g2, g3⟩
    show P (f_X11_weeks_L30 LF (fu + 1) k148 g 73 (nI N) (nI N))
    rw [L30_s, if_pos (nI_le (Nat.le_refl _) (by omega))]
    exact y g g1 g2
  · rintro i fu g hi ⟨g1, g2, g3⟩
    have g1 : only msc h g := g1
    have hok := wkI_ok (R := xR X) (q := (xS X, z0)) ho.1 ho.2.2.2.1 i
    have nx : wkI (xF X) (xR X) (xS X, z0) (i + 1) = wkS (xF X) (xR X) (wkI (xF X) (xR X) (xS X, z0) i) := rfl
    have nN : ¬ nI N ≤ nI i := nI_ge hi (by omega)
    generalize wkI (xF X) (xR X) (xS X, z0) (i + 1) = w' at nx ⊢
    generalize wkI (xF X) (xR X) (xS X, z0) i = w at g2 g3 hok nx
    obtain ⟨z, hz⟩ : ∃ z, gI g 73 43 = z := ⟨_, rfl⟩
    have o43 : only (fun j k => j = 73 ∧ k = 43) g (sI g 73 43 (f_X10_nextDraw z)) := only_sI ⟨rfl, rfl⟩
    have og2 : only msc h (sI g 73 43 (f_X10_nextDraw z)) := only_trans g1 (only_mono (fun j k a => by unfold msc; omega) o43)
    have hS2 : MS (sI g 73 43 (f_X10_nextDraw z)) 77 0 w.1 := MS_only o43 (fun k a => by omega) g2
    have hz2 : gI (sI g 73 43 (f_X10_nextDraw z)) 73 43 = f_X10_nextDraw z := by rw [gI_sI, if_pos ⟨rfl, rfl⟩]
    obtain ⟨r, r8, hr⟩ := drn8 (f_X10_nextDraw z)
    have dr : f_X11_draws LF g 73 8 = some (sI g 73 43 (f_X10_nextDraw z), nI r) := by rw [draws_8, hz, hr]
    generalize sI g 73 43 (f_X10_nextDraw z) = g5 at o43 og2 hS2 hz2 dr
    have hR5 := only_refs og2 hR
    unfold wkS at nx
    rw [← g3, hz, hr] at nx
    by_cases r6 : r < 6
    · have ok0 : okA (xF X) (B + i + 1) (st0 (xF X) (xR X) (-1) w.1) := okA_st0 ho.1 okT_m hok
      obtain ⟨gs, s1, s2, s3, s4⟩ := step0_M (W := msc) (fun _ _ => msc_mW) msc_82 hR hm ho og2 hS2 hok ((o_I og2 msc_23).trans hm.2.2.1) okT_m
      have n7 : ¬ nI r = 7 := fun q => by have := nI_inj (b := 7) (by omega) (by omega) q; omega
      have n6 : ¬ nI r = 6 := fun q => by have := nI_inj (b := 6) (by omega) (by omega) q; omega
      have n66 : ¬ (6 : Int32) ≤ nI r := nI_ge (b := 6) r6 (by omega)
      rw [if_neg n7, if_neg n6] at nx
      generalize st0 (xF X) (xR X) (-1) w.1 = T at s2 ok0 nx
      have hRs := only_refs s3 hR
      obtain ⟨sp, a1, a2, a3, a4⟩ := ok0.1
      have i72 : inA LF 77 0 72 = true := (iM (Or.inr rfl)).1
      have hkd : gI gs 75 sp = nI (kF (xF X) sp) := (mW_MF (fun _ _ => msc_mW) s3 hm.1).2.2.2 sp a1
      have hzs : gI gs 73 43 = f_X10_nextDraw z := (o_I s4 (by omega)).trans hz2
      rw [a4, nI_clamp (by omega)] at nx
      have pre : ∀ k30 : eH → Nat → Int32 → Int32 → Option (eH × Int32), f_X11_weeks_J60 LF k30 k148 gs 73 (nI N) (nI i) (nI r) = (if nI (kF (xF X) sp) = 2 then (f_X11_draws LF gs 73 4).bind fun r27 => if r27.2 = 0 then f_X11_weeks_J103 LF k30 k148 r27.1 73 (nI N) (nI i) (nI r) 1 else f_X11_weeks_J103 LF k30 k148 r27.1 73 (nI N) (nI i) (nI r) 0 else f_X11_weeks_J103 LF k30 k148 gs 73 (nI N) (nI i) (nI r) 0) := fun k30 => by
        unfold f_X11_weeks_J60
        rw [if_neg n6, if_neg n66, if_pos iO_73, r_73_6 hRs, Option.bind_some, r_73_8 hRs, Option.bind_some, if_pos i72, c72, MS_0 s2 (by omega), a4, iA_75, if_pos (in_nI a1 (by decide)), nI_clamp (by omega), hkd]
      have go : ∀ g9 v w2, v < 2 → only msc h g9 → MS g9 77 0 T → gI g9 73 43 = w2 → f_X11_weeks_J60 LF (f_X11_weeks_L30 LF fu k148) k148 gs 73 (nI N) (nI i) (nI r) = f_X11_weeks_J103 LF (f_X11_weeks_L30 LF fu k148) k148 g9 73 (nI N) (nI i) (nI r) (nI v) → w' = (tuA T (nI v), w2) → P (f_X11_weeks_L30 LF (fu + 1) k148 g 73 (nI N) (nI i)) ∨ ∃ s', (only msc h s' ∧ MS s' 77 0 w'.1 ∧ gI s' 73 43 = w'.2) ∧ ∀ z, f_X11_weeks_L30 LF fu k148 s' 73 (nI N) (nI (i + 1)) = z → f_X11_weeks_L30 LF (fu + 1) k148 g 73 (nI N) (nI i) = z := fun g9 v w2 hv o9 m9 z9 ej ew => by
        obtain ⟨g', x1, x2, x3⟩ := J103_k (k30 := f_X11_weeks_L30 LF fu k148) (k148 := k148) (v2 := nI N) (v3 := nI i) (v4 := nI r) hR hm ho o9 m9 ok0 hv
        rw [if_neg n7] at x2
        refine Or.inr ⟨g', ⟨only_trans o9 (only_mono (fun j k a => m77 a k) x3), by rw [ew]; exact x2, by rw [ew]; exact (o_I x3 (by omega)).trans z9⟩, fun zz hz => ?_⟩
        rw [L30_s, if_neg nN, if_pos iO_73, dr, Option.bind_some]
        show (if (6 : Int32) ≤ nI r then _ else _) = zz
        rw [if_neg n66]
        show ((gR g5 73 8).bind fun b29 => (f_X11_stepGoes LF g5 73 b29 0).bind fun r31 => f_X11_weeks_J60 LF (f_X11_weeks_L30 LF fu k148) k148 r31.1 73 (nI N) (nI i) (nI r)) = zz
        rw [r_73_8 hR5, Option.bind_some, s1, Option.bind_some]
        show f_X11_weeks_J60 LF (f_X11_weeks_L30 LF fu k148) k148 gs 73 (nI N) (nI i) (nI r) = zz
        rw [ej, x1, nI_p1]; exact hz
      by_cases k2 : kF (xF X) sp = 2
      · rw [if_pos k2] at nx
        have o44 : only (fun j k => j = 73 ∧ k = 43) gs (sI gs 73 43 (f_X10_nextDraw (f_X10_nextDraw z))) := only_sI ⟨rfl, rfl⟩
        have og4 : only msc h (sI gs 73 43 (f_X10_nextDraw (f_X10_nextDraw z))) := only_trans s3 (only_mono (fun j k a => by unfold msc; omega) o44)
        have d4 : f_X11_draws LF gs 73 4 = some (sI gs 73 43 (f_X10_nextDraw (f_X10_nextDraw z)), drn (f_X10_nextDraw (f_X10_nextDraw z)) 4) := by rw [draws_4, hzs]
        by_cases q4 : drn (f_X10_nextDraw (f_X10_nextDraw z)) 4 = 0
        · rw [if_pos q4] at nx
          refine go _ 1 _ (by omega) og4 (MS_only o44 (fun k a => by omega) s2) (by rw [gI_sI, if_pos ⟨rfl, rfl⟩]) ?_ nx
          rw [pre, if_pos (by rw [k2]; rfl), d4, Option.bind_some]
          show (if drn (f_X10_nextDraw (f_X10_nextDraw z)) 4 = 0 then _ else _) = _
          rw [if_pos q4]; rfl
        · rw [if_neg q4] at nx
          refine go _ 0 _ (by omega) og4 (MS_only o44 (fun k a => by omega) s2) (by rw [gI_sI, if_pos ⟨rfl, rfl⟩]) ?_ nx
          rw [pre, if_pos (by rw [k2]; rfl), d4, Option.bind_some]
          show (if drn (f_X10_nextDraw (f_X10_nextDraw z)) 4 = 0 then _ else _) = _
          rw [if_neg q4]; rfl
      · rw [if_neg k2] at nx
        refine go gs 0 _ (by omega) s3 s2 hzs ?_ (by rw [nx, show nI 0 = 0 from rfl, tuA_0 ok0])
        rw [pre, if_neg (show ¬ nI (kF (xF X) sp) = 2 from fun q => k2 (nI_inj (by have := kF_le ho.1 sp; omega) (by decide) q))]; rfl
    · have n66 : (6 : Int32) ≤ nI r := nI_le (a := 6) (by omega) (by omega)
      have go : ∀ v, v < 2 → f_X11_weeks_J60 LF (f_X11_weeks_L30 LF fu k148) k148 g5 73 (nI N) (nI i) (nI r) = f_X11_weeks_J103 LF (f_X11_weeks_L30 LF fu k148) k148 g5 73 (nI N) (nI i) (nI r) (nI v) → w' = (if nI r = 7 then dayA (xF X) (tuA w.1 (nI v)) else tuA w.1 (nI v), f_X10_nextDraw z) → P (f_X11_weeks_L30 LF (fu + 1) k148 g 73 (nI N) (nI i)) ∨ ∃ s', (only msc h s' ∧ MS s' 77 0 w'.1 ∧ gI s' 73 43 = w'.2) ∧ ∀ z, f_X11_weeks_L30 LF fu k148 s' 73 (nI N) (nI (i + 1)) = z → f_X11_weeks_L30 LF (fu + 1) k148 g 73 (nI N) (nI i) = z := fun v hv ej ew => by
        obtain ⟨g', x1, x2, x3⟩ := J103_k (k30 := f_X11_weeks_L30 LF fu k148) (k148 := k148) (v2 := nI N) (v3 := nI i) (v4 := nI r) hR hm ho og2 hS2 hok hv
        refine Or.inr ⟨g', ⟨only_trans og2 (only_mono (fun j k a => m77 a k) x3), by rw [ew]; exact x2, by rw [ew]; exact (o_I x3 (by omega)).trans hz2⟩, fun zz hz => ?_⟩
        rw [L30_s, if_neg nN, if_pos iO_73, dr, Option.bind_some]
        show (if (6 : Int32) ≤ nI r then f_X11_weeks_J60 LF (f_X11_weeks_L30 LF fu k148) k148 g5 73 (nI N) (nI i) (nI r) else _) = zz
        rw [if_pos n66, ej, x1, nI_p1]; exact hz
      rcases (show r = 6 ∨ r = 7 by omega) with rfl | rfl
      · rw [if_neg (show ¬ nI 6 = 7 by decide), if_pos (show nI 6 = 6 from rfl)] at nx
        refine go 1 (by omega) ?_ (by rw [nx, if_neg (show ¬ nI 6 = 7 by decide)]; rfl)
        unfold f_X11_weeks_J60
        rw [if_pos (show nI 6 = 6 from rfl)]; rfl
      · rw [if_pos (show nI 7 = 7 from rfl)] at nx
        refine go 0 (by omega) ?_ (by rw [nx, if_pos (show nI 7 = 7 from rfl), show nI 0 = 0 from rfl, tuA_0 hok])
        unfold f_X11_weeks_J60
        rw [if_neg (show ¬ nI 7 = 6 by decide), if_pos n66]; rfl
theorem weeks_P {B : Nat} {h : eH} {X : AX} (hc : CI h X) (hm : MI h X) (ho : okX B X) (hB : B + 1000 < 2 ^ 31) (v1 v : Int32) : PR B (f_X10_weeks LF h 0 v1 v) (fun h1 => f_X11_weeks LF h1 73 v1 v) := by
  have in6 : f_X11_in v.toInt64 1 60 = if v < 1 then 0 else if (60 : Int32) < v then 0 else 1 := in_lo v 60
  by_cases a3 : v < 1
  · refine PR_no hc hm ho (r := -1) ?_ (fun h1 hR h9 => ?_)
    · unfold f_X10_weeks; rw [if_pos a3]
    · show f_X11_weeks LF h1 73 v1 v = _
      unfold f_X11_weeks; rw [if_pos iO_73, in6, if_pos a3, if_pos rfl]
  by_cases a4 : v ≤ 60
  · have n9 : ¬ f_X11_in v.toInt64 1 60 = 0 := by rw [in6, if_neg a3, if_neg (show ¬ (60 : Int32) < v by rw [fa_le] at a4; rw [fa_lt]; omega)]; exact i10
    obtain ⟨N, q1, q2, rfl⟩ := low1 (n := 60) (by decide) a3 a4
    refine PR_q hc hm ho (l := [((wkI (xF X) (xR X) (xS X, v1) N).1 72).toInt64, (smI (wkI (xF X) (xR X) (xS X, v1) N).1 36).toInt64]) (r := (wkI (xF X) (xR X) (xS X, v1) N).1 75 - xS X 75) (by show 2 ≤ 37; omega) ?_ (fun h1 hR h9 => ?_)
    · obtain ⟨hT, t1, t2, t3⟩ := trip_C hc
      unfold f_X10_weeks
      rw [if_neg a3, if_pos a4, if_pos iO_0, r_0_9 hc.1, Option.bind_some, r_0_7 hc.1, Option.bind_some, if_pos iO_50, t1, Option.bind_some]
      refine weeks_CL (P := fun r => ∃ h1, r = some (h1, _) ∧ CW h1 _ ∧ only cscW h h1) (X := X) hc ho hB q2 t3 t2 (fun g og hS => ?_)
      generalize (wkI (xF X) (xR X) (xS X, v1) N).1 = T at hS ⊢
      have hRg := only_refs og hc.1
      obtain ⟨b1, b2⟩ := rowbeg_C g
      have hRb : RefsOK (sI g 3 1 0) := refs_sI hRg
      have ob : only (fun j _ => j = 3 ∨ j = 4) g (sI g 3 1 0) := only_sI (Or.inl rfl)
      obtain ⟨h3, r1, r2, r3⟩ := rowadd_C hRb b2 (by decide) ((T 72).toInt64)
      have hR3 := only_refs r3 hRb
      obtain ⟨h4, s1, s2, s3⟩ := rowadd_C hR3 r2 (show 1 < 37 by decide) ((smI T 36).toInt64)
      have hR4 := only_refs s3 hR3
      have f1 : gI (sI g 3 1 0) 50 1 = T 72 := (o_I ob (by omega)).trans (hS.2.2.1 1 (by omega) (by omega))
      have hS3 : CS h3 50 T := CS_only (only_trans ob r3) (fun k => ⟨by omega, by omega⟩) hS
      have f4 : gI h4 50 4 = T 75 := (o_I s3 (by omega)).trans (hS3.2.2.1 4 (by omega) (by omega))
      have f5 : gI h4 46 4 = xS X 75 := (((o_I s3 (by omega)).trans (o_I r3 (by omega))).trans (o_I ob (by omega))).trans ((CI_scr og hc).2.2.2.2.1.2.2.1 4 (by omega) (by omega))
      refine ⟨h4, ?_, s2, only_trans (csc_w og) (row_w (only_trans ob (only_trans r3 s3)))⟩
      rw [if_pos iO_0, r_0_1 hRg, Option.bind_some, if_pos iO_3, b1, Option.bind_some, r_0_1 hRb, Option.bind_some, r_0_9 hRb, Option.bind_some, if_pos iO_50, if_pos iO_3, f1, r1, Option.bind_some, r_0_1 hR3, Option.bind_some, r_0_9 hR3, Option.bind_some, if_pos iO_50, dustAll_C hR3 (by decide) hS3, Option.bind_some, if_pos iO_3, s1, Option.bind_some, r_0_9 hR4, Option.bind_some, if_pos iO_50, r_0_7 hR4, Option.bind_some, if_pos iO_46, f4, f5]
    · have o43 : only msc h1 (sI (sI h1 73 0 0) 73 43 v1) := only_trans thr_M (only_sI (by unfold msc; omega))
      have h9' := MI_scr o43 h9
      have hR0 : RefsOK (sI (sI h1 73 0 0) 73 43 v1) := refs_sI (refs_sI hR)
      obtain ⟨h2, x1, x2, x3⟩ := puts_M hR0 h9'.2.2.2.2.1
      have o2 : only msc h1 h2 := only_trans o43 (only_mono (fun j k a => m77 a k) x3)
      have z2 : gI h2 73 43 = v1 := (o_I x3 (by omega)).trans (by rw [gI_sI, if_pos ⟨rfl, rfl⟩])
      have i72 : inA LF 77 0 72 = true := (iM (Or.inr rfl)).1
      have i75 : inA LF 77 0 75 = true := (iM (Or.inr rfl)).2.2.2.1
      have j75 : inA LF 76 0 75 = true := (iM (Or.inl rfl)).2.2.2.1
      show ∃ h2, f_X11_weeks LF h1 73 v1 (nI N) = _ ∧ _
      unfold f_X11_weeks
      rw [if_pos iO_73, if_neg n9, x1, Option.bind_some]
      refine weeks_ML (P := fun r => ∃ h2, r = some (h2, _) ∧ MW h2 _ ∧ only mscW h1 h2) (X := X) hR h9 ho q2 o2 z2 x2 (fun g og hS => ?_)
      generalize (wkI (xF X) (xR X) (xS X, v1) N).1 = T at hS ⊢
      have hRg := only_refs og hR
      have hRb : RefsOK (sI g 73 1 0) := refs_sI hRg
      have ob : only (fun j k => (j = 73 ∧ k = 1) ∨ j = 74) g (sI g 73 1 0) := only_sI (Or.inl ⟨rfl, rfl⟩)
      obtain ⟨h3, r1, r2, r3⟩ := rowadd_M hRb (rowbeg_M g) (by decide) ((T 72).toInt64)
      have hR3 := only_refs r3 hRb
      obtain ⟨h4, s1, s2, s3⟩ := rowadd_M hR3 r2 (show 1 < 48 by decide) ((smI T 36).toInt64)
      have hR4 := only_refs s3 hR3
      have f1 : gI (sI g 73 1 0) 77 72 = T 72 := (o_I ob (by omega)).trans (MS_0 hS (by omega))
      have hS3 : MS h3 77 0 T := MS_only (only_trans ob r3) (fun k => by omega) hS
      have f4 : gI h4 77 75 = T 75 := (o_I s3 (by omega)).trans (MS_0 hS3 (by omega))
      have f5 : gI h4 76 75 = xS X 75 := (((o_I s3 (by omega)).trans (o_I r3 (by omega))).trans (o_I ob (by omega))).trans (MS_0 (MI_scr og h9).2.2.2.2.1 (by omega))
      refine ⟨h4, ?_, s2, only_trans (msc_w og) (rowm_w (only_trans ob (only_trans r3 s3)))⟩
      rw [if_pos iO_73, r_73_8 hRb, Option.bind_some, if_pos i72, c72, f1, r1, Option.bind_some, r_73_8 hR3, Option.bind_some, dustAll_M (Or.inr rfl) hS3, Option.bind_some, s1, Option.bind_some, r_73_8 hR4, Option.bind_some, if_pos i75, r_73_7 hR4, Option.bind_some, if_pos j75, c75, f4, f5]
  · refine PR_no hc hm ho (r := -1) ?_ (fun h1 hR h9 => ?_)
    · unfold f_X10_weeks; rw [if_neg a3, if_neg a4]
    · show f_X11_weeks LF h1 73 v1 v = _
      unfold f_X11_weeks; rw [if_pos iO_73, in6, if_neg a3, if_pos (show (60 : Int32) < v by rw [fa_le] at a4; rw [fa_lt]; omega), if_pos rfl]

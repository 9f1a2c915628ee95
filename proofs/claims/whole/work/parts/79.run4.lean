/-! run: both sides put together -/
theorem psA_ex {c : Nat → Nat} : ∀ {i l r : Nat}, scS c i = some (l, r) → ∃ m, (r = 0 ∧ psA c m = i) ∨ (0 < r ∧ psA c m + 1 + dgB (c (psA c m)) = i + r)
  | 0, l, r, h => by cases h; exact ⟨0, Or.inl ⟨rfl, rfl⟩⟩
  | i + 1, l, r, h => by
    cases hs : scS c i with
    | none => rw [scS_n hs] at h; cases h
    | some p =>
      obtain ⟨l', r'⟩ := p
      obtain ⟨m, hm⟩ := psA_ex hs
      cases r' with
      | zero =>
        rw [scS_0 hs] at h
        by_cases q : dgB (c i) = 0
        · rw [if_pos q] at h; cases h
        · rw [if_neg q] at h; cases h
          have e : psA c m = i := by omega
          exact ⟨m, Or.inr ⟨by omega, by rw [e]⟩⟩
      | succ r' =>
        rw [scS_r hs] at h
        cases q : csB l' (c i) with
        | false => rw [q, if_neg (by decide)] at h; cases h
        | true =>
          rw [q, if_pos rfl] at h; cases h
          by_cases z : r = 0
          · refine ⟨m + 1, Or.inl ⟨z, ?_⟩⟩
            show psA c m + 1 + dgB (c (psA c m)) = i + 1
            omega
          · exact ⟨m, Or.inr ⟨by omega, by omega⟩⟩
theorem psA_inj {c : Nat → Nat} {m M : Nat} (h : psA c m = psA c M) : m = M := by
  by_cases q : m < M
  · have := psA_mono c (show m + 1 ≤ M from q)
    have e : psA c (m + 1) = psA c m + 1 + dgB (c (psA c m)) := rfl
    omega
  · by_cases q2 : M < m
    · have := psA_mono c (show M + 1 ≤ m from q2)
      have e : psA c (M + 1) = psA c M + 1 + dgB (c (psA c M)) := rfl
      omega
    · omega
theorem psA_2 {c : Nat → Nat} {lim M : Nat} (hg : ∀ q, q < M → actGood c lim (psA c q)) : ∀ q, q ≤ M → 2 * q ≤ psA c q
  | 0, _ => Nat.zero_le _
  | q + 1, h => by
    have := psA_2 hg q (by omega)
    have g1 := (hg q (by omega)).1
    show 2 * (q + 1) ≤ psA c q + 1 + dgB (c (psA c q))
    omega
theorem MI_txt {h h' : eH} {X : AX} {T : Nat × (Nat → Nat)} (ho : only (fun j k => msc j k ∨ (j = 73 ∧ k = 10)) h h') (hT : MT h' T) (hc : MI h X) : MI h' (setT X T) := by
  obtain ⟨c1, c2, c3, c4, c5, c6, c7, c8, c9⟩ := hc
  exact ⟨MF_only ho (fun k a => by unfold msc; omega) (fun k => by unfold msc; omega) c1, MR_only ho (by unfold msc; omega) (fun k => by unfold msc; omega) c2, (o_I ho (by unfold msc; omega)).trans c3, hT, MS_only ho (fun k => by unfold msc; omega) c5, MU_only ho (by unfold msc; omega) (fun k => by unfold msc; omega) c6, MK_only ho (fun k => by unfold msc; omega) (fun k => by unfold msc; omega) c7, MH_only ho (by unfold msc; omega) (fun k => by unfold msc; omega) c8, MW_only ho (by unfold msc; omega) (fun k => by unfold msc; omega) c9⟩
theorem CI_txt {h h' : eH} {X : AX} {T : Nat × (Nat → Nat)} (ho : only (fun j _ => j = 1 ∨ j = 2) h h') (hT : CT h' T) (hc : CI h X) : CI h' (setT X T) := by
  obtain ⟨c1, ⟨p, c2⟩, ⟨q, c3⟩, c4, c5, c6, c7, c8, c9⟩ := hc
  exact ⟨only_refs ho c1, ⟨p, CF_only ho (fun j k a b => by omega) c2⟩, ⟨q, CR_only ho (fun j k a => by omega) c3⟩, hT, CS_only ho (fun k => by omega) c5, CU_only ho (fun j k a => by omega) c6, CK_only ho (by omega) (fun j k a b => by omega) c7, CH_only ho (fun j k a => by omega) c8, CW_only ho (fun j k a => by omega) c9⟩
theorem okX_txt {B : Nat} {X : AX} {c : Nat → Nat} (ho : okX B X) : okX B (setT X (0, c)) := by
  obtain ⟨o1, o2, o3, o4, o5, o6, o7, o8⟩ := ho
  exact ⟨o1, o2, ⟨Nat.zero_le _, fun k hk => absurd hk (Nat.not_lt_zero k)⟩, o4, o5, o6, o7, o8⟩
theorem cut_C {h : eH} {X : AX} {B : Nat} (hc : CI h X) (ho : okX B X) (c : Nat → Nat) : f_X8_cut LF h 1 0 = some (sI h 1 1 0, 1) ∧ CI (sI h 1 1 0) (setT X (0, c)) ∧ only (fun j _ => j = 1 ∨ j = 2) h (sI h 1 1 0) := by
  have o : only (fun j _ => j = 1 ∨ j = 2) h (sI h 1 1 0) := only_sI (Or.inl rfl)
  have t80 := ho.2.2.1.1
  refine ⟨?_, CI_txt o ⟨by rw [gI_sI, if_pos ⟨rfl, rfl⟩]; rfl, fun k hk => absurd hk (Nat.not_lt_zero k)⟩ hc, o⟩
  unfold f_X8_cut
  rw [if_neg (by decide), if_pos iO_1, hc.2.2.2.1.1, if_pos (show 0 ≤ nI (xT X).1 from nI_le (a := 0) (by omega) (by omega))]
theorem ge_m1 {e : Nat} (he : e ≤ 80) : ¬ (0 : Int32) ≤ -1 - nI e := by
  have : ∀ e, e < 81 → ¬ (0 : Int32) ≤ -1 - nI e := by decide +kernel
  exact this e (by omega)
def bgW (j k : Nat) : Prop := j = 73 ∧ (k = 0 ∨ k = 10 ∨ k = 11 ∨ k = 12 ∨ k = 13 ∨ k = 28)
/-- the reference begins to read: the text is taken, and cut -/
theorem begins_M {h1 : eH} {X : AX} {B L : Nat} (hm : MI h1 X) (ho : okX B X) (hL : L ≤ 80) (hmn : mnI (nI (xT X).1) (nI L) = nI (min (xT X).1 L)) : ∃ g, f_X11_begins LF (sI h1 73 0 0) 73 (nI L) = some (g, nI (xT X).1) ∧ RD g (xT X).2 (min (xT X).1 L) 0 ∧ gI g 73 13 = 0 ∧ MI g (setT X (0, (xT X).2)) ∧ only bgW h1 g := by
  have e10 : gI (sI h1 73 0 0) 73 10 = nI (xT X).1 := by rw [gI_sI, if_neg (by omega)]; exact hm.2.2.2.1.1
  have t80 := ho.2.2.1.1
  have o : only bgW h1 (sI (sI (sI (sI (sI h1 73 0 0) 73 10 0) 73 11 0) 73 13 0) 73 12 (nI (min (xT X).1 L))) := only_trans (only_sI (by unfold bgW; omega)) (only_trans (only_sI (by unfold bgW; omega)) (only_trans (only_sI (by unfold bgW; omega)) (only_trans (only_sI (by unfold bgW; omega)) (only_sI (by unfold bgW; omega)))))
  refine ⟨_, ?_, ⟨?_, ?_, fun k hk => ⟨?_, ho.2.2.1.2 k (by omega)⟩, by omega, Nat.zero_le _⟩, ?_, MI_txt (only_mono (fun j k a => by unfold bgW at a; unfold msc; omega) o) ⟨?_, fun k hk => absurd hk (Nat.not_lt_zero k)⟩ hm, o⟩
  · unfold f_X11_begins
    rw [if_pos iO_73, e10, hmn, Option.bind_some]
  · rw [gI_sI, if_pos ⟨rfl, rfl⟩]
  · rw [gI_sI, if_neg (by omega), gI_sI, if_neg (by omega), gI_sI, if_pos ⟨rfl, rfl⟩]; rfl
  · rw [o_I o (by unfold bgW; omega)]; exact hm.2.2.2.1.2 k (by omega)
  · rw [gI_sI, if_neg (by omega), gI_sI, if_pos ⟨rfl, rfl⟩]
  · rw [gI_sI, if_neg (by omega), gI_sI, if_neg (by omega), gI_sI, if_neg (by omega), gI_sI, if_pos ⟨rfl, rfl⟩]; rfl
theorem run_M {P : Option (eH × Int32) → Prop} {h1 : eH} {X : AX} {B : Nat} (hR : RefsOK h1) (hm : MI h1 X) (ho : okX B X) (y0 : ∀ g e, RefsOK g → MI g (setT X (0, (xT X).2)) → only mdl h1 g → RD g (xT X).2 (min (xT X).1 60) e → rbad (xT X).2 (xT X).1 e → P (f_X11_run_J42 LF g 73 (nI (xT X).1) 0)) (y1 : ∀ g m l, RefsOK g → MI g (setT X (0, (xT X).2)) → only mdl h1 g → RD g (xT X).2 (min (xT X).1 60) (min (xT X).1 60) → psA (xT X).2 m = min (xT X).1 60 → scS (xT X).2 (min (xT X).1 60) = some (l, 0) → gI g 73 28 = nI m → (∀ q, q < m → gI g 85 q = nI (actC ((xT X).2 (psA (xT X).2 q))) ∧ gI g 86 q = nI (vlA (xT X).2 (psA (xT X).2 q))) → P (f_X11_run_J42 LF g 73 (nI (xT X).1) 1)) : P (f_X11_run LF h1 73) := by
  obtain ⟨g, b1, b2, b3, b4, b5⟩ := begins_M (L := 60) hm ho (by decide) (mn60 _ (by have := ho.2.2.1.1; omega))
  have b1 : f_X11_begins LF (sI h1 73 0 0) 73 60 = some (g, nI (xT X).1) := b1
  have hRg := only_refs b5 hR
  have o28 : only (fun j k => j = 73 ∧ k = 28) g (sI g 73 28 0) := only_sI ⟨rfl, rfl⟩
  have oM : ∀ g', only rdW (sI g 73 28 0) g' → RefsOK g' ∧ MI g' (setT X (0, (xT X).2)) ∧ only mdl h1 g' := fun g' o => by
    have o2 : only msc g g' := only_trans (only_mono (fun j k a => by unfold msc; omega) o28) (only_mono (fun j k a => by unfold rdW at a; unfold msc; omega) o)
    exact ⟨only_refs o2 hRg, MI_scr o2 b4, only_trans (only_mono (fun j k a => by unfold bgW at a; unfold mdl; omega) b5) (only_mono (fun _ _ => msc_mdl) o2)⟩
  unfold f_X11_run
  rw [if_pos iO_73, b1, Option.bind_some]
  refine readAll_M (P := P) (h := sI g 73 28 0) (c := (xT X).2) (lim := min (xT X).1 60) (refs_sI hRg) (by omega) only_rfl (RD_only o28 (by omega) (by omega) (fun k => by omega) b2) (by rw [gI_sI, if_pos ⟨rfl, rfl⟩]; rfl) (fun g' e o hd n1 n2 => ?_) (fun g' m l o hd hp hs h28 hq => ?_)
  · obtain ⟨u1, u2, u3⟩ := oM g' o
    refine y0 g' e u1 u2 u3 hd ⟨hd.2.2.2.2, n1, ?_⟩
    rcases n2 with n2 | ⟨n2, n3⟩
    · exact Or.inl n2
    · exact Or.inr ⟨n2, Or.inl n3⟩
  · obtain ⟨u1, u2, u3⟩ := oM g' o
    exact y1 g' m l u1 u2 u3 hd hp hs h28 hq
theorem rbad_u {c : Nat → Nat} {n e e' : Nat} (h : rbad c n e) (h' : rbad c n e') : e = e' := by
  obtain ⟨a1, a2, a3⟩ := h
  obtain ⟨b1, b2, b3⟩ := h'
  rcases a3 with ⟨a3, a4⟩ | ⟨a3, a4⟩
  · rcases b3 with ⟨b3, b4⟩ | ⟨b3, b4⟩
    · by_cases q : e + 1 ≤ e'
      · exact absurd a4 (scS_le q b2)
      · by_cases q2 : e' + 1 ≤ e
        · exact absurd b4 (scS_le q2 a2)
        · omega
    · exact absurd a4 (scS_le (show e + 1 ≤ e' by omega) b2)
  · rcases b3 with ⟨b3, b4⟩ | ⟨b3, b4⟩
    · exact absurd b4 (scS_le (show e' + 1 ≤ e by omega) a2)
    · omega
theorem runB_M {h1 : eH} {X : AX} {B e : Nat} (hR : RefsOK h1) (hm : MI h1 X) (ho : okX B X) (hb : rbad (xT X).2 (xT X).1 e) : ∃ h2, f_X11_run LF h1 73 = some (h2, -1 - nI e) ∧ MI h2 (setT X (0, (xT X).2)) ∧ only mdl h1 h2 := by
  have t80 := ho.2.2.1.1
  have fin : ∀ g v2, MI g (setT X (0, (xT X).2)) → only mdl h1 g → f_X11_faultOf LF g 73 (nI (xT X).1) 60 v2 = some (-1 - nI e) → ∃ h2, f_X11_run_J42 LF g 73 (nI (xT X).1) v2 = some (h2, -1 - nI e) ∧ MI h2 (setT X (0, (xT X).2)) ∧ only mdl h1 h2 := fun g v2 hg og hf => by
    refine ⟨g, ?_, hg, og⟩
    unfold f_X11_run_J42
    rw [if_pos iO_73, hf, Option.bind_some, if_neg (ge_m1 (by have := hb.1; omega))]
  refine run_M (P := fun o => ∃ h2, o = some (h2, -1 - nI e) ∧ MI h2 (setT X (0, (xT X).2)) ∧ only mdl h1 h2) hR hm ho (fun g e' hRg hg og hd hb' => ?_) (fun g m l hRg hg og hd hp hs h28 hq => ?_)
  · have ee := rbad_u hb' hb
    rw [ee] at hd
    exact fin g 0 hg og (fault_0 hd t80)
  · obtain ⟨x1, x2, x3⟩ := hb
    rcases x3 with ⟨x3, x4⟩ | ⟨x3, x4⟩
    · exact absurd x4 (scS_le (show e + 1 ≤ min (xT X).1 60 by omega) (by rw [hs]; exact fun x => by cases x))
    · rcases x4 with ⟨l', r', x4⟩ | ⟨x4, -⟩
      · rw [x3, hs] at x4; cases x4
      · have hf := fault_1 hd t80
        rw [if_pos x4, ← x3] at hf
        exact fin g 1 hg og hf
theorem push_C {h : eH} {X : AX} {S0 : Nat → Int32} (hc : CI h X) (hU : (xU X).1 ≤ 15) (hS : CS h 48 S0) : ∃ h', f_X1_push LF h 6 48 = some h' ∧ CI h' (setU X (pushU (xU X) S0)) ∧ only cls h h' := by
  obtain ⟨h', x1, x2, x3⟩ := remem_C hc hU hS (v := 0) (by decide)
  refine ⟨h', ?_, x2, x3⟩
  unfold f_X10_remembered at x1
  rw [if_neg (by decide), if_pos iO_0, r_0_3 hc.1, Option.bind_some, r_0_8 hc.1, Option.bind_some, if_pos iO_6] at x1
  cases hp : f_X1_push LF h 6 48 with
  | none => rw [hp] at x1; cases x1
  | some g => rw [hp] at x1; cases x1; rfl
theorem J141_C {g : eH} {Y : AX} (hc : CI g Y) (v3 v4 : Int32) : ∃ g', f_X10_run_J141 LF g 0 v3 v4 = some (g', v3) ∧ CI g' (setW Y [(f_X10_oneIf v4).toInt64, (xS Y 75).toInt64]) ∧ only cls g g' := by
  obtain ⟨b1, b2⟩ := rowbeg_C g
  have hRb : RefsOK (sI g 3 1 0) := refs_sI hc.1
  obtain ⟨h3, r1, r2, r3⟩ := rowadd_C hRb b2 (by decide) ((f_X10_oneIf v4).toInt64)
  have hR3 := only_refs r3 hRb
  obtain ⟨h4, s1, s2, s3⟩ := rowadd_C hR3 r2 (show 1 < 37 by decide) ((xS Y 75).toInt64)
  have ob : only (fun j _ => j = 3 ∨ j = 4) g (sI g 3 1 0) := only_sI (Or.inl rfl)
  have e4 : gI h3 46 4 = xS Y 75 := ((o_I r3 (by omega)).trans (o_I ob (by omega))).trans (hc.2.2.2.2.1.2.2.1 4 (by omega) (by omega))
  have oA : only cscW g h4 := only_mono (fun j k a => Or.inr a) (only_trans ob (only_trans r3 s3))
  refine ⟨h4, ?_, CI_row oA s2 hc, only_mono (fun _ _ => cscW_cls) oA⟩
  unfold f_X10_run_J141
  rw [if_pos iO_0, r_0_1 hc.1, Option.bind_some, if_pos iO_3, b1, Option.bind_some, r_0_1 hRb, Option.bind_some, if_pos iO_3, r1, Option.bind_some, r_0_1 hR3, Option.bind_some, r_0_7 hR3, Option.bind_some, if_pos iO_46, if_pos iO_3, e4, s1, Option.bind_some]
def ruX (X : AX) (M : Nat) (r : Nat × (Nat → Int32)) : AX := setU (setW (setS (setT X (0, (xT X).2)) r.2) [(if r.1 < M then (1 : Int32) else 0).toInt64, (r.2 75).toInt64]) (if r.1 = 0 then xU X else pushU (xU X) (xS X))
theorem runG_C {h : eH} {X : AX} {B M l : Nat} (hc : CI h X) (ho : okX B X) (hB : B + 1000 < 2 ^ 31) (hM : M ≤ 30) (hn : (xT X).1 ≤ 60) (hs : scS (xT X).2 (xT X).1 = some (l, 0)) (hp : psA (xT X).2 M = (xT X).1) (hg : ∀ q, q < M → actGood (xT X).2 (xT X).1 (psA (xT X).2 q)) : ∃ h1, f_X10_run LF h 0 = some (h1, nI (rnD (xF X) (xR X) (xT X).2 M 0 (xS X)).1) ∧ CI h1 (ruX X M (rnD (xF X) (xR X) (xT X).2 M 0 (xS X))) ∧ only cls h h1 := by
  obtain ⟨hA, y1, y2, y3, y4⟩ := before_C hc
  obtain ⟨fu, hfu⟩ : ∃ fu, e_fu = fu + M + 2 := ⟨e_fu - M - 2, by unfold e_fu; omega⟩
  obtain ⟨hD, lD, x1, x2, x3, x4⟩ := runL_C (k117 := fun (h25 : eH) (w0_26 : Nat) (w3_27 : Int32) (w4_28 : Int32) => f_X10_run_J117 LF h25 w0_26 w3_27 w4_28) ho hB hM hp hg M 0 fu hA (xS X) (xW X) (by omega) y2 ho.2.2.2.1 ho.2.2.2.2.2.2.2
  have rl := rnD_le (F := xF X) (R := xR X) (c := (xT X).2) M 0 (xS X)
  have ok := rnD_ok (R := xR X) (B := B) ho.1 (fun q hq => ho.2.2.1.2 _ (by have := (good_v (hg q hq)).2.2.2.2.2.2.1; omega)) hg M 0 (xS X) (by omega) ho.2.2.2.1
  generalize rnD (xF X) (xR X) (xT X).2 M 0 (xS X) = r at x1 x2 rl ok ⊢
  have hoD : okX (B + 9 * M) (setW (setS X r.2) lD) := okX_sw ho (by omega) ok x3
  obtain ⟨z1, z2, z3⟩ := cut_C x2 hoD (xT X).2
  have s48 : CS (sI hD 1 1 0) 48 (xS X) := CS_only z3 (fun k => by omega) (CS_only x4 (fun k => by unfold acC; omega) y3)
  have oc : only cls h (sI hD 1 1 0) := only_trans (only_mono (fun _ _ => csc_cls) y4) (only_trans (only_mono (fun _ _ => acC_cls) x4) (only_mono (fun j k a => by unfold cls; omega) z3))
  have one : f_X10_oneIf (if r.1 < M then 1 else 0) = if r.1 < M then 1 else 0 := by
    by_cases q : r.1 < M
    · rw [if_pos q]; rfl
    · rw [if_neg q]; rfl
  have start : f_X10_run LF h 0 = f_X10_run_J117 LF hD 0 (nI r.1) (if r.1 < M then 1 else 0) := by
    unfold f_X10_run
    rw [if_pos iO_0, wrong_0 hc ho hn hs, Option.bind_some, if_pos rfl, r_0_8 hc.1, Option.bind_some, r_0_7 hc.1, Option.bind_some, if_pos iO_48, y1, Option.bind_some, hfu]
    exact x1
  rw [start]
  unfold f_X10_run_J117 ruX
  rw [if_pos iO_0, r_0_0 x2.1, Option.bind_some, if_pos iO_1, z1, Option.bind_some]
  by_cases q : r.1 = 0
  · rw [if_pos q, if_pos (show nI r.1 ≤ 0 from nI_le (b := 0) (by omega) (by decide))]
    obtain ⟨g', w1, w2, w3⟩ := J141_C z2 (nI r.1) (if r.1 < M then 1 else 0)
    rw [one] at w2
    exact ⟨g', w1, w2, only_trans oc w3⟩
  · obtain ⟨hE, p1, p2, p3⟩ := push_C z2 ho.2.2.2.2.1.1 s48
    obtain ⟨g', w1, w2, w3⟩ := J141_C p2 (nI r.1) (if r.1 < M then 1 else 0)
    rw [one] at w2
    rw [if_neg q, if_neg (show ¬ nI r.1 ≤ 0 from nI_ge (a := 0) (by omega) (by omega)), r_0_3 z2.1, Option.bind_some, r_0_8 z2.1, Option.bind_some, if_pos iO_6, p1, Option.bind_some]
    exact ⟨g', w1, w2, only_trans oc (only_trans p3 w3)⟩
theorem runG_M {h1 : eH} {X : AX} {B M l : Nat} (hR : RefsOK h1) (hm : MI h1 X) (ho : okX B X) (hM : M ≤ 30) (hn : (xT X).1 ≤ 60) (hs : scS (xT X).2 (xT X).1 = some (l, 0)) (hp : psA (xT X).2 M = (xT X).1) (hg : ∀ q, q < M → actGood (xT X).2 (xT X).1 (psA (xT X).2 q)) : ∃ h2, f_X11_run LF h1 73 = some (h2, nI (rnD (xF X) (xR X) (xT X).2 M 0 (xS X)).1) ∧ MI h2 (ruX X M (rnD (xF X) (xR X) (xT X).2 M 0 (xS X))) ∧ only mdl h1 h2 := by
  have t80 := ho.2.2.1.1
  have em : min (xT X).1 60 = (xT X).1 := by omega
  have nn : scS (xT X).2 (xT X).1 ≠ none := by rw [hs]; exact fun x => by cases x
  refine run_M (P := fun o => ∃ h2, o = some (h2, nI (rnD (xF X) (xR X) (xT X).2 M 0 (xS X)).1) ∧ MI h2 (ruX X M (rnD (xF X) (xR X) (xT X).2 M 0 (xS X))) ∧ only mdl h1 h2) hR hm ho (fun g e hRg hmg og hd hb => ?_) (fun g m l' hRg hmg og hd hpm hs' h28 hq => ?_)
  · obtain ⟨x1, x2, x3⟩ := hb
    rw [em] at x1 x3
    rcases x3 with ⟨x3, x4⟩ | ⟨x3, x4⟩
    · exact absurd x4 (scS_le (show e + 1 ≤ (xT X).1 by omega) nn)
    · rw [x3, hs] at x4
      rcases x4 with ⟨a, b, x4⟩ | ⟨x4, -⟩
      · cases x4
      · omega
  · have eM : m = M := psA_inj (c := (xT X).2) (by rw [hpm, hp, em])
    subst eM
    have hf := fault_1 hd t80
    rw [if_neg (by omega)] at hf
    obtain ⟨hA, y1, y2, y3, y4⟩ := putsBy_M hRg hmg ho.2.2.2.2.1.1
    have hRA := only_refs y4 hRg
    obtain ⟨fu, hfu⟩ : ∃ fu, e_fu = fu + m + 1 := ⟨e_fu - m - 1, by unfold e_fu; omega⟩
    obtain ⟨hD, x1, x2, x3⟩ := runL_M (k88 := fun (h19 : eH) (w0_20 : Nat) (w4_21 : Int32) => f_X11_run_J88 LF h19 w0_20 w4_21) (Y := setT X (0, (xT X).2)) (c := (xT X).2) (okX_txt ho) hM (fun q hq => ho.2.2.1.2 _ (by have := (good_v (hg q hq)).2.2.2.2.2.2.1; omega)) hg m 0 fu hA (xS X) (by omega) hRA y2 ho.2.2.2.1 ((o_I y4 (by omega)).trans h28) (fun q hqq => ⟨(o_I y4 (by omega)).trans (hq q hqq).1, (o_I y4 (by omega)).trans (hq q hqq).2⟩)
    have x1 : f_X11_run_L64 LF (fu + m + 1) (fun (h19 : eH) (w0_20 : Nat) (w4_21 : Int32) => f_X11_run_J88 LF h19 w0_20 w4_21) hA 73 0 = f_X11_run_J88 LF hD 73 (nI (rnD (xF X) (xR X) (xT X).2 m 0 (xS X)).1) := x1
    have x2 : MI hD (setS (setT X (0, (xT X).2)) (rnD (xF X) (xR X) (xT X).2 m 0 (xS X)).2) := x2
    have rl := rnD_le (F := xF X) (R := xR X) (c := (xT X).2) m 0 (xS X)
    have start : f_X11_run_J42 LF g 73 (nI (xT X).1) 1 = f_X11_run_J88 LF hD 73 (nI (rnD (xF X) (xR X) (xT X).2 m 0 (xS X)).1) := by
      unfold f_X11_run_J42
      rw [if_pos iO_73, hf, Option.bind_some, if_pos (by decide), y1, Option.bind_some, hfu]
      exact x1
    rw [start]
    generalize rnD (xF X) (xR X) (xT X).2 m 0 (xS X) = r at x2 rl ⊢
    have hRD := only_refs x3 hRA
    have hRb : RefsOK (sI hD 73 1 0) := refs_sI hRD
    have d28 : gI (sI hD 73 1 0) 73 28 = nI m := by rw [gI_sI, if_neg (by omega), o_I x3 (by unfold dsW amS; omega), o_I y4 (by omega)]; exact h28
    obtain ⟨h3, r1, r2, r3⟩ := rowadd_M hRb (rowbeg_M hD) (by decide) ((if r.1 < m then (1 : Int32) else 0).toInt64)
    have hR3 := only_refs r3 hRb
    obtain ⟨h4, s1, s2, s3⟩ := rowadd_M hR3 r2 (show 1 < 48 by decide) ((r.2 75).toInt64)
    have ob : only (fun j k => (j = 73 ∧ k = 1) ∨ j = 74) hD (sI hD 73 1 0) := only_sI (Or.inl ⟨rfl, rfl⟩)
    have e4 : gI h3 76 75 = r.2 75 := ((o_I r3 (by omega)).trans (o_I ob (by omega))).trans (MS_0 x2.2.2.2.2.1 (by omega))
    have oA : only mscW hD h4 := only_mono (fun j k a => Or.inr a) (only_trans ob (only_trans r3 s3))
    have mi4 := MI_row oA s2 x2
    have hR4 := only_refs s3 hR3
    have o1 : only mdl h1 h4 := only_trans og (only_trans (only_mono (fun j k a => by unfold mdl; omega) y4) (only_trans (only_mono (fun j k a => by unfold dsW amS at a; unfold mdl; omega) x3) (only_mono (fun _ _ => mscW_mdl) oA)))
    obtain ⟨-, -, -, i75, -, i77, -⟩ := iM (a := 76) (Or.inl rfl)
    have J : ∀ s, f_X11_flag s = (if r.1 < m then 1 else 0) → f_X11_run_J108 LF (sI hD 73 1 0) 73 (nI r.1) 73 s = if nI r.1 ≤ 0 then some (h4, 0) else (f_X11_adds LF h4 73 (nI r.1)).bind fun r32 => some (r32.1, r32.2) := fun s hsf => by
      unfold f_X11_run_J108
      rw [if_pos iO_73, hsf, r1, Option.bind_some, if_pos iO_73, r_73_7 hR3, Option.bind_some, if_pos i75, c75, e4, s1, Option.bind_some]
    have e88 : f_X11_run_J88 LF hD 73 (nI r.1) = if nI r.1 ≤ 0 then some (h4, 0) else (f_X11_adds LF h4 73 (nI r.1)).bind fun r32 => some (r32.1, r32.2) := by
      unfold f_X11_run_J88
      rw [if_pos iO_73, d28]
      by_cases q : r.1 < m
      · rw [if_neg (nI_ge q (by omega)), J 1 (by rw [if_pos q]; rfl)]
      · rw [if_pos (nI_le (by omega) (by omega)), J 0 (by rw [if_neg q]; rfl)]
    rw [e88]
    unfold ruX
    by_cases q : r.1 = 0
    · rw [if_pos q, if_pos (show nI r.1 ≤ 0 from nI_le (b := 0) (by omega) (by decide))]
      exact ⟨h4, by rw [q]; rfl, mi4, o1⟩
    · have s84 : MS h4 84 (79 * (xU X).1) (xS X) := MS_only oA (fun k => by unfold mscW msc; omega) (MS_only x3 (fun k => by unfold dsW amS; omega) y3)
      obtain ⟨hZ, z1, z2, z3⟩ := adds_M hR4 mi4 ho.2.2.2.2.1.1 s84 (nI r.1)
      rw [if_neg q, if_neg (show ¬ nI r.1 ≤ 0 from nI_ge (a := 0) (by omega) (by omega)), z1, Option.bind_some]
      exact ⟨hZ, rfl, z2, only_trans o1 z3⟩
theorem run_P {B : Nat} {h : eH} {X : AX} (hc : CI h X) (hm : MI h X) (ho : okX B X) (hB : B + 1000 < 2 ^ 31) : PR B (f_X10_run LF h 0) (fun h1 => f_X11_run LF h1 73) := by
  have t80 := ho.2.2.1.1
  rcases rbad_or (xT X).2 (xT X).1 with ⟨e, hb⟩ | ⟨hn, l, hs⟩
  · refine PR_mk hm (X' := setT X (0, (xT X).2)) (r := -1 - nI e) ?_ (fun h1 hR h9 => runB_M hR h9 ho hb) (okX_mono (by omega) (okX_txt ho))
    obtain ⟨z1, z2, z3⟩ := cut_C hc ho (xT X).2
    refine ⟨_, ?_, z2, only_mono (fun j k a => by unfold cls; omega) z3⟩
    have ne : ¬ nI e = -1 := by
      have : ∀ e, e < 81 → ¬ nI e = -1 := by decide +kernel
      exact this e (by have := hb.1; omega)
    unfold f_X10_run
    rw [if_pos iO_0, wrong_1 hc ho hb, Option.bind_some, if_neg ne, r_0_0 hc.1, Option.bind_some, if_pos iO_1, z1, Option.bind_some]
  · obtain ⟨M, hM⟩ := psA_ex hs
    have hp : psA (xT X).2 M = (xT X).1 := by omega
    have hg := good_all hp (by rw [hs]; exact fun x => by cases x)
    have h2 := psA_2 hg M (Nat.le_refl _)
    have hM30 : M ≤ 30 := by omega
    have ok := rnD_ok (R := xR X) (B := B) ho.1 (fun q hq => ho.2.2.1.2 _ (by have := (good_v (hg q hq)).2.2.2.2.2.2.1; omega)) hg M 0 (xS X) (by omega) ho.2.2.2.1
    refine PR_mk hm (X' := ruX X M (rnD (xF X) (xR X) (xT X).2 M 0 (xS X))) (r := nI (rnD (xF X) (xR X) (xT X).2 M 0 (xS X)).1) (runG_C hc ho hB hM30 hn hs hp hg) (fun h1 hR h9 => runG_M hR h9 ho hM30 hn hs hp hg) ?_
    generalize rnD (xF X) (xR X) (xT X).2 M 0 (xS X) = r at ok ⊢
    have hoT : okX (B + 300) (setT X (0, (xT X).2)) := okX_mono (by omega) (okX_txt ho)
    have ok3 : okA (xF X) (B + 300) r.2 := okA_mono (by omega) ok
    unfold ruX
    by_cases q : r.1 = 0
    · rw [if_pos q]
      obtain ⟨o1, o2, o3, o4, o5, o6, o7, o8⟩ := hoT
      exact ⟨o1, o2, o3, ok3, o5, o6, o7, (show 2 ≤ 37 by decide)⟩
    · rw [if_neg q]
      exact okX_push (l := [(if r.1 < M then (1 : Int32) else 0).toInt64, (r.2 75).toInt64]) hoT (okA_mono (by omega) ho.2.2.2.1) ok3 (show 2 ≤ 37 by decide)

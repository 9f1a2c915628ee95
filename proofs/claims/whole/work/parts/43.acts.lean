/-! days, chair, load: one side at a time, as they are used by run too. -/
theorem mn99 : ∀ a, a < 102 → mnI 99 (nI a) = nI (min a 99) ∧ mxI 0 (mnI (nI a) 99) = nI (min a 99) := by decide +kernel
def daI (F : FV) (S : Nat → Int32) (i k : Nat) : Int32 := if k < 36 ∧ k < i ∧ kF F k ≠ 0 then mnI 99 (S k + nI (kF F k)) else S k
def dayA (F : FV) (S : Nat → Int32) : Nat → Int32 := upd (daI F S 36) 78 (S 78 + 1)
theorem daI_s {F : FV} {S : Nat → Int32} {i : Nat} (h : kF F i ≠ 0) (hi : i < 36) : upd (daI F S i) i (mnI 99 (S i + nI (kF F i))) = daI F S (i + 1) := by
  funext k
  unfold daI
  by_cases hk : k = i
  · subst hk; rw [pk_us, if_pos ⟨hi, by omega, h⟩]
  · rw [u_n hk]
    by_cases h2 : k < 36 ∧ k < i ∧ kF F k ≠ 0
    · rw [if_pos h2, if_pos ⟨h2.1, by omega, h2.2.2⟩]
    · rw [if_neg h2, if_neg (fun q => h2 ⟨q.1, by omega, q.2.2⟩)]
theorem daI_z {F : FV} {S : Nat → Int32} {i : Nat} (h : kF F i = 0) : daI F S i = daI F S (i + 1) := by
  funext k
  unfold daI
  by_cases h2 : k < 36 ∧ k < i ∧ kF F k ≠ 0
  · rw [if_pos h2, if_pos ⟨h2.1, by omega, h2.2.2⟩]
  · rw [if_neg h2, if_neg (fun q => h2 ⟨q.1, by
      rcases Nat.lt_or_ge k i with g | g
      · exact g
      · have : k = i := by omega
        subst this; exact absurd h q.2.2, q.2.2⟩)]
theorem daI_n {F : FV} {S : Nat → Int32} {i k : Nat} (h : ¬ k < i) : daI F S i k = S k := by unfold daI; rw [if_neg (fun q => h q.2.1)]
theorem daI_36 {F : FV} {S : Nat → Int32} (v : Int32) : daI F (upd S 78 v) 36 = upd (daI F S 36) 78 v := by
  funext k
  by_cases hk : k = 78
  · subst hk; rw [pk_us, daI_n (by omega), pk_us]
  · rw [u_n hk]; unfold daI; rw [u_n hk]
theorem daI_0 {F : FV} {S : Nat → Int32} : daI F S 0 = S := by funext k; exact daI_n (by omega)
theorem okA_day {F : FV} {B : Nat} {S : Nat → Int32} (hF : okF F) (ho : okA F B S) : okA F B (dayA F S) := by
  obtain ⟨⟨sp, a1, a2, a3, a4⟩, ⟨hd, b1, b2⟩, ⟨cu, c1, c2⟩, ⟨bu, d1, d2⟩, e1, g1⟩ := ho
  have hb : ∀ k, 36 ≤ k → k ≠ 78 → dayA F S k = S k := fun k h1 h2 => by unfold dayA; rw [u_n h2, daI_n (by omega)]
  refine ⟨⟨sp, a1, a2, (hb _ (by omega) (by omega)).trans a3, (hb _ (by omega) (by omega)).trans a4⟩, ⟨hd, b1, (hb _ (by omega) (by omega)).trans b2⟩, ⟨cu, c1, (hb _ (by omega) (by omega)).trans c2⟩, ⟨bu, d1, (hb _ (by omega) (by omega)).trans d2⟩, fun k hk => ?_, fun k hk => ?_⟩
  · obtain ⟨du, x, y, z⟩ := e1 k hk
    have hkf := kF_le hF k
    unfold dayA
    rw [u_n (by omega)]
    unfold daI
    by_cases hz : kF F k = 0
    · rw [if_neg (fun q => q.2.2 hz)]; exact ⟨du, x, y, z⟩
    · rw [if_pos ⟨hk, hk, hz⟩, y, nI_add, (mn99 _ (by omega)).1]
      exact ⟨min (du + kF F k) 99, by omega, rfl, fun q => absurd q hz⟩
  · rw [hb _ (by omega) (by omega)]; exact g1 k hk
theorem dayFalls_C {h : eH} {s p B : Nat} {F : FV} {S : Nat → Int32} (hF : okF F) (hR : RefsOK h) (hs : s ∈ stL) (hp : CF h p F) (hS : CS h s S) (ho : okA F B S) : ∃ h', f_X6_dayFalls LF h s p = some h' ∧ CS h' s (dayA F S) ∧ only (fun j _ => j = s ∨ j = s + 1) h h' := by
  have hsl := stL_ne hs
  have e7 : gI h s 7 = S 78 := hS.2.2.1 7 (by omega) (by omega)
  unfold f_X6_dayFalls
  rw [if_pos (st_O s hs), e7]
  refine lpF (N := 36) (s := sI h s 7 (S 78 + 1)) (run := fun fu (g : eH) i => f_X6_dayFalls_L12 LF fu (fun (h11 : eH) => some h11) g s p (nI i)) (Inv := fun i g => CS g s (daI F (upd S 78 (S 78 + 1)) i) ∧ only (fun j _ => j = s ∨ j = s + 1) h g) (Post := fun r => ∃ h', r = some h' ∧ CS h' s (dayA F S) ∧ only (fun j _ => j = s ∨ j = s + 1) h h') (by decide) ⟨?_, only_sI (Or.inl rfl)⟩ ?_ ?_
  · rw [daI_0]; exact CS_f (k := 7) _ hS (by omega) (by omega)
  · rintro fu g ⟨g1, g2⟩
    refine ⟨g, ?_, by rw [daI_36] at g1; exact g1, g2⟩
    show f_X6_dayFalls_L12 LF (fu + 1) _ g s p (nI 36) = _
    unfold f_X6_dayFalls_L12
    rw [if_pos (by decide)]
  · rintro i fu g hi ⟨g1, g2⟩
    have hRg := only_refs g2 hR
    have hpg := CF_only g2 (fun j k a b => by omega) hp
    obtain ⟨du, x, y, z⟩ := ho.2.2.2.2.1 i hi
    have hkf := kF_le hF i
    have h4 : f_X10_holds (gL g p 4) (nI i) = if kF F i ≠ 0 then 1 else 0 := by rw [holds_k _ hi, hpg.2.2.2.2.2.2.1]; by_cases q : kF F i = 0 <;> simp [q]
    have h5 : f_X10_holds (gL g p 5) (nI i) = if kF F i = 2 then 1 else 0 := by rw [holds_k _ hi, hpg.2.2.2.2.2.2.2.1]; by_cases q : kF F i = 2 <;> simp [q]
    have hd : gI g (s + 1) i = nI du := by rw [g1.1 i hi, daI_n (by omega), u_n (by omega)]; exact y
    right
    by_cases hz : kF F i = 0
    · refine ⟨g, ⟨by rw [← daI_z hz]; exact g1, g2⟩, fun w hw => ?_⟩
      show f_X6_dayFalls_L12 LF (fu + 1) _ g s p (nI i) = w
      unfold f_X6_dayFalls_L12
      rw [if_neg (show ¬ (36 : Int32) ≤ nI i from nI_ge (b := 36) hi (by decide)), if_pos (p_O hp), show f_X10_holds (gL g p 4) (nI i) = 0 by rw [h4, if_neg (fun q => q hz)], if_pos rfl, nI_p1]
      exact hw
    · have key : ∀ m : Nat, m ≤ 2 → kF F i = m → f_X6_putDust LF g s (nI i) (nI du + nI m) = some (sI g (s + 1) i (mnI 99 (S i + nI (kF F i)))) := fun m hm hm2 => by
        rw [putDust_k hRg hs hi, nI_add, (mn99 _ (by omega)).2, hm2, y, nI_add, (mn99 _ (by omega)).1]
      refine ⟨sI g (s + 1) i (mnI 99 (S i + nI (kF F i))), ⟨?_, only_trans g2 (only_sI (Or.inr rfl))⟩, fun w hw => ?_⟩
      · have := CS_d (k := i) (mnI 99 (S i + nI (kF F i))) g1 hi
        have e := daI_s (S := upd S 78 (S 78 + 1)) hz hi
        rw [u_n (show i ≠ 78 by omega)] at e
        rw [← e]; exact this
      · show f_X6_dayFalls_L12 LF (fu + 1) _ g s p (nI i) = w
        unfold f_X6_dayFalls_L12
        rw [if_neg (show ¬ (36 : Int32) ≤ nI i from nI_ge (b := 36) hi (by decide)), if_pos (p_O hp), show f_X10_holds (gL g p 4) (nI i) = 1 by rw [h4, if_pos hz], if_neg i10, if_pos (st_O s hs), st_ref hRg hs, Option.bind_some, inA_of (st_sh s hs).2 (st_sh s hs).1, if_pos (in_nI hi (by decide)), nI_clamp (by omega), hd]
        by_cases h2 : kF F i = 2
        · have k2 := key 2 (by omega) h2
          rw [show f_X10_holds (gL g p 5) (nI i) = 1 by rw [h5, if_pos h2], if_neg i10, show (2 : Int32) = nI 2 from rfl, k2, Option.bind_some, nI_p1]
          exact hw
        · have k1 := key 1 (by omega) (by omega)
          rw [show f_X10_holds (gL g p 5) (nI i) = 0 by rw [h5, if_neg h2], if_pos rfl, show nI du + 1 = nI du + nI 1 from rfl, k1, Option.bind_some, nI_p1]
          exact hw
theorem spots_M {h : eH} {F : FV} (hm : MF h F) : f_X11_spots LF h 73 = some (nI (nF F)) := by
  unfold f_X11_spots
  rw [if_pos iO_73, hm.1, hm.2.1]
  exact congrArg some (pk_mul _ _)
theorem dayGoes_M {h : eH} {a B : Nat} {F : FV} {S : Nat → Int32} (hF : okF F) (hR : RefsOK h) (ha : a = 76 ∨ a = 77) (hm : MF h F) (hS : MS h a 0 S) (ho : okA F B S) : ∃ h', f_X11_dayGoes LF h 73 a = some h' ∧ MS h' a 0 (dayA F S) ∧ only (fun j _ => j = a) h h' := by
  have h36 := nF_le hF
  have i78 : inA LF a 0 78 = true := (iM ha).2.2.2.2.2.2
  unfold f_X11_dayGoes
  refine lpF (N := nF F) (s := h) (run := fun fu (g : eH) i => f_X11_dayGoes_L2 LF fu (fun (h10 : eH) (w1_11 : Nat) => if inA LF w1_11 0 78 = true then (some (sI h10 w1_11 (78 : Int32).toNatClampNeg ((gI h10 w1_11 (78 : Int32).toNatClampNeg) + 1))).bind fun h13 => some h13 else none) g 73 a (nI i)) (Inv := fun i g => MS g a 0 (daI F S i) ∧ only (fun j _ => j = a) h g) (Post := fun r => ∃ h', r = some h' ∧ MS h' a 0 (dayA F S) ∧ only (fun j _ => j = a) h h') (by omega) ⟨by rw [daI_0]; exact hS, only_rfl⟩ ?_ ?_
  · rintro fu g ⟨g1, g2⟩
    have hmg := MF_only g2 (fun k _ => by omega) (fun k => by omega) hm
    have e36 : daI F S (nF F) = daI F S 36 := by
      funext k
      unfold daI
      by_cases h2 : k < 36 ∧ k < nF F ∧ kF F k ≠ 0
      · rw [if_pos h2, if_pos ⟨h2.1, h2.1, h2.2.2⟩]
      · rw [if_neg h2, if_neg (fun q => h2 ⟨q.1, kF_lt q.2.2, q.2.2⟩)]
    refine ⟨sI g a 78 (S 78 + 1), ?_, ?_, only_trans g2 (only_sI rfl)⟩
    · show f_X11_dayGoes_L2 LF (fu + 1) _ g 73 a (nI (nF F)) = _
      unfold f_X11_dayGoes_L2
      have e78 : gI g a 78 = S 78 := by rw [MS_0 g1 (by omega), daI_n (by omega)]
      rw [if_pos iO_73, spots_M hmg, Option.bind_some, if_pos (nI_le (Nat.le_refl _) (by omega))]
      show (if inA LF a 0 78 = true then (some (sI g a (78 : Int32).toNatClampNeg ((gI g a (78 : Int32).toNatClampNeg) + 1))).bind fun h13 => some h13 else none) = _
      rw [if_pos i78, Option.bind_some, c78, e78]
    · rw [e36] at g1; exact MS_u _ g1
  · rintro i fu g hi ⟨g1, g2⟩
    have hRg := only_refs g2 hR
    have hmg := MF_only g2 (fun k _ => by omega) (fun k => by omega) hm
    obtain ⟨du, x, y, z⟩ := ho.2.2.2.2.1 i (by omega)
    have hkf := kF_le hF i
    right
    have e0 : gI g a i = S i := by rw [MS_0 g1 (by omega), daI_n (by omega)]
    refine ⟨sI g a i (mnI 99 (S i + nI (kF F i))), ⟨?_, only_trans g2 (only_sI rfl)⟩, fun w hw => ?_⟩
    · by_cases hz : kF F i = 0
      · have hv : mnI 99 (S i + nI (kF F i)) = daI F S i i := by
          rw [daI_n (by omega), y, z hz, hz]; decide
        rw [hv, ← daI_z hz]
        have hsame : upd (daI F S i) i (daI F S i i) = daI F S i := by
          funext k
          by_cases hk : k = i
          · subst hk; exact pk_us
          · exact u_n hk
        have := MS_u (k := i) (daI F S i i) g1
        rw [hsame] at this; exact this
      · rw [← daI_s hz (by omega)]; exact MS_u _ g1
    · show f_X11_dayGoes_L2 LF (fu + 1) _ g 73 a (nI i) = w
      unfold f_X11_dayGoes_L2
      rw [if_pos iO_73, spots_M hmg, Option.bind_some, if_neg (show ¬ nI (nF F) ≤ nI i from nI_ge hi (by omega)), inA36 ha, if_pos (in_nI (by omega) (by decide)), r_73_6 hRg, Option.bind_some, iA_75, if_pos (in_nI (by omega) (by decide)), nI_clamp (by omega), e0, hmg.2.2.2 i (by omega), Option.bind_some, nI_p1]
      exact hw
/-! sums of a row -/
def smI (S : Nat → Int32) : Nat → Int32
  | 0 => 0
  | n + 1 => smI S n + S n
theorem smI_cong {S T : Nat → Int32} : ∀ {n : Nat}, (∀ k, k < n → S k = T k) → smI S n = smI T n
  | 0, _ => rfl
  | n + 1, h => by
    show smI S n + S n = smI T n + T n
    rw [smI_cong (fun k hk => h k (by omega)), h n (by omega)]
theorem smI_nat {S : Nat → Int32} {f : Nat → Nat} : ∀ {n : Nat}, (∀ k, k < n → S k = nI (f k)) → smI S n = nI (fb_sm f n)
  | 0, _ => rfl
  | n + 1, h => by
    show smI S n + S n = nI (fb_sm f n + f n)
    rw [smI_nat (fun k hk => h k (by omega)), h n (by omega), nI_add]
theorem smI_ct {p : Nat → Bool} : ∀ (n : Nat), smI (fun k => if p k then 1 else 0) n = nI (fb_ct p n)
  | 0 => rfl
  | n + 1 => by
    show smI _ n + (if p n then 1 else 0) = nI (fb_ct p n + (if p n then 1 else 0))
    rw [smI_ct n]
    by_cases h : p n = true
    · rw [if_pos h, if_pos h, nI_1]
    · rw [if_neg h, if_neg h]; exact nI_add _ 0
theorem dust_pos {F : FV} {B : Nat} {S : Nat → Int32} (ho : okA F B S) : ∃ d, d ≤ 3564 ∧ smI S 36 = nI d := by
  have hx : ∀ k, ∃ d : Nat, k < 36 → d ≤ 99 ∧ S k = nI d := fun k => by
    by_cases hk : k < 36
    · obtain ⟨du, x, y, z⟩ := ho.2.2.2.2.1 k hk
      exact ⟨du, fun _ => ⟨x, y⟩⟩
    · exact ⟨0, fun q => absurd q hk⟩
  obtain ⟨f, hf⟩ := Classical.axiomOfChoice hx
  exact ⟨fb_sm f 36, fb_sm_bound (c := 99) (fun k hk => (hf k hk).1), smI_nat (fun k hk => (hf k hk).2)⟩
theorem dustAll_C {h : eH} {s : Nat} {S : Nat → Int32} (hR : RefsOK h) (hs : s ∈ stL) (hS : CS h s S) : f_X6_dustOfAll LF h s = some (smI S 36) := by
  unfold f_X6_dustOfAll
  refine lpF (N := 36) (s := (0 : Int32)) (run := fun fu (g : Int32) i => f_X6_dustOfAll_L4 LF h fu (fun (w1_5 : Int32) => some w1_5) s g (nI i)) (Inv := fun i g => g = smI S i) (Post := fun r => r = some (smI S 36)) (by decide) rfl ?_ ?_
  · rintro fu g rfl
    show f_X6_dustOfAll_L4 LF h (fu + 1) _ s (smI S 36) (nI 36) = _
    unfold f_X6_dustOfAll_L4
    rw [if_pos (by decide)]
  · rintro i fu g hi rfl
    refine Or.inr ⟨smI S (i + 1), rfl, fun w hw => ?_⟩
    show f_X6_dustOfAll_L4 LF h (fu + 1) _ s (smI S i) (nI i) = w
    unfold f_X6_dustOfAll_L4
    rw [if_neg (show ¬ (36 : Int32) ≤ nI i from nI_ge (b := 36) hi (by decide)), if_pos (st_O s hs), st_ref hR hs, Option.bind_some, inA_of (st_sh s hs).2 (st_sh s hs).1, if_pos (in_nI hi (by decide)), nI_clamp (by omega), hS.1 i hi, nI_p1]
    exact hw
theorem dustAll_M {h : eH} {a : Nat} {S : Nat → Int32} (ha : a = 76 ∨ a = 77) (hS : MS h a 0 S) : f_X11_dustAll LF h 73 a = some (smI S 36) := by
  unfold f_X11_dustAll
  refine lpF (N := 36) (s := (0 : Int32)) (run := fun fu (g : Int32) i => f_X11_dustAll_L4 LF h fu (fun (w2_2 : Int32) => some w2_2) a g (nI i)) (Inv := fun i g => g = smI S i) (Post := fun r => r = some (smI S 36)) (by decide) rfl ?_ ?_
  · rintro fu g rfl
    show f_X11_dustAll_L4 LF h (fu + 1) _ a (smI S 36) (nI 36) = _
    unfold f_X11_dustAll_L4
    rw [if_pos (by decide)]
  · rintro i fu g hi rfl
    refine Or.inr ⟨smI S (i + 1), rfl, fun w hw => ?_⟩
    show f_X11_dustAll_L4 LF h (fu + 1) _ a (smI S i) (nI i) = w
    unfold f_X11_dustAll_L4
    rw [if_neg (show ¬ (36 : Int32) ≤ nI i from nI_ge (b := 36) hi (by decide)), inA36 ha, if_pos (in_nI (by omega) (by decide)), nI_clamp (by omega), MS_0 hS (by omega), nI_p1]
    exact hw
theorem chairs_M {h : eH} {a : Nat} {S : Nat → Int32} (ha : a = 76 ∨ a = 77) (hS : MS h a 0 S) : f_X11_chairMany LF h 73 a = some (smI (fun k => S (36 + k)) 36) := by
  unfold f_X11_chairMany
  refine lpF (N := 36) (s := (0 : Int32)) (run := fun fu (g : Int32) i => f_X11_chairMany_L4 LF h fu (fun (w2_2 : Int32) => some w2_2) a g (nI i)) (Inv := fun i g => g = smI (fun k => S (36 + k)) i) (Post := fun r => r = some (smI (fun k => S (36 + k)) 36)) (by decide) rfl ?_ ?_
  · rintro fu g rfl
    show f_X11_chairMany_L4 LF h (fu + 1) _ a (smI _ 36) (nI 36) = _
    unfold f_X11_chairMany_L4
    rw [if_pos (by decide)]
  · rintro i fu g hi rfl
    refine Or.inr ⟨smI (fun k => S (36 + k)) (i + 1), rfl, fun w hw => ?_⟩
    show f_X11_chairMany_L4 LF h (fu + 1) _ a (smI _ i) (nI i) = w
    unfold f_X11_chairMany_L4
    rw [if_neg (show ¬ (36 : Int32) ≤ nI i from nI_ge (b := 36) hi (by decide)), show (36 : Int32) + nI i = nI (36 + i) from nI_add 36 i, inA36 ha, if_pos (in_nI (by omega) (by decide)), nI_clamp (by omega), MS_0 hS (by omega), nI_p1]
    exact hw
theorem chairs_C {h : eH} {s : Nat} {S : Nat → Int32} (hS : CS h s S) : f_J13_bitCount_95d88 (gL h s 8) = smI (fun k => S (36 + k)) 36 := by
  rw [bitC36 (fun k hk => by
    cases ht : tb (gL h s 8) k with
    | false => rfl
    | true => have := hS.2.2.2 k ht; omega), ← smI_ct]
  exact smI_cong (fun k hk => (hS.2.1 k hk).symm)

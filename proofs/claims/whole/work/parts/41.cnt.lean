/-! Loops; Long.bitCount counts the bits. -/
theorem lpW {σ β : Type} {run : Nat → σ → β} {Inv : Nat → σ → Prop} {Post : β → Prop} (hs : ∀ m fu s, Inv m s → Post (run (fu + 1) s) ∨ ∃ s' m', m' < m ∧ Inv m' s' ∧ ∀ z, run fu s' = z → run (fu + 1) s = z) : ∀ (m fu : Nat) (s : σ), m < fu → Inv m s → Post (run fu s) := by
  intro m
  induction m using Nat.strongRecOn with
  | ind m ih =>
    intro fu s hm hi
    obtain ⟨f, rfl⟩ : ∃ f, fu = f + 1 := ⟨fu - 1, by omega⟩
    rcases hs m f s hi with h | ⟨s', m', h1, h2, h3⟩
    · exact h
    · rw [h3 _ rfl]; exact ih m' h1 f s' (by omega) h2
theorem lpX {σ β : Type} {N : Nat} {run : Nat → σ → Nat → β} {Inv : Nat → σ → Prop} {Post : β → Prop} (hz : ∀ fu s, Inv N s → Post (run (fu + 1) s N)) (hs : ∀ i fu s, i < N → Inv i s → Post (run (fu + 1) s i) ∨ ∃ s', Inv (i + 1) s' ∧ ∀ z, run fu s' (i + 1) = z → run (fu + 1) s i = z) : ∀ (m i fu : Nat) (s : σ), i + m = N → m < fu → Inv i s → Post (run fu s i) := by
  intro m
  induction m with
  | zero =>
    intro i fu s hi hf h
    obtain ⟨f, rfl⟩ : ∃ f, fu = f + 1 := ⟨fu - 1, by omega⟩
    have : i = N := by omega
    subst this
    exact hz f s h
  | succ m ih =>
    intro i fu s hi hf h
    obtain ⟨f, rfl⟩ : ∃ f, fu = f + 1 := ⟨fu - 1, by omega⟩
    rcases hs i f s (by omega) h with h1 | ⟨s', h2, h3⟩
    · exact h1
    · rw [h3 _ rfl]; exact ih (i + 1) f s' (by omega) (by omega) h2
theorem lpF {σ β : Type} {N : Nat} {run : Nat → σ → Nat → β} {Inv : Nat → σ → Prop} {Post : β → Prop} {s : σ} (hN : N < 3999) (h0 : Inv 0 s) (hz : ∀ fu s, Inv N s → Post (run (fu + 1) s N)) (hs : ∀ i fu s, i < N → Inv i s → Post (run (fu + 1) s i) ∨ ∃ s', Inv (i + 1) s' ∧ ∀ z, run fu s' (i + 1) = z → run (fu + 1) s i = z) : Post (run e_fu s 0) := lpX hz hs N 0 e_fu s (by omega) (by unfold e_fu; omega) h0
theorem lpF1 {σ β : Type} {N : Nat} {run : Nat → σ → Nat → β} {Inv : Nat → σ → Prop} {Post : β → Prop} {s : σ} (hN : N < 3999) (hN1 : 1 ≤ N) (h0 : Inv 1 s) (hz : ∀ fu s, Inv N s → Post (run (fu + 1) s N)) (hs : ∀ i fu s, i < N → Inv i s → Post (run (fu + 1) s i) ∨ ∃ s', Inv (i + 1) s' ∧ ∀ z, run fu s' (i + 1) = z → run (fu + 1) s i = z) : Post (run e_fu s 1) := lpX hz hs (N - 1) 1 e_fu s (by omega) (by unfold e_fu; omega) h0
/-! a question: the row alone is told anew, or nothing -/
theorem PR_q {B : Nat} {h : eH} {X : AX} {a : Option (eH × Int32)} {b : eH → Option (eH × Int32)} {r : Int32} {l : List Int64} (hc : CI h X) (hm : MI h X) (ho : okX B X) (hl : l.length ≤ 37) (hC : ∃ h1, a = some (h1, r) ∧ CW h1 l ∧ only cscW h h1) (hM : ∀ h1, RefsOK h1 → MI h1 X → ∃ h2, b h1 = some (h2, r) ∧ MW h2 l ∧ only mscW h1 h2) : PR B a b := by
  obtain ⟨h1, x1, x2, x3⟩ := hC
  refine PR_mk hm (X' := setW X l) (r := r) ⟨h1, x1, CI_row x3 x2 hc, only_mono (fun _ _ => cscW_cls) x3⟩ (fun h1 hR h9 => ?_) ?_
  · obtain ⟨h2, y1, y2, y3⟩ := hM h1 hR h9
    exact ⟨h2, y1, MI_row y3 y2 h9, only_mono (fun _ _ => mscW_mdl) y3⟩
  · obtain ⟨o1, o2, o3, o4, o5, o6, o7, o8⟩ := okX_mono (show B ≤ B + 300 by omega) ho
    exact ⟨o1, o2, o3, o4, o5, o6, o7, hl⟩
theorem PR_s {B : Nat} {h : eH} {X : AX} {a : Option (eH × Int32)} {b : eH → Option (eH × Int32)} {r : Int32} (hc : CI h X) (hm : MI h X) (ho : okX B X) (hC : ∃ h1, a = some (h1, r) ∧ only csc h h1) (hM : ∀ h1, RefsOK h1 → MI h1 X → ∃ h2, b h1 = some (h2, r) ∧ only msc h1 h2) : PR B a b := by
  obtain ⟨h1, x1, x3⟩ := hC
  refine PR_mk hm (X' := X) (r := r) ⟨h1, x1, CI_scr x3 hc, only_mono (fun _ _ => csc_cls) x3⟩ (fun h1 hR h9 => ?_) (okX_mono (by omega) ho)
  obtain ⟨h2, y1, y3⟩ := hM h1 hR h9
  exact ⟨h2, y1, MI_scr y3 h9, only_mono (fun _ _ => msc_mdl) y3⟩
/-! bytes of a number -/
def mkM (m : Nat) : Nat → Nat
  | 0 => 0
  | j + 1 => m + 256 * mkM m j
def byW (f : Nat → Nat) : Nat → Nat → Nat
  | 0, _ => 0
  | j + 1, z => f (z % 256) + 256 * byW f j (z / 256)
theorem and256 (a b : Nat) : a &&& b = (a % 256 &&& b % 256) + 256 * (a / 256 &&& b / 256) := by
  have h1 : (a &&& b) % 256 = a % 256 &&& b % 256 := Nat.and_mod_two_pow (n := 8)
  have h2 : (a &&& b) / 256 = a / 256 &&& b / 256 := Nat.and_div_two_pow (n := 8)
  omega
theorem mkM_m {m : Nat} (hm : m < 256) (j : Nat) : mkM m (j + 1) % 256 = m ∧ mkM m (j + 1) / 256 = mkM m j := by
  show (m + 256 * mkM m j) % 256 = m ∧ (m + 256 * mkM m j) / 256 = mkM m j
  omega
def bp1 (y : Nat) : Nat := y - (y / 2 &&& 85)
def bp2 (y : Nat) : Nat := (y &&& 51) + (y / 4 &&& 51)
def bp3 (y : Nat) : Nat := (y + y / 16) % 16
theorem bd1 : ∀ y, y < 256 → ∀ w, w < 2 → y / 2 + 128 * w &&& 85 = y / 2 &&& 85 := by decide +kernel
theorem bd2 : ∀ y, y < 256 → ∀ w, w < 4 → y / 4 + 64 * w &&& 51 = y / 4 &&& 51 := by decide +kernel
theorem bw1 : ∀ (j z : Nat), z < 256 ^ j → z - (z / 2 &&& mkM 85 j) = byW bp1 j z
  | 0, z, h => by
    have : z = 0 := by simpa using h
    subst this; rfl
  | j + 1, z, h => by
    have hw : z / 256 < 256 ^ j := by rw [Nat.pow_succ] at h; omega
    have ih := bw1 j (z / 256) hw
    obtain ⟨m1, m2⟩ := mkM_m (show 85 < 256 by decide) j
    have e1 : z / 2 % 256 = z % 256 / 2 + 128 * (z / 256 % 2) := by omega
    have e2 : z / 2 / 256 = z / 256 / 2 := by omega
    have e3 := bd1 (z % 256) (by omega) (z / 256 % 2) (by omega)
    have l1 : z % 256 / 2 &&& 85 ≤ z % 256 / 2 := Nat.and_le_left
    have l2 : z / 256 / 2 &&& mkM 85 j ≤ z / 256 / 2 := Nat.and_le_left
    rw [and256, m1, m2, e1, e2, e3]
    show _ = bp1 (z % 256) + 256 * byW bp1 j (z / 256)
    unfold bp1 at ih ⊢
    rw [← ih]
    omega
theorem bw2 : ∀ (j z : Nat), z < 256 ^ j → (z &&& mkM 51 j) + (z / 4 &&& mkM 51 j) = byW bp2 j z
  | 0, z, h => by
    have : z = 0 := by simpa using h
    subst this; rfl
  | j + 1, z, h => by
    have hw : z / 256 < 256 ^ j := by rw [Nat.pow_succ] at h; omega
    have ih := bw2 j (z / 256) hw
    obtain ⟨m1, m2⟩ := mkM_m (show 51 < 256 by decide) j
    have e1 : z / 4 % 256 = z % 256 / 4 + 64 * (z / 256 % 4) := by omega
    have e2 : z / 4 / 256 = z / 256 / 4 := by omega
    have e3 := bd2 (z % 256) (by omega) (z / 256 % 4) (by omega)
    rw [and256 z, and256 (z / 4), m1, m2, e1, e2, e3]
    show _ = bp2 (z % 256) + 256 * byW bp2 j (z / 256)
    unfold bp2 at ih ⊢
    rw [← ih]
    omega
/-- the halves of each byte are at most 4 -/
def okB : Nat → Nat → Prop
  | 0, _ => True
  | j + 1, u => u % 256 % 16 ≤ 4 ∧ u % 256 / 16 ≤ 4 ∧ okB j (u / 256)
theorem bw3 : ∀ (j z : Nat), z < 256 ^ j → okB j z → (z + z / 16) &&& mkM 15 j = byW bp3 j z
  | 0, z, h, _ => by
    have : z = 0 := by simpa using h
    subst this; rfl
  | j + 1, z, h, hb => by
    have hw : z / 256 < 256 ^ j := by rw [Nat.pow_succ] at h; omega
    obtain ⟨b1, b2, b3⟩ := hb
    have ih := bw3 j (z / 256) hw b3
    have hw4 : z / 256 % 16 ≤ 4 := by
      cases j with
      | zero =>
        have : z / 256 = 0 := by simpa using hw
        omega
      | succ j => have := b3.1; omega
    obtain ⟨m1, m2⟩ := mkM_m (show 15 < 256 by decide) j
    have e1 : (z + z / 16) % 256 = z % 256 + z % 256 / 16 + 16 * (z / 256 % 16) := by omega
    have e2 : (z + z / 16) / 256 = z / 256 + z / 256 / 16 := by omega
    have e3 : z % 256 + z % 256 / 16 + 16 * (z / 256 % 16) &&& 15 = bp3 (z % 256) := by
      have := Nat.and_two_pow_sub_one_eq_mod (z % 256 + z % 256 / 16 + 16 * (z / 256 % 16)) 4
      have q : z % 256 + z % 256 / 16 + 16 * (z / 256 % 16) &&& 15 = (z % 256 + z % 256 / 16 + 16 * (z / 256 % 16)) % 16 := this
      rw [q]; unfold bp3; omega
    rw [and256, m1, m2, e1, e2, e3, ih]
    rfl
theorem byW_by {f g : Nat → Nat} (hf : ∀ y, y < 256 → f y < 256) : ∀ (j z : Nat), byW g j (byW f j z) = byW (fun y => g (f y)) j z
  | 0, _ => rfl
  | j + 1, z => by
    have h := hf (z % 256) (by omega)
    show g ((f (z % 256) + 256 * byW f j (z / 256)) % 256) + 256 * byW g j ((f (z % 256) + 256 * byW f j (z / 256)) / 256) = g (f (z % 256)) + 256 * byW (fun y => g (f y)) j (z / 256)
    rw [show (f (z % 256) + 256 * byW f j (z / 256)) % 256 = f (z % 256) by omega, show (f (z % 256) + 256 * byW f j (z / 256)) / 256 = byW f j (z / 256) by omega, byW_by hf j]
theorem byW_lt {f : Nat → Nat} (hf : ∀ y, y < 256 → f y < 256) : ∀ (j z : Nat), byW f j z < 256 ^ j
  | 0, _ => Nat.one_pos
  | j + 1, z => by
    have h := hf (z % 256) (by omega)
    have h2 := byW_lt hf j (z / 256)
    show f (z % 256) + 256 * byW f j (z / 256) < 256 ^ (j + 1)
    rw [Nat.pow_succ]; omega
theorem byW_ok {f : Nat → Nat} (hf : ∀ y, y < 256 → f y < 256 ∧ f y % 16 ≤ 4 ∧ f y / 16 ≤ 4) : ∀ (j z : Nat), okB j (byW f j z)
  | 0, _ => trivial
  | j + 1, z => by
    have h := hf (z % 256) (by omega)
    have h2 := byW_ok hf j (z / 256)
    show (f (z % 256) + 256 * byW f j (z / 256)) % 256 % 16 ≤ 4 ∧ (f (z % 256) + 256 * byW f j (z / 256)) % 256 / 16 ≤ 4 ∧ okB j ((f (z % 256) + 256 * byW f j (z / 256)) / 256)
    rw [show (f (z % 256) + 256 * byW f j (z / 256)) % 256 = f (z % 256) by omega, show (f (z % 256) + 256 * byW f j (z / 256)) / 256 = byW f j (z / 256) by omega]
    exact ⟨h.2.1, h.2.2, h2⟩
def bpc (y : Nat) : Nat := bp3 (bp2 (bp1 y))
theorem bp1_lt : ∀ y, y < 256 → bp1 y < 256 := by decide +kernel
theorem bp2_ok : ∀ y, y < 256 → bp2 (bp1 y) < 256 ∧ bp2 (bp1 y) % 16 ≤ 4 ∧ bp2 (bp1 y) / 16 ≤ 4 := by decide +kernel
theorem bpc_ct : ∀ y, y < 256 → bpc y = fb_ct y.testBit 8 ∧ bpc y ≤ 8 := by decide +kernel
theorem ct_byte (z n : Nat) : fb_ct z.testBit (8 + n) = bpc (z % 256) + fb_ct (z / 256).testBit n := by
  rw [fb_ct_split, (bpc_ct (z % 256) (by omega)).1]
  have e1 : fb_ct z.testBit 8 = fb_ct (z % 256).testBit 8 := fb_ct_cong (fun k hk => by
    rw [show (256 : Nat) = 2 ^ 8 from rfl, Nat.testBit_mod_two_pow, decide_eq_true hk, Bool.true_and])
  have e2 : fb_ct (fun k => z.testBit (8 + k)) n = fb_ct (z / 256).testBit n := fb_ct_cong (fun k hk => by
    rw [show (256 : Nat) = 2 ^ 8 from rfl, Nat.testBit_div_two_pow, Nat.add_comm])
  rw [e1, e2]
/-- the sum of the bytes, by shifts -/
theorem by_sum {c0 c1 c2 c3 c4 c5 c6 c7 v s1 s2 s3 : Nat} (h0 : c0 ≤ 8) (h1 : c1 ≤ 8) (h2 : c2 ≤ 8) (h3 : c3 ≤ 8) (h4 : c4 ≤ 8) (h5 : c5 ≤ 8) (h6 : c6 ≤ 8) (h7 : c7 ≤ 8)
    (hv : v = c0 + 256 * (c1 + 256 * (c2 + 256 * (c3 + 256 * (c4 + 256 * (c5 + 256 * (c6 + 256 * c7))))))) (e1 : s1 = v + v / 256) (e2 : s2 = s1 + s1 / 65536) (e3 : s3 = s2 + s2 / 4294967296) : s3 % 128 = c0 + c1 + c2 + c3 + c4 + c5 + c6 + c7 ∧ s3 < 2 ^ 63 := by
  have a1 : v / 256 = c1 + 256 * (c2 + 256 * (c3 + 256 * (c4 + 256 * (c5 + 256 * (c6 + 256 * c7))))) := by omega
  have b1 : s1 = (c0 + c1) + 256 * (c1 + c2) + 65536 * ((c2 + c3) + 256 * (c3 + c4) + 65536 * ((c4 + c5) + 256 * (c5 + c6) + 65536 * ((c6 + c7) + 256 * c7))) := by omega
  have a2 : s1 / 65536 = (c2 + c3) + 256 * (c3 + c4) + 65536 * ((c4 + c5) + 256 * (c5 + c6) + 65536 * ((c6 + c7) + 256 * c7)) := by omega
  clear a1 hv e1
  have b2 : s2 = (c0 + c1 + c2 + c3) + 256 * (c1 + c2 + c3 + c4) + 65536 * (c2 + c3 + c4 + c5 + 256 * (c3 + c4 + c5 + c6)) + 4294967296 * ((c4 + c5 + c6 + c7) + 256 * (c5 + c6 + c7) + 65536 * (c6 + c7 + 256 * c7)) := by omega
  have a3 : s2 / 4294967296 = (c4 + c5 + c6 + c7) + 256 * (c5 + c6 + c7) + 65536 * (c6 + c7 + 256 * c7) := by omega
  clear a2 b1 e2
  constructor <;> omega
theorem mk85 : mkM 85 8 = 6148914691236517205 := by decide
theorem mk51 : mkM 51 8 = 3689348814741910323 := by decide
theorem mk15 : mkM 15 8 = 1085102592571150095 := by decide
theorem bitC_N {n : Nat} (hn : n < 2 ^ 64) : f_J13_bitCount_95d88 (lN n) = nI (fb_ct n.testBit 64) := by
  have s1 : ∀ m, m < 2 ^ 64 → ((lN m).toUInt64 >>> ((1 : Int32).toInt64.toUInt64 &&& Int64.toUInt64 63)).toInt64 = lN (m / 2) := fun m hm => wb_shr (k := 1) hm (by decide)
  have s2 : ∀ m, m < 2 ^ 64 → ((lN m).toUInt64 >>> ((2 : Int32).toInt64.toUInt64 &&& Int64.toUInt64 63)).toInt64 = lN (m / 4) := fun m hm => wb_shr (k := 2) hm (by decide)
  have s4 : ∀ m, m < 2 ^ 64 → ((lN m).toUInt64 >>> ((4 : Int32).toInt64.toUInt64 &&& Int64.toUInt64 63)).toInt64 = lN (m / 16) := fun m hm => wb_shr (k := 4) hm (by decide)
  have s8 : ∀ m, m < 2 ^ 64 → ((lN m).toUInt64 >>> ((8 : Int32).toInt64.toUInt64 &&& Int64.toUInt64 63)).toInt64 = lN (m / 256) := fun m hm => wb_shr (k := 8) hm (by decide)
  have s16 : ∀ m, m < 2 ^ 64 → ((lN m).toUInt64 >>> ((16 : Int32).toInt64.toUInt64 &&& Int64.toUInt64 63)).toInt64 = lN (m / 65536) := fun m hm => wb_shr (k := 16) hm (by decide)
  have s32 : ∀ m, m < 2 ^ 64 → ((lN m).toUInt64 >>> ((32 : Int32).toInt64.toUInt64 &&& Int64.toUInt64 63)).toInt64 = lN (m / 4294967296) := fun m hm => wb_shr (k := 32) hm (by decide)
  have a5 : ∀ m, m < 2 ^ 64 → lN m &&& 6148914691236517205 = lN (m &&& mkM 85 8) := fun m hm => by rw [mk85]; exact wb_and (b := 6148914691236517205) hm (by decide)
  have a3 : ∀ m, m < 2 ^ 64 → lN m &&& 3689348814741910323 = lN (m &&& mkM 51 8) := fun m hm => by rw [mk51]; exact wb_and (b := 3689348814741910323) hm (by decide)
  have a1 : ∀ m, m < 2 ^ 64 → lN m &&& 1085102592571150095 = lN (m &&& mkM 15 8) := fun m hm => by rw [mk15]; exact wb_and (b := 1085102592571150095) hm (by decide)
  have hn8 : n < 256 ^ 8 := hn
  have w1 := bw1 8 n hn8
  have l1 := byW_lt bp1_lt 8 n
  have w2 := bw2 8 (byW bp1 8 n) l1
  rw [byW_by bp1_lt] at w2
  have l2 := byW_lt (f := fun y => bp2 (bp1 y)) (fun y hy => (bp2_ok y hy).1) 8 n
  have o2 := byW_ok (f := fun y => bp2 (bp1 y)) bp2_ok 8 n
  have w3 := bw3 8 (byW (fun y => bp2 (bp1 y)) 8 n) l2 o2
  rw [byW_by (fun y hy => (bp2_ok y hy).1)] at w3
  have lo1 : n / 2 &&& mkM 85 8 ≤ n := Nat.le_trans Nat.and_le_left (Nat.div_le_self _ _)
  have k1 : (256 : Nat) ^ 8 = 2 ^ 64 := by decide
  rw [k1] at l1 l2
  have l2b : byW (fun y => bp2 (bp1 y)) 8 n + byW (fun y => bp2 (bp1 y)) 8 n / 16 < 2 ^ 64 := by
    have q : byW (fun y => bp2 (bp1 y)) 8 n < 2 ^ 63 := by
      obtain ⟨b1, b2, b3, b4, b5, b6, b7, b8, b9, b10, b11, b12, b13, b14, b15, b16, -⟩ := o2
      omega
    omega
  -- the bytes
  have v0 := bpc_ct (n % 256) (by omega)
  have v1 := bpc_ct (n / 256 % 256) (by omega)
  have v2 := bpc_ct (n / 256 / 256 % 256) (by omega)
  have v3 := bpc_ct (n / 256 / 256 / 256 % 256) (by omega)
  have v4 := bpc_ct (n / 256 / 256 / 256 / 256 % 256) (by omega)
  have v5 := bpc_ct (n / 256 / 256 / 256 / 256 / 256 % 256) (by omega)
  have v6 := bpc_ct (n / 256 / 256 / 256 / 256 / 256 / 256 % 256) (by omega)
  have v7 := bpc_ct (n / 256 / 256 / 256 / 256 / 256 / 256 / 256 % 256) (by omega)
  obtain ⟨sm1, sm2⟩ := by_sum (v := byW bpc 8 n) v0.2 v1.2 v2.2 v3.2 v4.2 v5.2 v6.2 v7.2 rfl rfl rfl rfl
  have ct : fb_ct n.testBit 64 = bpc (n % 256) + bpc (n / 256 % 256) + bpc (n / 256 / 256 % 256) + bpc (n / 256 / 256 / 256 % 256) + bpc (n / 256 / 256 / 256 / 256 % 256) + bpc (n / 256 / 256 / 256 / 256 / 256 % 256) + bpc (n / 256 / 256 / 256 / 256 / 256 / 256 % 256) + bpc (n / 256 / 256 / 256 / 256 / 256 / 256 / 256 % 256) := by
    rw [show 64 = 8 + 56 from rfl, ct_byte, show 56 = 8 + 48 from rfl, ct_byte, show 48 = 8 + 40 from rfl, ct_byte, show 40 = 8 + 32 from rfl, ct_byte, show 32 = 8 + 24 from rfl, ct_byte, show 24 = 8 + 16 from rfl, ct_byte, show 16 = 8 + 8 from rfl, ct_byte, show fb_ct (n / 256 / 256 / 256 / 256 / 256 / 256 / 256).testBit 8 = fb_ct (n / 256 / 256 / 256 / 256 / 256 / 256 / 256).testBit (8 + 0) from rfl, ct_byte]
    show _ + (_ + (_ + (_ + (_ + (_ + (_ + (_ + 0))))))) = _
    omega
  have w3' : (byW (fun y => bp2 (bp1 y)) 8 n + byW (fun y => bp2 (bp1 y)) 8 n / 16) &&& mkM 15 8 = byW bpc 8 n := w3
  unfold f_J13_bitCount_95d88
  rw [s1 n hn, a5 _ (by omega), lN_sub lo1, w1, a3 _ l1, s2 _ l1, a3 _ (by omega), lN_add, w2, s4 _ l2, lN_add, a1 _ l2b, w3']
  generalize byW bpc 8 n = v at *
  rw [s8 _ (by omega), lN_add, s16 _ (by omega), lN_add, s32 _ (by omega), lN_add, lN_i, pk_and _ 7 (by decide), ct, ← sm1]
  congr 1
  show (nI _).toBitVec.toNat % 128 = _
  rw [show ∀ q : Nat, (nI q).toBitVec.toNat = q % 2 ^ 32 from fun q => rfl]
  omega
theorem bitC (x : Int64) : f_J13_bitCount_95d88 x = nI (fb_ct (tb x) 64) := by
  obtain ⟨n, hn, rfl⟩ := wb_of x
  rw [bitC_N hn]
  congr 1
  refine fb_ct_cong (fun k hk => ?_)
  unfold tb
  rw [wb_tb, BitVec.getLsbD_ofNat, decide_eq_true hk, Bool.true_and]
theorem bitC36 {x : Int64} (h : ∀ k, 36 ≤ k → tb x k = false) : f_J13_bitCount_95d88 x = nI (fb_ct (tb x) 36) := by
  rw [bitC]
  congr 1
  rw [show 64 = 36 + 28 from rfl, fb_ct_split, fb_ct_zero.mpr (fun k hk => h (36 + k) (by omega)), Nat.add_zero]

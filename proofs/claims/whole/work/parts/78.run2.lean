/-! run: where the scan ends; all acts are good -/
theorem scS_le {c : Nat → Nat} {i : Nat} : ∀ {j : Nat}, i ≤ j → scS c j ≠ none → scS c i ≠ none
  | 0, h, hj => by rw [show i = 0 by omega]; exact hj
  | j + 1, h, hj => by
    by_cases q : i = j + 1
    · rw [q]; exact hj
    · exact scS_le (j := j) (by omega) (fun z => hj (scS_n z))
theorem psA_mono (c : Nat → Nat) : ∀ {m m' : Nat}, m ≤ m' → psA c m ≤ psA c m'
  | m, 0, h => by rw [show m = 0 by omega]; exact Nat.le_refl _
  | m, m' + 1, h => by
    by_cases q : m = m' + 1
    · rw [q]; exact Nat.le_refl _
    · have := psA_mono c (m := m) (m' := m') (by omega)
      show psA c m ≤ psA c m' + 1 + dgB (c (psA c m')); omega
def rbad (c : Nat → Nat) (n e : Nat) : Prop := e ≤ min n 60 ∧ scS c e ≠ none ∧ ((e < min n 60 ∧ scS c (e + 1) = none) ∨ (e = min n 60 ∧ ((∃ l r, scS c e = some (l, r + 1)) ∨ (60 < n ∧ ∃ l, scS c e = some (l, 0)))))
theorem rbad_or (c : Nat → Nat) (n : Nat) : (∃ e, rbad c n e) ∨ (n ≤ 60 ∧ ∃ l, scS c n = some (l, 0)) := by
  cases hs : scS c (min n 60) with
  | none =>
    have key : ∀ j, j ≤ min n 60 → scS c j = none → ∃ e, e < j ∧ scS c e ≠ none ∧ scS c (e + 1) = none := by
      intro j
      induction j with
      | zero => intro _ z; cases z
      | succ j ih =>
        intro hj z
        cases hz : scS c j with
        | none =>
          obtain ⟨e, e1, e2⟩ := ih (by omega) hz
          exact ⟨e, by omega, e2⟩
        | some p => exact ⟨j, by omega, by rw [hz]; exact (fun x => by cases x), z⟩
    obtain ⟨e, e1, e2, e3⟩ := key _ (Nat.le_refl _) hs
    exact Or.inl ⟨e, by omega, e2, Or.inl ⟨e1, e3⟩⟩
  | some p =>
    obtain ⟨l, r⟩ := p
    have nn : scS c (min n 60) ≠ none := by rw [hs]; exact fun x => by cases x
    cases r with
    | succ r => exact Or.inl ⟨min n 60, Nat.le_refl _, nn, Or.inr ⟨rfl, Or.inl ⟨l, r, hs⟩⟩⟩
    | zero =>
      by_cases q : 60 < n
      · exact Or.inl ⟨min n 60, Nat.le_refl _, nn, Or.inr ⟨rfl, Or.inr ⟨q, l, hs⟩⟩⟩
      · rw [show min n 60 = n by omega] at hs
        exact Or.inr ⟨by omega, l, hs⟩
theorem wrong_1 {h : eH} {X : AX} {B e : Nat} (hc : CI h X) (ho : okX B X) (hb : rbad (xT X).2 (xT X).1 e) : f_X10_wrongSignOfRun LF h 0 = some (nI e) := by
  obtain ⟨b1, b2, b3⟩ := hb
  refine wrong_C (P := fun o => o = some (nI e)) hc ho (fun i hi a b => ?_) (fun l r hs => ?_)
  · have : i = e := by
      rcases b3 with ⟨b3, b4⟩ | ⟨b3, b4⟩
      · by_cases q : i + 1 ≤ e
        · exact absurd b (scS_le q b2)
        · by_cases q2 : e + 1 ≤ i
          · exact absurd b4 (scS_le q2 a)
          · omega
      · exact absurd b (scS_le (by omega) b2)
    rw [this]
  · rcases b3 with ⟨b3, b4⟩ | ⟨b3, b4⟩
    · exact absurd b4 (scS_le (show e + 1 ≤ min (xT X).1 60 by omega) (by rw [hs]; exact fun x => by cases x))
    · rw [b3] at b4
      rw [b3]
      rcases b4 with ⟨l', r', b4⟩ | ⟨b4, -⟩
      · rw [hs] at b4; cases b4
        rw [if_pos (Or.inl (by omega))]
      · rw [if_pos (Or.inr b4)]
theorem wrong_0 {h : eH} {X : AX} {B l : Nat} (hc : CI h X) (ho : okX B X) (hn : (xT X).1 ≤ 60) (hs : scS (xT X).2 (xT X).1 = some (l, 0)) : f_X10_wrongSignOfRun LF h 0 = some (-1) := by
  have em : min (xT X).1 60 = (xT X).1 := by omega
  have nn : scS (xT X).2 (xT X).1 ≠ none := by rw [hs]; exact fun x => by cases x
  refine wrong_C (P := fun o => o = some (-1)) hc ho (fun i hi a b => ?_) (fun l r hs' => ?_)
  · exact absurd b (scS_le (show i + 1 ≤ (xT X).1 by omega) nn)
  · rw [em, hs] at hs'; cases hs'
    rw [if_neg (by omega)]
theorem good_all {c : Nat → Nat} {lim m : Nat} (hl : psA c m = lim) (hs : scS c lim ≠ none) : ∀ q, q < m → actGood c lim (psA c q) := by
  have all : ∀ i, i ≤ lim → scS c i ≠ none := fun i hi => scS_le hi hs
  have one : ∀ q, q < m → ∀ l, scS c (psA c q) = some (l, 0) → actGood c lim (psA c q) := fun q hq l h0 => by
    have hp : psA c (q + 1) ≤ lim := by rw [← hl]; exact psA_mono c (by omega)
    have pe : psA c (q + 1) = psA c q + 1 + dgB (c (psA c q)) := rfl
    have nz : dgB (c (psA c q)) ≠ 0 := fun z => by
      have := all (psA c q + 1) (by omega)
      rw [scS_0 h0, if_pos z] at this; exact this rfl
    have s1 : scS c (psA c q + 1) = some (c (psA c q), dgB (c (psA c q))) := by rw [scS_0 h0, if_neg nz]
    obtain ⟨r, hr⟩ : ∃ r, dgB (c (psA c q)) = r + 1 := ⟨dgB (c (psA c q)) - 1, by omega⟩
    rw [hr] at s1
    have c1 : csB (c (psA c q)) (c (psA c q + 1)) = true := by
      cases x : csB (c (psA c q)) (c (psA c q + 1)) with
      | true => rfl
      | false =>
        have := all (psA c q + 1 + 1) (by omega)
        rw [scS_r s1, x, if_neg (by decide)] at this; exact absurd rfl this
    refine ⟨nz, ⟨by omega, c1⟩, fun d => ?_⟩
    have s2 : scS c (psA c q + 1 + 1) = some (c (psA c q), 0 + 1) := by rw [scS_r s1, if_pos c1, show r = 0 + 1 by omega]
    refine ⟨by omega, ?_⟩
    show csB (c (psA c q)) (c (psA c q + 1 + 1)) = true
    cases x : csB (c (psA c q)) (c (psA c q + 1 + 1)) with
    | true => rfl
    | false =>
      have := all (psA c q + 1 + 1 + 1) (by omega)
      rw [scS_r s2, x, if_neg (by decide)] at this; exact absurd rfl this
  have st : ∀ q, q ≤ m → ∃ l, scS c (psA c q) = some (l, 0) := by
    intro q
    induction q with
    | zero => intro _; exact ⟨0, rfl⟩
    | succ q ih =>
      intro hq
      obtain ⟨l, h0⟩ := ih (by omega)
      exact ⟨_, (good_sc h0 (one q (by omega) l h0)).1⟩
  intro q hq
  obtain ⟨l, h0⟩ := st q (by omega)
  exact one q hq l h0
/-- what a good act's digits say -/
theorem good_v {c : Nat → Nat} {lim a : Nat} (g : actGood c lim a) : (dgB (c a) = 2 → 48 ≤ c (a + 1) ∧ c (a + 1) ≤ 57 ∧ 48 ≤ c (a + 2) ∧ c (a + 2) ≤ 57) ∧ 48 ≤ c (a + 1) ∧ c (a + 1) ≤ 57 ∧ (c a = 116 → c (a + 1) ≤ 51) ∧ vlA c a ≤ 99 ∧ (dgB (c a) ≠ 2 → vlA c a ≤ 9 ∧ vlA c a = c (a + 1) - 48) ∧ a + dgB (c a) < lim ∧ (dgB (c a) = 1 ∨ dgB (c a) = 2) := by
  obtain ⟨g1, ⟨g2, g3⟩, g4⟩ := g
  have cs : ∀ x, csB (c a) x = true → 48 ≤ x ∧ x ≤ 57 ∧ (c a = 116 → x ≤ 51) := fun x hx => by
    unfold csB at hx
    by_cases q : c a = 116
    · rw [if_pos q] at hx; have := of_decide_eq_true hx; omega
    · rw [if_neg q] at hx
      by_cases q2 : c a = 100
      · rw [if_pos q2] at hx; have := of_decide_eq_true hx; omega
      · rw [if_neg q2] at hx; have := of_decide_eq_true hx; omega
  have d1 := cs _ g3
  have d12 : dgB (c a) = 1 ∨ dgB (c a) = 2 := by rcases dgB_ne g1 with q | q | q | q | q <;> rw [q] <;> decide
  have d2 : dgB (c a) = 2 → 48 ≤ c (a + 2) ∧ c (a + 2) ≤ 57 ∧ a + 2 < lim := fun d => by
    have := cs _ (g4 d).2
    have := (g4 d).1
    omega
  refine ⟨fun d => by have := d2 d; omega, d1.1, d1.2.1, d1.2.2, ?_, fun d => ?_, ?_, d12⟩
  · unfold vlA
    by_cases d : dgB (c a) = 2
    · rw [if_pos d]; have := d2 d; omega
    · rw [if_neg d]; omega
  · unfold vlA
    rw [if_neg d]; omega
  · rcases d12 with d | d
    · omega
    · have := d2 d; omega

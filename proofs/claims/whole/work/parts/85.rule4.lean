/-! rule: its signs, read by a parser of our own -/
abbrev Rs : Type := Bool × Nat × List Nat
def rlO (lv s : Nat) : Option Nat := if lv = 0 then (if s = 60 then some 2000 else if s = 62 then some 2001 else if s = 61 then some 2002 else none) else if lv = 1 then (if s = 43 then some 2003 else if s = 45 then some 2004 else none) else (if s = 42 then some 2005 else if s = 47 then some 2006 else none)
def thO (s : Nat) : Option Nat := if s = 98 then some 0 else if s = 104 then some 1 else if s = 115 then some 2 else if s = 114 then some 3 else if s = 100 then some 4 else none
def nmD (c : Nat → Nat) (lim : Nat) : Nat → Nat → Nat → Nat × Nat
  | 0, a, v => (a, v)
  | f + 1, a, v => if a < lim ∧ 48 ≤ c a ∧ c a ≤ 57 then nmD c lim f (a + 1) (10 * v + (c a - 48)) else (a, v)
def prE (c : Nat → Nat) (lim : Nat) (E : Option (Nat → Rs)) (a : Nat) : Rs :=
  match E with
  | none => (false, a, [])
  | some E => if (E (a + 1)).1 then (if (E (a + 1)).2.1 < lim ∧ c (E (a + 1)).2.1 = 41 then (true, (E (a + 1)).2.1 + 1, (E (a + 1)).2.2) else (false, (E (a + 1)).2.1, [])) else (false, (E (a + 1)).2.1, [])
def prT (s a : Nat) (r : Rs) : Rs := match thO s with
  | some i => (true, a + 1, [1000 + i])
  | none => r
def prm (c : Nat → Nat) (lim : Nat) (E : Option (Nat → Rs)) (a : Nat) : Rs := if a < lim then (if 48 ≤ c a ∧ c a ≤ 57 then (true, (nmD c lim 3 a 0).1, [(nmD c lim 3 a 0).2]) else prT (c a) a (if c a = 40 then prE c lim E a else (false, a, []))) else (false, a, [])
def sgP (c : Nat → Nat) (lim : Nat) (E : Option (Nat → Rs)) : Nat → Nat → Rs
  | 0, a => prm c lim E a
  | f + 1, a => if a < lim ∧ c a = 45 then ((sgP c lim E f (a + 1)).1, (sgP c lim E f (a + 1)).2.1, (sgP c lim E f (a + 1)).2.2 ++ [3000]) else prm c lim E a
def rpK (P : Nat → Rs) (a k : Nat) (rest : Nat → Rs) : Rs := if (P (a + 1)).1 then ((rest (P (a + 1)).2.1).1, (rest (P (a + 1)).2.1).2.1, (P (a + 1)).2.2 ++ k :: (rest (P (a + 1)).2.1).2.2) else (false, (P (a + 1)).2.1, [])
def rpP (c : Nat → Nat) (lim : Nat) (P : Nat → Rs) (lv : Nat) : Nat → Nat → Rs
  | 0, a => (true, a, [])
  | n + 1, a => if a < lim then (match rlO lv (c a) with
    | none => (true, a, [])
    | some k => rpK P a k (rpP c lim P lv n)) else (true, a, [])
def lvP (c : Nat → Nat) (lim : Nat) (P : Nat → Rs) (lv n a : Nat) : Rs := if (P a).1 then ((rpP c lim P lv n (P a).2.1).1, (rpP c lim P lv n (P a).2.1).2.1, (P a).2.2 ++ (rpP c lim P lv n (P a).2.1).2.2) else (false, (P a).2.1, [])
def ex3 (c : Nat → Nat) (lim : Nat) (E : Option (Nat → Rs)) (a : Nat) : Rs := sgP c lim E 40 a
def ex2 (c : Nat → Nat) (lim : Nat) (E : Option (Nat → Rs)) (a : Nat) : Rs := lvP c lim (ex3 c lim E) 2 40 a
def ex1 (c : Nat → Nat) (lim : Nat) (E : Option (Nat → Rs)) (a : Nat) : Rs := lvP c lim (ex2 c lim E) 1 40 a
def ex0 (c : Nat → Nat) (lim : Nat) (E : Option (Nat → Rs)) (a : Nat) : Rs := lvP c lim (ex1 c lim E) 0 1 a
def ExP (c : Nat → Nat) (lim : Nat) : Nat → Nat → Rs
  | 0, a => ex0 c lim none a
  | r + 1, a => ex0 c lim (some (ExP c lim r)) a
def exE (c : Nat → Nat) (lim : Nat) : Nat → Option (Nat → Rs)
  | 0 => none
  | r + 1 => some (ExP c lim r)
theorem ExP_e (c : Nat → Nat) (lim r a : Nat) : ExP c lim r a = ex0 c lim (exE c lim r) a := by cases r <;> rfl
/-! codes that stand well -/
def vL : List Nat → Nat → Option Nat
  | [], n => some n
  | k :: l, n => if k = 3000 then (if 1 ≤ n then vL l n else none) else if k < 1005 then vL l (n + 1) else if 2000 ≤ k ∧ k < 2007 then (if 2 ≤ n then vL l (n - 1) else none) else none
theorem vL_app : ∀ (l m : List Nat) (n : Nat), vL (l ++ m) n = (vL l n).bind (vL m)
  | [], m, n => rfl
  | k :: l, m, n => by
    show vL (k :: (l ++ m)) n = _
    unfold vL
    by_cases h1 : k = 3000
    · rw [if_pos h1, if_pos h1]
      by_cases h2 : 1 ≤ n
      · rw [if_pos h2, if_pos h2]; exact vL_app l m n
      · rw [if_neg h2, if_neg h2]; rfl
    · rw [if_neg h1, if_neg h1]
      by_cases h2 : k < 1005
      · rw [if_pos h2, if_pos h2]; exact vL_app l m (n + 1)
      · rw [if_neg h2, if_neg h2]
        by_cases h3 : 2000 ≤ k ∧ k < 2007
        · rw [if_pos h3, if_pos h3]
          by_cases h4 : 2 ≤ n
          · rw [if_pos h4, if_pos h4]; exact vL_app l m (n - 1)
          · rw [if_neg h4, if_neg h4]; rfl
        · rw [if_neg h3, if_neg h3]; rfl
theorem vL_ok {c : Nat → Nat} : ∀ (l : List Nat) (i n m : Nat), (∀ k, k < l.length → c (i + k) = l.getD k 0) → dpN c i = n → vL l n = some m → (∀ k, k < l.length → okC (c (i + k)) ∧ (c (i + k) = 3000 → 1 ≤ dpN c (i + k)) ∧ (2000 ≤ c (i + k) → c (i + k) < 3000 → 2 ≤ dpN c (i + k))) ∧ dpN c (i + l.length) = m
  | [], i, n, m, hc, hd, hv => ⟨fun k hk => absurd hk (Nat.not_lt_zero k), by cases hv; exact hd⟩
  | x :: l, i, n, m, hc, hd, hv => by
    have c0 : c i = x := hc 0 (Nat.zero_lt_succ _)
    have step : ∀ n', dpN c (i + 1) = n' → vL l n' = some m → okC (c i) ∧ (c i = 3000 → 1 ≤ dpN c i) ∧ (2000 ≤ c i → c i < 3000 → 2 ≤ dpN c i) → (∀ k, k < (x :: l).length → okC (c (i + k)) ∧ (c (i + k) = 3000 → 1 ≤ dpN c (i + k)) ∧ (2000 ≤ c (i + k) → c (i + k) < 3000 → 2 ≤ dpN c (i + k))) ∧ dpN c (i + (x :: l).length) = m := fun n' e1 e2 e3 => by
      have ih := vL_ok l (i + 1) n' m (fun k hk => by
        have := hc (k + 1) (Nat.succ_lt_succ hk)
        rw [show i + 1 + k = i + (k + 1) by omega]; exact this) e1 e2
      refine ⟨fun k hk => ?_, ?_⟩
      · cases k with
        | zero => exact e3
        | succ k =>
          have := ih.1 k (Nat.lt_of_succ_lt_succ hk)
          rw [show i + 1 + k = i + (k + 1) by omega] at this; exact this
      · rw [show i + (x :: l).length = i + 1 + l.length by show i + (l.length + 1) = _; omega]; exact ih.2
    have d1 : dpN c (i + 1) = if c i = 3000 then dpN c i else if c i < 2000 then dpN c i + 1 else dpN c i - 1 := rfl
    rw [c0, hd] at d1
    unfold vL at hv
    by_cases h1 : x = 3000
    · rw [if_pos h1] at hv d1
      by_cases h2 : 1 ≤ n
      · rw [if_pos h2] at hv
        exact step n d1 hv ⟨by rw [c0]; exact Or.inr (Or.inr (Or.inr h1)), fun _ => by rw [hd]; exact h2, fun _ y => by omega⟩
      · rw [if_neg h2] at hv; cases hv
    · rw [if_neg h1] at hv d1
      by_cases h2 : x < 1005
      · rw [if_pos h2] at hv
        rw [if_pos (by omega)] at d1
        exact step (n + 1) d1 hv ⟨by rw [c0]; unfold okC; omega, fun y => by omega, fun y z => by omega⟩
      · rw [if_neg h2] at hv
        by_cases h3 : 2000 ≤ x ∧ x < 2007
        · rw [if_pos h3] at hv
          rw [if_neg (by omega)] at d1
          by_cases h4 : 2 ≤ n
          · rw [if_pos h4] at hv
            exact step (n - 1) d1 hv ⟨by rw [c0]; unfold okC; omega, fun y => by omega, fun y z => by rw [hd]; exact h4⟩
          · rw [if_neg h4] at hv; cases hv
        · rw [if_neg h3] at hv; cases hv
/-! how far each part comes, and what it lays down -/
def okP (lim : Nat) (P : Nat → Rs) : Prop := ∀ a, a ≤ lim → a ≤ (P a).2.1 ∧ (P a).2.1 ≤ lim ∧ ((P a).1 = true → a < (P a).2.1 ∧ (P a).2.2.length + a ≤ (P a).2.1 ∧ ∀ n, vL (P a).2.2 n = some (n + 1))
theorem nmD_ok {c : Nat → Nat} {lim : Nat} : ∀ (f a v : Nat), a ≤ lim → a ≤ (nmD c lim f a v).1 ∧ (nmD c lim f a v).1 ≤ lim ∧ (nmD c lim f a v).2 < (v + 1) * 10 ^ f
  | 0, a, v, h => ⟨Nat.le_refl _, h, by show v < (v + 1) * 1; omega⟩
  | f + 1, a, v, h => by
    unfold nmD
    by_cases q : a < lim ∧ 48 ≤ c a ∧ c a ≤ 57
    · rw [if_pos q]
      have := nmD_ok (c := c) (lim := lim) f (a + 1) (10 * v + (c a - 48)) (by omega)
      refine ⟨by omega, this.2.1, Nat.lt_of_lt_of_le this.2.2 ?_⟩
      rw [Nat.pow_succ, Nat.mul_comm (10 ^ f) 10, ← Nat.mul_assoc]
      exact Nat.mul_le_mul_right _ (by omega)
    · rw [if_neg q]
      refine ⟨Nat.le_refl _, h, ?_⟩
      have p10 : ∀ f, 1 ≤ 10 ^ f := fun f => by
        induction f with
        | zero => exact Nat.le_refl _
        | succ f ih => rw [Nat.pow_succ]; omega
      have : 1 ≤ 10 ^ (f + 1) := p10 _
      have := Nat.mul_le_mul_left (v + 1) this
      omega
theorem nmD_3 {c : Nat → Nat} {lim a : Nat} (q : a < lim ∧ 48 ≤ c a ∧ c a ≤ 57) : a < (nmD c lim 3 a 0).1 ∧ (nmD c lim 3 a 0).1 ≤ lim ∧ (nmD c lim 3 a 0).2 < 1000 := by
  have e : nmD c lim 3 a 0 = nmD c lim 2 (a + 1) (10 * 0 + (c a - 48)) := by
    show (if a < lim ∧ 48 ≤ c a ∧ c a ≤ 57 then nmD c lim 2 (a + 1) (10 * 0 + (c a - 48)) else (a, 0)) = _
    rw [if_pos q]
  have := nmD_ok (c := c) (lim := lim) 2 (a + 1) (10 * 0 + (c a - 48)) (by omega)
  rw [e]
  refine ⟨by omega, this.2.1, ?_⟩
  have h2 : (10 * 0 + (c a - 48) + 1) * 10 ^ 2 ≤ 10 * 10 ^ 2 := Nat.mul_le_mul_right _ (by omega)
  have : (10 : Nat) * 10 ^ 2 = 1000 := by decide
  omega
theorem thO_lt {s i : Nat} (h : thO s = some i) : i < 5 := by
  unfold thO at h
  by_cases h1 : s = 98
  · rw [if_pos h1] at h; cases h; omega
  · rw [if_neg h1] at h
    by_cases h2 : s = 104
    · rw [if_pos h2] at h; cases h; omega
    · rw [if_neg h2] at h
      by_cases h3 : s = 115
      · rw [if_pos h3] at h; cases h; omega
      · rw [if_neg h3] at h
        by_cases h4 : s = 114
        · rw [if_pos h4] at h; cases h; omega
        · rw [if_neg h4] at h
          by_cases h5 : s = 100
          · rw [if_pos h5] at h; cases h; omega
          · rw [if_neg h5] at h; cases h
theorem rlO_lt {lv s k : Nat} (h : rlO lv s = some k) : 2000 ≤ k ∧ k < 2007 := by
  unfold rlO at h
  by_cases l0 : lv = 0
  · rw [if_pos l0] at h
    by_cases h1 : s = 60
    · rw [if_pos h1] at h; cases h; omega
    · rw [if_neg h1] at h
      by_cases h2 : s = 62
      · rw [if_pos h2] at h; cases h; omega
      · rw [if_neg h2] at h
        by_cases h3 : s = 61
        · rw [if_pos h3] at h; cases h; omega
        · rw [if_neg h3] at h; cases h
  · rw [if_neg l0] at h
    by_cases l1 : lv = 1
    · rw [if_pos l1] at h
      by_cases h1 : s = 43
      · rw [if_pos h1] at h; cases h; omega
      · rw [if_neg h1] at h
        by_cases h2 : s = 45
        · rw [if_pos h2] at h; cases h; omega
        · rw [if_neg h2] at h; cases h
    · rw [if_neg l1] at h
      by_cases h1 : s = 42
      · rw [if_pos h1] at h; cases h; omega
      · rw [if_neg h1] at h
        by_cases h2 : s = 47
        · rw [if_pos h2] at h; cases h; omega
        · rw [if_neg h2] at h; cases h
theorem vL_one {k n : Nat} (h : k < 1005) : vL [k] n = some (n + 1) := by
  unfold vL; rw [if_neg (by omega), if_pos h]; rfl
/-! the cases of a thing -/
theorem prm_d {c : Nat → Nat} {lim : Nat} {E : Option (Nat → Rs)} {a : Nat} (q : a < lim ∧ 48 ≤ c a ∧ c a ≤ 57) : prm c lim E a = (true, (nmD c lim 3 a 0).1, [(nmD c lim 3 a 0).2]) := by
  unfold prm; rw [if_pos q.1, if_pos q.2]
theorem prm_t {c : Nat → Nat} {lim : Nat} {E : Option (Nat → Rs)} {a i : Nat} (q : a < lim) (nd : ¬ (48 ≤ c a ∧ c a ≤ 57)) (h : thO (c a) = some i) : prm c lim E a = (true, a + 1, [1000 + i]) := by
  unfold prm; rw [if_pos q, if_neg nd]; unfold prT; rw [h]
theorem prm_o {c : Nat → Nat} {lim : Nat} {E : Option (Nat → Rs)} {a : Nat} (q : a < lim) (nd : ¬ (48 ≤ c a ∧ c a ≤ 57)) (h : thO (c a) = none) : prm c lim E a = if c a = 40 then prE c lim E a else (false, a, []) := by
  unfold prm; rw [if_pos q, if_neg nd]; unfold prT; rw [h]
theorem prm_e {c : Nat → Nat} {lim : Nat} {E : Option (Nat → Rs)} {a : Nat} (q : ¬ a < lim) : prm c lim E a = (false, a, []) := by
  unfold prm; rw [if_neg q]
theorem prE_ok {c : Nat → Nat} {lim : Nat} {E : Option (Nat → Rs)} {a : Nat} (hE : ∀ e, E = some e → okP lim e) (ha : a < lim) : a ≤ (prE c lim E a).2.1 ∧ (prE c lim E a).2.1 ≤ lim ∧ ((prE c lim E a).1 = true → a < (prE c lim E a).2.1 ∧ (prE c lim E a).2.2.length + a ≤ (prE c lim E a).2.1 ∧ ∀ n, vL (prE c lim E a).2.2 n = some (n + 1)) := by
  cases E with
  | none => exact ⟨Nat.le_refl _, Nat.le_of_lt ha, fun h => by cases h⟩
  | some e =>
    have ok := hE e rfl (a + 1) (by omega)
    show a ≤ (if (e (a + 1)).1 then (if (e (a + 1)).2.1 < lim ∧ c (e (a + 1)).2.1 = 41 then (true, (e (a + 1)).2.1 + 1, (e (a + 1)).2.2) else (false, (e (a + 1)).2.1, [])) else (false, (e (a + 1)).2.1, []) : Rs).2.1 ∧ (if (e (a + 1)).1 then (if (e (a + 1)).2.1 < lim ∧ c (e (a + 1)).2.1 = 41 then (true, (e (a + 1)).2.1 + 1, (e (a + 1)).2.2) else (false, (e (a + 1)).2.1, [])) else (false, (e (a + 1)).2.1, []) : Rs).2.1 ≤ lim ∧ ((if (e (a + 1)).1 then (if (e (a + 1)).2.1 < lim ∧ c (e (a + 1)).2.1 = 41 then (true, (e (a + 1)).2.1 + 1, (e (a + 1)).2.2) else (false, (e (a + 1)).2.1, [])) else (false, (e (a + 1)).2.1, []) : Rs).1 = true → a < (if (e (a + 1)).1 then (if (e (a + 1)).2.1 < lim ∧ c (e (a + 1)).2.1 = 41 then (true, (e (a + 1)).2.1 + 1, (e (a + 1)).2.2) else (false, (e (a + 1)).2.1, [])) else (false, (e (a + 1)).2.1, []) : Rs).2.1 ∧ (if (e (a + 1)).1 then (if (e (a + 1)).2.1 < lim ∧ c (e (a + 1)).2.1 = 41 then (true, (e (a + 1)).2.1 + 1, (e (a + 1)).2.2) else (false, (e (a + 1)).2.1, [])) else (false, (e (a + 1)).2.1, []) : Rs).2.2.length + a ≤ (if (e (a + 1)).1 then (if (e (a + 1)).2.1 < lim ∧ c (e (a + 1)).2.1 = 41 then (true, (e (a + 1)).2.1 + 1, (e (a + 1)).2.2) else (false, (e (a + 1)).2.1, [])) else (false, (e (a + 1)).2.1, []) : Rs).2.1 ∧ ∀ n, vL (if (e (a + 1)).1 then (if (e (a + 1)).2.1 < lim ∧ c (e (a + 1)).2.1 = 41 then (true, (e (a + 1)).2.1 + 1, (e (a + 1)).2.2) else (false, (e (a + 1)).2.1, [])) else (false, (e (a + 1)).2.1, []) : Rs).2.2 n = some (n + 1))
    generalize e (a + 1) = r at ok ⊢
    by_cases h1 : r.1 = true
    · have o3 := ok.2.2 h1
      rw [if_pos h1]
      by_cases h2 : r.2.1 < lim ∧ c r.2.1 = 41
      · rw [if_pos h2]
        refine ⟨?_, ?_, fun _ => ⟨?_, ?_, o3.2.2⟩⟩
        · show a ≤ r.2.1 + 1; omega
        · show r.2.1 + 1 ≤ lim; omega
        · show a < r.2.1 + 1; omega
        · show r.2.2.length + a ≤ r.2.1 + 1; omega
      · rw [if_neg h2]
        exact ⟨show a ≤ r.2.1 by omega, ok.2.1, fun h => by cases h⟩
    · rw [if_neg h1]
      exact ⟨show a ≤ r.2.1 by omega, ok.2.1, fun h => by cases h⟩
theorem prm_ok {c : Nat → Nat} {lim : Nat} {E : Option (Nat → Rs)} (hE : ∀ e, E = some e → okP lim e) : okP lim (prm c lim E) := by
  intro a ha
  by_cases q : a < lim
  · by_cases d : 48 ≤ c a ∧ c a ≤ 57
    · have := nmD_3 (c := c) ⟨q, d⟩
      rw [prm_d ⟨q, d⟩]
      refine ⟨Nat.le_of_lt this.1, this.2.1, fun _ => ⟨this.1, ?_, fun n => vL_one (by show (nmD c lim 3 a 0).2 < 1005; omega)⟩⟩
      show 1 + a ≤ (nmD c lim 3 a 0).1; omega
    · cases h : thO (c a) with
      | some i =>
        have := thO_lt h
        rw [prm_t q d h]
        refine ⟨?_, ?_, fun _ => ⟨?_, ?_, fun n => vL_one (by omega)⟩⟩
        · show a ≤ a + 1; omega
        · show a + 1 ≤ lim; omega
        · show a < a + 1; omega
        · show 1 + a ≤ a + 1; omega
      | none =>
        rw [prm_o q d h]
        by_cases p : c a = 40
        · rw [if_pos p]; exact prE_ok hE q
        · rw [if_neg p]; exact ⟨Nat.le_refl _, ha, fun h => by cases h⟩
  · rw [prm_e q]; exact ⟨Nat.le_refl _, ha, fun h => by cases h⟩
theorem sgP_m {c : Nat → Nat} {lim : Nat} {E : Option (Nat → Rs)} {f a : Nat} (q : a < lim ∧ c a = 45) : sgP c lim E (f + 1) a = ((sgP c lim E f (a + 1)).1, (sgP c lim E f (a + 1)).2.1, (sgP c lim E f (a + 1)).2.2 ++ [3000]) := if_pos q
theorem sgP_p {c : Nat → Nat} {lim : Nat} {E : Option (Nat → Rs)} {f a : Nat} (q : ¬ (a < lim ∧ c a = 45)) : sgP c lim E (f + 1) a = prm c lim E a := if_neg q
theorem sgP_ok {c : Nat → Nat} {lim : Nat} {E : Option (Nat → Rs)} (hE : ∀ e, E = some e → okP lim e) : ∀ f, okP lim (sgP c lim E f)
  | 0 => prm_ok hE
  | f + 1 => fun a ha => by
    by_cases q : a < lim ∧ c a = 45
    · have ok := sgP_ok (c := c) hE f (a + 1) (by omega)
      rw [sgP_m q]
      generalize sgP c lim E f (a + 1) = r at ok ⊢
      refine ⟨?_, ok.2.1, fun h => ?_⟩
      · show a ≤ r.2.1; omega
      · have o3 := ok.2.2 h
        refine ⟨?_, ?_, fun n => ?_⟩
        · show a < r.2.1; omega
        · show (r.2.2 ++ [3000]).length + a ≤ r.2.1
          rw [List.length_append]
          show r.2.2.length + 1 + a ≤ r.2.1; omega
        · show vL (r.2.2 ++ [3000]) n = some (n + 1)
          rw [vL_app, o3.2.2 n]
          show vL [3000] (n + 1) = some (n + 1)
          unfold vL; rw [if_pos rfl, if_pos (by omega)]; rfl
    · rw [sgP_p q]; exact prm_ok hE a ha
theorem sgP_st {c : Nat → Nat} {lim : Nat} {E : Option (Nat → Rs)} : ∀ (f f' a : Nat), lim - a ≤ f → lim - a ≤ f' → sgP c lim E f a = sgP c lim E f' a
  | 0, 0, a, h, h' => rfl
  | 0, f' + 1, a, h, h' => by rw [sgP_p (by omega)]; rfl
  | f + 1, 0, a, h, h' => by rw [sgP_p (by omega)]; rfl
  | f + 1, f' + 1, a, h, h' => by
    by_cases q : a < lim ∧ c a = 45
    · rw [sgP_m q, sgP_m q, sgP_st f f' (a + 1) (by omega) (by omega)]
    · rw [sgP_p q, sgP_p q]
theorem rpP_k {c : Nat → Nat} {lim : Nat} {P : Nat → Rs} {lv n a k : Nat} (q : a < lim) (h : rlO lv (c a) = some k) : rpP c lim P lv (n + 1) a = rpK P a k (rpP c lim P lv n) := by
  show (if a < lim then (match rlO lv (c a) with | none => ((true, a, []) : Rs) | some k => rpK P a k (rpP c lim P lv n)) else (true, a, [])) = _
  rw [if_pos q, h]
theorem rpP_n {c : Nat → Nat} {lim : Nat} {P : Nat → Rs} {lv n a : Nat} (h : a < lim → rlO lv (c a) = none) : rpP c lim P lv (n + 1) a = (true, a, []) := by
  show (if a < lim then (match rlO lv (c a) with | none => ((true, a, []) : Rs) | some k => rpK P a k (rpP c lim P lv n)) else (true, a, [])) = _
  by_cases q : a < lim
  · rw [if_pos q, h q]
  · rw [if_neg q]
theorem rpP_ok {c : Nat → Nat} {lim : Nat} {P : Nat → Rs} {lv : Nat} (hP : okP lim P) : ∀ n a, a ≤ lim → a ≤ (rpP c lim P lv n a).2.1 ∧ (rpP c lim P lv n a).2.1 ≤ lim ∧ ((rpP c lim P lv n a).1 = true → (rpP c lim P lv n a).2.2.length + a ≤ (rpP c lim P lv n a).2.1 ∧ ∀ m, vL (rpP c lim P lv n a).2.2 (m + 1) = some (m + 1))
  | 0, a, ha => ⟨Nat.le_refl _, ha, fun _ => ⟨by show 0 + a ≤ a; omega, fun m => rfl⟩⟩
  | n + 1, a, ha => by
    have triv : ((true, a, []) : Rs).2.1 ≤ lim ∧ (((true, a, []) : Rs).1 = true → ((true, a, []) : Rs).2.2.length + a ≤ ((true, a, []) : Rs).2.1 ∧ ∀ m, vL ((true, a, []) : Rs).2.2 (m + 1) = some (m + 1)) := ⟨ha, fun _ => ⟨by show 0 + a ≤ a; omega, fun m => rfl⟩⟩
    by_cases q : a < lim
    · cases h : rlO lv (c a) with
      | none => rw [rpP_n (fun _ => h)]; exact ⟨Nat.le_refl _, triv⟩
      | some k =>
        have kl := rlO_lt h
        have ok := hP (a + 1) (by omega)
        rw [rpP_k q h]
        have ih := rpP_ok (c := c) (lv := lv) hP n (P (a + 1)).2.1 ok.2.1
        unfold rpK
        generalize P (a + 1) = r at ok ih ⊢
        generalize rpP c lim P lv n r.2.1 = t at ih ⊢
        by_cases h1 : r.1 = true
        · have o3 := ok.2.2 h1
          rw [if_pos h1]
          refine ⟨?_, ih.2.1, fun h2 => ?_⟩
          · show a ≤ t.2.1; omega
          · have i3 := ih.2.2 h2
            refine ⟨?_, fun m => ?_⟩
            · show (r.2.2 ++ k :: t.2.2).length + a ≤ t.2.1
              rw [List.length_append]
              show r.2.2.length + (t.2.2.length + 1) + a ≤ t.2.1
              omega
            · show vL (r.2.2 ++ k :: t.2.2) (m + 1) = some (m + 1)
              rw [vL_app, o3.2.2 (m + 1)]
              show vL (k :: t.2.2) (m + 1 + 1) = some (m + 1)
              unfold vL
              rw [if_neg (by omega), if_neg (by omega), if_pos kl, if_pos (by omega)]
              exact i3.2 m
        · rw [if_neg h1]
          exact ⟨show a ≤ r.2.1 by omega, ok.2.1, fun h => by cases h⟩
    · rw [rpP_n (fun x => absurd x q)]; exact ⟨Nat.le_refl _, triv⟩
theorem lvP_ok {c : Nat → Nat} {lim : Nat} {P : Nat → Rs} (hP : okP lim P) (lv n : Nat) : okP lim (lvP c lim P lv n) := fun a ha => by
  have ok := hP a ha
  have ih := rpP_ok (c := c) (lv := lv) hP n (P a).2.1 ok.2.1
  unfold lvP
  generalize P a = r at ok ih ⊢
  generalize rpP c lim P lv n r.2.1 = t at ih ⊢
  by_cases h1 : r.1 = true
  · have o3 := ok.2.2 h1
    rw [if_pos h1]
    refine ⟨?_, ih.2.1, fun h2 => ?_⟩
    · show a ≤ t.2.1; omega
    · have i3 := ih.2.2 h2
      refine ⟨?_, ?_, fun m => ?_⟩
      · show a < t.2.1; omega
      · show (r.2.2 ++ t.2.2).length + a ≤ t.2.1
        rw [List.length_append]; omega
      · show vL (r.2.2 ++ t.2.2) m = some (m + 1)
        rw [vL_app, o3.2.2 m]
        exact i3.2 m
  · rw [if_neg h1]
    exact ⟨show a ≤ r.2.1 by omega, ok.2.1, fun h => by cases h⟩
theorem ex3_ok {c : Nat → Nat} {lim : Nat} {E : Option (Nat → Rs)} (hE : ∀ e, E = some e → okP lim e) : okP lim (ex3 c lim E) := sgP_ok hE 40
theorem ex2_ok {c : Nat → Nat} {lim : Nat} {E : Option (Nat → Rs)} (hE : ∀ e, E = some e → okP lim e) : okP lim (ex2 c lim E) := lvP_ok (ex3_ok hE) 2 40
theorem ex1_ok {c : Nat → Nat} {lim : Nat} {E : Option (Nat → Rs)} (hE : ∀ e, E = some e → okP lim e) : okP lim (ex1 c lim E) := lvP_ok (ex2_ok hE) 1 40
theorem ex0_ok {c : Nat → Nat} {lim : Nat} {E : Option (Nat → Rs)} (hE : ∀ e, E = some e → okP lim e) : okP lim (ex0 c lim E) := lvP_ok (ex1_ok hE) 0 1
theorem ExP_ok {c : Nat → Nat} {lim : Nat} : ∀ r, okP lim (ExP c lim r)
  | 0 => ex0_ok (E := none) (fun e h => by cases h)
  | r + 1 => ex0_ok (E := some (ExP c lim r)) (fun e h => by cases h; exact ExP_ok r)
theorem exE_ok {c : Nat → Nat} {lim r : Nat} : ∀ e, exE c lim r = some e → okP lim e := fun e h => by
  cases r with
  | zero => cases h
  | succ r => cases h; exact ExP_ok r

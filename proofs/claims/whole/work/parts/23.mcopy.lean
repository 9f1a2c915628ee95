/-! The reference's copies of states. -/
theorem i79 (u i : Nat) : 79 * nI u + nI i = nI (79 * u + i) := by rw [show (79 : Int32) = nI 79 from rfl, pk_mul, nI_add]
theorem puts_loop {k : eH → Option eH} {g : Nat → Int32} : ∀ (m i fu : Nat) (h : eH), i + m = 79 → RefsOK h → (∀ j, gI h 76 j = g j) → f_X11_puts_L2 LF (fu + m + 1) k h 73 (nI i) = k (wrI 77 (0) (fun j => g (0 + j)) m i h) := by
  intro m
  induction m with
  | zero =>
    intro i fu h hi hR hg
    have : i = 79 := by omega
    subst this
    unfold f_X11_puts_L2
    rw [if_pos (by decide)]
    rfl
  | succ m ih =>
    intro i fu h hi hR hg
    unfold f_X11_puts_L2
    rw [if_neg (show ¬ (79 : Int32) ≤ nI i from nI_ge (b := 79) (by omega) (by decide)), if_pos iO_73, r_73_8 hR, Option.bind_some, r_73_7 hR, Option.bind_some, iA_76, if_pos (in_nI (by omega) (by decide)), iA_77, if_pos (in_nI (by omega) (by decide))]
    simp only [Option.bind_some]
    rw [nI_clamp (n := i) (by omega), nI_p1, hg]
    have := ih (i + 1) fu (sI h 77 (0 + i) (g (0 + i))) (by omega) (refs_sI hR) (fun j => by rw [gI_sI, if_neg (by omega)]; exact hg j)
    simpa only [wrI, Nat.zero_add, Nat.add_assoc] using this
theorem putsBy_loop {k : eH → Option eH} {g : Nat → Int32} {u : Nat} (hu0 : u ≤ 15) : ∀ (m i fu : Nat) (h : eH), i + m = 79 → RefsOK h → gI h 73 24 = nI u → (∀ j, gI h 76 j = g j) → f_X11_putsBy_L2 LF (fu + m + 1) k h 73 (nI i) = k (wrI 84 (79 * u) (fun j => g (0 + j)) m i h) := by
  intro m
  induction m with
  | zero =>
    intro i fu h hi hR hu hg
    have : i = 79 := by omega
    subst this
    unfold f_X11_putsBy_L2
    rw [if_pos (by decide)]
    rfl
  | succ m ih =>
    intro i fu h hi hR hu hg
    unfold f_X11_putsBy_L2
    rw [if_neg (show ¬ (79 : Int32) ≤ nI i from nI_ge (b := 79) (by omega) (by decide)), if_pos iO_73, r_73_25 hR, Option.bind_some, r_73_7 hR, Option.bind_some, hu, i79, iA_76, if_pos (in_nI (by omega) (by decide)), iA_84, if_pos (in_nI (by omega) (by decide))]
    simp only [Option.bind_some]
    rw [nI_clamp (n := i) (by omega), nI_clamp (n := 79 * u + i) (by omega), nI_p1, hg]
    have := ih (i + 1) fu (sI h 84 (79 * u + i) (g (0 + i))) (by omega) (refs_sI hR) (by rw [gI_sI, if_neg (by omega)]; exact hu) (fun j => by rw [gI_sI, if_neg (by omega)]; exact hg j)
    simpa only [wrI, Nat.zero_add, Nat.add_assoc] using this
theorem undo_loop {k : eH → Nat → Option (eH × Int32)} {g : Nat → Int32} {u : Nat} (hu0 : u ≤ 15) : ∀ (m i fu : Nat) (h : eH), i + m = 79 → RefsOK h → gI h 73 24 = nI u → (∀ j, gI h 84 j = g j) → f_X11_undo_L26 LF (fu + m + 1) k h 73 (nI i) = k (wrI 76 (0) (fun j => g (79 * u + j)) m i h) 73 := by
  intro m
  induction m with
  | zero =>
    intro i fu h hi hR hu hg
    have : i = 79 := by omega
    subst this
    unfold f_X11_undo_L26
    rw [if_pos (by decide)]
    rfl
  | succ m ih =>
    intro i fu h hi hR hu hg
    unfold f_X11_undo_L26
    rw [if_neg (show ¬ (79 : Int32) ≤ nI i from nI_ge (b := 79) (by omega) (by decide)), if_pos iO_73, r_73_7 hR, Option.bind_some, r_73_25 hR, Option.bind_some, hu, i79, iA_84, if_pos (in_nI (by omega) (by decide)), iA_76, if_pos (in_nI (by omega) (by decide))]
    simp only [Option.bind_some]
    rw [nI_clamp (n := i) (by omega), nI_clamp (n := 79 * u + i) (by omega), nI_p1, hg]
    have := ih (i + 1) fu (sI h 76 (0 + i) (g (79 * u + i))) (by omega) (refs_sI hR) (by rw [gI_sI, if_neg (by omega)]; exact hu) (fun j => by rw [gI_sI, if_neg (by omega)]; exact hg j)
    simpa only [wrI, Nat.zero_add, Nat.add_assoc] using this
theorem keep_loop {k : eH → Option (eH × Int32)} {g : Nat → Int32} {u : Nat} (hu0 : u < 3) : ∀ (m i fu : Nat) (h : eH), i + m = 79 → RefsOK h → (∀ j, gI h 76 j = g j) → f_X11_keep_L28 LF (fu + m + 1) k h 73 (nI u) (nI i) = k (wrI 98 (79 * u) (fun j => g (0 + j)) m i h) := by
  intro m
  induction m with
  | zero =>
    intro i fu h hi hR hg
    have : i = 79 := by omega
    subst this
    unfold f_X11_keep_L28
    rw [if_pos (by decide)]
    rfl
  | succ m ih =>
    intro i fu h hi hR hg
    unfold f_X11_keep_L28
    rw [if_neg (show ¬ (79 : Int32) ≤ nI i from nI_ge (b := 79) (by omega) (by decide)), if_pos iO_73, r_73_45 hR, Option.bind_some, r_73_7 hR, Option.bind_some, i79, iA_76, if_pos (in_nI (by omega) (by decide)), iA_98, if_pos (in_nI (by omega) (by decide))]
    simp only [Option.bind_some]
    rw [nI_clamp (n := i) (by omega), nI_clamp (n := 79 * u + i) (by omega), nI_p1, hg]
    have := ih (i + 1) fu (sI h 98 (79 * u + i) (g (0 + i))) (by omega) (refs_sI hR) (fun j => by rw [gI_sI, if_neg (by omega)]; exact hg j)
    simpa only [wrI, Nat.zero_add, Nat.add_assoc] using this
theorem again_loop {k : eH → Nat → Option (eH × Int32)} {g : Nat → Int32} {u : Nat} (hu0 : u < 3) : ∀ (m i fu : Nat) (h : eH), i + m = 79 → RefsOK h → (∀ j, gI h 98 j = g j) → f_X11_again_L30 LF (fu + m + 1) k h 73 (nI u) (nI i) = k (wrI 76 (0) (fun j => g (79 * u + j)) m i h) 73 := by
  intro m
  induction m with
  | zero =>
    intro i fu h hi hR hg
    have : i = 79 := by omega
    subst this
    unfold f_X11_again_L30
    rw [if_pos (by decide)]
    rfl
  | succ m ih =>
    intro i fu h hi hR hg
    unfold f_X11_again_L30
    rw [if_neg (show ¬ (79 : Int32) ≤ nI i from nI_ge (b := 79) (by omega) (by decide)), if_pos iO_73, r_73_7 hR, Option.bind_some, r_73_45 hR, Option.bind_some, i79, iA_98, if_pos (in_nI (by omega) (by decide)), iA_76, if_pos (in_nI (by omega) (by decide))]
    simp only [Option.bind_some]
    rw [nI_clamp (n := i) (by omega), nI_clamp (n := 79 * u + i) (by omega), nI_p1, hg]
    have := ih (i + 1) fu (sI h 76 (0 + i) (g (79 * u + i))) (by omega) (refs_sI hR) (fun j => by rw [gI_sI, if_neg (by omega)]; exact hg j)
    simpa only [wrI, Nat.zero_add, Nat.add_assoc] using this

/-! The law's loop. Laid by program (law3.py). -/
theorem and63 (x : Int32) : ∃ t, t < 64 ∧ x &&& 63 = nI t := by
  refine ⟨(x &&& 63).toBitVec.toNat, ?_, ?_⟩
  · have e : (x &&& 63).toBitVec.toNat = x.toBitVec.toNat &&& 63 := by rw [Int32.toBitVec_and, BitVec.toNat_and]; rfl
    rw [e]
    have := @Nat.and_le_right x.toBitVec.toNat 63
    omega
  · rw [← Int32.toBitVec_inj]
    show _ = BitVec.ofNat 32 _
    rw [BitVec.ofNat_toNat, BitVec.setWidth_eq]
theorem lw_lt5 {Ln j : Nat} (h1 : Ln ≤ 2560) (h2 : j ≤ 600) (h : Ln < 5 * j + 5) : nI Ln - 5 < nI (5 * j) := by
  have e : (nI Ln - 5).toInt = (Ln : Int) - 5 := by
    rw [Int32.toInt_sub, nI_toInt (by omega), show (5 : Int32).toInt = 5 from rfl]
    exact Int.bmod_eq_of_le (by omega) (by omega)
  rw [Int32.lt_iff_toInt_lt, e, nI_toInt (by omega)]
  omega
theorem lw_end {p : Program} {l : Launch} {e : Env} {s : State} {m : MethodId} {b : Nat} {below : List Frame} {meth : Method} {c : Code} {G : eG} {A : Nat → Prop} {α : Nat → Nat} {h : eH} {k n : Nat} {lv : List (Nat × Value)} (C : e_C yL_law cL_law 8 (some .boolean) G A p s m #[.ref b] meth c) (hA : ∀ q, A q ↔ s.heap.size ≤ q) (hk : k ≤ 601024) (hn : n ≤ 7293034) : WW p l e room_1 s m #[.ref b] below meth c G A 8 (lw_Z below #[Value.ref b] s) α LF h k n 1330 lv [] := by
  refine w_iconst C (v := 1) dL_law_1330 (by decide) ?_
  intro H locs ls hP hD hS hl
  refine va_forget (fun q hq => (hA _).mp (hS.2.2 q hq)) ?_
  refine W.widen hk hn ?_
  exact lw_ret C.1 C.2.1 C.2.2.1 C.2.2.2.2.2.2.2.1 dL_law_1331
theorem lw_one {p : Program} {l : Launch} {e : Env} {s : State} {m : MethodId} {b : Nat} {below : List Frame} {meth : Method} {c : Code} {G : eG} {A : Nat → Prop} {α : Nat → Nat} {Ln : Nat} {xs : Nat → Int32} {h : eH} {X : AX} {j t : Nat} (ht : t < 64) (CC : lwC p l s m b meth c G A α Ln xs) (hc : CI h X) (hm : MI h X) (ho : okX (300 * j) X) (hj : 5 * j + 5 ≤ Ln) (kk : ∀ h2 X', CI h2 X' → MI h2 X' → okX (300 * j + 300) X' → WW p l e room_1 s m #[.ref b] below meth c G A 8 (lw_Z below #[Value.ref b] s) α LF h2 (101 + j) (6325 + 6 * j) 1324 (lwv j) []) : WW p l e room_1 s m #[.ref b] below meth c G A 8 (lw_Z below #[Value.ref b] s) α LF h (100 + j) (6319 + 6 * j) 39 (lwv j) [.int (nI t)] := by
  have C := CC.1
  have hq : t = 0 ∨ t = 1 ∨ t = 2 ∨ t = 3 ∨ t = 4 ∨ t = 5 ∨ t = 6 ∨ t = 7 ∨ t = 8 ∨ t = 9 ∨ t = 10 ∨ t = 11 ∨ t = 12 ∨ t = 13 ∨ t = 14 ∨ t = 15 ∨ t = 16 ∨ t = 17 ∨ t = 18 ∨ t = 19 ∨ t = 20 ∨ t = 21 ∨ t = 22 ∨ t = 23 ∨ t = 24 ∨ t = 25 ∨ t = 26 ∨ t = 27 ∨ t = 28 ∨ t = 29 ∨ t = 30 ∨ t = 31 ∨ t = 32 ∨ t = 33 ∨ t = 34 ∨ t = 35 ∨ t = 36 ∨ t = 37 ∨ t = 38 ∨ t = 39 ∨ t = 40 ∨ t = 41 ∨ t = 42 ∨ t = 43 ∨ 44 ≤ t := by omega
  rcases hq with rfl | rfl | rfl | rfl | rfl | rfl | rfl | rfl | rfl | rfl | rfl | rfl | rfl | rfl | rfl | rfl | rfl | rfl | rfl | rfl | rfl | rfl | rfl | rfl | rfl | rfl | rfl | rfl | rfl | rfl | rfl | rfl | rfl | rfl | rfl | rfl | rfl | rfl | rfl | rfl | rfl | rfl | rfl | rfl | hq
  · exact w_tabIn C (t := 228) dL_law_39 (by decide) (by decide) rfl (by decide) (lc_0 CC hc hm ho hj kk)
  · exact w_tabIn C (t := 253) dL_law_39 (by decide) (by decide) rfl (by decide) (lc_1 CC hc hm ho hj kk)
  · exact w_tabIn C (t := 278) dL_law_39 (by decide) (by decide) rfl (by decide) (lc_2 CC hc hm ho hj kk)
  · exact w_tabIn C (t := 291) dL_law_39 (by decide) (by decide) rfl (by decide) (lc_3 CC hc hm ho hj kk)
  · exact w_tabIn C (t := 304) dL_law_39 (by decide) (by decide) rfl (by decide) (lc_4 CC hc hm ho hj kk)
  · exact w_tabIn C (t := 372) dL_law_39 (by decide) (by decide) rfl (by decide) (lc_5 CC hc hm ho hj kk)
  · exact w_tabIn C (t := 428) dL_law_39 (by decide) (by decide) rfl (by decide) (lc_6 CC hc hm ho hj kk)
  · exact w_tabIn C (t := 489) dL_law_39 (by decide) (by decide) rfl (by decide) (lc_7 CC hc hm ho hj kk)
  · exact w_tabIn C (t := 514) dL_law_39 (by decide) (by decide) rfl (by decide) (lc_8 CC hc hm ho hj kk)
  · exact w_tabIn C (t := 539) dL_law_39 (by decide) (by decide) rfl (by decide) (lc_9 CC hc hm ho hj kk)
  · exact w_tabIn C (t := 564) dL_law_39 (by decide) (by decide) rfl (by decide) (lc_10 CC hc hm ho hj kk)
  · exact w_tabIn C (t := 589) dL_law_39 (by decide) (by decide) rfl (by decide) (lc_11 CC hc hm ho hj kk)
  · exact w_tabIn C (t := 626) dL_law_39 (by decide) (by decide) rfl (by decide) (lc_12 CC hc hm ho hj kk)
  · exact w_tabIn C (t := 651) dL_law_39 (by decide) (by decide) rfl (by decide) (lc_13 CC hc hm ho hj kk)
  · exact w_tabIn C (t := 664) dL_law_39 (by decide) (by decide) rfl (by decide) (lc_14 CC hc hm ho hj kk)
  · exact w_tabIn C (t := 677) dL_law_39 (by decide) (by decide) rfl (by decide) (lc_15 CC hc hm ho hj kk)
  · exact w_tabIn C (t := 702) dL_law_39 (by decide) (by decide) rfl (by decide) (lc_16 CC hc hm ho hj kk)
  · exact w_tabIn C (t := 715) dL_law_39 (by decide) (by decide) rfl (by decide) (lc_17 CC hc hm ho hj kk)
  · exact w_tabIn C (t := 728) dL_law_39 (by decide) (by decide) rfl (by decide) (lc_18 CC hc hm ho hj kk)
  · exact w_tabIn C (t := 741) dL_law_39 (by decide) (by decide) rfl (by decide) (lc_19 CC hc hm ho hj kk)
  · exact w_tabIn C (t := 754) dL_law_39 (by decide) (by decide) rfl (by decide) (lc_20 CC hc hm ho hj kk)
  · exact w_tabIn C (t := 767) dL_law_39 (by decide) (by decide) rfl (by decide) (lc_21 CC hc hm ho hj kk)
  · exact w_tabIn C (t := 792) dL_law_39 (by decide) (by decide) rfl (by decide) (lc_22 CC hc hm ho hj kk)
  · exact w_tabIn C (t := 829) dL_law_39 (by decide) (by decide) rfl (by decide) (lc_23 CC hc hm ho hj kk)
  · exact w_tabIn C (t := 842) dL_law_39 (by decide) (by decide) rfl (by decide) (lc_24 CC hc hm ho hj kk)
  · exact w_tabIn C (t := 855) dL_law_39 (by decide) (by decide) rfl (by decide) (lc_25 CC hc hm ho hj kk)
  · exact w_tabIn C (t := 868) dL_law_39 (by decide) (by decide) rfl (by decide) (lc_26 CC hc hm ho hj kk)
  · exact w_tabIn C (t := 881) dL_law_39 (by decide) (by decide) rfl (by decide) (lc_27 CC hc hm ho hj kk)
  · exact w_tabIn C (t := 906) dL_law_39 (by decide) (by decide) rfl (by decide) (lc_28 CC hc hm ho hj kk)
  · exact w_tabIn C (t := 931) dL_law_39 (by decide) (by decide) rfl (by decide) (lc_29 CC hc hm ho hj kk)
  · exact w_tabIn C (t := 956) dL_law_39 (by decide) (by decide) rfl (by decide) (lc_30 CC hc hm ho hj kk)
  · exact w_tabIn C (t := 969) dL_law_39 (by decide) (by decide) rfl (by decide) (lc_31 CC hc hm ho hj kk)
  · exact w_tabIn C (t := 982) dL_law_39 (by decide) (by decide) rfl (by decide) (lc_32 CC hc hm ho hj kk)
  · exact w_tabIn C (t := 995) dL_law_39 (by decide) (by decide) rfl (by decide) (lc_33 CC hc hm ho hj kk)
  · exact w_tabIn C (t := 1032) dL_law_39 (by decide) (by decide) rfl (by decide) (lc_34 CC hc hm ho hj kk)
  · exact w_tabIn C (t := 1069) dL_law_39 (by decide) (by decide) rfl (by decide) (lc_35 CC hc hm ho hj kk)
  · exact w_tabIn C (t := 1082) dL_law_39 (by decide) (by decide) rfl (by decide) (lc_36 CC hc hm ho hj kk)
  · exact w_tabIn C (t := 1107) dL_law_39 (by decide) (by decide) rfl (by decide) (lc_37 CC hc hm ho hj kk)
  · exact w_tabIn C (t := 1132) dL_law_39 (by decide) (by decide) rfl (by decide) (lc_38 CC hc hm ho hj kk)
  · exact w_tabIn C (t := 1157) dL_law_39 (by decide) (by decide) rfl (by decide) (lc_39 CC hc hm ho hj kk)
  · exact w_tabIn C (t := 1194) dL_law_39 (by decide) (by decide) rfl (by decide) (lc_40 CC hc hm ho hj kk)
  · exact w_tabIn C (t := 1219) dL_law_39 (by decide) (by decide) rfl (by decide) (lc_41 CC hc hm ho hj kk)
  · exact w_tabIn C (t := 1244) dL_law_39 (by decide) (by decide) rfl (by decide) (lc_42 CC hc hm ho hj kk)
  · exact w_tabIn C (t := 1269) dL_law_39 (by decide) (by decide) rfl (by decide) (lc_43 CC hc hm ho hj kk)
  · exact w_tabOut C (t := 1324) dL_law_39 (Or.inr (by rw [nI_toInt (by omega)]; omega)) (by decide) (w_widen (by omega) (by omega) (kk h X hc hm (okX_mono (by omega) ho)))
theorem law_loop {p : Program} {l : Launch} {e : Env} {s : State} {m : MethodId} {b : Nat} {below : List Frame} {meth : Method} {c : Code} {G : eG} {A : Nat → Prop} {α : Nat → Nat} {Ln : Nat} {xs : Nat → Int32} (CC : lwC p l s m b meth c G A α Ln xs) (hA : ∀ q, A q ↔ s.heap.size ≤ q) : ∀ (f j : Nat), j ≤ 513 → Ln ≤ 5 * (j + f) → ∀ (h : eH) (X : AX), CI h X → MI h X → okX (300 * j) X → WW p l e room_1 s m #[.ref b] below meth c G A 8 (lw_Z below #[Value.ref b] s) α LF h (100 + j) (6319 + 6 * j) 23 (lwv j) [] := by
  obtain ⟨C, X0, Y, hX, hbl, hbA, hα, hLn, hst⟩ := id CC
  intro f
  induction f with
  | zero =>
    intro j hj hf h X hc hm ho
    refine w_iload C 0 dL_law_23 rfl ?_
    refine w_aload_n C 1 dL_law_25 rfl rfl ?_
    refine w_slen C hX hbl hbA hα dL_law_26 ?_
    refine w_iconst C (v := 5) dL_law_27 (by decide) ?_
    refine w_isub C dL_law_28 ?_
    refine w_icmp_gt C (t := 1330) dL_law_29 (by decide) (fun _ => ?_) (fun hn => absurd (lw_lt5 hLn (by omega) (by omega)) hn)
    exact lw_end C hA (by omega) (by omega) 
  | succ f ih =>
    intro j hj hf h X hc hm ho
    refine w_iload C 0 dL_law_23 rfl ?_
    refine w_aload_n C 1 dL_law_25 rfl rfl ?_
    refine w_slen C hX hbl hbA hα dL_law_26 ?_
    refine w_iconst C (v := 5) dL_law_27 (by decide) ?_
    refine w_isub C dL_law_28 ?_
    refine w_icmp_gt C (t := 1330) dL_law_29 (by decide) (fun _ => lw_end C hA (by omega) (by omega)) (fun hn => ?_)
    have hj5 : 5 * j + 5 ≤ Ln := by
      rcases Nat.lt_or_ge Ln (5 * j + 5) with q | q
      · exact absurd (lw_lt5 hLn (by omega) q) hn
      · exact q
    refine w_aload_n C 1 dL_law_32 rfl rfl ?_
    refine w_iload C 0 dL_law_33 rfl ?_
    refine w_sld C hX hbl hbA hα (by omega) (by omega) dL_law_35 ?_
    refine w_bipush C (v := 63) dL_law_36 (by decide) ?_
    refine w_iand C dL_law_38 ?_
    obtain ⟨t, ht, et⟩ := and63 (xs (5 * j))
    rw [et]
    refine lw_one ht CC hc hm ho hj5 (fun h2 X' c' m' o' => ?_)
    refine w_iinc C (lv' := lwv (j + 1)) 0 dL_law_1324 rfl (by decide) (by rw [show nI (5 * j) + Int32.ofInt 5 = nI (5 * (j + 1)) from nI_add (5 * j) 5]; rfl) ?_
    refine w_goto C (t := 23) dL_law_1327 (by decide) ?_
    have := ih (j + 1) (by omega) (by omega) h2 X' c' m' o'
    exact w_widen (by omega) (by omega) this

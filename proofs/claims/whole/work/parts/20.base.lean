/-! The world of the law's loop: 100 cells; the shape of each, and the references that never change. -/
def LF : eL := wL97
theorem LF_n : LF.1 = 100 := rfl
theorem sh_0 : LF.2 0 = .inl 10 := rfl
theorem iO_0 : isO LF 0 10 = true := rfl
theorem sh_1 : LF.2 1 = .inl 8 := rfl
theorem iO_1 : isO LF 1 8 = true := rfl
theorem sh_2 : LF.2 2 = .inr (0, 80) := rfl
theorem sh_3 : LF.2 3 = .inl 3 := rfl
theorem iO_3 : isO LF 3 3 = true := rfl
theorem sh_4 : LF.2 4 = .inr (1, 37) := rfl
theorem sh_5 : LF.2 5 = .inl 5 := rfl
theorem iO_5 : isO LF 5 5 = true := rfl
theorem sh_6 : LF.2 6 = .inl 1 := rfl
theorem iO_6 : isO LF 6 1 = true := rfl
theorem sh_7 : LF.2 7 = .inr (3, 15) := rfl
theorem sh_8 : LF.2 8 = .inl 6 := rfl
theorem iO_8 : isO LF 8 6 = true := rfl
theorem sh_9 : LF.2 9 = .inr (0, 36) := rfl
theorem sh_10 : LF.2 10 = .inl 6 := rfl
theorem iO_10 : isO LF 10 6 = true := rfl
theorem sh_11 : LF.2 11 = .inr (0, 36) := rfl
theorem sh_12 : LF.2 12 = .inl 6 := rfl
theorem iO_12 : isO LF 12 6 = true := rfl
theorem sh_13 : LF.2 13 = .inr (0, 36) := rfl
theorem sh_14 : LF.2 14 = .inl 6 := rfl
theorem iO_14 : isO LF 14 6 = true := rfl
theorem sh_15 : LF.2 15 = .inr (0, 36) := rfl
theorem sh_16 : LF.2 16 = .inl 6 := rfl
theorem iO_16 : isO LF 16 6 = true := rfl
theorem sh_17 : LF.2 17 = .inr (0, 36) := rfl
theorem sh_18 : LF.2 18 = .inl 6 := rfl
theorem iO_18 : isO LF 18 6 = true := rfl
theorem sh_19 : LF.2 19 = .inr (0, 36) := rfl
theorem sh_20 : LF.2 20 = .inl 6 := rfl
theorem iO_20 : isO LF 20 6 = true := rfl
theorem sh_21 : LF.2 21 = .inr (0, 36) := rfl
theorem sh_22 : LF.2 22 = .inl 6 := rfl
theorem iO_22 : isO LF 22 6 = true := rfl
theorem sh_23 : LF.2 23 = .inr (0, 36) := rfl
theorem sh_24 : LF.2 24 = .inl 6 := rfl
theorem iO_24 : isO LF 24 6 = true := rfl
theorem sh_25 : LF.2 25 = .inr (0, 36) := rfl
theorem sh_26 : LF.2 26 = .inl 6 := rfl
theorem iO_26 : isO LF 26 6 = true := rfl
theorem sh_27 : LF.2 27 = .inr (0, 36) := rfl
theorem sh_28 : LF.2 28 = .inl 6 := rfl
theorem iO_28 : isO LF 28 6 = true := rfl
theorem sh_29 : LF.2 29 = .inr (0, 36) := rfl
theorem sh_30 : LF.2 30 = .inl 6 := rfl
theorem iO_30 : isO LF 30 6 = true := rfl
theorem sh_31 : LF.2 31 = .inr (0, 36) := rfl
theorem sh_32 : LF.2 32 = .inl 6 := rfl
theorem iO_32 : isO LF 32 6 = true := rfl
theorem sh_33 : LF.2 33 = .inr (0, 36) := rfl
theorem sh_34 : LF.2 34 = .inl 6 := rfl
theorem iO_34 : isO LF 34 6 = true := rfl
theorem sh_35 : LF.2 35 = .inr (0, 36) := rfl
theorem sh_36 : LF.2 36 = .inl 6 := rfl
theorem iO_36 : isO LF 36 6 = true := rfl
theorem sh_37 : LF.2 37 = .inr (0, 36) := rfl
theorem sh_38 : LF.2 38 = .inl 9 := rfl
theorem iO_38 : isO LF 38 9 = true := rfl
theorem sh_39 : LF.2 39 = .inr (1, 74) := rfl
theorem sh_40 : LF.2 40 = .inl 0 := rfl
theorem iO_40 : isO LF 40 0 = true := rfl
theorem sh_41 : LF.2 41 = .inr (0, 12) := rfl
theorem sh_42 : LF.2 42 = .inr (1, 4) := rfl
theorem sh_43 : LF.2 43 = .inl 7 := rfl
theorem iO_43 : isO LF 43 7 = true := rfl
theorem sh_44 : LF.2 44 = .inr (0, 6) := rfl
theorem sh_45 : LF.2 45 = .inr (0, 6) := rfl
theorem sh_46 : LF.2 46 = .inl 6 := rfl
theorem iO_46 : isO LF 46 6 = true := rfl
theorem sh_47 : LF.2 47 = .inr (0, 36) := rfl
theorem sh_48 : LF.2 48 = .inl 6 := rfl
theorem iO_48 : isO LF 48 6 = true := rfl
theorem sh_49 : LF.2 49 = .inr (0, 36) := rfl
theorem sh_50 : LF.2 50 = .inl 6 := rfl
theorem iO_50 : isO LF 50 6 = true := rfl
theorem sh_51 : LF.2 51 = .inr (0, 36) := rfl
theorem sh_52 : LF.2 52 = .inr (3, 3) := rfl
theorem sh_53 : LF.2 53 = .inl 6 := rfl
theorem iO_53 : isO LF 53 6 = true := rfl
theorem sh_54 : LF.2 54 = .inr (0, 36) := rfl
theorem sh_55 : LF.2 55 = .inl 6 := rfl
theorem iO_55 : isO LF 55 6 = true := rfl
theorem sh_56 : LF.2 56 = .inr (0, 36) := rfl
theorem sh_57 : LF.2 57 = .inl 6 := rfl
theorem iO_57 : isO LF 57 6 = true := rfl
theorem sh_58 : LF.2 58 = .inr (0, 36) := rfl
theorem sh_59 : LF.2 59 = .inr (0, 1000) := rfl
theorem sh_60 : LF.2 60 = .inr (0, 36) := rfl
theorem sh_61 : LF.2 61 = .inr (1, 36) := rfl
theorem sh_62 : LF.2 62 = .inr (1, 36) := rfl
theorem sh_63 : LF.2 63 = .inl 2 := rfl
theorem iO_63 : isO LF 63 2 = true := rfl
theorem sh_64 : LF.2 64 = .inr (0, 36) := rfl
theorem sh_65 : LF.2 65 = .inl 2 := rfl
theorem iO_65 : isO LF 65 2 = true := rfl
theorem sh_66 : LF.2 66 = .inr (0, 36) := rfl
theorem sh_67 : LF.2 67 = .inl 4 := rfl
theorem iO_67 : isO LF 67 4 = true := rfl
theorem sh_68 : LF.2 68 = .inr (0, 40) := rfl
theorem sh_69 : LF.2 69 = .inr (0, 40) := rfl
theorem sh_70 : LF.2 70 = .inl 4 := rfl
theorem iO_70 : isO LF 70 4 = true := rfl
theorem sh_71 : LF.2 71 = .inr (0, 40) := rfl
theorem sh_72 : LF.2 72 = .inr (0, 40) := rfl
theorem sh_73 : LF.2 73 = .inl 11 := rfl
theorem iO_73 : isO LF 73 11 = true := rfl
theorem sh_74 : LF.2 74 = .inr (1, 48) := rfl
theorem sh_75 : LF.2 75 = .inr (0, 36) := rfl
theorem sh_76 : LF.2 76 = .inr (0, 79) := rfl
theorem sh_77 : LF.2 77 = .inr (0, 79) := rfl
theorem sh_78 : LF.2 78 = .inr (0, 80) := rfl
theorem sh_79 : LF.2 79 = .inr (0, 36) := rfl
theorem sh_80 : LF.2 80 = .inr (0, 80) := rfl
theorem sh_81 : LF.2 81 = .inr (0, 80) := rfl
theorem sh_82 : LF.2 82 = .inr (0, 80) := rfl
theorem sh_83 : LF.2 83 = .inr (0, 5) := rfl
theorem sh_84 : LF.2 84 = .inr (0, 1264) := rfl
theorem sh_85 : LF.2 85 = .inr (0, 60) := rfl
theorem sh_86 : LF.2 86 = .inr (0, 60) := rfl
theorem sh_87 : LF.2 87 = .inr (0, 36) := rfl
theorem sh_88 : LF.2 88 = .inr (0, 36) := rfl
theorem sh_89 : LF.2 89 = .inr (0, 6) := rfl
theorem sh_90 : LF.2 90 = .inr (0, 6) := rfl
theorem sh_91 : LF.2 91 = .inr (0, 12) := rfl
theorem sh_92 : LF.2 92 = .inr (2, 144) := rfl
theorem sh_93 : LF.2 93 = .inr (2, 144) := rfl
theorem sh_94 : LF.2 94 = .inr (1, 36) := rfl
theorem sh_95 : LF.2 95 = .inr (1, 36) := rfl
theorem sh_96 : LF.2 96 = .inr (0, 1000) := rfl
theorem sh_97 : LF.2 97 = .inr (2, 3) := rfl
theorem sh_98 : LF.2 98 = .inr (0, 237) := rfl
theorem sh_99 : LF.2 99 = .inr (1, 1) := rfl
theorem inA_of {L : eL} {a t n : Nat} {i : Int32} (ha : a < L.1) (hs : L.2 a = .inr (t, n)) : inA L a t i = (!(decide (i < 0)) && decide (i.toNatClampNeg < n)) := by
  unfold inA; rw [hs]; simp [ha]
theorem iA_2 (i : Int32) : inA LF 2 0 i = (!(decide (i < 0)) && decide (i.toNatClampNeg < 80)) := inA_of (by decide) sh_2
theorem iA_4 (i : Int32) : inA LF 4 1 i = (!(decide (i < 0)) && decide (i.toNatClampNeg < 37)) := inA_of (by decide) sh_4
theorem iA_7 (i : Int32) : inA LF 7 3 i = (!(decide (i < 0)) && decide (i.toNatClampNeg < 15)) := inA_of (by decide) sh_7
theorem iA_9 (i : Int32) : inA LF 9 0 i = (!(decide (i < 0)) && decide (i.toNatClampNeg < 36)) := inA_of (by decide) sh_9
theorem iA_11 (i : Int32) : inA LF 11 0 i = (!(decide (i < 0)) && decide (i.toNatClampNeg < 36)) := inA_of (by decide) sh_11
theorem iA_13 (i : Int32) : inA LF 13 0 i = (!(decide (i < 0)) && decide (i.toNatClampNeg < 36)) := inA_of (by decide) sh_13
theorem iA_15 (i : Int32) : inA LF 15 0 i = (!(decide (i < 0)) && decide (i.toNatClampNeg < 36)) := inA_of (by decide) sh_15
theorem iA_17 (i : Int32) : inA LF 17 0 i = (!(decide (i < 0)) && decide (i.toNatClampNeg < 36)) := inA_of (by decide) sh_17
theorem iA_19 (i : Int32) : inA LF 19 0 i = (!(decide (i < 0)) && decide (i.toNatClampNeg < 36)) := inA_of (by decide) sh_19
theorem iA_21 (i : Int32) : inA LF 21 0 i = (!(decide (i < 0)) && decide (i.toNatClampNeg < 36)) := inA_of (by decide) sh_21
theorem iA_23 (i : Int32) : inA LF 23 0 i = (!(decide (i < 0)) && decide (i.toNatClampNeg < 36)) := inA_of (by decide) sh_23
theorem iA_25 (i : Int32) : inA LF 25 0 i = (!(decide (i < 0)) && decide (i.toNatClampNeg < 36)) := inA_of (by decide) sh_25
theorem iA_27 (i : Int32) : inA LF 27 0 i = (!(decide (i < 0)) && decide (i.toNatClampNeg < 36)) := inA_of (by decide) sh_27
theorem iA_29 (i : Int32) : inA LF 29 0 i = (!(decide (i < 0)) && decide (i.toNatClampNeg < 36)) := inA_of (by decide) sh_29
theorem iA_31 (i : Int32) : inA LF 31 0 i = (!(decide (i < 0)) && decide (i.toNatClampNeg < 36)) := inA_of (by decide) sh_31
theorem iA_33 (i : Int32) : inA LF 33 0 i = (!(decide (i < 0)) && decide (i.toNatClampNeg < 36)) := inA_of (by decide) sh_33
theorem iA_35 (i : Int32) : inA LF 35 0 i = (!(decide (i < 0)) && decide (i.toNatClampNeg < 36)) := inA_of (by decide) sh_35
theorem iA_37 (i : Int32) : inA LF 37 0 i = (!(decide (i < 0)) && decide (i.toNatClampNeg < 36)) := inA_of (by decide) sh_37
theorem iA_39 (i : Int32) : inA LF 39 1 i = (!(decide (i < 0)) && decide (i.toNatClampNeg < 74)) := inA_of (by decide) sh_39
theorem iA_41 (i : Int32) : inA LF 41 0 i = (!(decide (i < 0)) && decide (i.toNatClampNeg < 12)) := inA_of (by decide) sh_41
theorem iA_42 (i : Int32) : inA LF 42 1 i = (!(decide (i < 0)) && decide (i.toNatClampNeg < 4)) := inA_of (by decide) sh_42
theorem iA_44 (i : Int32) : inA LF 44 0 i = (!(decide (i < 0)) && decide (i.toNatClampNeg < 6)) := inA_of (by decide) sh_44
theorem iA_45 (i : Int32) : inA LF 45 0 i = (!(decide (i < 0)) && decide (i.toNatClampNeg < 6)) := inA_of (by decide) sh_45
theorem iA_47 (i : Int32) : inA LF 47 0 i = (!(decide (i < 0)) && decide (i.toNatClampNeg < 36)) := inA_of (by decide) sh_47
theorem iA_49 (i : Int32) : inA LF 49 0 i = (!(decide (i < 0)) && decide (i.toNatClampNeg < 36)) := inA_of (by decide) sh_49
theorem iA_51 (i : Int32) : inA LF 51 0 i = (!(decide (i < 0)) && decide (i.toNatClampNeg < 36)) := inA_of (by decide) sh_51
theorem iA_52 (i : Int32) : inA LF 52 3 i = (!(decide (i < 0)) && decide (i.toNatClampNeg < 3)) := inA_of (by decide) sh_52
theorem iA_54 (i : Int32) : inA LF 54 0 i = (!(decide (i < 0)) && decide (i.toNatClampNeg < 36)) := inA_of (by decide) sh_54
theorem iA_56 (i : Int32) : inA LF 56 0 i = (!(decide (i < 0)) && decide (i.toNatClampNeg < 36)) := inA_of (by decide) sh_56
theorem iA_58 (i : Int32) : inA LF 58 0 i = (!(decide (i < 0)) && decide (i.toNatClampNeg < 36)) := inA_of (by decide) sh_58
theorem iA_59 (i : Int32) : inA LF 59 0 i = (!(decide (i < 0)) && decide (i.toNatClampNeg < 1000)) := inA_of (by decide) sh_59
theorem iA_60 (i : Int32) : inA LF 60 0 i = (!(decide (i < 0)) && decide (i.toNatClampNeg < 36)) := inA_of (by decide) sh_60
theorem iA_61 (i : Int32) : inA LF 61 1 i = (!(decide (i < 0)) && decide (i.toNatClampNeg < 36)) := inA_of (by decide) sh_61
theorem iA_62 (i : Int32) : inA LF 62 1 i = (!(decide (i < 0)) && decide (i.toNatClampNeg < 36)) := inA_of (by decide) sh_62
theorem iA_64 (i : Int32) : inA LF 64 0 i = (!(decide (i < 0)) && decide (i.toNatClampNeg < 36)) := inA_of (by decide) sh_64
theorem iA_66 (i : Int32) : inA LF 66 0 i = (!(decide (i < 0)) && decide (i.toNatClampNeg < 36)) := inA_of (by decide) sh_66
theorem iA_68 (i : Int32) : inA LF 68 0 i = (!(decide (i < 0)) && decide (i.toNatClampNeg < 40)) := inA_of (by decide) sh_68
theorem iA_69 (i : Int32) : inA LF 69 0 i = (!(decide (i < 0)) && decide (i.toNatClampNeg < 40)) := inA_of (by decide) sh_69
theorem iA_71 (i : Int32) : inA LF 71 0 i = (!(decide (i < 0)) && decide (i.toNatClampNeg < 40)) := inA_of (by decide) sh_71
theorem iA_72 (i : Int32) : inA LF 72 0 i = (!(decide (i < 0)) && decide (i.toNatClampNeg < 40)) := inA_of (by decide) sh_72
theorem iA_74 (i : Int32) : inA LF 74 1 i = (!(decide (i < 0)) && decide (i.toNatClampNeg < 48)) := inA_of (by decide) sh_74
theorem iA_75 (i : Int32) : inA LF 75 0 i = (!(decide (i < 0)) && decide (i.toNatClampNeg < 36)) := inA_of (by decide) sh_75
theorem iA_76 (i : Int32) : inA LF 76 0 i = (!(decide (i < 0)) && decide (i.toNatClampNeg < 79)) := inA_of (by decide) sh_76
theorem iA_77 (i : Int32) : inA LF 77 0 i = (!(decide (i < 0)) && decide (i.toNatClampNeg < 79)) := inA_of (by decide) sh_77
theorem iA_78 (i : Int32) : inA LF 78 0 i = (!(decide (i < 0)) && decide (i.toNatClampNeg < 80)) := inA_of (by decide) sh_78
theorem iA_79 (i : Int32) : inA LF 79 0 i = (!(decide (i < 0)) && decide (i.toNatClampNeg < 36)) := inA_of (by decide) sh_79
theorem iA_80 (i : Int32) : inA LF 80 0 i = (!(decide (i < 0)) && decide (i.toNatClampNeg < 80)) := inA_of (by decide) sh_80
theorem iA_81 (i : Int32) : inA LF 81 0 i = (!(decide (i < 0)) && decide (i.toNatClampNeg < 80)) := inA_of (by decide) sh_81
theorem iA_82 (i : Int32) : inA LF 82 0 i = (!(decide (i < 0)) && decide (i.toNatClampNeg < 80)) := inA_of (by decide) sh_82
theorem iA_83 (i : Int32) : inA LF 83 0 i = (!(decide (i < 0)) && decide (i.toNatClampNeg < 5)) := inA_of (by decide) sh_83
theorem iA_84 (i : Int32) : inA LF 84 0 i = (!(decide (i < 0)) && decide (i.toNatClampNeg < 1264)) := inA_of (by decide) sh_84
theorem iA_85 (i : Int32) : inA LF 85 0 i = (!(decide (i < 0)) && decide (i.toNatClampNeg < 60)) := inA_of (by decide) sh_85
theorem iA_86 (i : Int32) : inA LF 86 0 i = (!(decide (i < 0)) && decide (i.toNatClampNeg < 60)) := inA_of (by decide) sh_86
theorem iA_87 (i : Int32) : inA LF 87 0 i = (!(decide (i < 0)) && decide (i.toNatClampNeg < 36)) := inA_of (by decide) sh_87
theorem iA_88 (i : Int32) : inA LF 88 0 i = (!(decide (i < 0)) && decide (i.toNatClampNeg < 36)) := inA_of (by decide) sh_88
theorem iA_89 (i : Int32) : inA LF 89 0 i = (!(decide (i < 0)) && decide (i.toNatClampNeg < 6)) := inA_of (by decide) sh_89
theorem iA_90 (i : Int32) : inA LF 90 0 i = (!(decide (i < 0)) && decide (i.toNatClampNeg < 6)) := inA_of (by decide) sh_90
theorem iA_91 (i : Int32) : inA LF 91 0 i = (!(decide (i < 0)) && decide (i.toNatClampNeg < 12)) := inA_of (by decide) sh_91
theorem iA_92 (i : Int32) : inA LF 92 2 i = (!(decide (i < 0)) && decide (i.toNatClampNeg < 144)) := inA_of (by decide) sh_92
theorem iA_93 (i : Int32) : inA LF 93 2 i = (!(decide (i < 0)) && decide (i.toNatClampNeg < 144)) := inA_of (by decide) sh_93
theorem iA_94 (i : Int32) : inA LF 94 1 i = (!(decide (i < 0)) && decide (i.toNatClampNeg < 36)) := inA_of (by decide) sh_94
theorem iA_95 (i : Int32) : inA LF 95 1 i = (!(decide (i < 0)) && decide (i.toNatClampNeg < 36)) := inA_of (by decide) sh_95
theorem iA_96 (i : Int32) : inA LF 96 0 i = (!(decide (i < 0)) && decide (i.toNatClampNeg < 1000)) := inA_of (by decide) sh_96
theorem iA_97 (i : Int32) : inA LF 97 2 i = (!(decide (i < 0)) && decide (i.toNatClampNeg < 3)) := inA_of (by decide) sh_97
theorem iA_98 (i : Int32) : inA LF 98 0 i = (!(decide (i < 0)) && decide (i.toNatClampNeg < 237)) := inA_of (by decide) sh_98
theorem iA_99 (i : Int32) : inA LF 99 1 i = (!(decide (i < 0)) && decide (i.toNatClampNeg < 1)) := inA_of (by decide) sh_99
def rTab : List (Nat × Nat × Nat) := [(0, 0, 1), (0, 1, 3), (0, 2, 5), (0, 3, 6), (0, 4, 38), (0, 5, 40), (0, 6, 43), (0, 7, 46), (0, 8, 48), (0, 9, 50), (0, 10, 52), (0, 11, 59), (0, 12, 60), (0, 13, 61), (0, 14, 62), (1, 0, 2), (3, 0, 4), (6, 0, 7), (7, 0, 8), (8, 0, 9), (7, 1, 10), (10, 0, 11), (7, 2, 12), (12, 0, 13), (7, 3, 14), (14, 0, 15), (7, 4, 16), (16, 0, 17), (7, 5, 18), (18, 0, 19), (7, 6, 20), (20, 0, 21), (7, 7, 22), (22, 0, 23), (7, 8, 24), (24, 0, 25), (7, 9, 26), (26, 0, 27), (7, 10, 28), (28, 0, 29), (7, 11, 30), (30, 0, 31), (7, 12, 32), (32, 0, 33), (7, 13, 34), (34, 0, 35), (7, 14, 36), (36, 0, 37), (38, 0, 39), (40, 0, 41), (40, 1, 42), (43, 0, 44), (43, 1, 45), (46, 0, 47), (48, 0, 49), (50, 0, 51), (53, 0, 54), (55, 0, 56), (57, 0, 58), (52, 0, 53), (52, 1, 55), (52, 2, 57), (63, 0, 64), (65, 0, 66), (67, 0, 68), (67, 1, 69), (70, 0, 71), (70, 1, 72), (73, 2, 74), (73, 6, 75), (73, 7, 76), (73, 8, 77), (73, 9, 78), (73, 14, 79), (73, 17, 80), (73, 18, 81), (73, 21, 82), (73, 22, 83), (73, 25, 84), (73, 26, 85), (73, 27, 86), (73, 30, 87), (73, 31, 88), (73, 32, 89), (73, 33, 90), (73, 37, 91), (73, 38, 92), (73, 39, 93), (73, 40, 94), (73, 41, 95), (73, 42, 96), (73, 44, 97), (73, 45, 98)]
def RefsOK (h : eH) : Prop := ∀ q ∈ rTab, gR h q.1 q.2.1 = some q.2.2
theorem r_0_0 {h : eH} (hR : RefsOK h) : gR h 0 0 = some 1 := hR (0, 0, 1) (List.mem_of_getElem? (i := 0) rfl)
theorem r_0_1 {h : eH} (hR : RefsOK h) : gR h 0 1 = some 3 := hR (0, 1, 3) (List.mem_of_getElem? (i := 1) rfl)
theorem r_0_2 {h : eH} (hR : RefsOK h) : gR h 0 2 = some 5 := hR (0, 2, 5) (List.mem_of_getElem? (i := 2) rfl)
theorem r_0_3 {h : eH} (hR : RefsOK h) : gR h 0 3 = some 6 := hR (0, 3, 6) (List.mem_of_getElem? (i := 3) rfl)
theorem r_0_4 {h : eH} (hR : RefsOK h) : gR h 0 4 = some 38 := hR (0, 4, 38) (List.mem_of_getElem? (i := 4) rfl)
theorem r_0_5 {h : eH} (hR : RefsOK h) : gR h 0 5 = some 40 := hR (0, 5, 40) (List.mem_of_getElem? (i := 5) rfl)
theorem r_0_6 {h : eH} (hR : RefsOK h) : gR h 0 6 = some 43 := hR (0, 6, 43) (List.mem_of_getElem? (i := 6) rfl)
theorem r_0_7 {h : eH} (hR : RefsOK h) : gR h 0 7 = some 46 := hR (0, 7, 46) (List.mem_of_getElem? (i := 7) rfl)
theorem r_0_8 {h : eH} (hR : RefsOK h) : gR h 0 8 = some 48 := hR (0, 8, 48) (List.mem_of_getElem? (i := 8) rfl)
theorem r_0_9 {h : eH} (hR : RefsOK h) : gR h 0 9 = some 50 := hR (0, 9, 50) (List.mem_of_getElem? (i := 9) rfl)
theorem r_0_10 {h : eH} (hR : RefsOK h) : gR h 0 10 = some 52 := hR (0, 10, 52) (List.mem_of_getElem? (i := 10) rfl)
theorem r_0_11 {h : eH} (hR : RefsOK h) : gR h 0 11 = some 59 := hR (0, 11, 59) (List.mem_of_getElem? (i := 11) rfl)
theorem r_0_12 {h : eH} (hR : RefsOK h) : gR h 0 12 = some 60 := hR (0, 12, 60) (List.mem_of_getElem? (i := 12) rfl)
theorem r_0_13 {h : eH} (hR : RefsOK h) : gR h 0 13 = some 61 := hR (0, 13, 61) (List.mem_of_getElem? (i := 13) rfl)
theorem r_0_14 {h : eH} (hR : RefsOK h) : gR h 0 14 = some 62 := hR (0, 14, 62) (List.mem_of_getElem? (i := 14) rfl)
theorem r_1_0 {h : eH} (hR : RefsOK h) : gR h 1 0 = some 2 := hR (1, 0, 2) (List.mem_of_getElem? (i := 15) rfl)
theorem r_3_0 {h : eH} (hR : RefsOK h) : gR h 3 0 = some 4 := hR (3, 0, 4) (List.mem_of_getElem? (i := 16) rfl)
theorem r_6_0 {h : eH} (hR : RefsOK h) : gR h 6 0 = some 7 := hR (6, 0, 7) (List.mem_of_getElem? (i := 17) rfl)
theorem r_7_0 {h : eH} (hR : RefsOK h) : gR h 7 0 = some 8 := hR (7, 0, 8) (List.mem_of_getElem? (i := 18) rfl)
theorem r_8_0 {h : eH} (hR : RefsOK h) : gR h 8 0 = some 9 := hR (8, 0, 9) (List.mem_of_getElem? (i := 19) rfl)
theorem r_7_1 {h : eH} (hR : RefsOK h) : gR h 7 1 = some 10 := hR (7, 1, 10) (List.mem_of_getElem? (i := 20) rfl)
theorem r_10_0 {h : eH} (hR : RefsOK h) : gR h 10 0 = some 11 := hR (10, 0, 11) (List.mem_of_getElem? (i := 21) rfl)
theorem r_7_2 {h : eH} (hR : RefsOK h) : gR h 7 2 = some 12 := hR (7, 2, 12) (List.mem_of_getElem? (i := 22) rfl)
theorem r_12_0 {h : eH} (hR : RefsOK h) : gR h 12 0 = some 13 := hR (12, 0, 13) (List.mem_of_getElem? (i := 23) rfl)
theorem r_7_3 {h : eH} (hR : RefsOK h) : gR h 7 3 = some 14 := hR (7, 3, 14) (List.mem_of_getElem? (i := 24) rfl)
theorem r_14_0 {h : eH} (hR : RefsOK h) : gR h 14 0 = some 15 := hR (14, 0, 15) (List.mem_of_getElem? (i := 25) rfl)
theorem r_7_4 {h : eH} (hR : RefsOK h) : gR h 7 4 = some 16 := hR (7, 4, 16) (List.mem_of_getElem? (i := 26) rfl)
theorem r_16_0 {h : eH} (hR : RefsOK h) : gR h 16 0 = some 17 := hR (16, 0, 17) (List.mem_of_getElem? (i := 27) rfl)
theorem r_7_5 {h : eH} (hR : RefsOK h) : gR h 7 5 = some 18 := hR (7, 5, 18) (List.mem_of_getElem? (i := 28) rfl)
theorem r_18_0 {h : eH} (hR : RefsOK h) : gR h 18 0 = some 19 := hR (18, 0, 19) (List.mem_of_getElem? (i := 29) rfl)
theorem r_7_6 {h : eH} (hR : RefsOK h) : gR h 7 6 = some 20 := hR (7, 6, 20) (List.mem_of_getElem? (i := 30) rfl)
theorem r_20_0 {h : eH} (hR : RefsOK h) : gR h 20 0 = some 21 := hR (20, 0, 21) (List.mem_of_getElem? (i := 31) rfl)
theorem r_7_7 {h : eH} (hR : RefsOK h) : gR h 7 7 = some 22 := hR (7, 7, 22) (List.mem_of_getElem? (i := 32) rfl)
theorem r_22_0 {h : eH} (hR : RefsOK h) : gR h 22 0 = some 23 := hR (22, 0, 23) (List.mem_of_getElem? (i := 33) rfl)
theorem r_7_8 {h : eH} (hR : RefsOK h) : gR h 7 8 = some 24 := hR (7, 8, 24) (List.mem_of_getElem? (i := 34) rfl)
theorem r_24_0 {h : eH} (hR : RefsOK h) : gR h 24 0 = some 25 := hR (24, 0, 25) (List.mem_of_getElem? (i := 35) rfl)
theorem r_7_9 {h : eH} (hR : RefsOK h) : gR h 7 9 = some 26 := hR (7, 9, 26) (List.mem_of_getElem? (i := 36) rfl)
theorem r_26_0 {h : eH} (hR : RefsOK h) : gR h 26 0 = some 27 := hR (26, 0, 27) (List.mem_of_getElem? (i := 37) rfl)
theorem r_7_10 {h : eH} (hR : RefsOK h) : gR h 7 10 = some 28 := hR (7, 10, 28) (List.mem_of_getElem? (i := 38) rfl)
theorem r_28_0 {h : eH} (hR : RefsOK h) : gR h 28 0 = some 29 := hR (28, 0, 29) (List.mem_of_getElem? (i := 39) rfl)
theorem r_7_11 {h : eH} (hR : RefsOK h) : gR h 7 11 = some 30 := hR (7, 11, 30) (List.mem_of_getElem? (i := 40) rfl)
theorem r_30_0 {h : eH} (hR : RefsOK h) : gR h 30 0 = some 31 := hR (30, 0, 31) (List.mem_of_getElem? (i := 41) rfl)
theorem r_7_12 {h : eH} (hR : RefsOK h) : gR h 7 12 = some 32 := hR (7, 12, 32) (List.mem_of_getElem? (i := 42) rfl)
theorem r_32_0 {h : eH} (hR : RefsOK h) : gR h 32 0 = some 33 := hR (32, 0, 33) (List.mem_of_getElem? (i := 43) rfl)
theorem r_7_13 {h : eH} (hR : RefsOK h) : gR h 7 13 = some 34 := hR (7, 13, 34) (List.mem_of_getElem? (i := 44) rfl)
theorem r_34_0 {h : eH} (hR : RefsOK h) : gR h 34 0 = some 35 := hR (34, 0, 35) (List.mem_of_getElem? (i := 45) rfl)
theorem r_7_14 {h : eH} (hR : RefsOK h) : gR h 7 14 = some 36 := hR (7, 14, 36) (List.mem_of_getElem? (i := 46) rfl)
theorem r_36_0 {h : eH} (hR : RefsOK h) : gR h 36 0 = some 37 := hR (36, 0, 37) (List.mem_of_getElem? (i := 47) rfl)
theorem r_38_0 {h : eH} (hR : RefsOK h) : gR h 38 0 = some 39 := hR (38, 0, 39) (List.mem_of_getElem? (i := 48) rfl)
theorem r_40_0 {h : eH} (hR : RefsOK h) : gR h 40 0 = some 41 := hR (40, 0, 41) (List.mem_of_getElem? (i := 49) rfl)
theorem r_40_1 {h : eH} (hR : RefsOK h) : gR h 40 1 = some 42 := hR (40, 1, 42) (List.mem_of_getElem? (i := 50) rfl)
theorem r_43_0 {h : eH} (hR : RefsOK h) : gR h 43 0 = some 44 := hR (43, 0, 44) (List.mem_of_getElem? (i := 51) rfl)
theorem r_43_1 {h : eH} (hR : RefsOK h) : gR h 43 1 = some 45 := hR (43, 1, 45) (List.mem_of_getElem? (i := 52) rfl)
theorem r_46_0 {h : eH} (hR : RefsOK h) : gR h 46 0 = some 47 := hR (46, 0, 47) (List.mem_of_getElem? (i := 53) rfl)
theorem r_48_0 {h : eH} (hR : RefsOK h) : gR h 48 0 = some 49 := hR (48, 0, 49) (List.mem_of_getElem? (i := 54) rfl)
theorem r_50_0 {h : eH} (hR : RefsOK h) : gR h 50 0 = some 51 := hR (50, 0, 51) (List.mem_of_getElem? (i := 55) rfl)
theorem r_53_0 {h : eH} (hR : RefsOK h) : gR h 53 0 = some 54 := hR (53, 0, 54) (List.mem_of_getElem? (i := 56) rfl)
theorem r_55_0 {h : eH} (hR : RefsOK h) : gR h 55 0 = some 56 := hR (55, 0, 56) (List.mem_of_getElem? (i := 57) rfl)
theorem r_57_0 {h : eH} (hR : RefsOK h) : gR h 57 0 = some 58 := hR (57, 0, 58) (List.mem_of_getElem? (i := 58) rfl)
theorem r_52_0 {h : eH} (hR : RefsOK h) : gR h 52 0 = some 53 := hR (52, 0, 53) (List.mem_of_getElem? (i := 59) rfl)
theorem r_52_1 {h : eH} (hR : RefsOK h) : gR h 52 1 = some 55 := hR (52, 1, 55) (List.mem_of_getElem? (i := 60) rfl)
theorem r_52_2 {h : eH} (hR : RefsOK h) : gR h 52 2 = some 57 := hR (52, 2, 57) (List.mem_of_getElem? (i := 61) rfl)
theorem r_63_0 {h : eH} (hR : RefsOK h) : gR h 63 0 = some 64 := hR (63, 0, 64) (List.mem_of_getElem? (i := 62) rfl)
theorem r_65_0 {h : eH} (hR : RefsOK h) : gR h 65 0 = some 66 := hR (65, 0, 66) (List.mem_of_getElem? (i := 63) rfl)
theorem r_67_0 {h : eH} (hR : RefsOK h) : gR h 67 0 = some 68 := hR (67, 0, 68) (List.mem_of_getElem? (i := 64) rfl)
theorem r_67_1 {h : eH} (hR : RefsOK h) : gR h 67 1 = some 69 := hR (67, 1, 69) (List.mem_of_getElem? (i := 65) rfl)
theorem r_70_0 {h : eH} (hR : RefsOK h) : gR h 70 0 = some 71 := hR (70, 0, 71) (List.mem_of_getElem? (i := 66) rfl)
theorem r_70_1 {h : eH} (hR : RefsOK h) : gR h 70 1 = some 72 := hR (70, 1, 72) (List.mem_of_getElem? (i := 67) rfl)
theorem r_73_2 {h : eH} (hR : RefsOK h) : gR h 73 2 = some 74 := hR (73, 2, 74) (List.mem_of_getElem? (i := 68) rfl)
theorem r_73_6 {h : eH} (hR : RefsOK h) : gR h 73 6 = some 75 := hR (73, 6, 75) (List.mem_of_getElem? (i := 69) rfl)
theorem r_73_7 {h : eH} (hR : RefsOK h) : gR h 73 7 = some 76 := hR (73, 7, 76) (List.mem_of_getElem? (i := 70) rfl)
theorem r_73_8 {h : eH} (hR : RefsOK h) : gR h 73 8 = some 77 := hR (73, 8, 77) (List.mem_of_getElem? (i := 71) rfl)
theorem r_73_9 {h : eH} (hR : RefsOK h) : gR h 73 9 = some 78 := hR (73, 9, 78) (List.mem_of_getElem? (i := 72) rfl)
theorem r_73_14 {h : eH} (hR : RefsOK h) : gR h 73 14 = some 79 := hR (73, 14, 79) (List.mem_of_getElem? (i := 73) rfl)
theorem r_73_17 {h : eH} (hR : RefsOK h) : gR h 73 17 = some 80 := hR (73, 17, 80) (List.mem_of_getElem? (i := 74) rfl)
theorem r_73_18 {h : eH} (hR : RefsOK h) : gR h 73 18 = some 81 := hR (73, 18, 81) (List.mem_of_getElem? (i := 75) rfl)
theorem r_73_21 {h : eH} (hR : RefsOK h) : gR h 73 21 = some 82 := hR (73, 21, 82) (List.mem_of_getElem? (i := 76) rfl)
theorem r_73_22 {h : eH} (hR : RefsOK h) : gR h 73 22 = some 83 := hR (73, 22, 83) (List.mem_of_getElem? (i := 77) rfl)
theorem r_73_25 {h : eH} (hR : RefsOK h) : gR h 73 25 = some 84 := hR (73, 25, 84) (List.mem_of_getElem? (i := 78) rfl)
theorem r_73_26 {h : eH} (hR : RefsOK h) : gR h 73 26 = some 85 := hR (73, 26, 85) (List.mem_of_getElem? (i := 79) rfl)
theorem r_73_27 {h : eH} (hR : RefsOK h) : gR h 73 27 = some 86 := hR (73, 27, 86) (List.mem_of_getElem? (i := 80) rfl)
theorem r_73_30 {h : eH} (hR : RefsOK h) : gR h 73 30 = some 87 := hR (73, 30, 87) (List.mem_of_getElem? (i := 81) rfl)
theorem r_73_31 {h : eH} (hR : RefsOK h) : gR h 73 31 = some 88 := hR (73, 31, 88) (List.mem_of_getElem? (i := 82) rfl)
theorem r_73_32 {h : eH} (hR : RefsOK h) : gR h 73 32 = some 89 := hR (73, 32, 89) (List.mem_of_getElem? (i := 83) rfl)
theorem r_73_33 {h : eH} (hR : RefsOK h) : gR h 73 33 = some 90 := hR (73, 33, 90) (List.mem_of_getElem? (i := 84) rfl)
theorem r_73_37 {h : eH} (hR : RefsOK h) : gR h 73 37 = some 91 := hR (73, 37, 91) (List.mem_of_getElem? (i := 85) rfl)
theorem r_73_38 {h : eH} (hR : RefsOK h) : gR h 73 38 = some 92 := hR (73, 38, 92) (List.mem_of_getElem? (i := 86) rfl)
theorem r_73_39 {h : eH} (hR : RefsOK h) : gR h 73 39 = some 93 := hR (73, 39, 93) (List.mem_of_getElem? (i := 87) rfl)
theorem r_73_40 {h : eH} (hR : RefsOK h) : gR h 73 40 = some 94 := hR (73, 40, 94) (List.mem_of_getElem? (i := 88) rfl)
theorem r_73_41 {h : eH} (hR : RefsOK h) : gR h 73 41 = some 95 := hR (73, 41, 95) (List.mem_of_getElem? (i := 89) rfl)
theorem r_73_42 {h : eH} (hR : RefsOK h) : gR h 73 42 = some 96 := hR (73, 42, 96) (List.mem_of_getElem? (i := 90) rfl)
theorem r_73_44 {h : eH} (hR : RefsOK h) : gR h 73 44 = some 97 := hR (73, 44, 97) (List.mem_of_getElem? (i := 91) rfl)
theorem r_73_45 {h : eH} (hR : RefsOK h) : gR h 73 45 = some 98 := hR (73, 45, 98) (List.mem_of_getElem? (i := 92) rfl)
theorem gI_sI {h : eH} {i k j q : Nat} {v : Int32} : gI (sI h i k v) j q = if j = i ∧ q = k then v else gI h j q := rfl
theorem gI_sL {h : eH} {i k j q : Nat} {v : Int64} : gI (sL h i k v) j q = gI h j q := rfl
theorem gI_sR {h : eH} {i k j q : Nat} {v : Option Nat} : gI (sR h i k v) j q = gI h j q := rfl
theorem gL_sI {h : eH} {i k j q : Nat} {v : Int32} : gL (sI h i k v) j q = gL h j q := rfl
theorem gL_sL {h : eH} {i k j q : Nat} {v : Int64} : gL (sL h i k v) j q = if j = i ∧ q = k then v else gL h j q := rfl
theorem gL_sR {h : eH} {i k j q : Nat} {v : Option Nat} : gL (sR h i k v) j q = gL h j q := rfl
theorem gR_sI {h : eH} {i k j q : Nat} {v : Int32} : gR (sI h i k v) j q = gR h j q := rfl
theorem gR_sL {h : eH} {i k j q : Nat} {v : Int64} : gR (sL h i k v) j q = gR h j q := rfl
theorem gR_sR {h : eH} {i k j q : Nat} {v : Option Nat} : gR (sR h i k v) j q = if j = i ∧ q = k then v else gR h j q := rfl
theorem refs_sI {h : eH} {i k : Nat} {v : Int32} (hR : RefsOK h) : RefsOK (sI h i k v) := hR
theorem refs_sL {h : eH} {i k : Nat} {v : Int64} (hR : RefsOK h) : RefsOK (sL h i k v) := hR
theorem refs_sR {h : eH} {i k : Nat} {v : Option Nat} (hn : (i, k) ∉ rTab.map (fun q => (q.1, q.2.1))) (hR : RefsOK h) : RefsOK (sR h i k v) := by
  intro q hq
  rw [gR_sR, if_neg]
  · exact hR q hq
  · rintro ⟨h1, h2⟩
    exact hn (List.mem_map.mpr ⟨q, hq, by rw [h1, h2]⟩)
theorem refs_start : RefsOK wH169 := by
  have h : rTab.all (fun q => decide (gR wH169 q.1 q.2.1 = some q.2.2)) = true := by decide +kernel
  intro q hq
  simpa using List.all_eq_true.mp h q hq

/-! shapes of the two worlds, links, rooms: by program -/
def LX : List mv_L := [(0, 8, [3, 12, 31, 43, 54, 58, 60, 111, 114, 0, 0]), (0, 7, [0, 0, 0, 4, 5, 6, 7, 8, 9, 10, 11]), (1, 8, []), (1, 8, []), (1, 12, []), (1, 12, []), (1, 12, []), (1, 12, []), (1, 12, []), (1, 12, []), (4, 2, [11, 12]), (0, 7, [0, 0, 0, 15, 16, 17, 18, 19, 20, 21, 22]), (0, 7, [0, 0, 0, 23, 24, 25, 26, 27, 28, 29, 30]), (1, 8, []), (1, 8, []), (1, 12, []), (1, 12, []), (1, 12, []), (1, 12, []), (1, 12, []), (1, 12, []), (1, 8, []), (1, 8, []), (1, 12, []), (1, 12, []), (1, 12, []), (1, 12, []), (1, 12, []), (1, 12, []), (0, 5, [32, 41, 42]), (5, 8, [31, 32, 33, 34, 35, 36, 37, 38]), (1, 40, []), (1, 40, []), (1, 40, []), (1, 40, []), (1, 40, []), (1, 40, []), (1, 40, []), (1, 40, []), (1, 8, []), (1, 8, []), (0, 4, [44, 0, 45, 0, 0]), (1, 140, []), (0, 7, [0, 0, 0, 46, 47, 48, 49, 50, 51, 52, 53]), (1, 8, []), (1, 8, []), (1, 12, []), (1, 12, []), (1, 12, []), (1, 12, []), (1, 12, []), (1, 12, []), (0, 0, [55, 56, 57, 0]), (1, 24, []), (1, 24, []), (1, 24, []), (0, 3, [3, 59]), (1, 8, []), (0, 2, [3, 0, 61, 74, 83, 109, 0, 110, 1]), (6, 12, [60, 61, 62, 63, 64, 65, 66, 67, 68, 69, 70, 71]), (2, 25, []), (2, 25, []), (2, 25, []), (2, 25, []), (2, 25, []), (2, 25, []), (2, 25, []), (2, 25, []), (2, 25, []), (2, 25, []), (2, 25, []), (2, 25, []), (6, 8, [73, 74, 75, 76, 77, 78, 79, 80]), (2, 25, []), (2, 25, []), (2, 25, []), (2, 25, []), (2, 25, []), (2, 25, []), (2, 25, []), (2, 25, []), (6, 25, [82, 83, 84, 85, 86, 87, 88, 89, 90, 91, 92, 93, 94, 95, 96, 97, 98, 99, 100, 101, 102, 103, 104, 105, 106]), (2, 25, []), (2, 25, []), (2, 25, []), (2, 25, []), (2, 25, []), (2, 25, []), (2, 25, []), (2, 25, []), (2, 25, []), (2, 25, []), (2, 25, []), (2, 25, []), (2, 25, []), (2, 25, []), (2, 25, []), (2, 25, []), (2, 25, []), (2, 25, []), (2, 25, []), (2, 25, []), (2, 25, []), (2, 25, []), (2, 25, []), (2, 25, []), (2, 25, []), (1, 25, []), (1, 24, []), (0, 6, [3, 31, 112, 0, 113]), (1, 24, []), (1, 26, []), (0, 1, [3, 115, 0]), (1, 16, [])]
theorem lx_0 : LX[0]? = some (0, 8, [3, 12, 31, 43, 54, 58, 60, 111, 114, 0, 0]) := by decide +kernel
theorem lx_1 : LX[1]? = some (0, 7, [0, 0, 0, 4, 5, 6, 7, 8, 9, 10, 11]) := by decide +kernel
theorem lx_2 : LX[2]? = some (1, 8, []) := by decide +kernel
theorem lx_3 : LX[3]? = some (1, 8, []) := by decide +kernel
theorem lx_4 : LX[4]? = some (1, 12, []) := by decide +kernel
theorem lx_5 : LX[5]? = some (1, 12, []) := by decide +kernel
theorem lx_6 : LX[6]? = some (1, 12, []) := by decide +kernel
theorem lx_7 : LX[7]? = some (1, 12, []) := by decide +kernel
theorem lx_8 : LX[8]? = some (1, 12, []) := by decide +kernel
theorem lx_9 : LX[9]? = some (1, 12, []) := by decide +kernel
theorem lx_10 : LX[10]? = some (4, 2, [11, 12]) := by decide +kernel
theorem lx_11 : LX[11]? = some (0, 7, [0, 0, 0, 15, 16, 17, 18, 19, 20, 21, 22]) := by decide +kernel
theorem lx_12 : LX[12]? = some (0, 7, [0, 0, 0, 23, 24, 25, 26, 27, 28, 29, 30]) := by decide +kernel
theorem lx_13 : LX[13]? = some (1, 8, []) := by decide +kernel
theorem lx_14 : LX[14]? = some (1, 8, []) := by decide +kernel
theorem lx_15 : LX[15]? = some (1, 12, []) := by decide +kernel
theorem lx_16 : LX[16]? = some (1, 12, []) := by decide +kernel
theorem lx_17 : LX[17]? = some (1, 12, []) := by decide +kernel
theorem lx_18 : LX[18]? = some (1, 12, []) := by decide +kernel
theorem lx_19 : LX[19]? = some (1, 12, []) := by decide +kernel
theorem lx_20 : LX[20]? = some (1, 12, []) := by decide +kernel
theorem lx_21 : LX[21]? = some (1, 8, []) := by decide +kernel
theorem lx_22 : LX[22]? = some (1, 8, []) := by decide +kernel
theorem lx_23 : LX[23]? = some (1, 12, []) := by decide +kernel
theorem lx_24 : LX[24]? = some (1, 12, []) := by decide +kernel
theorem lx_25 : LX[25]? = some (1, 12, []) := by decide +kernel
theorem lx_26 : LX[26]? = some (1, 12, []) := by decide +kernel
theorem lx_27 : LX[27]? = some (1, 12, []) := by decide +kernel
theorem lx_28 : LX[28]? = some (1, 12, []) := by decide +kernel
theorem lx_29 : LX[29]? = some (0, 5, [32, 41, 42]) := by decide +kernel
theorem lx_30 : LX[30]? = some (5, 8, [31, 32, 33, 34, 35, 36, 37, 38]) := by decide +kernel
theorem lx_31 : LX[31]? = some (1, 40, []) := by decide +kernel
theorem lx_32 : LX[32]? = some (1, 40, []) := by decide +kernel
theorem lx_33 : LX[33]? = some (1, 40, []) := by decide +kernel
theorem lx_34 : LX[34]? = some (1, 40, []) := by decide +kernel
theorem lx_35 : LX[35]? = some (1, 40, []) := by decide +kernel
theorem lx_36 : LX[36]? = some (1, 40, []) := by decide +kernel
theorem lx_37 : LX[37]? = some (1, 40, []) := by decide +kernel
theorem lx_38 : LX[38]? = some (1, 40, []) := by decide +kernel
theorem lx_39 : LX[39]? = some (1, 8, []) := by decide +kernel
theorem lx_40 : LX[40]? = some (1, 8, []) := by decide +kernel
theorem lx_41 : LX[41]? = some (0, 4, [44, 0, 45, 0, 0]) := by decide +kernel
theorem lx_42 : LX[42]? = some (1, 140, []) := by decide +kernel
theorem lx_43 : LX[43]? = some (0, 7, [0, 0, 0, 46, 47, 48, 49, 50, 51, 52, 53]) := by decide +kernel
theorem lx_44 : LX[44]? = some (1, 8, []) := by decide +kernel
theorem lx_45 : LX[45]? = some (1, 8, []) := by decide +kernel
theorem lx_46 : LX[46]? = some (1, 12, []) := by decide +kernel
theorem lx_47 : LX[47]? = some (1, 12, []) := by decide +kernel
theorem lx_48 : LX[48]? = some (1, 12, []) := by decide +kernel
theorem lx_49 : LX[49]? = some (1, 12, []) := by decide +kernel
theorem lx_50 : LX[50]? = some (1, 12, []) := by decide +kernel
theorem lx_51 : LX[51]? = some (1, 12, []) := by decide +kernel
theorem lx_52 : LX[52]? = some (0, 0, [55, 56, 57, 0]) := by decide +kernel
theorem lx_53 : LX[53]? = some (1, 24, []) := by decide +kernel
theorem lx_54 : LX[54]? = some (1, 24, []) := by decide +kernel
theorem lx_55 : LX[55]? = some (1, 24, []) := by decide +kernel
theorem lx_56 : LX[56]? = some (0, 3, [3, 59]) := by decide +kernel
theorem lx_57 : LX[57]? = some (1, 8, []) := by decide +kernel
theorem lx_58 : LX[58]? = some (0, 2, [3, 0, 61, 74, 83, 109, 0, 110, 1]) := by decide +kernel
theorem lx_59 : LX[59]? = some (6, 12, [60, 61, 62, 63, 64, 65, 66, 67, 68, 69, 70, 71]) := by decide +kernel
theorem lx_60 : LX[60]? = some (2, 25, []) := by decide +kernel
theorem lx_61 : LX[61]? = some (2, 25, []) := by decide +kernel
theorem lx_62 : LX[62]? = some (2, 25, []) := by decide +kernel
theorem lx_63 : LX[63]? = some (2, 25, []) := by decide +kernel
theorem lx_64 : LX[64]? = some (2, 25, []) := by decide +kernel
theorem lx_65 : LX[65]? = some (2, 25, []) := by decide +kernel
theorem lx_66 : LX[66]? = some (2, 25, []) := by decide +kernel
theorem lx_67 : LX[67]? = some (2, 25, []) := by decide +kernel
theorem lx_68 : LX[68]? = some (2, 25, []) := by decide +kernel
theorem lx_69 : LX[69]? = some (2, 25, []) := by decide +kernel
theorem lx_70 : LX[70]? = some (2, 25, []) := by decide +kernel
theorem lx_71 : LX[71]? = some (2, 25, []) := by decide +kernel
theorem lx_72 : LX[72]? = some (6, 8, [73, 74, 75, 76, 77, 78, 79, 80]) := by decide +kernel
theorem lx_73 : LX[73]? = some (2, 25, []) := by decide +kernel
theorem lx_74 : LX[74]? = some (2, 25, []) := by decide +kernel
theorem lx_75 : LX[75]? = some (2, 25, []) := by decide +kernel
theorem lx_76 : LX[76]? = some (2, 25, []) := by decide +kernel
theorem lx_77 : LX[77]? = some (2, 25, []) := by decide +kernel
theorem lx_78 : LX[78]? = some (2, 25, []) := by decide +kernel
theorem lx_79 : LX[79]? = some (2, 25, []) := by decide +kernel
theorem lx_80 : LX[80]? = some (2, 25, []) := by decide +kernel
theorem lx_81 : LX[81]? = some (6, 25, [82, 83, 84, 85, 86, 87, 88, 89, 90, 91, 92, 93, 94, 95, 96, 97, 98, 99, 100, 101, 102, 103, 104, 105, 106]) := by decide +kernel
theorem lx_82 : LX[82]? = some (2, 25, []) := by decide +kernel
theorem lx_83 : LX[83]? = some (2, 25, []) := by decide +kernel
theorem lx_84 : LX[84]? = some (2, 25, []) := by decide +kernel
theorem lx_85 : LX[85]? = some (2, 25, []) := by decide +kernel
theorem lx_86 : LX[86]? = some (2, 25, []) := by decide +kernel
theorem lx_87 : LX[87]? = some (2, 25, []) := by decide +kernel
theorem lx_88 : LX[88]? = some (2, 25, []) := by decide +kernel
theorem lx_89 : LX[89]? = some (2, 25, []) := by decide +kernel
theorem lx_90 : LX[90]? = some (2, 25, []) := by decide +kernel
theorem lx_91 : LX[91]? = some (2, 25, []) := by decide +kernel
theorem lx_92 : LX[92]? = some (2, 25, []) := by decide +kernel
theorem lx_93 : LX[93]? = some (2, 25, []) := by decide +kernel
theorem lx_94 : LX[94]? = some (2, 25, []) := by decide +kernel
theorem lx_95 : LX[95]? = some (2, 25, []) := by decide +kernel
theorem lx_96 : LX[96]? = some (2, 25, []) := by decide +kernel
theorem lx_97 : LX[97]? = some (2, 25, []) := by decide +kernel
theorem lx_98 : LX[98]? = some (2, 25, []) := by decide +kernel
theorem lx_99 : LX[99]? = some (2, 25, []) := by decide +kernel
theorem lx_100 : LX[100]? = some (2, 25, []) := by decide +kernel
theorem lx_101 : LX[101]? = some (2, 25, []) := by decide +kernel
theorem lx_102 : LX[102]? = some (2, 25, []) := by decide +kernel
theorem lx_103 : LX[103]? = some (2, 25, []) := by decide +kernel
theorem lx_104 : LX[104]? = some (2, 25, []) := by decide +kernel
theorem lx_105 : LX[105]? = some (2, 25, []) := by decide +kernel
theorem lx_106 : LX[106]? = some (2, 25, []) := by decide +kernel
theorem lx_107 : LX[107]? = some (1, 25, []) := by decide +kernel
theorem lx_108 : LX[108]? = some (1, 24, []) := by decide +kernel
theorem lx_109 : LX[109]? = some (0, 6, [3, 31, 112, 0, 113]) := by decide +kernel
theorem lx_110 : LX[110]? = some (1, 24, []) := by decide +kernel
theorem lx_111 : LX[111]? = some (1, 26, []) := by decide +kernel
theorem lx_112 : LX[112]? = some (0, 1, [3, 115, 0]) := by decide +kernel
theorem lx_113 : LX[113]? = some (1, 16, []) := by decide +kernel
theorem lxr_31 : ∀ q : Nat, q < 8 → LX[31 + q]? = some (1, 40, []) := by decide +kernel
theorem lxr_60 : ∀ q : Nat, q < 12 → LX[60 + q]? = some (2, 25, []) := by decide +kernel
theorem lxr_73 : ∀ q : Nat, q < 8 → LX[73 + q]? = some (2, 25, []) := by decide +kernel
theorem lxr_82 : ∀ q : Nat, q < 25 → LX[82 + q]? = some (2, 25, []) := by decide +kernel
def LM : List mv_L := [(0, 9, [3, 0, 4, 0, 0, 0, 5, 6, 7, 8, 0, 0, 0, 9, 10, 0, 11, 12, 0, 0, 13, 14, 0]), (1, 2324, []), (1, 140, []), (1, 8, []), (1, 8, []), (1, 320, []), (1, 40, []), (2, 200, []), (1, 64, []), (2, 1650, []), (1, 64, []), (3, 2, []), (1, 16, [])]
theorem lm_0 : LM[0]? = some (0, 9, [3, 0, 4, 0, 0, 0, 5, 6, 7, 8, 0, 0, 0, 9, 10, 0, 11, 12, 0, 0, 13, 14, 0]) := by decide +kernel
theorem lm_1 : LM[1]? = some (1, 2324, []) := by decide +kernel
theorem lm_2 : LM[2]? = some (1, 140, []) := by decide +kernel
theorem lm_3 : LM[3]? = some (1, 8, []) := by decide +kernel
theorem lm_4 : LM[4]? = some (1, 8, []) := by decide +kernel
theorem lm_5 : LM[5]? = some (1, 320, []) := by decide +kernel
theorem lm_6 : LM[6]? = some (1, 40, []) := by decide +kernel
theorem lm_7 : LM[7]? = some (2, 200, []) := by decide +kernel
theorem lm_8 : LM[8]? = some (1, 64, []) := by decide +kernel
theorem lm_9 : LM[9]? = some (2, 1650, []) := by decide +kernel
theorem lm_10 : LM[10]? = some (1, 64, []) := by decide +kernel
theorem lm_11 : LM[11]? = some (3, 2, []) := by decide +kernel
theorem lm_12 : LM[12]? = some (1, 16, []) := by decide +kernel
theorem kcb8 : (Int8.ofInt (8)).toInt32 = (8 : Int32) := by decide +kernel
theorem kcb9 : (Int8.ofInt (9)).toInt32 = (9 : Int32) := by decide +kernel
theorem kcb10 : (Int8.ofInt (10)).toInt32 = (10 : Int32) := by decide +kernel
theorem kcb11 : (Int8.ofInt (11)).toInt32 = (11 : Int32) := by decide +kernel
theorem kcb12 : (Int8.ofInt (12)).toInt32 = (12 : Int32) := by decide +kernel
theorem kcb13 : (Int8.ofInt (13)).toInt32 = (13 : Int32) := by decide +kernel
theorem kcb14 : (Int8.ofInt (14)).toInt32 = (14 : Int32) := by decide +kernel
theorem kcb16 : (Int8.ofInt (16)).toInt32 = (16 : Int32) := by decide +kernel
theorem kcb20 : (Int8.ofInt (20)).toInt32 = (20 : Int32) := by decide +kernel
theorem kcb21 : (Int8.ofInt (21)).toInt32 = (21 : Int32) := by decide +kernel
theorem kcb22 : (Int8.ofInt (22)).toInt32 = (22 : Int32) := by decide +kernel
theorem kcb23 : (Int8.ofInt (23)).toInt32 = (23 : Int32) := by decide +kernel
theorem kcb24 : (Int8.ofInt (24)).toInt32 = (24 : Int32) := by decide +kernel
theorem kcb25 : (Int8.ofInt (25)).toInt32 = (25 : Int32) := by decide +kernel
theorem kcb35 : (Int8.ofInt (35)).toInt32 = (35 : Int32) := by decide +kernel
theorem kcb40 : (Int8.ofInt (40)).toInt32 = (40 : Int32) := by decide +kernel
theorem kcb44 : (Int8.ofInt (44)).toInt32 = (44 : Int32) := by decide +kernel
theorem kcb47 : (Int8.ofInt (47)).toInt32 = (47 : Int32) := by decide +kernel
theorem kcb48 : (Int8.ofInt (48)).toInt32 = (48 : Int32) := by decide +kernel
theorem kcb57 : (Int8.ofInt (57)).toInt32 = (57 : Int32) := by decide +kernel
theorem kcb59 : (Int8.ofInt (59)).toInt32 = (59 : Int32) := by decide +kernel
theorem kcb60 : (Int8.ofInt (60)).toInt32 = (60 : Int32) := by decide +kernel
theorem kcb71 : (Int8.ofInt (71)).toInt32 = (71 : Int32) := by decide +kernel
theorem kcb83 : (Int8.ofInt (83)).toInt32 = (83 : Int32) := by decide +kernel
theorem kcb84 : (Int8.ofInt (84)).toInt32 = (84 : Int32) := by decide +kernel
theorem kcb86 : (Int8.ofInt (86)).toInt32 = (86 : Int32) := by decide +kernel
theorem kcb94 : (Int8.ofInt (94)).toInt32 = (94 : Int32) := by decide +kernel
theorem kcb99 : (Int8.ofInt (99)).toInt32 = (99 : Int32) := by decide +kernel
theorem kcb100 : (Int8.ofInt (100)).toInt32 = (100 : Int32) := by decide +kernel
theorem kcb102 : (Int8.ofInt (102)).toInt32 = (102 : Int32) := by decide +kernel
theorem kcb106 : (Int8.ofInt (106)).toInt32 = (106 : Int32) := by decide +kernel
theorem kcb108 : (Int8.ofInt (108)).toInt32 = (108 : Int32) := by decide +kernel
theorem kcb109 : (Int8.ofInt (109)).toInt32 = (109 : Int32) := by decide +kernel
theorem kcb111 : (Int8.ofInt (111)).toInt32 = (111 : Int32) := by decide +kernel
theorem kcb117 : (Int8.ofInt (117)).toInt32 = (117 : Int32) := by decide +kernel
theorem kcb118 : (Int8.ofInt (118)).toInt32 = (118 : Int32) := by decide +kernel
theorem kcb119 : (Int8.ofInt (119)).toInt32 = (119 : Int32) := by decide +kernel
theorem kcim1 : Int32.ofInt (-1) = (-1 : Int32) := by decide +kernel
theorem kci0 : Int32.ofInt (0) = (0 : Int32) := by decide +kernel
theorem kci1 : Int32.ofInt (1) = (1 : Int32) := by decide +kernel
theorem kci2 : Int32.ofInt (2) = (2 : Int32) := by decide +kernel
theorem kci3 : Int32.ofInt (3) = (3 : Int32) := by decide +kernel
theorem kci4 : Int32.ofInt (4) = (4 : Int32) := by decide +kernel
theorem kci5 : Int32.ofInt (5) = (5 : Int32) := by decide +kernel
theorem kcs130 : (Int16.ofInt (130)).toInt32 = (130 : Int32) := by decide +kernel
theorem kcs140 : (Int16.ofInt (140)).toInt32 = (140 : Int32) := by decide +kernel
theorem kcs142 : (Int16.ofInt (142)).toInt32 = (142 : Int32) := by decide +kernel
theorem kcs166 : (Int16.ofInt (166)).toInt32 = (166 : Int32) := by decide +kernel
theorem kcs200 : (Int16.ofInt (200)).toInt32 = (200 : Int32) := by decide +kernel
theorem kcs255 : (Int16.ofInt (255)).toInt32 = (255 : Int32) := by decide +kernel
theorem kcs332 : (Int16.ofInt (332)).toInt32 = (332 : Int32) := by decide +kernel
theorem kcs999 : (Int16.ofInt (999)).toInt32 = (999 : Int32) := by decide +kernel
theorem kcs1000 : (Int16.ofInt (1000)).toInt32 = (1000 : Int32) := by decide +kernel
theorem kcs1909 : (Int16.ofInt (1909)).toInt32 = (1909 : Int32) := by decide +kernel
theorem mv_ne {a v : Int32} {n : Int} (hv : v.toInt = n) (h : ¬ a = v) : a.toInt ≠ n := fun e => h (Int32.toInt_inj.mp (e.trans hv.symm))
theorem mv_aald2 {α : Type} {x : mv_X} {k : mv_S} {y : mv_Y} {ρ : α → Option Value × mv_M} {pc : Nat} {ls : List (Nat × Value)} {st : List Value} {M : mv_M} {G0 G1 : Option α} {i b t : Nat} {j : Int32} {fs : List Nat} (h : decode y.1 pc = .ok (.aaload, 1)) (hL : k.2.2.2[i]? = some (t + 4, 2, fs)) (ht : t < 3) (hb : ∀ q : Nat, q < 2 → fs[q]? = some (b + q)) (k0 : mv_V x k y ρ (pc + 1) ls (.ref (k.2.2.1 b) :: st) M G0) (k1 : mv_V x k y ρ (pc + 1) ls (.ref (k.2.2.1 (b + 1)) :: st) M G1) : mv_V x k y ρ pc ls (.int j :: .ref (k.2.2.1 i) :: st) M (mv_ob j 2 (if j = 0 then G0 else G1)) := by
  by_cases hj : j = 0
  · subst hj
    rw [if_pos rfl]
    exact mv_aald h hL ht hb (fun _ => k0)
  · rw [if_neg hj]
    intro hg r hr H locs lsA hP hS hl
    have hin := (mv_in hr).1
    have h1 : j.toNatClampNeg = 1 := by
      have hn0 : ¬ j < 0 := fun q => hin (Or.inl q)
      have hlt : j.toNatClampNeg < 2 := Nat.not_le.mp (fun q => hin (Or.inr q))
      obtain ⟨q, hq, rfl⟩ := nI_of hn0
      rw [nI_clamp hq] at hlt ⊢
      have h0 : q ≠ 0 := by
        rintro rfl
        exact hj nI_0
      omega
    exact mv_aald h hL ht hb (fun _ => by rw [h1]; exact k1) hg r hr H locs lsA hP hS hl
theorem mx_max : Cond.static Lib.Math.max.name ∈ mv_all ∧ Cond.initialized "java/lang/Math" ∈ mv_all ∧ Cond.code Lib.Math.max.name Lib.Math.max.code 2 (some .int) ∈ mv_all := ⟨swJ9_max_7cf53, nwJ9, cwJ9_max_7cf53⟩
theorem mx_min : Cond.static Lib.MathLoose.min_long.x ∈ mv_all ∧ Cond.initialized "java/lang/Math" ∈ mv_all ∧ Cond.code Lib.MathLoose.min_long.x Lib.MathLoose.min_long.code 4 (some .long) ∈ mv_all := ⟨swJ9_min_f86c9, nwJ9, cwJ9_min_f86c9⟩
theorem flX0_9 : mv_FL RX0 9 0 0 := ⟨RX0, TX0, 4, rfl, inmX0, by decide, Or.inl fwX0_9⟩
theorem flX0_13 : mv_FL RX0 13 0 1 := ⟨RX0, TX0, 4, rfl, inmX0, by decide, Or.inl fwX0_13⟩
theorem flX0_16 : mv_FL RX0 16 0 2 := ⟨RX0, TX0, 4, rfl, inmX0, by decide, Or.inl fwX0_16⟩
theorem flX0_19 : mv_FL RX0 19 0 3 := ⟨RX0, TX0, 4, rfl, inmX0, by decide, Or.inl fwX0_19⟩
theorem flX1_11 : mv_FL RX1 11 1 1 := ⟨RX1, TX1, 3, rfl, inmX1, by decide, Or.inl fwX1_11⟩
theorem flX1_15 : mv_FL RX1 15 1 0 := ⟨RX1, TX1, 3, rfl, inmX1, by decide, Or.inl fwX1_15⟩
theorem flX1_19 : mv_FL RX1 19 7 5 := ⟨RX7, TX7, 11, rfl, inmX7, by decide, Or.inr ⟨_, List.mem_of_getElem? fnX1_19⟩⟩
theorem flX1_63 : mv_FL RX1 63 7 7 := ⟨RX7, TX7, 11, rfl, inmX7, by decide, Or.inr ⟨_, List.mem_of_getElem? fnX1_63⟩⟩
theorem flX1_69 : mv_FL RX1 69 7 6 := ⟨RX7, TX7, 11, rfl, inmX7, by decide, Or.inr ⟨_, List.mem_of_getElem? fnX1_69⟩⟩
theorem flX1_72 : mv_FL RX1 72 1 2 := ⟨RX1, TX1, 3, rfl, inmX1, by decide, Or.inl fwX1_72⟩
theorem flX2_11 : mv_FL RX2 11 2 2 := ⟨RX2, TX2, 9, rfl, inmX2, by decide, Or.inl fwX2_11⟩
theorem flX2_16 : mv_FL RX2 16 2 3 := ⟨RX2, TX2, 9, rfl, inmX2, by decide, Or.inl fwX2_16⟩
theorem flX2_19 : mv_FL RX2 19 2 4 := ⟨RX2, TX2, 9, rfl, inmX2, by decide, Or.inl fwX2_19⟩
theorem flX2_22 : mv_FL RX2 22 2 5 := ⟨RX2, TX2, 9, rfl, inmX2, by decide, Or.inl fwX2_22⟩
theorem flX2_26 : mv_FL RX2 26 2 7 := ⟨RX2, TX2, 9, rfl, inmX2, by decide, Or.inl fwX2_26⟩
theorem flX2_29 : mv_FL RX2 29 2 0 := ⟨RX2, TX2, 9, rfl, inmX2, by decide, Or.inl fwX2_29⟩
theorem flX2_48 : mv_FL RX2 48 2 8 := ⟨RX2, TX2, 9, rfl, inmX2, by decide, Or.inl fwX2_48⟩
theorem flX2_53 : mv_FL RX2 53 2 6 := ⟨RX2, TX2, 9, rfl, inmX2, by decide, Or.inl fwX2_53⟩
theorem flX2_75 : mv_FL RX2 75 7 1 := ⟨RX7, TX7, 11, rfl, inmX7, by decide, Or.inr ⟨_, List.mem_of_getElem? fnX2_75⟩⟩
theorem flX2_94 : mv_FL RX2 94 7 8 := ⟨RX7, TX7, 11, rfl, inmX7, by decide, Or.inr ⟨_, List.mem_of_getElem? fnX2_94⟩⟩
theorem flX2_97 : mv_FL RX2 97 7 10 := ⟨RX7, TX7, 11, rfl, inmX7, by decide, Or.inr ⟨_, List.mem_of_getElem? fnX2_97⟩⟩
theorem flX2_103 : mv_FL RX2 103 7 9 := ⟨RX7, TX7, 11, rfl, inmX7, by decide, Or.inr ⟨_, List.mem_of_getElem? fnX2_103⟩⟩
theorem flX2_106 : mv_FL RX2 106 2 1 := ⟨RX2, TX2, 9, rfl, inmX2, by decide, Or.inl fwX2_106⟩
theorem flX2_113 : mv_FL RX2 113 7 0 := ⟨RX7, TX7, 11, rfl, inmX7, by decide, Or.inr ⟨_, List.mem_of_getElem? fnX2_113⟩⟩
theorem flX2_119 : mv_FL RX2 119 7 4 := ⟨RX7, TX7, 11, rfl, inmX7, by decide, Or.inr ⟨_, List.mem_of_getElem? fnX2_119⟩⟩
theorem flX2_122 : mv_FL RX2 122 7 6 := ⟨RX7, TX7, 11, rfl, inmX7, by decide, Or.inr ⟨_, List.mem_of_getElem? fnX2_122⟩⟩
theorem flX3_9 : mv_FL RX3 9 3 1 := ⟨RX3, TX3, 2, rfl, inmX3, by decide, Or.inl fwX3_9⟩
theorem flX3_15 : mv_FL RX3 15 3 0 := ⟨RX3, TX3, 2, rfl, inmX3, by decide, Or.inl fwX3_15⟩
theorem flX3_24 : mv_FL RX3 24 7 0 := ⟨RX7, TX7, 11, rfl, inmX7, by decide, Or.inr ⟨_, List.mem_of_getElem? fnX3_24⟩⟩
theorem flX3_31 : mv_FL RX3 31 7 2 := ⟨RX7, TX7, 11, rfl, inmX7, by decide, Or.inr ⟨_, List.mem_of_getElem? fnX3_31⟩⟩
theorem flX3_38 : mv_FL RX3 38 7 1 := ⟨RX7, TX7, 11, rfl, inmX7, by decide, Or.inr ⟨_, List.mem_of_getElem? fnX3_38⟩⟩
theorem flX3_47 : mv_FL RX3 47 7 4 := ⟨RX7, TX7, 11, rfl, inmX7, by decide, Or.inr ⟨_, List.mem_of_getElem? fnX3_47⟩⟩
theorem flX3_50 : mv_FL RX3 50 7 6 := ⟨RX7, TX7, 11, rfl, inmX7, by decide, Or.inr ⟨_, List.mem_of_getElem? fnX3_50⟩⟩
theorem flX3_63 : mv_FL RX3 63 7 8 := ⟨RX7, TX7, 11, rfl, inmX7, by decide, Or.inr ⟨_, List.mem_of_getElem? fnX3_63⟩⟩
theorem flX3_66 : mv_FL RX3 66 7 9 := ⟨RX7, TX7, 11, rfl, inmX7, by decide, Or.inr ⟨_, List.mem_of_getElem? fnX3_66⟩⟩
theorem flX3_69 : mv_FL RX3 69 7 10 := ⟨RX7, TX7, 11, rfl, inmX7, by decide, Or.inr ⟨_, List.mem_of_getElem? fnX3_69⟩⟩
theorem flX4_11 : mv_FL RX4 11 4 0 := ⟨RX4, TX4, 5, rfl, inmX4, by decide, Or.inl fwX4_11⟩
theorem flX4_18 : mv_FL RX4 18 4 2 := ⟨RX4, TX4, 5, rfl, inmX4, by decide, Or.inl fwX4_18⟩
theorem flX4_22 : mv_FL RX4 22 4 1 := ⟨RX4, TX4, 5, rfl, inmX4, by decide, Or.inl fwX4_22⟩
theorem flX4_26 : mv_FL RX4 26 4 3 := ⟨RX4, TX4, 5, rfl, inmX4, by decide, Or.inl fwX4_26⟩
theorem flX4_29 : mv_FL RX4 29 4 4 := ⟨RX4, TX4, 5, rfl, inmX4, by decide, Or.inl fwX4_29⟩
theorem flX4_32 : mv_FL RX4 32 7 0 := ⟨RX7, TX7, 11, rfl, inmX7, by decide, Or.inr ⟨_, List.mem_of_getElem? fnX4_32⟩⟩
theorem flX4_35 : mv_FL RX4 35 7 1 := ⟨RX7, TX7, 11, rfl, inmX7, by decide, Or.inr ⟨_, List.mem_of_getElem? fnX4_35⟩⟩
theorem flX4_38 : mv_FL RX4 38 7 2 := ⟨RX7, TX7, 11, rfl, inmX7, by decide, Or.inr ⟨_, List.mem_of_getElem? fnX4_38⟩⟩
theorem flX4_64 : mv_FL RX4 64 7 3 := ⟨RX7, TX7, 11, rfl, inmX7, by decide, Or.inr ⟨_, List.mem_of_getElem? fnX4_64⟩⟩
theorem flX4_84 : mv_FL RX4 84 7 5 := ⟨RX7, TX7, 11, rfl, inmX7, by decide, Or.inr ⟨_, List.mem_of_getElem? fnX4_84⟩⟩
theorem flX4_87 : mv_FL RX4 87 7 6 := ⟨RX7, TX7, 11, rfl, inmX7, by decide, Or.inr ⟨_, List.mem_of_getElem? fnX4_87⟩⟩
theorem flX4_90 : mv_FL RX4 90 7 7 := ⟨RX7, TX7, 11, rfl, inmX7, by decide, Or.inr ⟨_, List.mem_of_getElem? fnX4_90⟩⟩
theorem flX4_93 : mv_FL RX4 93 7 8 := ⟨RX7, TX7, 11, rfl, inmX7, by decide, Or.inr ⟨_, List.mem_of_getElem? fnX4_93⟩⟩
theorem flX4_99 : mv_FL RX4 99 7 9 := ⟨RX7, TX7, 11, rfl, inmX7, by decide, Or.inr ⟨_, List.mem_of_getElem? fnX4_99⟩⟩
theorem flX4_102 : mv_FL RX4 102 7 10 := ⟨RX7, TX7, 11, rfl, inmX7, by decide, Or.inr ⟨_, List.mem_of_getElem? fnX4_102⟩⟩
theorem flX5_11 : mv_FL RX5 11 5 0 := ⟨RX5, TX5, 3, rfl, inmX5, by decide, Or.inl fwX5_11⟩
theorem flX5_14 : mv_FL RX5 14 5 1 := ⟨RX5, TX5, 3, rfl, inmX5, by decide, Or.inl fwX5_14⟩
theorem flX5_18 : mv_FL RX5 18 5 2 := ⟨RX5, TX5, 3, rfl, inmX5, by decide, Or.inl fwX5_18⟩
theorem flX6_11 : mv_FL RX6 11 6 2 := ⟨RX6, TX6, 5, rfl, inmX6, by decide, Or.inl fwX6_11⟩
theorem flX6_15 : mv_FL RX6 15 6 4 := ⟨RX6, TX6, 5, rfl, inmX6, by decide, Or.inl fwX6_15⟩
theorem flX6_18 : mv_FL RX6 18 6 0 := ⟨RX6, TX6, 5, rfl, inmX6, by decide, Or.inl fwX6_18⟩
theorem flX6_22 : mv_FL RX6 22 6 1 := ⟨RX6, TX6, 5, rfl, inmX6, by decide, Or.inl fwX6_22⟩
theorem flX6_36 : mv_FL RX6 36 5 0 := ⟨RX5, TX5, 3, rfl, inmX5, by decide, Or.inr ⟨_, List.mem_of_getElem? fnX6_36⟩⟩
theorem flX6_46 : mv_FL RX6 46 6 3 := ⟨RX6, TX6, 5, rfl, inmX6, by decide, Or.inl fwX6_46⟩
theorem flX6_74 : mv_FL RX6 74 7 8 := ⟨RX7, TX7, 11, rfl, inmX7, by decide, Or.inr ⟨_, List.mem_of_getElem? fnX6_74⟩⟩
theorem flX6_77 : mv_FL RX6 77 7 10 := ⟨RX7, TX7, 11, rfl, inmX7, by decide, Or.inr ⟨_, List.mem_of_getElem? fnX6_77⟩⟩
theorem flX6_80 : mv_FL RX6 80 7 9 := ⟨RX7, TX7, 11, rfl, inmX7, by decide, Or.inr ⟨_, List.mem_of_getElem? fnX6_80⟩⟩
theorem flX6_83 : mv_FL RX6 83 7 6 := ⟨RX7, TX7, 11, rfl, inmX7, by decide, Or.inr ⟨_, List.mem_of_getElem? fnX6_83⟩⟩
theorem flX7_9 : mv_FL RX7 9 7 3 := ⟨RX7, TX7, 11, rfl, inmX7, by decide, Or.inl fwX7_9⟩
theorem flX7_15 : mv_FL RX7 15 7 4 := ⟨RX7, TX7, 11, rfl, inmX7, by decide, Or.inl fwX7_15⟩
theorem flX7_18 : mv_FL RX7 18 7 5 := ⟨RX7, TX7, 11, rfl, inmX7, by decide, Or.inl fwX7_18⟩
theorem flX7_21 : mv_FL RX7 21 7 6 := ⟨RX7, TX7, 11, rfl, inmX7, by decide, Or.inl fwX7_21⟩
theorem flX7_24 : mv_FL RX7 24 7 7 := ⟨RX7, TX7, 11, rfl, inmX7, by decide, Or.inl fwX7_24⟩
theorem flX7_27 : mv_FL RX7 27 7 8 := ⟨RX7, TX7, 11, rfl, inmX7, by decide, Or.inl fwX7_27⟩
theorem flX7_30 : mv_FL RX7 30 7 9 := ⟨RX7, TX7, 11, rfl, inmX7, by decide, Or.inl fwX7_30⟩
theorem flX7_33 : mv_FL RX7 33 7 10 := ⟨RX7, TX7, 11, rfl, inmX7, by decide, Or.inl fwX7_33⟩
theorem flX7_36 : mv_FL RX7 36 7 0 := ⟨RX7, TX7, 11, rfl, inmX7, by decide, Or.inl fwX7_36⟩
theorem flX7_40 : mv_FL RX7 40 7 1 := ⟨RX7, TX7, 11, rfl, inmX7, by decide, Or.inl fwX7_40⟩
theorem flX7_43 : mv_FL RX7 43 7 2 := ⟨RX7, TX7, 11, rfl, inmX7, by decide, Or.inl fwX7_43⟩
theorem flX8_10 : mv_FL RX8 10 8 0 := ⟨RX8, TX8, 11, rfl, inmX8, by decide, Or.inl fwX8_10⟩
theorem flX8_16 : mv_FL RX8 16 8 1 := ⟨RX8, TX8, 11, rfl, inmX8, by decide, Or.inl fwX8_16⟩
theorem flX8_23 : mv_FL RX8 23 8 2 := ⟨RX8, TX8, 11, rfl, inmX8, by decide, Or.inl fwX8_23⟩
theorem flX8_30 : mv_FL RX8 30 8 3 := ⟨RX8, TX8, 11, rfl, inmX8, by decide, Or.inl fwX8_30⟩
theorem flX8_37 : mv_FL RX8 37 8 4 := ⟨RX8, TX8, 11, rfl, inmX8, by decide, Or.inl fwX8_37⟩
theorem flX8_46 : mv_FL RX8 46 8 5 := ⟨RX8, TX8, 11, rfl, inmX8, by decide, Or.inl fwX8_46⟩
theorem flX8_53 : mv_FL RX8 53 8 6 := ⟨RX8, TX8, 11, rfl, inmX8, by decide, Or.inl fwX8_53⟩
theorem flX8_62 : mv_FL RX8 62 8 7 := ⟨RX8, TX8, 11, rfl, inmX8, by decide, Or.inl fwX8_62⟩
theorem flX8_69 : mv_FL RX8 69 8 8 := ⟨RX8, TX8, 11, rfl, inmX8, by decide, Or.inl fwX8_69⟩
theorem flX8_103 : mv_FL RX8 103 5 1 := ⟨RX5, TX5, 3, rfl, inmX5, by decide, Or.inr ⟨_, List.mem_of_getElem? fnX8_103⟩⟩
theorem flX8_107 : mv_FL RX8 107 5 0 := ⟨RX5, TX5, 3, rfl, inmX5, by decide, Or.inr ⟨_, List.mem_of_getElem? fnX8_107⟩⟩
theorem flX8_134 : mv_FL RX8 134 4 4 := ⟨RX4, TX4, 5, rfl, inmX4, by decide, Or.inr ⟨_, List.mem_of_getElem? fnX8_134⟩⟩
theorem flX8_138 : mv_FL RX8 138 8 9 := ⟨RX8, TX8, 11, rfl, inmX8, by decide, Or.inl fwX8_138⟩
theorem flX8_142 : mv_FL RX8 142 4 3 := ⟨RX4, TX4, 5, rfl, inmX4, by decide, Or.inr ⟨_, List.mem_of_getElem? fnX8_142⟩⟩
theorem flX8_145 : mv_FL RX8 145 4 2 := ⟨RX4, TX4, 5, rfl, inmX4, by decide, Or.inr ⟨_, List.mem_of_getElem? fnX8_145⟩⟩
theorem flX8_151 : mv_FL RX8 151 7 1 := ⟨RX7, TX7, 11, rfl, inmX7, by decide, Or.inr ⟨_, List.mem_of_getElem? fnX8_151⟩⟩
theorem flX8_167 : mv_FL RX8 167 7 2 := ⟨RX7, TX7, 11, rfl, inmX7, by decide, Or.inr ⟨_, List.mem_of_getElem? fnX8_167⟩⟩
theorem flX8_170 : mv_FL RX8 170 7 7 := ⟨RX7, TX7, 11, rfl, inmX7, by decide, Or.inr ⟨_, List.mem_of_getElem? fnX8_170⟩⟩
theorem flX8_176 : mv_FL RX8 176 7 3 := ⟨RX7, TX7, 11, rfl, inmX7, by decide, Or.inr ⟨_, List.mem_of_getElem? fnX8_176⟩⟩
theorem flX8_179 : mv_FL RX8 179 0 3 := ⟨RX0, TX0, 4, rfl, inmX0, by decide, Or.inr ⟨_, List.mem_of_getElem? fnX8_179⟩⟩
theorem flX8_182 : mv_FL RX8 182 0 0 := ⟨RX0, TX0, 4, rfl, inmX0, by decide, Or.inr ⟨_, List.mem_of_getElem? fnX8_182⟩⟩
theorem flX8_185 : mv_FL RX8 185 0 1 := ⟨RX0, TX0, 4, rfl, inmX0, by decide, Or.inr ⟨_, List.mem_of_getElem? fnX8_185⟩⟩
theorem flX8_188 : mv_FL RX8 188 0 2 := ⟨RX0, TX0, 4, rfl, inmX0, by decide, Or.inr ⟨_, List.mem_of_getElem? fnX8_188⟩⟩
theorem flX8_191 : mv_FL RX8 191 7 6 := ⟨RX7, TX7, 11, rfl, inmX7, by decide, Or.inr ⟨_, List.mem_of_getElem? fnX8_191⟩⟩
theorem flX8_197 : mv_FL RX8 197 7 8 := ⟨RX7, TX7, 11, rfl, inmX7, by decide, Or.inr ⟨_, List.mem_of_getElem? fnX8_197⟩⟩
theorem flX8_200 : mv_FL RX8 200 7 9 := ⟨RX7, TX7, 11, rfl, inmX7, by decide, Or.inr ⟨_, List.mem_of_getElem? fnX8_200⟩⟩
theorem flX8_204 : mv_FL RX8 204 7 10 := ⟨RX7, TX7, 11, rfl, inmX7, by decide, Or.inr ⟨_, List.mem_of_getElem? fnX8_204⟩⟩
theorem flX8_207 : mv_FL RX8 207 7 4 := ⟨RX7, TX7, 11, rfl, inmX7, by decide, Or.inr ⟨_, List.mem_of_getElem? fnX8_207⟩⟩
theorem flX8_230 : mv_FL RX8 230 2 7 := ⟨RX2, TX2, 9, rfl, inmX2, by decide, Or.inr ⟨_, List.mem_of_getElem? fnX8_230⟩⟩
theorem flX8_236 : mv_FL RX8 236 7 0 := ⟨RX7, TX7, 11, rfl, inmX7, by decide, Or.inr ⟨_, List.mem_of_getElem? fnX8_236⟩⟩
theorem flX8_256 : mv_FL RX8 256 6 2 := ⟨RX6, TX6, 5, rfl, inmX6, by decide, Or.inr ⟨_, List.mem_of_getElem? fnX8_256⟩⟩
theorem flX8_281 : mv_FL RX8 281 7 5 := ⟨RX7, TX7, 11, rfl, inmX7, by decide, Or.inr ⟨_, List.mem_of_getElem? fnX8_281⟩⟩
theorem flX8_287 : mv_FL RX8 287 1 2 := ⟨RX1, TX1, 3, rfl, inmX1, by decide, Or.inr ⟨_, List.mem_of_getElem? fnX8_287⟩⟩
theorem flX8_296 : mv_FL RX8 296 1 1 := ⟨RX1, TX1, 3, rfl, inmX1, by decide, Or.inr ⟨_, List.mem_of_getElem? fnX8_296⟩⟩
theorem flX8_302 : mv_FL RX8 302 4 1 := ⟨RX4, TX4, 5, rfl, inmX4, by decide, Or.inr ⟨_, List.mem_of_getElem? fnX8_302⟩⟩
theorem flX8_305 : mv_FL RX8 305 8 10 := ⟨RX8, TX8, 11, rfl, inmX8, by decide, Or.inl fwX8_305⟩
theorem flX8_309 : mv_FL RX8 309 2 1 := ⟨RX2, TX2, 9, rfl, inmX2, by decide, Or.inr ⟨_, List.mem_of_getElem? fnX8_309⟩⟩
theorem flX9_7 : mv_FL RX9 7 9 0 := ⟨RX9, TX9, 23, rfl, inmX9, by decide, Or.inl fwX9_7⟩
theorem flX9_13 : mv_FL RX9 13 9 2 := ⟨RX9, TX9, 23, rfl, inmX9, by decide, Or.inl fwX9_13⟩
theorem flX9_16 : mv_FL RX9 16 9 6 := ⟨RX9, TX9, 23, rfl, inmX9, by decide, Or.inl fwX9_16⟩
theorem flX9_19 : mv_FL RX9 19 9 7 := ⟨RX9, TX9, 23, rfl, inmX9, by decide, Or.inl fwX9_19⟩
theorem flX9_22 : mv_FL RX9 22 9 8 := ⟨RX9, TX9, 23, rfl, inmX9, by decide, Or.inl fwX9_22⟩
theorem flX9_25 : mv_FL RX9 25 9 9 := ⟨RX9, TX9, 23, rfl, inmX9, by decide, Or.inl fwX9_25⟩
theorem flX9_28 : mv_FL RX9 28 9 13 := ⟨RX9, TX9, 23, rfl, inmX9, by decide, Or.inl fwX9_28⟩
theorem flX9_32 : mv_FL RX9 32 9 14 := ⟨RX9, TX9, 23, rfl, inmX9, by decide, Or.inl fwX9_32⟩
theorem flX9_35 : mv_FL RX9 35 9 16 := ⟨RX9, TX9, 23, rfl, inmX9, by decide, Or.inl fwX9_35⟩
theorem flX9_38 : mv_FL RX9 38 9 17 := ⟨RX9, TX9, 23, rfl, inmX9, by decide, Or.inl fwX9_38⟩
theorem flX9_41 : mv_FL RX9 41 9 20 := ⟨RX9, TX9, 23, rfl, inmX9, by decide, Or.inl fwX9_41⟩
theorem flX9_45 : mv_FL RX9 45 9 21 := ⟨RX9, TX9, 23, rfl, inmX9, by decide, Or.inl fwX9_45⟩
theorem flX9_54 : mv_FL RX9 54 9 5 := ⟨RX9, TX9, 23, rfl, inmX9, by decide, Or.inl fwX9_54⟩
theorem flX9_76 : mv_FL RX9 76 9 3 := ⟨RX9, TX9, 23, rfl, inmX9, by decide, Or.inl fwX9_76⟩
theorem flX9_80 : mv_FL RX9 80 9 10 := ⟨RX9, TX9, 23, rfl, inmX9, by decide, Or.inl fwX9_80⟩
theorem flX9_83 : mv_FL RX9 83 9 4 := ⟨RX9, TX9, 23, rfl, inmX9, by decide, Or.inl fwX9_83⟩
theorem flX9_86 : mv_FL RX9 86 9 11 := ⟨RX9, TX9, 23, rfl, inmX9, by decide, Or.inl fwX9_86⟩
theorem flX9_97 : mv_FL RX9 97 9 12 := ⟨RX9, TX9, 23, rfl, inmX9, by decide, Or.inl fwX9_97⟩
theorem flX9_131 : mv_FL RX9 131 9 1 := ⟨RX9, TX9, 23, rfl, inmX9, by decide, Or.inl fwX9_131⟩
theorem flX9_189 : mv_FL RX9 189 9 15 := ⟨RX9, TX9, 23, rfl, inmX9, by decide, Or.inl fwX9_189⟩
theorem flX9_198 : mv_FL RX9 198 9 18 := ⟨RX9, TX9, 23, rfl, inmX9, by decide, Or.inl fwX9_198⟩
theorem flX9_201 : mv_FL RX9 201 9 19 := ⟨RX9, TX9, 23, rfl, inmX9, by decide, Or.inl fwX9_201⟩
theorem flX9_243 : mv_FL RX9 243 9 22 := ⟨RX9, TX9, 23, rfl, inmX9, by decide, Or.inl fwX9_243⟩
theorem fpX0_3 : mv_FP 0 3 .int := ⟨RX0, TX0, 4, tyX0, rfl, tyX0_ok, nmX0, rfl, by decide +kernel⟩
theorem fpX1_2 : mv_FP 1 2 .int := ⟨RX1, TX1, 3, tyX1, rfl, tyX1_ok, nmX1, rfl, by decide +kernel⟩
theorem fpX2_1 : mv_FP 2 1 .boolean := ⟨RX2, TX2, 9, tyX2, rfl, tyX2_ok, nmX2, rfl, by decide +kernel⟩
theorem fpX2_6 : mv_FP 2 6 .int := ⟨RX2, TX2, 9, tyX2, rfl, tyX2_ok, nmX2, rfl, by decide +kernel⟩
theorem fpX2_8 : mv_FP 2 8 .long := ⟨RX2, TX2, 9, tyX2, rfl, tyX2_ok, nmX2, rfl, by decide +kernel⟩
theorem fpX4_1 : mv_FP 4 1 .int := ⟨RX4, TX4, 5, tyX4, rfl, tyX4_ok, nmX4, rfl, by decide +kernel⟩
theorem fpX4_3 : mv_FP 4 3 .int := ⟨RX4, TX4, 5, tyX4, rfl, tyX4_ok, nmX4, rfl, by decide +kernel⟩
theorem fpX4_4 : mv_FP 4 4 .int := ⟨RX4, TX4, 5, tyX4, rfl, tyX4_ok, nmX4, rfl, by decide +kernel⟩
theorem fpX6_3 : mv_FP 6 3 .int := ⟨RX6, TX6, 5, tyX6, rfl, tyX6_ok, nmX6, rfl, by decide +kernel⟩
theorem fpX7_0 : mv_FP 7 0 .int := ⟨RX7, TX7, 11, tyX7, rfl, tyX7_ok, nmX7, rfl, by decide +kernel⟩
theorem fpX7_1 : mv_FP 7 1 .int := ⟨RX7, TX7, 11, tyX7, rfl, tyX7_ok, nmX7, rfl, by decide +kernel⟩
theorem fpX7_2 : mv_FP 7 2 .int := ⟨RX7, TX7, 11, tyX7, rfl, tyX7_ok, nmX7, rfl, by decide +kernel⟩
theorem fpX8_9 : mv_FP 8 9 .int := ⟨RX8, TX8, 11, tyX8, rfl, tyX8_ok, nmX8, rfl, by decide +kernel⟩
theorem fpX8_10 : mv_FP 8 10 .int := ⟨RX8, TX8, 11, tyX8, rfl, tyX8_ok, nmX8, rfl, by decide +kernel⟩
theorem fpX9_1 : mv_FP 9 1 .int := ⟨RX9, TX9, 23, tyX9, rfl, tyX9_ok, nmX9, rfl, by decide +kernel⟩
theorem fpX9_3 : mv_FP 9 3 .int := ⟨RX9, TX9, 23, tyX9, rfl, tyX9_ok, nmX9, rfl, by decide +kernel⟩
theorem fpX9_4 : mv_FP 9 4 .int := ⟨RX9, TX9, 23, tyX9, rfl, tyX9_ok, nmX9, rfl, by decide +kernel⟩
theorem fpX9_5 : mv_FP 9 5 .int := ⟨RX9, TX9, 23, tyX9, rfl, tyX9_ok, nmX9, rfl, by decide +kernel⟩
theorem fpX9_10 : mv_FP 9 10 .int := ⟨RX9, TX9, 23, tyX9, rfl, tyX9_ok, nmX9, rfl, by decide +kernel⟩
theorem fpX9_11 : mv_FP 9 11 .int := ⟨RX9, TX9, 23, tyX9, rfl, tyX9_ok, nmX9, rfl, by decide +kernel⟩
theorem fpX9_12 : mv_FP 9 12 .int := ⟨RX9, TX9, 23, tyX9, rfl, tyX9_ok, nmX9, rfl, by decide +kernel⟩
theorem fpX9_15 : mv_FP 9 15 .int := ⟨RX9, TX9, 23, tyX9, rfl, tyX9_ok, nmX9, rfl, by decide +kernel⟩
theorem fpX9_18 : mv_FP 9 18 .int := ⟨RX9, TX9, 23, tyX9, rfl, tyX9_ok, nmX9, rfl, by decide +kernel⟩
theorem fpX9_19 : mv_FP 9 19 .int := ⟨RX9, TX9, 23, tyX9, rfl, tyX9_ok, nmX9, rfl, by decide +kernel⟩
theorem fpX9_22 : mv_FP 9 22 .int := ⟨RX9, TX9, 23, tyX9, rfl, tyX9_ok, nmX9, rfl, by decide +kernel⟩
theorem mlL_9 : mv_ML RL 9 yX8_init := Or.inl mwL_9
theorem mlL_12 : mv_ML RL 12 yX9_init := Or.inl mwL_12
theorem mlL_13 : mv_ML RL 13 yX8_row := Or.inl mwL_13
theorem mlL_17 : mv_ML RL 17 yX9_row := Or.inl mwL_17
theorem mlL_18 : mv_ML RL 18 yX8_set := Or.inl mwL_18
theorem mlL_21 : mv_ML RL 21 yX9_set := Or.inl mwL_21
theorem mlL_22 : mv_ML RL 22 yX8_copy := Or.inl mwL_22
theorem mlL_26 : mv_ML RL 26 yX9_copy := Or.inl mwL_26
theorem mlL_27 : mv_ML RL 27 yX8_drop := Or.inl mwL_27
theorem mlL_31 : mv_ML RL 31 yX9_drop := Or.inl mwL_31
theorem mlL_32 : mv_ML RL 32 yX8_feed := Or.inl mwL_32
theorem mlL_35 : mv_ML RL 35 yX9_feed := Or.inl mwL_35
theorem mlL_36 : mv_ML RL 36 yX8_world := Or.inl mwL_36
theorem mlL_40 : mv_ML RL 40 yX9_world := Or.inl mwL_40
theorem mlL_41 : mv_ML RL 41 yX8_fault := Or.inl mwL_41
theorem mlL_44 : mv_ML RL 44 yX9_fault := Or.inl mwL_44
theorem mlL_45 : mv_ML RL 45 yX8_hide := Or.inl mwL_45
theorem mlL_49 : mv_ML RL 49 yX9_hide := Or.inl mwL_49
theorem mlL_50 : mv_ML RL 50 yX8_cost := Or.inl mwL_50
theorem mlL_53 : mv_ML RL 53 yX9_cost := Or.inl mwL_53
theorem mlL_54 : mv_ML RL 54 yX8_above := Or.inl mwL_54
theorem mlL_57 : mv_ML RL 57 yX9_above := Or.inl mwL_57
theorem mlL_58 : mv_ML RL 58 yX8_undo := Or.inl mwL_58
theorem mlL_61 : mv_ML RL 61 yX9_undo := Or.inl mwL_61
theorem mlL_62 : mv_ML RL 62 yX8_member := Or.inl mwL_62
theorem mlL_65 : mv_ML RL 65 yX9_member := Or.inl mwL_65
theorem mlL_66 : mv_ML RL 66 yX8_type := Or.inl mwL_66
theorem mlL_69 : mv_ML RL 69 yX9_type := Or.inl mwL_69
theorem mlL_70 : mv_ML RL 70 yX8_many := Or.inl mwL_70
theorem mlL_73 : mv_ML RL 73 yX9_many := Or.inl mwL_73
theorem mlL_74 : mv_ML RL 74 yX8_cheapest := Or.inl mwL_74
theorem mlL_77 : mv_ML RL 77 yX9_cheapest := Or.inl mwL_77
theorem mlL_78 : mv_ML RL 78 yX8_listed := Or.inl mwL_78
theorem mlL_81 : mv_ML RL 81 yX9_listed := Or.inl mwL_81
theorem mlL_82 : mv_ML RL 82 yX8_word := Or.inl mwL_82
theorem mlL_86 : mv_ML RL 86 yX9_word := Or.inl mwL_86
theorem mlL_87 : mv_ML RL 87 yX8_place := Or.inl mwL_87
theorem mlL_90 : mv_ML RL 90 yX9_place := Or.inl mwL_90
theorem mlL_91 : mv_ML RL 91 yX8_had := Or.inl mwL_91
theorem mlL_94 : mv_ML RL 94 yX9_had := Or.inl mwL_94
theorem mlL_95 : mv_ML RL 95 yX8_needed := Or.inl mwL_95
theorem mlL_98 : mv_ML RL 98 yX9_needed := Or.inl mwL_98
theorem mlL_99 : mv_ML RL 99 yX8_without := Or.inl mwL_99
theorem mlL_102 : mv_ML RL 102 yX9_without := Or.inl mwL_102
theorem mlL_103 : mv_ML RL 103 yX8_share := Or.inl mwL_103
theorem mlL_106 : mv_ML RL 106 yX9_share := Or.inl mwL_106
theorem mlL_107 : mv_ML RL 107 yX8_drawn := Or.inl mwL_107
theorem mlL_110 : mv_ML RL 110 yX9_drawn := Or.inl mwL_110
theorem mlL_111 : mv_ML RL 111 yX8_image := Or.inl mwL_111
theorem mlL_114 : mv_ML RL 114 yX9_image := Or.inl mwL_114
theorem mlL_115 : mv_ML RL 115 yX8_restore := Or.inl mwL_115
theorem mlL_118 : mv_ML RL 118 yX9_restore := Or.inl mwL_118
theorem mlL_119 : mv_ML RL 119 yX8_kind := Or.inl mwL_119
theorem mlL_122 : mv_ML RL 122 yX9_kind := Or.inl mwL_122
theorem mlL_123 : mv_ML RL 123 yX8_as := Or.inl mwL_123
theorem mlL_126 : mv_ML RL 126 yX9_as := Or.inl mwL_126
theorem mlL_127 : mv_ML RL 127 yX8_ask := Or.inl mwL_127
theorem mlL_130 : mv_ML RL 130 yX9_ask := Or.inl mwL_130
theorem mlL_131 : mv_ML RL 131 yX8_trace := Or.inl mwL_131
theorem mlL_134 : mv_ML RL 134 yX9_trace := Or.inl mwL_134
theorem mlL_135 : mv_ML RL 135 yX8_count := Or.inl mwL_135
theorem mlL_138 : mv_ML RL 138 yX9_count := Or.inl mwL_138
theorem mlL_139 : mv_ML RL 139 yX8_status := Or.inl mwL_139
theorem mlL_142 : mv_ML RL 142 yX9_status := Or.inl mwL_142
theorem mlX0_23 : mv_ML RX0 23 yX0_forgetOldest := Or.inl mwX0_23
theorem mlX1_24 : mv_ML RX1 24 yX1_sizeOfCall := Or.inl mwX1_24
theorem mlX1_28 : mv_ML RX1 28 yX1_body12 := Or.inl mwX1_28
theorem mlX1_31 : mv_ML RX1 31 yX1_body11 := Or.inl mwX1_31
theorem mlX1_34 : mv_ML RX1 34 yX7_isKind := Or.inr ⟨_, List.mem_of_getElem? mnX1_34⟩
theorem mlX1_38 : mv_ML RX1 38 yX1_body23 := Or.inl mwX1_38
theorem mlX1_41 : mv_ML RX1 41 yX1_markOfLocal := Or.inl mwX1_41
theorem mlX1_44 : mv_ML RX1 44 yX1_body14 := Or.inl mwX1_44
theorem mlX1_47 : mv_ML RX1 47 yX1_body13 := Or.inl mwX1_47
theorem mlX1_50 : mv_ML RX1 50 yX1_body24 := Or.inl mwX1_50
theorem mlX1_53 : mv_ML RX1 53 yX1_body22 := Or.inl mwX1_53
theorem mlX1_56 : mv_ML RX1 56 yX1_body21 := Or.inl mwX1_56
theorem mlX1_59 : mv_ML RX1 59 yX1_begin := Or.inl mwX1_59
theorem mlX1_66 : mv_ML RX1 66 yX1_body10 := Or.inl mwX1_66
theorem mlX2_33 : mv_ML RX2 33 yX2_countAll := Or.inl mwX2_33
theorem mlX2_44 : mv_ML RX2 44 yX2_manyBelow := Or.inl mwX2_44
theorem mlX2_57 : mv_ML RX2 57 yX2_want := Or.inl mwX2_57
theorem mlX2_61 : mv_ML RX2 61 yX2_choose := Or.inl mwX2_61
theorem mlX2_65 : mv_ML RX2 65 yX7_priceOf := Or.inr ⟨_, List.mem_of_getElem? mnX2_65⟩
theorem mlX2_71 : mv_ML RX2 71 yX2_wantTaken := Or.inl mwX2_71
theorem mlX2_78 : mv_ML RX2 78 yX2_waysWith := Or.inl mwX2_78
theorem mlX2_82 : mv_ML RX2 82 yX7_isHidden := Or.inr ⟨_, List.mem_of_getElem? mnX2_82⟩
theorem mlX2_86 : mv_ML RX2 86 yX7_givesOne := Or.inr ⟨_, List.mem_of_getElem? mnX2_86⟩
theorem mlX2_90 : mv_ML RX2 90 yX2_ways := Or.inl mwX2_90
theorem mlX2_100 : mv_ML RX2 100 yX2_fillRest := Or.inl mwX2_100
theorem mlX2_110 : mv_ML RX2 110 yX2_countPrice := Or.inl mwX2_110
theorem mlX2_116 : mv_ML RX2 116 yX2_manyWith := Or.inl mwX2_116
theorem mlX2_125 : mv_ML RX2 125 yX2_addTo := Or.inl mwX2_125
theorem mlX3_19 : mv_ML RX3 19 yX3_seek := Or.inl mwX3_19
theorem mlX3_34 : mv_ML RX3 34 yX3_typesHad := Or.inl mwX3_34
theorem mlX3_41 : mv_ML RX3 41 yJ7_fill_53178 := Or.inl mwX3_41
theorem mlX3_53 : mv_ML RX3 53 yX3_leastWith := Or.inl mwX3_53
theorem mlX3_56 : mv_ML RX3 56 yX3_lower := Or.inl mwX3_56
theorem mlX3_60 : mv_ML RX3 60 yX7_priceOf := Or.inr ⟨_, List.mem_of_getElem? mnX3_60⟩
theorem mlX4_17 : mv_ML RX4 17 yX7_init := Or.inr ⟨_, List.mem_of_getElem? mnX4_17⟩
theorem mlX4_41 : mv_ML RX4 41 yX4_readLaw := Or.inl mwX4_41
theorem mlX4_45 : mv_ML RX4 45 yX4_readTypes := Or.inl mwX4_45
theorem mlX4_48 : mv_ML RX4 48 yX4_readMembers := Or.inl mwX4_48
theorem mlX4_51 : mv_ML RX4 51 yX4_take := Or.inl mwX4_51
theorem mlX4_55 : mv_ML RX4 55 yX4_takeNumber := Or.inl mwX4_55
theorem mlX4_67 : mv_ML RX4 67 yX7_seeAbove := Or.inr ⟨_, List.mem_of_getElem? mnX4_67⟩
theorem mlX4_70 : mv_ML RX4 70 yX4_readMember := Or.inl mwX4_70
theorem mlX4_73 : mv_ML RX4 73 yX4_here := Or.inl mwX4_73
theorem mlX4_77 : mv_ML RX4 77 yX4_kindOf := Or.inl mwX4_77
theorem mlX4_81 : mv_ML RX4 81 yX4_refuse := Or.inl mwX4_81
theorem mlX4_96 : mv_ML RX4 96 yX4_readTaken := Or.inl mwX4_96
theorem mlX4_105 : mv_ML RX4 105 yX4_byteAt := Or.inl mwX4_105
theorem mlX4_108 : mv_ML RX4 108 yX4_isFigure := Or.inl mwX4_108
theorem mlX5_21 : mv_ML RX5 21 yJ7_fill_53178 := Or.inl mwX5_21
theorem mlX5_27 : mv_ML RX5 27 yX5_isMissing := Or.inl mwX5_27
theorem mlX6_26 : mv_ML RX6 26 yX5_isMissing := Or.inr ⟨_, List.mem_of_getElem? mnX6_26⟩
theorem mlX6_32 : mv_ML RX6 32 yX5_hasPlaces := Or.inr ⟨_, List.mem_of_getElem? mnX6_32⟩
theorem mlX6_50 : mv_ML RX6 50 yX6_fits := Or.inl mwX6_50
theorem mlX6_60 : mv_ML RX6 60 yX6_wantTaken := Or.inl mwX6_60
theorem mlX6_63 : mv_ML RX6 63 yX7_hasMember := Or.inr ⟨_, List.mem_of_getElem? mnX6_63⟩
theorem mlX6_68 : mv_ML RX6 68 yX7_isHidden := Or.inr ⟨_, List.mem_of_getElem? mnX6_68⟩
theorem mlX6_71 : mv_ML RX6 71 yX7_givesOne := Or.inr ⟨_, List.mem_of_getElem? mnX6_71⟩
theorem mlX6_86 : mv_ML RX6 86 yX7_priceOf := Or.inr ⟨_, List.mem_of_getElem? mnX6_86⟩
theorem mlX7_52 : mv_ML RX7 52 yX7_isOf := Or.inl mwX7_52
theorem mlX7_56 : mv_ML RX7 56 yX7_givesOne := Or.inl mwX7_56
theorem mlX7_59 : mv_ML RX7 59 yX7_pricesShown := Or.inl mwX7_59
theorem mlX7_63 : mv_ML RX7 63 yX7_isHidden := Or.inl mwX7_63
theorem mlX7_67 : mv_ML RX7 67 yX7_priceOf := Or.inl mwX7_67
theorem mlX8_9 : mv_ML RX8 9 yX7_init := Or.inr ⟨_, List.mem_of_getElem? mnX8_9⟩
theorem mlX8_22 : mv_ML RX8 22 yX5_init := Or.inr ⟨_, List.mem_of_getElem? mnX8_22⟩
theorem mlX8_29 : mv_ML RX8 29 yX4_init := Or.inr ⟨_, List.mem_of_getElem? mnX8_29⟩
theorem mlX8_36 : mv_ML RX8 36 yX0_init := Or.inr ⟨_, List.mem_of_getElem? mnX8_36⟩
theorem mlX8_43 : mv_ML RX8 43 yX3_init := Or.inr ⟨_, List.mem_of_getElem? mnX8_43⟩
theorem mlX8_52 : mv_ML RX8 52 yX2_init := Or.inr ⟨_, List.mem_of_getElem? mnX8_52⟩
theorem mlX8_59 : mv_ML RX8 59 yX6_init := Or.inr ⟨_, List.mem_of_getElem? mnX8_59⟩
theorem mlX8_68 : mv_ML RX8 68 yX1_init := Or.inr ⟨_, List.mem_of_getElem? mnX8_68⟩
theorem mlX8_73 : mv_ML RX8 73 yX5_isRow := Or.inr ⟨_, List.mem_of_getElem? mnX8_73⟩
theorem mlX8_77 : mv_ML RX8 77 yX5_isLane := Or.inr ⟨_, List.mem_of_getElem? mnX8_77⟩
theorem mlX8_81 : mv_ML RX8 81 yX8_found := Or.inl mwX8_81
theorem mlX8_85 : mv_ML RX8 85 yX5_make := Or.inr ⟨_, List.mem_of_getElem? mnX8_85⟩
theorem mlX8_89 : mv_ML RX8 89 yX8_unfound := Or.inl mwX8_89
theorem mlX8_92 : mv_ML RX8 92 yX5_isMissing := Or.inr ⟨_, List.mem_of_getElem? mnX8_92⟩
theorem mlX8_95 : mv_ML RX8 95 yX5_hasPlaces := Or.inr ⟨_, List.mem_of_getElem? mnX8_95⟩
theorem mlX8_99 : mv_ML RX8 99 yX5_put := Or.inr ⟨_, List.mem_of_getElem? mnX8_99⟩
theorem mlX8_117 : mv_ML RX8 117 yX5_lose := Or.inr ⟨_, List.mem_of_getElem? mnX8_117⟩
theorem mlX8_120 : mv_ML RX8 120 yX4_isFull := Or.inr ⟨_, List.mem_of_getElem? mnX8_120⟩
theorem mlX8_125 : mv_ML RX8 125 yX4_append := Or.inr ⟨_, List.mem_of_getElem? mnX8_125⟩
theorem mlX8_128 : mv_ML RX8 128 yX4_readTape := Or.inr ⟨_, List.mem_of_getElem? mnX8_128⟩
theorem mlX8_131 : mv_ML RX8 131 yX4_emptyTape := Or.inr ⟨_, List.mem_of_getElem? mnX8_131⟩
theorem mlX8_148 : mv_ML RX8 148 yX8_standAs := Or.inl mwX8_148
theorem mlX8_154 : mv_ML RX8 154 yX7_hasMember := Or.inr ⟨_, List.mem_of_getElem? mnX8_154⟩
theorem mlX8_157 : mv_ML RX8 157 yX7_isHidden := Or.inr ⟨_, List.mem_of_getElem? mnX8_157⟩
theorem mlX8_161 : mv_ML RX8 161 yX0_keep := Or.inr ⟨_, List.mem_of_getElem? mnX8_161⟩
theorem mlX8_164 : mv_ML RX8 164 yX8_change := Or.inl mwX8_164
theorem mlX8_173 : mv_ML RX8 173 yX7_hasType := Or.inr ⟨_, List.mem_of_getElem? mnX8_173⟩
theorem mlX8_194 : mv_ML RX8 194 yX7_priceOf := Or.inr ⟨_, List.mem_of_getElem? mnX8_194⟩
theorem mlX8_210 : mv_ML RX8 210 yX7_typesOf := Or.inr ⟨_, List.mem_of_getElem? mnX8_210⟩
theorem mlX8_213 : mv_ML RX8 213 yX7_membersOf := Or.inr ⟨_, List.mem_of_getElem? mnX8_213⟩
theorem mlX8_216 : mv_ML RX8 216 yX2_manyOfPrice := Or.inr ⟨_, List.mem_of_getElem? mnX8_216⟩
theorem mlX8_220 : mv_ML RX8 220 yX3_leastListed := Or.inr ⟨_, List.mem_of_getElem? mnX8_220⟩
theorem mlX8_224 : mv_ML RX8 224 yX2_findPlace := Or.inr ⟨_, List.mem_of_getElem? mnX8_224⟩
theorem mlX8_227 : mv_ML RX8 227 yX2_spell := Or.inr ⟨_, List.mem_of_getElem? mnX8_227⟩
theorem mlX8_233 : mv_ML RX8 233 yX6_isLength := Or.inr ⟨_, List.mem_of_getElem? mnX8_233⟩
theorem mlX8_239 : mv_ML RX8 239 yX6_take := Or.inr ⟨_, List.mem_of_getElem? mnX8_239⟩
theorem mlX8_242 : mv_ML RX8 242 yX6_isWhole := Or.inr ⟨_, List.mem_of_getElem? mnX8_242⟩
theorem mlX8_245 : mv_ML RX8 245 yX6_given := Or.inr ⟨_, List.mem_of_getElem? mnX8_245⟩
theorem mlX8_249 : mv_ML RX8 249 yX6_priceTogether := Or.inr ⟨_, List.mem_of_getElem? mnX8_249⟩
theorem mlX8_252 : mv_ML RX8 252 yX7_isOf := Or.inr ⟨_, List.mem_of_getElem? mnX8_252⟩
theorem mlX8_257 : mv_ML RX8 257 yX2_placeOf := Or.inr ⟨_, List.mem_of_getElem? mnX8_257⟩
theorem mlX8_261 : mv_ML RX8 261 yX3_typesHad := Or.inr ⟨_, List.mem_of_getElem? mnX8_261⟩
theorem mlX8_264 : mv_ML RX8 264 yX3_membersNeeded := Or.inr ⟨_, List.mem_of_getElem? mnX8_264⟩
theorem mlX8_267 : mv_ML RX8 267 yX7_shareOf := Or.inr ⟨_, List.mem_of_getElem? mnX8_267⟩
theorem mlX8_271 : mv_ML RX8 271 yX2_size := Or.inr ⟨_, List.mem_of_getElem? mnX8_271⟩
theorem mlX8_278 : mv_ML RX8 278 yX7_become := Or.inr ⟨_, List.mem_of_getElem? mnX8_278⟩
theorem mlX8_284 : mv_ML RX8 284 yX7_isKind := Or.inr ⟨_, List.mem_of_getElem? mnX8_284⟩
theorem mlX8_290 : mv_ML RX8 290 yX1_sizeOf := Or.inr ⟨_, List.mem_of_getElem? mnX8_290⟩
theorem mlX8_293 : mv_ML RX8 293 yX1_markOf := Or.inr ⟨_, List.mem_of_getElem? mnX8_293⟩
theorem mlX8_299 : mv_ML RX8 299 yX5_present := Or.inr ⟨_, List.mem_of_getElem? mnX8_299⟩
theorem mlX8_313 : mv_ML RX8 313 yX7_putHidden := Or.inr ⟨_, List.mem_of_getElem? mnX8_313⟩
theorem mlX8_317 : mv_ML RX8 317 yX7_seeAbove := Or.inr ⟨_, List.mem_of_getElem? mnX8_317⟩
theorem mlX9_48 : mv_ML RX9 48 yX9_in := Or.inl mwX9_48
theorem mlX9_59 : mv_ML RX9 59 yX9_isRow := Or.inl mwX9_59
theorem mlX9_66 : mv_ML RX9 66 yX9_finds := Or.inl mwX9_66
theorem mlX9_70 : mv_ML RX9 70 yX9_against := Or.inl mwX9_70
theorem mlX9_89 : mv_ML RX9 89 yX9_here := Or.inl mwX9_89
theorem mlX9_93 : mv_ML RX9 93 yX9_fails := Or.inl mwX9_93
theorem mlX9_104 : mv_ML RX9 104 yX9_takes := Or.inl mwX9_104
theorem mlX9_107 : mv_ML RX9 107 yX9_takesNumber := Or.inl mwX9_107
theorem mlX9_110 : mv_ML RX9 110 yX9_kindOf := Or.inl mwX9_110
theorem mlX9_113 : mv_ML RX9 113 yX9_takesLaw := Or.inl mwX9_113
theorem mlX9_117 : mv_ML RX9 117 yX9_takesType := Or.inl mwX9_117
theorem mlX9_120 : mv_ML RX9 120 yX9_takesMember := Or.inl mwX9_120
theorem mlX9_123 : mv_ML RX9 123 yX9_takesAll := Or.inl mwX9_123
theorem mlX9_127 : mv_ML RX9 127 yX9_copyOf := Or.inl mwX9_127
theorem mlX9_134 : mv_ML RX9 134 yX9_isMember := Or.inl mwX9_134
theorem mlX9_138 : mv_ML RX9 138 yX9_minds := Or.inl mwX9_138
theorem mlX9_143 : mv_ML RX9 143 yX9_isType := Or.inl mwX9_143
theorem mlX9_146 : mv_ML RX9 146 yX9_priceOf := Or.inl mwX9_146
theorem mlX9_150 : mv_ML RX9 150 yX9_isOf := Or.inl mwX9_150
theorem mlX9_153 : mv_ML RX9 153 yX9_typesOf := Or.inl mwX9_153
theorem mlX9_157 : mv_ML RX9 157 yX9_givers := Or.inl mwX9_157
theorem mlX9_162 : mv_ML RX9 162 yX9_cut := Or.inl mwX9_162
theorem mlX9_166 : mv_ML RX9 166 yX9_has := Or.inl mwX9_166
theorem mlX9_169 : mv_ML RX9 169 yX9_headed := Or.inl mwX9_169
theorem mlX9_178 : mv_ML RX9 178 yX9_layWays := Or.inl mwX9_178
theorem mlX9_182 : mv_ML RX9 182 yX9_toldOf := Or.inl mwX9_182
theorem mlX9_186 : mv_ML RX9 186 yX9_cheapestOf := Or.inl mwX9_186
theorem mlX9_192 : mv_ML RX9 192 yX9_await0 := Or.inl mwX9_192
theorem mlX9_195 : mv_ML RX9 195 yX9_gives := Or.inl mwX9_195
theorem mlX9_204 : mv_ML RX9 204 yX9_awaitsFirst := Or.inl mwX9_204
theorem mlX9_207 : mv_ML RX9 207 yX9_goesOn := Or.inl mwX9_207
theorem mlX9_212 : mv_ML RX9 212 yX9_laysCode := Or.inl mwX9_212
theorem mlX9_215 : mv_ML RX9 215 yX9_isWorld := Or.inl mwX9_215
theorem mlX9_218 : mv_ML RX9 218 yX9_isWhole := Or.inl mwX9_218
theorem mlX9_221 : mv_ML RX9 221 yX9_placeOf := Or.inl mwX9_221
theorem mlX9_225 : mv_ML RX9 225 yX9_hadBy := Or.inl mwX9_225
theorem mlX9_240 : mv_ML RX9 240 yX9_isA := Or.inl mwX9_240
theorem mlX9_246 : mv_ML RX9 246 yX9_traces := Or.inl mwX9_246
theorem mlX9_249 : mv_ML RX9 249 yX9_size10 := Or.inl mwX9_249
theorem mlX9_252 : mv_ML RX9 252 yX9_markOf := Or.inl mwX9_252
theorem mlX9_255 : mv_ML RX9 255 yX9_size11 := Or.inl mwX9_255
theorem mlX9_258 : mv_ML RX9 258 yX9_size13 := Or.inl mwX9_258
theorem mlX9_261 : mv_ML RX9 261 yX9_mark20 := Or.inl mwX9_261
theorem mlX9_264 : mv_ML RX9 264 yX9_mark21 := Or.inl mwX9_264
theorem mlX9_267 : mv_ML RX9 267 yX9_sizeOf := Or.inl mwX9_267
theorem mlX9_270 : mv_ML RX9 270 yX9_mark23 := Or.inl mwX9_270
theorem mlX9_273 : mv_ML RX9 273 yX9_rowsThere := Or.inl mwX9_273
abbrev iX5_isRow : mv_Y := (cX5_isRow, 1, RX5, some .boolean, { frames := 0, cells := 0, slots := 0, locals := 0 })
theorem smX5_isRow : mv_MS yX5_isRow iX5_isRow 1 := ⟨⟨cwX5_isRow, nwX5, ⟨by decide +kernel, by decide +kernel, by decide +kernel⟩, rfl, rfl⟩, swX5_isRow⟩
abbrev iX5_isLane : mv_Y := (cX5_isLane, 1, RX5, some .boolean, { frames := 0, cells := 0, slots := 0, locals := 0 })
theorem smX5_isLane : mv_MS yX5_isLane iX5_isLane 1 := ⟨⟨cwX5_isLane, nwX5, ⟨by decide +kernel, by decide +kernel, by decide +kernel⟩, rfl, rfl⟩, swX5_isLane⟩
abbrev iJ7_fill_53178 : mv_Y := (cJ7_fill_53178, 4, RJ7, none, { frames := 0, cells := 0, slots := 0, locals := 0 })
theorem smJ7_fill_53178 : mv_MS yJ7_fill_53178 iJ7_fill_53178 2 := ⟨⟨cwJ7_fill_53178, nwJ7, ⟨by decide +kernel, by decide +kernel, by decide +kernel⟩, rfl, rfl⟩, swJ7_fill_53178⟩
abbrev iX5_make : mv_Y := (cX5_make, 4, RX5, none, { frames := 1, cells := 0, slots := 0, locals := 23 })
theorem vmX5_make : mv_MV yX5_make iX5_make 3 := ⟨⟨cwX5_make, nwX5, ⟨by decide +kernel, by decide +kernel, by decide +kernel⟩, rfl, rfl⟩, iwX5_make, ewX5_make⟩
abbrev iX8_unfound : mv_Y := (cX8_unfound, 2, RX8, some .int, { frames := 0, cells := 0, slots := 0, locals := 0 })
theorem vmX8_unfound : mv_MV yX8_unfound iX8_unfound 1 := ⟨⟨cwX8_unfound, nwX8, ⟨by decide +kernel, by decide +kernel, by decide +kernel⟩, rfl, rfl⟩, iwX8_unfound, ewX8_unfound⟩
abbrev iX8_found : mv_Y := (cX8_found, 2, RX8, some .int, { frames := 0, cells := 0, slots := 0, locals := 0 })
theorem vmX8_found : mv_MV yX8_found iX8_found 1 := ⟨⟨cwX8_found, nwX8, ⟨by decide +kernel, by decide +kernel, by decide +kernel⟩, rfl, rfl⟩, iwX8_found, ewX8_found⟩
abbrev iX8_row : mv_Y := (cX8_row, 4, RX8, some .int, { frames := 2, cells := 0, slots := 0, locals := 46 })
theorem vmX8_row : mv_MV yX8_row iX8_row 3 := ⟨⟨cwX8_row, nwX8, ⟨by decide +kernel, by decide +kernel, by decide +kernel⟩, rfl, rfl⟩, iwX8_row, ewX8_row⟩
abbrev iX5_isMissing : mv_Y := (cX5_isMissing, 2, RX5, some .boolean, { frames := 0, cells := 0, slots := 0, locals := 0 })
theorem vmX5_isMissing : mv_MV yX5_isMissing iX5_isMissing 1 := ⟨⟨cwX5_isMissing, nwX5, ⟨by decide +kernel, by decide +kernel, by decide +kernel⟩, rfl, rfl⟩, iwX5_isMissing, ewX5_isMissing⟩
abbrev iX5_hasPlaces : mv_Y := (cX5_hasPlaces, 4, RX5, some .boolean, { frames := 0, cells := 0, slots := 0, locals := 0 })
theorem vmX5_hasPlaces : mv_MV yX5_hasPlaces iX5_hasPlaces 3 := ⟨⟨cwX5_hasPlaces, nwX5, ⟨by decide +kernel, by decide +kernel, by decide +kernel⟩, rfl, rfl⟩, iwX5_hasPlaces, ewX5_hasPlaces⟩
abbrev iX5_put : mv_Y := (cX5_put, 5, RX5, some .int, { frames := 0, cells := 0, slots := 0, locals := 0 })
theorem vmX5_put : mv_MV yX5_put iX5_put 3 := ⟨⟨cwX5_put, nwX5, ⟨by decide +kernel, by decide +kernel, by decide +kernel⟩, rfl, rfl⟩, iwX5_put, ewX5_put⟩
abbrev iX8_set : mv_Y := (cX8_set, 4, RX8, some .int, { frames := 1, cells := 0, slots := 0, locals := 24 })
theorem vmX8_set : mv_MV yX8_set iX8_set 3 := ⟨⟨cwX8_set, nwX8, ⟨by decide +kernel, by decide +kernel, by decide +kernel⟩, rfl, rfl⟩, iwX8_set, ewX8_set⟩
abbrev iX8_copy : mv_Y := (cX8_copy, 6, RX8, some .int, { frames := 1, cells := 0, slots := 0, locals := 26 })
theorem vmX8_copy : mv_MV yX8_copy iX8_copy 5 := ⟨⟨cwX8_copy, nwX8, ⟨by decide +kernel, by decide +kernel, by decide +kernel⟩, rfl, rfl⟩, iwX8_copy, ewX8_copy⟩
abbrev iX5_lose : mv_Y := (cX5_lose, 2, RX5, some .int, { frames := 0, cells := 0, slots := 0, locals := 0 })
theorem vmX5_lose : mv_MV yX5_lose iX5_lose 1 := ⟨⟨cwX5_lose, nwX5, ⟨by decide +kernel, by decide +kernel, by decide +kernel⟩, rfl, rfl⟩, iwX5_lose, ewX5_lose⟩
abbrev iX8_drop : mv_Y := (cX8_drop, 2, RX8, some .int, { frames := 1, cells := 0, slots := 0, locals := 21 })
theorem vmX8_drop : mv_MV yX8_drop iX8_drop 1 := ⟨⟨cwX8_drop, nwX8, ⟨by decide +kernel, by decide +kernel, by decide +kernel⟩, rfl, rfl⟩, iwX8_drop, ewX8_drop⟩
abbrev iX4_isFull : mv_Y := (cX4_isFull, 1, RX4, some .boolean, { frames := 0, cells := 0, slots := 0, locals := 0 })
theorem vmX4_isFull : mv_MV yX4_isFull iX4_isFull 0 := ⟨⟨cwX4_isFull, nwX4, ⟨by decide +kernel, by decide +kernel, by decide +kernel⟩, rfl, rfl⟩, iwX4_isFull, ewX4_isFull⟩
abbrev iX4_append : mv_Y := (cX4_append, 2, RX4, some .int, { frames := 0, cells := 0, slots := 0, locals := 0 })
theorem vmX4_append : mv_MV yX4_append iX4_append 1 := ⟨⟨cwX4_append, nwX4, ⟨by decide +kernel, by decide +kernel, by decide +kernel⟩, rfl, rfl⟩, iwX4_append, ewX4_append⟩
abbrev iX8_feed : mv_Y := (cX8_feed, 2, RX8, some .int, { frames := 1, cells := 0, slots := 0, locals := 21 })
theorem vmX8_feed : mv_MV yX8_feed iX8_feed 1 := ⟨⟨cwX8_feed, nwX8, ⟨by decide +kernel, by decide +kernel, by decide +kernel⟩, rfl, rfl⟩, iwX8_feed, ewX8_feed⟩
abbrev iX4_byteAt : mv_Y := (cX4_byteAt, 2, RX4, some .int, { frames := 0, cells := 0, slots := 0, locals := 0 })
theorem vmX4_byteAt : mv_MV yX4_byteAt iX4_byteAt 1 := ⟨⟨cwX4_byteAt, nwX4, ⟨by decide +kernel, by decide +kernel, by decide +kernel⟩, rfl, rfl⟩, iwX4_byteAt, ewX4_byteAt⟩
abbrev iX4_here : mv_Y := (cX4_here, 1, RX4, some .int, { frames := 1, cells := 0, slots := 0, locals := 21 })
theorem vmX4_here : mv_MV yX4_here iX4_here 0 := ⟨⟨cwX4_here, nwX4, ⟨by decide +kernel, by decide +kernel, by decide +kernel⟩, rfl, rfl⟩, iwX4_here, ewX4_here⟩
abbrev iX4_refuse : mv_Y := (cX4_refuse, 2, RX4, some .boolean, { frames := 0, cells := 0, slots := 0, locals := 0 })
theorem vmX4_refuse : mv_MV yX4_refuse iX4_refuse 1 := ⟨⟨cwX4_refuse, nwX4, ⟨by decide +kernel, by decide +kernel, by decide +kernel⟩, rfl, rfl⟩, iwX4_refuse, ewX4_refuse⟩
abbrev iX4_take : mv_Y := (cX4_take, 2, RX4, some .boolean, { frames := 2, cells := 0, slots := 0, locals := 41 })
theorem vmX4_take : mv_MV yX4_take iX4_take 1 := ⟨⟨cwX4_take, nwX4, ⟨by decide +kernel, by decide +kernel, by decide +kernel⟩, rfl, rfl⟩, iwX4_take, ewX4_take⟩
abbrev iX4_isFigure : mv_Y := (cX4_isFigure, 1, RX4, some .boolean, { frames := 0, cells := 0, slots := 0, locals := 0 })
theorem smX4_isFigure : mv_MS yX4_isFigure iX4_isFigure 1 := ⟨⟨cwX4_isFigure, nwX4, ⟨by decide +kernel, by decide +kernel, by decide +kernel⟩, rfl, rfl⟩, swX4_isFigure⟩
abbrev iX4_takeNumber : mv_Y := (cX4_takeNumber, 5, RX4, some .int, { frames := 1, cells := 0, slots := 0, locals := 21 })
theorem vmX4_takeNumber : mv_MV yX4_takeNumber iX4_takeNumber 2 := ⟨⟨cwX4_takeNumber, nwX4, ⟨by decide +kernel, by decide +kernel, by decide +kernel⟩, rfl, rfl⟩, iwX4_takeNumber, ewX4_takeNumber⟩
abbrev iX4_readLaw : mv_Y := (cX4_readLaw, 2, RX4, some .boolean, { frames := 3, cells := 0, slots := 0, locals := 62 })
theorem vmX4_readLaw : mv_MV yX4_readLaw iX4_readLaw 0 := ⟨⟨cwX4_readLaw, nwX4, ⟨by decide +kernel, by decide +kernel, by decide +kernel⟩, rfl, rfl⟩, iwX4_readLaw, ewX4_readLaw⟩
abbrev iX7_seeAbove : mv_Y := (cX7_seeAbove, 3, RX7, none, { frames := 0, cells := 0, slots := 0, locals := 0 })
theorem vmX7_seeAbove : mv_MV yX7_seeAbove iX7_seeAbove 0 := ⟨⟨cwX7_seeAbove, nwX7, ⟨by decide +kernel, by decide +kernel, by decide +kernel⟩, rfl, rfl⟩, iwX7_seeAbove, ewX7_seeAbove⟩
abbrev iX4_readTypes : mv_Y := (cX4_readTypes, 3, RX4, some .boolean, { frames := 3, cells := 0, slots := 0, locals := 62 })
theorem vmX4_readTypes : mv_MV yX4_readTypes iX4_readTypes 0 := ⟨⟨cwX4_readTypes, nwX4, ⟨by decide +kernel, by decide +kernel, by decide +kernel⟩, rfl, rfl⟩, iwX4_readTypes, ewX4_readTypes⟩
abbrev iX4_kindOf : mv_Y := (cX4_kindOf, 1, RX4, some .int, { frames := 0, cells := 0, slots := 0, locals := 0 })
theorem smX4_kindOf : mv_MS yX4_kindOf iX4_kindOf 1 := ⟨⟨cwX4_kindOf, nwX4, ⟨by decide +kernel, by decide +kernel, by decide +kernel⟩, rfl, rfl⟩, swX4_kindOf⟩
abbrev iX4_readTaken : mv_Y := (cX4_readTaken, 2, RX4, some .boolean, { frames := 3, cells := 0, slots := 0, locals := 62 })
theorem vmX4_readTaken : mv_MV yX4_readTaken iX4_readTaken 1 := ⟨⟨cwX4_readTaken, nwX4, ⟨by decide +kernel, by decide +kernel, by decide +kernel⟩, rfl, rfl⟩, iwX4_readTaken, ewX4_readTaken⟩
abbrev iX4_readMember : mv_Y := (cX4_readMember, 5, RX4, some .boolean, { frames := 4, cells := 0, slots := 0, locals := 83 })
theorem vmX4_readMember : mv_MV yX4_readMember iX4_readMember 1 := ⟨⟨cwX4_readMember, nwX4, ⟨by decide +kernel, by decide +kernel, by decide +kernel⟩, rfl, rfl⟩, iwX4_readMember, ewX4_readMember⟩
abbrev iX4_readMembers : mv_Y := (cX4_readMembers, 2, RX4, some .boolean, { frames := 5, cells := 0, slots := 0, locals := 107 })
theorem vmX4_readMembers : mv_MV yX4_readMembers iX4_readMembers 0 := ⟨⟨cwX4_readMembers, nwX4, ⟨by decide +kernel, by decide +kernel, by decide +kernel⟩, rfl, rfl⟩, iwX4_readMembers, ewX4_readMembers⟩
abbrev iX4_readTape : mv_Y := (cX4_readTape, 1, RX4, some .boolean, { frames := 6, cells := 0, slots := 0, locals := 128 })
theorem vmX4_readTape : mv_MV yX4_readTape iX4_readTape 0 := ⟨⟨cwX4_readTape, nwX4, ⟨by decide +kernel, by decide +kernel, by decide +kernel⟩, rfl, rfl⟩, iwX4_readTape, ewX4_readTape⟩
abbrev iX4_emptyTape : mv_Y := (cX4_emptyTape, 1, RX4, none, { frames := 0, cells := 0, slots := 0, locals := 0 })
theorem vmX4_emptyTape : mv_MV yX4_emptyTape iX4_emptyTape 0 := ⟨⟨cwX4_emptyTape, nwX4, ⟨by decide +kernel, by decide +kernel, by decide +kernel⟩, rfl, rfl⟩, iwX4_emptyTape, ewX4_emptyTape⟩
abbrev iX7_become : mv_Y := (cX7_become, 2, RX7, none, { frames := 1, cells := 0, slots := 0, locals := 26 })
theorem vmX7_become : mv_MV yX7_become iX7_become 1 := ⟨⟨cwX7_become, nwX7, ⟨by decide +kernel, by decide +kernel, by decide +kernel⟩, rfl, rfl⟩, iwX7_become, ewX7_become⟩
abbrev iX8_standAs : mv_Y := (cX8_standAs, 2, RX8, none, { frames := 2, cells := 0, slots := 0, locals := 47 })
theorem vmX8_standAs : mv_MV yX8_standAs iX8_standAs 1 := ⟨⟨cwX8_standAs, nwX8, ⟨by decide +kernel, by decide +kernel, by decide +kernel⟩, rfl, rfl⟩, iwX8_standAs, ewX8_standAs⟩
abbrev iX8_world : mv_Y := (cX8_world, 2, RX8, some .int, { frames := 7, cells := 0, slots := 0, locals := 148 })
theorem vmX8_world : mv_MV yX8_world iX8_world 0 := ⟨⟨cwX8_world, nwX8, ⟨by decide +kernel, by decide +kernel, by decide +kernel⟩, rfl, rfl⟩, iwX8_world, ewX8_world⟩
abbrev iX8_fault : mv_Y := (cX8_fault, 1, RX8, some .int, { frames := 0, cells := 0, slots := 0, locals := 0 })
theorem vmX8_fault : mv_MV yX8_fault iX8_fault 0 := ⟨⟨cwX8_fault, nwX8, ⟨by decide +kernel, by decide +kernel, by decide +kernel⟩, rfl, rfl⟩, iwX8_fault, ewX8_fault⟩
abbrev iX7_hasMember : mv_Y := (cX7_hasMember, 2, RX7, some .boolean, { frames := 0, cells := 0, slots := 0, locals := 0 })
theorem vmX7_hasMember : mv_MV yX7_hasMember iX7_hasMember 1 := ⟨⟨cwX7_hasMember, nwX7, ⟨by decide +kernel, by decide +kernel, by decide +kernel⟩, rfl, rfl⟩, iwX7_hasMember, ewX7_hasMember⟩
abbrev iX7_isHidden : mv_Y := (cX7_isHidden, 2, RX7, some .boolean, { frames := 0, cells := 0, slots := 0, locals := 0 })
theorem vmX7_isHidden : mv_MV yX7_isHidden iX7_isHidden 1 := ⟨⟨cwX7_isHidden, nwX7, ⟨by decide +kernel, by decide +kernel, by decide +kernel⟩, rfl, rfl⟩, iwX7_isHidden, ewX7_isHidden⟩
abbrev iX0_forgetOldest : mv_Y := (cX0_forgetOldest, 1, RX0, none, { frames := 1, cells := 0, slots := 0, locals := 26 })
theorem vmX0_forgetOldest : mv_MV yX0_forgetOldest iX0_forgetOldest 0 := ⟨⟨cwX0_forgetOldest, nwX0, ⟨by decide +kernel, by decide +kernel, by decide +kernel⟩, rfl, rfl⟩, iwX0_forgetOldest, ewX0_forgetOldest⟩
abbrev iX0_keep : mv_Y := (cX0_keep, 4, RX0, none, { frames := 2, cells := 0, slots := 0, locals := 46 })
theorem vmX0_keep : mv_MV yX0_keep iX0_keep 3 := ⟨⟨cwX0_keep, nwX0, ⟨by decide +kernel, by decide +kernel, by decide +kernel⟩, rfl, rfl⟩, iwX0_keep, ewX0_keep⟩
abbrev iX7_putHidden : mv_Y := (cX7_putHidden, 3, RX7, none, { frames := 0, cells := 0, slots := 0, locals := 0 })
theorem vmX7_putHidden : mv_MV yX7_putHidden iX7_putHidden 2 := ⟨⟨cwX7_putHidden, nwX7, ⟨by decide +kernel, by decide +kernel, by decide +kernel⟩, rfl, rfl⟩, iwX7_putHidden, ewX7_putHidden⟩
abbrev iX8_change : mv_Y := (cX8_change, 4, RX8, none, { frames := 1, cells := 0, slots := 0, locals := 22 })
theorem vmX8_change : mv_MV yX8_change iX8_change 3 := ⟨⟨cwX8_change, nwX8, ⟨by decide +kernel, by decide +kernel, by decide +kernel⟩, rfl, rfl⟩, iwX8_change, ewX8_change⟩
abbrev iX8_hide : mv_Y := (cX8_hide, 4, RX8, some .int, { frames := 3, cells := 0, slots := 0, locals := 69 })
theorem vmX8_hide : mv_MV yX8_hide iX8_hide 2 := ⟨⟨cwX8_hide, nwX8, ⟨by decide +kernel, by decide +kernel, by decide +kernel⟩, rfl, rfl⟩, iwX8_hide, ewX8_hide⟩
abbrev iX8_cost : mv_Y := (cX8_cost, 4, RX8, some .int, { frames := 3, cells := 0, slots := 0, locals := 69 })
theorem vmX8_cost : mv_MV yX8_cost iX8_cost 2 := ⟨⟨cwX8_cost, nwX8, ⟨by decide +kernel, by decide +kernel, by decide +kernel⟩, rfl, rfl⟩, iwX8_cost, ewX8_cost⟩
abbrev iX7_hasType : mv_Y := (cX7_hasType, 2, RX7, some .boolean, { frames := 0, cells := 0, slots := 0, locals := 0 })
theorem vmX7_hasType : mv_MV yX7_hasType iX7_hasType 1 := ⟨⟨cwX7_hasType, nwX7, ⟨by decide +kernel, by decide +kernel, by decide +kernel⟩, rfl, rfl⟩, iwX7_hasType, ewX7_hasType⟩
abbrev iX8_above : mv_Y := (cX8_above, 4, RX8, some .int, { frames := 3, cells := 0, slots := 0, locals := 69 })
theorem vmX8_above : mv_MV yX8_above iX8_above 2 := ⟨⟨cwX8_above, nwX8, ⟨by decide +kernel, by decide +kernel, by decide +kernel⟩, rfl, rfl⟩, iwX8_above, ewX8_above⟩
abbrev iX8_undo : mv_Y := (cX8_undo, 2, RX8, some .int, { frames := 2, cells := 0, slots := 0, locals := 45 })
theorem vmX8_undo : mv_MV yX8_undo iX8_undo 0 := ⟨⟨cwX8_undo, nwX8, ⟨by decide +kernel, by decide +kernel, by decide +kernel⟩, rfl, rfl⟩, iwX8_undo, ewX8_undo⟩
abbrev iX7_priceOf : mv_Y := (cX7_priceOf, 2, RX7, some .int, { frames := 0, cells := 0, slots := 0, locals := 0 })
theorem vmX7_priceOf : mv_MV yX7_priceOf iX7_priceOf 1 := ⟨⟨cwX7_priceOf, nwX7, ⟨by decide +kernel, by decide +kernel, by decide +kernel⟩, rfl, rfl⟩, iwX7_priceOf, ewX7_priceOf⟩
abbrev iX8_member : mv_Y := (cX8_member, 3, RX8, some .int, { frames := 1, cells := 0, slots := 0, locals := 21 })
theorem vmX8_member : mv_MV yX8_member iX8_member 2 := ⟨⟨cwX8_member, nwX8, ⟨by decide +kernel, by decide +kernel, by decide +kernel⟩, rfl, rfl⟩, iwX8_member, ewX8_member⟩
abbrev iX7_isOf : mv_Y := (cX7_isOf, 3, RX7, some .boolean, { frames := 0, cells := 0, slots := 0, locals := 0 })
theorem vmX7_isOf : mv_MV yX7_isOf iX7_isOf 2 := ⟨⟨cwX7_isOf, nwX7, ⟨by decide +kernel, by decide +kernel, by decide +kernel⟩, rfl, rfl⟩, iwX7_isOf, ewX7_isOf⟩
abbrev iX7_typesOf : mv_Y := (cX7_typesOf, 4, RX7, some .int, { frames := 1, cells := 0, slots := 0, locals := 22 })
theorem vmX7_typesOf : mv_MV yX7_typesOf iX7_typesOf 1 := ⟨⟨cwX7_typesOf, nwX7, ⟨by decide +kernel, by decide +kernel, by decide +kernel⟩, rfl, rfl⟩, iwX7_typesOf, ewX7_typesOf⟩
abbrev iX7_givesOne : mv_Y := (cX7_givesOne, 3, RX7, some .boolean, { frames := 1, cells := 0, slots := 0, locals := 22 })
theorem vmX7_givesOne : mv_MV yX7_givesOne iX7_givesOne 2 := ⟨⟨cwX7_givesOne, nwX7, ⟨by decide +kernel, by decide +kernel, by decide +kernel⟩, rfl, rfl⟩, iwX7_givesOne, ewX7_givesOne⟩
abbrev iX7_membersOf : mv_Y := (cX7_membersOf, 4, RX7, some .int, { frames := 2, cells := 0, slots := 0, locals := 44 })
theorem vmX7_membersOf : mv_MV yX7_membersOf iX7_membersOf 1 := ⟨⟨cwX7_membersOf, nwX7, ⟨by decide +kernel, by decide +kernel, by decide +kernel⟩, rfl, rfl⟩, iwX7_membersOf, ewX7_membersOf⟩
abbrev iX8_type : mv_Y := (cX8_type, 3, RX8, some .int, { frames := 3, cells := 0, slots := 0, locals := 67 })
theorem vmX8_type : mv_MV yX8_type iX8_type 2 := ⟨⟨cwX8_type, nwX8, ⟨by decide +kernel, by decide +kernel, by decide +kernel⟩, rfl, rfl⟩, iwX8_type, ewX8_type⟩
abbrev iX2_addTo : mv_Y := (cX2_addTo, 6, RX2, none, { frames := 1, cells := 0, slots := 0, locals := 26 })
theorem vmX2_addTo : mv_MV yX2_addTo iX2_addTo 3 := ⟨⟨cwX2_addTo, nwX2, ⟨by decide +kernel, by decide +kernel, by decide +kernel⟩, rfl, rfl⟩, iwX2_addTo, ewX2_addTo⟩
abbrev iX2_ways : mv_Y := (cX2_ways, 6, RX2, some .long, { frames := 1, cells := 0, slots := 0, locals := 26 })
theorem smX2_ways : mv_MS yX2_ways iX2_ways 3 := ⟨⟨cwX2_ways, nwX2, ⟨by decide +kernel, by decide +kernel, by decide +kernel⟩, rfl, rfl⟩, swX2_ways⟩
abbrev iX2_manyWith : mv_Y := (cX2_manyWith, 4, RX2, some .long, { frames := 2, cells := 0, slots := 0, locals := 51 })
theorem vmX2_manyWith : mv_MV yX2_manyWith iX2_manyWith 2 := ⟨⟨cwX2_manyWith, nwX2, ⟨by decide +kernel, by decide +kernel, by decide +kernel⟩, rfl, rfl⟩, iwX2_manyWith, ewX2_manyWith⟩
abbrev iX2_countPrice : mv_Y := (cX2_countPrice, 5, RX2, none, { frames := 3, cells := 0, slots := 0, locals := 74 })
theorem vmX2_countPrice : mv_MV yX2_countPrice iX2_countPrice 1 := ⟨⟨cwX2_countPrice, nwX2, ⟨by decide +kernel, by decide +kernel, by decide +kernel⟩, rfl, rfl⟩, iwX2_countPrice, ewX2_countPrice⟩
abbrev iX2_countAll : mv_Y := (cX2_countAll, 2, RX2, none, { frames := 4, cells := 0, slots := 0, locals := 98 })
theorem vmX2_countAll : mv_MV yX2_countAll iX2_countAll 0 := ⟨⟨cwX2_countAll, nwX2, ⟨by decide +kernel, by decide +kernel, by decide +kernel⟩, rfl, rfl⟩, iwX2_countAll, ewX2_countAll⟩
abbrev iX2_manyOfPrice : mv_Y := (cX2_manyOfPrice, 3, RX2, some .int, { frames := 5, cells := 0, slots := 0, locals := 119 })
theorem vmX2_manyOfPrice : mv_MV yX2_manyOfPrice iX2_manyOfPrice 2 := ⟨⟨cwX2_manyOfPrice, nwX2, ⟨by decide +kernel, by decide +kernel, by decide +kernel⟩, rfl, rfl⟩, iwX2_manyOfPrice, ewX2_manyOfPrice⟩
abbrev iX8_many : mv_Y := (cX8_many, 3, RX8, some .int, { frames := 6, cells := 0, slots := 0, locals := 141 })
theorem vmX8_many : mv_MV yX8_many iX8_many 2 := ⟨⟨cwX8_many, nwX8, ⟨by decide +kernel, by decide +kernel, by decide +kernel⟩, rfl, rfl⟩, iwX8_many, ewX8_many⟩
abbrev iX3_leastWith : mv_Y := (cX3_leastWith, 3, RX3, some .int, { frames := 1, cells := 0, slots := 0, locals := 21 })
theorem vmX3_leastWith : mv_MV yX3_leastWith iX3_leastWith 1 := ⟨⟨cwX3_leastWith, nwX3, ⟨by decide +kernel, by decide +kernel, by decide +kernel⟩, rfl, rfl⟩, iwX3_leastWith, ewX3_leastWith⟩
abbrev iX3_lower : mv_Y := (cX3_lower, 5, RX3, some .boolean, { frames := 0, cells := 0, slots := 0, locals := 0 })
theorem vmX3_lower : mv_MV yX3_lower iX3_lower 2 := ⟨⟨cwX3_lower, nwX3, ⟨by decide +kernel, by decide +kernel, by decide +kernel⟩, rfl, rfl⟩, iwX3_lower, ewX3_lower⟩
abbrev iX3_seek : mv_Y := (cX3_seek, 5, RX3, none, { frames := 2, cells := 0, slots := 0, locals := 43 })
theorem vmX3_seek : mv_MV yX3_seek iX3_seek 1 := ⟨⟨cwX3_seek, nwX3, ⟨by decide +kernel, by decide +kernel, by decide +kernel⟩, rfl, rfl⟩, iwX3_seek, ewX3_seek⟩
abbrev iX3_leastListed : mv_Y := (cX3_leastListed, 3, RX3, some .int, { frames := 3, cells := 0, slots := 0, locals := 67 })
theorem vmX3_leastListed : mv_MV yX3_leastListed iX3_leastListed 2 := ⟨⟨cwX3_leastListed, nwX3, ⟨by decide +kernel, by decide +kernel, by decide +kernel⟩, rfl, rfl⟩, iwX3_leastListed, ewX3_leastListed⟩
abbrev iX8_cheapest : mv_Y := (cX8_cheapest, 2, RX8, some .int, { frames := 4, cells := 0, slots := 0, locals := 89 })
theorem vmX8_cheapest : mv_MV yX8_cheapest iX8_cheapest 1 := ⟨⟨cwX8_cheapest, nwX8, ⟨by decide +kernel, by decide +kernel, by decide +kernel⟩, rfl, rfl⟩, iwX8_cheapest, ewX8_cheapest⟩
abbrev iX2_findPlace : mv_Y := (cX2_findPlace, 4, RX2, some .int, { frames := 5, cells := 0, slots := 0, locals := 119 })
theorem vmX2_findPlace : mv_MV yX2_findPlace iX2_findPlace 2 := ⟨⟨cwX2_findPlace, nwX2, ⟨by decide +kernel, by decide +kernel, by decide +kernel⟩, rfl, rfl⟩, iwX2_findPlace, ewX2_findPlace⟩
abbrev iX2_want : mv_Y := (cX2_want, 2, RX2, none, { frames := 0, cells := 0, slots := 0, locals := 0 })
theorem vmX2_want : mv_MV yX2_want iX2_want 1 := ⟨⟨cwX2_want, nwX2, ⟨by decide +kernel, by decide +kernel, by decide +kernel⟩, rfl, rfl⟩, iwX2_want, ewX2_want⟩
abbrev iX2_waysWith : mv_Y := (cX2_waysWith, 4, RX2, some .long, { frames := 2, cells := 0, slots := 0, locals := 51 })
theorem vmX2_waysWith : mv_MV yX2_waysWith iX2_waysWith 3 := ⟨⟨cwX2_waysWith, nwX2, ⟨by decide +kernel, by decide +kernel, by decide +kernel⟩, rfl, rfl⟩, iwX2_waysWith, ewX2_waysWith⟩
abbrev iX2_choose : mv_Y := (cX2_choose, 6, RX2, some .int, { frames := 3, cells := 0, slots := 0, locals := 74 })
theorem vmX2_choose : mv_MV yX2_choose iX2_choose 2 := ⟨⟨cwX2_choose, nwX2, ⟨by decide +kernel, by decide +kernel, by decide +kernel⟩, rfl, rfl⟩, iwX2_choose, ewX2_choose⟩
abbrev iX2_fillRest : mv_Y := (cX2_fillRest, 4, RX2, none, { frames := 2, cells := 0, slots := 0, locals := 51 })
theorem vmX2_fillRest : mv_MV yX2_fillRest iX2_fillRest 1 := ⟨⟨cwX2_fillRest, nwX2, ⟨by decide +kernel, by decide +kernel, by decide +kernel⟩, rfl, rfl⟩, iwX2_fillRest, ewX2_fillRest⟩
abbrev iX2_wantTaken : mv_Y := (cX2_wantTaken, 3, RX2, none, { frames := 3, cells := 0, slots := 0, locals := 74 })
theorem vmX2_wantTaken : mv_MV yX2_wantTaken iX2_wantTaken 2 := ⟨⟨cwX2_wantTaken, nwX2, ⟨by decide +kernel, by decide +kernel, by decide +kernel⟩, rfl, rfl⟩, iwX2_wantTaken, ewX2_wantTaken⟩
abbrev iX2_spell : mv_Y := (cX2_spell, 7, RX2, some .int, { frames := 4, cells := 0, slots := 0, locals := 99 })
theorem vmX2_spell : mv_MV yX2_spell iX2_spell 2 := ⟨⟨cwX2_spell, nwX2, ⟨by decide +kernel, by decide +kernel, by decide +kernel⟩, rfl, rfl⟩, iwX2_spell, ewX2_spell⟩
abbrev iX8_listed : mv_Y := (cX8_listed, 6, RX8, some .int, { frames := 6, cells := 0, slots := 0, locals := 142 })
theorem vmX8_listed : mv_MV yX8_listed iX8_listed 3 := ⟨⟨cwX8_listed, nwX8, ⟨by decide +kernel, by decide +kernel, by decide +kernel⟩, rfl, rfl⟩, iwX8_listed, ewX8_listed⟩
abbrev iX6_isLength : mv_Y := (cX6_isLength, 1, RX6, some .boolean, { frames := 0, cells := 0, slots := 0, locals := 0 })
theorem smX6_isLength : mv_MS yX6_isLength iX6_isLength 1 := ⟨⟨cwX6_isLength, nwX6, ⟨by decide +kernel, by decide +kernel, by decide +kernel⟩, rfl, rfl⟩, swX6_isLength⟩
abbrev iX6_take : mv_Y := (cX6_take, 4, RX6, some .int, { frames := 1, cells := 0, slots := 0, locals := 26 })
theorem vmX6_take : mv_MV yX6_take iX6_take 3 := ⟨⟨cwX6_take, nwX6, ⟨by decide +kernel, by decide +kernel, by decide +kernel⟩, rfl, rfl⟩, iwX6_take, ewX6_take⟩
abbrev iX6_fits : mv_Y := (cX6_fits, 4, RX6, some .boolean, { frames := 2, cells := 0, slots := 0, locals := 44 })
theorem vmX6_fits : mv_MV yX6_fits iX6_fits 2 := ⟨⟨cwX6_fits, nwX6, ⟨by decide +kernel, by decide +kernel, by decide +kernel⟩, rfl, rfl⟩, iwX6_fits, ewX6_fits⟩
abbrev iX6_wantTaken : mv_Y := (cX6_wantTaken, 4, RX6, some .int, { frames := 0, cells := 0, slots := 0, locals := 0 })
theorem vmX6_wantTaken : mv_MV yX6_wantTaken iX6_wantTaken 2 := ⟨⟨cwX6_wantTaken, nwX6, ⟨by decide +kernel, by decide +kernel, by decide +kernel⟩, rfl, rfl⟩, iwX6_wantTaken, ewX6_wantTaken⟩
abbrev iX6_isWhole : mv_Y := (cX6_isWhole, 3, RX6, some .boolean, { frames := 3, cells := 0, slots := 0, locals := 67 })
theorem vmX6_isWhole : mv_MV yX6_isWhole iX6_isWhole 0 := ⟨⟨cwX6_isWhole, nwX6, ⟨by decide +kernel, by decide +kernel, by decide +kernel⟩, rfl, rfl⟩, iwX6_isWhole, ewX6_isWhole⟩
abbrev iX6_priceTogether : mv_Y := (cX6_priceTogether, 3, RX6, some .int, { frames := 1, cells := 0, slots := 0, locals := 21 })
theorem vmX6_priceTogether : mv_MV yX6_priceTogether iX6_priceTogether 0 := ⟨⟨cwX6_priceTogether, nwX6, ⟨by decide +kernel, by decide +kernel, by decide +kernel⟩, rfl, rfl⟩, iwX6_priceTogether, ewX6_priceTogether⟩
abbrev iX6_given : mv_Y := (cX6_given, 1, RX6, some .int, { frames := 0, cells := 0, slots := 0, locals := 0 })
theorem vmX6_given : mv_MV yX6_given iX6_given 0 := ⟨⟨cwX6_given, nwX6, ⟨by decide +kernel, by decide +kernel, by decide +kernel⟩, rfl, rfl⟩, iwX6_given, ewX6_given⟩
abbrev iX8_word : mv_Y := (cX8_word, 6, RX8, some .int, { frames := 4, cells := 0, slots := 0, locals := 89 })
theorem vmX8_word : mv_MV yX8_word iX8_word 4 := ⟨⟨cwX8_word, nwX8, ⟨by decide +kernel, by decide +kernel, by decide +kernel⟩, rfl, rfl⟩, iwX8_word, ewX8_word⟩
abbrev iX2_manyBelow : mv_Y := (cX2_manyBelow, 6, RX2, some .long, { frames := 5, cells := 0, slots := 0, locals := 119 })
theorem vmX2_manyBelow : mv_MV yX2_manyBelow iX2_manyBelow 2 := ⟨⟨cwX2_manyBelow, nwX2, ⟨by decide +kernel, by decide +kernel, by decide +kernel⟩, rfl, rfl⟩, iwX2_manyBelow, ewX2_manyBelow⟩
abbrev iX2_placeOf : mv_Y := (cX2_placeOf, 10, RX2, some .int, { frames := 6, cells := 0, slots := 0, locals := 144 })
theorem vmX2_placeOf : mv_MV yX2_placeOf iX2_placeOf 4 := ⟨⟨cwX2_placeOf, nwX2, ⟨by decide +kernel, by decide +kernel, by decide +kernel⟩, rfl, rfl⟩, iwX2_placeOf, ewX2_placeOf⟩
abbrev iX8_place : mv_Y := (cX8_place, 6, RX8, some .int, { frames := 7, cells := 0, slots := 0, locals := 173 })
theorem vmX8_place : mv_MV yX8_place iX8_place 3 := ⟨⟨cwX8_place, nwX8, ⟨by decide +kernel, by decide +kernel, by decide +kernel⟩, rfl, rfl⟩, iwX8_place, ewX8_place⟩
abbrev iX3_typesHad : mv_Y := (cX3_typesHad, 4, RX3, some .int, { frames := 3, cells := 0, slots := 0, locals := 67 })
theorem vmX3_typesHad : mv_MV yX3_typesHad iX3_typesHad 1 := ⟨⟨cwX3_typesHad, nwX3, ⟨by decide +kernel, by decide +kernel, by decide +kernel⟩, rfl, rfl⟩, iwX3_typesHad, ewX3_typesHad⟩
abbrev iX8_had : mv_Y := (cX8_had, 1, RX8, some .int, { frames := 4, cells := 0, slots := 0, locals := 90 })
theorem vmX8_had : mv_MV yX8_had iX8_had 0 := ⟨⟨cwX8_had, nwX8, ⟨by decide +kernel, by decide +kernel, by decide +kernel⟩, rfl, rfl⟩, iwX8_had, ewX8_had⟩
abbrev iX3_membersNeeded : mv_Y := (cX3_membersNeeded, 4, RX3, some .int, { frames := 4, cells := 0, slots := 0, locals := 90 })
theorem vmX3_membersNeeded : mv_MV yX3_membersNeeded iX3_membersNeeded 1 := ⟨⟨cwX3_membersNeeded, nwX3, ⟨by decide +kernel, by decide +kernel, by decide +kernel⟩, rfl, rfl⟩, iwX3_membersNeeded, ewX3_membersNeeded⟩
abbrev iX8_needed : mv_Y := (cX8_needed, 2, RX8, some .int, { frames := 5, cells := 0, slots := 0, locals := 113 })
theorem vmX8_needed : mv_MV yX8_needed iX8_needed 1 := ⟨⟨cwX8_needed, nwX8, ⟨by decide +kernel, by decide +kernel, by decide +kernel⟩, rfl, rfl⟩, iwX8_needed, ewX8_needed⟩
abbrev iX8_without : mv_Y := (cX8_without, 3, RX8, some .int, { frames := 4, cells := 0, slots := 0, locals := 89 })
theorem vmX8_without : mv_MV yX8_without iX8_without 2 := ⟨⟨cwX8_without, nwX8, ⟨by decide +kernel, by decide +kernel, by decide +kernel⟩, rfl, rfl⟩, iwX8_without, ewX8_without⟩
abbrev iX7_pricesShown : mv_Y := (cX7_pricesShown, 3, RX7, some .int, { frames := 1, cells := 0, slots := 0, locals := 21 })
theorem vmX7_pricesShown : mv_MV yX7_pricesShown iX7_pricesShown 0 := ⟨⟨cwX7_pricesShown, nwX7, ⟨by decide +kernel, by decide +kernel, by decide +kernel⟩, rfl, rfl⟩, iwX7_pricesShown, ewX7_pricesShown⟩
abbrev iX7_shareOf : mv_Y := (cX7_shareOf, 7, RX7, some .int, { frames := 2, cells := 0, slots := 0, locals := 43 })
theorem vmX7_shareOf : mv_MV yX7_shareOf iX7_shareOf 2 := ⟨⟨cwX7_shareOf, nwX7, ⟨by decide +kernel, by decide +kernel, by decide +kernel⟩, rfl, rfl⟩, iwX7_shareOf, ewX7_shareOf⟩
abbrev iX8_share : mv_Y := (cX8_share, 3, RX8, some .int, { frames := 3, cells := 0, slots := 0, locals := 69 })
theorem vmX8_share : mv_MV yX8_share iX8_share 2 := ⟨⟨cwX8_share, nwX8, ⟨by decide +kernel, by decide +kernel, by decide +kernel⟩, rfl, rfl⟩, iwX8_share, ewX8_share⟩
abbrev iX2_size : mv_Y := (cX2_size, 2, RX2, some .int, { frames := 6, cells := 0, slots := 0, locals := 144 })
theorem vmX2_size : mv_MV yX2_size iX2_size 1 := ⟨⟨cwX2_size, nwX2, ⟨by decide +kernel, by decide +kernel, by decide +kernel⟩, rfl, rfl⟩, iwX2_size, ewX2_size⟩
abbrev iX8_drawn : mv_Y := (cX8_drawn, 11, RX8, some .int, { frames := 7, cells := 0, slots := 0, locals := 165 })
theorem vmX8_drawn : mv_MV yX8_drawn iX8_drawn 4 := ⟨⟨cwX8_drawn, nwX8, ⟨by decide +kernel, by decide +kernel, by decide +kernel⟩, rfl, rfl⟩, iwX8_drawn, ewX8_drawn⟩
abbrev iX8_image : mv_Y := (cX8_image, 2, RX8, some .int, { frames := 2, cells := 0, slots := 0, locals := 47 })
theorem vmX8_image : mv_MV yX8_image iX8_image 1 := ⟨⟨cwX8_image, nwX8, ⟨by decide +kernel, by decide +kernel, by decide +kernel⟩, rfl, rfl⟩, iwX8_image, ewX8_image⟩
abbrev iX8_restore : mv_Y := (cX8_restore, 2, RX8, some .int, { frames := 3, cells := 0, slots := 0, locals := 68 })
theorem vmX8_restore : mv_MV yX8_restore iX8_restore 1 := ⟨⟨cwX8_restore, nwX8, ⟨by decide +kernel, by decide +kernel, by decide +kernel⟩, rfl, rfl⟩, iwX8_restore, ewX8_restore⟩
abbrev iX8_kind : mv_Y := (cX8_kind, 2, RX8, some .int, { frames := 1, cells := 0, slots := 0, locals := 21 })
theorem vmX8_kind : mv_MV yX8_kind iX8_kind 1 := ⟨⟨cwX8_kind, nwX8, ⟨by decide +kernel, by decide +kernel, by decide +kernel⟩, rfl, rfl⟩, iwX8_kind, ewX8_kind⟩
abbrev iX7_isKind : mv_Y := (cX7_isKind, 4, RX7, some .boolean, { frames := 0, cells := 0, slots := 0, locals := 0 })
theorem vmX7_isKind : mv_MV yX7_isKind iX7_isKind 2 := ⟨⟨cwX7_isKind, nwX7, ⟨by decide +kernel, by decide +kernel, by decide +kernel⟩, rfl, rfl⟩, iwX7_isKind, ewX7_isKind⟩
abbrev iX8_as : mv_Y := (cX8_as, 3, RX8, some .int, { frames := 1, cells := 0, slots := 0, locals := 23 })
theorem vmX8_as : mv_MV yX8_as iX8_as 2 := ⟨⟨cwX8_as, nwX8, ⟨by decide +kernel, by decide +kernel, by decide +kernel⟩, rfl, rfl⟩, iwX8_as, ewX8_as⟩
abbrev iX1_begin : mv_Y := (cX1_begin, 2, RX1, none, { frames := 0, cells := 0, slots := 0, locals := 0 })
theorem vmX1_begin : mv_MV yX1_begin iX1_begin 1 := ⟨⟨cwX1_begin, nwX1, ⟨by decide +kernel, by decide +kernel, by decide +kernel⟩, rfl, rfl⟩, iwX1_begin, ewX1_begin⟩
abbrev iX1_body21 : mv_Y := (cX1_body21, 2, RX1, some .int, { frames := 1, cells := 0, slots := 0, locals := 21 })
theorem vmX1_body21 : mv_MV yX1_body21 iX1_body21 1 := ⟨⟨cwX1_body21, nwX1, ⟨by decide +kernel, by decide +kernel, by decide +kernel⟩, rfl, rfl⟩, iwX1_body21, ewX1_body21⟩
abbrev iX1_body24 : mv_Y := (cX1_body24, 2, RX1, some .int, { frames := 2, cells := 0, slots := 0, locals := 42 })
theorem vmX1_body24 : mv_MV yX1_body24 iX1_body24 1 := ⟨⟨cwX1_body24, nwX1, ⟨by decide +kernel, by decide +kernel, by decide +kernel⟩, rfl, rfl⟩, iwX1_body24, ewX1_body24⟩
abbrev iX1_body22 : mv_Y := (cX1_body22, 2, RX1, some .int, { frames := 2, cells := 0, slots := 0, locals := 42 })
theorem vmX1_body22 : mv_MV yX1_body22 iX1_body22 1 := ⟨⟨cwX1_body22, nwX1, ⟨by decide +kernel, by decide +kernel, by decide +kernel⟩, rfl, rfl⟩, iwX1_body22, ewX1_body22⟩
abbrev iX1_markOfLocal : mv_Y := (cX1_markOfLocal, 2, RX1, some .int, { frames := 3, cells := 0, slots := 0, locals := 63 })
theorem vmX1_markOfLocal : mv_MV yX1_markOfLocal iX1_markOfLocal 1 := ⟨⟨cwX1_markOfLocal, nwX1, ⟨by decide +kernel, by decide +kernel, by decide +kernel⟩, rfl, rfl⟩, iwX1_markOfLocal, ewX1_markOfLocal⟩
abbrev iX1_body10 : mv_Y := (cX1_body10, 2, RX1, some .int, { frames := 1, cells := 0, slots := 0, locals := 21 })
theorem vmX1_body10 : mv_MV yX1_body10 iX1_body10 1 := ⟨⟨cwX1_body10, nwX1, ⟨by decide +kernel, by decide +kernel, by decide +kernel⟩, rfl, rfl⟩, iwX1_body10, ewX1_body10⟩
abbrev iX1_body13 : mv_Y := (cX1_body13, 2, RX1, some .int, { frames := 2, cells := 0, slots := 0, locals := 42 })
theorem vmX1_body13 : mv_MV yX1_body13 iX1_body13 1 := ⟨⟨cwX1_body13, nwX1, ⟨by decide +kernel, by decide +kernel, by decide +kernel⟩, rfl, rfl⟩, iwX1_body13, ewX1_body13⟩
abbrev iX1_body14 : mv_Y := (cX1_body14, 2, RX1, some .int, { frames := 3, cells := 0, slots := 0, locals := 63 })
theorem vmX1_body14 : mv_MV yX1_body14 iX1_body14 1 := ⟨⟨cwX1_body14, nwX1, ⟨by decide +kernel, by decide +kernel, by decide +kernel⟩, rfl, rfl⟩, iwX1_body14, ewX1_body14⟩
abbrev iX1_sizeOfCall : mv_Y := (cX1_sizeOfCall, 2, RX1, some .int, { frames := 4, cells := 0, slots := 0, locals := 84 })
theorem vmX1_sizeOfCall : mv_MV yX1_sizeOfCall iX1_sizeOfCall 1 := ⟨⟨cwX1_sizeOfCall, nwX1, ⟨by decide +kernel, by decide +kernel, by decide +kernel⟩, rfl, rfl⟩, iwX1_sizeOfCall, ewX1_sizeOfCall⟩
abbrev iX1_body23 : mv_Y := (cX1_body23, 2, RX1, some .int, { frames := 5, cells := 0, slots := 0, locals := 105 })
theorem vmX1_body23 : mv_MV yX1_body23 iX1_body23 1 := ⟨⟨cwX1_body23, nwX1, ⟨by decide +kernel, by decide +kernel, by decide +kernel⟩, rfl, rfl⟩, iwX1_body23, ewX1_body23⟩
abbrev iX1_markOf : mv_Y := (cX1_markOf, 2, RX1, some .int, { frames := 6, cells := 0, slots := 0, locals := 126 })
theorem vmX1_markOf : mv_MV yX1_markOf iX1_markOf 1 := ⟨⟨cwX1_markOf, nwX1, ⟨by decide +kernel, by decide +kernel, by decide +kernel⟩, rfl, rfl⟩, iwX1_markOf, ewX1_markOf⟩
abbrev iX1_body11 : mv_Y := (cX1_body11, 3, RX1, some .int, { frames := 4, cells := 0, slots := 0, locals := 84 })
theorem vmX1_body11 : mv_MV yX1_body11 iX1_body11 1 := ⟨⟨cwX1_body11, nwX1, ⟨by decide +kernel, by decide +kernel, by decide +kernel⟩, rfl, rfl⟩, iwX1_body11, ewX1_body11⟩
abbrev iX1_body12 : mv_Y := (cX1_body12, 2, RX1, some .int, { frames := 5, cells := 0, slots := 0, locals := 106 })
theorem vmX1_body12 : mv_MV yX1_body12 iX1_body12 1 := ⟨⟨cwX1_body12, nwX1, ⟨by decide +kernel, by decide +kernel, by decide +kernel⟩, rfl, rfl⟩, iwX1_body12, ewX1_body12⟩
abbrev iX1_sizeOf : mv_Y := (cX1_sizeOf, 2, RX1, some .int, { frames := 6, cells := 0, slots := 0, locals := 127 })
theorem vmX1_sizeOf : mv_MV yX1_sizeOf iX1_sizeOf 1 := ⟨⟨cwX1_sizeOf, nwX1, ⟨by decide +kernel, by decide +kernel, by decide +kernel⟩, rfl, rfl⟩, iwX1_sizeOf, ewX1_sizeOf⟩
abbrev iX8_ask : mv_Y := (cX8_ask, 3, RX8, some .int, { frames := 7, cells := 0, slots := 0, locals := 148 })
theorem vmX8_ask : mv_MV yX8_ask iX8_ask 2 := ⟨⟨cwX8_ask, nwX8, ⟨by decide +kernel, by decide +kernel, by decide +kernel⟩, rfl, rfl⟩, iwX8_ask, ewX8_ask⟩
abbrev iX8_trace : mv_Y := (cX8_trace, 2, RX8, some .int, { frames := 0, cells := 0, slots := 0, locals := 0 })
theorem vmX8_trace : mv_MV yX8_trace iX8_trace 1 := ⟨⟨cwX8_trace, nwX8, ⟨by decide +kernel, by decide +kernel, by decide +kernel⟩, rfl, rfl⟩, iwX8_trace, ewX8_trace⟩
abbrev iX5_present : mv_Y := (cX5_present, 3, RX5, some .int, { frames := 1, cells := 0, slots := 0, locals := 21 })
theorem vmX5_present : mv_MV yX5_present iX5_present 0 := ⟨⟨cwX5_present, nwX5, ⟨by decide +kernel, by decide +kernel, by decide +kernel⟩, rfl, rfl⟩, iwX5_present, ewX5_present⟩
abbrev iX8_count : mv_Y := (cX8_count, 2, RX8, some .int, { frames := 2, cells := 0, slots := 0, locals := 43 })
theorem vmX8_count : mv_MV yX8_count iX8_count 1 := ⟨⟨cwX8_count, nwX8, ⟨by decide +kernel, by decide +kernel, by decide +kernel⟩, rfl, rfl⟩, iwX8_count, ewX8_count⟩
abbrev iX8_status : mv_Y := (cX8_status, 1, RX8, some .int, { frames := 0, cells := 0, slots := 0, locals := 0 })
theorem vmX8_status : mv_MV yX8_status iX8_status 0 := ⟨⟨cwX8_status, nwX8, ⟨by decide +kernel, by decide +kernel, by decide +kernel⟩, rfl, rfl⟩, iwX8_status, ewX8_status⟩
abbrev iX9_in : mv_Y := (cX9_in, 6, RX9, some .boolean, { frames := 0, cells := 0, slots := 0, locals := 0 })
theorem smX9_in : mv_MS yX9_in iX9_in 3 := ⟨⟨cwX9_in, nwX9, ⟨by decide +kernel, by decide +kernel, by decide +kernel⟩, rfl, rfl⟩, swX9_in⟩
abbrev iX9_isRow : mv_Y := (cX9_isRow, 1, RX9, some .boolean, { frames := 1, cells := 0, slots := 0, locals := 25 })
theorem smX9_isRow : mv_MS yX9_isRow iX9_isRow 1 := ⟨⟨cwX9_isRow, nwX9, ⟨by decide +kernel, by decide +kernel, by decide +kernel⟩, rfl, rfl⟩, swX9_isRow⟩
abbrev iX9_finds : mv_Y := (cX9_finds, 2, RX9, some .int, { frames := 0, cells := 0, slots := 0, locals := 0 })
theorem vmX9_finds : mv_MV yX9_finds iX9_finds 1 := ⟨⟨cwX9_finds, nwX9, ⟨by decide +kernel, by decide +kernel, by decide +kernel⟩, rfl, rfl⟩, iwX9_finds, ewX9_finds⟩
abbrev iX9_row : mv_Y := (cX9_row, 5, RX9, some .int, { frames := 2, cells := 0, slots := 0, locals := 45 })
theorem vmX9_row : mv_MV yX9_row iX9_row 3 := ⟨⟨cwX9_row, nwX9, ⟨by decide +kernel, by decide +kernel, by decide +kernel⟩, rfl, rfl⟩, iwX9_row, ewX9_row⟩
abbrev iX9_against : mv_Y := (cX9_against, 4, RX9, some .int, { frames := 0, cells := 0, slots := 0, locals := 0 })
theorem vmX9_against : mv_MV yX9_against iX9_against 3 := ⟨⟨cwX9_against, nwX9, ⟨by decide +kernel, by decide +kernel, by decide +kernel⟩, rfl, rfl⟩, iwX9_against, ewX9_against⟩
abbrev iX9_set : mv_Y := (cX9_set, 5, RX9, some .int, { frames := 2, cells := 0, slots := 0, locals := 45 })
theorem vmX9_set : mv_MV yX9_set iX9_set 3 := ⟨⟨cwX9_set, nwX9, ⟨by decide +kernel, by decide +kernel, by decide +kernel⟩, rfl, rfl⟩, iwX9_set, ewX9_set⟩
abbrev iX9_copy : mv_Y := (cX9_copy, 7, RX9, some .int, { frames := 2, cells := 0, slots := 0, locals := 45 })
theorem vmX9_copy : mv_MV yX9_copy iX9_copy 5 := ⟨⟨cwX9_copy, nwX9, ⟨by decide +kernel, by decide +kernel, by decide +kernel⟩, rfl, rfl⟩, iwX9_copy, ewX9_copy⟩
abbrev iX9_drop : mv_Y := (cX9_drop, 3, RX9, some .int, { frames := 2, cells := 0, slots := 0, locals := 45 })
theorem vmX9_drop : mv_MV yX9_drop iX9_drop 1 := ⟨⟨cwX9_drop, nwX9, ⟨by decide +kernel, by decide +kernel, by decide +kernel⟩, rfl, rfl⟩, iwX9_drop, ewX9_drop⟩
abbrev iX9_feed : mv_Y := (cX9_feed, 2, RX9, some .int, { frames := 1, cells := 0, slots := 0, locals := 25 })
theorem vmX9_feed : mv_MV yX9_feed iX9_feed 1 := ⟨⟨cwX9_feed, nwX9, ⟨by decide +kernel, by decide +kernel, by decide +kernel⟩, rfl, rfl⟩, iwX9_feed, ewX9_feed⟩
abbrev iX9_here : mv_Y := (cX9_here, 1, RX9, some .int, { frames := 0, cells := 0, slots := 0, locals := 0 })
theorem vmX9_here : mv_MV yX9_here iX9_here 0 := ⟨⟨cwX9_here, nwX9, ⟨by decide +kernel, by decide +kernel, by decide +kernel⟩, rfl, rfl⟩, iwX9_here, ewX9_here⟩
abbrev iX9_fails : mv_Y := (cX9_fails, 3, RX9, some .boolean, { frames := 0, cells := 0, slots := 0, locals := 0 })
theorem vmX9_fails : mv_MV yX9_fails iX9_fails 2 := ⟨⟨cwX9_fails, nwX9, ⟨by decide +kernel, by decide +kernel, by decide +kernel⟩, rfl, rfl⟩, iwX9_fails, ewX9_fails⟩
abbrev iX9_takes : mv_Y := (cX9_takes, 2, RX9, some .boolean, { frames := 1, cells := 0, slots := 0, locals := 22 })
theorem vmX9_takes : mv_MV yX9_takes iX9_takes 1 := ⟨⟨cwX9_takes, nwX9, ⟨by decide +kernel, by decide +kernel, by decide +kernel⟩, rfl, rfl⟩, iwX9_takes, ewX9_takes⟩
abbrev iX9_takesNumber : mv_Y := (cX9_takesNumber, 4, RX9, some .boolean, { frames := 1, cells := 0, slots := 0, locals := 25 })
theorem vmX9_takesNumber : mv_MV yX9_takesNumber iX9_takesNumber 2 := ⟨⟨cwX9_takesNumber, nwX9, ⟨by decide +kernel, by decide +kernel, by decide +kernel⟩, rfl, rfl⟩, iwX9_takesNumber, ewX9_takesNumber⟩
abbrev iX9_takesLaw : mv_Y := (cX9_takesLaw, 1, RX9, some .boolean, { frames := 2, cells := 0, slots := 0, locals := 48 })
theorem vmX9_takesLaw : mv_MV yX9_takesLaw iX9_takesLaw 0 := ⟨⟨cwX9_takesLaw, nwX9, ⟨by decide +kernel, by decide +kernel, by decide +kernel⟩, rfl, rfl⟩, iwX9_takesLaw, ewX9_takesLaw⟩
abbrev iX9_kindOf : mv_Y := (cX9_kindOf, 1, RX9, some .int, { frames := 0, cells := 0, slots := 0, locals := 0 })
theorem smX9_kindOf : mv_MS yX9_kindOf iX9_kindOf 1 := ⟨⟨cwX9_kindOf, nwX9, ⟨by decide +kernel, by decide +kernel, by decide +kernel⟩, rfl, rfl⟩, swX9_kindOf⟩
abbrev iX9_takesMember : mv_Y := (cX9_takesMember, 4, RX9, some .boolean, { frames := 2, cells := 0, slots := 0, locals := 48 })
theorem vmX9_takesMember : mv_MV yX9_takesMember iX9_takesMember 0 := ⟨⟨cwX9_takesMember, nwX9, ⟨by decide +kernel, by decide +kernel, by decide +kernel⟩, rfl, rfl⟩, iwX9_takesMember, ewX9_takesMember⟩
abbrev iX9_takesType : mv_Y := (cX9_takesType, 2, RX9, some .boolean, { frames := 2, cells := 0, slots := 0, locals := 48 })
theorem vmX9_takesType : mv_MV yX9_takesType iX9_takesType 1 := ⟨⟨cwX9_takesType, nwX9, ⟨by decide +kernel, by decide +kernel, by decide +kernel⟩, rfl, rfl⟩, iwX9_takesType, ewX9_takesType⟩
abbrev iX9_takesAll : mv_Y := (cX9_takesAll, 2, RX9, some .boolean, { frames := 3, cells := 0, slots := 0, locals := 71 })
theorem vmX9_takesAll : mv_MV yX9_takesAll iX9_takesAll 0 := ⟨⟨cwX9_takesAll, nwX9, ⟨by decide +kernel, by decide +kernel, by decide +kernel⟩, rfl, rfl⟩, iwX9_takesAll, ewX9_takesAll⟩
abbrev iX9_copyOf : mv_Y := (cX9_copyOf, 4, RX9, none, { frames := 0, cells := 0, slots := 0, locals := 0 })
theorem vmX9_copyOf : mv_MV yX9_copyOf iX9_copyOf 2 := ⟨⟨cwX9_copyOf, nwX9, ⟨by decide +kernel, by decide +kernel, by decide +kernel⟩, rfl, rfl⟩, iwX9_copyOf, ewX9_copyOf⟩
abbrev iX9_world : mv_Y := (cX9_world, 2, RX9, some .int, { frames := 4, cells := 0, slots := 0, locals := 92 })
theorem vmX9_world : mv_MV yX9_world iX9_world 0 := ⟨⟨cwX9_world, nwX9, ⟨by decide +kernel, by decide +kernel, by decide +kernel⟩, rfl, rfl⟩, iwX9_world, ewX9_world⟩
abbrev iX9_fault : mv_Y := (cX9_fault, 1, RX9, some .int, { frames := 0, cells := 0, slots := 0, locals := 0 })
theorem vmX9_fault : mv_MV yX9_fault iX9_fault 0 := ⟨⟨cwX9_fault, nwX9, ⟨by decide +kernel, by decide +kernel, by decide +kernel⟩, rfl, rfl⟩, iwX9_fault, ewX9_fault⟩
abbrev iX9_isMember : mv_Y := (cX9_isMember, 2, RX9, some .boolean, { frames := 1, cells := 0, slots := 0, locals := 25 })
theorem vmX9_isMember : mv_MV yX9_isMember iX9_isMember 1 := ⟨⟨cwX9_isMember, nwX9, ⟨by decide +kernel, by decide +kernel, by decide +kernel⟩, rfl, rfl⟩, iwX9_isMember, ewX9_isMember⟩
abbrev iX9_minds : mv_Y := (cX9_minds, 2, RX9, none, { frames := 1, cells := 0, slots := 0, locals := 23 })
theorem vmX9_minds : mv_MV yX9_minds iX9_minds 0 := ⟨⟨cwX9_minds, nwX9, ⟨by decide +kernel, by decide +kernel, by decide +kernel⟩, rfl, rfl⟩, iwX9_minds, ewX9_minds⟩
abbrev iX9_hide : mv_Y := (cX9_hide, 3, RX9, some .int, { frames := 2, cells := 0, slots := 0, locals := 46 })
theorem vmX9_hide : mv_MV yX9_hide iX9_hide 2 := ⟨⟨cwX9_hide, nwX9, ⟨by decide +kernel, by decide +kernel, by decide +kernel⟩, rfl, rfl⟩, iwX9_hide, ewX9_hide⟩
abbrev iX9_cost : mv_Y := (cX9_cost, 4, RX9, some .int, { frames := 2, cells := 0, slots := 0, locals := 46 })
theorem vmX9_cost : mv_MV yX9_cost iX9_cost 2 := ⟨⟨cwX9_cost, nwX9, ⟨by decide +kernel, by decide +kernel, by decide +kernel⟩, rfl, rfl⟩, iwX9_cost, ewX9_cost⟩
abbrev iX9_isType : mv_Y := (cX9_isType, 2, RX9, some .boolean, { frames := 1, cells := 0, slots := 0, locals := 25 })
theorem vmX9_isType : mv_MV yX9_isType iX9_isType 1 := ⟨⟨cwX9_isType, nwX9, ⟨by decide +kernel, by decide +kernel, by decide +kernel⟩, rfl, rfl⟩, iwX9_isType, ewX9_isType⟩
abbrev iX9_above : mv_Y := (cX9_above, 4, RX9, some .int, { frames := 2, cells := 0, slots := 0, locals := 46 })
theorem vmX9_above : mv_MV yX9_above iX9_above 2 := ⟨⟨cwX9_above, nwX9, ⟨by decide +kernel, by decide +kernel, by decide +kernel⟩, rfl, rfl⟩, iwX9_above, ewX9_above⟩
abbrev iX9_undo : mv_Y := (cX9_undo, 1, RX9, some .int, { frames := 1, cells := 0, slots := 0, locals := 23 })
theorem vmX9_undo : mv_MV yX9_undo iX9_undo 0 := ⟨⟨cwX9_undo, nwX9, ⟨by decide +kernel, by decide +kernel, by decide +kernel⟩, rfl, rfl⟩, iwX9_undo, ewX9_undo⟩
abbrev iX9_priceOf : mv_Y := (cX9_priceOf, 4, RX9, some .int, { frames := 0, cells := 0, slots := 0, locals := 0 })
theorem vmX9_priceOf : mv_MV yX9_priceOf iX9_priceOf 1 := ⟨⟨cwX9_priceOf, nwX9, ⟨by decide +kernel, by decide +kernel, by decide +kernel⟩, rfl, rfl⟩, iwX9_priceOf, ewX9_priceOf⟩
abbrev iX9_member : mv_Y := (cX9_member, 3, RX9, some .int, { frames := 2, cells := 0, slots := 0, locals := 46 })
theorem vmX9_member : mv_MV yX9_member iX9_member 2 := ⟨⟨cwX9_member, nwX9, ⟨by decide +kernel, by decide +kernel, by decide +kernel⟩, rfl, rfl⟩, iwX9_member, ewX9_member⟩
abbrev iX9_isOf : mv_Y := (cX9_isOf, 4, RX9, some .boolean, { frames := 0, cells := 0, slots := 0, locals := 0 })
theorem vmX9_isOf : mv_MV yX9_isOf iX9_isOf 2 := ⟨⟨cwX9_isOf, nwX9, ⟨by decide +kernel, by decide +kernel, by decide +kernel⟩, rfl, rfl⟩, iwX9_isOf, ewX9_isOf⟩
abbrev iX9_typesOf : mv_Y := (cX9_typesOf, 5, RX9, some .int, { frames := 1, cells := 0, slots := 0, locals := 23 })
theorem vmX9_typesOf : mv_MV yX9_typesOf iX9_typesOf 2 := ⟨⟨cwX9_typesOf, nwX9, ⟨by decide +kernel, by decide +kernel, by decide +kernel⟩, rfl, rfl⟩, iwX9_typesOf, ewX9_typesOf⟩
abbrev iX9_givers : mv_Y := (cX9_givers, 4, RX9, some .int, { frames := 1, cells := 0, slots := 0, locals := 23 })
theorem vmX9_givers : mv_MV yX9_givers iX9_givers 1 := ⟨⟨cwX9_givers, nwX9, ⟨by decide +kernel, by decide +kernel, by decide +kernel⟩, rfl, rfl⟩, iwX9_givers, ewX9_givers⟩
abbrev iX9_type : mv_Y := (cX9_type, 3, RX9, some .int, { frames := 2, cells := 0, slots := 0, locals := 47 })
theorem vmX9_type : mv_MV yX9_type iX9_type 2 := ⟨⟨cwX9_type, nwX9, ⟨by decide +kernel, by decide +kernel, by decide +kernel⟩, rfl, rfl⟩, iwX9_type, ewX9_type⟩
abbrev iX9_has : mv_Y := (cX9_has, 2, RX9, some .boolean, { frames := 0, cells := 0, slots := 0, locals := 0 })
theorem smX9_has : mv_MS yX9_has iX9_has 2 := ⟨⟨cwX9_has, nwX9, ⟨by decide +kernel, by decide +kernel, by decide +kernel⟩, rfl, rfl⟩, swX9_has⟩
abbrev iX9_cut : mv_Y := (cX9_cut, 2, RX9, some .long, { frames := 0, cells := 0, slots := 0, locals := 0 })
theorem smX9_cut : mv_MS yX9_cut iX9_cut 1 := ⟨⟨cwX9_cut, nwX9, ⟨by decide +kernel, by decide +kernel, by decide +kernel⟩, rfl, rfl⟩, swX9_cut⟩
abbrev iX9_headed : mv_Y := (cX9_headed, 9, RX9, some .long, { frames := 1, cells := 0, slots := 0, locals := 23 })
theorem vmX9_headed : mv_MV yX9_headed iX9_headed 2 := ⟨⟨cwX9_headed, nwX9, ⟨by decide +kernel, by decide +kernel, by decide +kernel⟩, rfl, rfl⟩, iwX9_headed, ewX9_headed⟩
abbrev iX9_layWays : mv_Y := (cX9_layWays, 7, RX9, none, { frames := 2, cells := 0, slots := 0, locals := 51 })
theorem vmX9_layWays : mv_MV yX9_layWays iX9_layWays 1 := ⟨⟨cwX9_layWays, nwX9, ⟨by decide +kernel, by decide +kernel, by decide +kernel⟩, rfl, rfl⟩, iwX9_layWays, ewX9_layWays⟩
abbrev iX9_toldOf : mv_Y := (cX9_toldOf, 3, RX9, some .int, { frames := 0, cells := 0, slots := 0, locals := 0 })
theorem vmX9_toldOf : mv_MV yX9_toldOf iX9_toldOf 1 := ⟨⟨cwX9_toldOf, nwX9, ⟨by decide +kernel, by decide +kernel, by decide +kernel⟩, rfl, rfl⟩, iwX9_toldOf, ewX9_toldOf⟩
abbrev iX9_many : mv_Y := (cX9_many, 3, RX9, some .int, { frames := 3, cells := 0, slots := 0, locals := 77 })
theorem vmX9_many : mv_MV yX9_many iX9_many 2 := ⟨⟨cwX9_many, nwX9, ⟨by decide +kernel, by decide +kernel, by decide +kernel⟩, rfl, rfl⟩, iwX9_many, ewX9_many⟩
abbrev iX9_cheapestOf : mv_Y := (cX9_cheapestOf, 3, RX9, some .int, { frames := 0, cells := 0, slots := 0, locals := 0 })
theorem vmX9_cheapestOf : mv_MV yX9_cheapestOf iX9_cheapestOf 1 := ⟨⟨cwX9_cheapestOf, nwX9, ⟨by decide +kernel, by decide +kernel, by decide +kernel⟩, rfl, rfl⟩, iwX9_cheapestOf, ewX9_cheapestOf⟩
abbrev iX9_cheapest : mv_Y := (cX9_cheapest, 2, RX9, some .int, { frames := 3, cells := 0, slots := 0, locals := 77 })
theorem vmX9_cheapest : mv_MV yX9_cheapest iX9_cheapest 1 := ⟨⟨cwX9_cheapest, nwX9, ⟨by decide +kernel, by decide +kernel, by decide +kernel⟩, rfl, rfl⟩, iwX9_cheapest, ewX9_cheapest⟩
abbrev iX9_await0 : mv_Y := (cX9_await0, 6, RX9, none, { frames := 1, cells := 0, slots := 0, locals := 21 })
theorem vmX9_await0 : mv_MV yX9_await0 iX9_await0 1 := ⟨⟨cwX9_await0, nwX9, ⟨by decide +kernel, by decide +kernel, by decide +kernel⟩, rfl, rfl⟩, iwX9_await0, ewX9_await0⟩
abbrev iX9_awaitsFirst : mv_Y := (cX9_awaitsFirst, 3, RX9, none, { frames := 2, cells := 0, slots := 0, locals := 46 })
theorem vmX9_awaitsFirst : mv_MV yX9_awaitsFirst iX9_awaitsFirst 1 := ⟨⟨cwX9_awaitsFirst, nwX9, ⟨by decide +kernel, by decide +kernel, by decide +kernel⟩, rfl, rfl⟩, iwX9_awaitsFirst, ewX9_awaitsFirst⟩
abbrev iX9_gives : mv_Y := (cX9_gives, 3, RX9, none, { frames := 2, cells := 0, slots := 0, locals := 46 })
theorem vmX9_gives : mv_MV yX9_gives iX9_gives 1 := ⟨⟨cwX9_gives, nwX9, ⟨by decide +kernel, by decide +kernel, by decide +kernel⟩, rfl, rfl⟩, iwX9_gives, ewX9_gives⟩
abbrev iX9_goesOn : mv_Y := (cX9_goesOn, 7, RX9, some .long, { frames := 3, cells := 0, slots := 0, locals := 68 })
theorem vmX9_goesOn : mv_MV yX9_goesOn iX9_goesOn 2 := ⟨⟨cwX9_goesOn, nwX9, ⟨by decide +kernel, by decide +kernel, by decide +kernel⟩, rfl, rfl⟩, iwX9_goesOn, ewX9_goesOn⟩
abbrev iX9_laysCode : mv_Y := (cX9_laysCode, 10, RX9, some .boolean, { frames := 4, cells := 0, slots := 0, locals := 94 })
theorem vmX9_laysCode : mv_MV yX9_laysCode iX9_laysCode 2 := ⟨⟨cwX9_laysCode, nwX9, ⟨by decide +kernel, by decide +kernel, by decide +kernel⟩, rfl, rfl⟩, iwX9_laysCode, ewX9_laysCode⟩
abbrev iX9_listed : mv_Y := (cX9_listed, 4, RX9, some .int, { frames := 5, cells := 0, slots := 0, locals := 123 })
theorem vmX9_listed : mv_MV yX9_listed iX9_listed 3 := ⟨⟨cwX9_listed, nwX9, ⟨by decide +kernel, by decide +kernel, by decide +kernel⟩, rfl, rfl⟩, iwX9_listed, ewX9_listed⟩
abbrev iX9_isWorld : mv_Y := (cX9_isWorld, 1, RX9, some .boolean, { frames := 0, cells := 0, slots := 0, locals := 0 })
theorem vmX9_isWorld : mv_MV yX9_isWorld iX9_isWorld 0 := ⟨⟨cwX9_isWorld, nwX9, ⟨by decide +kernel, by decide +kernel, by decide +kernel⟩, rfl, rfl⟩, iwX9_isWorld, ewX9_isWorld⟩
abbrev iX9_isWhole : mv_Y := (cX9_isWhole, 8, RX9, some .boolean, { frames := 2, cells := 0, slots := 0, locals := 46 })
theorem vmX9_isWhole : mv_MV yX9_isWhole iX9_isWhole 2 := ⟨⟨cwX9_isWhole, nwX9, ⟨by decide +kernel, by decide +kernel, by decide +kernel⟩, rfl, rfl⟩, iwX9_isWhole, ewX9_isWhole⟩
abbrev iX9_word : mv_Y := (cX9_word, 6, RX9, some .int, { frames := 3, cells := 0, slots := 0, locals := 73 })
theorem vmX9_word : mv_MV yX9_word iX9_word 4 := ⟨⟨cwX9_word, nwX9, ⟨by decide +kernel, by decide +kernel, by decide +kernel⟩, rfl, rfl⟩, iwX9_word, ewX9_word⟩
abbrev iX9_placeOf : mv_Y := (cX9_placeOf, 10, RX9, some .long, { frames := 4, cells := 0, slots := 0, locals := 94 })
theorem vmX9_placeOf : mv_MV yX9_placeOf iX9_placeOf 3 := ⟨⟨cwX9_placeOf, nwX9, ⟨by decide +kernel, by decide +kernel, by decide +kernel⟩, rfl, rfl⟩, iwX9_placeOf, ewX9_placeOf⟩
abbrev iX9_place : mv_Y := (cX9_place, 8, RX9, some .int, { frames := 5, cells := 0, slots := 0, locals := 123 })
theorem vmX9_place : mv_MV yX9_place iX9_place 3 := ⟨⟨cwX9_place, nwX9, ⟨by decide +kernel, by decide +kernel, by decide +kernel⟩, rfl, rfl⟩, iwX9_place, ewX9_place⟩
abbrev iX9_hadBy : mv_Y := (cX9_hadBy, 8, RX9, some .int, { frames := 2, cells := 0, slots := 0, locals := 47 })
theorem vmX9_hadBy : mv_MV yX9_hadBy iX9_hadBy 1 := ⟨⟨cwX9_hadBy, nwX9, ⟨by decide +kernel, by decide +kernel, by decide +kernel⟩, rfl, rfl⟩, iwX9_hadBy, ewX9_hadBy⟩
abbrev iX9_had : mv_Y := (cX9_had, 1, RX9, some .int, { frames := 3, cells := 0, slots := 0, locals := 74 })
theorem vmX9_had : mv_MV yX9_had iX9_had 0 := ⟨⟨cwX9_had, nwX9, ⟨by decide +kernel, by decide +kernel, by decide +kernel⟩, rfl, rfl⟩, iwX9_had, ewX9_had⟩
abbrev iX9_needed : mv_Y := (cX9_needed, 4, RX9, some .int, { frames := 3, cells := 0, slots := 0, locals := 74 })
theorem vmX9_needed : mv_MV yX9_needed iX9_needed 1 := ⟨⟨cwX9_needed, nwX9, ⟨by decide +kernel, by decide +kernel, by decide +kernel⟩, rfl, rfl⟩, iwX9_needed, ewX9_needed⟩
abbrev iX9_without : mv_Y := (cX9_without, 3, RX9, some .int, { frames := 3, cells := 0, slots := 0, locals := 77 })
theorem vmX9_without : mv_MV yX9_without iX9_without 2 := ⟨⟨cwX9_without, nwX9, ⟨by decide +kernel, by decide +kernel, by decide +kernel⟩, rfl, rfl⟩, iwX9_without, ewX9_without⟩
abbrev iX9_share : mv_Y := (cX9_share, 7, RX9, some .int, { frames := 2, cells := 0, slots := 0, locals := 46 })
theorem vmX9_share : mv_MV yX9_share iX9_share 2 := ⟨⟨cwX9_share, nwX9, ⟨by decide +kernel, by decide +kernel, by decide +kernel⟩, rfl, rfl⟩, iwX9_share, ewX9_share⟩
abbrev iX9_drawn : mv_Y := (cX9_drawn, 13, RX9, some .int, { frames := 5, cells := 0, slots := 0, locals := 123 })
theorem vmX9_drawn : mv_MV yX9_drawn iX9_drawn 4 := ⟨⟨cwX9_drawn, nwX9, ⟨by decide +kernel, by decide +kernel, by decide +kernel⟩, rfl, rfl⟩, iwX9_drawn, ewX9_drawn⟩
abbrev iX9_image : mv_Y := (cX9_image, 2, RX9, some .int, { frames := 1, cells := 0, slots := 0, locals := 25 })
theorem vmX9_image : mv_MV yX9_image iX9_image 1 := ⟨⟨cwX9_image, nwX9, ⟨by decide +kernel, by decide +kernel, by decide +kernel⟩, rfl, rfl⟩, iwX9_image, ewX9_image⟩
abbrev iX9_restore : mv_Y := (cX9_restore, 2, RX9, some .int, { frames := 1, cells := 0, slots := 0, locals := 25 })
theorem vmX9_restore : mv_MV yX9_restore iX9_restore 1 := ⟨⟨cwX9_restore, nwX9, ⟨by decide +kernel, by decide +kernel, by decide +kernel⟩, rfl, rfl⟩, iwX9_restore, ewX9_restore⟩
abbrev iX9_kind : mv_Y := (cX9_kind, 2, RX9, some .int, { frames := 2, cells := 0, slots := 0, locals := 46 })
theorem vmX9_kind : mv_MV yX9_kind iX9_kind 1 := ⟨⟨cwX9_kind, nwX9, ⟨by decide +kernel, by decide +kernel, by decide +kernel⟩, rfl, rfl⟩, iwX9_kind, ewX9_kind⟩
abbrev iX9_isA : mv_Y := (cX9_isA, 2, RX9, some .boolean, { frames := 0, cells := 0, slots := 0, locals := 0 })
theorem smX9_isA : mv_MS yX9_isA iX9_isA 2 := ⟨⟨cwX9_isA, nwX9, ⟨by decide +kernel, by decide +kernel, by decide +kernel⟩, rfl, rfl⟩, swX9_isA⟩
abbrev iX9_as : mv_Y := (cX9_as, 3, RX9, some .int, { frames := 2, cells := 0, slots := 0, locals := 46 })
theorem vmX9_as : mv_MV yX9_as iX9_as 2 := ⟨⟨cwX9_as, nwX9, ⟨by decide +kernel, by decide +kernel, by decide +kernel⟩, rfl, rfl⟩, iwX9_as, ewX9_as⟩
abbrev iX9_traces : mv_Y := (cX9_traces, 2, RX9, none, { frames := 0, cells := 0, slots := 0, locals := 0 })
theorem vmX9_traces : mv_MV yX9_traces iX9_traces 1 := ⟨⟨cwX9_traces, nwX9, ⟨by decide +kernel, by decide +kernel, by decide +kernel⟩, rfl, rfl⟩, iwX9_traces, ewX9_traces⟩
abbrev iX9_mark20 : mv_Y := (cX9_mark20, 2, RX9, some .int, { frames := 1, cells := 0, slots := 0, locals := 21 })
theorem vmX9_mark20 : mv_MV yX9_mark20 iX9_mark20 1 := ⟨⟨cwX9_mark20, nwX9, ⟨by decide +kernel, by decide +kernel, by decide +kernel⟩, rfl, rfl⟩, iwX9_mark20, ewX9_mark20⟩
abbrev iX9_mark21 : mv_Y := (cX9_mark21, 2, RX9, some .int, { frames := 2, cells := 0, slots := 0, locals := 42 })
theorem vmX9_mark21 : mv_MV yX9_mark21 iX9_mark21 1 := ⟨⟨cwX9_mark21, nwX9, ⟨by decide +kernel, by decide +kernel, by decide +kernel⟩, rfl, rfl⟩, iwX9_mark21, ewX9_mark21⟩
abbrev iX9_markOf : mv_Y := (cX9_markOf, 2, RX9, some .int, { frames := 3, cells := 0, slots := 0, locals := 63 })
theorem vmX9_markOf : mv_MV yX9_markOf iX9_markOf 1 := ⟨⟨cwX9_markOf, nwX9, ⟨by decide +kernel, by decide +kernel, by decide +kernel⟩, rfl, rfl⟩, iwX9_markOf, ewX9_markOf⟩
abbrev iX9_size10 : mv_Y := (cX9_size10, 2, RX9, some .int, { frames := 1, cells := 0, slots := 0, locals := 21 })
theorem vmX9_size10 : mv_MV yX9_size10 iX9_size10 1 := ⟨⟨cwX9_size10, nwX9, ⟨by decide +kernel, by decide +kernel, by decide +kernel⟩, rfl, rfl⟩, iwX9_size10, ewX9_size10⟩
abbrev iX9_size11 : mv_Y := (cX9_size11, 3, RX9, some .int, { frames := 4, cells := 0, slots := 0, locals := 84 })
theorem vmX9_size11 : mv_MV yX9_size11 iX9_size11 1 := ⟨⟨cwX9_size11, nwX9, ⟨by decide +kernel, by decide +kernel, by decide +kernel⟩, rfl, rfl⟩, iwX9_size11, ewX9_size11⟩
abbrev iX9_size13 : mv_Y := (cX9_size13, 2, RX9, some .int, { frames := 2, cells := 0, slots := 0, locals := 42 })
theorem vmX9_size13 : mv_MV yX9_size13 iX9_size13 1 := ⟨⟨cwX9_size13, nwX9, ⟨by decide +kernel, by decide +kernel, by decide +kernel⟩, rfl, rfl⟩, iwX9_size13, ewX9_size13⟩
abbrev iX9_sizeOf : mv_Y := (cX9_sizeOf, 2, RX9, some .int, { frames := 5, cells := 0, slots := 0, locals := 106 })
theorem vmX9_sizeOf : mv_MV yX9_sizeOf iX9_sizeOf 1 := ⟨⟨cwX9_sizeOf, nwX9, ⟨by decide +kernel, by decide +kernel, by decide +kernel⟩, rfl, rfl⟩, iwX9_sizeOf, ewX9_sizeOf⟩
abbrev iX9_mark23 : mv_Y := (cX9_mark23, 3, RX9, some .int, { frames := 6, cells := 0, slots := 0, locals := 127 })
theorem vmX9_mark23 : mv_MV yX9_mark23 iX9_mark23 1 := ⟨⟨cwX9_mark23, nwX9, ⟨by decide +kernel, by decide +kernel, by decide +kernel⟩, rfl, rfl⟩, iwX9_mark23, ewX9_mark23⟩
abbrev iX9_ask : mv_Y := (cX9_ask, 3, RX9, some .int, { frames := 7, cells := 0, slots := 0, locals := 149 })
theorem vmX9_ask : mv_MV yX9_ask iX9_ask 2 := ⟨⟨cwX9_ask, nwX9, ⟨by decide +kernel, by decide +kernel, by decide +kernel⟩, rfl, rfl⟩, iwX9_ask, ewX9_ask⟩
abbrev iX9_trace : mv_Y := (cX9_trace, 2, RX9, some .int, { frames := 1, cells := 0, slots := 0, locals := 25 })
theorem vmX9_trace : mv_MV yX9_trace iX9_trace 1 := ⟨⟨cwX9_trace, nwX9, ⟨by decide +kernel, by decide +kernel, by decide +kernel⟩, rfl, rfl⟩, iwX9_trace, ewX9_trace⟩
abbrev iX9_rowsThere : mv_Y := (cX9_rowsThere, 3, RX9, some .int, { frames := 0, cells := 0, slots := 0, locals := 0 })
theorem vmX9_rowsThere : mv_MV yX9_rowsThere iX9_rowsThere 0 := ⟨⟨cwX9_rowsThere, nwX9, ⟨by decide +kernel, by decide +kernel, by decide +kernel⟩, rfl, rfl⟩, iwX9_rowsThere, ewX9_rowsThere⟩
abbrev iX9_count : mv_Y := (cX9_count, 2, RX9, some .int, { frames := 1, cells := 0, slots := 0, locals := 22 })
theorem vmX9_count : mv_MV yX9_count iX9_count 1 := ⟨⟨cwX9_count, nwX9, ⟨by decide +kernel, by decide +kernel, by decide +kernel⟩, rfl, rfl⟩, iwX9_count, ewX9_count⟩
abbrev iX9_status : mv_Y := (cX9_status, 1, RX9, some .int, { frames := 0, cells := 0, slots := 0, locals := 0 })
theorem vmX9_status : mv_MV yX9_status iX9_status 0 := ⟨⟨cwX9_status, nwX9, ⟨by decide +kernel, by decide +kernel, by decide +kernel⟩, rfl, rfl⟩, iwX9_status, ewX9_status⟩

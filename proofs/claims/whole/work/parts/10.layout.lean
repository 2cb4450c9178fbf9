/-! ## tables: the cells as the constructors lay them, the constants, the methods, the words -/
def jG : List jKd := [
  (13, 8, [some 1, some 6, some 11, some 19, some 66, some 68, some 71, some 77]),
  (6, 8, [some 2, some 3, some 4, some 5, none, none, none, none]),
  (0, 6, []),
  (0, 6, []),
  (0, 6, []),
  (0, 6, []),
  (9, 6, [some 7, some 8, some 9, some 10, none, none]),
  (0, 60, []),
  (0, 60, []),
  (0, 60, []),
  (0, 60, []),
  (5, 8, [some 12, some 17, some 18, none, none, none, none, none]),
  (6, 8, [some 13, some 14, some 15, some 16, none, none, none, none]),
  (0, 6, []),
  (0, 6, []),
  (0, 6, []),
  (0, 6, []),
  (0, 6, []),
  (0, 60, []),
  (8, 11, [some 20, some 21, some 43, some 44, some 63, some 64, some 65, none, none, none, none]),
  (0, 3, []),
  (3, 21, [some 22, some 23, some 24, some 25, some 26, some 27, some 28, some 29, some 30, some 31, some 32, some 33, some 34, some 35, some 36, some 37, some 38, some 39, some 40, some 41, some 42]),
  (0, 13, []),
  (0, 13, []),
  (0, 13, []),
  (0, 13, []),
  (0, 13, []),
  (0, 13, []),
  (0, 13, []),
  (0, 13, []),
  (0, 13, []),
  (0, 13, []),
  (0, 13, []),
  (0, 13, []),
  (0, 13, []),
  (0, 13, []),
  (0, 13, []),
  (0, 13, []),
  (0, 13, []),
  (0, 13, []),
  (0, 13, []),
  (0, 13, []),
  (0, 13, []),
  (0, 21, []),
  (3, 18, [some 45, some 46, some 47, some 48, some 49, some 50, some 51, some 52, some 53, some 54, some 55, some 56, some 57, some 58, some 59, some 60, some 61, some 62]),
  (0, 39, []),
  (0, 39, []),
  (0, 39, []),
  (0, 39, []),
  (0, 39, []),
  (0, 39, []),
  (0, 39, []),
  (0, 39, []),
  (0, 39, []),
  (0, 39, []),
  (0, 39, []),
  (0, 39, []),
  (0, 39, []),
  (0, 39, []),
  (0, 39, []),
  (0, 39, []),
  (0, 39, []),
  (0, 39, []),
  (0, 2556, []),
  (0, 7, []),
  (0, 18, []),
  (10, 3, [some 67, none, none]),
  (0, 6, []),
  (11, 3, [some 69, some 70, none]),
  (0, 8, []),
  (0, 8, []),
  (12, 2, [some 72, none]),
  (6, 8, [some 73, some 74, some 75, some 76, none, none, none, none]),
  (0, 6, []),
  (0, 6, []),
  (0, 6, []),
  (0, 6, []),
  (4, 2, [some 78, some 87]),
  (7, 3, [some 79, some 84, none]),
  (6, 8, [some 80, some 81, some 82, some 83, none, none, none, none]),
  (0, 6, []),
  (0, 6, []),
  (0, 6, []),
  (0, 6, []),
  (11, 3, [some 85, some 86, none]),
  (0, 8, []),
  (0, 8, []),
  (7, 3, [some 88, some 93, none]),
  (6, 8, [some 89, some 90, some 91, some 92, none, none, none, none]),
  (0, 6, []),
  (0, 6, []),
  (0, 6, []),
  (0, 6, []),
  (11, 3, [some 94, some 95, none]),
  (0, 8, []),
  (0, 8, []),
  (14, 38, [none, none, none, none, some 97, some 98, some 99, some 100, some 101, some 102, none, some 103, none, some 104, some 105, some 106, none, none, none, none, some 107, some 108, some 109, none, none, some 110, some 111, some 112, some 113, some 114, some 115, some 116, some 117, some 118, some 119, some 120, none, none]),
  (0, 6, []),
  (0, 6, []),
  (0, 6, []),
  (0, 6, []),
  (0, 8, []),
  (0, 8, []),
  (0, 60, []),
  (0, 60, []),
  (0, 60, []),
  (0, 60, []),
  (0, 100, []),
  (0, 6, []),
  (0, 15, []),
  (0, 3, []),
  (0, 78, []),
  (0, 3, []),
  (0, 234, []),
  (0, 123032, []),
  (0, 3, []),
  (0, 6, []),
  (1, 100, []),
  (1, 100, []),
  (0, 120, []),
  (2, 2, [])]
theorem g_0 : jG[0]? = some (13, 8, [some 1, some 6, some 11, some 19, some 66, some 68, some 71, some 77]) := rfl
theorem g_1 : jG[1]? = some (6, 8, [some 2, some 3, some 4, some 5, none, none, none, none]) := rfl
theorem g_2 : jG[2]? = some (0, 6, []) := rfl
theorem g_3 : jG[3]? = some (0, 6, []) := rfl
theorem g_4 : jG[4]? = some (0, 6, []) := rfl
theorem g_5 : jG[5]? = some (0, 6, []) := rfl
theorem g_6 : jG[6]? = some (9, 6, [some 7, some 8, some 9, some 10, none, none]) := rfl
theorem g_7 : jG[7]? = some (0, 60, []) := rfl
theorem g_8 : jG[8]? = some (0, 60, []) := rfl
theorem g_9 : jG[9]? = some (0, 60, []) := rfl
theorem g_10 : jG[10]? = some (0, 60, []) := rfl
theorem g_11 : jG[11]? = some (5, 8, [some 12, some 17, some 18, none, none, none, none, none]) := rfl
theorem g_12 : jG[12]? = some (6, 8, [some 13, some 14, some 15, some 16, none, none, none, none]) := rfl
theorem g_13 : jG[13]? = some (0, 6, []) := rfl
theorem g_14 : jG[14]? = some (0, 6, []) := rfl
theorem g_15 : jG[15]? = some (0, 6, []) := rfl
theorem g_16 : jG[16]? = some (0, 6, []) := rfl
theorem g_17 : jG[17]? = some (0, 6, []) := rfl
theorem g_18 : jG[18]? = some (0, 60, []) := rfl
theorem g_19 : jG[19]? = some (8, 11, [some 20, some 21, some 43, some 44, some 63, some 64, some 65, none, none, none, none]) := rfl
theorem g_20 : jG[20]? = some (0, 3, []) := rfl
theorem g_21 : jG[21]? = some (3, 21, [some 22, some 23, some 24, some 25, some 26, some 27, some 28, some 29, some 30, some 31, some 32, some 33, some 34, some 35, some 36, some 37, some 38, some 39, some 40, some 41, some 42]) := rfl
theorem g_22 : jG[22]? = some (0, 13, []) := rfl
theorem g_23 : jG[23]? = some (0, 13, []) := rfl
theorem g_24 : jG[24]? = some (0, 13, []) := rfl
theorem g_25 : jG[25]? = some (0, 13, []) := rfl
theorem g_26 : jG[26]? = some (0, 13, []) := rfl
theorem g_27 : jG[27]? = some (0, 13, []) := rfl
theorem g_28 : jG[28]? = some (0, 13, []) := rfl
theorem g_29 : jG[29]? = some (0, 13, []) := rfl
theorem g_30 : jG[30]? = some (0, 13, []) := rfl
theorem g_31 : jG[31]? = some (0, 13, []) := rfl
theorem g_32 : jG[32]? = some (0, 13, []) := rfl
theorem g_33 : jG[33]? = some (0, 13, []) := rfl
theorem g_34 : jG[34]? = some (0, 13, []) := rfl
theorem g_35 : jG[35]? = some (0, 13, []) := rfl
theorem g_36 : jG[36]? = some (0, 13, []) := rfl
theorem g_37 : jG[37]? = some (0, 13, []) := rfl
theorem g_38 : jG[38]? = some (0, 13, []) := rfl
theorem g_39 : jG[39]? = some (0, 13, []) := rfl
theorem g_40 : jG[40]? = some (0, 13, []) := rfl
theorem g_41 : jG[41]? = some (0, 13, []) := rfl
theorem g_42 : jG[42]? = some (0, 13, []) := rfl
theorem g_43 : jG[43]? = some (0, 21, []) := rfl
theorem g_44 : jG[44]? = some (3, 18, [some 45, some 46, some 47, some 48, some 49, some 50, some 51, some 52, some 53, some 54, some 55, some 56, some 57, some 58, some 59, some 60, some 61, some 62]) := rfl
theorem g_45 : jG[45]? = some (0, 39, []) := rfl
theorem g_46 : jG[46]? = some (0, 39, []) := rfl
theorem g_47 : jG[47]? = some (0, 39, []) := rfl
theorem g_48 : jG[48]? = some (0, 39, []) := rfl
theorem g_49 : jG[49]? = some (0, 39, []) := rfl
theorem g_50 : jG[50]? = some (0, 39, []) := rfl
theorem g_51 : jG[51]? = some (0, 39, []) := rfl
theorem g_52 : jG[52]? = some (0, 39, []) := rfl
theorem g_53 : jG[53]? = some (0, 39, []) := rfl
theorem g_54 : jG[54]? = some (0, 39, []) := rfl
theorem g_55 : jG[55]? = some (0, 39, []) := rfl
theorem g_56 : jG[56]? = some (0, 39, []) := rfl
theorem g_57 : jG[57]? = some (0, 39, []) := rfl
theorem g_58 : jG[58]? = some (0, 39, []) := rfl
theorem g_59 : jG[59]? = some (0, 39, []) := rfl
theorem g_60 : jG[60]? = some (0, 39, []) := rfl
theorem g_61 : jG[61]? = some (0, 39, []) := rfl
theorem g_62 : jG[62]? = some (0, 39, []) := rfl
theorem g_63 : jG[63]? = some (0, 2556, []) := rfl
theorem g_64 : jG[64]? = some (0, 7, []) := rfl
theorem g_65 : jG[65]? = some (0, 18, []) := rfl
theorem g_66 : jG[66]? = some (10, 3, [some 67, none, none]) := rfl
theorem g_67 : jG[67]? = some (0, 6, []) := rfl
theorem g_68 : jG[68]? = some (11, 3, [some 69, some 70, none]) := rfl
theorem g_69 : jG[69]? = some (0, 8, []) := rfl
theorem g_70 : jG[70]? = some (0, 8, []) := rfl
theorem g_71 : jG[71]? = some (12, 2, [some 72, none]) := rfl
theorem g_72 : jG[72]? = some (6, 8, [some 73, some 74, some 75, some 76, none, none, none, none]) := rfl
theorem g_73 : jG[73]? = some (0, 6, []) := rfl
theorem g_74 : jG[74]? = some (0, 6, []) := rfl
theorem g_75 : jG[75]? = some (0, 6, []) := rfl
theorem g_76 : jG[76]? = some (0, 6, []) := rfl
theorem g_77 : jG[77]? = some (4, 2, [some 78, some 87]) := rfl
theorem g_78 : jG[78]? = some (7, 3, [some 79, some 84, none]) := rfl
theorem g_79 : jG[79]? = some (6, 8, [some 80, some 81, some 82, some 83, none, none, none, none]) := rfl
theorem g_80 : jG[80]? = some (0, 6, []) := rfl
theorem g_81 : jG[81]? = some (0, 6, []) := rfl
theorem g_82 : jG[82]? = some (0, 6, []) := rfl
theorem g_83 : jG[83]? = some (0, 6, []) := rfl
theorem g_84 : jG[84]? = some (11, 3, [some 85, some 86, none]) := rfl
theorem g_85 : jG[85]? = some (0, 8, []) := rfl
theorem g_86 : jG[86]? = some (0, 8, []) := rfl
theorem g_87 : jG[87]? = some (7, 3, [some 88, some 93, none]) := rfl
theorem g_88 : jG[88]? = some (6, 8, [some 89, some 90, some 91, some 92, none, none, none, none]) := rfl
theorem g_89 : jG[89]? = some (0, 6, []) := rfl
theorem g_90 : jG[90]? = some (0, 6, []) := rfl
theorem g_91 : jG[91]? = some (0, 6, []) := rfl
theorem g_92 : jG[92]? = some (0, 6, []) := rfl
theorem g_93 : jG[93]? = some (11, 3, [some 94, some 95, none]) := rfl
theorem g_94 : jG[94]? = some (0, 8, []) := rfl
theorem g_95 : jG[95]? = some (0, 8, []) := rfl
theorem g_96 : jG[96]? = some (14, 38, [none, none, none, none, some 97, some 98, some 99, some 100, some 101, some 102, none, some 103, none, some 104, some 105, some 106, none, none, none, none, some 107, some 108, some 109, none, none, some 110, some 111, some 112, some 113, some 114, some 115, some 116, some 117, some 118, some 119, some 120, none, none]) := rfl
theorem g_97 : jG[97]? = some (0, 6, []) := rfl
theorem g_98 : jG[98]? = some (0, 6, []) := rfl
theorem g_99 : jG[99]? = some (0, 6, []) := rfl
theorem g_100 : jG[100]? = some (0, 6, []) := rfl
theorem g_101 : jG[101]? = some (0, 8, []) := rfl
theorem g_102 : jG[102]? = some (0, 8, []) := rfl
theorem g_103 : jG[103]? = some (0, 60, []) := rfl
theorem g_104 : jG[104]? = some (0, 60, []) := rfl
theorem g_105 : jG[105]? = some (0, 60, []) := rfl
theorem g_106 : jG[106]? = some (0, 60, []) := rfl
theorem g_107 : jG[107]? = some (0, 100, []) := rfl
theorem g_108 : jG[108]? = some (0, 6, []) := rfl
theorem g_109 : jG[109]? = some (0, 15, []) := rfl
theorem g_110 : jG[110]? = some (0, 3, []) := rfl
theorem g_111 : jG[111]? = some (0, 78, []) := rfl
theorem g_112 : jG[112]? = some (0, 3, []) := rfl
theorem g_113 : jG[113]? = some (0, 234, []) := rfl
theorem g_114 : jG[114]? = some (0, 123032, []) := rfl
theorem g_115 : jG[115]? = some (0, 3, []) := rfl
theorem g_116 : jG[116]? = some (0, 6, []) := rfl
theorem g_117 : jG[117]? = some (1, 100, []) := rfl
theorem g_118 : jG[118]? = some (1, 100, []) := rfl
theorem g_119 : jG[119]? = some (0, 120, []) := rfl
theorem g_120 : jG[120]? = some (2, 2, []) := rfl
def jHi (h : Nat) : Prop := jG[h]? = some (6, 8, [some (h + 1), some (h + 2), some (h + 3), some (h + 4), none, none, none, none]) ∧ jG[h + 1]? = some (0, 6, []) ∧ jG[h + 2]? = some (0, 6, []) ∧ jG[h + 3]? = some (0, 6, []) ∧ jG[h + 4]? = some (0, 6, [])
def jSi (h : Nat) : Prop := jG[h]? = some (11, 3, [some (h + 1), some (h + 2), none]) ∧ jG[h + 1]? = some (0, 8, []) ∧ jG[h + 2]? = some (0, 8, [])
def jIm (h : Nat) : Prop := jG[h]? = some (7, 3, [some (h + 1), some (h + 6), none]) ∧ jHi (h + 1) ∧ jSi (h + 6)
theorem hi_1 : jHi 1 := ⟨rfl, rfl, rfl, rfl, rfl⟩
theorem hi_12 : jHi 12 := ⟨rfl, rfl, rfl, rfl, rfl⟩
theorem hi_72 : jHi 72 := ⟨rfl, rfl, rfl, rfl, rfl⟩
theorem hi_79 : jHi 79 := ⟨rfl, rfl, rfl, rfl, rfl⟩
theorem hi_88 : jHi 88 := ⟨rfl, rfl, rfl, rfl, rfl⟩
theorem si_68 : jSi 68 := ⟨rfl, rfl, rfl⟩
theorem si_84 : jSi 84 := ⟨rfl, rfl, rfl⟩
theorem si_93 : jSi 93 := ⟨rfl, rfl, rfl⟩
theorem im_78 : jIm 78 := ⟨rfl, hi_79, si_84⟩
theorem im_87 : jIm 87 := ⟨rfl, hi_88, si_93⟩
theorem gr_21 {i : Int} (h0 : 0 ≤ i) (h1 : i < 21) : ([some 22, some 23, some 24, some 25, some 26, some 27, some 28, some 29, some 30, some 31, some 32, some 33, some 34, some 35, some 36, some 37, some 38, some 39, some 40, some 41, some 42] : List (Option Nat))[i.toNat]? = some (some (22 + i.toNat)) ∧ jG[22 + i.toNat]? = some (0, 13, []) := by
  have h2 : i.toNat < 21 := by omega
  revert h2
  generalize i.toNat = k
  intro h2
  have hall : ∀ k, k < 21 → ([some 22, some 23, some 24, some 25, some 26, some 27, some 28, some 29, some 30, some 31, some 32, some 33, some 34, some 35, some 36, some 37, some 38, some 39, some 40, some 41, some 42] : List (Option Nat))[k]? = some (some (22 + k)) ∧ jG[22 + k]? = some (0, 13, []) := by decide +kernel
  exact hall k h2
theorem gr_44 {i : Int} (h0 : 0 ≤ i) (h1 : i < 18) : ([some 45, some 46, some 47, some 48, some 49, some 50, some 51, some 52, some 53, some 54, some 55, some 56, some 57, some 58, some 59, some 60, some 61, some 62] : List (Option Nat))[i.toNat]? = some (some (45 + i.toNat)) ∧ jG[45 + i.toNat]? = some (0, 39, []) := by
  have h2 : i.toNat < 18 := by omega
  revert h2
  generalize i.toNat = k
  intro h2
  have hall : ∀ k, k < 18 → ([some 45, some 46, some 47, some 48, some 49, some 50, some 51, some 52, some 53, some 54, some 55, some 56, some 57, some 58, some 59, some 60, some 61, some 62] : List (Option Nat))[k]? = some (some (45 + k)) ∧ jG[45 + k]? = some (0, 39, []) := by decide +kernel
  exact hall k h2
theorem gr_77 {i : Int} (h0 : 0 ≤ i) (h1 : i < 2) : ([some 78, some 87] : List (Option Nat))[i.toNat]? = some (some (78 + 9 * i.toNat)) ∧ jIm (78 + 9 * i.toNat) := by
  have h2 : i.toNat = 0 ∨ i.toNat = 1 := by omega
  rcases h2 with h2 | h2 <;> rw [h2]
  · exact ⟨rfl, im_78⟩
  · exact ⟨rfl, im_87⟩
theorem jc_m6 : jIn (-6) := ⟨by decide, by decide⟩
theorem jc_m5 : jIn (-5) := ⟨by decide, by decide⟩
theorem jc_m4 : jIn (-4) := ⟨by decide, by decide⟩
theorem jc_m3 : jIn (-3) := ⟨by decide, by decide⟩
theorem jc_m2 : jIn (-2) := ⟨by decide, by decide⟩
theorem jc_m1 : jIn (-1) := ⟨by decide, by decide⟩
theorem jc_0 : jIn 0 := ⟨by decide, by decide⟩
theorem jc_1 : jIn 1 := ⟨by decide, by decide⟩
theorem jc_2 : jIn 2 := ⟨by decide, by decide⟩
theorem jc_3 : jIn 3 := ⟨by decide, by decide⟩
theorem jc_4 : jIn 4 := ⟨by decide, by decide⟩
theorem jc_5 : jIn 5 := ⟨by decide, by decide⟩
theorem jc_6 : jIn 6 := ⟨by decide, by decide⟩
theorem jc_7 : jIn 7 := ⟨by decide, by decide⟩
theorem jc_8 : jIn 8 := ⟨by decide, by decide⟩
theorem jc_9 : jIn 9 := ⟨by decide, by decide⟩
theorem jc_10 : jIn 10 := ⟨by decide, by decide⟩
theorem jc_12 : jIn 12 := ⟨by decide, by decide⟩
theorem jc_13 : jIn 13 := ⟨by decide, by decide⟩
theorem jc_14 : jIn 14 := ⟨by decide, by decide⟩
theorem jc_16 : jIn 16 := ⟨by decide, by decide⟩
theorem jc_26 : jIn 26 := ⟨by decide, by decide⟩
theorem jc_27 : jIn 27 := ⟨by decide, by decide⟩
theorem jc_33 : jIn 33 := ⟨by decide, by decide⟩
theorem jc_39 : jIn 39 := ⟨by decide, by decide⟩
theorem jc_40 : jIn 40 := ⟨by decide, by decide⟩
theorem jc_42 : jIn 42 := ⟨by decide, by decide⟩
theorem jc_46 : jIn 46 := ⟨by decide, by decide⟩
theorem jc_60 : jIn 60 := ⟨by decide, by decide⟩
theorem jc_62 : jIn 62 := ⟨by decide, by decide⟩
theorem jc_63 : jIn 63 := ⟨by decide, by decide⟩
theorem jc_65 : jIn 65 := ⟨by decide, by decide⟩
theorem jc_71 : jIn 71 := ⟨by decide, by decide⟩
theorem jc_74 : jIn 74 := ⟨by decide, by decide⟩
theorem jc_75 : jIn 75 := ⟨by decide, by decide⟩
theorem jc_78 : jIn 78 := ⟨by decide, by decide⟩
theorem jc_98 : jIn 98 := ⟨by decide, by decide⟩
theorem jc_99 : jIn 99 := ⟨by decide, by decide⟩
theorem jc_100 : jIn 100 := ⟨by decide, by decide⟩
theorem jc_104 : jIn 104 := ⟨by decide, by decide⟩
theorem jc_120 : jIn 120 := ⟨by decide, by decide⟩
theorem jc_126 : jIn 126 := ⟨by decide, by decide⟩
theorem jc_156 : jIn 156 := ⟨by decide, by decide⟩
theorem jc_200 : jIn 200 := ⟨by decide, by decide⟩
theorem jc_728 : jIn 728 := ⟨by decide, by decide⟩
theorem jc_1000 : jIn 1000 := ⟨by decide, by decide⟩
theorem jc_2556 : jIn 2556 := ⟨by decide, by decide⟩
theorem jc_9999 : jIn 9999 := ⟨by decide, by decide⟩
theorem jc_17576 : jIn 17576 := ⟨by decide, by decide⟩
theorem jb_m6 : (Int8.ofInt (-6)).toInt32 = Int32.ofInt (-6) := by decide +kernel
theorem jb_m5 : (Int8.ofInt (-5)).toInt32 = Int32.ofInt (-5) := by decide +kernel
theorem jb_m4 : (Int8.ofInt (-4)).toInt32 = Int32.ofInt (-4) := by decide +kernel
theorem jb_m3 : (Int8.ofInt (-3)).toInt32 = Int32.ofInt (-3) := by decide +kernel
theorem jb_m2 : (Int8.ofInt (-2)).toInt32 = Int32.ofInt (-2) := by decide +kernel
theorem jb_6 : (Int8.ofInt 6).toInt32 = Int32.ofInt 6 := by decide +kernel
theorem jb_7 : (Int8.ofInt 7).toInt32 = Int32.ofInt 7 := by decide +kernel
theorem jb_8 : (Int8.ofInt 8).toInt32 = Int32.ofInt 8 := by decide +kernel
theorem jb_9 : (Int8.ofInt 9).toInt32 = Int32.ofInt 9 := by decide +kernel
theorem jb_10 : (Int8.ofInt 10).toInt32 = Int32.ofInt 10 := by decide +kernel
theorem jb_12 : (Int8.ofInt 12).toInt32 = Int32.ofInt 12 := by decide +kernel
theorem jb_13 : (Int8.ofInt 13).toInt32 = Int32.ofInt 13 := by decide +kernel
theorem jb_14 : (Int8.ofInt 14).toInt32 = Int32.ofInt 14 := by decide +kernel
theorem jb_16 : (Int8.ofInt 16).toInt32 = Int32.ofInt 16 := by decide +kernel
theorem jb_26 : (Int8.ofInt 26).toInt32 = Int32.ofInt 26 := by decide +kernel
theorem jb_27 : (Int8.ofInt 27).toInt32 = Int32.ofInt 27 := by decide +kernel
theorem jb_33 : (Int8.ofInt 33).toInt32 = Int32.ofInt 33 := by decide +kernel
theorem jb_39 : (Int8.ofInt 39).toInt32 = Int32.ofInt 39 := by decide +kernel
theorem jb_40 : (Int8.ofInt 40).toInt32 = Int32.ofInt 40 := by decide +kernel
theorem jb_42 : (Int8.ofInt 42).toInt32 = Int32.ofInt 42 := by decide +kernel
theorem jb_46 : (Int8.ofInt 46).toInt32 = Int32.ofInt 46 := by decide +kernel
theorem jb_60 : (Int8.ofInt 60).toInt32 = Int32.ofInt 60 := by decide +kernel
theorem jb_62 : (Int8.ofInt 62).toInt32 = Int32.ofInt 62 := by decide +kernel
theorem jb_63 : (Int8.ofInt 63).toInt32 = Int32.ofInt 63 := by decide +kernel
theorem jb_65 : (Int8.ofInt 65).toInt32 = Int32.ofInt 65 := by decide +kernel
theorem jb_71 : (Int8.ofInt 71).toInt32 = Int32.ofInt 71 := by decide +kernel
theorem jb_74 : (Int8.ofInt 74).toInt32 = Int32.ofInt 74 := by decide +kernel
theorem jb_75 : (Int8.ofInt 75).toInt32 = Int32.ofInt 75 := by decide +kernel
theorem jb_78 : (Int8.ofInt 78).toInt32 = Int32.ofInt 78 := by decide +kernel
theorem jb_98 : (Int8.ofInt 98).toInt32 = Int32.ofInt 98 := by decide +kernel
theorem jb_99 : (Int8.ofInt 99).toInt32 = Int32.ofInt 99 := by decide +kernel
theorem jb_100 : (Int8.ofInt 100).toInt32 = Int32.ofInt 100 := by decide +kernel
theorem jb_104 : (Int8.ofInt 104).toInt32 = Int32.ofInt 104 := by decide +kernel
theorem jb_120 : (Int8.ofInt 120).toInt32 = Int32.ofInt 120 := by decide +kernel
theorem jb_126 : (Int8.ofInt 126).toInt32 = Int32.ofInt 126 := by decide +kernel
theorem jsp_156 : (Int16.ofInt 156).toInt32 = Int32.ofInt 156 := by decide +kernel
theorem jsp_200 : (Int16.ofInt 200).toInt32 = Int32.ofInt 200 := by decide +kernel
theorem jsp_728 : (Int16.ofInt 728).toInt32 = Int32.ofInt 728 := by decide +kernel
theorem jsp_1000 : (Int16.ofInt 1000).toInt32 = Int32.ofInt 1000 := by decide +kernel
theorem jsp_2556 : (Int16.ofInt 2556).toInt32 = Int32.ofInt 2556 := by decide +kernel
theorem jsp_9999 : (Int16.ofInt 9999).toInt32 = Int32.ofInt 9999 := by decide +kernel
theorem jsp_17576 : (Int16.ofInt 17576).toInt32 = Int32.ofInt 17576 := by decide +kernel
theorem jlc_0 : jInL 0 := ⟨by decide, by decide⟩
theorem jlv_0 : Int64.ofNat ((0 : Fin 2) : Nat) = Int64.ofInt 0 := by decide +kernel
theorem jlc_1 : jInL 1 := ⟨by decide, by decide⟩
theorem jlv_1 : Int64.ofNat ((1 : Fin 2) : Nat) = Int64.ofInt 1 := by decide +kernel

/-! THE CELLS: 0 .. 118 the class, 119 .. 137 the reference; earlier (106) by e -/
def SHL : List (Nat × Nat) := [(0, 11), (0, 10), (1, 400), (1, 401), (1, 401), (1, 401), (0, 2), (0, 7), (1, 14), (1, 14), (1, 14), (1, 2), (2, 2), (1, 201), (1, 201), (0, 4), (1, 16), (1, 16), (1, 16), (1, 16), (1, 400), (1, 64), (0, 3), (1, 60), (1, 60), (1, 4), (1, 4), (0, 0), (1, 196), (0, 1), (1, 600), (0, 8), (1, 201), (1, 12), (1, 12), (0, 2), (0, 7), (1, 14), (1, 14), (1, 14), (1, 2), (2, 2), (1, 201), (1, 201), (0, 4), (1, 16), (1, 16), (1, 16), (1, 16), (1, 400), (1, 64), (0, 3), (1, 60), (1, 60), (1, 4), (1, 4), (0, 0), (1, 196), (0, 1), (1, 600), (0, 8), (1, 201), (1, 12), (1, 12), (0, 7), (1, 14), (1, 14), (1, 14), (1, 2), (2, 2), (1, 201), (1, 201), (0, 4), (1, 16), (1, 16), (1, 16), (1, 16), (1, 400), (1, 64), (0, 3), (1, 60), (1, 60), (1, 4), (1, 4), (0, 0), (1, 196), (0, 6), (1, 7), (2, 3), (1, 201), (1, 201), (1, 201), (2, 3), (1, 201), (1, 201), (1, 201), (1, 201), (0, 9), (1, 65), (1, 65), (1, 800), (1, 4), (0, 5), (1, 256), (1, 256), (1, 8), (3, 6), (0, 8), (1, 201), (0, 8), (1, 201), (0, 8), (1, 201), (0, 8), (1, 201), (0, 8), (1, 201), (0, 8), (1, 201), (0, 12), (1, 2440), (1, 2440), (1, 1248), (1, 201), (1, 64), (1, 820), (1, 56), (1, 402), (1, 60), (1, 48), (1, 400), (1, 420), (1, 8), (1, 10050), (1, 100), (1, 8), (1, 8), (1, 14)]
def SH : Nat → Nat × Nat := fun c => SHL.getD c (9, 0)
def RFL : List (List Nat) := [[1, 6, 35, 64, 72, 79, 84, 86, 97, 102, 106, 5000, 5000], [2, 5000, 3, 4, 5, 5000, 5000, 5000, 5000], [], [], [], [], [7, 15, 22, 27, 29, 31, 5000, 5000, 5000, 33, 34], [5000, 5000, 5000, 8, 9, 10, 11, 12], [], [], [], [], [13, 14], [], [], [5000, 16, 17, 18, 19, 20, 5000, 21], [], [], [], [], [], [], [5000, 23, 24, 25, 26], [], [], [], [], [5000, 28], [], [30], [], [5000, 5000, 5000, 5000, 5000, 5000, 5000, 32], [], [], [], [36, 44, 51, 56, 58, 60, 5000, 5000, 5000, 62, 63], [5000, 5000, 5000, 37, 38, 39, 40, 41], [], [], [], [], [42, 43], [], [], [5000, 45, 46, 47, 48, 49, 5000, 50], [], [], [], [], [], [], [5000, 52, 53, 54, 55], [], [], [], [], [5000, 57], [], [59], [], [5000, 5000, 5000, 5000, 5000, 5000, 5000, 61], [], [], [], [5000, 5000, 5000, 65, 66, 67, 68, 69], [], [], [], [], [70, 71], [], [], [5000, 73, 74, 75, 76, 77, 5000, 78], [], [], [], [], [], [], [5000, 80, 81, 82, 83], [], [], [], [], [5000, 85], [], [87, 88, 92, 96, 5000, 5000, 5000, 5000, 5000], [], [89, 90, 91], [], [], [], [93, 94, 95], [], [], [], [], [98, 99, 5000, 5000, 5000, 5000, 5000, 100, 101], [], [], [], [], [5000, 5000, 103, 104, 105], [], [], [], [107, 109, 111, 113, 115, 117], [5000, 5000, 5000, 5000, 5000, 5000, 5000, 108], [], [5000, 5000, 5000, 5000, 5000, 5000, 5000, 110], [], [5000, 5000, 5000, 5000, 5000, 5000, 5000, 112], [], [5000, 5000, 5000, 5000, 5000, 5000, 5000, 114], [], [5000, 5000, 5000, 5000, 5000, 5000, 5000, 116], [], [5000, 5000, 5000, 5000, 5000, 5000, 5000, 118], [], [120, 121, 122, 123, 5000, 5000, 124, 125, 126, 127, 128, 129, 130, 131, 132, 5000, 5000, 5000, 5000, 5000, 5000, 5000, 5000, 5000, 5000, 5000, 5000, 5000, 5000, 5000, 5000, 5000, 5000, 5000, 5000, 5000, 5000, 133, 134, 135, 136, 137, 5000], [], [], [], [], [], [], [], [], [], [], [], [], [], [], [], [], [], []]
def RF (e : Nat → Nat) : Nat → Nat → Nat := fun c k => if c = 106 then e k else (RFL.getD c []).getD k 5000
theorem sh_0 : SH 0 = (0, 11) := rfl
theorem sh_1 : SH 1 = (0, 10) := rfl
theorem sh_2 : SH 2 = (1, 400) := rfl
theorem sh_3 : SH 3 = (1, 401) := rfl
theorem sh_4 : SH 4 = (1, 401) := rfl
theorem sh_5 : SH 5 = (1, 401) := rfl
theorem sh_6 : SH 6 = (0, 2) := rfl
theorem sh_7 : SH 7 = (0, 7) := rfl
theorem sh_8 : SH 8 = (1, 14) := rfl
theorem sh_9 : SH 9 = (1, 14) := rfl
theorem sh_10 : SH 10 = (1, 14) := rfl
theorem sh_11 : SH 11 = (1, 2) := rfl
theorem sh_12 : SH 12 = (2, 2) := rfl
theorem sh_13 : SH 13 = (1, 201) := rfl
theorem sh_14 : SH 14 = (1, 201) := rfl
theorem sh_15 : SH 15 = (0, 4) := rfl
theorem sh_16 : SH 16 = (1, 16) := rfl
theorem sh_17 : SH 17 = (1, 16) := rfl
theorem sh_18 : SH 18 = (1, 16) := rfl
theorem sh_19 : SH 19 = (1, 16) := rfl
theorem sh_20 : SH 20 = (1, 400) := rfl
theorem sh_21 : SH 21 = (1, 64) := rfl
theorem sh_22 : SH 22 = (0, 3) := rfl
theorem sh_23 : SH 23 = (1, 60) := rfl
theorem sh_24 : SH 24 = (1, 60) := rfl
theorem sh_25 : SH 25 = (1, 4) := rfl
theorem sh_26 : SH 26 = (1, 4) := rfl
theorem sh_27 : SH 27 = (0, 0) := rfl
theorem sh_28 : SH 28 = (1, 196) := rfl
theorem sh_29 : SH 29 = (0, 1) := rfl
theorem sh_30 : SH 30 = (1, 600) := rfl
theorem sh_31 : SH 31 = (0, 8) := rfl
theorem sh_32 : SH 32 = (1, 201) := rfl
theorem sh_33 : SH 33 = (1, 12) := rfl
theorem sh_34 : SH 34 = (1, 12) := rfl
theorem sh_35 : SH 35 = (0, 2) := rfl
theorem sh_36 : SH 36 = (0, 7) := rfl
theorem sh_37 : SH 37 = (1, 14) := rfl
theorem sh_38 : SH 38 = (1, 14) := rfl
theorem sh_39 : SH 39 = (1, 14) := rfl
theorem sh_40 : SH 40 = (1, 2) := rfl
theorem sh_41 : SH 41 = (2, 2) := rfl
theorem sh_42 : SH 42 = (1, 201) := rfl
theorem sh_43 : SH 43 = (1, 201) := rfl
theorem sh_44 : SH 44 = (0, 4) := rfl
theorem sh_45 : SH 45 = (1, 16) := rfl
theorem sh_46 : SH 46 = (1, 16) := rfl
theorem sh_47 : SH 47 = (1, 16) := rfl
theorem sh_48 : SH 48 = (1, 16) := rfl
theorem sh_49 : SH 49 = (1, 400) := rfl
theorem sh_50 : SH 50 = (1, 64) := rfl
theorem sh_51 : SH 51 = (0, 3) := rfl
theorem sh_52 : SH 52 = (1, 60) := rfl
theorem sh_53 : SH 53 = (1, 60) := rfl
theorem sh_54 : SH 54 = (1, 4) := rfl
theorem sh_55 : SH 55 = (1, 4) := rfl
theorem sh_56 : SH 56 = (0, 0) := rfl
theorem sh_57 : SH 57 = (1, 196) := rfl
theorem sh_58 : SH 58 = (0, 1) := rfl
theorem sh_59 : SH 59 = (1, 600) := rfl
theorem sh_60 : SH 60 = (0, 8) := rfl
theorem sh_61 : SH 61 = (1, 201) := rfl
theorem sh_62 : SH 62 = (1, 12) := rfl
theorem sh_63 : SH 63 = (1, 12) := rfl
theorem sh_64 : SH 64 = (0, 7) := rfl
theorem sh_65 : SH 65 = (1, 14) := rfl
theorem sh_66 : SH 66 = (1, 14) := rfl
theorem sh_67 : SH 67 = (1, 14) := rfl
theorem sh_68 : SH 68 = (1, 2) := rfl
theorem sh_69 : SH 69 = (2, 2) := rfl
theorem sh_70 : SH 70 = (1, 201) := rfl
theorem sh_71 : SH 71 = (1, 201) := rfl
theorem sh_72 : SH 72 = (0, 4) := rfl
theorem sh_73 : SH 73 = (1, 16) := rfl
theorem sh_74 : SH 74 = (1, 16) := rfl
theorem sh_75 : SH 75 = (1, 16) := rfl
theorem sh_76 : SH 76 = (1, 16) := rfl
theorem sh_77 : SH 77 = (1, 400) := rfl
theorem sh_78 : SH 78 = (1, 64) := rfl
theorem sh_79 : SH 79 = (0, 3) := rfl
theorem sh_80 : SH 80 = (1, 60) := rfl
theorem sh_81 : SH 81 = (1, 60) := rfl
theorem sh_82 : SH 82 = (1, 4) := rfl
theorem sh_83 : SH 83 = (1, 4) := rfl
theorem sh_84 : SH 84 = (0, 0) := rfl
theorem sh_85 : SH 85 = (1, 196) := rfl
theorem sh_86 : SH 86 = (0, 6) := rfl
theorem sh_87 : SH 87 = (1, 7) := rfl
theorem sh_88 : SH 88 = (2, 3) := rfl
theorem sh_89 : SH 89 = (1, 201) := rfl
theorem sh_90 : SH 90 = (1, 201) := rfl
theorem sh_91 : SH 91 = (1, 201) := rfl
theorem sh_92 : SH 92 = (2, 3) := rfl
theorem sh_93 : SH 93 = (1, 201) := rfl
theorem sh_94 : SH 94 = (1, 201) := rfl
theorem sh_95 : SH 95 = (1, 201) := rfl
theorem sh_96 : SH 96 = (1, 201) := rfl
theorem sh_97 : SH 97 = (0, 9) := rfl
theorem sh_98 : SH 98 = (1, 65) := rfl
theorem sh_99 : SH 99 = (1, 65) := rfl
theorem sh_100 : SH 100 = (1, 800) := rfl
theorem sh_101 : SH 101 = (1, 4) := rfl
theorem sh_102 : SH 102 = (0, 5) := rfl
theorem sh_103 : SH 103 = (1, 256) := rfl
theorem sh_104 : SH 104 = (1, 256) := rfl
theorem sh_105 : SH 105 = (1, 8) := rfl
theorem sh_106 : SH 106 = (3, 6) := rfl
theorem sh_107 : SH 107 = (0, 8) := rfl
theorem sh_108 : SH 108 = (1, 201) := rfl
theorem sh_109 : SH 109 = (0, 8) := rfl
theorem sh_110 : SH 110 = (1, 201) := rfl
theorem sh_111 : SH 111 = (0, 8) := rfl
theorem sh_112 : SH 112 = (1, 201) := rfl
theorem sh_113 : SH 113 = (0, 8) := rfl
theorem sh_114 : SH 114 = (1, 201) := rfl
theorem sh_115 : SH 115 = (0, 8) := rfl
theorem sh_116 : SH 116 = (1, 201) := rfl
theorem sh_117 : SH 117 = (0, 8) := rfl
theorem sh_118 : SH 118 = (1, 201) := rfl
theorem sh_119 : SH 119 = (0, 12) := rfl
theorem sh_120 : SH 120 = (1, 2440) := rfl
theorem sh_121 : SH 121 = (1, 2440) := rfl
theorem sh_122 : SH 122 = (1, 1248) := rfl
theorem sh_123 : SH 123 = (1, 201) := rfl
theorem sh_124 : SH 124 = (1, 64) := rfl
theorem sh_125 : SH 125 = (1, 820) := rfl
theorem sh_126 : SH 126 = (1, 56) := rfl
theorem sh_127 : SH 127 = (1, 402) := rfl
theorem sh_128 : SH 128 = (1, 60) := rfl
theorem sh_129 : SH 129 = (1, 48) := rfl
theorem sh_130 : SH 130 = (1, 400) := rfl
theorem sh_131 : SH 131 = (1, 420) := rfl
theorem sh_132 : SH 132 = (1, 8) := rfl
theorem sh_133 : SH 133 = (1, 10050) := rfl
theorem sh_134 : SH 134 = (1, 100) := rfl
theorem sh_135 : SH 135 = (1, 8) := rfl
theorem sh_136 : SH 136 = (1, 8) := rfl
theorem sh_137 : SH 137 = (1, 14) := rfl
theorem rf_0_0 (e : Nat → Nat) : RF e 0 0 = 1 := rfl
theorem rf_0_1 (e : Nat → Nat) : RF e 0 1 = 6 := rfl
theorem rf_0_2 (e : Nat → Nat) : RF e 0 2 = 35 := rfl
theorem rf_0_3 (e : Nat → Nat) : RF e 0 3 = 64 := rfl
theorem rf_0_4 (e : Nat → Nat) : RF e 0 4 = 72 := rfl
theorem rf_0_5 (e : Nat → Nat) : RF e 0 5 = 79 := rfl
theorem rf_0_6 (e : Nat → Nat) : RF e 0 6 = 84 := rfl
theorem rf_0_7 (e : Nat → Nat) : RF e 0 7 = 86 := rfl
theorem rf_0_8 (e : Nat → Nat) : RF e 0 8 = 97 := rfl
theorem rf_0_9 (e : Nat → Nat) : RF e 0 9 = 102 := rfl
theorem rf_0_10 (e : Nat → Nat) : RF e 0 10 = 106 := rfl
theorem rf_1_0 (e : Nat → Nat) : RF e 1 0 = 2 := rfl
theorem rf_1_2 (e : Nat → Nat) : RF e 1 2 = 3 := rfl
theorem rf_1_3 (e : Nat → Nat) : RF e 1 3 = 4 := rfl
theorem rf_1_4 (e : Nat → Nat) : RF e 1 4 = 5 := rfl
theorem rf_6_0 (e : Nat → Nat) : RF e 6 0 = 7 := rfl
theorem rf_6_1 (e : Nat → Nat) : RF e 6 1 = 15 := rfl
theorem rf_6_2 (e : Nat → Nat) : RF e 6 2 = 22 := rfl
theorem rf_6_3 (e : Nat → Nat) : RF e 6 3 = 27 := rfl
theorem rf_6_4 (e : Nat → Nat) : RF e 6 4 = 29 := rfl
theorem rf_6_5 (e : Nat → Nat) : RF e 6 5 = 31 := rfl
theorem rf_6_9 (e : Nat → Nat) : RF e 6 9 = 33 := rfl
theorem rf_6_10 (e : Nat → Nat) : RF e 6 10 = 34 := rfl
theorem rf_7_3 (e : Nat → Nat) : RF e 7 3 = 8 := rfl
theorem rf_7_4 (e : Nat → Nat) : RF e 7 4 = 9 := rfl
theorem rf_7_5 (e : Nat → Nat) : RF e 7 5 = 10 := rfl
theorem rf_7_6 (e : Nat → Nat) : RF e 7 6 = 11 := rfl
theorem rf_7_7 (e : Nat → Nat) : RF e 7 7 = 12 := rfl
theorem rf_12_0 (e : Nat → Nat) : RF e 12 0 = 13 := rfl
theorem rf_12_1 (e : Nat → Nat) : RF e 12 1 = 14 := rfl
theorem rf_15_1 (e : Nat → Nat) : RF e 15 1 = 16 := rfl
theorem rf_15_2 (e : Nat → Nat) : RF e 15 2 = 17 := rfl
theorem rf_15_3 (e : Nat → Nat) : RF e 15 3 = 18 := rfl
theorem rf_15_4 (e : Nat → Nat) : RF e 15 4 = 19 := rfl
theorem rf_15_5 (e : Nat → Nat) : RF e 15 5 = 20 := rfl
theorem rf_15_7 (e : Nat → Nat) : RF e 15 7 = 21 := rfl
theorem rf_22_1 (e : Nat → Nat) : RF e 22 1 = 23 := rfl
theorem rf_22_2 (e : Nat → Nat) : RF e 22 2 = 24 := rfl
theorem rf_22_3 (e : Nat → Nat) : RF e 22 3 = 25 := rfl
theorem rf_22_4 (e : Nat → Nat) : RF e 22 4 = 26 := rfl
theorem rf_27_1 (e : Nat → Nat) : RF e 27 1 = 28 := rfl
theorem rf_29_0 (e : Nat → Nat) : RF e 29 0 = 30 := rfl
theorem rf_31_7 (e : Nat → Nat) : RF e 31 7 = 32 := rfl
theorem rf_35_0 (e : Nat → Nat) : RF e 35 0 = 36 := rfl
theorem rf_35_1 (e : Nat → Nat) : RF e 35 1 = 44 := rfl
theorem rf_35_2 (e : Nat → Nat) : RF e 35 2 = 51 := rfl
theorem rf_35_3 (e : Nat → Nat) : RF e 35 3 = 56 := rfl
theorem rf_35_4 (e : Nat → Nat) : RF e 35 4 = 58 := rfl
theorem rf_35_5 (e : Nat → Nat) : RF e 35 5 = 60 := rfl
theorem rf_35_9 (e : Nat → Nat) : RF e 35 9 = 62 := rfl
theorem rf_35_10 (e : Nat → Nat) : RF e 35 10 = 63 := rfl
theorem rf_36_3 (e : Nat → Nat) : RF e 36 3 = 37 := rfl
theorem rf_36_4 (e : Nat → Nat) : RF e 36 4 = 38 := rfl
theorem rf_36_5 (e : Nat → Nat) : RF e 36 5 = 39 := rfl
theorem rf_36_6 (e : Nat → Nat) : RF e 36 6 = 40 := rfl
theorem rf_36_7 (e : Nat → Nat) : RF e 36 7 = 41 := rfl
theorem rf_41_0 (e : Nat → Nat) : RF e 41 0 = 42 := rfl
theorem rf_41_1 (e : Nat → Nat) : RF e 41 1 = 43 := rfl
theorem rf_44_1 (e : Nat → Nat) : RF e 44 1 = 45 := rfl
theorem rf_44_2 (e : Nat → Nat) : RF e 44 2 = 46 := rfl
theorem rf_44_3 (e : Nat → Nat) : RF e 44 3 = 47 := rfl
theorem rf_44_4 (e : Nat → Nat) : RF e 44 4 = 48 := rfl
theorem rf_44_5 (e : Nat → Nat) : RF e 44 5 = 49 := rfl
theorem rf_44_7 (e : Nat → Nat) : RF e 44 7 = 50 := rfl
theorem rf_51_1 (e : Nat → Nat) : RF e 51 1 = 52 := rfl
theorem rf_51_2 (e : Nat → Nat) : RF e 51 2 = 53 := rfl
theorem rf_51_3 (e : Nat → Nat) : RF e 51 3 = 54 := rfl
theorem rf_51_4 (e : Nat → Nat) : RF e 51 4 = 55 := rfl
theorem rf_56_1 (e : Nat → Nat) : RF e 56 1 = 57 := rfl
theorem rf_58_0 (e : Nat → Nat) : RF e 58 0 = 59 := rfl
theorem rf_60_7 (e : Nat → Nat) : RF e 60 7 = 61 := rfl
theorem rf_64_3 (e : Nat → Nat) : RF e 64 3 = 65 := rfl
theorem rf_64_4 (e : Nat → Nat) : RF e 64 4 = 66 := rfl
theorem rf_64_5 (e : Nat → Nat) : RF e 64 5 = 67 := rfl
theorem rf_64_6 (e : Nat → Nat) : RF e 64 6 = 68 := rfl
theorem rf_64_7 (e : Nat → Nat) : RF e 64 7 = 69 := rfl
theorem rf_69_0 (e : Nat → Nat) : RF e 69 0 = 70 := rfl
theorem rf_69_1 (e : Nat → Nat) : RF e 69 1 = 71 := rfl
theorem rf_72_1 (e : Nat → Nat) : RF e 72 1 = 73 := rfl
theorem rf_72_2 (e : Nat → Nat) : RF e 72 2 = 74 := rfl
theorem rf_72_3 (e : Nat → Nat) : RF e 72 3 = 75 := rfl
theorem rf_72_4 (e : Nat → Nat) : RF e 72 4 = 76 := rfl
theorem rf_72_5 (e : Nat → Nat) : RF e 72 5 = 77 := rfl
theorem rf_72_7 (e : Nat → Nat) : RF e 72 7 = 78 := rfl
theorem rf_79_1 (e : Nat → Nat) : RF e 79 1 = 80 := rfl
theorem rf_79_2 (e : Nat → Nat) : RF e 79 2 = 81 := rfl
theorem rf_79_3 (e : Nat → Nat) : RF e 79 3 = 82 := rfl
theorem rf_79_4 (e : Nat → Nat) : RF e 79 4 = 83 := rfl
theorem rf_84_1 (e : Nat → Nat) : RF e 84 1 = 85 := rfl
theorem rf_86_0 (e : Nat → Nat) : RF e 86 0 = 87 := rfl
theorem rf_86_1 (e : Nat → Nat) : RF e 86 1 = 88 := rfl
theorem rf_86_2 (e : Nat → Nat) : RF e 86 2 = 92 := rfl
theorem rf_86_3 (e : Nat → Nat) : RF e 86 3 = 96 := rfl
theorem rf_88_0 (e : Nat → Nat) : RF e 88 0 = 89 := rfl
theorem rf_88_1 (e : Nat → Nat) : RF e 88 1 = 90 := rfl
theorem rf_88_2 (e : Nat → Nat) : RF e 88 2 = 91 := rfl
theorem rf_92_0 (e : Nat → Nat) : RF e 92 0 = 93 := rfl
theorem rf_92_1 (e : Nat → Nat) : RF e 92 1 = 94 := rfl
theorem rf_92_2 (e : Nat → Nat) : RF e 92 2 = 95 := rfl
theorem rf_97_0 (e : Nat → Nat) : RF e 97 0 = 98 := rfl
theorem rf_97_1 (e : Nat → Nat) : RF e 97 1 = 99 := rfl
theorem rf_97_7 (e : Nat → Nat) : RF e 97 7 = 100 := rfl
theorem rf_97_8 (e : Nat → Nat) : RF e 97 8 = 101 := rfl
theorem rf_102_2 (e : Nat → Nat) : RF e 102 2 = 103 := rfl
theorem rf_102_3 (e : Nat → Nat) : RF e 102 3 = 104 := rfl
theorem rf_102_4 (e : Nat → Nat) : RF e 102 4 = 105 := rfl
theorem rf_107_7 (e : Nat → Nat) : RF e 107 7 = 108 := rfl
theorem rf_109_7 (e : Nat → Nat) : RF e 109 7 = 110 := rfl
theorem rf_111_7 (e : Nat → Nat) : RF e 111 7 = 112 := rfl
theorem rf_113_7 (e : Nat → Nat) : RF e 113 7 = 114 := rfl
theorem rf_115_7 (e : Nat → Nat) : RF e 115 7 = 116 := rfl
theorem rf_117_7 (e : Nat → Nat) : RF e 117 7 = 118 := rfl
theorem rf_119_0 (e : Nat → Nat) : RF e 119 0 = 120 := rfl
theorem rf_119_1 (e : Nat → Nat) : RF e 119 1 = 121 := rfl
theorem rf_119_2 (e : Nat → Nat) : RF e 119 2 = 122 := rfl
theorem rf_119_3 (e : Nat → Nat) : RF e 119 3 = 123 := rfl
theorem rf_119_6 (e : Nat → Nat) : RF e 119 6 = 124 := rfl
theorem rf_119_7 (e : Nat → Nat) : RF e 119 7 = 125 := rfl
theorem rf_119_8 (e : Nat → Nat) : RF e 119 8 = 126 := rfl
theorem rf_119_9 (e : Nat → Nat) : RF e 119 9 = 127 := rfl
theorem rf_119_10 (e : Nat → Nat) : RF e 119 10 = 128 := rfl
theorem rf_119_11 (e : Nat → Nat) : RF e 119 11 = 129 := rfl
theorem rf_119_12 (e : Nat → Nat) : RF e 119 12 = 130 := rfl
theorem rf_119_13 (e : Nat → Nat) : RF e 119 13 = 131 := rfl
theorem rf_119_14 (e : Nat → Nat) : RF e 119 14 = 132 := rfl
theorem rf_119_37 (e : Nat → Nat) : RF e 119 37 = 133 := rfl
theorem rf_119_38 (e : Nat → Nat) : RF e 119 38 = 134 := rfl
theorem rf_119_39 (e : Nat → Nat) : RF e 119 39 = 135 := rfl
theorem rf_119_40 (e : Nat → Nat) : RF e 119 40 = 136 := rfl
theorem rf_119_41 (e : Nat → Nat) : RF e 119 41 = 137 := rfl
theorem rf_e (e : Nat → Nat) (k : Nat) : RF e 106 k = e k := rfl

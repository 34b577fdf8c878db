/-! shapes of the objects -/
def fd0 : List (Nat × Nat) := [(0, 0), (0, 0), (0, 0), (0, 0), (2, 1), (2, 2), (2, 3), (2, 4), (2, 5), (2, 6), (2, 7), (2, 8)]
def fd1 : List (Nat × Nat) := [(2, 1)]
def fd2 : List (Nat × Nat) := [(2, 1), (2, 2), (2, 3), (0, 0)]
def fd3 : List (Nat × Nat) := [(2, 1), (2, 10), (2, 11), (2, 12)]
def fd4 : List (Nat × Nat) := [(2, 1), (0, 0), (0, 0)]
def fd5 : List (Nat × Nat) := [(2, 1)]
def fd6 : List (Nat × Nat) := [(2, 1), (0, 0), (0, 0)]
def fd7 : List (Nat × Nat) := [(2, 1), (2, 10), (2, 19), (2, 20), (2, 21), (0, 0), (0, 0), (0, 0)]
def fd8 : List (Nat × Nat) := [(2, 1), (0, 0), (0, 0), (2, 2), (2, 3), (0, 0), (0, 0)]
def fd9 : List (Nat × Nat) := [(2, 1), (0, 0), (0, 0), (0, 0)]
def fd10 : List (Nat × Nat) := [(2, 1), (1, 0), (0, 0), (0, 0)]
def fd11 : List (Nat × Nat) := [(2, 1), (2, 3), (2, 13), (2, 15), (0, 0), (2, 16), (2, 38), (2, 39), (2, 41), (2, 54), (2, 130), (2, 134), (2, 144), (2, 145)]
def fd12 : List (Nat × Nat) := [(2, 1), (0, 0), (0, 0), (2, 2), (2, 3), (2, 4), (2, 5), (2, 6), (0, 0), (0, 0), (0, 0), (0, 0), (0, 0), (0, 0), (0, 0), (2, 7), (0, 0), (2, 8), (0, 0), (2, 9), (2, 10), (0, 0), (0, 0), (2, 11), (2, 12), (2, 13), (0, 0), (2, 14), (2, 15), (2, 16), (0, 0), (2, 17), (2, 18), (0, 0), (2, 19), (2, 20), (2, 21), (2, 22), (2, 23), (2, 24), (1, 0), (0, 0), (2, 25), (2, 26), (2, 27), (2, 28)]
def shLX : List Sh1 := [(0, 0, 11, fd11), (0, 0, 9, fd9), (0, 1, 0, [(400, 0)]), (0, 0, 1, fd1), (0, 0, 0, fd0), (0, 1, 0, [(8, 0)]), (0, 1, 0, [(8, 0)]), (0, 1, 0, [(8, 0)]), (0, 1, 0, [(8, 0)]), (0, 1, 0, [(8, 0)]), (0, 1, 0, [(8, 0)]), (0, 1, 0, [(8, 0)]), (0, 1, 0, [(4, 0)]), (0, 0, 6, fd6), (0, 1, 0, [(400, 0)]), (0, 1, 9, [(6, 0)]), (0, 0, 7, fd7), (0, 0, 0, fd0), (0, 1, 0, [(8, 0)]), (0, 1, 0, [(8, 0)]), (0, 1, 0, [(8, 0)]), (0, 1, 0, [(8, 0)]), (0, 1, 0, [(8, 0)]), (0, 1, 0, [(8, 0)]), (0, 1, 0, [(8, 0)]), (0, 1, 0, [(4, 0)]), (0, 0, 0, fd0), (0, 1, 0, [(8, 0)]), (0, 1, 0, [(8, 0)]), (0, 1, 0, [(8, 0)]), (0, 1, 0, [(8, 0)]), (0, 1, 0, [(8, 0)]), (0, 1, 0, [(8, 0)]), (0, 1, 0, [(8, 0)]), (0, 1, 0, [(4, 0)]), (0, 1, 0, [(8, 0)]), (0, 1, 0, [(10, 0)]), (0, 1, 0, [(10, 0)]), (0, 1, 11, [(4, 0)]), (0, 0, 4, fd4), (0, 1, 4, [(20, 0)]), (0, 0, 3, fd3), (0, 0, 0, fd0), (0, 1, 0, [(8, 0)]), (0, 1, 0, [(8, 0)]), (0, 1, 0, [(8, 0)]), (0, 1, 0, [(8, 0)]), (0, 1, 0, [(8, 0)]), (0, 1, 0, [(8, 0)]), (0, 1, 0, [(8, 0)]), (0, 1, 0, [(4, 0)]), (0, 1, 0, [(8, 0)]), (0, 1, 1, [(11, 0)]), (0, 1, 1, [(32, 0)]), (0, 0, 2, fd2), (0, 1, 4, [(8, 0)]), (0, 1, 0, [(8, 0)]), (0, 1, 0, [(8, 0)]), (0, 0, 0, fd0), (0, 1, 0, [(8, 0)]), (0, 1, 0, [(8, 0)]), (0, 1, 0, [(8, 0)]), (0, 1, 0, [(8, 0)]), (0, 1, 0, [(8, 0)]), (0, 1, 0, [(8, 0)]), (0, 1, 0, [(8, 0)]), (0, 1, 0, [(4, 0)]), (0, 0, 0, fd0), (0, 1, 0, [(8, 0)]), (0, 1, 0, [(8, 0)]), (0, 1, 0, [(8, 0)]), (0, 1, 0, [(8, 0)]), (0, 1, 0, [(8, 0)]), (0, 1, 0, [(8, 0)]), (0, 1, 0, [(8, 0)]), (0, 1, 0, [(4, 0)]), (0, 0, 0, fd0), (0, 1, 0, [(8, 0)]), (0, 1, 0, [(8, 0)]), (0, 1, 0, [(8, 0)]), (0, 1, 0, [(8, 0)]), (0, 1, 0, [(8, 0)]), (0, 1, 0, [(8, 0)]), (0, 1, 0, [(8, 0)]), (0, 1, 0, [(4, 0)]), (0, 0, 0, fd0), (0, 1, 0, [(8, 0)]), (0, 1, 0, [(8, 0)]), (0, 1, 0, [(8, 0)]), (0, 1, 0, [(8, 0)]), (0, 1, 0, [(8, 0)]), (0, 1, 0, [(8, 0)]), (0, 1, 0, [(8, 0)]), (0, 1, 0, [(4, 0)]), (0, 0, 0, fd0), (0, 1, 0, [(8, 0)]), (0, 1, 0, [(8, 0)]), (0, 1, 0, [(8, 0)]), (0, 1, 0, [(8, 0)]), (0, 1, 0, [(8, 0)]), (0, 1, 0, [(8, 0)]), (0, 1, 0, [(8, 0)]), (0, 1, 0, [(4, 0)]), (0, 0, 0, fd0), (0, 1, 0, [(8, 0)]), (0, 1, 0, [(8, 0)]), (0, 1, 0, [(8, 0)]), (0, 1, 0, [(8, 0)]), (0, 1, 0, [(8, 0)]), (0, 1, 0, [(8, 0)]), (0, 1, 0, [(8, 0)]), (0, 1, 0, [(4, 0)]), (0, 0, 0, fd0), (0, 1, 0, [(8, 0)]), (0, 1, 0, [(8, 0)]), (0, 1, 0, [(8, 0)]), (0, 1, 0, [(8, 0)]), (0, 1, 0, [(8, 0)]), (0, 1, 0, [(8, 0)]), (0, 1, 0, [(8, 0)]), (0, 1, 0, [(4, 0)]), (0, 0, 0, fd0), (0, 1, 0, [(8, 0)]), (0, 1, 0, [(8, 0)]), (0, 1, 0, [(8, 0)]), (0, 1, 0, [(8, 0)]), (0, 1, 0, [(8, 0)]), (0, 1, 0, [(8, 0)]), (0, 1, 0, [(8, 0)]), (0, 1, 0, [(4, 0)]), (0, 0, 8, fd8), (0, 1, 0, [(1392, 0)]), (0, 1, 0, [(8, 0)]), (0, 1, 0, [(128, 0)]), (0, 0, 10, fd10), (0, 0, 0, fd0), (0, 1, 0, [(8, 0)]), (0, 1, 0, [(8, 0)]), (0, 1, 0, [(8, 0)]), (0, 1, 0, [(8, 0)]), (0, 1, 0, [(8, 0)]), (0, 1, 0, [(8, 0)]), (0, 1, 0, [(8, 0)]), (0, 1, 0, [(4, 0)]), (0, 1, 3, [(7, 0)]), (0, 1, 0, [(7, 0)])]
def shLM : List Sh1 := [(0, 0, 12, fd12), (0, 1, 2, [(400, 0)]), (0, 1, 0, [(2400, 0)]), (0, 1, 0, [(7, 0)]), (0, 1, 0, [(288, 0)]), (0, 1, 0, [(6, 0)]), (0, 1, 0, [(82, 0)]), (0, 1, 0, [(400, 0)]), (0, 1, 1, [(64, 0)]), (0, 1, 1, [(11, 0)]), (0, 1, 0, [(130, 0)]), (0, 1, 0, [(8, 0)]), (0, 1, 0, [(8, 0)]), (0, 1, 0, [(900, 0)]), (0, 1, 0, [(45, 0)]), (0, 1, 0, [(9, 0)]), (0, 1, 0, [(405, 0)]), (0, 1, 0, [(8, 0)]), (0, 1, 0, [(8, 0)]), (0, 1, 0, [(8, 0)]), (0, 1, 0, [(64, 0)]), (0, 1, 0, [(128, 0)]), (0, 1, 0, [(9, 0)]), (0, 1, 3, [(7, 0)]), (0, 1, 0, [(56, 0)]), (0, 1, 0, [(520, 0)]), (0, 1, 0, [(4, 0)]), (0, 1, 0, [(4, 0)]), (0, 1, 3, [(4, 0)])]
def shX : Shp := fun a => shLX[a]?
def shM : Shp := fun a => if 146 ≤ a then shLM[a - 146]? else none
def St (sh : Shp) : Prop := ∀ a q, shX a = some q → sh a = some q
def StM (sh : Shp) : Prop := ∀ a q, shM a = some q → sh a = some q
theorem sx_0 : shX 0 = some (0, 0, 11, fd11) := rfl
theorem sx_1 : shX 1 = some (0, 0, 9, fd9) := rfl
theorem sx_2 : shX 2 = some (0, 1, 0, [(400, 0)]) := rfl
theorem sx_3 : shX 3 = some (0, 0, 1, fd1) := rfl
theorem sx_4 : shX 4 = some (0, 0, 0, fd0) := rfl
theorem sx_5 : shX 5 = some (0, 1, 0, [(8, 0)]) := rfl
theorem sx_6 : shX 6 = some (0, 1, 0, [(8, 0)]) := rfl
theorem sx_7 : shX 7 = some (0, 1, 0, [(8, 0)]) := rfl
theorem sx_8 : shX 8 = some (0, 1, 0, [(8, 0)]) := rfl
theorem sx_9 : shX 9 = some (0, 1, 0, [(8, 0)]) := rfl
theorem sx_10 : shX 10 = some (0, 1, 0, [(8, 0)]) := rfl
theorem sx_11 : shX 11 = some (0, 1, 0, [(8, 0)]) := rfl
theorem sx_12 : shX 12 = some (0, 1, 0, [(4, 0)]) := rfl
theorem sx_13 : shX 13 = some (0, 0, 6, fd6) := rfl
theorem sx_14 : shX 14 = some (0, 1, 0, [(400, 0)]) := rfl
theorem sx_15 : shX 15 = some (0, 1, 9, [(6, 0)]) := rfl
theorem sx_16 : shX 16 = some (0, 0, 7, fd7) := rfl
theorem sx_17 : shX 17 = some (0, 0, 0, fd0) := rfl
theorem sx_18 : shX 18 = some (0, 1, 0, [(8, 0)]) := rfl
theorem sx_19 : shX 19 = some (0, 1, 0, [(8, 0)]) := rfl
theorem sx_20 : shX 20 = some (0, 1, 0, [(8, 0)]) := rfl
theorem sx_21 : shX 21 = some (0, 1, 0, [(8, 0)]) := rfl
theorem sx_22 : shX 22 = some (0, 1, 0, [(8, 0)]) := rfl
theorem sx_23 : shX 23 = some (0, 1, 0, [(8, 0)]) := rfl
theorem sx_24 : shX 24 = some (0, 1, 0, [(8, 0)]) := rfl
theorem sx_25 : shX 25 = some (0, 1, 0, [(4, 0)]) := rfl
theorem sx_26 : shX 26 = some (0, 0, 0, fd0) := rfl
theorem sx_27 : shX 27 = some (0, 1, 0, [(8, 0)]) := rfl
theorem sx_28 : shX 28 = some (0, 1, 0, [(8, 0)]) := rfl
theorem sx_29 : shX 29 = some (0, 1, 0, [(8, 0)]) := rfl
theorem sx_30 : shX 30 = some (0, 1, 0, [(8, 0)]) := rfl
theorem sx_31 : shX 31 = some (0, 1, 0, [(8, 0)]) := rfl
theorem sx_32 : shX 32 = some (0, 1, 0, [(8, 0)]) := rfl
theorem sx_33 : shX 33 = some (0, 1, 0, [(8, 0)]) := rfl
theorem sx_34 : shX 34 = some (0, 1, 0, [(4, 0)]) := rfl
theorem sx_35 : shX 35 = some (0, 1, 0, [(8, 0)]) := rfl
theorem sx_36 : shX 36 = some (0, 1, 0, [(10, 0)]) := rfl
theorem sx_37 : shX 37 = some (0, 1, 0, [(10, 0)]) := rfl
theorem sx_38 : shX 38 = some (0, 1, 11, [(4, 0)]) := rfl
theorem sx_39 : shX 39 = some (0, 0, 4, fd4) := rfl
theorem sx_40 : shX 40 = some (0, 1, 4, [(20, 0)]) := rfl
theorem sx_41 : shX 41 = some (0, 0, 3, fd3) := rfl
theorem sx_42 : shX 42 = some (0, 0, 0, fd0) := rfl
theorem sx_43 : shX 43 = some (0, 1, 0, [(8, 0)]) := rfl
theorem sx_44 : shX 44 = some (0, 1, 0, [(8, 0)]) := rfl
theorem sx_45 : shX 45 = some (0, 1, 0, [(8, 0)]) := rfl
theorem sx_46 : shX 46 = some (0, 1, 0, [(8, 0)]) := rfl
theorem sx_47 : shX 47 = some (0, 1, 0, [(8, 0)]) := rfl
theorem sx_48 : shX 48 = some (0, 1, 0, [(8, 0)]) := rfl
theorem sx_49 : shX 49 = some (0, 1, 0, [(8, 0)]) := rfl
theorem sx_50 : shX 50 = some (0, 1, 0, [(4, 0)]) := rfl
theorem sx_51 : shX 51 = some (0, 1, 0, [(8, 0)]) := rfl
theorem sx_52 : shX 52 = some (0, 1, 1, [(11, 0)]) := rfl
theorem sx_53 : shX 53 = some (0, 1, 1, [(32, 0)]) := rfl
theorem sx_54 : shX 54 = some (0, 0, 2, fd2) := rfl
theorem sx_55 : shX 55 = some (0, 1, 4, [(8, 0)]) := rfl
theorem sx_56 : shX 56 = some (0, 1, 0, [(8, 0)]) := rfl
theorem sx_57 : shX 57 = some (0, 1, 0, [(8, 0)]) := rfl
theorem sx_58 : shX 58 = some (0, 0, 0, fd0) := rfl
theorem sx_59 : shX 59 = some (0, 1, 0, [(8, 0)]) := rfl
theorem sx_60 : shX 60 = some (0, 1, 0, [(8, 0)]) := rfl
theorem sx_61 : shX 61 = some (0, 1, 0, [(8, 0)]) := rfl
theorem sx_62 : shX 62 = some (0, 1, 0, [(8, 0)]) := rfl
theorem sx_63 : shX 63 = some (0, 1, 0, [(8, 0)]) := rfl
theorem sx_64 : shX 64 = some (0, 1, 0, [(8, 0)]) := rfl
theorem sx_65 : shX 65 = some (0, 1, 0, [(8, 0)]) := rfl
theorem sx_66 : shX 66 = some (0, 1, 0, [(4, 0)]) := rfl
theorem sx_67 : shX 67 = some (0, 0, 0, fd0) := rfl
theorem sx_68 : shX 68 = some (0, 1, 0, [(8, 0)]) := rfl
theorem sx_69 : shX 69 = some (0, 1, 0, [(8, 0)]) := rfl
theorem sx_70 : shX 70 = some (0, 1, 0, [(8, 0)]) := rfl
theorem sx_71 : shX 71 = some (0, 1, 0, [(8, 0)]) := rfl
theorem sx_72 : shX 72 = some (0, 1, 0, [(8, 0)]) := rfl
theorem sx_73 : shX 73 = some (0, 1, 0, [(8, 0)]) := rfl
theorem sx_74 : shX 74 = some (0, 1, 0, [(8, 0)]) := rfl
theorem sx_75 : shX 75 = some (0, 1, 0, [(4, 0)]) := rfl
theorem sx_76 : shX 76 = some (0, 0, 0, fd0) := rfl
theorem sx_77 : shX 77 = some (0, 1, 0, [(8, 0)]) := rfl
theorem sx_78 : shX 78 = some (0, 1, 0, [(8, 0)]) := rfl
theorem sx_79 : shX 79 = some (0, 1, 0, [(8, 0)]) := rfl
theorem sx_80 : shX 80 = some (0, 1, 0, [(8, 0)]) := rfl
theorem sx_81 : shX 81 = some (0, 1, 0, [(8, 0)]) := rfl
theorem sx_82 : shX 82 = some (0, 1, 0, [(8, 0)]) := rfl
theorem sx_83 : shX 83 = some (0, 1, 0, [(8, 0)]) := rfl
theorem sx_84 : shX 84 = some (0, 1, 0, [(4, 0)]) := rfl
theorem sx_85 : shX 85 = some (0, 0, 0, fd0) := rfl
theorem sx_86 : shX 86 = some (0, 1, 0, [(8, 0)]) := rfl
theorem sx_87 : shX 87 = some (0, 1, 0, [(8, 0)]) := rfl
theorem sx_88 : shX 88 = some (0, 1, 0, [(8, 0)]) := rfl
theorem sx_89 : shX 89 = some (0, 1, 0, [(8, 0)]) := rfl
theorem sx_90 : shX 90 = some (0, 1, 0, [(8, 0)]) := rfl
theorem sx_91 : shX 91 = some (0, 1, 0, [(8, 0)]) := rfl
theorem sx_92 : shX 92 = some (0, 1, 0, [(8, 0)]) := rfl
theorem sx_93 : shX 93 = some (0, 1, 0, [(4, 0)]) := rfl
theorem sx_94 : shX 94 = some (0, 0, 0, fd0) := rfl
theorem sx_95 : shX 95 = some (0, 1, 0, [(8, 0)]) := rfl
theorem sx_96 : shX 96 = some (0, 1, 0, [(8, 0)]) := rfl
theorem sx_97 : shX 97 = some (0, 1, 0, [(8, 0)]) := rfl
theorem sx_98 : shX 98 = some (0, 1, 0, [(8, 0)]) := rfl
theorem sx_99 : shX 99 = some (0, 1, 0, [(8, 0)]) := rfl
theorem sx_100 : shX 100 = some (0, 1, 0, [(8, 0)]) := rfl
theorem sx_101 : shX 101 = some (0, 1, 0, [(8, 0)]) := rfl
theorem sx_102 : shX 102 = some (0, 1, 0, [(4, 0)]) := rfl
theorem sx_103 : shX 103 = some (0, 0, 0, fd0) := rfl
theorem sx_104 : shX 104 = some (0, 1, 0, [(8, 0)]) := rfl
theorem sx_105 : shX 105 = some (0, 1, 0, [(8, 0)]) := rfl
theorem sx_106 : shX 106 = some (0, 1, 0, [(8, 0)]) := rfl
theorem sx_107 : shX 107 = some (0, 1, 0, [(8, 0)]) := rfl
theorem sx_108 : shX 108 = some (0, 1, 0, [(8, 0)]) := rfl
theorem sx_109 : shX 109 = some (0, 1, 0, [(8, 0)]) := rfl
theorem sx_110 : shX 110 = some (0, 1, 0, [(8, 0)]) := rfl
theorem sx_111 : shX 111 = some (0, 1, 0, [(4, 0)]) := rfl
theorem sx_112 : shX 112 = some (0, 0, 0, fd0) := rfl
theorem sx_113 : shX 113 = some (0, 1, 0, [(8, 0)]) := rfl
theorem sx_114 : shX 114 = some (0, 1, 0, [(8, 0)]) := rfl
theorem sx_115 : shX 115 = some (0, 1, 0, [(8, 0)]) := rfl
theorem sx_116 : shX 116 = some (0, 1, 0, [(8, 0)]) := rfl
theorem sx_117 : shX 117 = some (0, 1, 0, [(8, 0)]) := rfl
theorem sx_118 : shX 118 = some (0, 1, 0, [(8, 0)]) := rfl
theorem sx_119 : shX 119 = some (0, 1, 0, [(8, 0)]) := rfl
theorem sx_120 : shX 120 = some (0, 1, 0, [(4, 0)]) := rfl
theorem sx_121 : shX 121 = some (0, 0, 0, fd0) := rfl
theorem sx_122 : shX 122 = some (0, 1, 0, [(8, 0)]) := rfl
theorem sx_123 : shX 123 = some (0, 1, 0, [(8, 0)]) := rfl
theorem sx_124 : shX 124 = some (0, 1, 0, [(8, 0)]) := rfl
theorem sx_125 : shX 125 = some (0, 1, 0, [(8, 0)]) := rfl
theorem sx_126 : shX 126 = some (0, 1, 0, [(8, 0)]) := rfl
theorem sx_127 : shX 127 = some (0, 1, 0, [(8, 0)]) := rfl
theorem sx_128 : shX 128 = some (0, 1, 0, [(8, 0)]) := rfl
theorem sx_129 : shX 129 = some (0, 1, 0, [(4, 0)]) := rfl
theorem sx_130 : shX 130 = some (0, 0, 8, fd8) := rfl
theorem sx_131 : shX 131 = some (0, 1, 0, [(1392, 0)]) := rfl
theorem sx_132 : shX 132 = some (0, 1, 0, [(8, 0)]) := rfl
theorem sx_133 : shX 133 = some (0, 1, 0, [(128, 0)]) := rfl
theorem sx_134 : shX 134 = some (0, 0, 10, fd10) := rfl
theorem sx_135 : shX 135 = some (0, 0, 0, fd0) := rfl
theorem sx_136 : shX 136 = some (0, 1, 0, [(8, 0)]) := rfl
theorem sx_137 : shX 137 = some (0, 1, 0, [(8, 0)]) := rfl
theorem sx_138 : shX 138 = some (0, 1, 0, [(8, 0)]) := rfl
theorem sx_139 : shX 139 = some (0, 1, 0, [(8, 0)]) := rfl
theorem sx_140 : shX 140 = some (0, 1, 0, [(8, 0)]) := rfl
theorem sx_141 : shX 141 = some (0, 1, 0, [(8, 0)]) := rfl
theorem sx_142 : shX 142 = some (0, 1, 0, [(8, 0)]) := rfl
theorem sx_143 : shX 143 = some (0, 1, 0, [(4, 0)]) := rfl
theorem sx_144 : shX 144 = some (0, 1, 3, [(7, 0)]) := rfl
theorem sx_145 : shX 145 = some (0, 1, 0, [(7, 0)]) := rfl
theorem sm_146 : shM 146 = some (0, 0, 12, fd12) := rfl
theorem sm_147 : shM 147 = some (0, 1, 2, [(400, 0)]) := rfl
theorem sm_148 : shM 148 = some (0, 1, 0, [(2400, 0)]) := rfl
theorem sm_149 : shM 149 = some (0, 1, 0, [(7, 0)]) := rfl
theorem sm_150 : shM 150 = some (0, 1, 0, [(288, 0)]) := rfl
theorem sm_151 : shM 151 = some (0, 1, 0, [(6, 0)]) := rfl
theorem sm_152 : shM 152 = some (0, 1, 0, [(82, 0)]) := rfl
theorem sm_153 : shM 153 = some (0, 1, 0, [(400, 0)]) := rfl
theorem sm_154 : shM 154 = some (0, 1, 1, [(64, 0)]) := rfl
theorem sm_155 : shM 155 = some (0, 1, 1, [(11, 0)]) := rfl
theorem sm_156 : shM 156 = some (0, 1, 0, [(130, 0)]) := rfl
theorem sm_157 : shM 157 = some (0, 1, 0, [(8, 0)]) := rfl
theorem sm_158 : shM 158 = some (0, 1, 0, [(8, 0)]) := rfl
theorem sm_159 : shM 159 = some (0, 1, 0, [(900, 0)]) := rfl
theorem sm_160 : shM 160 = some (0, 1, 0, [(45, 0)]) := rfl
theorem sm_161 : shM 161 = some (0, 1, 0, [(9, 0)]) := rfl
theorem sm_162 : shM 162 = some (0, 1, 0, [(405, 0)]) := rfl
theorem sm_163 : shM 163 = some (0, 1, 0, [(8, 0)]) := rfl
theorem sm_164 : shM 164 = some (0, 1, 0, [(8, 0)]) := rfl
theorem sm_165 : shM 165 = some (0, 1, 0, [(8, 0)]) := rfl
theorem sm_166 : shM 166 = some (0, 1, 0, [(64, 0)]) := rfl
theorem sm_167 : shM 167 = some (0, 1, 0, [(128, 0)]) := rfl
theorem sm_168 : shM 168 = some (0, 1, 0, [(9, 0)]) := rfl
theorem sm_169 : shM 169 = some (0, 1, 3, [(7, 0)]) := rfl
theorem sm_170 : shM 170 = some (0, 1, 0, [(56, 0)]) := rfl
theorem sm_171 : shM 171 = some (0, 1, 0, [(520, 0)]) := rfl
theorem sm_172 : shM 172 = some (0, 1, 0, [(4, 0)]) := rfl
theorem sm_173 : shM 173 = some (0, 1, 0, [(4, 0)]) := rfl
theorem sm_174 : shM 174 = some (0, 1, 3, [(4, 0)]) := rfl
def okC (r : Nat) (sh : Shp) (a : Nat) : Prop := sh a = some (r, 0, 0, fd0) ∧ (∀ i, 1 ≤ i → i ≤ 7 → sh (a + i) = some (r, 1, 0, [(8, 0)])) ∧ sh (a + 8) = some (r, 1, 0, [(4, 0)])
def okS (r : Nat) (sh : Shp) (a : Nat) : Prop := sh a = some (r, 0, 7, fd7) ∧ okC r sh (a + 1) ∧ okC r sh (a + 10) ∧ sh (a + 19) = some (r, 1, 0, [(8, 0)]) ∧ sh (a + 20) = some (r, 1, 0, [(10, 0)]) ∧ sh (a + 21) = some (r, 1, 0, [(10, 0)])
/-- of a rule at a: how many steps -/
def okU (ln : Nat → Nat) (sh : Shp) (a : Nat) : Prop := sh a = some (1, 0, 5, fd5) ∧ sh (a + 1) = some (1, 1, 0, [(ln a, 0)])
def okR (ln : Nat → Nat) (sh : Shp) (u : Int) : Prop := ¬ u < 0 → okU ln sh u.toNat
theorem okR_n {ln : Nat → Nat} {sh : Shp} {u : Int} (h : u < 0) : okR ln sh u := fun q => absurd h q
theorem okC_l {a : Nat} {sh : Shp} (hS : St sh) (h0 : shX a = some (0, 0, 0, fd0)) (h1 : ∀ i, 1 ≤ i → i ≤ 7 → shX (a + i) = some (0, 1, 0, [(8, 0)])) (h2 : shX (a + 8) = some (0, 1, 0, [(4, 0)])) : okC 0 sh a := ⟨hS _ _ h0, fun i a1 a2 => hS _ _ (h1 i a1 a2), hS _ _ h2⟩
theorem i17 {p : Nat → Prop} (h : p 1 ∧ p 2 ∧ p 3 ∧ p 4 ∧ p 5 ∧ p 6 ∧ p 7) : ∀ i, 1 ≤ i → i ≤ 7 → p i := by
  intro i h1 h2
  obtain ⟨a1, a2, a3, a4, a5, a6, a7⟩ := h
  match i, h1, h2 with
  | 1, _, _ => exact a1
  | 2, _, _ => exact a2
  | 3, _, _ => exact a3
  | 4, _, _ => exact a4
  | 5, _, _ => exact a5
  | 6, _, _ => exact a6
  | 7, _, _ => exact a7
theorem okC_4 {sh : Shp} (hS : St sh) : okC 0 sh 4 := okC_l hS rfl (i17 ⟨rfl, rfl, rfl, rfl, rfl, rfl, rfl⟩) rfl
theorem okC_17 {sh : Shp} (hS : St sh) : okC 0 sh 17 := okC_l hS rfl (i17 ⟨rfl, rfl, rfl, rfl, rfl, rfl, rfl⟩) rfl
theorem okC_26 {sh : Shp} (hS : St sh) : okC 0 sh 26 := okC_l hS rfl (i17 ⟨rfl, rfl, rfl, rfl, rfl, rfl, rfl⟩) rfl
theorem okC_42 {sh : Shp} (hS : St sh) : okC 0 sh 42 := okC_l hS rfl (i17 ⟨rfl, rfl, rfl, rfl, rfl, rfl, rfl⟩) rfl
theorem okC_58 {sh : Shp} (hS : St sh) : okC 0 sh 58 := okC_l hS rfl (i17 ⟨rfl, rfl, rfl, rfl, rfl, rfl, rfl⟩) rfl
theorem okC_67 {sh : Shp} (hS : St sh) : okC 0 sh 67 := okC_l hS rfl (i17 ⟨rfl, rfl, rfl, rfl, rfl, rfl, rfl⟩) rfl
theorem okC_76 {sh : Shp} (hS : St sh) : okC 0 sh 76 := okC_l hS rfl (i17 ⟨rfl, rfl, rfl, rfl, rfl, rfl, rfl⟩) rfl
theorem okC_85 {sh : Shp} (hS : St sh) : okC 0 sh 85 := okC_l hS rfl (i17 ⟨rfl, rfl, rfl, rfl, rfl, rfl, rfl⟩) rfl
theorem okC_94 {sh : Shp} (hS : St sh) : okC 0 sh 94 := okC_l hS rfl (i17 ⟨rfl, rfl, rfl, rfl, rfl, rfl, rfl⟩) rfl
theorem okC_103 {sh : Shp} (hS : St sh) : okC 0 sh 103 := okC_l hS rfl (i17 ⟨rfl, rfl, rfl, rfl, rfl, rfl, rfl⟩) rfl
theorem okC_112 {sh : Shp} (hS : St sh) : okC 0 sh 112 := okC_l hS rfl (i17 ⟨rfl, rfl, rfl, rfl, rfl, rfl, rfl⟩) rfl
theorem okC_121 {sh : Shp} (hS : St sh) : okC 0 sh 121 := okC_l hS rfl (i17 ⟨rfl, rfl, rfl, rfl, rfl, rfl, rfl⟩) rfl
theorem okC_135 {sh : Shp} (hS : St sh) : okC 0 sh 135 := okC_l hS rfl (i17 ⟨rfl, rfl, rfl, rfl, rfl, rfl, rfl⟩) rfl
theorem okS_16 {sh : Shp} (hS : St sh) : okS 0 sh 16 := ⟨hS _ _ rfl, okC_17 hS, okC_26 hS, hS _ _ rfl, hS _ _ rfl, hS _ _ rfl⟩
def lvA (x : Int) (i : Nat) : Option Nat := if x = ((58 + 9 * i : Nat) : Int) ∧ i < 8 then some (58 + 9 * i) else none
theorem lvA_r {x : Int} {i a : Nat} (h : lvA x i = some a) : vR x = .ref a := by
  unfold lvA at h
  split at h
  · rename_i h1
    cases h
    rw [h1.1, vR_r (by omega)]
    rfl
  · cases h
theorem lvA_c {x : Int} {i a : Nat} {sh : Shp} (hS : St sh) (h : lvA x i = some a) : okC 0 sh a := by
  unfold lvA at h
  split at h
  · rename_i h1
    cases h
    have h2 := h1.2
    match i, h2 with
    | 0, _ => exact okC_58 hS
    | 1, _ => exact okC_67 hS
    | 2, _ => exact okC_76 hS
    | 3, _ => exact okC_85 hS
    | 4, _ => exact okC_94 hS
    | 5, _ => exact okC_103 hS
    | 6, _ => exact okC_112 hS
    | 7, _ => exact okC_121 hS
  · cases h
/-- what is read is what was told ahead -/
def rsA (x y : Int) : Option Int := if x = y then some y else none
theorem rsA_e {x y v : Int} (h : rsA x y = some v) : x = y ∧ v = y := by
  unfold rsA at h
  split at h
  · cases h; exact ⟨by assumption, rfl⟩
  · cases h
def lI (x : Int) : Int := w32 x
theorem p_lI (x : Int) : Int32.ofInt (lI x) = (Int64.ofInt x).toInt32 := by
  unfold lI
  rw [p_w32]
  exact Int64.toInt32_ofInt.symm
theorem ret_a {k : Nat} {u : Int} : pm_ret k .areturn [vR u] = some (some (vR u)) := by
  by_cases h : u < 0
  · rw [vR_n h]; rfl
  · rw [vR_r h]; rfl
theorem vR_m1 : vR (-1) = .null := rfl
theorem se_l {α β γ : Type} {f : α → γ} {g : β → γ} {x : α} {y : γ} (h : Sum.elim f g (Sum.inl x) = y) : f x = y := h
theorem se_r {α β γ : Type} {f : α → γ} {g : β → γ} {x : β} {y : γ} (h : Sum.elim f g (Sum.inr x) = y) : g x = y := h
theorem vR_nat (n : Nat) : vR ((n : Nat) : Int) = .ref n := by
  rw [vR_r (by omega)]
  rfl
theorem uh_rd {s s1 : Hp} {a i : Nat} {v : Int} (e : some (uh s a i v) = some s1) : s1 a i = v := by
  cases e
  exact if_pos ⟨rfl, rfl⟩
/-- more shapes, and a larger heap -/
def Gr (sh sh1 : Shp) (w w1 : pm_H) : Prop := (∀ x, x < w.length → sh1 x = sh x) ∧ w.length ≤ w1.length ∧ w1.length ≤ w.length + 22 ∧ pm_sz w1 ≤ pm_sz w + 700 ∧ ∀ x, x < w.length → sh x = none → w1[x]? = w[x]?
def Sub (sh sh1 : Shp) : Prop := ∀ a q, sh a = some q → sh1 a = some q
theorem RH_lt {sh : Shp} {s : Hp} {w : pm_H} (h : RH sh s w) {a : Nat} {q : Sh1} (hq : sh a = some q) : a < w.length := (List.getElem?_eq_some_iff.mp (h a q hq)).1
theorem Gr_sub {sh sh1 : Shp} {s : Hp} {w w1 : pm_H} (h : RH sh s w) (g : Gr sh sh1 w w1) : Sub sh sh1 := fun a q hq => by rw [g.1 a (RH_lt h hq)]; exact hq
theorem Gr_rf {sh : Shp} {w : pm_H} : Gr sh sh w w := ⟨fun _ _ => rfl, Nat.le_refl _, Nat.le_add_right _ _, Nat.le_add_right _ _, fun _ _ _ => rfl⟩
theorem sz_eq : ∀ {w w1 : pm_H}, w1.length = w.length → (∀ (x : Nat) (c : pm_C), w[x]? = some c → ∃ c1 : pm_C, w1[x]? = some c1 ∧ c1.2.2.length = c.2.2.length) → pm_sz w1 = pm_sz w
  | [], [], _, _ => rfl
  | [], _ :: _, h, _ => by cases h
  | _ :: _, [], h, _ => by cases h
  | c :: w, c1 :: w1, h, hh => by
    obtain ⟨c2, h1, h2⟩ := hh 0 c rfl
    cases h1
    have ih : pm_sz w1 = pm_sz w := sz_eq (Nat.succ.inj h) (fun x d hd => hh (x + 1) d hd)
    show c1.2.2.length + pm_sz w1 = c.2.2.length + pm_sz w
    rw [ih, h2]
theorem Fr_sz {sh : Shp} {w w1 : pm_H} (h : Fr sh w w1) : pm_sz w1 = pm_sz w := sz_eq h.1 (fun x c hc => by
  obtain ⟨c1, a1, -, -, a4⟩ := h.2.2 x c hc
  exact ⟨c1, a1, a4⟩)
theorem Gr_fr {sh sh1 : Shp} {w w1 w2 : pm_H} (g : Gr sh sh1 w w1) (h : Fr sh1 w1 w2) : Gr sh sh1 w w2 :=
  ⟨g.1, by rw [h.1]; exact g.2.1, by rw [h.1]; exact g.2.2.1, by rw [Fr_sz h]; exact g.2.2.2.1, fun x hx hn => by rw [h.2.1 x (by rw [g.1 x hx]; exact hn)]; exact g.2.2.2.2 x hx hn⟩
theorem fr_Gr {sh sh1 : Shp} {w w1 w2 : pm_H} (h : Fr sh w w1) (g : Gr sh sh1 w1 w2) : Gr sh sh1 w w2 :=
  ⟨fun x hx => g.1 x (by rw [h.1]; exact hx), by rw [← h.1]; exact g.2.1, by rw [← h.1]; exact g.2.2.1, by rw [← Fr_sz h]; exact g.2.2.2.1, fun x hx hn => by rw [g.2.2.2.2 x (by rw [h.1]; exact hx) hn]; exact h.2.1 x hn⟩
theorem St_sub {sh sh1 : Shp} (g : Sub sh sh1) (h : St sh) : St sh1 := fun a q hq => g a q (h a q hq)
theorem okC_sub {sh sh1 : Shp} {r a : Nat} (g : Sub sh sh1) (h : okC r sh a) : okC r sh1 a := ⟨g _ _ h.1, fun i h1 h2 => g _ _ (h.2.1 i h1 h2), g _ _ h.2.2⟩
theorem okS_sub {sh sh1 : Shp} {r a : Nat} (g : Sub sh sh1) (h : okS r sh a) : okS r sh1 a := ⟨g _ _ h.1, okC_sub g h.2.1, okC_sub g h.2.2.1, g _ _ h.2.2.2.1, g _ _ h.2.2.2.2.1, g _ _ h.2.2.2.2.2⟩
theorem okU_sub {ln : Nat → Nat} {sh sh1 : Shp} {a : Nat} (g : Sub sh sh1) (h : okU ln sh a) : okU ln sh1 a := ⟨g _ _ h.1, g _ _ h.2⟩
theorem okR_sub {ln : Nat → Nat} {sh sh1 : Shp} {u : Int} (g : Sub sh sh1) (h : okR ln sh u) : okR ln sh1 u := fun q => okU_sub g (h q)
theorem wx_wr {d k pc : Nat} {lv : pm_L} {rest : List Value} {w w0 : pm_H} {ln a b ci n r r1 x y : Nat} {zz : Int} {P : Option Value → pm_H → Prop} {sh : Shp} {s s1 : Hp} {fd : List (Nat × Nat)} {j : Int} {i : Nat} (hI : pm_I k pc = some (.aastore, ln, a, b, zz)) (h : Rw sh w0 s w) (hq : sh x = some (r, 1, 4 + ci, [(n, 0)])) (hy : sh y = some (r1, 0, ci, fd)) (e : ix n j = some i) (es : some (uh s x i ((y : Nat) : Int)) = some s1) (K : ∀ w1, Rw sh w0 s1 w1 → wp d k (pc + 1) lv rest w1 P) : wp d k pc lv (.ref y :: .int (Int32.ofInt j) :: .ref x :: rest) w P := by
  cases es
  obtain ⟨h1, h2, h3⟩ := ix_of e
  have h0 : w[x]? = some (1, 4 + ci, ro (4 + ci) n (s x)) := h.1 _ _ hq
  have h5 : w[y]? = some (0, ci, fv y (s y) 0 fd) := h.1 _ _ hy
  have h4 : wp d k (pc + 1) lv rest (w.set x (1, 4 + ci, (ro (4 + ci) n (s x)).set (Int32.ofInt j).toNatClampNeg (.ref y))) P := by
    rw [h2, show Value.ref y = rv (4 + ci) ((y : Nat) : Int) by rw [rv4 (by omega), vR_nat], ro_set, ← uh_self]
    exact K _ (Rw_set (s1 := uh s x i ((y : Nat) : Int)) h hq (fun p hp => uh_row hp))
  refine wp_of (fun _ _ h6 => ev_st hI rfl rfl ?_ h6) h4
  show (match w[y]? with
      | some (0, ci, _) => (pm_wr w x (4 + ci) (Int32.ofInt j) (.ref y)).map fun w' => (pc + 1, lv, rest, w')
      | _ => none) = _
  rw [h5]
  show (pm_wr w x (4 + ci) (Int32.ofInt j) (.ref y)).map _ = _
  rw [ev_wr h0 h1 (by rw [h2, ro_len]; exact h3)]
  rfl
theorem vR_c (u : Int) : vR u = .null ∨ ∃ a, vR u = .ref a := by
  by_cases h : u < 0
  · exact Or.inl (vR_n h)
  · exact Or.inr ⟨_, vR_r h⟩
theorem w01 {v : Int} (h : w32 v = 0 ∨ w32 v = 1) : Int32.ofInt v = 0 ∨ Int32.ofInt v = 1 := by
  rcases h with h | h
  · exact Or.inl ((z_eq _).mpr h)
  · exact Or.inr (Int32.toInt_inj.mp h)
theorem q_lc (n : Nat) : Int64.ofInt (n : Int) = Int64.ofNat n := Int64.ofInt_eq_ofNat
theorem rcv_x {t a r : Nat} {fd : List (Nat × Nat)} {as : List Value} {sh : Shp} {w0 w : pm_H} {s : Hp} (ci : Nat) (h : Rw sh w0 s w) (hq : sh a = some (r, 0, ci, fd)) (hc : ci = pm_o t) : (pm_k t == 1 || pm_rcv t (.ref a :: as) w) = true := rcv_ok (h.1 _ _ hq) hc
theorem gd {c : Prop} [Decidable c] {α : Type} {x : Option α} {y : α} (h : (if c then x else none) = some y) : c ∧ x = some y := by
  split at h
  · exact ⟨by assumption, h⟩
  · cases h

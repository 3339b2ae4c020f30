def m_okr (M a : Nat) : Bool := (List.range 96).all (fun j => match m_code M (96 * a + j) with
  | some e => m_oke M (96 * a + j) e
  | none => true)
set_option maxRecDepth 100000 in
theorem r_0_0 : m_okr 0 0 = true := by decide +kernel
set_option maxRecDepth 100000 in
theorem r_1_0 : m_okr 1 0 = true := by decide +kernel
set_option maxRecDepth 100000 in
theorem r_2_0 : m_okr 2 0 = true := by decide +kernel
set_option maxRecDepth 100000 in
theorem r_3_0 : m_okr 3 0 = true := by decide +kernel
set_option maxRecDepth 100000 in
theorem r_4_0 : m_okr 4 0 = true := by decide +kernel
set_option maxRecDepth 100000 in
theorem r_5_0 : m_okr 5 0 = true := by decide +kernel
set_option maxRecDepth 100000 in
theorem r_6_0 : m_okr 6 0 = true := by decide +kernel
set_option maxRecDepth 100000 in
theorem r_7_0 : m_okr 7 0 = true := by decide +kernel
set_option maxRecDepth 100000 in
theorem r_8_0 : m_okr 8 0 = true := by decide +kernel
set_option maxRecDepth 100000 in
theorem r_9_0 : m_okr 9 0 = true := by decide +kernel
set_option maxRecDepth 100000 in
theorem r_10_0 : m_okr 10 0 = true := by decide +kernel
set_option maxRecDepth 100000 in
theorem r_11_0 : m_okr 11 0 = true := by decide +kernel
set_option maxRecDepth 100000 in
theorem r_12_0 : m_okr 12 0 = true := by decide +kernel
set_option maxRecDepth 100000 in
theorem r_12_1 : m_okr 12 1 = true := by decide +kernel
set_option maxRecDepth 100000 in
theorem r_13_0 : m_okr 13 0 = true := by decide +kernel
set_option maxRecDepth 100000 in
theorem r_14_0 : m_okr 14 0 = true := by decide +kernel
set_option maxRecDepth 100000 in
theorem r_15_0 : m_okr 15 0 = true := by decide +kernel
set_option maxRecDepth 100000 in
theorem r_16_0 : m_okr 16 0 = true := by decide +kernel
set_option maxRecDepth 100000 in
theorem r_17_0 : m_okr 17 0 = true := by decide +kernel
set_option maxRecDepth 100000 in
theorem r_17_1 : m_okr 17 1 = true := by decide +kernel
set_option maxRecDepth 100000 in
theorem r_18_0 : m_okr 18 0 = true := by decide +kernel
set_option maxRecDepth 100000 in
theorem r_19_0 : m_okr 19 0 = true := by decide +kernel
set_option maxRecDepth 100000 in
theorem r_19_1 : m_okr 19 1 = true := by decide +kernel
set_option maxRecDepth 100000 in
theorem r_19_2 : m_okr 19 2 = true := by decide +kernel
set_option maxRecDepth 100000 in
theorem r_19_3 : m_okr 19 3 = true := by decide +kernel
set_option maxRecDepth 100000 in
theorem r_20_0 : m_okr 20 0 = true := by decide +kernel
set_option maxRecDepth 100000 in
theorem r_20_1 : m_okr 20 1 = true := by decide +kernel
set_option maxRecDepth 100000 in
theorem r_20_2 : m_okr 20 2 = true := by decide +kernel
set_option maxRecDepth 100000 in
theorem r_21_0 : m_okr 21 0 = true := by decide +kernel
set_option maxRecDepth 100000 in
theorem r_22_0 : m_okr 22 0 = true := by decide +kernel
set_option maxRecDepth 100000 in
theorem r_23_0 : m_okr 23 0 = true := by decide +kernel
set_option maxRecDepth 100000 in
theorem r_24_0 : m_okr 24 0 = true := by decide +kernel
set_option maxRecDepth 100000 in
theorem r_25_0 : m_okr 25 0 = true := by decide +kernel
set_option maxRecDepth 100000 in
theorem r_26_0 : m_okr 26 0 = true := by decide +kernel
set_option maxRecDepth 100000 in
theorem r_27_0 : m_okr 27 0 = true := by decide +kernel
set_option maxRecDepth 100000 in
theorem r_28_0 : m_okr 28 0 = true := by decide +kernel
set_option maxRecDepth 100000 in
theorem r_29_0 : m_okr 29 0 = true := by decide +kernel
set_option maxRecDepth 100000 in
theorem r_30_0 : m_okr 30 0 = true := by decide +kernel
set_option maxRecDepth 100000 in
theorem r_31_0 : m_okr 31 0 = true := by decide +kernel
set_option maxRecDepth 100000 in
theorem r_32_0 : m_okr 32 0 = true := by decide +kernel
set_option maxRecDepth 100000 in
theorem r_33_0 : m_okr 33 0 = true := by decide +kernel
set_option maxRecDepth 100000 in
theorem r_34_0 : m_okr 34 0 = true := by decide +kernel
set_option maxRecDepth 100000 in
theorem r_34_1 : m_okr 34 1 = true := by decide +kernel
set_option maxRecDepth 100000 in
theorem r_35_0 : m_okr 35 0 = true := by decide +kernel
set_option maxRecDepth 100000 in
theorem r_36_0 : m_okr 36 0 = true := by decide +kernel
set_option maxRecDepth 100000 in
theorem r_37_0 : m_okr 37 0 = true := by decide +kernel
set_option maxRecDepth 100000 in
theorem r_38_0 : m_okr 38 0 = true := by decide +kernel
set_option maxRecDepth 100000 in
theorem r_39_0 : m_okr 39 0 = true := by decide +kernel
set_option maxRecDepth 100000 in
theorem r_39_1 : m_okr 39 1 = true := by decide +kernel
set_option maxRecDepth 100000 in
theorem r_40_0 : m_okr 40 0 = true := by decide +kernel
set_option maxRecDepth 100000 in
theorem r_41_0 : m_okr 41 0 = true := by decide +kernel
set_option maxRecDepth 100000 in
theorem r_42_0 : m_okr 42 0 = true := by decide +kernel
set_option maxRecDepth 100000 in
theorem r_42_1 : m_okr 42 1 = true := by decide +kernel
set_option maxRecDepth 100000 in
theorem r_43_0 : m_okr 43 0 = true := by decide +kernel
set_option maxRecDepth 100000 in
theorem r_44_0 : m_okr 44 0 = true := by decide +kernel
set_option maxRecDepth 100000 in
theorem r_45_0 : m_okr 45 0 = true := by decide +kernel
set_option maxRecDepth 100000 in
theorem r_46_0 : m_okr 46 0 = true := by decide +kernel
set_option maxRecDepth 100000 in
theorem r_47_0 : m_okr 47 0 = true := by decide +kernel
set_option maxRecDepth 100000 in
theorem r_48_0 : m_okr 48 0 = true := by decide +kernel
set_option maxRecDepth 100000 in
theorem r_49_0 : m_okr 49 0 = true := by decide +kernel
set_option maxRecDepth 100000 in
theorem r_50_0 : m_okr 50 0 = true := by decide +kernel
set_option maxRecDepth 100000 in
theorem r_50_1 : m_okr 50 1 = true := by decide +kernel
set_option maxRecDepth 100000 in
theorem r_51_0 : m_okr 51 0 = true := by decide +kernel
set_option maxRecDepth 100000 in
theorem r_52_0 : m_okr 52 0 = true := by decide +kernel
set_option maxRecDepth 100000 in
theorem r_52_1 : m_okr 52 1 = true := by decide +kernel
set_option maxRecDepth 100000 in
theorem r_53_0 : m_okr 53 0 = true := by decide +kernel
set_option maxRecDepth 100000 in
theorem r_54_0 : m_okr 54 0 = true := by decide +kernel
set_option maxRecDepth 100000 in
theorem r_55_0 : m_okr 55 0 = true := by decide +kernel
set_option maxRecDepth 100000 in
theorem r_55_1 : m_okr 55 1 = true := by decide +kernel
set_option maxRecDepth 100000 in
theorem r_56_0 : m_okr 56 0 = true := by decide +kernel
set_option maxRecDepth 100000 in
theorem r_57_0 : m_okr 57 0 = true := by decide +kernel
set_option maxRecDepth 100000 in
theorem r_57_1 : m_okr 57 1 = true := by decide +kernel
set_option maxRecDepth 100000 in
theorem r_57_2 : m_okr 57 2 = true := by decide +kernel
set_option maxRecDepth 100000 in
theorem r_57_3 : m_okr 57 3 = true := by decide +kernel
set_option maxRecDepth 100000 in
theorem r_58_0 : m_okr 58 0 = true := by decide +kernel
set_option maxRecDepth 100000 in
theorem r_59_0 : m_okr 59 0 = true := by decide +kernel
set_option maxRecDepth 100000 in
theorem r_60_0 : m_okr 60 0 = true := by decide +kernel
set_option maxRecDepth 100000 in
theorem r_61_0 : m_okr 61 0 = true := by decide +kernel
set_option maxRecDepth 100000 in
theorem r_62_0 : m_okr 62 0 = true := by decide +kernel
set_option maxRecDepth 100000 in
theorem r_63_0 : m_okr 63 0 = true := by decide +kernel
set_option maxRecDepth 100000 in
theorem r_64_0 : m_okr 64 0 = true := by decide +kernel
set_option maxRecDepth 100000 in
theorem r_65_0 : m_okr 65 0 = true := by decide +kernel
set_option maxRecDepth 100000 in
theorem r_66_0 : m_okr 66 0 = true := by decide +kernel
set_option maxRecDepth 100000 in
theorem r_66_1 : m_okr 66 1 = true := by decide +kernel
set_option maxRecDepth 100000 in
theorem r_66_2 : m_okr 66 2 = true := by decide +kernel
set_option maxRecDepth 100000 in
theorem r_67_0 : m_okr 67 0 = true := by decide +kernel
set_option maxRecDepth 100000 in
theorem r_68_0 : m_okr 68 0 = true := by decide +kernel
set_option maxRecDepth 100000 in
theorem r_69_0 : m_okr 69 0 = true := by decide +kernel
set_option maxRecDepth 100000 in
theorem r_70_0 : m_okr 70 0 = true := by decide +kernel
set_option maxRecDepth 100000 in
theorem r_71_0 : m_okr 71 0 = true := by decide +kernel
set_option maxRecDepth 100000 in
theorem r_72_0 : m_okr 72 0 = true := by decide +kernel
set_option maxRecDepth 100000 in
theorem r_73_0 : m_okr 73 0 = true := by decide +kernel
set_option maxRecDepth 100000 in
theorem r_73_1 : m_okr 73 1 = true := by decide +kernel
set_option maxRecDepth 100000 in
theorem r_74_0 : m_okr 74 0 = true := by decide +kernel
set_option maxRecDepth 100000 in
theorem r_75_0 : m_okr 75 0 = true := by decide +kernel
set_option maxRecDepth 100000 in
theorem r_76_0 : m_okr 76 0 = true := by decide +kernel
set_option maxRecDepth 100000 in
theorem r_76_1 : m_okr 76 1 = true := by decide +kernel
set_option maxRecDepth 100000 in
theorem r_77_0 : m_okr 77 0 = true := by decide +kernel
set_option maxRecDepth 100000 in
theorem r_78_0 : m_okr 78 0 = true := by decide +kernel
set_option maxRecDepth 100000 in
theorem r_79_0 : m_okr 79 0 = true := by decide +kernel
set_option maxRecDepth 100000 in
theorem r_80_0 : m_okr 80 0 = true := by decide +kernel
set_option maxRecDepth 100000 in
theorem r_81_0 : m_okr 81 0 = true := by decide +kernel
set_option maxRecDepth 100000 in
theorem r_82_0 : m_okr 82 0 = true := by decide +kernel
set_option maxRecDepth 100000 in
theorem r_83_0 : m_okr 83 0 = true := by decide +kernel
set_option maxRecDepth 100000 in
theorem r_84_0 : m_okr 84 0 = true := by decide +kernel
set_option maxRecDepth 100000 in
theorem r_85_0 : m_okr 85 0 = true := by decide +kernel
set_option maxRecDepth 100000 in
theorem r_86_0 : m_okr 86 0 = true := by decide +kernel
set_option maxRecDepth 100000 in
theorem r_87_0 : m_okr 87 0 = true := by decide +kernel
set_option maxRecDepth 100000 in
theorem r_88_0 : m_okr 88 0 = true := by decide +kernel
set_option maxRecDepth 100000 in
theorem r_89_0 : m_okr 89 0 = true := by decide +kernel
set_option maxRecDepth 100000 in
theorem r_90_0 : m_okr 90 0 = true := by decide +kernel
set_option maxRecDepth 100000 in
theorem r_91_0 : m_okr 91 0 = true := by decide +kernel
set_option maxRecDepth 100000 in
theorem r_92_0 : m_okr 92 0 = true := by decide +kernel
set_option maxRecDepth 100000 in
theorem r_93_0 : m_okr 93 0 = true := by decide +kernel
set_option maxRecDepth 100000 in
theorem r_94_0 : m_okr 94 0 = true := by decide +kernel
set_option maxRecDepth 100000 in
theorem r_95_0 : m_okr 95 0 = true := by decide +kernel
set_option maxRecDepth 100000 in
theorem r_96_0 : m_okr 96 0 = true := by decide +kernel
set_option maxRecDepth 100000 in
theorem r_97_0 : m_okr 97 0 = true := by decide +kernel
set_option maxRecDepth 100000 in
theorem r_98_0 : m_okr 98 0 = true := by decide +kernel
set_option maxRecDepth 100000 in
theorem r_99_0 : m_okr 99 0 = true := by decide +kernel
set_option maxRecDepth 100000 in
theorem r_100_0 : m_okr 100 0 = true := by decide +kernel
set_option maxRecDepth 100000 in
theorem r_101_0 : m_okr 101 0 = true := by decide +kernel
set_option maxRecDepth 100000 in
theorem r_102_0 : m_okr 102 0 = true := by decide +kernel
set_option maxRecDepth 100000 in
theorem r_103_0 : m_okr 103 0 = true := by decide +kernel
set_option maxRecDepth 100000 in
theorem r_104_0 : m_okr 104 0 = true := by decide +kernel
set_option maxRecDepth 100000 in
theorem r_105_0 : m_okr 105 0 = true := by decide +kernel
set_option maxRecDepth 100000 in
theorem r_106_0 : m_okr 106 0 = true := by decide +kernel
set_option maxRecDepth 100000 in
theorem r_107_0 : m_okr 107 0 = true := by decide +kernel
set_option maxRecDepth 100000 in
theorem r_108_0 : m_okr 108 0 = true := by decide +kernel
set_option maxRecDepth 100000 in
theorem r_109_0 : m_okr 109 0 = true := by decide +kernel
set_option maxRecDepth 100000 in
theorem r_110_0 : m_okr 110 0 = true := by decide +kernel
set_option maxRecDepth 100000 in
theorem r_111_0 : m_okr 111 0 = true := by decide +kernel
set_option maxRecDepth 100000 in
theorem r_111_1 : m_okr 111 1 = true := by decide +kernel
set_option maxRecDepth 100000 in
theorem r_112_0 : m_okr 112 0 = true := by decide +kernel
set_option maxRecDepth 100000 in
theorem r_112_1 : m_okr 112 1 = true := by decide +kernel
set_option maxRecDepth 100000 in
theorem r_113_0 : m_okr 113 0 = true := by decide +kernel
set_option maxRecDepth 100000 in
theorem r_113_1 : m_okr 113 1 = true := by decide +kernel
set_option maxRecDepth 100000 in
theorem r_114_0 : m_okr 114 0 = true := by decide +kernel
set_option maxRecDepth 100000 in
theorem r_115_0 : m_okr 115 0 = true := by decide +kernel
set_option maxRecDepth 100000 in
theorem r_115_1 : m_okr 115 1 = true := by decide +kernel
set_option maxRecDepth 100000 in
theorem r_116_0 : m_okr 116 0 = true := by decide +kernel
set_option maxRecDepth 100000 in
theorem r_117_0 : m_okr 117 0 = true := by decide +kernel
set_option maxRecDepth 100000 in
theorem r_117_1 : m_okr 117 1 = true := by decide +kernel
set_option maxRecDepth 100000 in
theorem r_118_0 : m_okr 118 0 = true := by decide +kernel
set_option maxRecDepth 100000 in
theorem r_119_0 : m_okr 119 0 = true := by decide +kernel
set_option maxRecDepth 100000 in
theorem r_120_0 : m_okr 120 0 = true := by decide +kernel
set_option maxRecDepth 100000 in
theorem r_121_0 : m_okr 121 0 = true := by decide +kernel
set_option maxRecDepth 100000 in
theorem r_122_0 : m_okr 122 0 = true := by decide +kernel
set_option maxRecDepth 100000 in
theorem r_123_0 : m_okr 123 0 = true := by decide +kernel
set_option maxRecDepth 100000 in
theorem r_123_1 : m_okr 123 1 = true := by decide +kernel
set_option maxRecDepth 100000 in
theorem r_123_2 : m_okr 123 2 = true := by decide +kernel
set_option maxRecDepth 100000 in
theorem r_123_3 : m_okr 123 3 = true := by decide +kernel
set_option maxRecDepth 100000 in
theorem r_123_4 : m_okr 123 4 = true := by decide +kernel
set_option maxRecDepth 100000 in
theorem r_123_5 : m_okr 123 5 = true := by decide +kernel
set_option maxRecDepth 100000 in
theorem r_124_0 : m_okr 124 0 = true := by decide +kernel
set_option maxRecDepth 100000 in
theorem r_125_0 : m_okr 125 0 = true := by decide +kernel
set_option maxRecDepth 100000 in
theorem r_125_1 : m_okr 125 1 = true := by decide +kernel
set_option maxRecDepth 100000 in
theorem r_126_0 : m_okr 126 0 = true := by decide +kernel
set_option maxRecDepth 100000 in
theorem r_126_1 : m_okr 126 1 = true := by decide +kernel
set_option maxRecDepth 100000 in
theorem r_126_2 : m_okr 126 2 = true := by decide +kernel
set_option maxRecDepth 100000 in
theorem r_126_3 : m_okr 126 3 = true := by decide +kernel
set_option maxRecDepth 100000 in
theorem r_126_4 : m_okr 126 4 = true := by decide +kernel
set_option maxRecDepth 100000 in
theorem r_127_0 : m_okr 127 0 = true := by decide +kernel
set_option maxRecDepth 100000 in
theorem r_127_1 : m_okr 127 1 = true := by decide +kernel
set_option maxRecDepth 100000 in
theorem r_127_2 : m_okr 127 2 = true := by decide +kernel
set_option maxRecDepth 100000 in
theorem r_127_3 : m_okr 127 3 = true := by decide +kernel
set_option maxRecDepth 100000 in
theorem r_128_0 : m_okr 128 0 = true := by decide +kernel
set_option maxRecDepth 100000 in
theorem r_128_1 : m_okr 128 1 = true := by decide +kernel
set_option maxRecDepth 100000 in
theorem r_128_2 : m_okr 128 2 = true := by decide +kernel
set_option maxRecDepth 100000 in
theorem r_128_3 : m_okr 128 3 = true := by decide +kernel
set_option maxRecDepth 100000 in
theorem r_129_0 : m_okr 129 0 = true := by decide +kernel
set_option maxRecDepth 100000 in
theorem r_130_0 : m_okr 130 0 = true := by decide +kernel
set_option maxRecDepth 100000 in
theorem r_130_1 : m_okr 130 1 = true := by decide +kernel
set_option maxRecDepth 100000 in
theorem r_131_0 : m_okr 131 0 = true := by decide +kernel
set_option maxRecDepth 100000 in
theorem r_132_0 : m_okr 132 0 = true := by decide +kernel
set_option maxRecDepth 100000 in
theorem r_133_0 : m_okr 133 0 = true := by decide +kernel
set_option maxRecDepth 100000 in
theorem r_134_0 : m_okr 134 0 = true := by decide +kernel
set_option maxRecDepth 100000 in
theorem r_135_0 : m_okr 135 0 = true := by decide +kernel
set_option maxRecDepth 100000 in
theorem r_136_0 : m_okr 136 0 = true := by decide +kernel
set_option maxRecDepth 100000 in
theorem r_137_0 : m_okr 137 0 = true := by decide +kernel
set_option maxRecDepth 100000 in
theorem r_137_1 : m_okr 137 1 = true := by decide +kernel
set_option maxRecDepth 100000 in
theorem r_138_0 : m_okr 138 0 = true := by decide +kernel
set_option maxRecDepth 100000 in
theorem r_139_0 : m_okr 139 0 = true := by decide +kernel
set_option maxRecDepth 100000 in
theorem r_139_1 : m_okr 139 1 = true := by decide +kernel
set_option maxRecDepth 100000 in
theorem r_139_2 : m_okr 139 2 = true := by decide +kernel
set_option maxRecDepth 100000 in
theorem r_139_3 : m_okr 139 3 = true := by decide +kernel
set_option maxRecDepth 100000 in
theorem r_139_4 : m_okr 139 4 = true := by decide +kernel
set_option maxRecDepth 100000 in
theorem r_139_5 : m_okr 139 5 = true := by decide +kernel
set_option maxRecDepth 100000 in
theorem r_139_6 : m_okr 139 6 = true := by decide +kernel
set_option maxRecDepth 100000 in
theorem r_139_7 : m_okr 139 7 = true := by decide +kernel
set_option maxRecDepth 100000 in
theorem r_139_8 : m_okr 139 8 = true := by decide +kernel
set_option maxRecDepth 100000 in
theorem r_140_0 : m_okr 140 0 = true := by decide +kernel
set_option maxRecDepth 100000 in
theorem r_140_1 : m_okr 140 1 = true := by decide +kernel
set_option maxRecDepth 100000 in
theorem r_140_2 : m_okr 140 2 = true := by decide +kernel
set_option maxRecDepth 100000 in
theorem r_140_3 : m_okr 140 3 = true := by decide +kernel
set_option maxRecDepth 100000 in
theorem r_140_4 : m_okr 140 4 = true := by decide +kernel
set_option maxRecDepth 100000 in
theorem r_141_0 : m_okr 141 0 = true := by decide +kernel
set_option maxRecDepth 100000 in
theorem r_142_0 : m_okr 142 0 = true := by decide +kernel
set_option maxRecDepth 100000 in
theorem r_142_1 : m_okr 142 1 = true := by decide +kernel
set_option maxRecDepth 100000 in
theorem r_142_2 : m_okr 142 2 = true := by decide +kernel
set_option maxRecDepth 100000 in
theorem r_143_0 : m_okr 143 0 = true := by decide +kernel
set_option maxRecDepth 100000 in
theorem r_143_1 : m_okr 143 1 = true := by decide +kernel
set_option maxRecDepth 100000 in
theorem r_143_2 : m_okr 143 2 = true := by decide +kernel
set_option maxRecDepth 100000 in
theorem r_144_0 : m_okr 144 0 = true := by decide +kernel
set_option maxRecDepth 100000 in
theorem r_145_0 : m_okr 145 0 = true := by decide +kernel
set_option maxRecDepth 100000 in
theorem r_146_0 : m_okr 146 0 = true := by decide +kernel
set_option maxRecDepth 100000 in
theorem r_146_1 : m_okr 146 1 = true := by decide +kernel
set_option maxRecDepth 100000 in
theorem r_147_0 : m_okr 147 0 = true := by decide +kernel
set_option maxRecDepth 100000 in
theorem r_148_0 : m_okr 148 0 = true := by decide +kernel
set_option maxRecDepth 100000 in
theorem r_149_0 : m_okr 149 0 = true := by decide +kernel
def m_P0 : List (Nat × Nat) := [(0, 0), (1, 0), (2, 0), (3, 0), (4, 0), (5, 0), (6, 0), (7, 0), (8, 0), (9, 0), (10, 0), (11, 0), (12, 0), (12, 1), (13, 0), (14, 0)]
theorem r_P0 : ∀ q ∈ m_P0, m_okr q.1 q.2 = true := List.forall_mem_cons.mpr ⟨r_0_0, List.forall_mem_cons.mpr ⟨r_1_0, List.forall_mem_cons.mpr ⟨r_2_0, List.forall_mem_cons.mpr ⟨r_3_0, List.forall_mem_cons.mpr ⟨r_4_0, List.forall_mem_cons.mpr ⟨r_5_0, List.forall_mem_cons.mpr ⟨r_6_0, List.forall_mem_cons.mpr ⟨r_7_0, List.forall_mem_cons.mpr ⟨r_8_0, List.forall_mem_cons.mpr ⟨r_9_0, List.forall_mem_cons.mpr ⟨r_10_0, List.forall_mem_cons.mpr ⟨r_11_0, List.forall_mem_cons.mpr ⟨r_12_0, List.forall_mem_cons.mpr ⟨r_12_1, List.forall_mem_cons.mpr ⟨r_13_0, List.forall_mem_cons.mpr ⟨r_14_0, fun _ h => absurd h List.not_mem_nil⟩⟩⟩⟩⟩⟩⟩⟩⟩⟩⟩⟩⟩⟩⟩⟩
def m_P1 : List (Nat × Nat) := [(15, 0), (16, 0), (17, 0), (17, 1), (18, 0), (19, 0), (19, 1), (19, 2), (19, 3), (20, 0), (20, 1), (20, 2), (21, 0), (22, 0), (23, 0), (24, 0)]
theorem r_P1 : ∀ q ∈ m_P1, m_okr q.1 q.2 = true := List.forall_mem_cons.mpr ⟨r_15_0, List.forall_mem_cons.mpr ⟨r_16_0, List.forall_mem_cons.mpr ⟨r_17_0, List.forall_mem_cons.mpr ⟨r_17_1, List.forall_mem_cons.mpr ⟨r_18_0, List.forall_mem_cons.mpr ⟨r_19_0, List.forall_mem_cons.mpr ⟨r_19_1, List.forall_mem_cons.mpr ⟨r_19_2, List.forall_mem_cons.mpr ⟨r_19_3, List.forall_mem_cons.mpr ⟨r_20_0, List.forall_mem_cons.mpr ⟨r_20_1, List.forall_mem_cons.mpr ⟨r_20_2, List.forall_mem_cons.mpr ⟨r_21_0, List.forall_mem_cons.mpr ⟨r_22_0, List.forall_mem_cons.mpr ⟨r_23_0, List.forall_mem_cons.mpr ⟨r_24_0, fun _ h => absurd h List.not_mem_nil⟩⟩⟩⟩⟩⟩⟩⟩⟩⟩⟩⟩⟩⟩⟩⟩
def m_P2 : List (Nat × Nat) := [(25, 0), (26, 0), (27, 0), (28, 0), (29, 0), (30, 0), (31, 0), (32, 0), (33, 0), (34, 0), (34, 1), (35, 0), (36, 0), (37, 0), (38, 0), (39, 0)]
theorem r_P2 : ∀ q ∈ m_P2, m_okr q.1 q.2 = true := List.forall_mem_cons.mpr ⟨r_25_0, List.forall_mem_cons.mpr ⟨r_26_0, List.forall_mem_cons.mpr ⟨r_27_0, List.forall_mem_cons.mpr ⟨r_28_0, List.forall_mem_cons.mpr ⟨r_29_0, List.forall_mem_cons.mpr ⟨r_30_0, List.forall_mem_cons.mpr ⟨r_31_0, List.forall_mem_cons.mpr ⟨r_32_0, List.forall_mem_cons.mpr ⟨r_33_0, List.forall_mem_cons.mpr ⟨r_34_0, List.forall_mem_cons.mpr ⟨r_34_1, List.forall_mem_cons.mpr ⟨r_35_0, List.forall_mem_cons.mpr ⟨r_36_0, List.forall_mem_cons.mpr ⟨r_37_0, List.forall_mem_cons.mpr ⟨r_38_0, List.forall_mem_cons.mpr ⟨r_39_0, fun _ h => absurd h List.not_mem_nil⟩⟩⟩⟩⟩⟩⟩⟩⟩⟩⟩⟩⟩⟩⟩⟩
def m_P3 : List (Nat × Nat) := [(39, 1), (40, 0), (41, 0), (42, 0), (42, 1), (43, 0), (44, 0), (45, 0), (46, 0), (47, 0), (48, 0), (49, 0), (50, 0), (50, 1), (51, 0), (52, 0)]
theorem r_P3 : ∀ q ∈ m_P3, m_okr q.1 q.2 = true := List.forall_mem_cons.mpr ⟨r_39_1, List.forall_mem_cons.mpr ⟨r_40_0, List.forall_mem_cons.mpr ⟨r_41_0, List.forall_mem_cons.mpr ⟨r_42_0, List.forall_mem_cons.mpr ⟨r_42_1, List.forall_mem_cons.mpr ⟨r_43_0, List.forall_mem_cons.mpr ⟨r_44_0, List.forall_mem_cons.mpr ⟨r_45_0, List.forall_mem_cons.mpr ⟨r_46_0, List.forall_mem_cons.mpr ⟨r_47_0, List.forall_mem_cons.mpr ⟨r_48_0, List.forall_mem_cons.mpr ⟨r_49_0, List.forall_mem_cons.mpr ⟨r_50_0, List.forall_mem_cons.mpr ⟨r_50_1, List.forall_mem_cons.mpr ⟨r_51_0, List.forall_mem_cons.mpr ⟨r_52_0, fun _ h => absurd h List.not_mem_nil⟩⟩⟩⟩⟩⟩⟩⟩⟩⟩⟩⟩⟩⟩⟩⟩
def m_P4 : List (Nat × Nat) := [(52, 1), (53, 0), (54, 0), (55, 0), (55, 1), (56, 0), (57, 0), (57, 1), (57, 2), (57, 3), (58, 0), (59, 0), (60, 0), (61, 0), (62, 0), (63, 0)]
theorem r_P4 : ∀ q ∈ m_P4, m_okr q.1 q.2 = true := List.forall_mem_cons.mpr ⟨r_52_1, List.forall_mem_cons.mpr ⟨r_53_0, List.forall_mem_cons.mpr ⟨r_54_0, List.forall_mem_cons.mpr ⟨r_55_0, List.forall_mem_cons.mpr ⟨r_55_1, List.forall_mem_cons.mpr ⟨r_56_0, List.forall_mem_cons.mpr ⟨r_57_0, List.forall_mem_cons.mpr ⟨r_57_1, List.forall_mem_cons.mpr ⟨r_57_2, List.forall_mem_cons.mpr ⟨r_57_3, List.forall_mem_cons.mpr ⟨r_58_0, List.forall_mem_cons.mpr ⟨r_59_0, List.forall_mem_cons.mpr ⟨r_60_0, List.forall_mem_cons.mpr ⟨r_61_0, List.forall_mem_cons.mpr ⟨r_62_0, List.forall_mem_cons.mpr ⟨r_63_0, fun _ h => absurd h List.not_mem_nil⟩⟩⟩⟩⟩⟩⟩⟩⟩⟩⟩⟩⟩⟩⟩⟩
def m_P5 : List (Nat × Nat) := [(64, 0), (65, 0), (66, 0), (66, 1), (66, 2), (67, 0), (68, 0), (69, 0), (70, 0), (71, 0), (72, 0), (73, 0), (73, 1), (74, 0), (75, 0), (76, 0)]
theorem r_P5 : ∀ q ∈ m_P5, m_okr q.1 q.2 = true := List.forall_mem_cons.mpr ⟨r_64_0, List.forall_mem_cons.mpr ⟨r_65_0, List.forall_mem_cons.mpr ⟨r_66_0, List.forall_mem_cons.mpr ⟨r_66_1, List.forall_mem_cons.mpr ⟨r_66_2, List.forall_mem_cons.mpr ⟨r_67_0, List.forall_mem_cons.mpr ⟨r_68_0, List.forall_mem_cons.mpr ⟨r_69_0, List.forall_mem_cons.mpr ⟨r_70_0, List.forall_mem_cons.mpr ⟨r_71_0, List.forall_mem_cons.mpr ⟨r_72_0, List.forall_mem_cons.mpr ⟨r_73_0, List.forall_mem_cons.mpr ⟨r_73_1, List.forall_mem_cons.mpr ⟨r_74_0, List.forall_mem_cons.mpr ⟨r_75_0, List.forall_mem_cons.mpr ⟨r_76_0, fun _ h => absurd h List.not_mem_nil⟩⟩⟩⟩⟩⟩⟩⟩⟩⟩⟩⟩⟩⟩⟩⟩
def m_P6 : List (Nat × Nat) := [(76, 1), (77, 0), (78, 0), (79, 0), (80, 0), (81, 0), (82, 0), (83, 0), (84, 0), (85, 0), (86, 0), (87, 0), (88, 0), (89, 0), (90, 0), (91, 0)]
theorem r_P6 : ∀ q ∈ m_P6, m_okr q.1 q.2 = true := List.forall_mem_cons.mpr ⟨r_76_1, List.forall_mem_cons.mpr ⟨r_77_0, List.forall_mem_cons.mpr ⟨r_78_0, List.forall_mem_cons.mpr ⟨r_79_0, List.forall_mem_cons.mpr ⟨r_80_0, List.forall_mem_cons.mpr ⟨r_81_0, List.forall_mem_cons.mpr ⟨r_82_0, List.forall_mem_cons.mpr ⟨r_83_0, List.forall_mem_cons.mpr ⟨r_84_0, List.forall_mem_cons.mpr ⟨r_85_0, List.forall_mem_cons.mpr ⟨r_86_0, List.forall_mem_cons.mpr ⟨r_87_0, List.forall_mem_cons.mpr ⟨r_88_0, List.forall_mem_cons.mpr ⟨r_89_0, List.forall_mem_cons.mpr ⟨r_90_0, List.forall_mem_cons.mpr ⟨r_91_0, fun _ h => absurd h List.not_mem_nil⟩⟩⟩⟩⟩⟩⟩⟩⟩⟩⟩⟩⟩⟩⟩⟩
def m_P7 : List (Nat × Nat) := [(92, 0), (93, 0), (94, 0), (95, 0), (96, 0), (97, 0), (98, 0), (99, 0), (100, 0), (101, 0), (102, 0), (103, 0), (104, 0), (105, 0), (106, 0), (107, 0)]
theorem r_P7 : ∀ q ∈ m_P7, m_okr q.1 q.2 = true := List.forall_mem_cons.mpr ⟨r_92_0, List.forall_mem_cons.mpr ⟨r_93_0, List.forall_mem_cons.mpr ⟨r_94_0, List.forall_mem_cons.mpr ⟨r_95_0, List.forall_mem_cons.mpr ⟨r_96_0, List.forall_mem_cons.mpr ⟨r_97_0, List.forall_mem_cons.mpr ⟨r_98_0, List.forall_mem_cons.mpr ⟨r_99_0, List.forall_mem_cons.mpr ⟨r_100_0, List.forall_mem_cons.mpr ⟨r_101_0, List.forall_mem_cons.mpr ⟨r_102_0, List.forall_mem_cons.mpr ⟨r_103_0, List.forall_mem_cons.mpr ⟨r_104_0, List.forall_mem_cons.mpr ⟨r_105_0, List.forall_mem_cons.mpr ⟨r_106_0, List.forall_mem_cons.mpr ⟨r_107_0, fun _ h => absurd h List.not_mem_nil⟩⟩⟩⟩⟩⟩⟩⟩⟩⟩⟩⟩⟩⟩⟩⟩
def m_P8 : List (Nat × Nat) := [(108, 0), (109, 0), (110, 0), (111, 0), (111, 1), (112, 0), (112, 1), (113, 0), (113, 1), (114, 0), (115, 0), (115, 1), (116, 0), (117, 0), (117, 1), (118, 0)]
theorem r_P8 : ∀ q ∈ m_P8, m_okr q.1 q.2 = true := List.forall_mem_cons.mpr ⟨r_108_0, List.forall_mem_cons.mpr ⟨r_109_0, List.forall_mem_cons.mpr ⟨r_110_0, List.forall_mem_cons.mpr ⟨r_111_0, List.forall_mem_cons.mpr ⟨r_111_1, List.forall_mem_cons.mpr ⟨r_112_0, List.forall_mem_cons.mpr ⟨r_112_1, List.forall_mem_cons.mpr ⟨r_113_0, List.forall_mem_cons.mpr ⟨r_113_1, List.forall_mem_cons.mpr ⟨r_114_0, List.forall_mem_cons.mpr ⟨r_115_0, List.forall_mem_cons.mpr ⟨r_115_1, List.forall_mem_cons.mpr ⟨r_116_0, List.forall_mem_cons.mpr ⟨r_117_0, List.forall_mem_cons.mpr ⟨r_117_1, List.forall_mem_cons.mpr ⟨r_118_0, fun _ h => absurd h List.not_mem_nil⟩⟩⟩⟩⟩⟩⟩⟩⟩⟩⟩⟩⟩⟩⟩⟩
def m_P9 : List (Nat × Nat) := [(119, 0), (120, 0), (121, 0), (122, 0), (123, 0), (123, 1), (123, 2), (123, 3), (123, 4), (123, 5), (124, 0), (125, 0), (125, 1), (126, 0), (126, 1), (126, 2)]
theorem r_P9 : ∀ q ∈ m_P9, m_okr q.1 q.2 = true := List.forall_mem_cons.mpr ⟨r_119_0, List.forall_mem_cons.mpr ⟨r_120_0, List.forall_mem_cons.mpr ⟨r_121_0, List.forall_mem_cons.mpr ⟨r_122_0, List.forall_mem_cons.mpr ⟨r_123_0, List.forall_mem_cons.mpr ⟨r_123_1, List.forall_mem_cons.mpr ⟨r_123_2, List.forall_mem_cons.mpr ⟨r_123_3, List.forall_mem_cons.mpr ⟨r_123_4, List.forall_mem_cons.mpr ⟨r_123_5, List.forall_mem_cons.mpr ⟨r_124_0, List.forall_mem_cons.mpr ⟨r_125_0, List.forall_mem_cons.mpr ⟨r_125_1, List.forall_mem_cons.mpr ⟨r_126_0, List.forall_mem_cons.mpr ⟨r_126_1, List.forall_mem_cons.mpr ⟨r_126_2, fun _ h => absurd h List.not_mem_nil⟩⟩⟩⟩⟩⟩⟩⟩⟩⟩⟩⟩⟩⟩⟩⟩
def m_P10 : List (Nat × Nat) := [(126, 3), (126, 4), (127, 0), (127, 1), (127, 2), (127, 3), (128, 0), (128, 1), (128, 2), (128, 3), (129, 0), (130, 0), (130, 1), (131, 0), (132, 0), (133, 0)]
theorem r_P10 : ∀ q ∈ m_P10, m_okr q.1 q.2 = true := List.forall_mem_cons.mpr ⟨r_126_3, List.forall_mem_cons.mpr ⟨r_126_4, List.forall_mem_cons.mpr ⟨r_127_0, List.forall_mem_cons.mpr ⟨r_127_1, List.forall_mem_cons.mpr ⟨r_127_2, List.forall_mem_cons.mpr ⟨r_127_3, List.forall_mem_cons.mpr ⟨r_128_0, List.forall_mem_cons.mpr ⟨r_128_1, List.forall_mem_cons.mpr ⟨r_128_2, List.forall_mem_cons.mpr ⟨r_128_3, List.forall_mem_cons.mpr ⟨r_129_0, List.forall_mem_cons.mpr ⟨r_130_0, List.forall_mem_cons.mpr ⟨r_130_1, List.forall_mem_cons.mpr ⟨r_131_0, List.forall_mem_cons.mpr ⟨r_132_0, List.forall_mem_cons.mpr ⟨r_133_0, fun _ h => absurd h List.not_mem_nil⟩⟩⟩⟩⟩⟩⟩⟩⟩⟩⟩⟩⟩⟩⟩⟩
def m_P11 : List (Nat × Nat) := [(134, 0), (135, 0), (136, 0), (137, 0), (137, 1), (138, 0), (139, 0), (139, 1), (139, 2), (139, 3), (139, 4), (139, 5), (139, 6), (139, 7), (139, 8), (140, 0)]
theorem r_P11 : ∀ q ∈ m_P11, m_okr q.1 q.2 = true := List.forall_mem_cons.mpr ⟨r_134_0, List.forall_mem_cons.mpr ⟨r_135_0, List.forall_mem_cons.mpr ⟨r_136_0, List.forall_mem_cons.mpr ⟨r_137_0, List.forall_mem_cons.mpr ⟨r_137_1, List.forall_mem_cons.mpr ⟨r_138_0, List.forall_mem_cons.mpr ⟨r_139_0, List.forall_mem_cons.mpr ⟨r_139_1, List.forall_mem_cons.mpr ⟨r_139_2, List.forall_mem_cons.mpr ⟨r_139_3, List.forall_mem_cons.mpr ⟨r_139_4, List.forall_mem_cons.mpr ⟨r_139_5, List.forall_mem_cons.mpr ⟨r_139_6, List.forall_mem_cons.mpr ⟨r_139_7, List.forall_mem_cons.mpr ⟨r_139_8, List.forall_mem_cons.mpr ⟨r_140_0, fun _ h => absurd h List.not_mem_nil⟩⟩⟩⟩⟩⟩⟩⟩⟩⟩⟩⟩⟩⟩⟩⟩
def m_P12 : List (Nat × Nat) := [(140, 1), (140, 2), (140, 3), (140, 4), (141, 0), (142, 0), (142, 1), (142, 2), (143, 0), (143, 1), (143, 2), (144, 0), (145, 0), (146, 0), (146, 1), (147, 0)]
theorem r_P12 : ∀ q ∈ m_P12, m_okr q.1 q.2 = true := List.forall_mem_cons.mpr ⟨r_140_1, List.forall_mem_cons.mpr ⟨r_140_2, List.forall_mem_cons.mpr ⟨r_140_3, List.forall_mem_cons.mpr ⟨r_140_4, List.forall_mem_cons.mpr ⟨r_141_0, List.forall_mem_cons.mpr ⟨r_142_0, List.forall_mem_cons.mpr ⟨r_142_1, List.forall_mem_cons.mpr ⟨r_142_2, List.forall_mem_cons.mpr ⟨r_143_0, List.forall_mem_cons.mpr ⟨r_143_1, List.forall_mem_cons.mpr ⟨r_143_2, List.forall_mem_cons.mpr ⟨r_144_0, List.forall_mem_cons.mpr ⟨r_145_0, List.forall_mem_cons.mpr ⟨r_146_0, List.forall_mem_cons.mpr ⟨r_146_1, List.forall_mem_cons.mpr ⟨r_147_0, fun _ h => absurd h List.not_mem_nil⟩⟩⟩⟩⟩⟩⟩⟩⟩⟩⟩⟩⟩⟩⟩⟩
def m_P13 : List (Nat × Nat) := [(148, 0), (149, 0)]
theorem r_P13 : ∀ q ∈ m_P13, m_okr q.1 q.2 = true := List.forall_mem_cons.mpr ⟨r_148_0, List.forall_mem_cons.mpr ⟨r_149_0, fun _ h => absurd h List.not_mem_nil⟩⟩
def m_P : List (Nat × Nat) := m_P0 ++ (m_P1 ++ (m_P2 ++ (m_P3 ++ (m_P4 ++ (m_P5 ++ (m_P6 ++ (m_P7 ++ (m_P8 ++ (m_P9 ++ (m_P10 ++ (m_P11 ++ (m_P12 ++ (m_P13)))))))))))))
theorem r_P : ∀ q ∈ m_P, m_okr q.1 q.2 = true := List.forall_mem_append.mpr ⟨r_P0, List.forall_mem_append.mpr ⟨r_P1, List.forall_mem_append.mpr ⟨r_P2, List.forall_mem_append.mpr ⟨r_P3, List.forall_mem_append.mpr ⟨r_P4, List.forall_mem_append.mpr ⟨r_P5, List.forall_mem_append.mpr ⟨r_P6, List.forall_mem_append.mpr ⟨r_P7, List.forall_mem_append.mpr ⟨r_P8, List.forall_mem_append.mpr ⟨r_P9, List.forall_mem_append.mpr ⟨r_P10, List.forall_mem_append.mpr ⟨r_P11, List.forall_mem_append.mpr ⟨r_P12, r_P13⟩⟩⟩⟩⟩⟩⟩⟩⟩⟩⟩⟩⟩
set_option maxRecDepth 100000 in
theorem r_all : ∀ M, M < 150 → ∀ j, j < (m_bd M + 95) / 96 → (M, j) ∈ m_P := by decide +kernel
/-- what stands in the code tables is what the bytes say -/
theorem ok_code {M pc : Nat} {e : mE} (hM : M < m_NM) (h : m_code M pc = some e) : m_oke M pc e = true := by
  have hb : pc < m_bd M := by
    unfold m_code at h
    cases hx : Nat.blt pc (m_bd M) with
    | true => exact Nat.le_of_ble_eq_true hx
    | false => rw [hx] at h; cases h
  have h1 := r_P _ (r_all M hM (pc / 96) (by omega))
  have h2 := List.all_eq_true.mp h1 (pc % 96) (List.mem_range.mpr (by omega))
  have h3 : 96 * (pc / 96) + pc % 96 = pc := by omega
  dsimp only at h2
  rw [h3, h] at h2
  exact h2

theorem mk_0 : mj_cal 0 = true := by decide +kernel
theorem mk_1 : mj_cal 1 = true := by decide +kernel
theorem mk_2 : mj_cal 2 = true := by decide +kernel
theorem mk_3 : mj_cal 3 = true := by decide +kernel
theorem mk_4 : mj_cal 4 = true := by decide +kernel
theorem mk_5 : mj_cal 5 = true := by decide +kernel
theorem mk_6 : mj_cal 6 = true := by decide +kernel
theorem mk_7 : mj_cal 7 = true := by decide +kernel
theorem mk_8 : mj_cal 8 = true := by decide +kernel
theorem mk_9 : mj_cal 9 = true := by decide +kernel
theorem mk_10 : mj_cal 10 = true := by decide +kernel
theorem mk_11 : mj_cal 11 = true := by decide +kernel
theorem mk_12 : mj_cal 12 = true := by decide +kernel
theorem mk_13 : mj_cal 13 = true := by decide +kernel
theorem mk_14 : mj_cal 14 = true := by decide +kernel
theorem mk_15 : mj_cal 15 = true := by decide +kernel
theorem mk_16 : mj_cal 16 = true := by decide +kernel
theorem mk_17 : mj_cal 17 = true := by decide +kernel
theorem mk_18 : mj_cal 18 = true := by decide +kernel
theorem mk_19 : mj_cal 19 = true := by decide +kernel
theorem mk_20 : mj_cal 20 = true := by decide +kernel
theorem mk_21 : mj_cal 21 = true := by decide +kernel
theorem mk_22 : mj_cal 22 = true := by decide +kernel
theorem mk_23 : mj_cal 23 = true := by decide +kernel
theorem mk_24 : mj_cal 24 = true := by decide +kernel
theorem mk_25 : mj_cal 25 = true := by decide +kernel
theorem mk_26 : mj_cal 26 = true := by decide +kernel
theorem mk_27 : mj_cal 27 = true := by decide +kernel
theorem mk_28 : mj_cal 28 = true := by decide +kernel
theorem mk_29 : mj_cal 29 = true := by decide +kernel
theorem mk_30 : mj_cal 30 = true := by decide +kernel
theorem mk_31 : mj_cal 31 = true := by decide +kernel
theorem mk_32 : mj_cal 32 = true := by decide +kernel
theorem mk_33 : mj_cal 33 = true := by decide +kernel
theorem mk_34 : mj_cal 34 = true := by decide +kernel
theorem mk_35 : mj_cal 35 = true := by decide +kernel
theorem mk_36 : mj_cal 36 = true := by decide +kernel
theorem mk_37 : mj_cal 37 = true := by decide +kernel
theorem mk_38 : mj_cal 38 = true := by decide +kernel
theorem mk_39 : mj_cal 39 = true := by decide +kernel
theorem mk_40 : mj_cal 40 = true := by decide +kernel
theorem mk_41 : mj_cal 41 = true := by decide +kernel
theorem mk_42 : mj_cal 42 = true := by decide +kernel
theorem mk_43 : mj_cal 43 = true := by decide +kernel
theorem mk_44 : mj_cal 44 = true := by decide +kernel
theorem mk_45 : mj_cal 45 = true := by decide +kernel
theorem mk_46 : mj_cal 46 = true := by decide +kernel
theorem mk_47 : mj_cal 47 = true := by decide +kernel
theorem mk_48 : mj_cal 48 = true := by decide +kernel
theorem mk_49 : mj_cal 49 = true := by decide +kernel
theorem mk_50 : mj_cal 50 = true := by decide +kernel
theorem mk_51 : mj_cal 51 = true := by decide +kernel
theorem mk_52 : mj_cal 52 = true := by decide +kernel
theorem mk_53 : mj_cal 53 = true := by decide +kernel
theorem mk_54 : mj_cal 54 = true := by decide +kernel
theorem mk_55 : mj_cal 55 = true := by decide +kernel
theorem mk_56 : mj_cal 56 = true := by decide +kernel
theorem mk_57 : mj_cal 57 = true := by decide +kernel
theorem mk_58 : mj_cal 58 = true := by decide +kernel
theorem mk_59 : mj_cal 59 = true := by decide +kernel
theorem mk_60 : mj_cal 60 = true := by decide +kernel
theorem mk_61 : mj_cal 61 = true := by decide +kernel
theorem mk_62 : mj_cal 62 = true := by decide +kernel
theorem mk_63 : mj_cal 63 = true := by decide +kernel
theorem mk_64 : mj_cal 64 = true := by decide +kernel
theorem mk_65 : mj_cal 65 = true := by decide +kernel
theorem mk_66 : mj_cal 66 = true := by decide +kernel
theorem mk_67 : mj_cal 67 = true := by decide +kernel
theorem mk_68 : mj_cal 68 = true := by decide +kernel
theorem mk_69 : mj_cal 69 = true := by decide +kernel
theorem mk_70 : mj_cal 70 = true := by decide +kernel
theorem mk_71 : mj_cal 71 = true := by decide +kernel
theorem mk_72 : mj_cal 72 = true := by decide +kernel
theorem mk_73 : mj_cal 73 = true := by decide +kernel
theorem mk_74 : mj_cal 74 = true := by decide +kernel
theorem mk_75 : mj_cal 75 = true := by decide +kernel
theorem mk_76 : mj_cal 76 = true := by decide +kernel
theorem mk_77 : mj_cal 77 = true := by decide +kernel
theorem mk_78 : mj_cal 78 = true := by decide +kernel
theorem mk_79 : mj_cal 79 = true := by decide +kernel
theorem mk_80 : mj_cal 80 = true := by decide +kernel
theorem mk_81 : mj_cal 81 = true := by decide +kernel
theorem mk_82 : mj_cal 82 = true := by decide +kernel
theorem mk_83 : mj_cal 83 = true := by decide +kernel
theorem mk_84 : mj_cal 84 = true := by decide +kernel
theorem mk_85 : mj_cal 85 = true := by decide +kernel
theorem mk_86 : mj_cal 86 = true := by decide +kernel
theorem mk_87 : mj_cal 87 = true := by decide +kernel
theorem mk_88 : mj_cal 88 = true := by decide +kernel
theorem mk_89 : mj_cal 89 = true := by decide +kernel
theorem mk_90 : mj_cal 90 = true := by decide +kernel
theorem mk_91 : mj_cal 91 = true := by decide +kernel
theorem mk_92 : mj_cal 92 = true := by decide +kernel
theorem mk_93 : mj_cal 93 = true := by decide +kernel
theorem mk_94 : mj_cal 94 = true := by decide +kernel
theorem mk_95 : mj_cal 95 = true := by decide +kernel
theorem mk_96 : mj_cal 96 = true := by decide +kernel
theorem mk_97 : mj_cal 97 = true := by decide +kernel
theorem mk_98 : mj_cal 98 = true := by decide +kernel
theorem mk_99 : mj_cal 99 = true := by decide +kernel
theorem mk_100 : mj_cal 100 = true := by decide +kernel
theorem mk_101 : mj_cal 101 = true := by decide +kernel
theorem mk_102 : mj_cal 102 = true := by decide +kernel
theorem mk_103 : mj_cal 103 = true := by decide +kernel
theorem mk_104 : mj_cal 104 = true := by decide +kernel
theorem mk_105 : mj_cal 105 = true := by decide +kernel
theorem mk_106 : mj_cal 106 = true := by decide +kernel
theorem mk_107 : mj_cal 107 = true := by decide +kernel
theorem mk_108 : mj_cal 108 = true := by decide +kernel
theorem mk_109 : mj_cal 109 = true := by decide +kernel
theorem mk_110 : mj_cal 110 = true := by decide +kernel
theorem mk_111 : mj_cal 111 = true := by decide +kernel
theorem mk_112 : mj_cal 112 = true := by decide +kernel
theorem mk_113 : mj_cal 113 = true := by decide +kernel
theorem mk_114 : mj_cal 114 = true := by decide +kernel
theorem mk_115 : mj_cal 115 = true := by decide +kernel
theorem mk_116 : mj_cal 116 = true := by decide +kernel
theorem mk_117 : mj_cal 117 = true := by decide +kernel
theorem mk_118 : mj_cal 118 = true := by decide +kernel
theorem mk_119 : mj_cal 119 = true := by decide +kernel
theorem mk_120 : mj_cal 120 = true := by decide +kernel
theorem mk_121 : mj_cal 121 = true := by decide +kernel
theorem mk_122 : mj_cal 122 = true := by decide +kernel
theorem mk_123 : mj_cal 123 = true := by decide +kernel
theorem mk_124 : mj_cal 124 = true := by decide +kernel
theorem mk_125 : mj_cal 125 = true := by decide +kernel
theorem mk_126 : mj_cal 126 = true := by decide +kernel
theorem mk_127 : mj_cal 127 = true := by decide +kernel
theorem mk_128 : mj_cal 128 = true := by decide +kernel
theorem mk_129 : mj_cal 129 = true := by decide +kernel
theorem mk_130 : mj_cal 130 = true := by decide +kernel
theorem mk_131 : mj_cal 131 = true := by decide +kernel
theorem mk_132 : mj_cal 132 = true := by decide +kernel
theorem mk_133 : mj_cal 133 = true := by decide +kernel
theorem mk_134 : mj_cal 134 = true := by decide +kernel
theorem mk_135 : mj_cal 135 = true := by decide +kernel
theorem mk_136 : mj_cal 136 = true := by decide +kernel
theorem mk_137 : mj_cal 137 = true := by decide +kernel
theorem mk_138 : mj_cal 138 = true := by decide +kernel
theorem mk_139 : mj_cal 139 = true := by decide +kernel
theorem mk_140 : mj_cal 140 = true := by decide +kernel
theorem mk_141 : mj_cal 141 = true := by decide +kernel
theorem mk_142 : mj_cal 142 = true := by decide +kernel
theorem mk_143 : mj_cal 143 = true := by decide +kernel
theorem mk_144 : mj_cal 144 = true := by decide +kernel
theorem mk_145 : mj_cal 145 = true := by decide +kernel
theorem mk_146 : mj_cal 146 = true := by decide +kernel
theorem mk_147 : mj_cal 147 = true := by decide +kernel
theorem mk_148 : mj_cal 148 = true := by decide +kernel
theorem mk_149 : mj_cal 149 = true := by decide +kernel
theorem mk_150 : mj_cal 150 = true := by decide +kernel
theorem mk_151 : mj_cal 151 = true := by decide +kernel
theorem mk_152 : mj_cal 152 = true := by decide +kernel
theorem mk_153 : mj_cal 153 = true := by decide +kernel
theorem mk_154 : mj_cal 154 = true := by decide +kernel
theorem mk_155 : mj_cal 155 = true := by decide +kernel
theorem mk_156 : mj_cal 156 = true := by decide +kernel
theorem mk_157 : mj_cal 157 = true := by decide +kernel
theorem mk_158 : mj_cal 158 = true := by decide +kernel
theorem mk_159 : mj_cal 159 = true := by decide +kernel
theorem mk_160 : mj_cal 160 = true := by decide +kernel
theorem mk_161 : mj_cal 161 = true := by decide +kernel
theorem mk_162 : mj_cal 162 = true := by decide +kernel
theorem mk_163 : mj_cal 163 = true := by decide +kernel
theorem mk_164 : mj_cal 164 = true := by decide +kernel
theorem mk_165 : mj_cal 165 = true := by decide +kernel
theorem mk_166 : mj_cal 166 = true := by decide +kernel
theorem mk_167 : mj_cal 167 = true := by decide +kernel
theorem mk_168 : mj_cal 168 = true := by decide +kernel
theorem mk_169 : mj_cal 169 = true := by decide +kernel
theorem mj_Cal : ∀ a, a < mj_nM → mj_cal a = true := by
  intro j hj
  match j, hj with
  | 0, _ => exact mk_0
  | 1, _ => exact mk_1
  | 2, _ => exact mk_2
  | 3, _ => exact mk_3
  | 4, _ => exact mk_4
  | 5, _ => exact mk_5
  | 6, _ => exact mk_6
  | 7, _ => exact mk_7
  | 8, _ => exact mk_8
  | 9, _ => exact mk_9
  | 10, _ => exact mk_10
  | 11, _ => exact mk_11
  | 12, _ => exact mk_12
  | 13, _ => exact mk_13
  | 14, _ => exact mk_14
  | 15, _ => exact mk_15
  | 16, _ => exact mk_16
  | 17, _ => exact mk_17
  | 18, _ => exact mk_18
  | 19, _ => exact mk_19
  | 20, _ => exact mk_20
  | 21, _ => exact mk_21
  | 22, _ => exact mk_22
  | 23, _ => exact mk_23
  | 24, _ => exact mk_24
  | 25, _ => exact mk_25
  | 26, _ => exact mk_26
  | 27, _ => exact mk_27
  | 28, _ => exact mk_28
  | 29, _ => exact mk_29
  | 30, _ => exact mk_30
  | 31, _ => exact mk_31
  | 32, _ => exact mk_32
  | 33, _ => exact mk_33
  | 34, _ => exact mk_34
  | 35, _ => exact mk_35
  | 36, _ => exact mk_36
  | 37, _ => exact mk_37
  | 38, _ => exact mk_38
  | 39, _ => exact mk_39
  | 40, _ => exact mk_40
  | 41, _ => exact mk_41
  | 42, _ => exact mk_42
  | 43, _ => exact mk_43
  | 44, _ => exact mk_44
  | 45, _ => exact mk_45
  | 46, _ => exact mk_46
  | 47, _ => exact mk_47
  | 48, _ => exact mk_48
  | 49, _ => exact mk_49
  | 50, _ => exact mk_50
  | 51, _ => exact mk_51
  | 52, _ => exact mk_52
  | 53, _ => exact mk_53
  | 54, _ => exact mk_54
  | 55, _ => exact mk_55
  | 56, _ => exact mk_56
  | 57, _ => exact mk_57
  | 58, _ => exact mk_58
  | 59, _ => exact mk_59
  | 60, _ => exact mk_60
  | 61, _ => exact mk_61
  | 62, _ => exact mk_62
  | 63, _ => exact mk_63
  | 64, _ => exact mk_64
  | 65, _ => exact mk_65
  | 66, _ => exact mk_66
  | 67, _ => exact mk_67
  | 68, _ => exact mk_68
  | 69, _ => exact mk_69
  | 70, _ => exact mk_70
  | 71, _ => exact mk_71
  | 72, _ => exact mk_72
  | 73, _ => exact mk_73
  | 74, _ => exact mk_74
  | 75, _ => exact mk_75
  | 76, _ => exact mk_76
  | 77, _ => exact mk_77
  | 78, _ => exact mk_78
  | 79, _ => exact mk_79
  | 80, _ => exact mk_80
  | 81, _ => exact mk_81
  | 82, _ => exact mk_82
  | 83, _ => exact mk_83
  | 84, _ => exact mk_84
  | 85, _ => exact mk_85
  | 86, _ => exact mk_86
  | 87, _ => exact mk_87
  | 88, _ => exact mk_88
  | 89, _ => exact mk_89
  | 90, _ => exact mk_90
  | 91, _ => exact mk_91
  | 92, _ => exact mk_92
  | 93, _ => exact mk_93
  | 94, _ => exact mk_94
  | 95, _ => exact mk_95
  | 96, _ => exact mk_96
  | 97, _ => exact mk_97
  | 98, _ => exact mk_98
  | 99, _ => exact mk_99
  | 100, _ => exact mk_100
  | 101, _ => exact mk_101
  | 102, _ => exact mk_102
  | 103, _ => exact mk_103
  | 104, _ => exact mk_104
  | 105, _ => exact mk_105
  | 106, _ => exact mk_106
  | 107, _ => exact mk_107
  | 108, _ => exact mk_108
  | 109, _ => exact mk_109
  | 110, _ => exact mk_110
  | 111, _ => exact mk_111
  | 112, _ => exact mk_112
  | 113, _ => exact mk_113
  | 114, _ => exact mk_114
  | 115, _ => exact mk_115
  | 116, _ => exact mk_116
  | 117, _ => exact mk_117
  | 118, _ => exact mk_118
  | 119, _ => exact mk_119
  | 120, _ => exact mk_120
  | 121, _ => exact mk_121
  | 122, _ => exact mk_122
  | 123, _ => exact mk_123
  | 124, _ => exact mk_124
  | 125, _ => exact mk_125
  | 126, _ => exact mk_126
  | 127, _ => exact mk_127
  | 128, _ => exact mk_128
  | 129, _ => exact mk_129
  | 130, _ => exact mk_130
  | 131, _ => exact mk_131
  | 132, _ => exact mk_132
  | 133, _ => exact mk_133
  | 134, _ => exact mk_134
  | 135, _ => exact mk_135
  | 136, _ => exact mk_136
  | 137, _ => exact mk_137
  | 138, _ => exact mk_138
  | 139, _ => exact mk_139
  | 140, _ => exact mk_140
  | 141, _ => exact mk_141
  | 142, _ => exact mk_142
  | 143, _ => exact mk_143
  | 144, _ => exact mk_144
  | 145, _ => exact mk_145
  | 146, _ => exact mk_146
  | 147, _ => exact mk_147
  | 148, _ => exact mk_148
  | 149, _ => exact mk_149
  | 150, _ => exact mk_150
  | 151, _ => exact mk_151
  | 152, _ => exact mk_152
  | 153, _ => exact mk_153
  | 154, _ => exact mk_154
  | 155, _ => exact mk_155
  | 156, _ => exact mk_156
  | 157, _ => exact mk_157
  | 158, _ => exact mk_158
  | 159, _ => exact mk_159
  | 160, _ => exact mk_160
  | 161, _ => exact mk_161
  | 162, _ => exact mk_162
  | 163, _ => exact mk_163
  | 164, _ => exact mk_164
  | 165, _ => exact mk_165
  | 166, _ => exact mk_166
  | 167, _ => exact mk_167
  | 168, _ => exact mk_168
  | 169, _ => exact mk_169
  | j + 170, hj => exact absurd hj (by show ¬ j + 170 < 170; omega)

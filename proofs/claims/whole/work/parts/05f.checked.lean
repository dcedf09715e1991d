theorem ma_0 : ∀ a, a < 0 + 1 → ∀ p, mvOk a p = true := lt_s lt_0 mk_0
theorem ma_1 : ∀ a, a < 1 + 1 → ∀ p, mvOk a p = true := lt_s ma_0 mk_1
theorem ma_2 : ∀ a, a < 2 + 1 → ∀ p, mvOk a p = true := lt_s ma_1 mk_2
theorem ma_3 : ∀ a, a < 3 + 1 → ∀ p, mvOk a p = true := lt_s ma_2 mk_3
theorem ma_4 : ∀ a, a < 4 + 1 → ∀ p, mvOk a p = true := lt_s ma_3 mk_4
theorem ma_5 : ∀ a, a < 5 + 1 → ∀ p, mvOk a p = true := lt_s ma_4 mk_5
theorem ma_6 : ∀ a, a < 6 + 1 → ∀ p, mvOk a p = true := lt_s ma_5 mk_6
theorem ma_7 : ∀ a, a < 7 + 1 → ∀ p, mvOk a p = true := lt_s ma_6 mk_7
theorem ma_8 : ∀ a, a < 8 + 1 → ∀ p, mvOk a p = true := lt_s ma_7 mk_8
theorem ma_9 : ∀ a, a < 9 + 1 → ∀ p, mvOk a p = true := lt_s ma_8 mk_9
theorem ma_10 : ∀ a, a < 10 + 1 → ∀ p, mvOk a p = true := lt_s ma_9 mk_10
theorem ma_11 : ∀ a, a < 11 + 1 → ∀ p, mvOk a p = true := lt_s ma_10 mk_11
theorem ma_12 : ∀ a, a < 12 + 1 → ∀ p, mvOk a p = true := lt_s ma_11 mk_12
theorem ma_13 : ∀ a, a < 13 + 1 → ∀ p, mvOk a p = true := lt_s ma_12 mk_13
theorem ma_14 : ∀ a, a < 14 + 1 → ∀ p, mvOk a p = true := lt_s ma_13 mk_14
theorem ma_15 : ∀ a, a < 15 + 1 → ∀ p, mvOk a p = true := lt_s ma_14 mk_15
theorem ma_16 : ∀ a, a < 16 + 1 → ∀ p, mvOk a p = true := lt_s ma_15 mk_16
theorem ma_17 : ∀ a, a < 17 + 1 → ∀ p, mvOk a p = true := lt_s ma_16 mk_17
theorem ma_18 : ∀ a, a < 18 + 1 → ∀ p, mvOk a p = true := lt_s ma_17 mk_18
theorem ma_19 : ∀ a, a < 19 + 1 → ∀ p, mvOk a p = true := lt_s ma_18 mk_19
theorem ma_20 : ∀ a, a < 20 + 1 → ∀ p, mvOk a p = true := lt_s ma_19 mk_20
theorem ma_21 : ∀ a, a < 21 + 1 → ∀ p, mvOk a p = true := lt_s ma_20 mk_21
theorem ma_22 : ∀ a, a < 22 + 1 → ∀ p, mvOk a p = true := lt_s ma_21 mk_22
theorem ma_23 : ∀ a, a < 23 + 1 → ∀ p, mvOk a p = true := lt_s ma_22 mk_23
theorem ma_24 : ∀ a, a < 24 + 1 → ∀ p, mvOk a p = true := lt_s ma_23 mk_24
theorem ma_25 : ∀ a, a < 25 + 1 → ∀ p, mvOk a p = true := lt_s ma_24 mk_25
theorem ma_26 : ∀ a, a < 26 + 1 → ∀ p, mvOk a p = true := lt_s ma_25 mk_26
theorem ma_27 : ∀ a, a < 27 + 1 → ∀ p, mvOk a p = true := lt_s ma_26 mk_27
theorem ma_28 : ∀ a, a < 28 + 1 → ∀ p, mvOk a p = true := lt_s ma_27 mk_28
theorem ma_29 : ∀ a, a < 29 + 1 → ∀ p, mvOk a p = true := lt_s ma_28 mk_29
theorem ma_30 : ∀ a, a < 30 + 1 → ∀ p, mvOk a p = true := lt_s ma_29 mk_30
theorem ma_31 : ∀ a, a < 31 + 1 → ∀ p, mvOk a p = true := lt_s ma_30 mk_31
theorem ma_32 : ∀ a, a < 32 + 1 → ∀ p, mvOk a p = true := lt_s ma_31 mk_32
theorem ma_33 : ∀ a, a < 33 + 1 → ∀ p, mvOk a p = true := lt_s ma_32 mk_33
theorem ma_34 : ∀ a, a < 34 + 1 → ∀ p, mvOk a p = true := lt_s ma_33 mk_34
theorem ma_35 : ∀ a, a < 35 + 1 → ∀ p, mvOk a p = true := lt_s ma_34 mk_35
theorem ma_36 : ∀ a, a < 36 + 1 → ∀ p, mvOk a p = true := lt_s ma_35 mk_36
theorem ma_37 : ∀ a, a < 37 + 1 → ∀ p, mvOk a p = true := lt_s ma_36 mk_37
theorem ma_38 : ∀ a, a < 38 + 1 → ∀ p, mvOk a p = true := lt_s ma_37 mk_38
theorem ma_39 : ∀ a, a < 39 + 1 → ∀ p, mvOk a p = true := lt_s ma_38 mk_39
theorem ma_40 : ∀ a, a < 40 + 1 → ∀ p, mvOk a p = true := lt_s ma_39 mk_40
theorem ma_41 : ∀ a, a < 41 + 1 → ∀ p, mvOk a p = true := lt_s ma_40 mk_41
theorem ma_42 : ∀ a, a < 42 + 1 → ∀ p, mvOk a p = true := lt_s ma_41 mk_42
theorem ma_43 : ∀ a, a < 43 + 1 → ∀ p, mvOk a p = true := lt_s ma_42 mk_43
theorem ma_44 : ∀ a, a < 44 + 1 → ∀ p, mvOk a p = true := lt_s ma_43 mk_44
theorem ma_45 : ∀ a, a < 45 + 1 → ∀ p, mvOk a p = true := lt_s ma_44 mk_45
theorem ma_46 : ∀ a, a < 46 + 1 → ∀ p, mvOk a p = true := lt_s ma_45 mk_46
theorem ma_47 : ∀ a, a < 47 + 1 → ∀ p, mvOk a p = true := lt_s ma_46 mk_47
theorem ma_48 : ∀ a, a < 48 + 1 → ∀ p, mvOk a p = true := lt_s ma_47 mk_48
theorem ma_49 : ∀ a, a < 49 + 1 → ∀ p, mvOk a p = true := lt_s ma_48 mk_49
theorem ma_50 : ∀ a, a < 50 + 1 → ∀ p, mvOk a p = true := lt_s ma_49 mk_50
theorem ma_51 : ∀ a, a < 51 + 1 → ∀ p, mvOk a p = true := lt_s ma_50 mk_51
theorem ma_52 : ∀ a, a < 52 + 1 → ∀ p, mvOk a p = true := lt_s ma_51 mk_52
theorem ma_53 : ∀ a, a < 53 + 1 → ∀ p, mvOk a p = true := lt_s ma_52 mk_53
theorem ma_54 : ∀ a, a < 54 + 1 → ∀ p, mvOk a p = true := lt_s ma_53 mk_54
theorem ma_55 : ∀ a, a < 55 + 1 → ∀ p, mvOk a p = true := lt_s ma_54 mk_55
theorem ma_56 : ∀ a, a < 56 + 1 → ∀ p, mvOk a p = true := lt_s ma_55 mk_56
theorem ma_57 : ∀ a, a < 57 + 1 → ∀ p, mvOk a p = true := lt_s ma_56 mk_57
theorem ma_58 : ∀ a, a < 58 + 1 → ∀ p, mvOk a p = true := lt_s ma_57 mk_58
theorem ma_59 : ∀ a, a < 59 + 1 → ∀ p, mvOk a p = true := lt_s ma_58 mk_59
theorem ma_60 : ∀ a, a < 60 + 1 → ∀ p, mvOk a p = true := lt_s ma_59 mk_60
theorem ma_61 : ∀ a, a < 61 + 1 → ∀ p, mvOk a p = true := lt_s ma_60 mk_61
theorem ma_62 : ∀ a, a < 62 + 1 → ∀ p, mvOk a p = true := lt_s ma_61 mk_62
theorem ma_63 : ∀ a, a < 63 + 1 → ∀ p, mvOk a p = true := lt_s ma_62 mk_63
theorem ma_64 : ∀ a, a < 64 + 1 → ∀ p, mvOk a p = true := lt_s ma_63 mk_64
theorem ma_65 : ∀ a, a < 65 + 1 → ∀ p, mvOk a p = true := lt_s ma_64 mk_65
theorem ma_66 : ∀ a, a < 66 + 1 → ∀ p, mvOk a p = true := lt_s ma_65 mk_66
theorem ma_67 : ∀ a, a < 67 + 1 → ∀ p, mvOk a p = true := lt_s ma_66 mk_67
theorem ma_68 : ∀ a, a < 68 + 1 → ∀ p, mvOk a p = true := lt_s ma_67 mk_68
theorem ma_69 : ∀ a, a < 69 + 1 → ∀ p, mvOk a p = true := lt_s ma_68 mk_69
theorem ma_70 : ∀ a, a < 70 + 1 → ∀ p, mvOk a p = true := lt_s ma_69 mk_70
theorem ma_71 : ∀ a, a < 71 + 1 → ∀ p, mvOk a p = true := lt_s ma_70 mk_71
theorem ma_72 : ∀ a, a < 72 + 1 → ∀ p, mvOk a p = true := lt_s ma_71 mk_72
theorem ma_73 : ∀ a, a < 73 + 1 → ∀ p, mvOk a p = true := lt_s ma_72 mk_73
theorem ma_74 : ∀ a, a < 74 + 1 → ∀ p, mvOk a p = true := lt_s ma_73 mk_74
theorem ma_75 : ∀ a, a < 75 + 1 → ∀ p, mvOk a p = true := lt_s ma_74 mk_75
theorem ma_76 : ∀ a, a < 76 + 1 → ∀ p, mvOk a p = true := lt_s ma_75 mk_76
theorem ma_77 : ∀ a, a < 77 + 1 → ∀ p, mvOk a p = true := lt_s ma_76 mk_77
theorem ma_78 : ∀ a, a < 78 + 1 → ∀ p, mvOk a p = true := lt_s ma_77 mk_78
theorem ma_79 : ∀ a, a < 79 + 1 → ∀ p, mvOk a p = true := lt_s ma_78 mk_79
theorem ma_80 : ∀ a, a < 80 + 1 → ∀ p, mvOk a p = true := lt_s ma_79 mk_80
theorem ma_81 : ∀ a, a < 81 + 1 → ∀ p, mvOk a p = true := lt_s ma_80 mk_81
theorem ma_82 : ∀ a, a < 82 + 1 → ∀ p, mvOk a p = true := lt_s ma_81 mk_82
theorem ma_83 : ∀ a, a < 83 + 1 → ∀ p, mvOk a p = true := lt_s ma_82 mk_83
theorem ma_84 : ∀ a, a < 84 + 1 → ∀ p, mvOk a p = true := lt_s ma_83 mk_84
theorem ma_85 : ∀ a, a < 85 + 1 → ∀ p, mvOk a p = true := lt_s ma_84 mk_85
theorem ma_86 : ∀ a, a < 86 + 1 → ∀ p, mvOk a p = true := lt_s ma_85 mk_86
theorem ma_87 : ∀ a, a < 87 + 1 → ∀ p, mvOk a p = true := lt_s ma_86 mk_87
theorem ma_88 : ∀ a, a < 88 + 1 → ∀ p, mvOk a p = true := lt_s ma_87 mk_88
theorem ma_89 : ∀ a, a < 89 + 1 → ∀ p, mvOk a p = true := lt_s ma_88 mk_89
theorem ma_90 : ∀ a, a < 90 + 1 → ∀ p, mvOk a p = true := lt_s ma_89 mk_90
theorem ma_91 : ∀ a, a < 91 + 1 → ∀ p, mvOk a p = true := lt_s ma_90 mk_91
theorem ma_92 : ∀ a, a < 92 + 1 → ∀ p, mvOk a p = true := lt_s ma_91 mk_92
theorem ma_93 : ∀ a, a < 93 + 1 → ∀ p, mvOk a p = true := lt_s ma_92 mk_93
theorem ma_94 : ∀ a, a < 94 + 1 → ∀ p, mvOk a p = true := lt_s ma_93 mk_94
theorem ma_95 : ∀ a, a < 95 + 1 → ∀ p, mvOk a p = true := lt_s ma_94 mk_95
theorem ma_96 : ∀ a, a < 96 + 1 → ∀ p, mvOk a p = true := lt_s ma_95 mk_96
theorem ma_97 : ∀ a, a < 97 + 1 → ∀ p, mvOk a p = true := lt_s ma_96 mk_97
theorem ma_98 : ∀ a, a < 98 + 1 → ∀ p, mvOk a p = true := lt_s ma_97 mk_98
theorem ma_99 : ∀ a, a < 99 + 1 → ∀ p, mvOk a p = true := lt_s ma_98 mk_99
theorem ma_100 : ∀ a, a < 100 + 1 → ∀ p, mvOk a p = true := lt_s ma_99 mk_100
theorem ma_101 : ∀ a, a < 101 + 1 → ∀ p, mvOk a p = true := lt_s ma_100 mk_101
theorem ma_102 : ∀ a, a < 102 + 1 → ∀ p, mvOk a p = true := lt_s ma_101 mk_102
theorem ma_103 : ∀ a, a < 103 + 1 → ∀ p, mvOk a p = true := lt_s ma_102 mk_103
theorem ma_104 : ∀ a, a < 104 + 1 → ∀ p, mvOk a p = true := lt_s ma_103 mk_104
theorem ma_105 : ∀ a, a < 105 + 1 → ∀ p, mvOk a p = true := lt_s ma_104 mk_105
theorem ma_106 : ∀ a, a < 106 + 1 → ∀ p, mvOk a p = true := lt_s ma_105 mk_106
theorem ma_107 : ∀ a, a < 107 + 1 → ∀ p, mvOk a p = true := lt_s ma_106 mk_107
theorem ma_108 : ∀ a, a < 108 + 1 → ∀ p, mvOk a p = true := lt_s ma_107 mk_108
theorem ma_109 : ∀ a, a < 109 + 1 → ∀ p, mvOk a p = true := lt_s ma_108 mk_109
theorem ma_110 : ∀ a, a < 110 + 1 → ∀ p, mvOk a p = true := lt_s ma_109 mk_110
theorem ma_111 : ∀ a, a < 111 + 1 → ∀ p, mvOk a p = true := lt_s ma_110 mk_111
theorem ma_112 : ∀ a, a < 112 + 1 → ∀ p, mvOk a p = true := lt_s ma_111 mk_112
theorem ma_113 : ∀ a, a < 113 + 1 → ∀ p, mvOk a p = true := lt_s ma_112 mk_113
theorem ma_114 : ∀ a, a < 114 + 1 → ∀ p, mvOk a p = true := lt_s ma_113 mk_114
theorem ma_115 : ∀ a, a < 115 + 1 → ∀ p, mvOk a p = true := lt_s ma_114 mk_115
theorem ma_116 : ∀ a, a < 116 + 1 → ∀ p, mvOk a p = true := lt_s ma_115 mk_116
theorem ma_117 : ∀ a, a < 117 + 1 → ∀ p, mvOk a p = true := lt_s ma_116 mk_117
theorem ma_118 : ∀ a, a < 118 + 1 → ∀ p, mvOk a p = true := lt_s ma_117 mk_118
theorem ma_119 : ∀ a, a < 119 + 1 → ∀ p, mvOk a p = true := lt_s ma_118 mk_119
theorem ma_120 : ∀ a, a < 120 + 1 → ∀ p, mvOk a p = true := lt_s ma_119 mk_120
theorem ma_121 : ∀ a, a < 121 + 1 → ∀ p, mvOk a p = true := lt_s ma_120 mk_121
theorem ma_122 : ∀ a, a < 122 + 1 → ∀ p, mvOk a p = true := lt_s ma_121 mk_122
theorem ma_123 : ∀ a, a < 123 + 1 → ∀ p, mvOk a p = true := lt_s ma_122 mk_123
theorem ma_124 : ∀ a, a < 124 + 1 → ∀ p, mvOk a p = true := lt_s ma_123 mk_124
theorem ma_125 : ∀ a, a < 125 + 1 → ∀ p, mvOk a p = true := lt_s ma_124 mk_125
theorem ma_126 : ∀ a, a < 126 + 1 → ∀ p, mvOk a p = true := lt_s ma_125 mk_126
theorem ma_127 : ∀ a, a < 127 + 1 → ∀ p, mvOk a p = true := lt_s ma_126 mk_127
theorem ma_128 : ∀ a, a < 128 + 1 → ∀ p, mvOk a p = true := lt_s ma_127 mk_128
theorem ma_129 : ∀ a, a < 129 + 1 → ∀ p, mvOk a p = true := lt_s ma_128 mk_129
theorem ma_130 : ∀ a, a < 130 + 1 → ∀ p, mvOk a p = true := lt_s ma_129 mk_130
theorem ma_131 : ∀ a, a < 131 + 1 → ∀ p, mvOk a p = true := lt_s ma_130 mk_131
theorem ma_132 : ∀ a, a < 132 + 1 → ∀ p, mvOk a p = true := lt_s ma_131 mk_132
theorem ma_133 : ∀ a, a < 133 + 1 → ∀ p, mvOk a p = true := lt_s ma_132 mk_133
theorem ma_134 : ∀ a, a < 134 + 1 → ∀ p, mvOk a p = true := lt_s ma_133 mk_134
theorem ma_135 : ∀ a, a < 135 + 1 → ∀ p, mvOk a p = true := lt_s ma_134 mk_135
theorem ma_136 : ∀ a, a < 136 + 1 → ∀ p, mvOk a p = true := lt_s ma_135 mk_136
theorem ma_137 : ∀ a, a < 137 + 1 → ∀ p, mvOk a p = true := lt_s ma_136 mk_137
theorem ma_138 : ∀ a, a < 138 + 1 → ∀ p, mvOk a p = true := lt_s ma_137 mk_138
theorem ma_139 : ∀ a, a < 139 + 1 → ∀ p, mvOk a p = true := lt_s ma_138 mk_139
theorem ma_140 : ∀ a, a < 140 + 1 → ∀ p, mvOk a p = true := lt_s ma_139 mk_140
theorem ma_141 : ∀ a, a < 141 + 1 → ∀ p, mvOk a p = true := lt_s ma_140 mk_141
theorem ma_142 : ∀ a, a < 142 + 1 → ∀ p, mvOk a p = true := lt_s ma_141 mk_142
theorem ma_143 : ∀ a, a < 143 + 1 → ∀ p, mvOk a p = true := lt_s ma_142 mk_143
theorem ma_144 : ∀ a, a < 144 + 1 → ∀ p, mvOk a p = true := lt_s ma_143 mk_144
theorem ma_145 : ∀ a, a < 145 + 1 → ∀ p, mvOk a p = true := lt_s ma_144 mk_145
theorem ma_146 : ∀ a, a < 146 + 1 → ∀ p, mvOk a p = true := lt_s ma_145 mk_146
theorem ma_147 : ∀ a, a < 147 + 1 → ∀ p, mvOk a p = true := lt_s ma_146 mk_147
theorem ma_148 : ∀ a, a < 148 + 1 → ∀ p, mvOk a p = true := lt_s ma_147 mk_148
theorem ma_149 : ∀ a, a < 149 + 1 → ∀ p, mvOk a p = true := lt_s ma_148 mk_149
theorem ma_150 : ∀ a, a < 150 + 1 → ∀ p, mvOk a p = true := lt_s ma_149 mk_150
theorem ma_151 : ∀ a, a < 151 + 1 → ∀ p, mvOk a p = true := lt_s ma_150 mk_151
theorem ma_152 : ∀ a, a < 152 + 1 → ∀ p, mvOk a p = true := lt_s ma_151 mk_152
theorem ma_153 : ∀ a, a < 153 + 1 → ∀ p, mvOk a p = true := lt_s ma_152 mk_153
theorem ma_154 : ∀ a, a < 154 + 1 → ∀ p, mvOk a p = true := lt_s ma_153 mk_154
theorem ma_155 : ∀ a, a < 155 + 1 → ∀ p, mvOk a p = true := lt_s ma_154 mk_155
theorem ma_156 : ∀ a, a < 156 + 1 → ∀ p, mvOk a p = true := lt_s ma_155 mk_156
theorem ma_157 : ∀ a, a < 157 + 1 → ∀ p, mvOk a p = true := lt_s ma_156 mk_157
theorem ma_158 : ∀ a, a < 158 + 1 → ∀ p, mvOk a p = true := lt_s ma_157 mk_158
theorem ma_159 : ∀ a, a < 159 + 1 → ∀ p, mvOk a p = true := lt_s ma_158 mk_159
theorem ma_160 : ∀ a, a < 160 + 1 → ∀ p, mvOk a p = true := lt_s ma_159 mk_160
theorem ma_161 : ∀ a, a < 161 + 1 → ∀ p, mvOk a p = true := lt_s ma_160 mk_161
theorem ma_162 : ∀ a, a < 162 + 1 → ∀ p, mvOk a p = true := lt_s ma_161 mk_162
theorem ma_163 : ∀ a, a < 163 + 1 → ∀ p, mvOk a p = true := lt_s ma_162 mk_163
theorem ma_164 : ∀ a, a < 164 + 1 → ∀ p, mvOk a p = true := lt_s ma_163 mk_164
theorem ma_165 : ∀ a, a < 165 + 1 → ∀ p, mvOk a p = true := lt_s ma_164 mk_165
theorem ma_166 : ∀ a, a < 166 + 1 → ∀ p, mvOk a p = true := lt_s ma_165 mk_166
theorem ma_167 : ∀ a, a < 167 + 1 → ∀ p, mvOk a p = true := lt_s ma_166 mk_167
theorem ma_168 : ∀ a, a < 168 + 1 → ∀ p, mvOk a p = true := lt_s ma_167 mk_168
theorem ma_169 : ∀ a, a < 169 + 1 → ∀ p, mvOk a p = true := lt_s ma_168 mk_169
theorem ma_170 : ∀ a, a < 170 + 1 → ∀ p, mvOk a p = true := lt_s ma_169 mk_170
theorem ma_171 : ∀ a, a < 171 + 1 → ∀ p, mvOk a p = true := lt_s ma_170 mk_171
theorem ma_172 : ∀ a, a < 172 + 1 → ∀ p, mvOk a p = true := lt_s ma_171 mk_172
theorem ma_173 : ∀ a, a < 173 + 1 → ∀ p, mvOk a p = true := lt_s ma_172 mk_173
theorem ma_174 : ∀ a, a < 174 + 1 → ∀ p, mvOk a p = true := lt_s ma_173 mk_174
theorem ma_175 : ∀ a, a < 175 + 1 → ∀ p, mvOk a p = true := lt_s ma_174 mk_175
theorem ma_176 : ∀ a, a < 176 + 1 → ∀ p, mvOk a p = true := lt_s ma_175 mk_176
theorem ma_177 : ∀ a, a < 177 + 1 → ∀ p, mvOk a p = true := lt_s ma_176 mk_177
theorem ma_178 : ∀ a, a < 178 + 1 → ∀ p, mvOk a p = true := lt_s ma_177 mk_178
theorem ma_179 : ∀ a, a < 179 + 1 → ∀ p, mvOk a p = true := lt_s ma_178 mk_179
theorem ma_180 : ∀ a, a < 180 + 1 → ∀ p, mvOk a p = true := lt_s ma_179 mk_180
theorem ma_181 : ∀ a, a < 181 + 1 → ∀ p, mvOk a p = true := lt_s ma_180 mk_181
theorem ma_182 : ∀ a, a < 182 + 1 → ∀ p, mvOk a p = true := lt_s ma_181 mk_182
theorem ma_183 : ∀ a, a < 183 + 1 → ∀ p, mvOk a p = true := lt_s ma_182 mk_183
theorem ma_184 : ∀ a, a < 184 + 1 → ∀ p, mvOk a p = true := lt_s ma_183 mk_184
theorem ma_185 : ∀ a, a < 185 + 1 → ∀ p, mvOk a p = true := lt_s ma_184 mk_185
theorem ma_186 : ∀ a, a < 186 + 1 → ∀ p, mvOk a p = true := lt_s ma_185 mk_186
theorem ma_187 : ∀ a, a < 187 + 1 → ∀ p, mvOk a p = true := lt_s ma_186 mk_187
theorem ma_188 : ∀ a, a < 188 + 1 → ∀ p, mvOk a p = true := lt_s ma_187 mk_188
theorem ma_189 : ∀ a, a < 189 + 1 → ∀ p, mvOk a p = true := lt_s ma_188 mk_189
theorem ma_190 : ∀ a, a < 190 + 1 → ∀ p, mvOk a p = true := lt_s ma_189 mk_190
theorem ma_191 : ∀ a, a < 191 + 1 → ∀ p, mvOk a p = true := lt_s ma_190 mk_191
theorem ma_192 : ∀ a, a < 192 + 1 → ∀ p, mvOk a p = true := lt_s ma_191 mk_192
theorem ma_193 : ∀ a, a < 193 + 1 → ∀ p, mvOk a p = true := lt_s ma_192 mk_193
theorem ma_194 : ∀ a, a < 194 + 1 → ∀ p, mvOk a p = true := lt_s ma_193 mk_194
theorem ma_195 : ∀ a, a < 195 + 1 → ∀ p, mvOk a p = true := lt_s ma_194 mk_195
theorem ma_196 : ∀ a, a < 196 + 1 → ∀ p, mvOk a p = true := lt_s ma_195 mk_196
theorem ma_197 : ∀ a, a < 197 + 1 → ∀ p, mvOk a p = true := lt_s ma_196 mk_197
theorem ma_198 : ∀ a, a < 198 + 1 → ∀ p, mvOk a p = true := lt_s ma_197 mk_198
theorem ma_199 : ∀ a, a < 199 + 1 → ∀ p, mvOk a p = true := lt_s ma_198 mk_199
theorem ma_200 : ∀ a, a < 200 + 1 → ∀ p, mvOk a p = true := lt_s ma_199 mk_200
theorem ma_201 : ∀ a, a < 201 + 1 → ∀ p, mvOk a p = true := lt_s ma_200 mk_201
theorem ma_202 : ∀ a, a < 202 + 1 → ∀ p, mvOk a p = true := lt_s ma_201 mk_202
theorem ma_203 : ∀ a, a < 203 + 1 → ∀ p, mvOk a p = true := lt_s ma_202 mk_203
theorem ma_204 : ∀ a, a < 204 + 1 → ∀ p, mvOk a p = true := lt_s ma_203 mk_204
theorem ma_205 : ∀ a, a < 205 + 1 → ∀ p, mvOk a p = true := lt_s ma_204 mk_205
theorem ma_206 : ∀ a, a < 206 + 1 → ∀ p, mvOk a p = true := lt_s ma_205 mk_206
theorem ma_207 : ∀ a, a < 207 + 1 → ∀ p, mvOk a p = true := lt_s ma_206 mk_207
theorem ma_208 : ∀ a, a < 208 + 1 → ∀ p, mvOk a p = true := lt_s ma_207 mk_208
theorem ma_209 : ∀ a, a < 209 + 1 → ∀ p, mvOk a p = true := lt_s ma_208 mk_209
theorem ma_210 : ∀ a, a < 210 + 1 → ∀ p, mvOk a p = true := lt_s ma_209 mk_210
theorem ma_211 : ∀ a, a < 211 + 1 → ∀ p, mvOk a p = true := lt_s ma_210 mk_211
theorem ma_212 : ∀ a, a < 212 + 1 → ∀ p, mvOk a p = true := lt_s ma_211 mk_212
theorem ma_213 : ∀ a, a < 213 + 1 → ∀ p, mvOk a p = true := lt_s ma_212 mk_213
theorem ma_214 : ∀ a, a < 214 + 1 → ∀ p, mvOk a p = true := lt_s ma_213 mk_214
theorem ma_215 : ∀ a, a < 215 + 1 → ∀ p, mvOk a p = true := lt_s ma_214 mk_215
theorem ma_216 : ∀ a, a < 216 + 1 → ∀ p, mvOk a p = true := lt_s ma_215 mk_216
theorem ma_217 : ∀ a, a < 217 + 1 → ∀ p, mvOk a p = true := lt_s ma_216 mk_217
theorem ma_218 : ∀ a, a < 218 + 1 → ∀ p, mvOk a p = true := lt_s ma_217 mk_218
theorem ma_219 : ∀ a, a < 219 + 1 → ∀ p, mvOk a p = true := lt_s ma_218 mk_219
theorem ma_220 : ∀ a, a < 220 + 1 → ∀ p, mvOk a p = true := lt_s ma_219 mk_220
theorem ma_221 : ∀ a, a < 221 + 1 → ∀ p, mvOk a p = true := lt_s ma_220 mk_221
theorem ma_222 : ∀ a, a < 222 + 1 → ∀ p, mvOk a p = true := lt_s ma_221 mk_222
theorem ma_223 : ∀ a, a < 223 + 1 → ∀ p, mvOk a p = true := lt_s ma_222 mk_223
theorem ma_224 : ∀ a, a < 224 + 1 → ∀ p, mvOk a p = true := lt_s ma_223 mk_224
theorem ma_225 : ∀ a, a < 225 + 1 → ∀ p, mvOk a p = true := lt_s ma_224 mk_225
theorem ma_226 : ∀ a, a < 226 + 1 → ∀ p, mvOk a p = true := lt_s ma_225 mk_226
theorem ma_227 : ∀ a, a < 227 + 1 → ∀ p, mvOk a p = true := lt_s ma_226 mk_227
theorem ma_228 : ∀ a, a < 228 + 1 → ∀ p, mvOk a p = true := lt_s ma_227 mk_228
theorem ma_229 : ∀ a, a < 229 + 1 → ∀ p, mvOk a p = true := lt_s ma_228 mk_229
theorem ma_230 : ∀ a, a < 230 + 1 → ∀ p, mvOk a p = true := lt_s ma_229 mk_230
theorem ma_231 : ∀ a, a < 231 + 1 → ∀ p, mvOk a p = true := lt_s ma_230 mk_231
theorem ma_232 : ∀ a, a < 232 + 1 → ∀ p, mvOk a p = true := lt_s ma_231 mk_232
theorem ma_233 : ∀ a, a < 233 + 1 → ∀ p, mvOk a p = true := lt_s ma_232 mk_233
theorem ma_234 : ∀ a, a < 234 + 1 → ∀ p, mvOk a p = true := lt_s ma_233 mk_234
theorem ma_235 : ∀ a, a < 235 + 1 → ∀ p, mvOk a p = true := lt_s ma_234 mk_235
theorem ma_236 : ∀ a, a < 236 + 1 → ∀ p, mvOk a p = true := lt_s ma_235 mk_236
theorem ma_237 : ∀ a, a < 237 + 1 → ∀ p, mvOk a p = true := lt_s ma_236 mk_237
theorem ma_238 : ∀ a, a < 238 + 1 → ∀ p, mvOk a p = true := lt_s ma_237 mk_238
theorem ma_239 : ∀ a, a < 239 + 1 → ∀ p, mvOk a p = true := lt_s ma_238 mk_239
theorem ma_240 : ∀ a, a < 240 + 1 → ∀ p, mvOk a p = true := lt_s ma_239 mk_240
theorem ma_241 : ∀ a, a < 241 + 1 → ∀ p, mvOk a p = true := lt_s ma_240 mk_241
theorem ma_242 : ∀ a, a < 242 + 1 → ∀ p, mvOk a p = true := lt_s ma_241 mk_242
theorem ma_243 : ∀ a, a < 243 + 1 → ∀ p, mvOk a p = true := lt_s ma_242 mk_243
theorem ma_244 : ∀ a, a < 244 + 1 → ∀ p, mvOk a p = true := lt_s ma_243 mk_244
theorem ma_245 : ∀ a, a < 245 + 1 → ∀ p, mvOk a p = true := lt_s ma_244 mk_245
theorem ma_246 : ∀ a, a < 246 + 1 → ∀ p, mvOk a p = true := lt_s ma_245 mk_246
theorem ma_247 : ∀ a, a < 247 + 1 → ∀ p, mvOk a p = true := lt_s ma_246 mk_247
theorem ma_248 : ∀ a, a < 248 + 1 → ∀ p, mvOk a p = true := lt_s ma_247 mk_248
theorem ma_249 : ∀ a, a < 249 + 1 → ∀ p, mvOk a p = true := lt_s ma_248 mk_249
theorem ma_250 : ∀ a, a < 250 + 1 → ∀ p, mvOk a p = true := lt_s ma_249 mk_250
theorem ma_251 : ∀ a, a < 251 + 1 → ∀ p, mvOk a p = true := lt_s ma_250 mk_251
theorem ma_252 : ∀ a, a < 252 + 1 → ∀ p, mvOk a p = true := lt_s ma_251 mk_252
theorem ma_253 : ∀ a, a < 253 + 1 → ∀ p, mvOk a p = true := lt_s ma_252 mk_253
theorem ma_254 : ∀ a, a < 254 + 1 → ∀ p, mvOk a p = true := lt_s ma_253 mk_254
theorem ma_255 : ∀ a, a < 255 + 1 → ∀ p, mvOk a p = true := lt_s ma_254 mk_255
theorem ma_256 : ∀ a, a < 256 + 1 → ∀ p, mvOk a p = true := lt_s ma_255 mk_256
theorem ma_257 : ∀ a, a < 257 + 1 → ∀ p, mvOk a p = true := lt_s ma_256 mk_257
theorem ma_258 : ∀ a, a < 258 + 1 → ∀ p, mvOk a p = true := lt_s ma_257 mk_258
theorem ma_259 : ∀ a, a < 259 + 1 → ∀ p, mvOk a p = true := lt_s ma_258 mk_259
theorem ma_260 : ∀ a, a < 260 + 1 → ∀ p, mvOk a p = true := lt_s ma_259 mk_260
theorem ma_261 : ∀ a, a < 261 + 1 → ∀ p, mvOk a p = true := lt_s ma_260 mk_261
theorem ma_262 : ∀ a, a < 262 + 1 → ∀ p, mvOk a p = true := lt_s ma_261 mk_262
theorem ma_263 : ∀ a, a < 263 + 1 → ∀ p, mvOk a p = true := lt_s ma_262 mk_263
theorem ma_264 : ∀ a, a < 264 + 1 → ∀ p, mvOk a p = true := lt_s ma_263 mk_264
theorem ma_265 : ∀ a, a < 265 + 1 → ∀ p, mvOk a p = true := lt_s ma_264 mk_265
theorem ma_266 : ∀ a, a < 266 + 1 → ∀ p, mvOk a p = true := lt_s ma_265 mk_266
theorem ma_267 : ∀ a, a < 267 + 1 → ∀ p, mvOk a p = true := lt_s ma_266 mk_267
theorem ma_268 : ∀ a, a < 268 + 1 → ∀ p, mvOk a p = true := lt_s ma_267 mk_268
theorem ma_269 : ∀ a, a < 269 + 1 → ∀ p, mvOk a p = true := lt_s ma_268 mk_269
theorem ma_270 : ∀ a, a < 270 + 1 → ∀ p, mvOk a p = true := lt_s ma_269 mk_270
theorem ma_271 : ∀ a, a < 271 + 1 → ∀ p, mvOk a p = true := lt_s ma_270 mk_271
theorem ma_272 : ∀ a, a < 272 + 1 → ∀ p, mvOk a p = true := lt_s ma_271 mk_272
theorem ma_273 : ∀ a, a < 273 + 1 → ∀ p, mvOk a p = true := lt_s ma_272 mk_273
theorem ma_274 : ∀ a, a < 274 + 1 → ∀ p, mvOk a p = true := lt_s ma_273 mk_274
theorem ma_275 : ∀ a, a < 275 + 1 → ∀ p, mvOk a p = true := lt_s ma_274 mk_275
theorem ma_276 : ∀ a, a < 276 + 1 → ∀ p, mvOk a p = true := lt_s ma_275 mk_276
theorem ma_277 : ∀ a, a < 277 + 1 → ∀ p, mvOk a p = true := lt_s ma_276 mk_277
theorem ma_278 : ∀ a, a < 278 + 1 → ∀ p, mvOk a p = true := lt_s ma_277 mk_278
theorem ma_279 : ∀ a, a < 279 + 1 → ∀ p, mvOk a p = true := lt_s ma_278 mk_279
theorem ma_280 : ∀ a, a < 280 + 1 → ∀ p, mvOk a p = true := lt_s ma_279 mk_280
theorem ma_281 : ∀ a, a < 281 + 1 → ∀ p, mvOk a p = true := lt_s ma_280 mk_281
theorem ma_282 : ∀ a, a < 282 + 1 → ∀ p, mvOk a p = true := lt_s ma_281 mk_282
theorem ma_283 : ∀ a, a < 283 + 1 → ∀ p, mvOk a p = true := lt_s ma_282 mk_283
theorem ma_284 : ∀ a, a < 284 + 1 → ∀ p, mvOk a p = true := lt_s ma_283 mk_284
theorem ma_285 : ∀ a, a < 285 + 1 → ∀ p, mvOk a p = true := lt_s ma_284 mk_285
theorem ma_286 : ∀ a, a < 286 + 1 → ∀ p, mvOk a p = true := lt_s ma_285 mk_286
theorem ma_287 : ∀ a, a < 287 + 1 → ∀ p, mvOk a p = true := lt_s ma_286 mk_287
theorem ma_288 : ∀ a, a < 288 + 1 → ∀ p, mvOk a p = true := lt_s ma_287 mk_288
theorem ma_289 : ∀ a, a < 289 + 1 → ∀ p, mvOk a p = true := lt_s ma_288 mk_289
theorem ma_290 : ∀ a, a < 290 + 1 → ∀ p, mvOk a p = true := lt_s ma_289 mk_290
theorem ma_291 : ∀ a, a < 291 + 1 → ∀ p, mvOk a p = true := lt_s ma_290 mk_291
theorem ma_292 : ∀ a, a < 292 + 1 → ∀ p, mvOk a p = true := lt_s ma_291 mk_292
theorem ma_293 : ∀ a, a < 293 + 1 → ∀ p, mvOk a p = true := lt_s ma_292 mk_293
theorem ma_294 : ∀ a, a < 294 + 1 → ∀ p, mvOk a p = true := lt_s ma_293 mk_294
theorem ma_295 : ∀ a, a < 295 + 1 → ∀ p, mvOk a p = true := lt_s ma_294 mk_295
theorem ma_296 : ∀ a, a < 296 + 1 → ∀ p, mvOk a p = true := lt_s ma_295 mk_296
theorem ma_297 : ∀ a, a < 297 + 1 → ∀ p, mvOk a p = true := lt_s ma_296 mk_297
theorem ma_298 : ∀ a, a < 298 + 1 → ∀ p, mvOk a p = true := lt_s ma_297 mk_298
theorem ma_299 : ∀ a, a < 299 + 1 → ∀ p, mvOk a p = true := lt_s ma_298 mk_299
theorem ma_300 : ∀ a, a < 300 + 1 → ∀ p, mvOk a p = true := lt_s ma_299 mk_300
theorem ma_301 : ∀ a, a < 301 + 1 → ∀ p, mvOk a p = true := lt_s ma_300 mk_301
theorem ma_302 : ∀ a, a < 302 + 1 → ∀ p, mvOk a p = true := lt_s ma_301 mk_302
theorem ma_303 : ∀ a, a < 303 + 1 → ∀ p, mvOk a p = true := lt_s ma_302 mk_303
theorem ma_304 : ∀ a, a < 304 + 1 → ∀ p, mvOk a p = true := lt_s ma_303 mk_304
theorem ma_305 : ∀ a, a < 305 + 1 → ∀ p, mvOk a p = true := lt_s ma_304 mk_305
theorem ma_306 : ∀ a, a < 306 + 1 → ∀ p, mvOk a p = true := lt_s ma_305 mk_306
theorem ma_307 : ∀ a, a < 307 + 1 → ∀ p, mvOk a p = true := lt_s ma_306 mk_307
theorem ma_308 : ∀ a, a < 308 + 1 → ∀ p, mvOk a p = true := lt_s ma_307 mk_308
theorem ma_309 : ∀ a, a < 309 + 1 → ∀ p, mvOk a p = true := lt_s ma_308 mk_309
theorem ma_310 : ∀ a, a < 310 + 1 → ∀ p, mvOk a p = true := lt_s ma_309 mk_310
theorem ma_311 : ∀ a, a < 311 + 1 → ∀ p, mvOk a p = true := lt_s ma_310 mk_311
theorem ma_312 : ∀ a, a < 312 + 1 → ∀ p, mvOk a p = true := lt_s ma_311 mk_312
theorem ma_313 : ∀ a, a < 313 + 1 → ∀ p, mvOk a p = true := lt_s ma_312 mk_313
theorem ma_314 : ∀ a, a < 314 + 1 → ∀ p, mvOk a p = true := lt_s ma_313 mk_314
theorem ma_315 : ∀ a, a < 315 + 1 → ∀ p, mvOk a p = true := lt_s ma_314 mk_315
theorem ma_316 : ∀ a, a < 316 + 1 → ∀ p, mvOk a p = true := lt_s ma_315 mk_316
theorem ma_317 : ∀ a, a < 317 + 1 → ∀ p, mvOk a p = true := lt_s ma_316 mk_317
theorem ma_318 : ∀ a, a < 318 + 1 → ∀ p, mvOk a p = true := lt_s ma_317 mk_318
theorem ma_319 : ∀ a, a < 319 + 1 → ∀ p, mvOk a p = true := lt_s ma_318 mk_319
theorem ma_320 : ∀ a, a < 320 + 1 → ∀ p, mvOk a p = true := lt_s ma_319 mk_320
theorem ma_321 : ∀ a, a < 321 + 1 → ∀ p, mvOk a p = true := lt_s ma_320 mk_321
theorem ma_322 : ∀ a, a < 322 + 1 → ∀ p, mvOk a p = true := lt_s ma_321 mk_322
theorem mb_0 : ∀ a, a < 0 + 1 → 0 < a → mvOkT a = true := fun a h h0 => absurd h0 (by omega)
theorem mb_1 : ∀ a, a < 1 + 1 → 0 < a → mvOkT a = true := lt_s mb_0 (fun _ => mt_1)
theorem mb_2 : ∀ a, a < 2 + 1 → 0 < a → mvOkT a = true := lt_s mb_1 (fun _ => mt_2)
theorem mb_3 : ∀ a, a < 3 + 1 → 0 < a → mvOkT a = true := lt_s mb_2 (fun _ => mt_3)
theorem mb_4 : ∀ a, a < 4 + 1 → 0 < a → mvOkT a = true := lt_s mb_3 (fun _ => mt_4)
theorem mb_5 : ∀ a, a < 5 + 1 → 0 < a → mvOkT a = true := lt_s mb_4 (fun _ => mt_5)
theorem mb_6 : ∀ a, a < 6 + 1 → 0 < a → mvOkT a = true := lt_s mb_5 (fun _ => mt_6)
theorem mb_7 : ∀ a, a < 7 + 1 → 0 < a → mvOkT a = true := lt_s mb_6 (fun _ => mt_7)
theorem mb_8 : ∀ a, a < 8 + 1 → 0 < a → mvOkT a = true := lt_s mb_7 (fun _ => mt_8)
theorem mb_9 : ∀ a, a < 9 + 1 → 0 < a → mvOkT a = true := lt_s mb_8 (fun _ => mt_9)
theorem mb_10 : ∀ a, a < 10 + 1 → 0 < a → mvOkT a = true := lt_s mb_9 (fun _ => mt_10)
theorem mb_11 : ∀ a, a < 11 + 1 → 0 < a → mvOkT a = true := lt_s mb_10 (fun _ => mt_11)
theorem mb_12 : ∀ a, a < 12 + 1 → 0 < a → mvOkT a = true := lt_s mb_11 (fun _ => mt_12)
theorem mb_13 : ∀ a, a < 13 + 1 → 0 < a → mvOkT a = true := lt_s mb_12 (fun _ => mt_13)
theorem mb_14 : ∀ a, a < 14 + 1 → 0 < a → mvOkT a = true := lt_s mb_13 (fun _ => mt_14)
theorem mb_15 : ∀ a, a < 15 + 1 → 0 < a → mvOkT a = true := lt_s mb_14 (fun _ => mt_15)
theorem mb_16 : ∀ a, a < 16 + 1 → 0 < a → mvOkT a = true := lt_s mb_15 (fun _ => mt_16)
theorem mb_17 : ∀ a, a < 17 + 1 → 0 < a → mvOkT a = true := lt_s mb_16 (fun _ => mt_17)
theorem mb_18 : ∀ a, a < 18 + 1 → 0 < a → mvOkT a = true := lt_s mb_17 (fun _ => mt_18)
theorem mb_19 : ∀ a, a < 19 + 1 → 0 < a → mvOkT a = true := lt_s mb_18 (fun _ => mt_19)
theorem mb_20 : ∀ a, a < 20 + 1 → 0 < a → mvOkT a = true := lt_s mb_19 (fun _ => mt_20)
theorem mb_21 : ∀ a, a < 21 + 1 → 0 < a → mvOkT a = true := lt_s mb_20 (fun _ => mt_21)
theorem mb_22 : ∀ a, a < 22 + 1 → 0 < a → mvOkT a = true := lt_s mb_21 (fun _ => mt_22)
theorem mb_23 : ∀ a, a < 23 + 1 → 0 < a → mvOkT a = true := lt_s mb_22 (fun _ => mt_23)
theorem mb_24 : ∀ a, a < 24 + 1 → 0 < a → mvOkT a = true := lt_s mb_23 (fun _ => mt_24)
theorem mb_25 : ∀ a, a < 25 + 1 → 0 < a → mvOkT a = true := lt_s mb_24 (fun _ => mt_25)
theorem mb_26 : ∀ a, a < 26 + 1 → 0 < a → mvOkT a = true := lt_s mb_25 (fun _ => mt_26)
theorem mb_27 : ∀ a, a < 27 + 1 → 0 < a → mvOkT a = true := lt_s mb_26 (fun _ => mt_27)
theorem mb_28 : ∀ a, a < 28 + 1 → 0 < a → mvOkT a = true := lt_s mb_27 (fun _ => mt_28)
theorem mb_29 : ∀ a, a < 29 + 1 → 0 < a → mvOkT a = true := lt_s mb_28 (fun _ => mt_29)
theorem mb_30 : ∀ a, a < 30 + 1 → 0 < a → mvOkT a = true := lt_s mb_29 (fun _ => mt_30)
theorem mb_31 : ∀ a, a < 31 + 1 → 0 < a → mvOkT a = true := lt_s mb_30 (fun _ => mt_31)
theorem mb_32 : ∀ a, a < 32 + 1 → 0 < a → mvOkT a = true := lt_s mb_31 (fun _ => mt_32)
theorem mb_33 : ∀ a, a < 33 + 1 → 0 < a → mvOkT a = true := lt_s mb_32 (fun _ => mt_33)
theorem mb_34 : ∀ a, a < 34 + 1 → 0 < a → mvOkT a = true := lt_s mb_33 (fun _ => mt_34)
theorem mb_35 : ∀ a, a < 35 + 1 → 0 < a → mvOkT a = true := lt_s mb_34 (fun _ => mt_35)
theorem mb_36 : ∀ a, a < 36 + 1 → 0 < a → mvOkT a = true := lt_s mb_35 (fun _ => mt_36)
theorem mb_37 : ∀ a, a < 37 + 1 → 0 < a → mvOkT a = true := lt_s mb_36 (fun _ => mt_37)
theorem mb_38 : ∀ a, a < 38 + 1 → 0 < a → mvOkT a = true := lt_s mb_37 (fun _ => mt_38)
theorem mb_39 : ∀ a, a < 39 + 1 → 0 < a → mvOkT a = true := lt_s mb_38 (fun _ => mt_39)
theorem mb_40 : ∀ a, a < 40 + 1 → 0 < a → mvOkT a = true := lt_s mb_39 (fun _ => mt_40)
theorem mb_41 : ∀ a, a < 41 + 1 → 0 < a → mvOkT a = true := lt_s mb_40 (fun _ => mt_41)
theorem mb_42 : ∀ a, a < 42 + 1 → 0 < a → mvOkT a = true := lt_s mb_41 (fun _ => mt_42)
theorem mb_43 : ∀ a, a < 43 + 1 → 0 < a → mvOkT a = true := lt_s mb_42 (fun _ => mt_43)
theorem mb_44 : ∀ a, a < 44 + 1 → 0 < a → mvOkT a = true := lt_s mb_43 (fun _ => mt_44)
theorem mb_45 : ∀ a, a < 45 + 1 → 0 < a → mvOkT a = true := lt_s mb_44 (fun _ => mt_45)
theorem mb_46 : ∀ a, a < 46 + 1 → 0 < a → mvOkT a = true := lt_s mb_45 (fun _ => mt_46)
theorem mb_47 : ∀ a, a < 47 + 1 → 0 < a → mvOkT a = true := lt_s mb_46 (fun _ => mt_47)
theorem mb_48 : ∀ a, a < 48 + 1 → 0 < a → mvOkT a = true := lt_s mb_47 (fun _ => mt_48)
theorem mb_49 : ∀ a, a < 49 + 1 → 0 < a → mvOkT a = true := lt_s mb_48 (fun _ => mt_49)
theorem mb_50 : ∀ a, a < 50 + 1 → 0 < a → mvOkT a = true := lt_s mb_49 (fun _ => mt_50)
theorem mb_51 : ∀ a, a < 51 + 1 → 0 < a → mvOkT a = true := lt_s mb_50 (fun _ => mt_51)
theorem mb_52 : ∀ a, a < 52 + 1 → 0 < a → mvOkT a = true := lt_s mb_51 (fun _ => mt_52)
theorem mb_53 : ∀ a, a < 53 + 1 → 0 < a → mvOkT a = true := lt_s mb_52 (fun _ => mt_53)
theorem mb_54 : ∀ a, a < 54 + 1 → 0 < a → mvOkT a = true := lt_s mb_53 (fun _ => mt_54)
theorem mb_55 : ∀ a, a < 55 + 1 → 0 < a → mvOkT a = true := lt_s mb_54 (fun _ => mt_55)
theorem mb_56 : ∀ a, a < 56 + 1 → 0 < a → mvOkT a = true := lt_s mb_55 (fun _ => mt_56)
theorem mb_57 : ∀ a, a < 57 + 1 → 0 < a → mvOkT a = true := lt_s mb_56 (fun _ => mt_57)
theorem mb_58 : ∀ a, a < 58 + 1 → 0 < a → mvOkT a = true := lt_s mb_57 (fun _ => mt_58)
theorem mb_59 : ∀ a, a < 59 + 1 → 0 < a → mvOkT a = true := lt_s mb_58 (fun _ => mt_59)
theorem mb_60 : ∀ a, a < 60 + 1 → 0 < a → mvOkT a = true := lt_s mb_59 (fun _ => mt_60)
theorem mb_61 : ∀ a, a < 61 + 1 → 0 < a → mvOkT a = true := lt_s mb_60 (fun _ => mt_61)
theorem mb_62 : ∀ a, a < 62 + 1 → 0 < a → mvOkT a = true := lt_s mb_61 (fun _ => mt_62)
theorem mb_63 : ∀ a, a < 63 + 1 → 0 < a → mvOkT a = true := lt_s mb_62 (fun _ => mt_63)
theorem mb_64 : ∀ a, a < 64 + 1 → 0 < a → mvOkT a = true := lt_s mb_63 (fun _ => mt_64)
theorem mb_65 : ∀ a, a < 65 + 1 → 0 < a → mvOkT a = true := lt_s mb_64 (fun _ => mt_65)
theorem mb_66 : ∀ a, a < 66 + 1 → 0 < a → mvOkT a = true := lt_s mb_65 (fun _ => mt_66)
theorem mb_67 : ∀ a, a < 67 + 1 → 0 < a → mvOkT a = true := lt_s mb_66 (fun _ => mt_67)
theorem mb_68 : ∀ a, a < 68 + 1 → 0 < a → mvOkT a = true := lt_s mb_67 (fun _ => mt_68)
theorem mb_69 : ∀ a, a < 69 + 1 → 0 < a → mvOkT a = true := lt_s mb_68 (fun _ => mt_69)
theorem mb_70 : ∀ a, a < 70 + 1 → 0 < a → mvOkT a = true := lt_s mb_69 (fun _ => mt_70)
theorem mb_71 : ∀ a, a < 71 + 1 → 0 < a → mvOkT a = true := lt_s mb_70 (fun _ => mt_71)
theorem mb_72 : ∀ a, a < 72 + 1 → 0 < a → mvOkT a = true := lt_s mb_71 (fun _ => mt_72)
theorem mb_73 : ∀ a, a < 73 + 1 → 0 < a → mvOkT a = true := lt_s mb_72 (fun _ => mt_73)
theorem mb_74 : ∀ a, a < 74 + 1 → 0 < a → mvOkT a = true := lt_s mb_73 (fun _ => mt_74)
theorem mb_75 : ∀ a, a < 75 + 1 → 0 < a → mvOkT a = true := lt_s mb_74 (fun _ => mt_75)
theorem mb_76 : ∀ a, a < 76 + 1 → 0 < a → mvOkT a = true := lt_s mb_75 (fun _ => mt_76)
theorem mb_77 : ∀ a, a < 77 + 1 → 0 < a → mvOkT a = true := lt_s mb_76 (fun _ => mt_77)
theorem mb_78 : ∀ a, a < 78 + 1 → 0 < a → mvOkT a = true := lt_s mb_77 (fun _ => mt_78)
theorem mb_79 : ∀ a, a < 79 + 1 → 0 < a → mvOkT a = true := lt_s mb_78 (fun _ => mt_79)
theorem mb_80 : ∀ a, a < 80 + 1 → 0 < a → mvOkT a = true := lt_s mb_79 (fun _ => mt_80)
theorem mb_81 : ∀ a, a < 81 + 1 → 0 < a → mvOkT a = true := lt_s mb_80 (fun _ => mt_81)
theorem mb_82 : ∀ a, a < 82 + 1 → 0 < a → mvOkT a = true := lt_s mb_81 (fun _ => mt_82)
theorem mb_83 : ∀ a, a < 83 + 1 → 0 < a → mvOkT a = true := lt_s mb_82 (fun _ => mt_83)
theorem mb_84 : ∀ a, a < 84 + 1 → 0 < a → mvOkT a = true := lt_s mb_83 (fun _ => mt_84)
theorem mb_85 : ∀ a, a < 85 + 1 → 0 < a → mvOkT a = true := lt_s mb_84 (fun _ => mt_85)
theorem mb_86 : ∀ a, a < 86 + 1 → 0 < a → mvOkT a = true := lt_s mb_85 (fun _ => mt_86)
theorem mb_87 : ∀ a, a < 87 + 1 → 0 < a → mvOkT a = true := lt_s mb_86 (fun _ => mt_87)
theorem mb_88 : ∀ a, a < 88 + 1 → 0 < a → mvOkT a = true := lt_s mb_87 (fun _ => mt_88)
theorem mb_89 : ∀ a, a < 89 + 1 → 0 < a → mvOkT a = true := lt_s mb_88 (fun _ => mt_89)
theorem mb_90 : ∀ a, a < 90 + 1 → 0 < a → mvOkT a = true := lt_s mb_89 (fun _ => mt_90)
theorem mb_91 : ∀ a, a < 91 + 1 → 0 < a → mvOkT a = true := lt_s mb_90 (fun _ => mt_91)
theorem mb_92 : ∀ a, a < 92 + 1 → 0 < a → mvOkT a = true := lt_s mb_91 (fun _ => mt_92)
theorem mb_93 : ∀ a, a < 93 + 1 → 0 < a → mvOkT a = true := lt_s mb_92 (fun _ => mt_93)
theorem mb_94 : ∀ a, a < 94 + 1 → 0 < a → mvOkT a = true := lt_s mb_93 (fun _ => mt_94)
theorem mb_95 : ∀ a, a < 95 + 1 → 0 < a → mvOkT a = true := lt_s mb_94 (fun _ => mt_95)
theorem mb_96 : ∀ a, a < 96 + 1 → 0 < a → mvOkT a = true := lt_s mb_95 (fun _ => mt_96)
theorem mb_97 : ∀ a, a < 97 + 1 → 0 < a → mvOkT a = true := lt_s mb_96 (fun _ => mt_97)
theorem mb_98 : ∀ a, a < 98 + 1 → 0 < a → mvOkT a = true := lt_s mb_97 (fun _ => mt_98)
theorem mb_99 : ∀ a, a < 99 + 1 → 0 < a → mvOkT a = true := lt_s mb_98 (fun _ => mt_99)
theorem mb_100 : ∀ a, a < 100 + 1 → 0 < a → mvOkT a = true := lt_s mb_99 (fun _ => mt_100)
theorem mb_101 : ∀ a, a < 101 + 1 → 0 < a → mvOkT a = true := lt_s mb_100 (fun _ => mt_101)
theorem mb_102 : ∀ a, a < 102 + 1 → 0 < a → mvOkT a = true := lt_s mb_101 (fun _ => mt_102)
theorem mb_103 : ∀ a, a < 103 + 1 → 0 < a → mvOkT a = true := lt_s mb_102 (fun _ => mt_103)
theorem mb_104 : ∀ a, a < 104 + 1 → 0 < a → mvOkT a = true := lt_s mb_103 (fun _ => mt_104)
theorem mb_105 : ∀ a, a < 105 + 1 → 0 < a → mvOkT a = true := lt_s mb_104 (fun _ => mt_105)
theorem mb_106 : ∀ a, a < 106 + 1 → 0 < a → mvOkT a = true := lt_s mb_105 (fun _ => mt_106)
theorem mb_107 : ∀ a, a < 107 + 1 → 0 < a → mvOkT a = true := lt_s mb_106 (fun _ => mt_107)
theorem mb_108 : ∀ a, a < 108 + 1 → 0 < a → mvOkT a = true := lt_s mb_107 (fun _ => mt_108)
theorem mb_109 : ∀ a, a < 109 + 1 → 0 < a → mvOkT a = true := lt_s mb_108 (fun _ => mt_109)
theorem mb_110 : ∀ a, a < 110 + 1 → 0 < a → mvOkT a = true := lt_s mb_109 (fun _ => mt_110)
theorem mb_111 : ∀ a, a < 111 + 1 → 0 < a → mvOkT a = true := lt_s mb_110 (fun _ => mt_111)
theorem mb_112 : ∀ a, a < 112 + 1 → 0 < a → mvOkT a = true := lt_s mb_111 (fun _ => mt_112)
theorem mb_113 : ∀ a, a < 113 + 1 → 0 < a → mvOkT a = true := lt_s mb_112 (fun _ => mt_113)
theorem mb_114 : ∀ a, a < 114 + 1 → 0 < a → mvOkT a = true := lt_s mb_113 (fun _ => mt_114)
theorem mb_115 : ∀ a, a < 115 + 1 → 0 < a → mvOkT a = true := lt_s mb_114 (fun _ => mt_115)
theorem mb_116 : ∀ a, a < 116 + 1 → 0 < a → mvOkT a = true := lt_s mb_115 (fun _ => mt_116)
theorem mb_117 : ∀ a, a < 117 + 1 → 0 < a → mvOkT a = true := lt_s mb_116 (fun _ => mt_117)
theorem mb_118 : ∀ a, a < 118 + 1 → 0 < a → mvOkT a = true := lt_s mb_117 (fun _ => mt_118)
theorem mb_119 : ∀ a, a < 119 + 1 → 0 < a → mvOkT a = true := lt_s mb_118 (fun _ => mt_119)
theorem mb_120 : ∀ a, a < 120 + 1 → 0 < a → mvOkT a = true := lt_s mb_119 (fun _ => mt_120)
theorem mb_121 : ∀ a, a < 121 + 1 → 0 < a → mvOkT a = true := lt_s mb_120 (fun _ => mt_121)
theorem mb_122 : ∀ a, a < 122 + 1 → 0 < a → mvOkT a = true := lt_s mb_121 (fun _ => mt_122)
theorem mb_123 : ∀ a, a < 123 + 1 → 0 < a → mvOkT a = true := lt_s mb_122 (fun _ => mt_123)
theorem mb_124 : ∀ a, a < 124 + 1 → 0 < a → mvOkT a = true := lt_s mb_123 (fun _ => mt_124)
theorem mb_125 : ∀ a, a < 125 + 1 → 0 < a → mvOkT a = true := lt_s mb_124 (fun _ => mt_125)
theorem mb_126 : ∀ a, a < 126 + 1 → 0 < a → mvOkT a = true := lt_s mb_125 (fun _ => mt_126)
theorem mb_127 : ∀ a, a < 127 + 1 → 0 < a → mvOkT a = true := lt_s mb_126 (fun _ => mt_127)
theorem mb_128 : ∀ a, a < 128 + 1 → 0 < a → mvOkT a = true := lt_s mb_127 (fun _ => mt_128)
theorem mb_129 : ∀ a, a < 129 + 1 → 0 < a → mvOkT a = true := lt_s mb_128 (fun _ => mt_129)
theorem mb_130 : ∀ a, a < 130 + 1 → 0 < a → mvOkT a = true := lt_s mb_129 (fun _ => mt_130)
theorem mb_131 : ∀ a, a < 131 + 1 → 0 < a → mvOkT a = true := lt_s mb_130 (fun _ => mt_131)
theorem mb_132 : ∀ a, a < 132 + 1 → 0 < a → mvOkT a = true := lt_s mb_131 (fun _ => mt_132)
theorem mb_133 : ∀ a, a < 133 + 1 → 0 < a → mvOkT a = true := lt_s mb_132 (fun _ => mt_133)
theorem mb_134 : ∀ a, a < 134 + 1 → 0 < a → mvOkT a = true := lt_s mb_133 (fun _ => mt_134)
theorem mb_135 : ∀ a, a < 135 + 1 → 0 < a → mvOkT a = true := lt_s mb_134 (fun _ => mt_135)
theorem mb_136 : ∀ a, a < 136 + 1 → 0 < a → mvOkT a = true := lt_s mb_135 (fun _ => mt_136)
theorem mb_137 : ∀ a, a < 137 + 1 → 0 < a → mvOkT a = true := lt_s mb_136 (fun _ => mt_137)
theorem mb_138 : ∀ a, a < 138 + 1 → 0 < a → mvOkT a = true := lt_s mb_137 (fun _ => mt_138)
theorem mb_139 : ∀ a, a < 139 + 1 → 0 < a → mvOkT a = true := lt_s mb_138 (fun _ => mt_139)
theorem mb_140 : ∀ a, a < 140 + 1 → 0 < a → mvOkT a = true := lt_s mb_139 (fun _ => mt_140)
theorem mb_141 : ∀ a, a < 141 + 1 → 0 < a → mvOkT a = true := lt_s mb_140 (fun _ => mt_141)
theorem mb_142 : ∀ a, a < 142 + 1 → 0 < a → mvOkT a = true := lt_s mb_141 (fun _ => mt_142)
theorem mb_143 : ∀ a, a < 143 + 1 → 0 < a → mvOkT a = true := lt_s mb_142 (fun _ => mt_143)
theorem mb_144 : ∀ a, a < 144 + 1 → 0 < a → mvOkT a = true := lt_s mb_143 (fun _ => mt_144)
theorem mb_145 : ∀ a, a < 145 + 1 → 0 < a → mvOkT a = true := lt_s mb_144 (fun _ => mt_145)
theorem mb_146 : ∀ a, a < 146 + 1 → 0 < a → mvOkT a = true := lt_s mb_145 (fun _ => mt_146)
theorem mb_147 : ∀ a, a < 147 + 1 → 0 < a → mvOkT a = true := lt_s mb_146 (fun _ => mt_147)
theorem mb_148 : ∀ a, a < 148 + 1 → 0 < a → mvOkT a = true := lt_s mb_147 (fun _ => mt_148)
theorem mb_149 : ∀ a, a < 149 + 1 → 0 < a → mvOkT a = true := lt_s mb_148 (fun _ => mt_149)
theorem mb_150 : ∀ a, a < 150 + 1 → 0 < a → mvOkT a = true := lt_s mb_149 (fun _ => mt_150)
theorem mb_151 : ∀ a, a < 151 + 1 → 0 < a → mvOkT a = true := lt_s mb_150 (fun _ => mt_151)
theorem mb_152 : ∀ a, a < 152 + 1 → 0 < a → mvOkT a = true := lt_s mb_151 (fun _ => mt_152)
theorem mb_153 : ∀ a, a < 153 + 1 → 0 < a → mvOkT a = true := lt_s mb_152 (fun _ => mt_153)
theorem mb_154 : ∀ a, a < 154 + 1 → 0 < a → mvOkT a = true := lt_s mb_153 (fun _ => mt_154)
theorem mb_155 : ∀ a, a < 155 + 1 → 0 < a → mvOkT a = true := lt_s mb_154 (fun _ => mt_155)
theorem mb_156 : ∀ a, a < 156 + 1 → 0 < a → mvOkT a = true := lt_s mb_155 (fun _ => mt_156)
theorem mb_157 : ∀ a, a < 157 + 1 → 0 < a → mvOkT a = true := lt_s mb_156 (fun _ => mt_157)
theorem mb_158 : ∀ a, a < 158 + 1 → 0 < a → mvOkT a = true := lt_s mb_157 (fun _ => mt_158)
theorem mb_159 : ∀ a, a < 159 + 1 → 0 < a → mvOkT a = true := lt_s mb_158 (fun _ => mt_159)
theorem mb_160 : ∀ a, a < 160 + 1 → 0 < a → mvOkT a = true := lt_s mb_159 (fun _ => mt_160)
theorem mb_161 : ∀ a, a < 161 + 1 → 0 < a → mvOkT a = true := lt_s mb_160 (fun _ => mt_161)
theorem mb_162 : ∀ a, a < 162 + 1 → 0 < a → mvOkT a = true := lt_s mb_161 (fun _ => mt_162)
theorem mb_163 : ∀ a, a < 163 + 1 → 0 < a → mvOkT a = true := lt_s mb_162 (fun _ => mt_163)
theorem mb_164 : ∀ a, a < 164 + 1 → 0 < a → mvOkT a = true := lt_s mb_163 (fun _ => mt_164)
theorem mb_165 : ∀ a, a < 165 + 1 → 0 < a → mvOkT a = true := lt_s mb_164 (fun _ => mt_165)
theorem mb_166 : ∀ a, a < 166 + 1 → 0 < a → mvOkT a = true := lt_s mb_165 (fun _ => mt_166)
theorem mb_167 : ∀ a, a < 167 + 1 → 0 < a → mvOkT a = true := lt_s mb_166 (fun _ => mt_167)
theorem mb_168 : ∀ a, a < 168 + 1 → 0 < a → mvOkT a = true := lt_s mb_167 (fun _ => mt_168)
theorem mb_169 : ∀ a, a < 169 + 1 → 0 < a → mvOkT a = true := lt_s mb_168 (fun _ => mt_169)
theorem mb_170 : ∀ a, a < 170 + 1 → 0 < a → mvOkT a = true := lt_s mb_169 (fun _ => mt_170)
theorem mb_171 : ∀ a, a < 171 + 1 → 0 < a → mvOkT a = true := lt_s mb_170 (fun _ => mt_171)
theorem mb_172 : ∀ a, a < 172 + 1 → 0 < a → mvOkT a = true := lt_s mb_171 (fun _ => mt_172)
theorem mb_173 : ∀ a, a < 173 + 1 → 0 < a → mvOkT a = true := lt_s mb_172 (fun _ => mt_173)
theorem mb_174 : ∀ a, a < 174 + 1 → 0 < a → mvOkT a = true := lt_s mb_173 (fun _ => mt_174)
theorem mb_175 : ∀ a, a < 175 + 1 → 0 < a → mvOkT a = true := lt_s mb_174 (fun _ => mt_175)
theorem mb_176 : ∀ a, a < 176 + 1 → 0 < a → mvOkT a = true := lt_s mb_175 (fun _ => mt_176)
theorem mb_177 : ∀ a, a < 177 + 1 → 0 < a → mvOkT a = true := lt_s mb_176 (fun _ => mt_177)
theorem mb_178 : ∀ a, a < 178 + 1 → 0 < a → mvOkT a = true := lt_s mb_177 (fun _ => mt_178)
theorem mb_179 : ∀ a, a < 179 + 1 → 0 < a → mvOkT a = true := lt_s mb_178 (fun _ => mt_179)
theorem mb_180 : ∀ a, a < 180 + 1 → 0 < a → mvOkT a = true := lt_s mb_179 (fun _ => mt_180)
theorem mb_181 : ∀ a, a < 181 + 1 → 0 < a → mvOkT a = true := lt_s mb_180 (fun _ => mt_181)
theorem mb_182 : ∀ a, a < 182 + 1 → 0 < a → mvOkT a = true := lt_s mb_181 (fun _ => mt_182)
theorem mb_183 : ∀ a, a < 183 + 1 → 0 < a → mvOkT a = true := lt_s mb_182 (fun _ => mt_183)
theorem mb_184 : ∀ a, a < 184 + 1 → 0 < a → mvOkT a = true := lt_s mb_183 (fun _ => mt_184)
theorem mb_185 : ∀ a, a < 185 + 1 → 0 < a → mvOkT a = true := lt_s mb_184 (fun _ => mt_185)
theorem mb_186 : ∀ a, a < 186 + 1 → 0 < a → mvOkT a = true := lt_s mb_185 (fun _ => mt_186)
theorem mb_187 : ∀ a, a < 187 + 1 → 0 < a → mvOkT a = true := lt_s mb_186 (fun _ => mt_187)
theorem mb_188 : ∀ a, a < 188 + 1 → 0 < a → mvOkT a = true := lt_s mb_187 (fun _ => mt_188)
theorem mb_189 : ∀ a, a < 189 + 1 → 0 < a → mvOkT a = true := lt_s mb_188 (fun _ => mt_189)
theorem mb_190 : ∀ a, a < 190 + 1 → 0 < a → mvOkT a = true := lt_s mb_189 (fun _ => mt_190)
theorem mb_191 : ∀ a, a < 191 + 1 → 0 < a → mvOkT a = true := lt_s mb_190 (fun _ => mt_191)
theorem mb_192 : ∀ a, a < 192 + 1 → 0 < a → mvOkT a = true := lt_s mb_191 (fun _ => mt_192)
theorem mb_193 : ∀ a, a < 193 + 1 → 0 < a → mvOkT a = true := lt_s mb_192 (fun _ => mt_193)
theorem mb_194 : ∀ a, a < 194 + 1 → 0 < a → mvOkT a = true := lt_s mb_193 (fun _ => mt_194)
theorem mb_195 : ∀ a, a < 195 + 1 → 0 < a → mvOkT a = true := lt_s mb_194 (fun _ => mt_195)
theorem mb_196 : ∀ a, a < 196 + 1 → 0 < a → mvOkT a = true := lt_s mb_195 (fun _ => mt_196)
theorem mb_197 : ∀ a, a < 197 + 1 → 0 < a → mvOkT a = true := lt_s mb_196 (fun _ => mt_197)
theorem mb_198 : ∀ a, a < 198 + 1 → 0 < a → mvOkT a = true := lt_s mb_197 (fun _ => mt_198)
theorem mb_199 : ∀ a, a < 199 + 1 → 0 < a → mvOkT a = true := lt_s mb_198 (fun _ => mt_199)
theorem mb_200 : ∀ a, a < 200 + 1 → 0 < a → mvOkT a = true := lt_s mb_199 (fun _ => mt_200)
theorem mb_201 : ∀ a, a < 201 + 1 → 0 < a → mvOkT a = true := lt_s mb_200 (fun _ => mt_201)
theorem mb_202 : ∀ a, a < 202 + 1 → 0 < a → mvOkT a = true := lt_s mb_201 (fun _ => mt_202)
theorem mb_203 : ∀ a, a < 203 + 1 → 0 < a → mvOkT a = true := lt_s mb_202 (fun _ => mt_203)
theorem mb_204 : ∀ a, a < 204 + 1 → 0 < a → mvOkT a = true := lt_s mb_203 (fun _ => mt_204)
theorem mb_205 : ∀ a, a < 205 + 1 → 0 < a → mvOkT a = true := lt_s mb_204 (fun _ => mt_205)
theorem mb_206 : ∀ a, a < 206 + 1 → 0 < a → mvOkT a = true := lt_s mb_205 (fun _ => mt_206)
theorem mb_207 : ∀ a, a < 207 + 1 → 0 < a → mvOkT a = true := lt_s mb_206 (fun _ => mt_207)
theorem mb_208 : ∀ a, a < 208 + 1 → 0 < a → mvOkT a = true := lt_s mb_207 (fun _ => mt_208)
theorem mb_209 : ∀ a, a < 209 + 1 → 0 < a → mvOkT a = true := lt_s mb_208 (fun _ => mt_209)
theorem mb_210 : ∀ a, a < 210 + 1 → 0 < a → mvOkT a = true := lt_s mb_209 (fun _ => mt_210)
theorem mb_211 : ∀ a, a < 211 + 1 → 0 < a → mvOkT a = true := lt_s mb_210 (fun _ => mt_211)
theorem mb_212 : ∀ a, a < 212 + 1 → 0 < a → mvOkT a = true := lt_s mb_211 (fun _ => mt_212)
theorem mb_213 : ∀ a, a < 213 + 1 → 0 < a → mvOkT a = true := lt_s mb_212 (fun _ => mt_213)
theorem mb_214 : ∀ a, a < 214 + 1 → 0 < a → mvOkT a = true := lt_s mb_213 (fun _ => mt_214)
theorem mb_215 : ∀ a, a < 215 + 1 → 0 < a → mvOkT a = true := lt_s mb_214 (fun _ => mt_215)
theorem mb_216 : ∀ a, a < 216 + 1 → 0 < a → mvOkT a = true := lt_s mb_215 (fun _ => mt_216)
theorem mb_217 : ∀ a, a < 217 + 1 → 0 < a → mvOkT a = true := lt_s mb_216 (fun _ => mt_217)
theorem mb_218 : ∀ a, a < 218 + 1 → 0 < a → mvOkT a = true := lt_s mb_217 (fun _ => mt_218)
theorem mb_219 : ∀ a, a < 219 + 1 → 0 < a → mvOkT a = true := lt_s mb_218 (fun _ => mt_219)
theorem mb_220 : ∀ a, a < 220 + 1 → 0 < a → mvOkT a = true := lt_s mb_219 (fun _ => mt_220)
theorem mb_221 : ∀ a, a < 221 + 1 → 0 < a → mvOkT a = true := lt_s mb_220 (fun _ => mt_221)
theorem mb_222 : ∀ a, a < 222 + 1 → 0 < a → mvOkT a = true := lt_s mb_221 (fun _ => mt_222)
theorem mb_223 : ∀ a, a < 223 + 1 → 0 < a → mvOkT a = true := lt_s mb_222 (fun _ => mt_223)
theorem mb_224 : ∀ a, a < 224 + 1 → 0 < a → mvOkT a = true := lt_s mb_223 (fun _ => mt_224)
theorem mb_225 : ∀ a, a < 225 + 1 → 0 < a → mvOkT a = true := lt_s mb_224 (fun _ => mt_225)
theorem mb_226 : ∀ a, a < 226 + 1 → 0 < a → mvOkT a = true := lt_s mb_225 (fun _ => mt_226)
theorem mb_227 : ∀ a, a < 227 + 1 → 0 < a → mvOkT a = true := lt_s mb_226 (fun _ => mt_227)
theorem mb_228 : ∀ a, a < 228 + 1 → 0 < a → mvOkT a = true := lt_s mb_227 (fun _ => mt_228)
theorem mb_229 : ∀ a, a < 229 + 1 → 0 < a → mvOkT a = true := lt_s mb_228 (fun _ => mt_229)
theorem mb_230 : ∀ a, a < 230 + 1 → 0 < a → mvOkT a = true := lt_s mb_229 (fun _ => mt_230)
theorem mb_231 : ∀ a, a < 231 + 1 → 0 < a → mvOkT a = true := lt_s mb_230 (fun _ => mt_231)
theorem mb_232 : ∀ a, a < 232 + 1 → 0 < a → mvOkT a = true := lt_s mb_231 (fun _ => mt_232)
theorem mb_233 : ∀ a, a < 233 + 1 → 0 < a → mvOkT a = true := lt_s mb_232 (fun _ => mt_233)
theorem mb_234 : ∀ a, a < 234 + 1 → 0 < a → mvOkT a = true := lt_s mb_233 (fun _ => mt_234)
theorem mb_235 : ∀ a, a < 235 + 1 → 0 < a → mvOkT a = true := lt_s mb_234 (fun _ => mt_235)
theorem mb_236 : ∀ a, a < 236 + 1 → 0 < a → mvOkT a = true := lt_s mb_235 (fun _ => mt_236)
theorem mb_237 : ∀ a, a < 237 + 1 → 0 < a → mvOkT a = true := lt_s mb_236 (fun _ => mt_237)
theorem mb_238 : ∀ a, a < 238 + 1 → 0 < a → mvOkT a = true := lt_s mb_237 (fun _ => mt_238)
theorem mb_239 : ∀ a, a < 239 + 1 → 0 < a → mvOkT a = true := lt_s mb_238 (fun _ => mt_239)
theorem mb_240 : ∀ a, a < 240 + 1 → 0 < a → mvOkT a = true := lt_s mb_239 (fun _ => mt_240)
theorem mb_241 : ∀ a, a < 241 + 1 → 0 < a → mvOkT a = true := lt_s mb_240 (fun _ => mt_241)
theorem mb_242 : ∀ a, a < 242 + 1 → 0 < a → mvOkT a = true := lt_s mb_241 (fun _ => mt_242)
theorem mb_243 : ∀ a, a < 243 + 1 → 0 < a → mvOkT a = true := lt_s mb_242 (fun _ => mt_243)
theorem mb_244 : ∀ a, a < 244 + 1 → 0 < a → mvOkT a = true := lt_s mb_243 (fun _ => mt_244)
theorem mb_245 : ∀ a, a < 245 + 1 → 0 < a → mvOkT a = true := lt_s mb_244 (fun _ => mt_245)
theorem mb_246 : ∀ a, a < 246 + 1 → 0 < a → mvOkT a = true := lt_s mb_245 (fun _ => mt_246)
theorem mb_247 : ∀ a, a < 247 + 1 → 0 < a → mvOkT a = true := lt_s mb_246 (fun _ => mt_247)
theorem mb_248 : ∀ a, a < 248 + 1 → 0 < a → mvOkT a = true := lt_s mb_247 (fun _ => mt_248)
theorem mb_249 : ∀ a, a < 249 + 1 → 0 < a → mvOkT a = true := lt_s mb_248 (fun _ => mt_249)
theorem mb_250 : ∀ a, a < 250 + 1 → 0 < a → mvOkT a = true := lt_s mb_249 (fun _ => mt_250)
theorem mb_251 : ∀ a, a < 251 + 1 → 0 < a → mvOkT a = true := lt_s mb_250 (fun _ => mt_251)
theorem mb_252 : ∀ a, a < 252 + 1 → 0 < a → mvOkT a = true := lt_s mb_251 (fun _ => mt_252)
theorem mb_253 : ∀ a, a < 253 + 1 → 0 < a → mvOkT a = true := lt_s mb_252 (fun _ => mt_253)
theorem mb_254 : ∀ a, a < 254 + 1 → 0 < a → mvOkT a = true := lt_s mb_253 (fun _ => mt_254)
theorem mb_255 : ∀ a, a < 255 + 1 → 0 < a → mvOkT a = true := lt_s mb_254 (fun _ => mt_255)
theorem mb_256 : ∀ a, a < 256 + 1 → 0 < a → mvOkT a = true := lt_s mb_255 (fun _ => mt_256)
theorem mb_257 : ∀ a, a < 257 + 1 → 0 < a → mvOkT a = true := lt_s mb_256 (fun _ => mt_257)
theorem mb_258 : ∀ a, a < 258 + 1 → 0 < a → mvOkT a = true := lt_s mb_257 (fun _ => mt_258)
theorem mb_259 : ∀ a, a < 259 + 1 → 0 < a → mvOkT a = true := lt_s mb_258 (fun _ => mt_259)
theorem mb_260 : ∀ a, a < 260 + 1 → 0 < a → mvOkT a = true := lt_s mb_259 (fun _ => mt_260)
theorem mb_261 : ∀ a, a < 261 + 1 → 0 < a → mvOkT a = true := lt_s mb_260 (fun _ => mt_261)
theorem mb_262 : ∀ a, a < 262 + 1 → 0 < a → mvOkT a = true := lt_s mb_261 (fun _ => mt_262)
theorem mb_263 : ∀ a, a < 263 + 1 → 0 < a → mvOkT a = true := lt_s mb_262 (fun _ => mt_263)
theorem mb_264 : ∀ a, a < 264 + 1 → 0 < a → mvOkT a = true := lt_s mb_263 (fun _ => mt_264)
theorem mb_265 : ∀ a, a < 265 + 1 → 0 < a → mvOkT a = true := lt_s mb_264 (fun _ => mt_265)
theorem mb_266 : ∀ a, a < 266 + 1 → 0 < a → mvOkT a = true := lt_s mb_265 (fun _ => mt_266)
theorem mb_267 : ∀ a, a < 267 + 1 → 0 < a → mvOkT a = true := lt_s mb_266 (fun _ => mt_267)
theorem mb_268 : ∀ a, a < 268 + 1 → 0 < a → mvOkT a = true := lt_s mb_267 (fun _ => mt_268)
theorem mb_269 : ∀ a, a < 269 + 1 → 0 < a → mvOkT a = true := lt_s mb_268 (fun _ => mt_269)
theorem mb_270 : ∀ a, a < 270 + 1 → 0 < a → mvOkT a = true := lt_s mb_269 (fun _ => mt_270)
theorem mb_271 : ∀ a, a < 271 + 1 → 0 < a → mvOkT a = true := lt_s mb_270 (fun _ => mt_271)
theorem mb_272 : ∀ a, a < 272 + 1 → 0 < a → mvOkT a = true := lt_s mb_271 (fun _ => mt_272)
theorem mb_273 : ∀ a, a < 273 + 1 → 0 < a → mvOkT a = true := lt_s mb_272 (fun _ => mt_273)
theorem mb_274 : ∀ a, a < 274 + 1 → 0 < a → mvOkT a = true := lt_s mb_273 (fun _ => mt_274)
theorem mb_275 : ∀ a, a < 275 + 1 → 0 < a → mvOkT a = true := lt_s mb_274 (fun _ => mt_275)
theorem mb_276 : ∀ a, a < 276 + 1 → 0 < a → mvOkT a = true := lt_s mb_275 (fun _ => mt_276)
theorem mb_277 : ∀ a, a < 277 + 1 → 0 < a → mvOkT a = true := lt_s mb_276 (fun _ => mt_277)
theorem mb_278 : ∀ a, a < 278 + 1 → 0 < a → mvOkT a = true := lt_s mb_277 (fun _ => mt_278)
theorem mb_279 : ∀ a, a < 279 + 1 → 0 < a → mvOkT a = true := lt_s mb_278 (fun _ => mt_279)
theorem mb_280 : ∀ a, a < 280 + 1 → 0 < a → mvOkT a = true := lt_s mb_279 (fun _ => mt_280)
theorem mb_281 : ∀ a, a < 281 + 1 → 0 < a → mvOkT a = true := lt_s mb_280 (fun _ => mt_281)
theorem mb_282 : ∀ a, a < 282 + 1 → 0 < a → mvOkT a = true := lt_s mb_281 (fun _ => mt_282)
theorem mb_283 : ∀ a, a < 283 + 1 → 0 < a → mvOkT a = true := lt_s mb_282 (fun _ => mt_283)
theorem mb_284 : ∀ a, a < 284 + 1 → 0 < a → mvOkT a = true := lt_s mb_283 (fun _ => mt_284)
theorem mb_285 : ∀ a, a < 285 + 1 → 0 < a → mvOkT a = true := lt_s mb_284 (fun _ => mt_285)
theorem mb_286 : ∀ a, a < 286 + 1 → 0 < a → mvOkT a = true := lt_s mb_285 (fun _ => mt_286)
theorem mb_287 : ∀ a, a < 287 + 1 → 0 < a → mvOkT a = true := lt_s mb_286 (fun _ => mt_287)
theorem mb_288 : ∀ a, a < 288 + 1 → 0 < a → mvOkT a = true := lt_s mb_287 (fun _ => mt_288)
theorem mb_289 : ∀ a, a < 289 + 1 → 0 < a → mvOkT a = true := lt_s mb_288 (fun _ => mt_289)
theorem mb_290 : ∀ a, a < 290 + 1 → 0 < a → mvOkT a = true := lt_s mb_289 (fun _ => mt_290)
theorem mb_291 : ∀ a, a < 291 + 1 → 0 < a → mvOkT a = true := lt_s mb_290 (fun _ => mt_291)
theorem mb_292 : ∀ a, a < 292 + 1 → 0 < a → mvOkT a = true := lt_s mb_291 (fun _ => mt_292)
theorem mb_293 : ∀ a, a < 293 + 1 → 0 < a → mvOkT a = true := lt_s mb_292 (fun _ => mt_293)
theorem mb_294 : ∀ a, a < 294 + 1 → 0 < a → mvOkT a = true := lt_s mb_293 (fun _ => mt_294)
theorem mb_295 : ∀ a, a < 295 + 1 → 0 < a → mvOkT a = true := lt_s mb_294 (fun _ => mt_295)
theorem mb_296 : ∀ a, a < 296 + 1 → 0 < a → mvOkT a = true := lt_s mb_295 (fun _ => mt_296)
theorem mb_297 : ∀ a, a < 297 + 1 → 0 < a → mvOkT a = true := lt_s mb_296 (fun _ => mt_297)
theorem mb_298 : ∀ a, a < 298 + 1 → 0 < a → mvOkT a = true := lt_s mb_297 (fun _ => mt_298)
theorem mb_299 : ∀ a, a < 299 + 1 → 0 < a → mvOkT a = true := lt_s mb_298 (fun _ => mt_299)
theorem mb_300 : ∀ a, a < 300 + 1 → 0 < a → mvOkT a = true := lt_s mb_299 (fun _ => mt_300)
theorem mb_301 : ∀ a, a < 301 + 1 → 0 < a → mvOkT a = true := lt_s mb_300 (fun _ => mt_301)
theorem mb_302 : ∀ a, a < 302 + 1 → 0 < a → mvOkT a = true := lt_s mb_301 (fun _ => mt_302)
theorem mb_303 : ∀ a, a < 303 + 1 → 0 < a → mvOkT a = true := lt_s mb_302 (fun _ => mt_303)
theorem mb_304 : ∀ a, a < 304 + 1 → 0 < a → mvOkT a = true := lt_s mb_303 (fun _ => mt_304)
theorem mb_305 : ∀ a, a < 305 + 1 → 0 < a → mvOkT a = true := lt_s mb_304 (fun _ => mt_305)
theorem mb_306 : ∀ a, a < 306 + 1 → 0 < a → mvOkT a = true := lt_s mb_305 (fun _ => mt_306)
theorem mb_307 : ∀ a, a < 307 + 1 → 0 < a → mvOkT a = true := lt_s mb_306 (fun _ => mt_307)
theorem mb_308 : ∀ a, a < 308 + 1 → 0 < a → mvOkT a = true := lt_s mb_307 (fun _ => mt_308)
theorem mb_309 : ∀ a, a < 309 + 1 → 0 < a → mvOkT a = true := lt_s mb_308 (fun _ => mt_309)
theorem mb_310 : ∀ a, a < 310 + 1 → 0 < a → mvOkT a = true := lt_s mb_309 (fun _ => mt_310)
theorem mb_311 : ∀ a, a < 311 + 1 → 0 < a → mvOkT a = true := lt_s mb_310 (fun _ => mt_311)
theorem mb_312 : ∀ a, a < 312 + 1 → 0 < a → mvOkT a = true := lt_s mb_311 (fun _ => mt_312)
theorem mb_313 : ∀ a, a < 313 + 1 → 0 < a → mvOkT a = true := lt_s mb_312 (fun _ => mt_313)
theorem mb_314 : ∀ a, a < 314 + 1 → 0 < a → mvOkT a = true := lt_s mb_313 (fun _ => mt_314)
theorem mb_315 : ∀ a, a < 315 + 1 → 0 < a → mvOkT a = true := lt_s mb_314 (fun _ => mt_315)
theorem mb_316 : ∀ a, a < 316 + 1 → 0 < a → mvOkT a = true := lt_s mb_315 (fun _ => mt_316)
theorem mb_317 : ∀ a, a < 317 + 1 → 0 < a → mvOkT a = true := lt_s mb_316 (fun _ => mt_317)
theorem mb_318 : ∀ a, a < 318 + 1 → 0 < a → mvOkT a = true := lt_s mb_317 (fun _ => mt_318)
theorem mb_319 : ∀ a, a < 319 + 1 → 0 < a → mvOkT a = true := lt_s mb_318 (fun _ => mt_319)
theorem mb_320 : ∀ a, a < 320 + 1 → 0 < a → mvOkT a = true := lt_s mb_319 (fun _ => mt_320)
theorem mb_321 : ∀ a, a < 321 + 1 → 0 < a → mvOkT a = true := lt_s mb_320 (fun _ => mt_321)
theorem mb_322 : ∀ a, a < 322 + 1 → 0 < a → mvOkT a = true := lt_s mb_321 (fun _ => mt_322)
theorem mv_ok : ∀ k, k < mvN → ∀ p, mvOk k p = true := ma_322
theorem mv_okT : ∀ k, k < mvN → 0 < k → mvOkT k = true := mb_322

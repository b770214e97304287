theorem chX11_init_0 : (cX11_init.data.toList.drop 0).take 16 = [42, 183, 0, 1, 42, 17, 9, 96, 188, 8, 181, 0, 7, 42, 7, 188] := by decide +kernel
theorem chX11_init_1 : (cX11_init.data.toList.drop 16).take 16 = [10, 181, 0, 13, 42, 7, 188, 10, 181, 0, 17, 42, 7, 188, 10, 181] := by decide +kernel
theorem chX11_init_2 : (cX11_init.data.toList.drop 32).take 16 = [0, 20, 42, 16, 16, 188, 10, 181, 0, 23, 42, 17, 2, 224, 188, 10] := by decide +kernel
theorem chX11_init_3 : (cX11_init.data.toList.drop 48).take 16 = [181, 0, 26, 42, 16, 24, 188, 10, 181, 0, 29, 42, 17, 5, 8, 188] := by decide +kernel
theorem chX11_init_4 : (cX11_init.data.toList.drop 64).take 16 = [10, 181, 0, 32, 42, 17, 1, 120, 188, 10, 181, 0, 35, 42, 17, 0] := by decide +kernel
theorem chX11_init_5 : (cX11_init.data.toList.drop 80).take 16 = [161, 188, 10, 181, 0, 38, 42, 7, 188, 10, 181, 0, 41, 42, 16, 30] := by decide +kernel
theorem chX11_init_6 : (cX11_init.data.toList.drop 96).take 16 = [188, 10, 181, 0, 44, 42, 16, 20, 188, 10, 181, 0, 47, 42, 16, 120] := by decide +kernel
theorem chX11_init_7 : (cX11_init.data.toList.drop 112).take 16 = [188, 10, 181, 0, 50, 42, 16, 120, 188, 10, 181, 0, 53, 42, 7, 188] := by decide +kernel
theorem chX11_init_8 : (cX11_init.data.toList.drop 128).take 16 = [10, 181, 0, 56, 42, 7, 188, 10, 181, 0, 59, 42, 7, 188, 10, 181] := by decide +kernel
theorem chX11_init_9 : (cX11_init.data.toList.drop 144).take 16 = [0, 62, 42, 7, 188, 10, 181, 0, 65, 42, 7, 188, 10, 181, 0, 68] := by decide +kernel
theorem chX11_init_10 : (cX11_init.data.toList.drop 160).take 16 = [42, 7, 188, 10, 181, 0, 71, 42, 16, 6, 188, 10, 181, 0, 74, 42] := by decide +kernel
theorem chX11_init_11 : (cX11_init.data.toList.drop 176).take 16 = [16, 30, 188, 10, 181, 0, 77, 42, 16, 109, 188, 10, 181, 0, 80, 42] := by decide +kernel
theorem chX11_init_12 : (cX11_init.data.toList.drop 192).take 16 = [16, 109, 188, 10, 181, 0, 83, 42, 6, 188, 4, 181, 0, 86, 42, 180] := by decide +kernel
theorem chX11_init_13 : (cX11_init.data.toList.drop 208).take 16 = [0, 20, 3, 2, 79, 177] := by decide +kernel
theorem dX11_init_0 : decode cX11_init 0 = .ok (.aload_n 0, 1) := oq_42 (byt chX11_init_0 0 rfl)
theorem dX11_init_1 : decode cX11_init 1 = .ok (.invokespecial 1, 3) := oq_183 (byt chX11_init_0 1 rfl) (byt chX11_init_0 2 rfl) (byt chX11_init_0 3 rfl) rfl
theorem dX11_init_4 : decode cX11_init 4 = .ok (.aload_n 0, 1) := oq_42 (byt chX11_init_0 4 rfl)
theorem dX11_init_5 : decode cX11_init 5 = .ok (.sipush 2400, 3) := oq_17 (byt chX11_init_0 5 rfl) (byt chX11_init_0 6 rfl) (byt chX11_init_0 7 rfl) (by decide +kernel)
theorem dX11_init_8 : decode cX11_init 8 = .ok (.newarray .byte, 2) := by decide +kernel
theorem dX11_init_10 : decode cX11_init 10 = .ok (.putfield 7, 3) := oq_181 (byt chX11_init_0 10 rfl) (byt chX11_init_0 11 rfl) (byt chX11_init_0 12 rfl) rfl
theorem dX11_init_13 : decode cX11_init 13 = .ok (.aload_n 0, 1) := oq_42 (byt chX11_init_0 13 rfl)
theorem dX11_init_14 : decode cX11_init 14 = .ok (.iconst 4, 1) := oq_7 (byt chX11_init_0 14 rfl)
theorem dX11_init_15 : decode cX11_init 15 = .ok (.newarray .int, 2) := by decide +kernel
theorem dX11_init_17 : decode cX11_init 17 = .ok (.putfield 13, 3) := oq_181 (byt chX11_init_1 1 rfl) (byt chX11_init_1 2 rfl) (byt chX11_init_1 3 rfl) rfl
theorem dX11_init_20 : decode cX11_init 20 = .ok (.aload_n 0, 1) := oq_42 (byt chX11_init_1 4 rfl)
theorem dX11_init_21 : decode cX11_init 21 = .ok (.iconst 4, 1) := oq_7 (byt chX11_init_1 5 rfl)
theorem dX11_init_22 : decode cX11_init 22 = .ok (.newarray .int, 2) := by decide +kernel
theorem dX11_init_24 : decode cX11_init 24 = .ok (.putfield 17, 3) := oq_181 (byt chX11_init_1 8 rfl) (byt chX11_init_1 9 rfl) (byt chX11_init_1 10 rfl) rfl
theorem dX11_init_27 : decode cX11_init 27 = .ok (.aload_n 0, 1) := oq_42 (byt chX11_init_1 11 rfl)
theorem dX11_init_28 : decode cX11_init 28 = .ok (.iconst 4, 1) := oq_7 (byt chX11_init_1 12 rfl)
theorem dX11_init_29 : decode cX11_init 29 = .ok (.newarray .int, 2) := by decide +kernel
theorem dX11_init_31 : decode cX11_init 31 = .ok (.putfield 20, 3) := oq_181 (byt chX11_init_1 15 rfl) (byt chX11_init_2 0 rfl) (byt chX11_init_2 1 rfl) rfl
theorem dX11_init_34 : decode cX11_init 34 = .ok (.aload_n 0, 1) := oq_42 (byt chX11_init_2 2 rfl)
theorem dX11_init_35 : decode cX11_init 35 = .ok (.bipush 16, 2) := oq_16 (byt chX11_init_2 3 rfl) (byt chX11_init_2 4 rfl) rfl
theorem dX11_init_37 : decode cX11_init 37 = .ok (.newarray .int, 2) := by decide +kernel
theorem dX11_init_39 : decode cX11_init 39 = .ok (.putfield 23, 3) := oq_181 (byt chX11_init_2 7 rfl) (byt chX11_init_2 8 rfl) (byt chX11_init_2 9 rfl) rfl
theorem dX11_init_42 : decode cX11_init 42 = .ok (.aload_n 0, 1) := oq_42 (byt chX11_init_2 10 rfl)
theorem dX11_init_43 : decode cX11_init 43 = .ok (.sipush 736, 3) := oq_17 (byt chX11_init_2 11 rfl) (byt chX11_init_2 12 rfl) (byt chX11_init_2 13 rfl) (by decide +kernel)
theorem dX11_init_46 : decode cX11_init 46 = .ok (.newarray .int, 2) := by decide +kernel
theorem dX11_init_48 : decode cX11_init 48 = .ok (.putfield 26, 3) := oq_181 (byt chX11_init_3 0 rfl) (byt chX11_init_3 1 rfl) (byt chX11_init_3 2 rfl) rfl
theorem dX11_init_51 : decode cX11_init 51 = .ok (.aload_n 0, 1) := oq_42 (byt chX11_init_3 3 rfl)
theorem dX11_init_52 : decode cX11_init 52 = .ok (.bipush 24, 2) := oq_16 (byt chX11_init_3 4 rfl) (byt chX11_init_3 5 rfl) rfl
theorem dX11_init_54 : decode cX11_init 54 = .ok (.newarray .int, 2) := by decide +kernel
theorem dX11_init_56 : decode cX11_init 56 = .ok (.putfield 29, 3) := oq_181 (byt chX11_init_3 8 rfl) (byt chX11_init_3 9 rfl) (byt chX11_init_3 10 rfl) rfl
theorem dX11_init_59 : decode cX11_init 59 = .ok (.aload_n 0, 1) := oq_42 (byt chX11_init_3 11 rfl)
theorem dX11_init_60 : decode cX11_init 60 = .ok (.sipush 1288, 3) := oq_17 (byt chX11_init_3 12 rfl) (byt chX11_init_3 13 rfl) (byt chX11_init_3 14 rfl) (by decide +kernel)
theorem dX11_init_63 : decode cX11_init 63 = .ok (.newarray .int, 2) := by decide +kernel
theorem dX11_init_65 : decode cX11_init 65 = .ok (.putfield 32, 3) := oq_181 (byt chX11_init_4 1 rfl) (byt chX11_init_4 2 rfl) (byt chX11_init_4 3 rfl) rfl
theorem dX11_init_68 : decode cX11_init 68 = .ok (.aload_n 0, 1) := oq_42 (byt chX11_init_4 4 rfl)
theorem dX11_init_69 : decode cX11_init 69 = .ok (.sipush 376, 3) := oq_17 (byt chX11_init_4 5 rfl) (byt chX11_init_4 6 rfl) (byt chX11_init_4 7 rfl) (by decide +kernel)
theorem dX11_init_72 : decode cX11_init 72 = .ok (.newarray .int, 2) := by decide +kernel
theorem dX11_init_74 : decode cX11_init 74 = .ok (.putfield 35, 3) := oq_181 (byt chX11_init_4 10 rfl) (byt chX11_init_4 11 rfl) (byt chX11_init_4 12 rfl) rfl
theorem dX11_init_77 : decode cX11_init 77 = .ok (.aload_n 0, 1) := oq_42 (byt chX11_init_4 13 rfl)
theorem dX11_init_78 : decode cX11_init 78 = .ok (.sipush 161, 3) := oq_17 (byt chX11_init_4 14 rfl) (byt chX11_init_4 15 rfl) (byt chX11_init_5 0 rfl) (by decide +kernel)
theorem dX11_init_81 : decode cX11_init 81 = .ok (.newarray .int, 2) := by decide +kernel
theorem dX11_init_83 : decode cX11_init 83 = .ok (.putfield 38, 3) := oq_181 (byt chX11_init_5 3 rfl) (byt chX11_init_5 4 rfl) (byt chX11_init_5 5 rfl) rfl
theorem dX11_init_86 : decode cX11_init 86 = .ok (.aload_n 0, 1) := oq_42 (byt chX11_init_5 6 rfl)
theorem dX11_init_87 : decode cX11_init 87 = .ok (.iconst 4, 1) := oq_7 (byt chX11_init_5 7 rfl)
theorem dX11_init_88 : decode cX11_init 88 = .ok (.newarray .int, 2) := by decide +kernel
theorem dX11_init_90 : decode cX11_init 90 = .ok (.putfield 41, 3) := oq_181 (byt chX11_init_5 10 rfl) (byt chX11_init_5 11 rfl) (byt chX11_init_5 12 rfl) rfl
theorem dX11_init_93 : decode cX11_init 93 = .ok (.aload_n 0, 1) := oq_42 (byt chX11_init_5 13 rfl)
theorem dX11_init_94 : decode cX11_init 94 = .ok (.bipush 30, 2) := oq_16 (byt chX11_init_5 14 rfl) (byt chX11_init_5 15 rfl) rfl
theorem dX11_init_96 : decode cX11_init 96 = .ok (.newarray .int, 2) := by decide +kernel
theorem dX11_init_98 : decode cX11_init 98 = .ok (.putfield 44, 3) := oq_181 (byt chX11_init_6 2 rfl) (byt chX11_init_6 3 rfl) (byt chX11_init_6 4 rfl) rfl
theorem dX11_init_101 : decode cX11_init 101 = .ok (.aload_n 0, 1) := oq_42 (byt chX11_init_6 5 rfl)
theorem dX11_init_102 : decode cX11_init 102 = .ok (.bipush 20, 2) := oq_16 (byt chX11_init_6 6 rfl) (byt chX11_init_6 7 rfl) rfl
theorem dX11_init_104 : decode cX11_init 104 = .ok (.newarray .int, 2) := by decide +kernel
theorem dX11_init_106 : decode cX11_init 106 = .ok (.putfield 47, 3) := oq_181 (byt chX11_init_6 10 rfl) (byt chX11_init_6 11 rfl) (byt chX11_init_6 12 rfl) rfl
theorem dX11_init_109 : decode cX11_init 109 = .ok (.aload_n 0, 1) := oq_42 (byt chX11_init_6 13 rfl)
theorem dX11_init_110 : decode cX11_init 110 = .ok (.bipush 120, 2) := oq_16 (byt chX11_init_6 14 rfl) (byt chX11_init_6 15 rfl) rfl
theorem dX11_init_112 : decode cX11_init 112 = .ok (.newarray .int, 2) := by decide +kernel
theorem dX11_init_114 : decode cX11_init 114 = .ok (.putfield 50, 3) := oq_181 (byt chX11_init_7 2 rfl) (byt chX11_init_7 3 rfl) (byt chX11_init_7 4 rfl) rfl
theorem dX11_init_117 : decode cX11_init 117 = .ok (.aload_n 0, 1) := oq_42 (byt chX11_init_7 5 rfl)
theorem dX11_init_118 : decode cX11_init 118 = .ok (.bipush 120, 2) := oq_16 (byt chX11_init_7 6 rfl) (byt chX11_init_7 7 rfl) rfl
theorem dX11_init_120 : decode cX11_init 120 = .ok (.newarray .int, 2) := by decide +kernel
theorem dX11_init_122 : decode cX11_init 122 = .ok (.putfield 53, 3) := oq_181 (byt chX11_init_7 10 rfl) (byt chX11_init_7 11 rfl) (byt chX11_init_7 12 rfl) rfl
theorem dX11_init_125 : decode cX11_init 125 = .ok (.aload_n 0, 1) := oq_42 (byt chX11_init_7 13 rfl)
theorem dX11_init_126 : decode cX11_init 126 = .ok (.iconst 4, 1) := oq_7 (byt chX11_init_7 14 rfl)
theorem dX11_init_127 : decode cX11_init 127 = .ok (.newarray .int, 2) := by decide +kernel
theorem dX11_init_129 : decode cX11_init 129 = .ok (.putfield 56, 3) := oq_181 (byt chX11_init_8 1 rfl) (byt chX11_init_8 2 rfl) (byt chX11_init_8 3 rfl) rfl
theorem dX11_init_132 : decode cX11_init 132 = .ok (.aload_n 0, 1) := oq_42 (byt chX11_init_8 4 rfl)
theorem dX11_init_133 : decode cX11_init 133 = .ok (.iconst 4, 1) := oq_7 (byt chX11_init_8 5 rfl)
theorem dX11_init_134 : decode cX11_init 134 = .ok (.newarray .int, 2) := by decide +kernel
theorem dX11_init_136 : decode cX11_init 136 = .ok (.putfield 59, 3) := oq_181 (byt chX11_init_8 8 rfl) (byt chX11_init_8 9 rfl) (byt chX11_init_8 10 rfl) rfl
theorem dX11_init_139 : decode cX11_init 139 = .ok (.aload_n 0, 1) := oq_42 (byt chX11_init_8 11 rfl)
theorem dX11_init_140 : decode cX11_init 140 = .ok (.iconst 4, 1) := oq_7 (byt chX11_init_8 12 rfl)
theorem dX11_init_141 : decode cX11_init 141 = .ok (.newarray .int, 2) := by decide +kernel
theorem dX11_init_143 : decode cX11_init 143 = .ok (.putfield 62, 3) := oq_181 (byt chX11_init_8 15 rfl) (byt chX11_init_9 0 rfl) (byt chX11_init_9 1 rfl) rfl
theorem dX11_init_146 : decode cX11_init 146 = .ok (.aload_n 0, 1) := oq_42 (byt chX11_init_9 2 rfl)
theorem dX11_init_147 : decode cX11_init 147 = .ok (.iconst 4, 1) := oq_7 (byt chX11_init_9 3 rfl)
theorem dX11_init_148 : decode cX11_init 148 = .ok (.newarray .int, 2) := by decide +kernel
theorem dX11_init_150 : decode cX11_init 150 = .ok (.putfield 65, 3) := oq_181 (byt chX11_init_9 6 rfl) (byt chX11_init_9 7 rfl) (byt chX11_init_9 8 rfl) rfl
theorem dX11_init_153 : decode cX11_init 153 = .ok (.aload_n 0, 1) := oq_42 (byt chX11_init_9 9 rfl)
theorem dX11_init_154 : decode cX11_init 154 = .ok (.iconst 4, 1) := oq_7 (byt chX11_init_9 10 rfl)
theorem dX11_init_155 : decode cX11_init 155 = .ok (.newarray .int, 2) := by decide +kernel
theorem dX11_init_157 : decode cX11_init 157 = .ok (.putfield 68, 3) := oq_181 (byt chX11_init_9 13 rfl) (byt chX11_init_9 14 rfl) (byt chX11_init_9 15 rfl) rfl
theorem dX11_init_160 : decode cX11_init 160 = .ok (.aload_n 0, 1) := oq_42 (byt chX11_init_10 0 rfl)
theorem dX11_init_161 : decode cX11_init 161 = .ok (.iconst 4, 1) := oq_7 (byt chX11_init_10 1 rfl)
theorem dX11_init_162 : decode cX11_init 162 = .ok (.newarray .int, 2) := by decide +kernel
theorem dX11_init_164 : decode cX11_init 164 = .ok (.putfield 71, 3) := oq_181 (byt chX11_init_10 4 rfl) (byt chX11_init_10 5 rfl) (byt chX11_init_10 6 rfl) rfl
theorem dX11_init_167 : decode cX11_init 167 = .ok (.aload_n 0, 1) := oq_42 (byt chX11_init_10 7 rfl)
theorem dX11_init_168 : decode cX11_init 168 = .ok (.bipush 6, 2) := oq_16 (byt chX11_init_10 8 rfl) (byt chX11_init_10 9 rfl) rfl
theorem dX11_init_170 : decode cX11_init 170 = .ok (.newarray .int, 2) := by decide +kernel
theorem dX11_init_172 : decode cX11_init 172 = .ok (.putfield 74, 3) := oq_181 (byt chX11_init_10 12 rfl) (byt chX11_init_10 13 rfl) (byt chX11_init_10 14 rfl) rfl
theorem dX11_init_175 : decode cX11_init 175 = .ok (.aload_n 0, 1) := oq_42 (byt chX11_init_10 15 rfl)
theorem dX11_init_176 : decode cX11_init 176 = .ok (.bipush 30, 2) := oq_16 (byt chX11_init_11 0 rfl) (byt chX11_init_11 1 rfl) rfl
theorem dX11_init_178 : decode cX11_init 178 = .ok (.newarray .int, 2) := by decide +kernel
theorem dX11_init_180 : decode cX11_init 180 = .ok (.putfield 77, 3) := oq_181 (byt chX11_init_11 4 rfl) (byt chX11_init_11 5 rfl) (byt chX11_init_11 6 rfl) rfl
theorem dX11_init_183 : decode cX11_init 183 = .ok (.aload_n 0, 1) := oq_42 (byt chX11_init_11 7 rfl)
theorem dX11_init_184 : decode cX11_init 184 = .ok (.bipush 109, 2) := oq_16 (byt chX11_init_11 8 rfl) (byt chX11_init_11 9 rfl) rfl
theorem dX11_init_186 : decode cX11_init 186 = .ok (.newarray .int, 2) := by decide +kernel
theorem dX11_init_188 : decode cX11_init 188 = .ok (.putfield 80, 3) := oq_181 (byt chX11_init_11 12 rfl) (byt chX11_init_11 13 rfl) (byt chX11_init_11 14 rfl) rfl
theorem dX11_init_191 : decode cX11_init 191 = .ok (.aload_n 0, 1) := oq_42 (byt chX11_init_11 15 rfl)
theorem dX11_init_192 : decode cX11_init 192 = .ok (.bipush 109, 2) := oq_16 (byt chX11_init_12 0 rfl) (byt chX11_init_12 1 rfl) rfl
theorem dX11_init_194 : decode cX11_init 194 = .ok (.newarray .int, 2) := by decide +kernel
theorem dX11_init_196 : decode cX11_init 196 = .ok (.putfield 83, 3) := oq_181 (byt chX11_init_12 4 rfl) (byt chX11_init_12 5 rfl) (byt chX11_init_12 6 rfl) rfl
theorem dX11_init_199 : decode cX11_init 199 = .ok (.aload_n 0, 1) := oq_42 (byt chX11_init_12 7 rfl)
theorem dX11_init_200 : decode cX11_init 200 = .ok (.iconst 3, 1) := oq_6 (byt chX11_init_12 8 rfl)
theorem dX11_init_201 : decode cX11_init 201 = .ok (.newarray .boolean, 2) := by decide +kernel
theorem dX11_init_203 : decode cX11_init 203 = .ok (.putfield 86, 3) := oq_181 (byt chX11_init_12 11 rfl) (byt chX11_init_12 12 rfl) (byt chX11_init_12 13 rfl) rfl
theorem dX11_init_206 : decode cX11_init 206 = .ok (.aload_n 0, 1) := oq_42 (byt chX11_init_12 14 rfl)
theorem dX11_init_207 : decode cX11_init 207 = .ok (.getfield 20, 3) := oq_180 (byt chX11_init_12 15 rfl) (byt chX11_init_13 0 rfl) (byt chX11_init_13 1 rfl) rfl
theorem dX11_init_210 : decode cX11_init 210 = .ok (.iconst 0, 1) := oq_3 (byt chX11_init_13 2 rfl)
theorem dX11_init_211 : decode cX11_init 211 = .ok (.iconst (-1), 1) := oq_2 (byt chX11_init_13 3 rfl)
theorem dX11_init_212 : decode cX11_init 212 = .ok (.iastore, 1) := oq_79 (byt chX11_init_13 4 rfl)
theorem dX11_init_213 : decode cX11_init 213 = .ok (.return_, 1) := oq_177 (byt chX11_init_13 5 rfl)
abbrev mX11_init : MI := (yX11_init, cX11_init, 1, none, noE)
theorem okX11_init : cok mX11_init 0 := ⟨tw1191, tw11, by decide, by decide, by decide, by decide +kernel⟩
def fX11_init (M : Mem) (a0 : Int) : Option Mem :=
  if (0 : Int) ≤ a0 then bM (mnew M 11 2400) fun M2 => if M2.2.1 a0 = 10 then if (-1 : Int) ≤ (M.2.2.2 : Int) then bM (mst M2 a0 1 (M.2.2.2 : Int)) fun M6 => bM (mnew M6 12 4) fun M8 => if M8.2.1 a0 = 10 then if (-1 : Int) ≤ (M6.2.2.2 : Int) then bM (mst M8 a0 2 (M6.2.2.2 : Int)) fun M12 => bM (mnew M12 12 4) fun M14 => if M14.2.1 a0 = 10 then if (-1 : Int) ≤ (M12.2.2.2 : Int) then bM (mst M14 a0 3 (M12.2.2.2 : Int)) fun M18 => bM (mnew M18 12 4) fun M20 => if M20.2.1 a0 = 10 then if (-1 : Int) ≤ (M18.2.2.2 : Int) then bM (mst M20 a0 4 (M18.2.2.2 : Int)) fun M24 => bM (mnew M24 12 16) fun M26 => if M26.2.1 a0 = 10 then if (-1 : Int) ≤ (M24.2.2.2 : Int) then bM (mst M26 a0 5 (M24.2.2.2 : Int)) fun M30 => bM (mnew M30 12 736) fun M32 => if M32.2.1 a0 = 10 then if (-1 : Int) ≤ (M30.2.2.2 : Int) then bM (mst M32 a0 6 (M30.2.2.2 : Int)) fun M36 => bM (mnew M36 12 24) fun M38 => if M38.2.1 a0 = 10 then if (-1 : Int) ≤ (M36.2.2.2 : Int) then bM (mst M38 a0 7 (M36.2.2.2 : Int)) fun M42 => bM (mnew M42 12 1288) fun M44 => if M44.2.1 a0 = 10 then if (-1 : Int) ≤ (M42.2.2.2 : Int) then bM (mst M44 a0 8 (M42.2.2.2 : Int)) fun M48 => bM (mnew M48 12 376) fun M50 => if M50.2.1 a0 = 10 then if (-1 : Int) ≤ (M48.2.2.2 : Int) then bM (mst M50 a0 9 (M48.2.2.2 : Int)) fun M54 => bM (mnew M54 12 161) fun M56 => if M56.2.1 a0 = 10 then if (-1 : Int) ≤ (M54.2.2.2 : Int) then bM (mst M56 a0 19 (M54.2.2.2 : Int)) fun M60 => bM (mnew M60 12 4) fun M62 => if M62.2.1 a0 = 10 then if (-1 : Int) ≤ (M60.2.2.2 : Int) then bM (mst M62 a0 20 (M60.2.2.2 : Int)) fun M66 => bM (mnew M66 12 30) fun M68 => if M68.2.1 a0 = 10 then if (-1 : Int) ≤ (M66.2.2.2 : Int) then bM (mst M68 a0 29 (M66.2.2.2 : Int)) fun M72 => bM (mnew M72 12 20) fun M74 => if M74.2.1 a0 = 10 then if (-1 : Int) ≤ (M72.2.2.2 : Int) then bM (mst M74 a0 30 (M72.2.2.2 : Int)) fun M78 => bM (mnew M78 12 120) fun M80 => if M80.2.1 a0 = 10 then if (-1 : Int) ≤ (M78.2.2.2 : Int) then bM (mst M80 a0 31 (M78.2.2.2 : Int)) fun M84 => bM (mnew M84 12 120) fun M86 => if M86.2.1 a0 = 10 then if (-1 : Int) ≤ (M84.2.2.2 : Int) then bM (mst M86 a0 32 (M84.2.2.2 : Int)) fun M90 => bM (mnew M90 12 4) fun M92 => if M92.2.1 a0 = 10 then if (-1 : Int) ≤ (M90.2.2.2 : Int) then bM (mst M92 a0 33 (M90.2.2.2 : Int)) fun M96 => bM (mnew M96 12 4) fun M98 => if M98.2.1 a0 = 10 then if (-1 : Int) ≤ (M96.2.2.2 : Int) then bM (mst M98 a0 34 (M96.2.2.2 : Int)) fun M102 => bM (mnew M102 12 4) fun M104 => if M104.2.1 a0 = 10 then if (-1 : Int) ≤ (M102.2.2.2 : Int) then bM (mst M104 a0 35 (M102.2.2.2 : Int)) fun M108 => bM (mnew M108 12 4) fun M110 => if M110.2.1 a0 = 10 then if (-1 : Int) ≤ (M108.2.2.2 : Int) then bM (mst M110 a0 36 (M108.2.2.2 : Int)) fun M114 => bM (mnew M114 12 4) fun M116 => if M116.2.1 a0 = 10 then if (-1 : Int) ≤ (M114.2.2.2 : Int) then bM (mst M116 a0 37 (M114.2.2.2 : Int)) fun M120 => bM (mnew M120 12 4) fun M122 => if M122.2.1 a0 = 10 then if (-1 : Int) ≤ (M120.2.2.2 : Int) then bM (mst M122 a0 38 (M120.2.2.2 : Int)) fun M126 => bM (mnew M126 12 6) fun M128 => if M128.2.1 a0 = 10 then if (-1 : Int) ≤ (M126.2.2.2 : Int) then bM (mst M128 a0 39 (M126.2.2.2 : Int)) fun M132 => bM (mnew M132 12 30) fun M134 => if M134.2.1 a0 = 10 then if (-1 : Int) ≤ (M132.2.2.2 : Int) then bM (mst M134 a0 43 (M132.2.2.2 : Int)) fun M138 => bM (mnew M138 12 109) fun M140 => if M140.2.1 a0 = 10 then if (-1 : Int) ≤ (M138.2.2.2 : Int) then bM (mst M140 a0 46 (M138.2.2.2 : Int)) fun M144 => bM (mnew M144 12 109) fun M146 => if M146.2.1 a0 = 10 then if (-1 : Int) ≤ (M144.2.2.2 : Int) then bM (mst M146 a0 47 (M144.2.2.2 : Int)) fun M150 => bM (mnew M150 13 3) fun M152 => if M152.2.1 a0 = 10 then if (-1 : Int) ≤ (M150.2.2.2 : Int) then bM (mst M152 a0 50 (M150.2.2.2 : Int)) fun M156 => if M156.2.1 (M156.1 a0 4) = 12 ∧ (0 : Int) ≤ 0 ∧ 0 < M156.2.2.1 (M156.1 a0 4) then bM (mst M156 (M156.1 a0 4) 0 (-1)) fun M159 => some M159 else none else none else none else none else none else none else none else none else none else none else none else none else none else none else none else none else none else none else none else none else none else none else none else none else none else none else none else none else none else none else none else none else none else none else none else none else none else none else none else none else none else none else none else none else none else none else none else none else none else none else none else none else none else none
set_option maxRecDepth 100000 in
set_option maxHeartbeats 4000000 in
theorem kX11_init (d : Nat) (hd : 1 ≤ d) (M : Mem) (a0 : Int) : Ct mX11_init d 26 5588 [pA a0] M dV (fX11_init M a0) := by
  obtain ⟨d, rfl⟩ : ∃ k, d = k + 1 := ⟨d - 1, by omega⟩
  refine Ct.of 0 (fun _ _ _ => trivial) (by decide +kernel) rfl ?_
  unfold fX11_init
  refine v_aload_n dX11_init_0 rfl ?_
  refine v_if (fun h1 => ?_)
  refine v_objInit (mi := mX11_init) h1 tw1192 tw26 tw27 (Nat.le_of_ble_eq_true rfl) dX11_init_1 ?_
  refine v_aload_n dX11_init_4 rfl ?_
  refine v_sipush dX11_init_5 (by decide) ?_
  refine v_newarray (t := .byte) (n := 2400) 11 (by decide) (by decide) tw120 dX11_init_8 ?_
  refine v_bM (fun M2 e3 => ?_)
  refine v_if (fun h4 => ?_)
  refine v_if (fun h5 => ?_)
  refine v_put (x := (M.2.2.2 : Int)) 10 1 rfl inX11 (by decide) tw1194 (Or.inr ⟨rfl, rfl, rfl⟩) rfl dX11_init_10 h4 rfl (fun _ => h5) ?_
  refine v_bM (fun M6 e7 => ?_)
  refine v_aload_n dX11_init_13 rfl ?_
  refine v_iconst dX11_init_14 (by decide) ?_
  refine v_newarray (t := .int) (n := 4) 12 (by decide) (by decide) tw121 dX11_init_15 ?_
  refine v_bM (fun M8 e9 => ?_)
  refine v_if (fun h10 => ?_)
  refine v_if (fun h11 => ?_)
  refine v_put (x := (M6.2.2.2 : Int)) 10 2 rfl inX11 (by decide) tw1195 (Or.inr ⟨rfl, rfl, rfl⟩) rfl dX11_init_17 h10 rfl (fun _ => h11) ?_
  refine v_bM (fun M12 e13 => ?_)
  refine v_aload_n dX11_init_20 rfl ?_
  refine v_iconst dX11_init_21 (by decide) ?_
  refine v_newarray (t := .int) (n := 4) 12 (by decide) (by decide) tw121 dX11_init_22 ?_
  refine v_bM (fun M14 e15 => ?_)
  refine v_if (fun h16 => ?_)
  refine v_if (fun h17 => ?_)
  refine v_put (x := (M12.2.2.2 : Int)) 10 3 rfl inX11 (by decide) tw1196 (Or.inr ⟨rfl, rfl, rfl⟩) rfl dX11_init_24 h16 rfl (fun _ => h17) ?_
  refine v_bM (fun M18 e19 => ?_)
  refine v_aload_n dX11_init_27 rfl ?_
  refine v_iconst dX11_init_28 (by decide) ?_
  refine v_newarray (t := .int) (n := 4) 12 (by decide) (by decide) tw121 dX11_init_29 ?_
  refine v_bM (fun M20 e21 => ?_)
  refine v_if (fun h22 => ?_)
  refine v_if (fun h23 => ?_)
  refine v_put (x := (M18.2.2.2 : Int)) 10 4 rfl inX11 (by decide) tw1197 (Or.inr ⟨rfl, rfl, rfl⟩) rfl dX11_init_31 h22 rfl (fun _ => h23) ?_
  refine v_bM (fun M24 e25 => ?_)
  refine v_aload_n dX11_init_34 rfl ?_
  refine v_bipush dX11_init_35 (by decide) ?_
  refine v_newarray (t := .int) (n := 16) 12 (by decide) (by decide) tw121 dX11_init_37 ?_
  refine v_bM (fun M26 e27 => ?_)
  refine v_if (fun h28 => ?_)
  refine v_if (fun h29 => ?_)
  refine v_put (x := (M24.2.2.2 : Int)) 10 5 rfl inX11 (by decide) tw1198 (Or.inr ⟨rfl, rfl, rfl⟩) rfl dX11_init_39 h28 rfl (fun _ => h29) ?_
  refine v_bM (fun M30 e31 => ?_)
  refine v_aload_n dX11_init_42 rfl ?_
  refine v_sipush dX11_init_43 (by decide) ?_
  refine v_newarray (t := .int) (n := 736) 12 (by decide) (by decide) tw121 dX11_init_46 ?_
  refine v_bM (fun M32 e33 => ?_)
  refine v_if (fun h34 => ?_)
  refine v_if (fun h35 => ?_)
  refine v_put (x := (M30.2.2.2 : Int)) 10 6 rfl inX11 (by decide) tw1199 (Or.inr ⟨rfl, rfl, rfl⟩) rfl dX11_init_48 h34 rfl (fun _ => h35) ?_
  refine v_bM (fun M36 e37 => ?_)
  refine v_aload_n dX11_init_51 rfl ?_
  refine v_bipush dX11_init_52 (by decide) ?_
  refine v_newarray (t := .int) (n := 24) 12 (by decide) (by decide) tw121 dX11_init_54 ?_
  refine v_bM (fun M38 e39 => ?_)
  refine v_if (fun h40 => ?_)
  refine v_if (fun h41 => ?_)
  refine v_put (x := (M36.2.2.2 : Int)) 10 7 rfl inX11 (by decide) tw1200 (Or.inr ⟨rfl, rfl, rfl⟩) rfl dX11_init_56 h40 rfl (fun _ => h41) ?_
  refine v_bM (fun M42 e43 => ?_)
  refine v_aload_n dX11_init_59 rfl ?_
  refine v_sipush dX11_init_60 (by decide) ?_
  refine v_newarray (t := .int) (n := 1288) 12 (by decide) (by decide) tw121 dX11_init_63 ?_
  refine v_bM (fun M44 e45 => ?_)
  refine v_if (fun h46 => ?_)
  refine v_if (fun h47 => ?_)
  refine v_put (x := (M42.2.2.2 : Int)) 10 8 rfl inX11 (by decide) tw1201 (Or.inr ⟨rfl, rfl, rfl⟩) rfl dX11_init_65 h46 rfl (fun _ => h47) ?_
  refine v_bM (fun M48 e49 => ?_)
  refine v_aload_n dX11_init_68 rfl ?_
  refine v_sipush dX11_init_69 (by decide) ?_
  refine v_newarray (t := .int) (n := 376) 12 (by decide) (by decide) tw121 dX11_init_72 ?_
  refine v_bM (fun M50 e51 => ?_)
  refine v_if (fun h52 => ?_)
  refine v_if (fun h53 => ?_)
  refine v_put (x := (M48.2.2.2 : Int)) 10 9 rfl inX11 (by decide) tw1202 (Or.inr ⟨rfl, rfl, rfl⟩) rfl dX11_init_74 h52 rfl (fun _ => h53) ?_
  refine v_bM (fun M54 e55 => ?_)
  refine v_aload_n dX11_init_77 rfl ?_
  refine v_sipush dX11_init_78 (by decide) ?_
  refine v_newarray (t := .int) (n := 161) 12 (by decide) (by decide) tw121 dX11_init_81 ?_
  refine v_bM (fun M56 e57 => ?_)
  refine v_if (fun h58 => ?_)
  refine v_if (fun h59 => ?_)
  refine v_put (x := (M54.2.2.2 : Int)) 10 19 rfl inX11 (by decide) tw1212 (Or.inr ⟨rfl, rfl, rfl⟩) rfl dX11_init_83 h58 rfl (fun _ => h59) ?_
  refine v_bM (fun M60 e61 => ?_)
  refine v_aload_n dX11_init_86 rfl ?_
  refine v_iconst dX11_init_87 (by decide) ?_
  refine v_newarray (t := .int) (n := 4) 12 (by decide) (by decide) tw121 dX11_init_88 ?_
  refine v_bM (fun M62 e63 => ?_)
  refine v_if (fun h64 => ?_)
  refine v_if (fun h65 => ?_)
  refine v_put (x := (M60.2.2.2 : Int)) 10 20 rfl inX11 (by decide) tw1213 (Or.inr ⟨rfl, rfl, rfl⟩) rfl dX11_init_90 h64 rfl (fun _ => h65) ?_
  refine v_bM (fun M66 e67 => ?_)
  refine v_aload_n dX11_init_93 rfl ?_
  refine v_bipush dX11_init_94 (by decide) ?_
  refine v_newarray (t := .int) (n := 30) 12 (by decide) (by decide) tw121 dX11_init_96 ?_
  refine v_bM (fun M68 e69 => ?_)
  refine v_if (fun h70 => ?_)
  refine v_if (fun h71 => ?_)
  refine v_put (x := (M66.2.2.2 : Int)) 10 29 rfl inX11 (by decide) tw1222 (Or.inr ⟨rfl, rfl, rfl⟩) rfl dX11_init_98 h70 rfl (fun _ => h71) ?_
  refine v_bM (fun M72 e73 => ?_)
  refine v_aload_n dX11_init_101 rfl ?_
  refine v_bipush dX11_init_102 (by decide) ?_
  refine v_newarray (t := .int) (n := 20) 12 (by decide) (by decide) tw121 dX11_init_104 ?_
  refine v_bM (fun M74 e75 => ?_)
  refine v_if (fun h76 => ?_)
  refine v_if (fun h77 => ?_)
  refine v_put (x := (M72.2.2.2 : Int)) 10 30 rfl inX11 (by decide) tw1223 (Or.inr ⟨rfl, rfl, rfl⟩) rfl dX11_init_106 h76 rfl (fun _ => h77) ?_
  refine v_bM (fun M78 e79 => ?_)
  refine v_aload_n dX11_init_109 rfl ?_
  refine v_bipush dX11_init_110 (by decide) ?_
  refine v_newarray (t := .int) (n := 120) 12 (by decide) (by decide) tw121 dX11_init_112 ?_
  refine v_bM (fun M80 e81 => ?_)
  refine v_if (fun h82 => ?_)
  refine v_if (fun h83 => ?_)
  refine v_put (x := (M78.2.2.2 : Int)) 10 31 rfl inX11 (by decide) tw1224 (Or.inr ⟨rfl, rfl, rfl⟩) rfl dX11_init_114 h82 rfl (fun _ => h83) ?_
  refine v_bM (fun M84 e85 => ?_)
  refine v_aload_n dX11_init_117 rfl ?_
  refine v_bipush dX11_init_118 (by decide) ?_
  refine v_newarray (t := .int) (n := 120) 12 (by decide) (by decide) tw121 dX11_init_120 ?_
  refine v_bM (fun M86 e87 => ?_)
  refine v_if (fun h88 => ?_)
  refine v_if (fun h89 => ?_)
  refine v_put (x := (M84.2.2.2 : Int)) 10 32 rfl inX11 (by decide) tw1225 (Or.inr ⟨rfl, rfl, rfl⟩) rfl dX11_init_122 h88 rfl (fun _ => h89) ?_
  refine v_bM (fun M90 e91 => ?_)
  refine v_aload_n dX11_init_125 rfl ?_
  refine v_iconst dX11_init_126 (by decide) ?_
  refine v_newarray (t := .int) (n := 4) 12 (by decide) (by decide) tw121 dX11_init_127 ?_
  refine v_bM (fun M92 e93 => ?_)
  refine v_if (fun h94 => ?_)
  refine v_if (fun h95 => ?_)
  refine v_put (x := (M90.2.2.2 : Int)) 10 33 rfl inX11 (by decide) tw1226 (Or.inr ⟨rfl, rfl, rfl⟩) rfl dX11_init_129 h94 rfl (fun _ => h95) ?_
  refine v_bM (fun M96 e97 => ?_)
  refine v_aload_n dX11_init_132 rfl ?_
  refine v_iconst dX11_init_133 (by decide) ?_
  refine v_newarray (t := .int) (n := 4) 12 (by decide) (by decide) tw121 dX11_init_134 ?_
  refine v_bM (fun M98 e99 => ?_)
  refine v_if (fun h100 => ?_)
  refine v_if (fun h101 => ?_)
  refine v_put (x := (M96.2.2.2 : Int)) 10 34 rfl inX11 (by decide) tw1227 (Or.inr ⟨rfl, rfl, rfl⟩) rfl dX11_init_136 h100 rfl (fun _ => h101) ?_
  refine v_bM (fun M102 e103 => ?_)
  refine v_aload_n dX11_init_139 rfl ?_
  refine v_iconst dX11_init_140 (by decide) ?_
  refine v_newarray (t := .int) (n := 4) 12 (by decide) (by decide) tw121 dX11_init_141 ?_
  refine v_bM (fun M104 e105 => ?_)
  refine v_if (fun h106 => ?_)
  refine v_if (fun h107 => ?_)
  refine v_put (x := (M102.2.2.2 : Int)) 10 35 rfl inX11 (by decide) tw1228 (Or.inr ⟨rfl, rfl, rfl⟩) rfl dX11_init_143 h106 rfl (fun _ => h107) ?_
  refine v_bM (fun M108 e109 => ?_)
  refine v_aload_n dX11_init_146 rfl ?_
  refine v_iconst dX11_init_147 (by decide) ?_
  refine v_newarray (t := .int) (n := 4) 12 (by decide) (by decide) tw121 dX11_init_148 ?_
  refine v_bM (fun M110 e111 => ?_)
  refine v_if (fun h112 => ?_)
  refine v_if (fun h113 => ?_)
  refine v_put (x := (M108.2.2.2 : Int)) 10 36 rfl inX11 (by decide) tw1229 (Or.inr ⟨rfl, rfl, rfl⟩) rfl dX11_init_150 h112 rfl (fun _ => h113) ?_
  refine v_bM (fun M114 e115 => ?_)
  refine v_aload_n dX11_init_153 rfl ?_
  refine v_iconst dX11_init_154 (by decide) ?_
  refine v_newarray (t := .int) (n := 4) 12 (by decide) (by decide) tw121 dX11_init_155 ?_
  refine v_bM (fun M116 e117 => ?_)
  refine v_if (fun h118 => ?_)
  refine v_if (fun h119 => ?_)
  refine v_put (x := (M114.2.2.2 : Int)) 10 37 rfl inX11 (by decide) tw1230 (Or.inr ⟨rfl, rfl, rfl⟩) rfl dX11_init_157 h118 rfl (fun _ => h119) ?_
  refine v_bM (fun M120 e121 => ?_)
  refine v_aload_n dX11_init_160 rfl ?_
  refine v_iconst dX11_init_161 (by decide) ?_
  refine v_newarray (t := .int) (n := 4) 12 (by decide) (by decide) tw121 dX11_init_162 ?_
  refine v_bM (fun M122 e123 => ?_)
  refine v_if (fun h124 => ?_)
  refine v_if (fun h125 => ?_)
  refine v_put (x := (M120.2.2.2 : Int)) 10 38 rfl inX11 (by decide) tw1231 (Or.inr ⟨rfl, rfl, rfl⟩) rfl dX11_init_164 h124 rfl (fun _ => h125) ?_
  refine v_bM (fun M126 e127 => ?_)
  refine v_aload_n dX11_init_167 rfl ?_
  refine v_bipush dX11_init_168 (by decide) ?_
  refine v_newarray (t := .int) (n := 6) 12 (by decide) (by decide) tw121 dX11_init_170 ?_
  refine v_bM (fun M128 e129 => ?_)
  refine v_if (fun h130 => ?_)
  refine v_if (fun h131 => ?_)
  refine v_put (x := (M126.2.2.2 : Int)) 10 39 rfl inX11 (by decide) tw1232 (Or.inr ⟨rfl, rfl, rfl⟩) rfl dX11_init_172 h130 rfl (fun _ => h131) ?_
  refine v_bM (fun M132 e133 => ?_)
  refine v_aload_n dX11_init_175 rfl ?_
  refine v_bipush dX11_init_176 (by decide) ?_
  refine v_newarray (t := .int) (n := 30) 12 (by decide) (by decide) tw121 dX11_init_178 ?_
  refine v_bM (fun M134 e135 => ?_)
  refine v_if (fun h136 => ?_)
  refine v_if (fun h137 => ?_)
  refine v_put (x := (M132.2.2.2 : Int)) 10 43 rfl inX11 (by decide) tw1236 (Or.inr ⟨rfl, rfl, rfl⟩) rfl dX11_init_180 h136 rfl (fun _ => h137) ?_
  refine v_bM (fun M138 e139 => ?_)
  refine v_aload_n dX11_init_183 rfl ?_
  refine v_bipush dX11_init_184 (by decide) ?_
  refine v_newarray (t := .int) (n := 109) 12 (by decide) (by decide) tw121 dX11_init_186 ?_
  refine v_bM (fun M140 e141 => ?_)
  refine v_if (fun h142 => ?_)
  refine v_if (fun h143 => ?_)
  refine v_put (x := (M138.2.2.2 : Int)) 10 46 rfl inX11 (by decide) tw1239 (Or.inr ⟨rfl, rfl, rfl⟩) rfl dX11_init_188 h142 rfl (fun _ => h143) ?_
  refine v_bM (fun M144 e145 => ?_)
  refine v_aload_n dX11_init_191 rfl ?_
  refine v_bipush dX11_init_192 (by decide) ?_
  refine v_newarray (t := .int) (n := 109) 12 (by decide) (by decide) tw121 dX11_init_194 ?_
  refine v_bM (fun M146 e147 => ?_)
  refine v_if (fun h148 => ?_)
  refine v_if (fun h149 => ?_)
  refine v_put (x := (M144.2.2.2 : Int)) 10 47 rfl inX11 (by decide) tw1240 (Or.inr ⟨rfl, rfl, rfl⟩) rfl dX11_init_196 h148 rfl (fun _ => h149) ?_
  refine v_bM (fun M150 e151 => ?_)
  refine v_aload_n dX11_init_199 rfl ?_
  refine v_iconst dX11_init_200 (by decide) ?_
  refine v_newarray (t := .boolean) (n := 3) 13 (by decide) (by decide) tw1347 dX11_init_201 ?_
  refine v_bM (fun M152 e153 => ?_)
  refine v_if (fun h154 => ?_)
  refine v_if (fun h155 => ?_)
  refine v_put (x := (M150.2.2.2 : Int)) 10 50 rfl inX11 (by decide) tw1243 (Or.inr ⟨rfl, rfl, rfl⟩) rfl dX11_init_203 h154 rfl (fun _ => h155) ?_
  refine v_bM (fun M156 e157 => ?_)
  refine v_aload_n dX11_init_206 rfl ?_
  refine v_get (v := pA (M156.1 a0 4)) 10 4 rfl inX11 (by decide) tw1197 dX11_init_207 (by rw [e157]; exact h154) rfl ?_
  refine v_iconst dX11_init_210 (by decide) ?_
  refine v_iconst dX11_init_211 (by decide) ?_
  refine v_if (fun h158 => ?_)
  refine v_iastore h158 dX11_init_212 ?_
  refine v_bM (fun M159 e160 => ?_)
  exact v_return dX11_init_213 rfl rfl
theorem chX11_in_0 : (cX11_in.data.toList.drop 0).take 16 = [26, 27, 161, 0, 12, 26, 28, 163, 0, 7, 4, 167, 0, 4, 3, 172] := by decide +kernel
theorem dX11_in_0 : decode cX11_in 0 = .ok (.iload_n 0, 1) := oq_26 (byt chX11_in_0 0 rfl)
theorem dX11_in_1 : decode cX11_in 1 = .ok (.iload_n 1, 1) := oq_27 (byt chX11_in_0 1 rfl)
theorem dX11_in_2 : decode cX11_in 2 = .ok (.if_icmp .lt 12, 3) := oq_161 (byt chX11_in_0 2 rfl) (byt chX11_in_0 3 rfl) (byt chX11_in_0 4 rfl) (by decide +kernel)
theorem dX11_in_5 : decode cX11_in 5 = .ok (.iload_n 0, 1) := oq_26 (byt chX11_in_0 5 rfl)
theorem dX11_in_6 : decode cX11_in 6 = .ok (.iload_n 2, 1) := oq_28 (byt chX11_in_0 6 rfl)
theorem dX11_in_7 : decode cX11_in 7 = .ok (.if_icmp .gt 7, 3) := oq_163 (byt chX11_in_0 7 rfl) (byt chX11_in_0 8 rfl) (byt chX11_in_0 9 rfl) (by decide +kernel)
theorem dX11_in_10 : decode cX11_in 10 = .ok (.iconst 1, 1) := oq_4 (byt chX11_in_0 10 rfl)
theorem dX11_in_11 : decode cX11_in 11 = .ok (.goto 4, 3) := oq_167 (byt chX11_in_0 11 rfl) (byt chX11_in_0 12 rfl) (byt chX11_in_0 13 rfl) (by decide +kernel)
theorem dX11_in_14 : decode cX11_in 14 = .ok (.iconst 0, 1) := oq_3 (byt chX11_in_0 14 rfl)
theorem dX11_in_15 : decode cX11_in 15 = .ok (.ireturn, 1) := oq_172 (byt chX11_in_0 15 rfl)
abbrev mX11_in : MI := (yX11_in, cX11_in, 3, (some .boolean), noE)
theorem okX11_in : cok mX11_in 3 := ⟨tw1362, tw11, by decide, by decide, by decide, by decide +kernel⟩
def fX11_in (M : Mem) (a0 a1 a2 : Int) : Option Int :=
  if a0 < a1 then (some 0) else (if a2 < a0 then (some 0) else (some 1))
set_option maxRecDepth 100000 in
set_option maxHeartbeats 4000000 in
theorem kX11_in (d : Nat) (hd : 0 ≤ d) (M : Mem) (a0 a1 a2 : Int) : Ct mX11_in d 0 0 [pI a0, pI a1, pI a2] M (dI M) (fX11_in M a0 a1 a2) := by
  refine Ct.of 0 (fun _ _ _ => trivial) (by decide +kernel) rfl ?_
  unfold fX11_in
  refine v_iload_n dX11_in_0 rfl ?_
  refine v_iload_n dX11_in_1 rfl ?_
  refine v_icmp_lt (tgt := 14) dX11_in_2 (by decide) (fun c1 => ?_) (fun c1 => ?_)
  · refine v_iconst dX11_in_14 (by decide) ?_
    exact v_breturn dX11_in_15 rfl (by decide) rfl
  · refine v_iload_n dX11_in_5 rfl ?_
    refine v_iload_n dX11_in_6 rfl ?_
    refine v_icmp_gt (tgt := 14) dX11_in_7 (by decide) (fun c2 => ?_) (fun c2 => ?_)
    · refine v_iconst dX11_in_14 (by decide) ?_
      exact v_breturn dX11_in_15 rfl (by decide) rfl
    · refine v_iconst dX11_in_10 (by decide) ?_
      refine v_goto (tgt := 15) dX11_in_11 (by decide) ?_
      exact v_breturn dX11_in_15 rfl (by decide) rfl
theorem chX11_has_0 : (cX11_has.data.toList.drop 0).take 16 = [26, 27, 122, 4, 126, 4, 160, 0, 7, 4, 167, 0, 4, 3, 172] := by decide +kernel
theorem dX11_has_0 : decode cX11_has 0 = .ok (.iload_n 0, 1) := oq_26 (byt chX11_has_0 0 rfl)
theorem dX11_has_1 : decode cX11_has 1 = .ok (.iload_n 1, 1) := oq_27 (byt chX11_has_0 1 rfl)
theorem dX11_has_2 : decode cX11_has 2 = .ok (.ishr, 1) := oq_122 (byt chX11_has_0 2 rfl)
theorem dX11_has_3 : decode cX11_has 3 = .ok (.iconst 1, 1) := oq_4 (byt chX11_has_0 3 rfl)
theorem dX11_has_4 : decode cX11_has 4 = .ok (.iand, 1) := oq_126 (byt chX11_has_0 4 rfl)
theorem dX11_has_5 : decode cX11_has 5 = .ok (.iconst 1, 1) := oq_4 (byt chX11_has_0 5 rfl)
theorem dX11_has_6 : decode cX11_has 6 = .ok (.if_icmp .ne 7, 3) := oq_160 (byt chX11_has_0 6 rfl) (byt chX11_has_0 7 rfl) (byt chX11_has_0 8 rfl) (by decide +kernel)
theorem dX11_has_9 : decode cX11_has 9 = .ok (.iconst 1, 1) := oq_4 (byt chX11_has_0 9 rfl)
theorem dX11_has_10 : decode cX11_has 10 = .ok (.goto 4, 3) := oq_167 (byt chX11_has_0 10 rfl) (byt chX11_has_0 11 rfl) (byt chX11_has_0 12 rfl) (by decide +kernel)
theorem dX11_has_13 : decode cX11_has 13 = .ok (.iconst 0, 1) := oq_3 (byt chX11_has_0 13 rfl)
theorem dX11_has_14 : decode cX11_has 14 = .ok (.ireturn, 1) := oq_172 (byt chX11_has_0 14 rfl)
abbrev mX11_has : MI := (yX11_has, cX11_has, 2, (some .boolean), noE)
theorem okX11_has : cok mX11_has 2 := ⟨tw1549, tw11, by decide, by decide, by decide, by decide +kernel⟩
def fX11_has (M : Mem) (a0 a1 : Int) : Option Int :=
  if bAnd (bShr a0 a1) 1 = 1 then (some 1) else (some 0)
set_option maxRecDepth 100000 in
set_option maxHeartbeats 4000000 in
theorem kX11_has (d : Nat) (hd : 0 ≤ d) (M : Mem) (a0 a1 : Int) : Ct mX11_has d 0 0 [pI a0, pI a1] M (dI M) (fX11_has M a0 a1) := by
  refine Ct.of 0 (fun _ _ _ => trivial) (by decide +kernel) rfl ?_
  unfold fX11_has
  refine v_iload_n dX11_has_0 rfl ?_
  refine v_iload_n dX11_has_1 rfl ?_
  refine v_ishr dX11_has_2 ?_
  refine v_iconst dX11_has_3 (by decide) ?_
  refine v_iand dX11_has_4 ?_
  refine v_iconst dX11_has_5 (by decide) ?_
  refine v_icmp_ne (tgt := 13) dX11_has_6 (by decide) (fun c1 => ?_) (fun c1 => ?_)
  · refine v_iconst dX11_has_9 (by decide) ?_
    refine v_goto (tgt := 14) dX11_has_10 (by decide) ?_
    exact v_breturn dX11_has_14 rfl (by decide) rfl
  · refine v_iconst dX11_has_13 (by decide) ?_
    exact v_breturn dX11_has_14 rfl (by decide) rfl
theorem chX11_greater_0 : (cX11_greater.data.toList.drop 0).take 16 = [26, 27, 164, 0, 7, 26, 167, 0, 4, 27, 172] := by decide +kernel
theorem dX11_greater_0 : decode cX11_greater 0 = .ok (.iload_n 0, 1) := oq_26 (byt chX11_greater_0 0 rfl)
theorem dX11_greater_1 : decode cX11_greater 1 = .ok (.iload_n 1, 1) := oq_27 (byt chX11_greater_0 1 rfl)
theorem dX11_greater_2 : decode cX11_greater 2 = .ok (.if_icmp .le 7, 3) := oq_164 (byt chX11_greater_0 2 rfl) (byt chX11_greater_0 3 rfl) (byt chX11_greater_0 4 rfl) (by decide +kernel)
theorem dX11_greater_5 : decode cX11_greater 5 = .ok (.iload_n 0, 1) := oq_26 (byt chX11_greater_0 5 rfl)
theorem dX11_greater_6 : decode cX11_greater 6 = .ok (.goto 4, 3) := oq_167 (byt chX11_greater_0 6 rfl) (byt chX11_greater_0 7 rfl) (byt chX11_greater_0 8 rfl) (by decide +kernel)
theorem dX11_greater_9 : decode cX11_greater 9 = .ok (.iload_n 1, 1) := oq_27 (byt chX11_greater_0 9 rfl)
theorem dX11_greater_10 : decode cX11_greater 10 = .ok (.ireturn, 1) := oq_172 (byt chX11_greater_0 10 rfl)
abbrev mX11_greater : MI := (yX11_greater, cX11_greater, 2, (some .int), noE)
theorem okX11_greater : cok mX11_greater 2 := ⟨tw1442, tw11, by decide, by decide, by decide, by decide +kernel⟩
def fX11_greater (M : Mem) (a0 a1 : Int) : Option Int :=
  if a1 < a0 then (some a0) else (some a1)
set_option maxRecDepth 100000 in
set_option maxHeartbeats 4000000 in
theorem kX11_greater (d : Nat) (hd : 0 ≤ d) (M : Mem) (a0 a1 : Int) : Ct mX11_greater d 0 0 [pI a0, pI a1] M (dI M) (fX11_greater M a0 a1) := by
  refine Ct.of 0 (fun _ _ _ => trivial) (by decide +kernel) rfl ?_
  unfold fX11_greater
  refine v_iload_n dX11_greater_0 rfl ?_
  refine v_iload_n dX11_greater_1 rfl ?_
  refine v_icmp_le (tgt := 9) dX11_greater_2 (by decide) (fun c1 => ?_) (fun c1 => ?_)
  · refine v_iload_n dX11_greater_5 rfl ?_
    refine v_goto (tgt := 10) dX11_greater_6 (by decide) ?_
    exact v_ireturn dX11_greater_10 rfl rfl
  · refine v_iload_n dX11_greater_9 rfl ?_
    exact v_ireturn dX11_greater_10 rfl rfl
theorem chX11_lesser_0 : (cX11_lesser.data.toList.drop 0).take 16 = [26, 27, 162, 0, 7, 26, 167, 0, 4, 27, 172] := by decide +kernel
theorem dX11_lesser_0 : decode cX11_lesser 0 = .ok (.iload_n 0, 1) := oq_26 (byt chX11_lesser_0 0 rfl)
theorem dX11_lesser_1 : decode cX11_lesser 1 = .ok (.iload_n 1, 1) := oq_27 (byt chX11_lesser_0 1 rfl)
theorem dX11_lesser_2 : decode cX11_lesser 2 = .ok (.if_icmp .ge 7, 3) := oq_162 (byt chX11_lesser_0 2 rfl) (byt chX11_lesser_0 3 rfl) (byt chX11_lesser_0 4 rfl) (by decide +kernel)
theorem dX11_lesser_5 : decode cX11_lesser 5 = .ok (.iload_n 0, 1) := oq_26 (byt chX11_lesser_0 5 rfl)
theorem dX11_lesser_6 : decode cX11_lesser 6 = .ok (.goto 4, 3) := oq_167 (byt chX11_lesser_0 6 rfl) (byt chX11_lesser_0 7 rfl) (byt chX11_lesser_0 8 rfl) (by decide +kernel)
theorem dX11_lesser_9 : decode cX11_lesser 9 = .ok (.iload_n 1, 1) := oq_27 (byt chX11_lesser_0 9 rfl)
theorem dX11_lesser_10 : decode cX11_lesser 10 = .ok (.ireturn, 1) := oq_172 (byt chX11_lesser_0 10 rfl)
abbrev mX11_lesser : MI := (yX11_lesser, cX11_lesser, 2, (some .int), noE)
theorem okX11_lesser : cok mX11_lesser 2 := ⟨tw1667, tw11, by decide, by decide, by decide, by decide +kernel⟩
def fX11_lesser (M : Mem) (a0 a1 : Int) : Option Int :=
  if a0 < a1 then (some a0) else (some a1)
set_option maxRecDepth 100000 in
set_option maxHeartbeats 4000000 in
theorem kX11_lesser (d : Nat) (hd : 0 ≤ d) (M : Mem) (a0 a1 : Int) : Ct mX11_lesser d 0 0 [pI a0, pI a1] M (dI M) (fX11_lesser M a0 a1) := by
  refine Ct.of 0 (fun _ _ _ => trivial) (by decide +kernel) rfl ?_
  unfold fX11_lesser
  refine v_iload_n dX11_lesser_0 rfl ?_
  refine v_iload_n dX11_lesser_1 rfl ?_
  refine v_icmp_ge (tgt := 9) dX11_lesser_2 (by decide) (fun c1 => ?_) (fun c1 => ?_)
  · refine v_iload_n dX11_lesser_5 rfl ?_
    refine v_goto (tgt := 10) dX11_lesser_6 (by decide) ?_
    exact v_ireturn dX11_lesser_10 rfl rfl
  · refine v_iload_n dX11_lesser_9 rfl ?_
    exact v_ireturn dX11_lesser_10 rfl rfl
theorem chX11_size_0 : (cX11_size.data.toList.drop 0).take 16 = [26, 156, 0, 8, 26, 116, 167, 0, 4, 26, 172] := by decide +kernel
theorem dX11_size_0 : decode cX11_size 0 = .ok (.iload_n 0, 1) := oq_26 (byt chX11_size_0 0 rfl)
theorem dX11_size_1 : decode cX11_size 1 = .ok (.ifCond .ge 8, 3) := oq_156 (byt chX11_size_0 1 rfl) (byt chX11_size_0 2 rfl) (byt chX11_size_0 3 rfl) (by decide +kernel)
theorem dX11_size_4 : decode cX11_size 4 = .ok (.iload_n 0, 1) := oq_26 (byt chX11_size_0 4 rfl)
theorem dX11_size_5 : decode cX11_size 5 = .ok (.ineg, 1) := oq_116 (byt chX11_size_0 5 rfl)
theorem dX11_size_6 : decode cX11_size 6 = .ok (.goto 4, 3) := oq_167 (byt chX11_size_0 6 rfl) (byt chX11_size_0 7 rfl) (byt chX11_size_0 8 rfl) (by decide +kernel)
theorem dX11_size_9 : decode cX11_size 9 = .ok (.iload_n 0, 1) := oq_26 (byt chX11_size_0 9 rfl)
theorem dX11_size_10 : decode cX11_size 10 = .ok (.ireturn, 1) := oq_172 (byt chX11_size_0 10 rfl)
abbrev mX11_size : MI := (yX11_size, cX11_size, 1, (some .int), noE)
theorem okX11_size : cok mX11_size 1 := ⟨tw1687, tw11, by decide, by decide, by decide, by decide +kernel⟩
def fX11_size (M : Mem) (a0 : Int) : Option Int :=
  if a0 < 0 then (some (w32 (-a0))) else (some a0)
set_option maxRecDepth 100000 in
set_option maxHeartbeats 4000000 in
theorem kX11_size (d : Nat) (hd : 0 ≤ d) (M : Mem) (a0 : Int) : Ct mX11_size d 0 0 [pI a0] M (dI M) (fX11_size M a0) := by
  refine Ct.of 0 (fun _ _ _ => trivial) (by decide +kernel) rfl ?_
  unfold fX11_size
  refine v_iload_n dX11_size_0 rfl ?_
  refine v_if_ge (tgt := 9) dX11_size_1 (by decide) (fun c1 => ?_) (fun c1 => ?_)
  · refine v_iload_n dX11_size_4 rfl ?_
    refine v_ineg dX11_size_5 ?_
    refine v_goto (tgt := 10) dX11_size_6 (by decide) ?_
    exact v_ireturn dX11_size_10 rfl rfl
  · refine v_iload_n dX11_size_9 rfl ?_
    exact v_ireturn dX11_size_10 rfl rfl
theorem chX11_copyRow_0 : (cX11_copyRow.data.toList.drop 0).take 16 = [3, 54, 4, 21, 4, 27, 162, 0, 25, 42, 27, 29, 104, 21, 4, 96] := by decide +kernel
theorem chX11_copyRow_1 : (cX11_copyRow.data.toList.drop 16).take 16 = [42, 27, 28, 104, 21, 4, 96, 46, 79, 132, 4, 1, 167, 255, 231, 177] := by decide +kernel
theorem dX11_copyRow_0 : decode cX11_copyRow 0 = .ok (.iconst 0, 1) := oq_3 (byt chX11_copyRow_0 0 rfl)
theorem dX11_copyRow_1 : decode cX11_copyRow 1 = .ok (.istore 4, 2) := oq_54 (byt chX11_copyRow_0 1 rfl) (byt chX11_copyRow_0 2 rfl) rfl
theorem dX11_copyRow_3 : decode cX11_copyRow 3 = .ok (.iload 4, 2) := oq_21 (byt chX11_copyRow_0 3 rfl) (byt chX11_copyRow_0 4 rfl) rfl
theorem dX11_copyRow_5 : decode cX11_copyRow 5 = .ok (.iload_n 1, 1) := oq_27 (byt chX11_copyRow_0 5 rfl)
theorem dX11_copyRow_6 : decode cX11_copyRow 6 = .ok (.if_icmp .ge 25, 3) := oq_162 (byt chX11_copyRow_0 6 rfl) (byt chX11_copyRow_0 7 rfl) (byt chX11_copyRow_0 8 rfl) (by decide +kernel)
theorem dX11_copyRow_9 : decode cX11_copyRow 9 = .ok (.aload_n 0, 1) := oq_42 (byt chX11_copyRow_0 9 rfl)
theorem dX11_copyRow_10 : decode cX11_copyRow 10 = .ok (.iload_n 1, 1) := oq_27 (byt chX11_copyRow_0 10 rfl)
theorem dX11_copyRow_11 : decode cX11_copyRow 11 = .ok (.iload_n 3, 1) := oq_29 (byt chX11_copyRow_0 11 rfl)
theorem dX11_copyRow_12 : decode cX11_copyRow 12 = .ok (.imul, 1) := oq_104 (byt chX11_copyRow_0 12 rfl)
theorem dX11_copyRow_13 : decode cX11_copyRow 13 = .ok (.iload 4, 2) := oq_21 (byt chX11_copyRow_0 13 rfl) (byt chX11_copyRow_0 14 rfl) rfl
theorem dX11_copyRow_15 : decode cX11_copyRow 15 = .ok (.iadd, 1) := oq_96 (byt chX11_copyRow_0 15 rfl)
theorem dX11_copyRow_16 : decode cX11_copyRow 16 = .ok (.aload_n 0, 1) := oq_42 (byt chX11_copyRow_1 0 rfl)
theorem dX11_copyRow_17 : decode cX11_copyRow 17 = .ok (.iload_n 1, 1) := oq_27 (byt chX11_copyRow_1 1 rfl)
theorem dX11_copyRow_18 : decode cX11_copyRow 18 = .ok (.iload_n 2, 1) := oq_28 (byt chX11_copyRow_1 2 rfl)
theorem dX11_copyRow_19 : decode cX11_copyRow 19 = .ok (.imul, 1) := oq_104 (byt chX11_copyRow_1 3 rfl)
theorem dX11_copyRow_20 : decode cX11_copyRow 20 = .ok (.iload 4, 2) := oq_21 (byt chX11_copyRow_1 4 rfl) (byt chX11_copyRow_1 5 rfl) rfl
theorem dX11_copyRow_22 : decode cX11_copyRow 22 = .ok (.iadd, 1) := oq_96 (byt chX11_copyRow_1 6 rfl)
theorem dX11_copyRow_23 : decode cX11_copyRow 23 = .ok (.iaload, 1) := oq_46 (byt chX11_copyRow_1 7 rfl)
theorem dX11_copyRow_24 : decode cX11_copyRow 24 = .ok (.iastore, 1) := oq_79 (byt chX11_copyRow_1 8 rfl)
theorem dX11_copyRow_25 : decode cX11_copyRow 25 = .ok (.iinc 4 1, 3) := oq_132 (byt chX11_copyRow_1 9 rfl) (byt chX11_copyRow_1 10 rfl) (byt chX11_copyRow_1 11 rfl) rfl
theorem dX11_copyRow_28 : decode cX11_copyRow 28 = .ok (.goto (-25), 3) := oq_167 (byt chX11_copyRow_1 12 rfl) (byt chX11_copyRow_1 13 rfl) (byt chX11_copyRow_1 14 rfl) (by decide +kernel)
theorem dX11_copyRow_31 : decode cX11_copyRow 31 = .ok (.return_, 1) := oq_177 (byt chX11_copyRow_1 15 rfl)
abbrev mX11_copyRow : MI := (yX11_copyRow, cX11_copyRow, 5, none, noE)
theorem okX11_copyRow : cok mX11_copyRow 4 := ⟨tw1888, tw11, by decide, by decide, by decide, by decide +kernel⟩
def fX11_copyRow (M : Mem) (a0 a1 a2 a3 : Int) : Option Mem :=
  iterC (fun (rec1 : (Int × Mem) → Option Mem) (s2 : Int × Mem) => if s2.1 < a1 then (if s2.2.2.1 a0 = 12 ∧ (0 : Int) ≤ (w32 ((w32 (a1 * a2)) + s2.1)) ∧ (w32 ((w32 (a1 * a2)) + s2.1)) < s2.2.2.2.1 a0 then if s2.2.2.1 a0 = 12 ∧ (0 : Int) ≤ (w32 ((w32 (a1 * a3)) + s2.1)) ∧ (w32 ((w32 (a1 * a3)) + s2.1)) < s2.2.2.2.1 a0 then bM (mst s2.2 a0 (w32 ((w32 (a1 * a3)) + s2.1)) (s2.2.1 a0 (w32 ((w32 (a1 * a2)) + s2.1)))) fun M6 => rec1 (w32 (s2.1 + 1), M6) else none else none) else (some s2.2)) BIG (0, M)
set_option maxRecDepth 100000 in
set_option maxHeartbeats 4000000 in
theorem kX11_copyRow (d : Nat) (hd : 0 ≤ d) (M : Mem) (a0 a1 a2 a3 : Int) : Ct mX11_copyRow d 0 0 [pA a0, pI a1, pI a2, pI a3] M dV (fX11_copyRow M a0 a1 a2 a3) := by
  refine Ct.of 1 (fun _ _ _ => trivial) (by decide +kernel) rfl ?_
  unfold fX11_copyRow
  refine v_iconst dX11_copyRow_0 (by decide) ?_
  refine v_istore (ls' := [some (pA a0), some (pI a1), some (pI a2), some (pI a3), some (pI 0)]) dX11_copyRow_1 (by decide) rfl ?_
  refine v_loop (fun (s2 : Int × Mem) => [some (pA a0), some (pI a1), some (pI a2), some (pI a3), some (pI s2.1)]) (fun (s2 : Int × Mem) => s2.2) (s0 := (0, M)) ?_
  intro rec1 hrec1 s2
  refine v_iload dX11_copyRow_3 rfl ?_
  refine v_iload_n dX11_copyRow_5 rfl ?_
  refine v_icmp_ge (tgt := 31) dX11_copyRow_6 (by decide) (fun c3 => ?_) (fun c3 => ?_)
  · refine v_aload_n dX11_copyRow_9 rfl ?_
    refine v_iload_n dX11_copyRow_10 rfl ?_
    refine v_iload_n dX11_copyRow_11 rfl ?_
    refine v_imul dX11_copyRow_12 ?_
    refine v_iload dX11_copyRow_13 rfl ?_
    refine v_iadd dX11_copyRow_15 ?_
    refine v_aload_n dX11_copyRow_16 rfl ?_
    refine v_iload_n dX11_copyRow_17 rfl ?_
    refine v_iload_n dX11_copyRow_18 rfl ?_
    refine v_imul dX11_copyRow_19 ?_
    refine v_iload dX11_copyRow_20 rfl ?_
    refine v_iadd dX11_copyRow_22 ?_
    refine v_if (fun h4 => ?_)
    refine v_iaload h4 dX11_copyRow_23 ?_
    refine v_if (fun h5 => ?_)
    refine v_iastore h5 dX11_copyRow_24 ?_
    refine v_bM (fun M6 e7 => ?_)
    refine v_iinc (ls' := [some (pA a0), some (pI a1), some (pI a2), some (pI a3), some (pI (w32 (s2.1 + 1)))]) dX11_copyRow_25 (by decide) rfl rfl ?_
    refine v_goto (tgt := 3) dX11_copyRow_28 (by decide) ?_
    exact hrec1 (w32 (s2.1 + 1), M6)
  · exact v_return dX11_copyRow_31 rfl rfl
theorem chX11_copyAll_0 : (cX11_copyAll.data.toList.drop 0).take 16 = [3, 62, 29, 17, 2, 88, 162, 0, 33, 42, 180, 0, 7, 17, 2, 88] := by decide +kernel
theorem chX11_copyAll_1 : (cX11_copyAll.data.toList.drop 16).take 16 = [28, 104, 29, 96, 42, 180, 0, 7, 17, 2, 88, 27, 104, 29, 96, 51] := by decide +kernel
theorem chX11_copyAll_2 : (cX11_copyAll.data.toList.drop 32).take 16 = [84, 132, 3, 1, 167, 255, 222, 42, 180, 0, 13, 4, 27, 28, 184, 0] := by decide +kernel
theorem chX11_copyAll_3 : (cX11_copyAll.data.toList.drop 48).take 16 = [94, 42, 180, 0, 17, 4, 27, 28, 184, 0, 94, 42, 180, 0, 20, 4] := by decide +kernel
theorem chX11_copyAll_4 : (cX11_copyAll.data.toList.drop 64).take 16 = [27, 28, 184, 0, 94, 42, 180, 0, 23, 7, 27, 28, 184, 0, 94, 42] := by decide +kernel
theorem chX11_copyAll_5 : (cX11_copyAll.data.toList.drop 80).take 16 = [180, 0, 26, 17, 0, 184, 27, 28, 184, 0, 94, 42, 180, 0, 29, 16] := by decide +kernel
theorem chX11_copyAll_6 : (cX11_copyAll.data.toList.drop 96).take 16 = [6, 27, 28, 184, 0, 94, 42, 180, 0, 32, 17, 1, 66, 27, 28, 184] := by decide +kernel
theorem chX11_copyAll_7 : (cX11_copyAll.data.toList.drop 112).take 16 = [0, 94, 42, 180, 0, 35, 16, 94, 27, 28, 184, 0, 94, 177] := by decide +kernel
theorem dX11_copyAll_0 : decode cX11_copyAll 0 = .ok (.iconst 0, 1) := oq_3 (byt chX11_copyAll_0 0 rfl)
theorem dX11_copyAll_1 : decode cX11_copyAll 1 = .ok (.istore_n 3, 1) := oq_62 (byt chX11_copyAll_0 1 rfl)
theorem dX11_copyAll_2 : decode cX11_copyAll 2 = .ok (.iload_n 3, 1) := oq_29 (byt chX11_copyAll_0 2 rfl)
theorem dX11_copyAll_3 : decode cX11_copyAll 3 = .ok (.sipush 600, 3) := oq_17 (byt chX11_copyAll_0 3 rfl) (byt chX11_copyAll_0 4 rfl) (byt chX11_copyAll_0 5 rfl) (by decide +kernel)
theorem dX11_copyAll_6 : decode cX11_copyAll 6 = .ok (.if_icmp .ge 33, 3) := oq_162 (byt chX11_copyAll_0 6 rfl) (byt chX11_copyAll_0 7 rfl) (byt chX11_copyAll_0 8 rfl) (by decide +kernel)
theorem dX11_copyAll_9 : decode cX11_copyAll 9 = .ok (.aload_n 0, 1) := oq_42 (byt chX11_copyAll_0 9 rfl)
theorem dX11_copyAll_10 : decode cX11_copyAll 10 = .ok (.getfield 7, 3) := oq_180 (byt chX11_copyAll_0 10 rfl) (byt chX11_copyAll_0 11 rfl) (byt chX11_copyAll_0 12 rfl) rfl
theorem dX11_copyAll_13 : decode cX11_copyAll 13 = .ok (.sipush 600, 3) := oq_17 (byt chX11_copyAll_0 13 rfl) (byt chX11_copyAll_0 14 rfl) (byt chX11_copyAll_0 15 rfl) (by decide +kernel)
theorem dX11_copyAll_16 : decode cX11_copyAll 16 = .ok (.iload_n 2, 1) := oq_28 (byt chX11_copyAll_1 0 rfl)
theorem dX11_copyAll_17 : decode cX11_copyAll 17 = .ok (.imul, 1) := oq_104 (byt chX11_copyAll_1 1 rfl)
theorem dX11_copyAll_18 : decode cX11_copyAll 18 = .ok (.iload_n 3, 1) := oq_29 (byt chX11_copyAll_1 2 rfl)
theorem dX11_copyAll_19 : decode cX11_copyAll 19 = .ok (.iadd, 1) := oq_96 (byt chX11_copyAll_1 3 rfl)
theorem dX11_copyAll_20 : decode cX11_copyAll 20 = .ok (.aload_n 0, 1) := oq_42 (byt chX11_copyAll_1 4 rfl)
theorem dX11_copyAll_21 : decode cX11_copyAll 21 = .ok (.getfield 7, 3) := oq_180 (byt chX11_copyAll_1 5 rfl) (byt chX11_copyAll_1 6 rfl) (byt chX11_copyAll_1 7 rfl) rfl
theorem dX11_copyAll_24 : decode cX11_copyAll 24 = .ok (.sipush 600, 3) := oq_17 (byt chX11_copyAll_1 8 rfl) (byt chX11_copyAll_1 9 rfl) (byt chX11_copyAll_1 10 rfl) (by decide +kernel)
theorem dX11_copyAll_27 : decode cX11_copyAll 27 = .ok (.iload_n 1, 1) := oq_27 (byt chX11_copyAll_1 11 rfl)
theorem dX11_copyAll_28 : decode cX11_copyAll 28 = .ok (.imul, 1) := oq_104 (byt chX11_copyAll_1 12 rfl)
theorem dX11_copyAll_29 : decode cX11_copyAll 29 = .ok (.iload_n 3, 1) := oq_29 (byt chX11_copyAll_1 13 rfl)
theorem dX11_copyAll_30 : decode cX11_copyAll 30 = .ok (.iadd, 1) := oq_96 (byt chX11_copyAll_1 14 rfl)
theorem dX11_copyAll_31 : decode cX11_copyAll 31 = .ok (.baload, 1) := oq_51 (byt chX11_copyAll_1 15 rfl)
theorem dX11_copyAll_32 : decode cX11_copyAll 32 = .ok (.bastore, 1) := oq_84 (byt chX11_copyAll_2 0 rfl)
theorem dX11_copyAll_33 : decode cX11_copyAll 33 = .ok (.iinc 3 1, 3) := oq_132 (byt chX11_copyAll_2 1 rfl) (byt chX11_copyAll_2 2 rfl) (byt chX11_copyAll_2 3 rfl) rfl
theorem dX11_copyAll_36 : decode cX11_copyAll 36 = .ok (.goto (-34), 3) := oq_167 (byt chX11_copyAll_2 4 rfl) (byt chX11_copyAll_2 5 rfl) (byt chX11_copyAll_2 6 rfl) (by decide +kernel)
theorem dX11_copyAll_39 : decode cX11_copyAll 39 = .ok (.aload_n 0, 1) := oq_42 (byt chX11_copyAll_2 7 rfl)
theorem dX11_copyAll_40 : decode cX11_copyAll 40 = .ok (.getfield 13, 3) := oq_180 (byt chX11_copyAll_2 8 rfl) (byt chX11_copyAll_2 9 rfl) (byt chX11_copyAll_2 10 rfl) rfl
theorem dX11_copyAll_43 : decode cX11_copyAll 43 = .ok (.iconst 1, 1) := oq_4 (byt chX11_copyAll_2 11 rfl)
theorem dX11_copyAll_44 : decode cX11_copyAll 44 = .ok (.iload_n 1, 1) := oq_27 (byt chX11_copyAll_2 12 rfl)
theorem dX11_copyAll_45 : decode cX11_copyAll 45 = .ok (.iload_n 2, 1) := oq_28 (byt chX11_copyAll_2 13 rfl)
theorem dX11_copyAll_46 : decode cX11_copyAll 46 = .ok (.invokestatic 94, 3) := oq_184 (byt chX11_copyAll_2 14 rfl) (byt chX11_copyAll_2 15 rfl) (byt chX11_copyAll_3 0 rfl) rfl
theorem dX11_copyAll_49 : decode cX11_copyAll 49 = .ok (.aload_n 0, 1) := oq_42 (byt chX11_copyAll_3 1 rfl)
theorem dX11_copyAll_50 : decode cX11_copyAll 50 = .ok (.getfield 17, 3) := oq_180 (byt chX11_copyAll_3 2 rfl) (byt chX11_copyAll_3 3 rfl) (byt chX11_copyAll_3 4 rfl) rfl
theorem dX11_copyAll_53 : decode cX11_copyAll 53 = .ok (.iconst 1, 1) := oq_4 (byt chX11_copyAll_3 5 rfl)
theorem dX11_copyAll_54 : decode cX11_copyAll 54 = .ok (.iload_n 1, 1) := oq_27 (byt chX11_copyAll_3 6 rfl)
theorem dX11_copyAll_55 : decode cX11_copyAll 55 = .ok (.iload_n 2, 1) := oq_28 (byt chX11_copyAll_3 7 rfl)
theorem dX11_copyAll_56 : decode cX11_copyAll 56 = .ok (.invokestatic 94, 3) := oq_184 (byt chX11_copyAll_3 8 rfl) (byt chX11_copyAll_3 9 rfl) (byt chX11_copyAll_3 10 rfl) rfl
theorem dX11_copyAll_59 : decode cX11_copyAll 59 = .ok (.aload_n 0, 1) := oq_42 (byt chX11_copyAll_3 11 rfl)
theorem dX11_copyAll_60 : decode cX11_copyAll 60 = .ok (.getfield 20, 3) := oq_180 (byt chX11_copyAll_3 12 rfl) (byt chX11_copyAll_3 13 rfl) (byt chX11_copyAll_3 14 rfl) rfl
theorem dX11_copyAll_63 : decode cX11_copyAll 63 = .ok (.iconst 1, 1) := oq_4 (byt chX11_copyAll_3 15 rfl)
theorem dX11_copyAll_64 : decode cX11_copyAll 64 = .ok (.iload_n 1, 1) := oq_27 (byt chX11_copyAll_4 0 rfl)
theorem dX11_copyAll_65 : decode cX11_copyAll 65 = .ok (.iload_n 2, 1) := oq_28 (byt chX11_copyAll_4 1 rfl)
theorem dX11_copyAll_66 : decode cX11_copyAll 66 = .ok (.invokestatic 94, 3) := oq_184 (byt chX11_copyAll_4 2 rfl) (byt chX11_copyAll_4 3 rfl) (byt chX11_copyAll_4 4 rfl) rfl
theorem dX11_copyAll_69 : decode cX11_copyAll 69 = .ok (.aload_n 0, 1) := oq_42 (byt chX11_copyAll_4 5 rfl)
theorem dX11_copyAll_70 : decode cX11_copyAll 70 = .ok (.getfield 23, 3) := oq_180 (byt chX11_copyAll_4 6 rfl) (byt chX11_copyAll_4 7 rfl) (byt chX11_copyAll_4 8 rfl) rfl
theorem dX11_copyAll_73 : decode cX11_copyAll 73 = .ok (.iconst 4, 1) := oq_7 (byt chX11_copyAll_4 9 rfl)
theorem dX11_copyAll_74 : decode cX11_copyAll 74 = .ok (.iload_n 1, 1) := oq_27 (byt chX11_copyAll_4 10 rfl)
theorem dX11_copyAll_75 : decode cX11_copyAll 75 = .ok (.iload_n 2, 1) := oq_28 (byt chX11_copyAll_4 11 rfl)
theorem dX11_copyAll_76 : decode cX11_copyAll 76 = .ok (.invokestatic 94, 3) := oq_184 (byt chX11_copyAll_4 12 rfl) (byt chX11_copyAll_4 13 rfl) (byt chX11_copyAll_4 14 rfl) rfl
theorem dX11_copyAll_79 : decode cX11_copyAll 79 = .ok (.aload_n 0, 1) := oq_42 (byt chX11_copyAll_4 15 rfl)
theorem dX11_copyAll_80 : decode cX11_copyAll 80 = .ok (.getfield 26, 3) := oq_180 (byt chX11_copyAll_5 0 rfl) (byt chX11_copyAll_5 1 rfl) (byt chX11_copyAll_5 2 rfl) rfl
theorem dX11_copyAll_83 : decode cX11_copyAll 83 = .ok (.sipush 184, 3) := oq_17 (byt chX11_copyAll_5 3 rfl) (byt chX11_copyAll_5 4 rfl) (byt chX11_copyAll_5 5 rfl) (by decide +kernel)
theorem dX11_copyAll_86 : decode cX11_copyAll 86 = .ok (.iload_n 1, 1) := oq_27 (byt chX11_copyAll_5 6 rfl)
theorem dX11_copyAll_87 : decode cX11_copyAll 87 = .ok (.iload_n 2, 1) := oq_28 (byt chX11_copyAll_5 7 rfl)
theorem dX11_copyAll_88 : decode cX11_copyAll 88 = .ok (.invokestatic 94, 3) := oq_184 (byt chX11_copyAll_5 8 rfl) (byt chX11_copyAll_5 9 rfl) (byt chX11_copyAll_5 10 rfl) rfl
theorem dX11_copyAll_91 : decode cX11_copyAll 91 = .ok (.aload_n 0, 1) := oq_42 (byt chX11_copyAll_5 11 rfl)
theorem dX11_copyAll_92 : decode cX11_copyAll 92 = .ok (.getfield 29, 3) := oq_180 (byt chX11_copyAll_5 12 rfl) (byt chX11_copyAll_5 13 rfl) (byt chX11_copyAll_5 14 rfl) rfl
theorem dX11_copyAll_95 : decode cX11_copyAll 95 = .ok (.bipush 6, 2) := oq_16 (byt chX11_copyAll_5 15 rfl) (byt chX11_copyAll_6 0 rfl) rfl
theorem dX11_copyAll_97 : decode cX11_copyAll 97 = .ok (.iload_n 1, 1) := oq_27 (byt chX11_copyAll_6 1 rfl)
theorem dX11_copyAll_98 : decode cX11_copyAll 98 = .ok (.iload_n 2, 1) := oq_28 (byt chX11_copyAll_6 2 rfl)
theorem dX11_copyAll_99 : decode cX11_copyAll 99 = .ok (.invokestatic 94, 3) := oq_184 (byt chX11_copyAll_6 3 rfl) (byt chX11_copyAll_6 4 rfl) (byt chX11_copyAll_6 5 rfl) rfl
theorem dX11_copyAll_102 : decode cX11_copyAll 102 = .ok (.aload_n 0, 1) := oq_42 (byt chX11_copyAll_6 6 rfl)
theorem dX11_copyAll_103 : decode cX11_copyAll 103 = .ok (.getfield 32, 3) := oq_180 (byt chX11_copyAll_6 7 rfl) (byt chX11_copyAll_6 8 rfl) (byt chX11_copyAll_6 9 rfl) rfl
theorem dX11_copyAll_106 : decode cX11_copyAll 106 = .ok (.sipush 322, 3) := oq_17 (byt chX11_copyAll_6 10 rfl) (byt chX11_copyAll_6 11 rfl) (byt chX11_copyAll_6 12 rfl) (by decide +kernel)
theorem dX11_copyAll_109 : decode cX11_copyAll 109 = .ok (.iload_n 1, 1) := oq_27 (byt chX11_copyAll_6 13 rfl)
theorem dX11_copyAll_110 : decode cX11_copyAll 110 = .ok (.iload_n 2, 1) := oq_28 (byt chX11_copyAll_6 14 rfl)
theorem dX11_copyAll_111 : decode cX11_copyAll 111 = .ok (.invokestatic 94, 3) := oq_184 (byt chX11_copyAll_6 15 rfl) (byt chX11_copyAll_7 0 rfl) (byt chX11_copyAll_7 1 rfl) rfl
theorem dX11_copyAll_114 : decode cX11_copyAll 114 = .ok (.aload_n 0, 1) := oq_42 (byt chX11_copyAll_7 2 rfl)
theorem dX11_copyAll_115 : decode cX11_copyAll 115 = .ok (.getfield 35, 3) := oq_180 (byt chX11_copyAll_7 3 rfl) (byt chX11_copyAll_7 4 rfl) (byt chX11_copyAll_7 5 rfl) rfl
theorem dX11_copyAll_118 : decode cX11_copyAll 118 = .ok (.bipush 94, 2) := oq_16 (byt chX11_copyAll_7 6 rfl) (byt chX11_copyAll_7 7 rfl) rfl
theorem dX11_copyAll_120 : decode cX11_copyAll 120 = .ok (.iload_n 1, 1) := oq_27 (byt chX11_copyAll_7 8 rfl)
theorem dX11_copyAll_121 : decode cX11_copyAll 121 = .ok (.iload_n 2, 1) := oq_28 (byt chX11_copyAll_7 9 rfl)
theorem dX11_copyAll_122 : decode cX11_copyAll 122 = .ok (.invokestatic 94, 3) := oq_184 (byt chX11_copyAll_7 10 rfl) (byt chX11_copyAll_7 11 rfl) (byt chX11_copyAll_7 12 rfl) rfl
theorem dX11_copyAll_125 : decode cX11_copyAll 125 = .ok (.return_, 1) := oq_177 (byt chX11_copyAll_7 13 rfl)
abbrev mX11_copyAll : MI := (yX11_copyAll, cX11_copyAll, 4, none, noE)
theorem okX11_copyAll : cok mX11_copyAll 2 := ⟨tw1885, tw11, by decide, by decide, by decide, by decide +kernel⟩
def fX11_copyAll (M : Mem) (a0 a1 a2 : Int) : Option Mem :=
  iterC (fun (rec1 : (Int × Mem) → Option Mem) (s2 : Int × Mem) => if s2.1 < 600 then (if s2.2.2.1 a0 = 10 then if (s2.2.2.1 (s2.2.1 a0 1) = 11 ∨ s2.2.2.1 (s2.2.1 a0 1) = 13) ∧ (0 : Int) ≤ (w32 ((w32 (600 * a1)) + s2.1)) ∧ (w32 ((w32 (600 * a1)) + s2.1)) < s2.2.2.2.1 (s2.2.1 a0 1) then if s2.2.2.1 (s2.2.1 a0 1) = 11 ∧ (0 : Int) ≤ (w32 ((w32 (600 * a2)) + s2.1)) ∧ (w32 ((w32 (600 * a2)) + s2.1)) < s2.2.2.2.1 (s2.2.1 a0 1) then bM (mst s2.2 (s2.2.1 a0 1) (w32 ((w32 (600 * a2)) + s2.1)) (s2.2.1 (s2.2.1 a0 1) (w32 ((w32 (600 * a1)) + s2.1)))) fun M8 => rec1 (w32 (s2.1 + 1), M8) else none else none else none) else (if s2.2.2.1 a0 = 10 then (fX11_copyRow s2.2 (s2.2.1 a0 2) 1 a1 a2).bind fun r11 => if r11.2.1 a0 = 10 then (fX11_copyRow r11 (r11.1 a0 3) 1 a1 a2).bind fun r14 => if r14.2.1 a0 = 10 then (fX11_copyRow r14 (r14.1 a0 4) 1 a1 a2).bind fun r17 => if r17.2.1 a0 = 10 then (fX11_copyRow r17 (r17.1 a0 5) 4 a1 a2).bind fun r20 => if r20.2.1 a0 = 10 then (fX11_copyRow r20 (r20.1 a0 6) 184 a1 a2).bind fun r23 => if r23.2.1 a0 = 10 then (fX11_copyRow r23 (r23.1 a0 7) 6 a1 a2).bind fun r26 => if r26.2.1 a0 = 10 then (fX11_copyRow r26 (r26.1 a0 8) 322 a1 a2).bind fun r29 => if r29.2.1 a0 = 10 then (fX11_copyRow r29 (r29.1 a0 9) 94 a1 a2).bind fun r32 => some r32 else none else none else none else none else none else none else none else none)) BIG (0, M)
set_option maxRecDepth 100000 in
set_option maxHeartbeats 4000000 in
theorem kX11_copyAll (d : Nat) (hd : 1 ≤ d) (M : Mem) (a0 a1 a2 : Int) : Ct mX11_copyAll d 0 0 [pA a0, pI a1, pI a2] M dV (fX11_copyAll M a0 a1 a2) := by
  obtain ⟨d, rfl⟩ : ∃ k, d = k + 1 := ⟨d - 1, by omega⟩
  refine Ct.of 1 (fun _ _ _ => trivial) (by decide +kernel) rfl ?_
  unfold fX11_copyAll
  refine v_iconst dX11_copyAll_0 (by decide) ?_
  refine v_istore_n (ls' := [some (pA a0), some (pI a1), some (pI a2), some (pI 0)]) dX11_copyAll_1 (by decide) rfl ?_
  refine v_loop (fun (s2 : Int × Mem) => [some (pA a0), some (pI a1), some (pI a2), some (pI s2.1)]) (fun (s2 : Int × Mem) => s2.2) (s0 := (0, M)) ?_
  intro rec1 hrec1 s2
  refine v_iload_n dX11_copyAll_2 rfl ?_
  refine v_sipush dX11_copyAll_3 (by decide) ?_
  refine v_icmp_ge (tgt := 39) dX11_copyAll_6 (by decide) (fun c3 => ?_) (fun c3 => ?_)
  · refine v_aload_n dX11_copyAll_9 rfl ?_
    refine v_if (fun h4 => ?_)
    refine v_get (v := pA (s2.2.1 a0 1)) 10 1 rfl inX11 (by decide) tw1194 dX11_copyAll_10 h4 rfl ?_
    refine v_sipush dX11_copyAll_13 (by decide) ?_
    refine v_iload_n dX11_copyAll_16 rfl ?_
    refine v_imul dX11_copyAll_17 ?_
    refine v_iload_n dX11_copyAll_18 rfl ?_
    refine v_iadd dX11_copyAll_19 ?_
    refine v_aload_n dX11_copyAll_20 rfl ?_
    refine v_get (v := pA (s2.2.1 a0 1)) 10 1 rfl inX11 (by decide) tw1194 dX11_copyAll_21 h4 rfl ?_
    refine v_sipush dX11_copyAll_24 (by decide) ?_
    refine v_iload_n dX11_copyAll_27 rfl ?_
    refine v_imul dX11_copyAll_28 ?_
    refine v_iload_n dX11_copyAll_29 rfl ?_
    refine v_iadd dX11_copyAll_30 ?_
    refine v_if (fun h5 => ?_)
    refine v_baload h5 dX11_copyAll_31 ?_
    refine v_if (fun h6 => ?_)
    refine v_pure (P := -128 ≤ s2.2.1 (s2.2.1 a0 1) (w32 ((w32 (600 * a1)) + s2.1)) ∧ s2.2.1 (s2.2.1 a0 1) (w32 ((w32 (600 * a1)) + s2.1)) ≤ 127) (fun hM _ _ => byte_r hM h5.1 h5.2.1) (fun h7 => ?_)
    refine v_bastore h6 h7 dX11_copyAll_32 ?_
    refine v_bM (fun M8 e9 => ?_)
    refine v_iinc (ls' := [some (pA a0), some (pI a1), some (pI a2), some (pI (w32 (s2.1 + 1)))]) dX11_copyAll_33 (by decide) rfl rfl ?_
    refine v_goto (tgt := 2) dX11_copyAll_36 (by decide) ?_
    exact hrec1 (w32 (s2.1 + 1), M8)
  · refine v_aload_n dX11_copyAll_39 rfl ?_
    refine v_if (fun h10 => ?_)
    refine v_get (v := pA (s2.2.1 a0 2)) 10 2 rfl inX11 (by decide) tw1195 dX11_copyAll_40 h10 rfl ?_
    refine v_iconst dX11_copyAll_43 (by decide) ?_
    refine v_iload_n dX11_copyAll_44 rfl ?_
    refine v_iload_n dX11_copyAll_45 rfl ?_
    refine v_cS (mi := mX11_copyAll) (c0 := 0) (c1 := 0) (As := [pA (s2.2.1 a0 2), pI 1, pI a1, pI a2]) (st := []) (kX11_copyRow d (by omega) _ _ _ _ _) okX11_copyRow (Or.inl tw1886) tw1887 rfl (Nat.le_of_ble_eq_true rfl) dX11_copyAll_46 (fun r11 => []) (fun r11 => r11) (fun _ => rfl) (fun _ => rfl) (fun r11 h12 => ?_) rfl
    refine v_aload_n dX11_copyAll_49 rfl ?_
    refine v_if (fun h13 => ?_)
    refine v_get (v := pA (r11.1 a0 3)) 10 3 rfl inX11 (by decide) tw1196 dX11_copyAll_50 h13 rfl ?_
    refine v_iconst dX11_copyAll_53 (by decide) ?_
    refine v_iload_n dX11_copyAll_54 rfl ?_
    refine v_iload_n dX11_copyAll_55 rfl ?_
    refine v_cS (mi := mX11_copyAll) (c0 := 0) (c1 := 0) (As := [pA (r11.1 a0 3), pI 1, pI a1, pI a2]) (st := []) (kX11_copyRow d (by omega) _ _ _ _ _) okX11_copyRow (Or.inl tw1886) tw1887 rfl (Nat.le_of_ble_eq_true rfl) dX11_copyAll_56 (fun r14 => []) (fun r14 => r14) (fun _ => rfl) (fun _ => rfl) (fun r14 h15 => ?_) rfl
    refine v_aload_n dX11_copyAll_59 rfl ?_
    refine v_if (fun h16 => ?_)
    refine v_get (v := pA (r14.1 a0 4)) 10 4 rfl inX11 (by decide) tw1197 dX11_copyAll_60 h16 rfl ?_
    refine v_iconst dX11_copyAll_63 (by decide) ?_
    refine v_iload_n dX11_copyAll_64 rfl ?_
    refine v_iload_n dX11_copyAll_65 rfl ?_
    refine v_cS (mi := mX11_copyAll) (c0 := 0) (c1 := 0) (As := [pA (r14.1 a0 4), pI 1, pI a1, pI a2]) (st := []) (kX11_copyRow d (by omega) _ _ _ _ _) okX11_copyRow (Or.inl tw1886) tw1887 rfl (Nat.le_of_ble_eq_true rfl) dX11_copyAll_66 (fun r17 => []) (fun r17 => r17) (fun _ => rfl) (fun _ => rfl) (fun r17 h18 => ?_) rfl
    refine v_aload_n dX11_copyAll_69 rfl ?_
    refine v_if (fun h19 => ?_)
    refine v_get (v := pA (r17.1 a0 5)) 10 5 rfl inX11 (by decide) tw1198 dX11_copyAll_70 h19 rfl ?_
    refine v_iconst dX11_copyAll_73 (by decide) ?_
    refine v_iload_n dX11_copyAll_74 rfl ?_
    refine v_iload_n dX11_copyAll_75 rfl ?_
    refine v_cS (mi := mX11_copyAll) (c0 := 0) (c1 := 0) (As := [pA (r17.1 a0 5), pI 4, pI a1, pI a2]) (st := []) (kX11_copyRow d (by omega) _ _ _ _ _) okX11_copyRow (Or.inl tw1886) tw1887 rfl (Nat.le_of_ble_eq_true rfl) dX11_copyAll_76 (fun r20 => []) (fun r20 => r20) (fun _ => rfl) (fun _ => rfl) (fun r20 h21 => ?_) rfl
    refine v_aload_n dX11_copyAll_79 rfl ?_
    refine v_if (fun h22 => ?_)
    refine v_get (v := pA (r20.1 a0 6)) 10 6 rfl inX11 (by decide) tw1199 dX11_copyAll_80 h22 rfl ?_
    refine v_sipush dX11_copyAll_83 (by decide) ?_
    refine v_iload_n dX11_copyAll_86 rfl ?_
    refine v_iload_n dX11_copyAll_87 rfl ?_
    refine v_cS (mi := mX11_copyAll) (c0 := 0) (c1 := 0) (As := [pA (r20.1 a0 6), pI 184, pI a1, pI a2]) (st := []) (kX11_copyRow d (by omega) _ _ _ _ _) okX11_copyRow (Or.inl tw1886) tw1887 rfl (Nat.le_of_ble_eq_true rfl) dX11_copyAll_88 (fun r23 => []) (fun r23 => r23) (fun _ => rfl) (fun _ => rfl) (fun r23 h24 => ?_) rfl
    refine v_aload_n dX11_copyAll_91 rfl ?_
    refine v_if (fun h25 => ?_)
    refine v_get (v := pA (r23.1 a0 7)) 10 7 rfl inX11 (by decide) tw1200 dX11_copyAll_92 h25 rfl ?_
    refine v_bipush dX11_copyAll_95 (by decide) ?_
    refine v_iload_n dX11_copyAll_97 rfl ?_
    refine v_iload_n dX11_copyAll_98 rfl ?_
    refine v_cS (mi := mX11_copyAll) (c0 := 0) (c1 := 0) (As := [pA (r23.1 a0 7), pI 6, pI a1, pI a2]) (st := []) (kX11_copyRow d (by omega) _ _ _ _ _) okX11_copyRow (Or.inl tw1886) tw1887 rfl (Nat.le_of_ble_eq_true rfl) dX11_copyAll_99 (fun r26 => []) (fun r26 => r26) (fun _ => rfl) (fun _ => rfl) (fun r26 h27 => ?_) rfl
    refine v_aload_n dX11_copyAll_102 rfl ?_
    refine v_if (fun h28 => ?_)
    refine v_get (v := pA (r26.1 a0 8)) 10 8 rfl inX11 (by decide) tw1201 dX11_copyAll_103 h28 rfl ?_
    refine v_sipush dX11_copyAll_106 (by decide) ?_
    refine v_iload_n dX11_copyAll_109 rfl ?_
    refine v_iload_n dX11_copyAll_110 rfl ?_
    refine v_cS (mi := mX11_copyAll) (c0 := 0) (c1 := 0) (As := [pA (r26.1 a0 8), pI 322, pI a1, pI a2]) (st := []) (kX11_copyRow d (by omega) _ _ _ _ _) okX11_copyRow (Or.inl tw1886) tw1887 rfl (Nat.le_of_ble_eq_true rfl) dX11_copyAll_111 (fun r29 => []) (fun r29 => r29) (fun _ => rfl) (fun _ => rfl) (fun r29 h30 => ?_) rfl
    refine v_aload_n dX11_copyAll_114 rfl ?_
    refine v_if (fun h31 => ?_)
    refine v_get (v := pA (r29.1 a0 9)) 10 9 rfl inX11 (by decide) tw1202 dX11_copyAll_115 h31 rfl ?_
    refine v_bipush dX11_copyAll_118 (by decide) ?_
    refine v_iload_n dX11_copyAll_120 rfl ?_
    refine v_iload_n dX11_copyAll_121 rfl ?_
    refine v_cS (mi := mX11_copyAll) (c0 := 0) (c1 := 0) (As := [pA (r29.1 a0 9), pI 94, pI a1, pI a2]) (st := []) (kX11_copyRow d (by omega) _ _ _ _ _) okX11_copyRow (Or.inl tw1886) tw1887 rfl (Nat.le_of_ble_eq_true rfl) dX11_copyAll_122 (fun r32 => []) (fun r32 => r32) (fun _ => rfl) (fun _ => rfl) (fun r32 h33 => ?_) rfl
    exact v_return dX11_copyAll_125 rfl rfl
theorem chX11_is_0 : (cX11_is.data.toList.drop 0).take 16 = [28, 3, 42, 180, 0, 23, 27, 46, 4, 100, 184, 0, 98, 172] := by decide +kernel
theorem dX11_is_0 : decode cX11_is 0 = .ok (.iload_n 2, 1) := oq_28 (byt chX11_is_0 0 rfl)
theorem dX11_is_1 : decode cX11_is 1 = .ok (.iconst 0, 1) := oq_3 (byt chX11_is_0 1 rfl)
theorem dX11_is_2 : decode cX11_is 2 = .ok (.aload_n 0, 1) := oq_42 (byt chX11_is_0 2 rfl)
theorem dX11_is_3 : decode cX11_is 3 = .ok (.getfield 23, 3) := oq_180 (byt chX11_is_0 3 rfl) (byt chX11_is_0 4 rfl) (byt chX11_is_0 5 rfl) rfl
theorem dX11_is_6 : decode cX11_is 6 = .ok (.iload_n 1, 1) := oq_27 (byt chX11_is_0 6 rfl)
theorem dX11_is_7 : decode cX11_is 7 = .ok (.iaload, 1) := oq_46 (byt chX11_is_0 7 rfl)
theorem dX11_is_8 : decode cX11_is 8 = .ok (.iconst 1, 1) := oq_4 (byt chX11_is_0 8 rfl)
theorem dX11_is_9 : decode cX11_is 9 = .ok (.isub, 1) := oq_100 (byt chX11_is_0 9 rfl)
theorem dX11_is_10 : decode cX11_is 10 = .ok (.invokestatic 98, 3) := oq_184 (byt chX11_is_0 10 rfl) (byt chX11_is_0 11 rfl) (byt chX11_is_0 12 rfl) rfl
theorem dX11_is_13 : decode cX11_is 13 = .ok (.ireturn, 1) := oq_172 (byt chX11_is_0 13 rfl)
abbrev mX11_is : MI := (yX11_is, cX11_is, 3, (some .boolean), noE)
theorem okX11_is : cok mX11_is 2 := ⟨tw1370, tw11, by decide, by decide, by decide, by decide +kernel⟩
def fX11_is (M : Mem) (a0 a1 a2 : Int) : Option Int :=
  if M.2.1 a0 = 10 then if M.2.1 (M.1 a0 5) = 12 ∧ (0 : Int) ≤ a1 ∧ a1 < M.2.2.1 (M.1 a0 5) then (fX11_in M a2 0 (w32 ((M.1 (M.1 a0 5) a1) - 1))).bind fun r3 => if r3 = 0 ∨ r3 = 1 then some r3 else none else none else none
set_option maxRecDepth 100000 in
set_option maxHeartbeats 4000000 in
theorem kX11_is (d : Nat) (hd : 1 ≤ d) (M : Mem) (a0 a1 a2 : Int) : Ct mX11_is d 0 0 [pA a0, pI a1, pI a2] M (dI M) (fX11_is M a0 a1 a2) := by
  obtain ⟨d, rfl⟩ : ∃ k, d = k + 1 := ⟨d - 1, by omega⟩
  refine Ct.of 0 (fun _ _ _ => trivial) (by decide +kernel) rfl ?_
  unfold fX11_is
  refine v_iload_n dX11_is_0 rfl ?_
  refine v_iconst dX11_is_1 (by decide) ?_
  refine v_aload_n dX11_is_2 rfl ?_
  refine v_if (fun h1 => ?_)
  refine v_get (v := pA (M.1 a0 5)) 10 5 rfl inX11 (by decide) tw1198 dX11_is_3 h1 rfl ?_
  refine v_iload_n dX11_is_6 rfl ?_
  refine v_if (fun h2 => ?_)
  refine v_iaload h2 dX11_is_7 ?_
  refine v_iconst dX11_is_8 (by decide) ?_
  refine v_isub dX11_is_9 ?_
  refine v_cS (mi := mX11_is) (c0 := 0) (c1 := 0) (As := [pI a2, pI 0, pI (w32 ((M.1 (M.1 a0 5) a1) - 1))]) (st := []) (kX11_in d (by omega) _ _ _ _) okX11_in (Or.inl tw1360) tw1361 rfl (Nat.le_of_ble_eq_true rfl) dX11_is_10 (fun r3 => [pI r3]) (fun r3 => M) (fun _ => rfl) (fun _ => rfl) (fun r3 h4 => ?_) rfl
  refine v_if (fun h5 => ?_)
  exact v_breturn dX11_is_13 rfl h5 rfl
theorem chX11_four_0 : (cX11_four.data.toList.drop 0).take 16 = [16, 24, 61, 28, 155, 0, 34, 42, 180, 0, 7, 42, 180, 0, 13, 3] := by decide +kernel
theorem chX11_four_1 : (cX11_four.data.toList.drop 16).take 16 = [46, 27, 28, 122, 145, 84, 42, 180, 0, 13, 3, 92, 46, 4, 96, 79] := by decide +kernel
theorem chX11_four_2 : (cX11_four.data.toList.drop 32).take 16 = [132, 2, 248, 167, 255, 224, 177] := by decide +kernel
theorem dX11_four_0 : decode cX11_four 0 = .ok (.bipush 24, 2) := oq_16 (byt chX11_four_0 0 rfl) (byt chX11_four_0 1 rfl) rfl
theorem dX11_four_2 : decode cX11_four 2 = .ok (.istore_n 2, 1) := oq_61 (byt chX11_four_0 2 rfl)
theorem dX11_four_3 : decode cX11_four 3 = .ok (.iload_n 2, 1) := oq_28 (byt chX11_four_0 3 rfl)
theorem dX11_four_4 : decode cX11_four 4 = .ok (.ifCond .lt 34, 3) := oq_155 (byt chX11_four_0 4 rfl) (byt chX11_four_0 5 rfl) (byt chX11_four_0 6 rfl) (by decide +kernel)
theorem dX11_four_7 : decode cX11_four 7 = .ok (.aload_n 0, 1) := oq_42 (byt chX11_four_0 7 rfl)
theorem dX11_four_8 : decode cX11_four 8 = .ok (.getfield 7, 3) := oq_180 (byt chX11_four_0 8 rfl) (byt chX11_four_0 9 rfl) (byt chX11_four_0 10 rfl) rfl
theorem dX11_four_11 : decode cX11_four 11 = .ok (.aload_n 0, 1) := oq_42 (byt chX11_four_0 11 rfl)
theorem dX11_four_12 : decode cX11_four 12 = .ok (.getfield 13, 3) := oq_180 (byt chX11_four_0 12 rfl) (byt chX11_four_0 13 rfl) (byt chX11_four_0 14 rfl) rfl
theorem dX11_four_15 : decode cX11_four 15 = .ok (.iconst 0, 1) := oq_3 (byt chX11_four_0 15 rfl)
theorem dX11_four_16 : decode cX11_four 16 = .ok (.iaload, 1) := oq_46 (byt chX11_four_1 0 rfl)
theorem dX11_four_17 : decode cX11_four 17 = .ok (.iload_n 1, 1) := oq_27 (byt chX11_four_1 1 rfl)
theorem dX11_four_18 : decode cX11_four 18 = .ok (.iload_n 2, 1) := oq_28 (byt chX11_four_1 2 rfl)
theorem dX11_four_19 : decode cX11_four 19 = .ok (.ishr, 1) := oq_122 (byt chX11_four_1 3 rfl)
theorem dX11_four_20 : decode cX11_four 20 = .ok (.i2b, 1) := oq_145 (byt chX11_four_1 4 rfl)
theorem dX11_four_21 : decode cX11_four 21 = .ok (.bastore, 1) := oq_84 (byt chX11_four_1 5 rfl)
theorem dX11_four_22 : decode cX11_four 22 = .ok (.aload_n 0, 1) := oq_42 (byt chX11_four_1 6 rfl)
theorem dX11_four_23 : decode cX11_four 23 = .ok (.getfield 13, 3) := oq_180 (byt chX11_four_1 7 rfl) (byt chX11_four_1 8 rfl) (byt chX11_four_1 9 rfl) rfl
theorem dX11_four_26 : decode cX11_four 26 = .ok (.iconst 0, 1) := oq_3 (byt chX11_four_1 10 rfl)
theorem dX11_four_27 : decode cX11_four 27 = .ok (.dup2, 1) := oq_92 (byt chX11_four_1 11 rfl)
theorem dX11_four_28 : decode cX11_four 28 = .ok (.iaload, 1) := oq_46 (byt chX11_four_1 12 rfl)
theorem dX11_four_29 : decode cX11_four 29 = .ok (.iconst 1, 1) := oq_4 (byt chX11_four_1 13 rfl)
theorem dX11_four_30 : decode cX11_four 30 = .ok (.iadd, 1) := oq_96 (byt chX11_four_1 14 rfl)
theorem dX11_four_31 : decode cX11_four 31 = .ok (.iastore, 1) := oq_79 (byt chX11_four_1 15 rfl)
theorem dX11_four_32 : decode cX11_four 32 = .ok (.iinc 2 (-8), 3) := oq_132 (byt chX11_four_2 0 rfl) (byt chX11_four_2 1 rfl) (byt chX11_four_2 2 rfl) rfl
theorem dX11_four_35 : decode cX11_four 35 = .ok (.goto (-32), 3) := oq_167 (byt chX11_four_2 3 rfl) (byt chX11_four_2 4 rfl) (byt chX11_four_2 5 rfl) (by decide +kernel)
theorem dX11_four_38 : decode cX11_four 38 = .ok (.return_, 1) := oq_177 (byt chX11_four_2 6 rfl)
abbrev mX11_four : MI := (yX11_four, cX11_four, 3, none, noE)
theorem okX11_four : cok mX11_four 1 := ⟨tw1355, tw11, by decide, by decide, by decide, by decide +kernel⟩
def fX11_four (M : Mem) (a0 a1 : Int) : Option Mem :=
  iterC (fun (rec1 : (Int × Mem) → Option Mem) (s2 : Int × Mem) => if s2.1 < 0 then (some s2.2) else (if s2.2.2.1 a0 = 10 then if s2.2.2.1 (s2.2.1 a0 2) = 12 ∧ (0 : Int) ≤ 0 ∧ 0 < s2.2.2.2.1 (s2.2.1 a0 2) then if s2.2.2.1 (s2.2.1 a0 1) = 11 ∧ (0 : Int) ≤ (s2.2.1 (s2.2.1 a0 2) 0) ∧ (s2.2.1 (s2.2.1 a0 2) 0) < s2.2.2.2.1 (s2.2.1 a0 1) then bM (mst s2.2 (s2.2.1 a0 1) (s2.2.1 (s2.2.1 a0 2) 0) (w8 (bShr a1 s2.1))) fun M7 => if M7.2.1 (M7.1 a0 2) = 12 ∧ (0 : Int) ≤ 0 ∧ 0 < M7.2.2.1 (M7.1 a0 2) then if M7.2.1 (M7.1 a0 2) = 12 ∧ (0 : Int) ≤ 0 ∧ 0 < M7.2.2.1 (M7.1 a0 2) then bM (mst M7 (M7.1 a0 2) 0 (w32 ((M7.1 (M7.1 a0 2) 0) + 1))) fun M11 => rec1 (w32 (s2.1 + (-8)), M11) else none else none else none else none else none)) BIG (24, M)
set_option maxRecDepth 100000 in
set_option maxHeartbeats 4000000 in
theorem kX11_four (d : Nat) (hd : 0 ≤ d) (M : Mem) (a0 a1 : Int) : Ct mX11_four d 0 0 [pA a0, pI a1] M dV (fX11_four M a0 a1) := by
  refine Ct.of 1 (fun _ _ _ => trivial) (by decide +kernel) rfl ?_
  unfold fX11_four
  refine v_bipush dX11_four_0 (by decide) ?_
  refine v_istore_n (ls' := [some (pA a0), some (pI a1), some (pI 24)]) dX11_four_2 (by decide) rfl ?_
  refine v_loop (fun (s2 : Int × Mem) => [some (pA a0), some (pI a1), some (pI s2.1)]) (fun (s2 : Int × Mem) => s2.2) (s0 := (24, M)) ?_
  intro rec1 hrec1 s2
  refine v_iload_n dX11_four_3 rfl ?_
  refine v_if_lt (tgt := 38) dX11_four_4 (by decide) (fun c3 => ?_) (fun c3 => ?_)
  · exact v_return dX11_four_38 rfl rfl
  · refine v_aload_n dX11_four_7 rfl ?_
    refine v_if (fun h4 => ?_)
    refine v_get (v := pA (s2.2.1 a0 1)) 10 1 rfl inX11 (by decide) tw1194 dX11_four_8 h4 rfl ?_
    refine v_aload_n dX11_four_11 rfl ?_
    refine v_get (v := pA (s2.2.1 a0 2)) 10 2 rfl inX11 (by decide) tw1195 dX11_four_12 h4 rfl ?_
    refine v_iconst dX11_four_15 (by decide) ?_
    refine v_if (fun h5 => ?_)
    refine v_iaload h5 dX11_four_16 ?_
    refine v_iload_n dX11_four_17 rfl ?_
    refine v_iload_n dX11_four_18 rfl ?_
    refine v_ishr dX11_four_19 ?_
    refine v_i2b dX11_four_20 ?_
    refine v_if (fun h6 => ?_)
    refine v_bastore h6 (w8_r _) dX11_four_21 ?_
    refine v_bM (fun M7 e8 => ?_)
    refine v_aload_n dX11_four_22 rfl ?_
    refine v_get (v := pA (M7.1 a0 2)) 10 2 rfl inX11 (by decide) tw1195 dX11_four_23 (by rw [e8]; exact h4) rfl ?_
    refine v_iconst dX11_four_26 (by decide) ?_
    refine v_dup2 dX11_four_27 (by intro z hz; cases hz) (by intro z hz; cases hz) ?_
    refine v_if (fun h9 => ?_)
    refine v_iaload h9 dX11_four_28 ?_
    refine v_iconst dX11_four_29 (by decide) ?_
    refine v_iadd dX11_four_30 ?_
    refine v_if (fun h10 => ?_)
    refine v_iastore h10 dX11_four_31 ?_
    refine v_bM (fun M11 e12 => ?_)
    refine v_iinc (ls' := [some (pA a0), some (pI a1), some (pI (w32 (s2.1 + (-8))))]) dX11_four_32 (by decide) rfl rfl ?_
    refine v_goto (tgt := 3) dX11_four_35 (by decide) ?_
    exact hrec1 (w32 (s2.1 + (-8)), M11)
theorem chX11_feed_0 : (cX11_feed.data.toList.drop 0).take 16 = [42, 3, 181, 0, 90, 42, 180, 0, 13, 3, 46, 16, 20, 96, 17, 2] := by decide +kernel
theorem chX11_feed_1 : (cX11_feed.data.toList.drop 16).take 16 = [88, 164, 0, 5, 2, 172, 42, 27, 182, 0, 102, 42, 28, 182, 0, 102] := by decide +kernel
theorem chX11_feed_2 : (cX11_feed.data.toList.drop 32).take 16 = [42, 29, 182, 0, 102, 42, 21, 4, 182, 0, 102, 42, 21, 5, 182, 0] := by decide +kernel
theorem chX11_feed_3 : (cX11_feed.data.toList.drop 48).take 16 = [102, 42, 180, 0, 13, 3, 46, 172] := by decide +kernel
theorem dX11_feed_0 : decode cX11_feed 0 = .ok (.aload_n 0, 1) := oq_42 (byt chX11_feed_0 0 rfl)
theorem dX11_feed_1 : decode cX11_feed 1 = .ok (.iconst 0, 1) := oq_3 (byt chX11_feed_0 1 rfl)
theorem dX11_feed_2 : decode cX11_feed 2 = .ok (.putfield 90, 3) := oq_181 (byt chX11_feed_0 2 rfl) (byt chX11_feed_0 3 rfl) (byt chX11_feed_0 4 rfl) rfl
theorem dX11_feed_5 : decode cX11_feed 5 = .ok (.aload_n 0, 1) := oq_42 (byt chX11_feed_0 5 rfl)
theorem dX11_feed_6 : decode cX11_feed 6 = .ok (.getfield 13, 3) := oq_180 (byt chX11_feed_0 6 rfl) (byt chX11_feed_0 7 rfl) (byt chX11_feed_0 8 rfl) rfl
theorem dX11_feed_9 : decode cX11_feed 9 = .ok (.iconst 0, 1) := oq_3 (byt chX11_feed_0 9 rfl)
theorem dX11_feed_10 : decode cX11_feed 10 = .ok (.iaload, 1) := oq_46 (byt chX11_feed_0 10 rfl)
theorem dX11_feed_11 : decode cX11_feed 11 = .ok (.bipush 20, 2) := oq_16 (byt chX11_feed_0 11 rfl) (byt chX11_feed_0 12 rfl) rfl
theorem dX11_feed_13 : decode cX11_feed 13 = .ok (.iadd, 1) := oq_96 (byt chX11_feed_0 13 rfl)
theorem dX11_feed_14 : decode cX11_feed 14 = .ok (.sipush 600, 3) := oq_17 (byt chX11_feed_0 14 rfl) (byt chX11_feed_0 15 rfl) (byt chX11_feed_1 0 rfl) (by decide +kernel)
theorem dX11_feed_17 : decode cX11_feed 17 = .ok (.if_icmp .le 5, 3) := oq_164 (byt chX11_feed_1 1 rfl) (byt chX11_feed_1 2 rfl) (byt chX11_feed_1 3 rfl) (by decide +kernel)
theorem dX11_feed_20 : decode cX11_feed 20 = .ok (.iconst (-1), 1) := oq_2 (byt chX11_feed_1 4 rfl)
theorem dX11_feed_21 : decode cX11_feed 21 = .ok (.ireturn, 1) := oq_172 (byt chX11_feed_1 5 rfl)
theorem dX11_feed_22 : decode cX11_feed 22 = .ok (.aload_n 0, 1) := oq_42 (byt chX11_feed_1 6 rfl)
theorem dX11_feed_23 : decode cX11_feed 23 = .ok (.iload_n 1, 1) := oq_27 (byt chX11_feed_1 7 rfl)
theorem dX11_feed_24 : decode cX11_feed 24 = .ok (.invokevirtual 102, 3) := oq_182 (byt chX11_feed_1 8 rfl) (byt chX11_feed_1 9 rfl) (byt chX11_feed_1 10 rfl) rfl
theorem dX11_feed_27 : decode cX11_feed 27 = .ok (.aload_n 0, 1) := oq_42 (byt chX11_feed_1 11 rfl)
theorem dX11_feed_28 : decode cX11_feed 28 = .ok (.iload_n 2, 1) := oq_28 (byt chX11_feed_1 12 rfl)
theorem dX11_feed_29 : decode cX11_feed 29 = .ok (.invokevirtual 102, 3) := oq_182 (byt chX11_feed_1 13 rfl) (byt chX11_feed_1 14 rfl) (byt chX11_feed_1 15 rfl) rfl
theorem dX11_feed_32 : decode cX11_feed 32 = .ok (.aload_n 0, 1) := oq_42 (byt chX11_feed_2 0 rfl)
theorem dX11_feed_33 : decode cX11_feed 33 = .ok (.iload_n 3, 1) := oq_29 (byt chX11_feed_2 1 rfl)
theorem dX11_feed_34 : decode cX11_feed 34 = .ok (.invokevirtual 102, 3) := oq_182 (byt chX11_feed_2 2 rfl) (byt chX11_feed_2 3 rfl) (byt chX11_feed_2 4 rfl) rfl
theorem dX11_feed_37 : decode cX11_feed 37 = .ok (.aload_n 0, 1) := oq_42 (byt chX11_feed_2 5 rfl)
theorem dX11_feed_38 : decode cX11_feed 38 = .ok (.iload 4, 2) := oq_21 (byt chX11_feed_2 6 rfl) (byt chX11_feed_2 7 rfl) rfl
theorem dX11_feed_40 : decode cX11_feed 40 = .ok (.invokevirtual 102, 3) := oq_182 (byt chX11_feed_2 8 rfl) (byt chX11_feed_2 9 rfl) (byt chX11_feed_2 10 rfl) rfl
theorem dX11_feed_43 : decode cX11_feed 43 = .ok (.aload_n 0, 1) := oq_42 (byt chX11_feed_2 11 rfl)
theorem dX11_feed_44 : decode cX11_feed 44 = .ok (.iload 5, 2) := oq_21 (byt chX11_feed_2 12 rfl) (byt chX11_feed_2 13 rfl) rfl
theorem dX11_feed_46 : decode cX11_feed 46 = .ok (.invokevirtual 102, 3) := oq_182 (byt chX11_feed_2 14 rfl) (byt chX11_feed_2 15 rfl) (byt chX11_feed_3 0 rfl) rfl
theorem dX11_feed_49 : decode cX11_feed 49 = .ok (.aload_n 0, 1) := oq_42 (byt chX11_feed_3 1 rfl)
theorem dX11_feed_50 : decode cX11_feed 50 = .ok (.getfield 13, 3) := oq_180 (byt chX11_feed_3 2 rfl) (byt chX11_feed_3 3 rfl) (byt chX11_feed_3 4 rfl) rfl
theorem dX11_feed_53 : decode cX11_feed 53 = .ok (.iconst 0, 1) := oq_3 (byt chX11_feed_3 5 rfl)
theorem dX11_feed_54 : decode cX11_feed 54 = .ok (.iaload, 1) := oq_46 (byt chX11_feed_3 6 rfl)
theorem dX11_feed_55 : decode cX11_feed 55 = .ok (.ireturn, 1) := oq_172 (byt chX11_feed_3 7 rfl)
abbrev mX11_feed : MI := (yX11_feed, cX11_feed, 6, (some .int), noE)
theorem okX11_feed : cok mX11_feed 5 := ⟨tw1351, tw11, by decide, by decide, by decide, by decide +kernel⟩
def fX11_feed (M : Mem) (a0 a1 a2 a3 a4 a5 : Int) : Option (Int × Mem) :=
  if M.2.1 a0 = 10 then bM (mst M a0 0 0) fun M2 => if M2.2.1 (M2.1 a0 2) = 12 ∧ (0 : Int) ≤ 0 ∧ 0 < M2.2.2.1 (M2.1 a0 2) then if 600 < w32 ((M2.1 (M2.1 a0 2) 0) + 20) then (some ((-1), M2)) else ((fX11_four M2 a0 a1).bind fun r6 => if r6.2.1 a0 = 10 then (fX11_four r6 a0 a2).bind fun r8 => if r8.2.1 a0 = 10 then (fX11_four r8 a0 a3).bind fun r11 => if r11.2.1 a0 = 10 then (fX11_four r11 a0 a4).bind fun r14 => if r14.2.1 a0 = 10 then (fX11_four r14 a0 a5).bind fun r17 => if r17.2.1 a0 = 10 then if r17.2.1 (r17.1 a0 2) = 12 ∧ (0 : Int) ≤ 0 ∧ 0 < r17.2.2.1 (r17.1 a0 2) then some (r17.1 (r17.1 a0 2) 0, r17) else none else none else none else none else none else none) else none else none
set_option maxRecDepth 100000 in
set_option maxHeartbeats 4000000 in
theorem kX11_feed (d : Nat) (hd : 1 ≤ d) (M : Mem) (a0 a1 a2 a3 a4 a5 : Int) : Ct mX11_feed d 0 0 [pA a0, pI a1, pI a2, pI a3, pI a4, pI a5] M dIM (fX11_feed M a0 a1 a2 a3 a4 a5) := by
  obtain ⟨d, rfl⟩ : ∃ k, d = k + 1 := ⟨d - 1, by omega⟩
  refine Ct.of 0 (fun _ _ _ => trivial) (by decide +kernel) rfl ?_
  unfold fX11_feed
  refine v_aload_n dX11_feed_0 rfl ?_
  refine v_iconst dX11_feed_1 (by decide) ?_
  refine v_if (fun h1 => ?_)
  refine v_put (x := 0) 10 0 rfl inX11 (by decide) tw1193 (Or.inl rfl) rfl dX11_feed_2 h1 rfl id ?_
  refine v_bM (fun M2 e3 => ?_)
  refine v_aload_n dX11_feed_5 rfl ?_
  refine v_get (v := pA (M2.1 a0 2)) 10 2 rfl inX11 (by decide) tw1195 dX11_feed_6 (by rw [e3]; exact h1) rfl ?_
  refine v_iconst dX11_feed_9 (by decide) ?_
  refine v_if (fun h4 => ?_)
  refine v_iaload h4 dX11_feed_10 ?_
  refine v_bipush dX11_feed_11 (by decide) ?_
  refine v_iadd dX11_feed_13 ?_
  refine v_sipush dX11_feed_14 (by decide) ?_
  refine v_icmp_le (tgt := 22) dX11_feed_17 (by decide) (fun c5 => ?_) (fun c5 => ?_)
  · refine v_iconst dX11_feed_20 (by decide) ?_
    exact v_ireturn dX11_feed_21 rfl rfl
  · refine v_aload_n dX11_feed_22 rfl ?_
    refine v_iload_n dX11_feed_23 rfl ?_
    refine v_cV (mi := mX11_feed) (c0 := 0) (c1 := 0) (As := [pI a1]) (st := []) (kX11_four d (by omega) _ _ _) rfl (by rw [e3]; exact h1) rfl okX11_four (Or.inl tw1352) tw1354 tp27 rfl (Nat.le_of_ble_eq_true rfl) dX11_feed_24 (fun r6 => []) (fun r6 => r6) (fun _ => rfl) (fun _ => rfl) (fun r6 h7 => ?_) rfl
    refine v_aload_n dX11_feed_27 rfl ?_
    refine v_iload_n dX11_feed_28 rfl ?_
    refine v_if (fun h10 => ?_)
    refine v_cV (mi := mX11_feed) (c0 := 0) (c1 := 0) (As := [pI a2]) (st := []) (kX11_four d (by omega) _ _ _) rfl h10 rfl okX11_four (Or.inl tw1352) tw1354 tp27 rfl (Nat.le_of_ble_eq_true rfl) dX11_feed_29 (fun r8 => []) (fun r8 => r8) (fun _ => rfl) (fun _ => rfl) (fun r8 h9 => ?_) rfl
    refine v_aload_n dX11_feed_32 rfl ?_
    refine v_iload_n dX11_feed_33 rfl ?_
    refine v_if (fun h13 => ?_)
    refine v_cV (mi := mX11_feed) (c0 := 0) (c1 := 0) (As := [pI a3]) (st := []) (kX11_four d (by omega) _ _ _) rfl h13 rfl okX11_four (Or.inl tw1352) tw1354 tp27 rfl (Nat.le_of_ble_eq_true rfl) dX11_feed_34 (fun r11 => []) (fun r11 => r11) (fun _ => rfl) (fun _ => rfl) (fun r11 h12 => ?_) rfl
    refine v_aload_n dX11_feed_37 rfl ?_
    refine v_iload dX11_feed_38 rfl ?_
    refine v_if (fun h16 => ?_)
    refine v_cV (mi := mX11_feed) (c0 := 0) (c1 := 0) (As := [pI a4]) (st := []) (kX11_four d (by omega) _ _ _) rfl h16 rfl okX11_four (Or.inl tw1352) tw1354 tp27 rfl (Nat.le_of_ble_eq_true rfl) dX11_feed_40 (fun r14 => []) (fun r14 => r14) (fun _ => rfl) (fun _ => rfl) (fun r14 h15 => ?_) rfl
    refine v_aload_n dX11_feed_43 rfl ?_
    refine v_iload dX11_feed_44 rfl ?_
    refine v_if (fun h19 => ?_)
    refine v_cV (mi := mX11_feed) (c0 := 0) (c1 := 0) (As := [pI a5]) (st := []) (kX11_four d (by omega) _ _ _) rfl h19 rfl okX11_four (Or.inl tw1352) tw1354 tp27 rfl (Nat.le_of_ble_eq_true rfl) dX11_feed_46 (fun r17 => []) (fun r17 => r17) (fun _ => rfl) (fun _ => rfl) (fun r17 h18 => ?_) rfl
    refine v_aload_n dX11_feed_49 rfl ?_
    refine v_if (fun h20 => ?_)
    refine v_get (v := pA (r17.1 a0 2)) 10 2 rfl inX11 (by decide) tw1195 dX11_feed_50 h20 rfl ?_
    refine v_iconst dX11_feed_53 (by decide) ?_
    refine v_if (fun h21 => ?_)
    refine v_iaload h21 dX11_feed_54 ?_
    exact v_ireturn dX11_feed_55 rfl rfl
theorem chX11_end_0 : (cX11_end.data.toList.drop 0).take 16 = [42, 3, 181, 0, 90, 27, 3, 42, 180, 0, 13, 3, 46, 184, 0, 98] := by decide +kernel
theorem chX11_end_1 : (cX11_end.data.toList.drop 16).take 16 = [154, 0, 5, 2, 172, 42, 180, 0, 13, 3, 27, 79, 27, 172] := by decide +kernel
theorem dX11_end_0 : decode cX11_end 0 = .ok (.aload_n 0, 1) := oq_42 (byt chX11_end_0 0 rfl)
theorem dX11_end_1 : decode cX11_end 1 = .ok (.iconst 0, 1) := oq_3 (byt chX11_end_0 1 rfl)
theorem dX11_end_2 : decode cX11_end 2 = .ok (.putfield 90, 3) := oq_181 (byt chX11_end_0 2 rfl) (byt chX11_end_0 3 rfl) (byt chX11_end_0 4 rfl) rfl
theorem dX11_end_5 : decode cX11_end 5 = .ok (.iload_n 1, 1) := oq_27 (byt chX11_end_0 5 rfl)
theorem dX11_end_6 : decode cX11_end 6 = .ok (.iconst 0, 1) := oq_3 (byt chX11_end_0 6 rfl)
theorem dX11_end_7 : decode cX11_end 7 = .ok (.aload_n 0, 1) := oq_42 (byt chX11_end_0 7 rfl)
theorem dX11_end_8 : decode cX11_end 8 = .ok (.getfield 13, 3) := oq_180 (byt chX11_end_0 8 rfl) (byt chX11_end_0 9 rfl) (byt chX11_end_0 10 rfl) rfl
theorem dX11_end_11 : decode cX11_end 11 = .ok (.iconst 0, 1) := oq_3 (byt chX11_end_0 11 rfl)
theorem dX11_end_12 : decode cX11_end 12 = .ok (.iaload, 1) := oq_46 (byt chX11_end_0 12 rfl)
theorem dX11_end_13 : decode cX11_end 13 = .ok (.invokestatic 98, 3) := oq_184 (byt chX11_end_0 13 rfl) (byt chX11_end_0 14 rfl) (byt chX11_end_0 15 rfl) rfl
theorem dX11_end_16 : decode cX11_end 16 = .ok (.ifCond .ne 5, 3) := oq_154 (byt chX11_end_1 0 rfl) (byt chX11_end_1 1 rfl) (byt chX11_end_1 2 rfl) (by decide +kernel)
theorem dX11_end_19 : decode cX11_end 19 = .ok (.iconst (-1), 1) := oq_2 (byt chX11_end_1 3 rfl)
theorem dX11_end_20 : decode cX11_end 20 = .ok (.ireturn, 1) := oq_172 (byt chX11_end_1 4 rfl)
theorem dX11_end_21 : decode cX11_end 21 = .ok (.aload_n 0, 1) := oq_42 (byt chX11_end_1 5 rfl)
theorem dX11_end_22 : decode cX11_end 22 = .ok (.getfield 13, 3) := oq_180 (byt chX11_end_1 6 rfl) (byt chX11_end_1 7 rfl) (byt chX11_end_1 8 rfl) rfl
theorem dX11_end_25 : decode cX11_end 25 = .ok (.iconst 0, 1) := oq_3 (byt chX11_end_1 9 rfl)
theorem dX11_end_26 : decode cX11_end 26 = .ok (.iload_n 1, 1) := oq_27 (byt chX11_end_1 10 rfl)
theorem dX11_end_27 : decode cX11_end 27 = .ok (.iastore, 1) := oq_79 (byt chX11_end_1 11 rfl)
theorem dX11_end_28 : decode cX11_end 28 = .ok (.iload_n 1, 1) := oq_27 (byt chX11_end_1 12 rfl)
theorem dX11_end_29 : decode cX11_end 29 = .ok (.ireturn, 1) := oq_172 (byt chX11_end_1 13 rfl)
abbrev mX11_end : MI := (yX11_end, cX11_end, 2, (some .int), noE)
theorem okX11_end : cok mX11_end 1 := ⟨tw1359, tw11, by decide, by decide, by decide, by decide +kernel⟩
def fX11_end (M : Mem) (a0 a1 : Int) : Option (Int × Mem) :=
  if M.2.1 a0 = 10 then bM (mst M a0 0 0) fun M2 => if M2.2.1 (M2.1 a0 2) = 12 ∧ (0 : Int) ≤ 0 ∧ 0 < M2.2.2.1 (M2.1 a0 2) then (fX11_in M2 a1 0 (M2.1 (M2.1 a0 2) 0)).bind fun r5 => if r5 = 0 then (some ((-1), M2)) else (if M2.2.1 (M2.1 a0 2) = 12 ∧ (0 : Int) ≤ 0 ∧ 0 < M2.2.2.1 (M2.1 a0 2) then bM (mst M2 (M2.1 a0 2) 0 a1) fun M9 => some (a1, M9) else none) else none else none
set_option maxRecDepth 100000 in
set_option maxHeartbeats 4000000 in
theorem kX11_end (d : Nat) (hd : 1 ≤ d) (M : Mem) (a0 a1 : Int) : Ct mX11_end d 0 0 [pA a0, pI a1] M dIM (fX11_end M a0 a1) := by
  obtain ⟨d, rfl⟩ : ∃ k, d = k + 1 := ⟨d - 1, by omega⟩
  refine Ct.of 0 (fun _ _ _ => trivial) (by decide +kernel) rfl ?_
  unfold fX11_end
  refine v_aload_n dX11_end_0 rfl ?_
  refine v_iconst dX11_end_1 (by decide) ?_
  refine v_if (fun h1 => ?_)
  refine v_put (x := 0) 10 0 rfl inX11 (by decide) tw1193 (Or.inl rfl) rfl dX11_end_2 h1 rfl id ?_
  refine v_bM (fun M2 e3 => ?_)
  refine v_iload_n dX11_end_5 rfl ?_
  refine v_iconst dX11_end_6 (by decide) ?_
  refine v_aload_n dX11_end_7 rfl ?_
  refine v_get (v := pA (M2.1 a0 2)) 10 2 rfl inX11 (by decide) tw1195 dX11_end_8 (by rw [e3]; exact h1) rfl ?_
  refine v_iconst dX11_end_11 (by decide) ?_
  refine v_if (fun h4 => ?_)
  refine v_iaload h4 dX11_end_12 ?_
  refine v_cS (mi := mX11_end) (c0 := 0) (c1 := 0) (As := [pI a1, pI 0, pI (M2.1 (M2.1 a0 2) 0)]) (st := []) (kX11_in d (by omega) _ _ _ _) okX11_in (Or.inl tw1360) tw1361 rfl (Nat.le_of_ble_eq_true rfl) dX11_end_13 (fun r5 => [pI r5]) (fun r5 => M2) (fun _ => rfl) (fun _ => rfl) (fun r5 h6 => ?_) rfl
  refine v_if_ne (tgt := 21) dX11_end_16 (by decide) (fun c7 => ?_) (fun c7 => ?_)
  · refine v_iconst dX11_end_19 (by decide) ?_
    exact v_ireturn dX11_end_20 rfl rfl
  · refine v_aload_n dX11_end_21 rfl ?_
    refine v_get (v := pA (M2.1 a0 2)) 10 2 rfl inX11 (by decide) tw1195 dX11_end_22 (by rw [e3]; exact h1) rfl ?_
    refine v_iconst dX11_end_25 (by decide) ?_
    refine v_iload_n dX11_end_26 rfl ?_
    refine v_if (fun h8 => ?_)
    refine v_iastore h8 dX11_end_27 ?_
    refine v_bM (fun M9 e10 => ?_)
    refine v_iload_n dX11_end_28 rfl ?_
    exact v_ireturn dX11_end_29 rfl rfl
theorem chX11_see_0 : (cX11_see.data.toList.drop 0).take 16 = [42, 180, 0, 106, 42, 180, 0, 109, 162, 0, 19, 42, 180, 0, 7, 42] := by decide +kernel
theorem chX11_see_1 : (cX11_see.data.toList.drop 16).take 16 = [180, 0, 106, 51, 17, 0, 255, 126, 167, 0, 4, 2, 172] := by decide +kernel
theorem dX11_see_0 : decode cX11_see 0 = .ok (.aload_n 0, 1) := oq_42 (byt chX11_see_0 0 rfl)
theorem dX11_see_1 : decode cX11_see 1 = .ok (.getfield 106, 3) := oq_180 (byt chX11_see_0 1 rfl) (byt chX11_see_0 2 rfl) (byt chX11_see_0 3 rfl) rfl
theorem dX11_see_4 : decode cX11_see 4 = .ok (.aload_n 0, 1) := oq_42 (byt chX11_see_0 4 rfl)
theorem dX11_see_5 : decode cX11_see 5 = .ok (.getfield 109, 3) := oq_180 (byt chX11_see_0 5 rfl) (byt chX11_see_0 6 rfl) (byt chX11_see_0 7 rfl) rfl
theorem dX11_see_8 : decode cX11_see 8 = .ok (.if_icmp .ge 19, 3) := oq_162 (byt chX11_see_0 8 rfl) (byt chX11_see_0 9 rfl) (byt chX11_see_0 10 rfl) (by decide +kernel)
theorem dX11_see_11 : decode cX11_see 11 = .ok (.aload_n 0, 1) := oq_42 (byt chX11_see_0 11 rfl)
theorem dX11_see_12 : decode cX11_see 12 = .ok (.getfield 7, 3) := oq_180 (byt chX11_see_0 12 rfl) (byt chX11_see_0 13 rfl) (byt chX11_see_0 14 rfl) rfl
theorem dX11_see_15 : decode cX11_see 15 = .ok (.aload_n 0, 1) := oq_42 (byt chX11_see_0 15 rfl)
theorem dX11_see_16 : decode cX11_see 16 = .ok (.getfield 106, 3) := oq_180 (byt chX11_see_1 0 rfl) (byt chX11_see_1 1 rfl) (byt chX11_see_1 2 rfl) rfl
theorem dX11_see_19 : decode cX11_see 19 = .ok (.baload, 1) := oq_51 (byt chX11_see_1 3 rfl)
theorem dX11_see_20 : decode cX11_see 20 = .ok (.sipush 255, 3) := oq_17 (byt chX11_see_1 4 rfl) (byt chX11_see_1 5 rfl) (byt chX11_see_1 6 rfl) (by decide +kernel)
theorem dX11_see_23 : decode cX11_see 23 = .ok (.iand, 1) := oq_126 (byt chX11_see_1 7 rfl)
theorem dX11_see_24 : decode cX11_see 24 = .ok (.goto 4, 3) := oq_167 (byt chX11_see_1 8 rfl) (byt chX11_see_1 9 rfl) (byt chX11_see_1 10 rfl) (by decide +kernel)
theorem dX11_see_27 : decode cX11_see 27 = .ok (.iconst (-1), 1) := oq_2 (byt chX11_see_1 11 rfl)
theorem dX11_see_28 : decode cX11_see 28 = .ok (.ireturn, 1) := oq_172 (byt chX11_see_1 12 rfl)
abbrev mX11_see : MI := (yX11_see, cX11_see, 1, (some .int), noE)
theorem okX11_see : cok mX11_see 0 := ⟨tw1390, tw11, by decide, by decide, by decide, by decide +kernel⟩
def fX11_see (M : Mem) (a0 : Int) : Option Int :=
  if M.2.1 a0 = 10 then if M.1 a0 10 < M.1 a0 11 then (if (M.2.1 (M.1 a0 1) = 11 ∨ M.2.1 (M.1 a0 1) = 13) ∧ (0 : Int) ≤ (M.1 a0 10) ∧ (M.1 a0 10) < M.2.2.1 (M.1 a0 1) then some (bAnd (M.1 (M.1 a0 1) (M.1 a0 10)) 255) else none) else (some (-1)) else none
set_option maxRecDepth 100000 in
set_option maxHeartbeats 4000000 in
theorem kX11_see (d : Nat) (hd : 0 ≤ d) (M : Mem) (a0 : Int) : Ct mX11_see d 0 0 [pA a0] M (dI M) (fX11_see M a0) := by
  refine Ct.of 0 (fun _ _ _ => trivial) (by decide +kernel) rfl ?_
  unfold fX11_see
  refine v_aload_n dX11_see_0 rfl ?_
  refine v_if (fun h1 => ?_)
  refine v_get (v := pI (M.1 a0 10)) 10 10 rfl inX11 (by decide) tw1203 dX11_see_1 h1 rfl ?_
  refine v_aload_n dX11_see_4 rfl ?_
  refine v_get (v := pI (M.1 a0 11)) 10 11 rfl inX11 (by decide) tw1204 dX11_see_5 h1 rfl ?_
  refine v_icmp_ge (tgt := 27) dX11_see_8 (by decide) (fun c2 => ?_) (fun c2 => ?_)
  · refine v_aload_n dX11_see_11 rfl ?_
    refine v_get (v := pA (M.1 a0 1)) 10 1 rfl inX11 (by decide) tw1194 dX11_see_12 h1 rfl ?_
    refine v_aload_n dX11_see_15 rfl ?_
    refine v_get (v := pI (M.1 a0 10)) 10 10 rfl inX11 (by decide) tw1203 dX11_see_16 h1 rfl ?_
    refine v_if (fun h3 => ?_)
    refine v_baload h3 dX11_see_19 ?_
    refine v_sipush dX11_see_20 (by decide) ?_
    refine v_iand dX11_see_23 ?_
    refine v_goto (tgt := 28) dX11_see_24 (by decide) ?_
    exact v_ireturn dX11_see_28 rfl rfl
  · refine v_iconst dX11_see_27 (by decide) ?_
    exact v_ireturn dX11_see_28 rfl rfl
theorem chX11_token_0 : (cX11_token.data.toList.drop 0).take 16 = [42, 182, 0, 112, 16, 10, 159, 0, 12, 42, 182, 0, 112, 16, 32, 160] := by decide +kernel
theorem chX11_token_1 : (cX11_token.data.toList.drop 16).take 16 = [0, 16, 42, 89, 180, 0, 106, 4, 96, 181, 0, 106, 167, 255, 228, 42] := by decide +kernel
theorem chX11_token_2 : (cX11_token.data.toList.drop 32).take 16 = [42, 180, 0, 106, 181, 0, 116, 42, 182, 0, 112, 60, 42, 9, 181, 0] := by decide +kernel
theorem chX11_token_3 : (cX11_token.data.toList.drop 48).take 16 = [119, 3, 61, 27, 156, 0, 11, 42, 3, 181, 0, 123, 167, 0, 206, 27] := by decide +kernel
theorem chX11_token_4 : (cX11_token.data.toList.drop 64).take 16 = [16, 97, 16, 122, 184, 0, 98, 153, 0, 76, 42, 182, 0, 112, 16, 97] := by decide +kernel
theorem chX11_token_5 : (cX11_token.data.toList.drop 80).take 16 = [16, 122, 184, 0, 98, 153, 0, 36, 42, 42, 180, 0, 119, 16, 8, 121] := by decide +kernel
theorem chX11_token_6 : (cX11_token.data.toList.drop 96).take 16 = [42, 182, 0, 112, 133, 129, 181, 0, 119, 42, 89, 180, 0, 106, 4, 96] := by decide +kernel
theorem chX11_token_7 : (cX11_token.data.toList.drop 112).take 16 = [181, 0, 106, 132, 2, 1, 167, 255, 212, 42, 28, 16, 8, 164, 0, 7] := by decide +kernel
theorem chX11_token_8 : (cX11_token.data.toList.drop 128).take 16 = [9, 167, 0, 7, 42, 180, 0, 119, 181, 0, 119, 42, 5, 181, 0, 123] := by decide +kernel
theorem chX11_token_9 : (cX11_token.data.toList.drop 144).take 16 = [167, 0, 122, 27, 16, 48, 16, 57, 184, 0, 98, 153, 0, 86, 42, 3] := by decide +kernel
theorem chX11_token_10 : (cX11_token.data.toList.drop 160).take 16 = [181, 0, 126, 42, 182, 0, 112, 16, 48, 16, 57, 184, 0, 98, 153, 0] := by decide +kernel
theorem chX11_token_11 : (cX11_token.data.toList.drop 176).take 16 = [50, 42, 28, 5, 162, 0, 21, 16, 10, 42, 180, 0, 126, 104, 42, 182] := by decide +kernel
theorem chX11_token_12 : (cX11_token.data.toList.drop 192).take 16 = [0, 112, 96, 16, 48, 100, 167, 0, 7, 42, 180, 0, 126, 181, 0, 126] := by decide +kernel
theorem chX11_token_13 : (cX11_token.data.toList.drop 208).take 16 = [42, 89, 180, 0, 106, 4, 96, 181, 0, 106, 132, 2, 1, 167, 255, 198] := by decide +kernel
theorem chX11_token_14 : (cX11_token.data.toList.drop 224).take 16 = [42, 28, 5, 164, 0, 7, 4, 167, 0, 4, 6, 181, 0, 123, 167, 0] := by decide +kernel
theorem chX11_token_15 : (cX11_token.data.toList.drop 240).take 16 = [28, 42, 89, 180, 0, 106, 4, 96, 181, 0, 106, 42, 27, 16, 59, 160] := by decide +kernel
theorem chX11_token_16 : (cX11_token.data.toList.drop 256).take 16 = [0, 7, 7, 167, 0, 4, 4, 181, 0, 123, 177] := by decide +kernel
theorem dX11_token_0 : decode cX11_token 0 = .ok (.aload_n 0, 1) := oq_42 (byt chX11_token_0 0 rfl)
theorem dX11_token_1 : decode cX11_token 1 = .ok (.invokevirtual 112, 3) := oq_182 (byt chX11_token_0 1 rfl) (byt chX11_token_0 2 rfl) (byt chX11_token_0 3 rfl) rfl
theorem dX11_token_4 : decode cX11_token 4 = .ok (.bipush 10, 2) := oq_16 (byt chX11_token_0 4 rfl) (byt chX11_token_0 5 rfl) rfl
theorem dX11_token_6 : decode cX11_token 6 = .ok (.if_icmp .eq 12, 3) := oq_159 (byt chX11_token_0 6 rfl) (byt chX11_token_0 7 rfl) (byt chX11_token_0 8 rfl) (by decide +kernel)
theorem dX11_token_9 : decode cX11_token 9 = .ok (.aload_n 0, 1) := oq_42 (byt chX11_token_0 9 rfl)
theorem dX11_token_10 : decode cX11_token 10 = .ok (.invokevirtual 112, 3) := oq_182 (byt chX11_token_0 10 rfl) (byt chX11_token_0 11 rfl) (byt chX11_token_0 12 rfl) rfl
theorem dX11_token_13 : decode cX11_token 13 = .ok (.bipush 32, 2) := oq_16 (byt chX11_token_0 13 rfl) (byt chX11_token_0 14 rfl) rfl
theorem dX11_token_15 : decode cX11_token 15 = .ok (.if_icmp .ne 16, 3) := oq_160 (byt chX11_token_0 15 rfl) (byt chX11_token_1 0 rfl) (byt chX11_token_1 1 rfl) (by decide +kernel)
theorem dX11_token_18 : decode cX11_token 18 = .ok (.aload_n 0, 1) := oq_42 (byt chX11_token_1 2 rfl)
theorem dX11_token_19 : decode cX11_token 19 = .ok (.dup, 1) := oq_89 (byt chX11_token_1 3 rfl)
theorem dX11_token_20 : decode cX11_token 20 = .ok (.getfield 106, 3) := oq_180 (byt chX11_token_1 4 rfl) (byt chX11_token_1 5 rfl) (byt chX11_token_1 6 rfl) rfl
theorem dX11_token_23 : decode cX11_token 23 = .ok (.iconst 1, 1) := oq_4 (byt chX11_token_1 7 rfl)
theorem dX11_token_24 : decode cX11_token 24 = .ok (.iadd, 1) := oq_96 (byt chX11_token_1 8 rfl)
theorem dX11_token_25 : decode cX11_token 25 = .ok (.putfield 106, 3) := oq_181 (byt chX11_token_1 9 rfl) (byt chX11_token_1 10 rfl) (byt chX11_token_1 11 rfl) rfl
theorem dX11_token_28 : decode cX11_token 28 = .ok (.goto (-28), 3) := oq_167 (byt chX11_token_1 12 rfl) (byt chX11_token_1 13 rfl) (byt chX11_token_1 14 rfl) (by decide +kernel)
theorem dX11_token_31 : decode cX11_token 31 = .ok (.aload_n 0, 1) := oq_42 (byt chX11_token_1 15 rfl)
theorem dX11_token_32 : decode cX11_token 32 = .ok (.aload_n 0, 1) := oq_42 (byt chX11_token_2 0 rfl)
theorem dX11_token_33 : decode cX11_token 33 = .ok (.getfield 106, 3) := oq_180 (byt chX11_token_2 1 rfl) (byt chX11_token_2 2 rfl) (byt chX11_token_2 3 rfl) rfl
theorem dX11_token_36 : decode cX11_token 36 = .ok (.putfield 116, 3) := oq_181 (byt chX11_token_2 4 rfl) (byt chX11_token_2 5 rfl) (byt chX11_token_2 6 rfl) rfl
theorem dX11_token_39 : decode cX11_token 39 = .ok (.aload_n 0, 1) := oq_42 (byt chX11_token_2 7 rfl)
theorem dX11_token_40 : decode cX11_token 40 = .ok (.invokevirtual 112, 3) := oq_182 (byt chX11_token_2 8 rfl) (byt chX11_token_2 9 rfl) (byt chX11_token_2 10 rfl) rfl
theorem dX11_token_43 : decode cX11_token 43 = .ok (.istore_n 1, 1) := oq_60 (byt chX11_token_2 11 rfl)
theorem dX11_token_44 : decode cX11_token 44 = .ok (.aload_n 0, 1) := oq_42 (byt chX11_token_2 12 rfl)
theorem dX11_token_45 : decode cX11_token 45 = .ok (.lconst 0, 1) := oq_9 (byt chX11_token_2 13 rfl)
theorem dX11_token_46 : decode cX11_token 46 = .ok (.putfield 119, 3) := oq_181 (byt chX11_token_2 14 rfl) (byt chX11_token_2 15 rfl) (byt chX11_token_3 0 rfl) rfl
theorem dX11_token_49 : decode cX11_token 49 = .ok (.iconst 0, 1) := oq_3 (byt chX11_token_3 1 rfl)
theorem dX11_token_50 : decode cX11_token 50 = .ok (.istore_n 2, 1) := oq_61 (byt chX11_token_3 2 rfl)
theorem dX11_token_51 : decode cX11_token 51 = .ok (.iload_n 1, 1) := oq_27 (byt chX11_token_3 3 rfl)
theorem dX11_token_52 : decode cX11_token 52 = .ok (.ifCond .ge 11, 3) := oq_156 (byt chX11_token_3 4 rfl) (byt chX11_token_3 5 rfl) (byt chX11_token_3 6 rfl) (by decide +kernel)
theorem dX11_token_55 : decode cX11_token 55 = .ok (.aload_n 0, 1) := oq_42 (byt chX11_token_3 7 rfl)
theorem dX11_token_56 : decode cX11_token 56 = .ok (.iconst 0, 1) := oq_3 (byt chX11_token_3 8 rfl)
theorem dX11_token_57 : decode cX11_token 57 = .ok (.putfield 123, 3) := oq_181 (byt chX11_token_3 9 rfl) (byt chX11_token_3 10 rfl) (byt chX11_token_3 11 rfl) rfl
theorem dX11_token_60 : decode cX11_token 60 = .ok (.goto 206, 3) := oq_167 (byt chX11_token_3 12 rfl) (byt chX11_token_3 13 rfl) (byt chX11_token_3 14 rfl) (by decide +kernel)
theorem dX11_token_63 : decode cX11_token 63 = .ok (.iload_n 1, 1) := oq_27 (byt chX11_token_3 15 rfl)
theorem dX11_token_64 : decode cX11_token 64 = .ok (.bipush 97, 2) := oq_16 (byt chX11_token_4 0 rfl) (byt chX11_token_4 1 rfl) rfl
theorem dX11_token_66 : decode cX11_token 66 = .ok (.bipush 122, 2) := oq_16 (byt chX11_token_4 2 rfl) (byt chX11_token_4 3 rfl) rfl
theorem dX11_token_68 : decode cX11_token 68 = .ok (.invokestatic 98, 3) := oq_184 (byt chX11_token_4 4 rfl) (byt chX11_token_4 5 rfl) (byt chX11_token_4 6 rfl) rfl
theorem dX11_token_71 : decode cX11_token 71 = .ok (.ifCond .eq 76, 3) := oq_153 (byt chX11_token_4 7 rfl) (byt chX11_token_4 8 rfl) (byt chX11_token_4 9 rfl) (by decide +kernel)
theorem dX11_token_74 : decode cX11_token 74 = .ok (.aload_n 0, 1) := oq_42 (byt chX11_token_4 10 rfl)
theorem dX11_token_75 : decode cX11_token 75 = .ok (.invokevirtual 112, 3) := oq_182 (byt chX11_token_4 11 rfl) (byt chX11_token_4 12 rfl) (byt chX11_token_4 13 rfl) rfl
theorem dX11_token_78 : decode cX11_token 78 = .ok (.bipush 97, 2) := oq_16 (byt chX11_token_4 14 rfl) (byt chX11_token_4 15 rfl) rfl
theorem dX11_token_80 : decode cX11_token 80 = .ok (.bipush 122, 2) := oq_16 (byt chX11_token_5 0 rfl) (byt chX11_token_5 1 rfl) rfl
theorem dX11_token_82 : decode cX11_token 82 = .ok (.invokestatic 98, 3) := oq_184 (byt chX11_token_5 2 rfl) (byt chX11_token_5 3 rfl) (byt chX11_token_5 4 rfl) rfl
theorem dX11_token_85 : decode cX11_token 85 = .ok (.ifCond .eq 36, 3) := oq_153 (byt chX11_token_5 5 rfl) (byt chX11_token_5 6 rfl) (byt chX11_token_5 7 rfl) (by decide +kernel)
theorem dX11_token_88 : decode cX11_token 88 = .ok (.aload_n 0, 1) := oq_42 (byt chX11_token_5 8 rfl)
theorem dX11_token_89 : decode cX11_token 89 = .ok (.aload_n 0, 1) := oq_42 (byt chX11_token_5 9 rfl)
theorem dX11_token_90 : decode cX11_token 90 = .ok (.getfield 119, 3) := oq_180 (byt chX11_token_5 10 rfl) (byt chX11_token_5 11 rfl) (byt chX11_token_5 12 rfl) rfl
theorem dX11_token_93 : decode cX11_token 93 = .ok (.bipush 8, 2) := oq_16 (byt chX11_token_5 13 rfl) (byt chX11_token_5 14 rfl) rfl
theorem dX11_token_95 : decode cX11_token 95 = .ok (.lshl, 1) := oq_121 (byt chX11_token_5 15 rfl)
theorem dX11_token_96 : decode cX11_token 96 = .ok (.aload_n 0, 1) := oq_42 (byt chX11_token_6 0 rfl)
theorem dX11_token_97 : decode cX11_token 97 = .ok (.invokevirtual 112, 3) := oq_182 (byt chX11_token_6 1 rfl) (byt chX11_token_6 2 rfl) (byt chX11_token_6 3 rfl) rfl
theorem dX11_token_100 : decode cX11_token 100 = .ok (.i2l, 1) := oq_133 (byt chX11_token_6 4 rfl)
theorem dX11_token_101 : decode cX11_token 101 = .ok (.lor, 1) := oq_129 (byt chX11_token_6 5 rfl)
theorem dX11_token_102 : decode cX11_token 102 = .ok (.putfield 119, 3) := oq_181 (byt chX11_token_6 6 rfl) (byt chX11_token_6 7 rfl) (byt chX11_token_6 8 rfl) rfl
theorem dX11_token_105 : decode cX11_token 105 = .ok (.aload_n 0, 1) := oq_42 (byt chX11_token_6 9 rfl)
theorem dX11_token_106 : decode cX11_token 106 = .ok (.dup, 1) := oq_89 (byt chX11_token_6 10 rfl)
theorem dX11_token_107 : decode cX11_token 107 = .ok (.getfield 106, 3) := oq_180 (byt chX11_token_6 11 rfl) (byt chX11_token_6 12 rfl) (byt chX11_token_6 13 rfl) rfl
theorem dX11_token_110 : decode cX11_token 110 = .ok (.iconst 1, 1) := oq_4 (byt chX11_token_6 14 rfl)
theorem dX11_token_111 : decode cX11_token 111 = .ok (.iadd, 1) := oq_96 (byt chX11_token_6 15 rfl)
theorem dX11_token_112 : decode cX11_token 112 = .ok (.putfield 106, 3) := oq_181 (byt chX11_token_7 0 rfl) (byt chX11_token_7 1 rfl) (byt chX11_token_7 2 rfl) rfl
theorem dX11_token_115 : decode cX11_token 115 = .ok (.iinc 2 1, 3) := oq_132 (byt chX11_token_7 3 rfl) (byt chX11_token_7 4 rfl) (byt chX11_token_7 5 rfl) rfl
theorem dX11_token_118 : decode cX11_token 118 = .ok (.goto (-44), 3) := oq_167 (byt chX11_token_7 6 rfl) (byt chX11_token_7 7 rfl) (byt chX11_token_7 8 rfl) (by decide +kernel)
theorem dX11_token_121 : decode cX11_token 121 = .ok (.aload_n 0, 1) := oq_42 (byt chX11_token_7 9 rfl)
theorem dX11_token_122 : decode cX11_token 122 = .ok (.iload_n 2, 1) := oq_28 (byt chX11_token_7 10 rfl)
theorem dX11_token_123 : decode cX11_token 123 = .ok (.bipush 8, 2) := oq_16 (byt chX11_token_7 11 rfl) (byt chX11_token_7 12 rfl) rfl
theorem dX11_token_125 : decode cX11_token 125 = .ok (.if_icmp .le 7, 3) := oq_164 (byt chX11_token_7 13 rfl) (byt chX11_token_7 14 rfl) (byt chX11_token_7 15 rfl) (by decide +kernel)
theorem dX11_token_128 : decode cX11_token 128 = .ok (.lconst 0, 1) := oq_9 (byt chX11_token_8 0 rfl)
theorem dX11_token_129 : decode cX11_token 129 = .ok (.goto 7, 3) := oq_167 (byt chX11_token_8 1 rfl) (byt chX11_token_8 2 rfl) (byt chX11_token_8 3 rfl) (by decide +kernel)
theorem dX11_token_132 : decode cX11_token 132 = .ok (.aload_n 0, 1) := oq_42 (byt chX11_token_8 4 rfl)
theorem dX11_token_133 : decode cX11_token 133 = .ok (.getfield 119, 3) := oq_180 (byt chX11_token_8 5 rfl) (byt chX11_token_8 6 rfl) (byt chX11_token_8 7 rfl) rfl
theorem dX11_token_136 : decode cX11_token 136 = .ok (.putfield 119, 3) := oq_181 (byt chX11_token_8 8 rfl) (byt chX11_token_8 9 rfl) (byt chX11_token_8 10 rfl) rfl
theorem dX11_token_139 : decode cX11_token 139 = .ok (.aload_n 0, 1) := oq_42 (byt chX11_token_8 11 rfl)
theorem dX11_token_140 : decode cX11_token 140 = .ok (.iconst 2, 1) := oq_5 (byt chX11_token_8 12 rfl)
theorem dX11_token_141 : decode cX11_token 141 = .ok (.putfield 123, 3) := oq_181 (byt chX11_token_8 13 rfl) (byt chX11_token_8 14 rfl) (byt chX11_token_8 15 rfl) rfl
theorem dX11_token_144 : decode cX11_token 144 = .ok (.goto 122, 3) := oq_167 (byt chX11_token_9 0 rfl) (byt chX11_token_9 1 rfl) (byt chX11_token_9 2 rfl) (by decide +kernel)
theorem dX11_token_147 : decode cX11_token 147 = .ok (.iload_n 1, 1) := oq_27 (byt chX11_token_9 3 rfl)
theorem dX11_token_148 : decode cX11_token 148 = .ok (.bipush 48, 2) := oq_16 (byt chX11_token_9 4 rfl) (byt chX11_token_9 5 rfl) rfl
theorem dX11_token_150 : decode cX11_token 150 = .ok (.bipush 57, 2) := oq_16 (byt chX11_token_9 6 rfl) (byt chX11_token_9 7 rfl) rfl
theorem dX11_token_152 : decode cX11_token 152 = .ok (.invokestatic 98, 3) := oq_184 (byt chX11_token_9 8 rfl) (byt chX11_token_9 9 rfl) (byt chX11_token_9 10 rfl) rfl
theorem dX11_token_155 : decode cX11_token 155 = .ok (.ifCond .eq 86, 3) := oq_153 (byt chX11_token_9 11 rfl) (byt chX11_token_9 12 rfl) (byt chX11_token_9 13 rfl) (by decide +kernel)
theorem dX11_token_158 : decode cX11_token 158 = .ok (.aload_n 0, 1) := oq_42 (byt chX11_token_9 14 rfl)
theorem dX11_token_159 : decode cX11_token 159 = .ok (.iconst 0, 1) := oq_3 (byt chX11_token_9 15 rfl)
theorem dX11_token_160 : decode cX11_token 160 = .ok (.putfield 126, 3) := oq_181 (byt chX11_token_10 0 rfl) (byt chX11_token_10 1 rfl) (byt chX11_token_10 2 rfl) rfl
theorem dX11_token_163 : decode cX11_token 163 = .ok (.aload_n 0, 1) := oq_42 (byt chX11_token_10 3 rfl)
theorem dX11_token_164 : decode cX11_token 164 = .ok (.invokevirtual 112, 3) := oq_182 (byt chX11_token_10 4 rfl) (byt chX11_token_10 5 rfl) (byt chX11_token_10 6 rfl) rfl
theorem dX11_token_167 : decode cX11_token 167 = .ok (.bipush 48, 2) := oq_16 (byt chX11_token_10 7 rfl) (byt chX11_token_10 8 rfl) rfl
theorem dX11_token_169 : decode cX11_token 169 = .ok (.bipush 57, 2) := oq_16 (byt chX11_token_10 9 rfl) (byt chX11_token_10 10 rfl) rfl
theorem dX11_token_171 : decode cX11_token 171 = .ok (.invokestatic 98, 3) := oq_184 (byt chX11_token_10 11 rfl) (byt chX11_token_10 12 rfl) (byt chX11_token_10 13 rfl) rfl
theorem dX11_token_174 : decode cX11_token 174 = .ok (.ifCond .eq 50, 3) := oq_153 (byt chX11_token_10 14 rfl) (byt chX11_token_10 15 rfl) (byt chX11_token_11 0 rfl) (by decide +kernel)
theorem dX11_token_177 : decode cX11_token 177 = .ok (.aload_n 0, 1) := oq_42 (byt chX11_token_11 1 rfl)
theorem dX11_token_178 : decode cX11_token 178 = .ok (.iload_n 2, 1) := oq_28 (byt chX11_token_11 2 rfl)
theorem dX11_token_179 : decode cX11_token 179 = .ok (.iconst 2, 1) := oq_5 (byt chX11_token_11 3 rfl)
theorem dX11_token_180 : decode cX11_token 180 = .ok (.if_icmp .ge 21, 3) := oq_162 (byt chX11_token_11 4 rfl) (byt chX11_token_11 5 rfl) (byt chX11_token_11 6 rfl) (by decide +kernel)
theorem dX11_token_183 : decode cX11_token 183 = .ok (.bipush 10, 2) := oq_16 (byt chX11_token_11 7 rfl) (byt chX11_token_11 8 rfl) rfl
theorem dX11_token_185 : decode cX11_token 185 = .ok (.aload_n 0, 1) := oq_42 (byt chX11_token_11 9 rfl)
theorem dX11_token_186 : decode cX11_token 186 = .ok (.getfield 126, 3) := oq_180 (byt chX11_token_11 10 rfl) (byt chX11_token_11 11 rfl) (byt chX11_token_11 12 rfl) rfl
theorem dX11_token_189 : decode cX11_token 189 = .ok (.imul, 1) := oq_104 (byt chX11_token_11 13 rfl)
theorem dX11_token_190 : decode cX11_token 190 = .ok (.aload_n 0, 1) := oq_42 (byt chX11_token_11 14 rfl)
theorem dX11_token_191 : decode cX11_token 191 = .ok (.invokevirtual 112, 3) := oq_182 (byt chX11_token_11 15 rfl) (byt chX11_token_12 0 rfl) (byt chX11_token_12 1 rfl) rfl
theorem dX11_token_194 : decode cX11_token 194 = .ok (.iadd, 1) := oq_96 (byt chX11_token_12 2 rfl)
theorem dX11_token_195 : decode cX11_token 195 = .ok (.bipush 48, 2) := oq_16 (byt chX11_token_12 3 rfl) (byt chX11_token_12 4 rfl) rfl
theorem dX11_token_197 : decode cX11_token 197 = .ok (.isub, 1) := oq_100 (byt chX11_token_12 5 rfl)
theorem dX11_token_198 : decode cX11_token 198 = .ok (.goto 7, 3) := oq_167 (byt chX11_token_12 6 rfl) (byt chX11_token_12 7 rfl) (byt chX11_token_12 8 rfl) (by decide +kernel)
theorem dX11_token_201 : decode cX11_token 201 = .ok (.aload_n 0, 1) := oq_42 (byt chX11_token_12 9 rfl)
theorem dX11_token_202 : decode cX11_token 202 = .ok (.getfield 126, 3) := oq_180 (byt chX11_token_12 10 rfl) (byt chX11_token_12 11 rfl) (byt chX11_token_12 12 rfl) rfl
theorem dX11_token_205 : decode cX11_token 205 = .ok (.putfield 126, 3) := oq_181 (byt chX11_token_12 13 rfl) (byt chX11_token_12 14 rfl) (byt chX11_token_12 15 rfl) rfl
theorem dX11_token_208 : decode cX11_token 208 = .ok (.aload_n 0, 1) := oq_42 (byt chX11_token_13 0 rfl)
theorem dX11_token_209 : decode cX11_token 209 = .ok (.dup, 1) := oq_89 (byt chX11_token_13 1 rfl)
theorem dX11_token_210 : decode cX11_token 210 = .ok (.getfield 106, 3) := oq_180 (byt chX11_token_13 2 rfl) (byt chX11_token_13 3 rfl) (byt chX11_token_13 4 rfl) rfl
theorem dX11_token_213 : decode cX11_token 213 = .ok (.iconst 1, 1) := oq_4 (byt chX11_token_13 5 rfl)
theorem dX11_token_214 : decode cX11_token 214 = .ok (.iadd, 1) := oq_96 (byt chX11_token_13 6 rfl)
theorem dX11_token_215 : decode cX11_token 215 = .ok (.putfield 106, 3) := oq_181 (byt chX11_token_13 7 rfl) (byt chX11_token_13 8 rfl) (byt chX11_token_13 9 rfl) rfl
theorem dX11_token_218 : decode cX11_token 218 = .ok (.iinc 2 1, 3) := oq_132 (byt chX11_token_13 10 rfl) (byt chX11_token_13 11 rfl) (byt chX11_token_13 12 rfl) rfl
theorem dX11_token_221 : decode cX11_token 221 = .ok (.goto (-58), 3) := oq_167 (byt chX11_token_13 13 rfl) (byt chX11_token_13 14 rfl) (byt chX11_token_13 15 rfl) (by decide +kernel)
theorem dX11_token_224 : decode cX11_token 224 = .ok (.aload_n 0, 1) := oq_42 (byt chX11_token_14 0 rfl)
theorem dX11_token_225 : decode cX11_token 225 = .ok (.iload_n 2, 1) := oq_28 (byt chX11_token_14 1 rfl)
theorem dX11_token_226 : decode cX11_token 226 = .ok (.iconst 2, 1) := oq_5 (byt chX11_token_14 2 rfl)
theorem dX11_token_227 : decode cX11_token 227 = .ok (.if_icmp .le 7, 3) := oq_164 (byt chX11_token_14 3 rfl) (byt chX11_token_14 4 rfl) (byt chX11_token_14 5 rfl) (by decide +kernel)
theorem dX11_token_230 : decode cX11_token 230 = .ok (.iconst 1, 1) := oq_4 (byt chX11_token_14 6 rfl)
theorem dX11_token_231 : decode cX11_token 231 = .ok (.goto 4, 3) := oq_167 (byt chX11_token_14 7 rfl) (byt chX11_token_14 8 rfl) (byt chX11_token_14 9 rfl) (by decide +kernel)
theorem dX11_token_234 : decode cX11_token 234 = .ok (.iconst 3, 1) := oq_6 (byt chX11_token_14 10 rfl)
theorem dX11_token_235 : decode cX11_token 235 = .ok (.putfield 123, 3) := oq_181 (byt chX11_token_14 11 rfl) (byt chX11_token_14 12 rfl) (byt chX11_token_14 13 rfl) rfl
theorem dX11_token_238 : decode cX11_token 238 = .ok (.goto 28, 3) := oq_167 (byt chX11_token_14 14 rfl) (byt chX11_token_14 15 rfl) (byt chX11_token_15 0 rfl) (by decide +kernel)
theorem dX11_token_241 : decode cX11_token 241 = .ok (.aload_n 0, 1) := oq_42 (byt chX11_token_15 1 rfl)
theorem dX11_token_242 : decode cX11_token 242 = .ok (.dup, 1) := oq_89 (byt chX11_token_15 2 rfl)
theorem dX11_token_243 : decode cX11_token 243 = .ok (.getfield 106, 3) := oq_180 (byt chX11_token_15 3 rfl) (byt chX11_token_15 4 rfl) (byt chX11_token_15 5 rfl) rfl
theorem dX11_token_246 : decode cX11_token 246 = .ok (.iconst 1, 1) := oq_4 (byt chX11_token_15 6 rfl)
theorem dX11_token_247 : decode cX11_token 247 = .ok (.iadd, 1) := oq_96 (byt chX11_token_15 7 rfl)
theorem dX11_token_248 : decode cX11_token 248 = .ok (.putfield 106, 3) := oq_181 (byt chX11_token_15 8 rfl) (byt chX11_token_15 9 rfl) (byt chX11_token_15 10 rfl) rfl
theorem dX11_token_251 : decode cX11_token 251 = .ok (.aload_n 0, 1) := oq_42 (byt chX11_token_15 11 rfl)
theorem dX11_token_252 : decode cX11_token 252 = .ok (.iload_n 1, 1) := oq_27 (byt chX11_token_15 12 rfl)
theorem dX11_token_253 : decode cX11_token 253 = .ok (.bipush 59, 2) := oq_16 (byt chX11_token_15 13 rfl) (byt chX11_token_15 14 rfl) rfl
theorem dX11_token_255 : decode cX11_token 255 = .ok (.if_icmp .ne 7, 3) := oq_160 (byt chX11_token_15 15 rfl) (byt chX11_token_16 0 rfl) (byt chX11_token_16 1 rfl) (by decide +kernel)
theorem dX11_token_258 : decode cX11_token 258 = .ok (.iconst 4, 1) := oq_7 (byt chX11_token_16 2 rfl)
theorem dX11_token_259 : decode cX11_token 259 = .ok (.goto 4, 3) := oq_167 (byt chX11_token_16 3 rfl) (byt chX11_token_16 4 rfl) (byt chX11_token_16 5 rfl) (by decide +kernel)
theorem dX11_token_262 : decode cX11_token 262 = .ok (.iconst 1, 1) := oq_4 (byt chX11_token_16 6 rfl)
theorem dX11_token_263 : decode cX11_token 263 = .ok (.putfield 123, 3) := oq_181 (byt chX11_token_16 7 rfl) (byt chX11_token_16 8 rfl) (byt chX11_token_16 9 rfl) rfl
theorem dX11_token_266 : decode cX11_token 266 = .ok (.return_, 1) := oq_177 (byt chX11_token_16 10 rfl)
abbrev mX11_token : MI := (yX11_token, cX11_token, 3, none, noE)
theorem okX11_token : cok mX11_token 0 := ⟨tw1386, tw11, by decide, by decide, by decide, by decide +kernel⟩
def fX11_token (M : Mem) (a0 : Int) : Option Mem :=
  iterC (fun (rec1 : Mem → Option Mem) (s2 : Mem) => if s2.2.1 a0 = 10 then (fX11_see s2 a0).bind fun r3 => jn (fun (t7 : Unit) => bM (mst s2 a0 10 (w32 ((s2.1 a0 10) + 1))) fun M8 => rec1 M8) (fun (j6 : Unit → Option Mem) => if r3 = 10 then (j6 ()) else ((fX11_see s2 a0).bind fun r11 => if r11 = 32 then (j6 ()) else (bM (mst s2 a0 12 (s2.1 a0 10)) fun M14 => (fX11_see M14 a0).bind fun r16 => bM (mst M14 a0 15 0) fun M18 => if r16 < 0 then (bM (mst M18 a0 13 0) fun M21 => some M21) else ((fX11_in M18 r16 97 122).bind fun r23 => if r23 = 0 then ((fX11_in M18 r16 48 57).bind fun r26 => if r26 = 0 then (bM (mst M18 a0 10 (w32 ((M18.1 a0 10) + 1))) fun M29 => jn (fun (t32 : Int) => bM (mst M29 a0 13 t32) fun M33 => some M33) (fun (j31 : Int → Option Mem) => if r16 = 59 then (j31 4) else (j31 1))) else (bM (mst M18 a0 14 0) fun M36 => iterC (fun (rec38 : (Int × Mem) → Option Mem) (s39 : Int × Mem) => if s39.2.2.1 a0 = 10 then (fX11_see s39.2 a0).bind fun r40 => (fX11_in s39.2 r40 48 57).bind fun r43 => if r43 = 0 then (jn (fun (t47 : Int) => bM (mst s39.2 a0 13 t47) fun M48 => some M48) (fun (j46 : Int → Option Mem) => if 2 < s39.1 then (j46 1) else (j46 3))) else (jn (fun (t52 : Int) => bM (mst s39.2 a0 14 t52) fun M53 => bM (mst M53 a0 10 (w32 ((M53.1 a0 10) + 1))) fun M55 => rec38 (w32 (s39.1 + 1), M55)) (fun (j51 : Int → Option Mem) => if s39.1 < 2 then ((fX11_see s39.2 a0).bind fun r58 => j51 (w32 ((w32 ((w32 (10 * (s39.2.1 a0 14))) + r58)) - 48))) else (j51 (s39.2.1 a0 14)))) else none) BIG (0, M36))) else (iterC (fun (rec60 : (Int × Mem) → Option Mem) (s61 : Int × Mem) => if s61.2.2.1 a0 = 10 then (fX11_see s61.2 a0).bind fun r62 => (fX11_in s61.2 r62 97 122).bind fun r65 => if r65 = 0 then (jn (fun (t69 : Int) => bM (mst s61.2 a0 15 t69) fun M70 => bM (mst M70 a0 13 2) fun M72 => some M72) (fun (j68 : Int → Option Mem) => if 8 < s61.1 then (j68 0) else (j68 (s61.2.1 a0 15)))) else ((fX11_see s61.2 a0).bind fun r75 => bM (mst s61.2 a0 15 (lOr (lShl (s61.2.1 a0 15) 8) r75)) fun M77 => bM (mst M77 a0 10 (w32 ((M77.1 a0 10) + 1))) fun M79 => rec60 (w32 (s61.1 + 1), M79)) else none) BIG (0, M18)))))) else none) BIG M
set_option maxRecDepth 100000 in
set_option maxHeartbeats 4000000 in
theorem kX11_token (d : Nat) (hd : 1 ≤ d) (M : Mem) (a0 : Int) : Ct mX11_token d 0 0 [pA a0] M dV (fX11_token M a0) := by
  obtain ⟨d, rfl⟩ : ∃ k, d = k + 1 := ⟨d - 1, by omega⟩
  refine Ct.of 2 (fun _ _ _ => trivial) (by decide +kernel) rfl ?_
  unfold fX11_token
  refine v_loop (fun (s2 : Mem) => [some (pA a0), none, none]) (fun (s2 : Mem) => s2) (s0 := M) ?_
  intro rec1 hrec1 s2
  refine v_aload_n dX11_token_0 rfl ?_
  refine v_if (fun h5 => ?_)
  refine v_cV (mi := mX11_token) (c0 := 0) (c1 := 0) (As := []) (st := []) (kX11_see d (by omega) _ _) rfl h5 rfl okX11_see (Or.inl tw1387) tw1389 tp33 rfl (Nat.le_of_ble_eq_true rfl) dX11_token_1 (fun r3 => [pI r3]) (fun r3 => s2) (fun _ => rfl) (fun _ => rfl) (fun r3 h4 => ?_) rfl
  refine v_bipush dX11_token_4 (by decide) ?_
  refine v_join (fun (t7 : Unit) => [some (pA a0), none, none]) (fun (t7 : Unit) => []) (fun (t7 : Unit) => s2) 18 (fun t7 => ?_) (fun j6 hj6 => ?_)
  · refine v_aload_n dX11_token_18 rfl ?_
    refine v_dup dX11_token_19 (by intro z hz; cases hz) ?_
    refine v_get (v := pI (s2.1 a0 10)) 10 10 rfl inX11 (by decide) tw1203 dX11_token_20 h5 rfl ?_
    refine v_iconst dX11_token_23 (by decide) ?_
    refine v_iadd dX11_token_24 ?_
    refine v_put (x := w32 ((s2.1 a0 10) + 1)) 10 10 rfl inX11 (by decide) tw1203 (Or.inl rfl) rfl dX11_token_25 h5 rfl id ?_
    refine v_bM (fun M8 e9 => ?_)
    refine v_goto (tgt := 0) dX11_token_28 (by decide) ?_
    exact hrec1 M8
  · refine v_icmp_eq (tgt := 18) dX11_token_6 (by decide) (fun c10 => ?_) (fun c10 => ?_)
    · exact hj6 ()
    · refine v_aload_n dX11_token_9 rfl ?_
      refine v_cV (mi := mX11_token) (c0 := 0) (c1 := 0) (As := []) (st := []) (kX11_see d (by omega) _ _) rfl h5 rfl okX11_see (Or.inl tw1387) tw1389 tp33 rfl (Nat.le_of_ble_eq_true rfl) dX11_token_10 (fun r11 => [pI r11]) (fun r11 => s2) (fun _ => rfl) (fun _ => rfl) (fun r11 h12 => ?_) rfl
      refine v_bipush dX11_token_13 (by decide) ?_
      refine v_icmp_ne (tgt := 31) dX11_token_15 (by decide) (fun c13 => ?_) (fun c13 => ?_)
      · exact hj6 ()
      · refine v_aload_n dX11_token_31 rfl ?_
        refine v_aload_n dX11_token_32 rfl ?_
        refine v_get (v := pI (s2.1 a0 10)) 10 10 rfl inX11 (by decide) tw1203 dX11_token_33 h5 rfl ?_
        refine v_put (x := s2.1 a0 10) 10 12 rfl inX11 (by decide) tw1205 (Or.inl rfl) rfl dX11_token_36 h5 rfl id ?_
        refine v_bM (fun M14 e15 => ?_)
        refine v_aload_n dX11_token_39 rfl ?_
        refine v_cV (mi := mX11_token) (c0 := 0) (c1 := 0) (As := []) (st := []) (kX11_see d (by omega) _ _) rfl (by rw [e15]; exact h5) rfl okX11_see (Or.inl tw1387) tw1389 tp33 rfl (Nat.le_of_ble_eq_true rfl) dX11_token_40 (fun r16 => [pI r16]) (fun r16 => M14) (fun _ => rfl) (fun _ => rfl) (fun r16 h17 => ?_) rfl
        refine v_istore_n (ls' := [some (pA a0), some (pI r16), none]) dX11_token_43 (by decide) rfl ?_
        refine v_aload_n dX11_token_44 rfl ?_
        refine v_lconst0 dX11_token_45 ?_
        refine v_put (x := 0) 10 15 rfl inX11 (by decide) tw1208 (Or.inl rfl) rfl dX11_token_46 (by rw [e15]; exact h5) rfl id ?_
        refine v_bM (fun M18 e19 => ?_)
        refine v_iconst dX11_token_49 (by decide) ?_
        refine v_istore_n (ls' := [some (pA a0), some (pI r16), some (pI 0)]) dX11_token_50 (by decide) rfl ?_
        refine v_iload_n dX11_token_51 rfl ?_
        refine v_if_ge (tgt := 63) dX11_token_52 (by decide) (fun c20 => ?_) (fun c20 => ?_)
        · refine v_aload_n dX11_token_55 rfl ?_
          refine v_iconst dX11_token_56 (by decide) ?_
          refine v_put (x := 0) 10 13 rfl inX11 (by decide) tw1206 (Or.inl rfl) rfl dX11_token_57 (by rw [e19, e15]; exact h5) rfl id ?_
          refine v_bM (fun M21 e22 => ?_)
          refine v_goto (tgt := 266) dX11_token_60 (by decide) ?_
          exact v_return dX11_token_266 rfl rfl
        · refine v_iload_n dX11_token_63 rfl ?_
          refine v_bipush dX11_token_64 (by decide) ?_
          refine v_bipush dX11_token_66 (by decide) ?_
          refine v_cS (mi := mX11_token) (c0 := 0) (c1 := 0) (As := [pI r16, pI 97, pI 122]) (st := []) (kX11_in d (by omega) _ _ _ _) okX11_in (Or.inl tw1360) tw1361 rfl (Nat.le_of_ble_eq_true rfl) dX11_token_68 (fun r23 => [pI r23]) (fun r23 => M18) (fun _ => rfl) (fun _ => rfl) (fun r23 h24 => ?_) rfl
          refine v_if_eq (tgt := 147) dX11_token_71 (by decide) (fun c25 => ?_) (fun c25 => ?_)
          · refine v_iload_n dX11_token_147 rfl ?_
            refine v_bipush dX11_token_148 (by decide) ?_
            refine v_bipush dX11_token_150 (by decide) ?_
            refine v_cS (mi := mX11_token) (c0 := 0) (c1 := 0) (As := [pI r16, pI 48, pI 57]) (st := []) (kX11_in d (by omega) _ _ _ _) okX11_in (Or.inl tw1360) tw1361 rfl (Nat.le_of_ble_eq_true rfl) dX11_token_152 (fun r26 => [pI r26]) (fun r26 => M18) (fun _ => rfl) (fun _ => rfl) (fun r26 h27 => ?_) rfl
            refine v_if_eq (tgt := 241) dX11_token_155 (by decide) (fun c28 => ?_) (fun c28 => ?_)
            · refine v_aload_n dX11_token_241 rfl ?_
              refine v_dup dX11_token_242 (by intro z hz; cases hz) ?_
              refine v_get (v := pI (M18.1 a0 10)) 10 10 rfl inX11 (by decide) tw1203 dX11_token_243 (by rw [e19, e15]; exact h5) rfl ?_
              refine v_iconst dX11_token_246 (by decide) ?_
              refine v_iadd dX11_token_247 ?_
              refine v_put (x := w32 ((M18.1 a0 10) + 1)) 10 10 rfl inX11 (by decide) tw1203 (Or.inl rfl) rfl dX11_token_248 (by rw [e19, e15]; exact h5) rfl id ?_
              refine v_bM (fun M29 e30 => ?_)
              refine v_aload_n dX11_token_251 rfl ?_
              refine v_iload_n dX11_token_252 rfl ?_
              refine v_bipush dX11_token_253 (by decide) ?_
              refine v_join (fun (t32 : Int) => [none, none, none]) (fun (t32 : Int) => [pI t32, pA a0]) (fun (t32 : Int) => M29) 263 (fun t32 => ?_) (fun j31 hj31 => ?_)
              · refine v_put (x := t32) 10 13 rfl inX11 (by decide) tw1206 (Or.inl rfl) rfl dX11_token_263 (by rw [e30, e19, e15]; exact h5) rfl id ?_
                refine v_bM (fun M33 e34 => ?_)
                exact v_return dX11_token_266 rfl rfl
              · refine v_icmp_ne (tgt := 262) dX11_token_255 (by decide) (fun c35 => ?_) (fun c35 => ?_)
                · refine v_iconst dX11_token_258 (by decide) ?_
                  refine v_goto (tgt := 263) dX11_token_259 (by decide) ?_
                  exact v_drop [none, none, none] (ls_n (ls_n (ls_n ls_e))) (hj31 4)
                · refine v_iconst dX11_token_262 (by decide) ?_
                  exact v_drop [none, none, none] (ls_n (ls_n (ls_n ls_e))) (hj31 1)
            · refine v_aload_n dX11_token_158 rfl ?_
              refine v_iconst dX11_token_159 (by decide) ?_
              refine v_put (x := 0) 10 14 rfl inX11 (by decide) tw1207 (Or.inl rfl) rfl dX11_token_160 (by rw [e19, e15]; exact h5) rfl id ?_
              refine v_bM (fun M36 e37 => ?_)
              refine v_drop [some (pA a0), none, some (pI 0)] (ls_s (ls_n (ls_s ls_e))) ?_
              refine v_loop (fun (s39 : Int × Mem) => [some (pA a0), none, some (pI s39.1)]) (fun (s39 : Int × Mem) => s39.2) (s0 := (0, M36)) ?_
              intro rec38 hrec38 s39
              refine v_aload_n dX11_token_163 rfl ?_
              refine v_if (fun h42 => ?_)
              refine v_cV (mi := mX11_token) (c0 := 0) (c1 := 0) (As := []) (st := []) (kX11_see d (by omega) _ _) rfl h42 rfl okX11_see (Or.inl tw1387) tw1389 tp33 rfl (Nat.le_of_ble_eq_true rfl) dX11_token_164 (fun r40 => [pI r40]) (fun r40 => s39.2) (fun _ => rfl) (fun _ => rfl) (fun r40 h41 => ?_) rfl
              refine v_bipush dX11_token_167 (by decide) ?_
              refine v_bipush dX11_token_169 (by decide) ?_
              refine v_cS (mi := mX11_token) (c0 := 0) (c1 := 0) (As := [pI r40, pI 48, pI 57]) (st := []) (kX11_in d (by omega) _ _ _ _) okX11_in (Or.inl tw1360) tw1361 rfl (Nat.le_of_ble_eq_true rfl) dX11_token_171 (fun r43 => [pI r43]) (fun r43 => s39.2) (fun _ => rfl) (fun _ => rfl) (fun r43 h44 => ?_) rfl
              refine v_if_eq (tgt := 224) dX11_token_174 (by decide) (fun c45 => ?_) (fun c45 => ?_)
              · refine v_aload_n dX11_token_224 rfl ?_
                refine v_iload_n dX11_token_225 rfl ?_
                refine v_iconst dX11_token_226 (by decide) ?_
                refine v_join (fun (t47 : Int) => [none, none, none]) (fun (t47 : Int) => [pI t47, pA a0]) (fun (t47 : Int) => s39.2) 235 (fun t47 => ?_) (fun j46 hj46 => ?_)
                · refine v_put (x := t47) 10 13 rfl inX11 (by decide) tw1206 (Or.inl rfl) rfl dX11_token_235 h42 rfl id ?_
                  refine v_bM (fun M48 e49 => ?_)
                  refine v_goto (tgt := 266) dX11_token_238 (by decide) ?_
                  exact v_return dX11_token_266 rfl rfl
                · refine v_icmp_le (tgt := 234) dX11_token_227 (by decide) (fun c50 => ?_) (fun c50 => ?_)
                  · refine v_iconst dX11_token_230 (by decide) ?_
                    refine v_goto (tgt := 235) dX11_token_231 (by decide) ?_
                    exact v_drop [none, none, none] (ls_n (ls_n (ls_n ls_e))) (hj46 1)
                  · refine v_iconst dX11_token_234 (by decide) ?_
                    exact v_drop [none, none, none] (ls_n (ls_n (ls_n ls_e))) (hj46 3)
              · refine v_aload_n dX11_token_177 rfl ?_
                refine v_iload_n dX11_token_178 rfl ?_
                refine v_iconst dX11_token_179 (by decide) ?_
                refine v_join (fun (t52 : Int) => [some (pA a0), none, some (pI s39.1)]) (fun (t52 : Int) => [pI t52, pA a0]) (fun (t52 : Int) => s39.2) 205 (fun t52 => ?_) (fun j51 hj51 => ?_)
                · refine v_put (x := t52) 10 14 rfl inX11 (by decide) tw1207 (Or.inl rfl) rfl dX11_token_205 h42 rfl id ?_
                  refine v_bM (fun M53 e54 => ?_)
                  refine v_aload_n dX11_token_208 rfl ?_
                  refine v_dup dX11_token_209 (by intro z hz; cases hz) ?_
                  refine v_get (v := pI (M53.1 a0 10)) 10 10 rfl inX11 (by decide) tw1203 dX11_token_210 (by rw [e54]; exact h42) rfl ?_
                  refine v_iconst dX11_token_213 (by decide) ?_
                  refine v_iadd dX11_token_214 ?_
                  refine v_put (x := w32 ((M53.1 a0 10) + 1)) 10 10 rfl inX11 (by decide) tw1203 (Or.inl rfl) rfl dX11_token_215 (by rw [e54]; exact h42) rfl id ?_
                  refine v_bM (fun M55 e56 => ?_)
                  refine v_iinc (ls' := [some (pA a0), none, some (pI (w32 (s39.1 + 1)))]) dX11_token_218 (by decide) rfl rfl ?_
                  refine v_goto (tgt := 163) dX11_token_221 (by decide) ?_
                  exact hrec38 (w32 (s39.1 + 1), M55)
                · refine v_icmp_ge (tgt := 201) dX11_token_180 (by decide) (fun c57 => ?_) (fun c57 => ?_)
                  · refine v_bipush dX11_token_183 (by decide) ?_
                    refine v_aload_n dX11_token_185 rfl ?_
                    refine v_get (v := pI (s39.2.1 a0 14)) 10 14 rfl inX11 (by decide) tw1207 dX11_token_186 h42 rfl ?_
                    refine v_imul dX11_token_189 ?_
                    refine v_aload_n dX11_token_190 rfl ?_
                    refine v_cV (mi := mX11_token) (c0 := 0) (c1 := 0) (As := []) (st := [pI (w32 (10 * (s39.2.1 a0 14))), pA a0]) (kX11_see d (by omega) _ _) rfl h42 rfl okX11_see (Or.inl tw1387) tw1389 tp33 rfl (Nat.le_of_ble_eq_true rfl) dX11_token_191 (fun r58 => [pI r58, pI (w32 (10 * (s39.2.1 a0 14))), pA a0]) (fun r58 => s39.2) (fun _ => rfl) (fun _ => rfl) (fun r58 h59 => ?_) rfl
                    refine v_iadd dX11_token_194 ?_
                    refine v_bipush dX11_token_195 (by decide) ?_
                    refine v_isub dX11_token_197 ?_
                    refine v_goto (tgt := 205) dX11_token_198 (by decide) ?_
                    exact hj51 (w32 ((w32 ((w32 (10 * (s39.2.1 a0 14))) + r58)) - 48))
                  · refine v_aload_n dX11_token_201 rfl ?_
                    refine v_get (v := pI (s39.2.1 a0 14)) 10 14 rfl inX11 (by decide) tw1207 dX11_token_202 h42 rfl ?_
                    exact hj51 (s39.2.1 a0 14)
          · refine v_drop [some (pA a0), none, some (pI 0)] (ls_s (ls_n (ls_s ls_e))) ?_
            refine v_loop (fun (s61 : Int × Mem) => [some (pA a0), none, some (pI s61.1)]) (fun (s61 : Int × Mem) => s61.2) (s0 := (0, M18)) ?_
            intro rec60 hrec60 s61
            refine v_aload_n dX11_token_74 rfl ?_
            refine v_if (fun h64 => ?_)
            refine v_cV (mi := mX11_token) (c0 := 0) (c1 := 0) (As := []) (st := []) (kX11_see d (by omega) _ _) rfl h64 rfl okX11_see (Or.inl tw1387) tw1389 tp33 rfl (Nat.le_of_ble_eq_true rfl) dX11_token_75 (fun r62 => [pI r62]) (fun r62 => s61.2) (fun _ => rfl) (fun _ => rfl) (fun r62 h63 => ?_) rfl
            refine v_bipush dX11_token_78 (by decide) ?_
            refine v_bipush dX11_token_80 (by decide) ?_
            refine v_cS (mi := mX11_token) (c0 := 0) (c1 := 0) (As := [pI r62, pI 97, pI 122]) (st := []) (kX11_in d (by omega) _ _ _ _) okX11_in (Or.inl tw1360) tw1361 rfl (Nat.le_of_ble_eq_true rfl) dX11_token_82 (fun r65 => [pI r65]) (fun r65 => s61.2) (fun _ => rfl) (fun _ => rfl) (fun r65 h66 => ?_) rfl
            refine v_if_eq (tgt := 121) dX11_token_85 (by decide) (fun c67 => ?_) (fun c67 => ?_)
            · refine v_aload_n dX11_token_121 rfl ?_
              refine v_iload_n dX11_token_122 rfl ?_
              refine v_bipush dX11_token_123 (by decide) ?_
              refine v_join (fun (t69 : Int) => [some (pA a0), none, none]) (fun (t69 : Int) => [pL t69, pA a0]) (fun (t69 : Int) => s61.2) 136 (fun t69 => ?_) (fun j68 hj68 => ?_)
              · refine v_put (x := t69) 10 15 rfl inX11 (by decide) tw1208 (Or.inl rfl) rfl dX11_token_136 h64 rfl id ?_
                refine v_bM (fun M70 e71 => ?_)
                refine v_aload_n dX11_token_139 rfl ?_
                refine v_iconst dX11_token_140 (by decide) ?_
                refine v_put (x := 2) 10 13 rfl inX11 (by decide) tw1206 (Or.inl rfl) rfl dX11_token_141 (by rw [e71]; exact h64) rfl id ?_
                refine v_bM (fun M72 e73 => ?_)
                refine v_goto (tgt := 266) dX11_token_144 (by decide) ?_
                exact v_return dX11_token_266 rfl rfl
              · refine v_icmp_le (tgt := 132) dX11_token_125 (by decide) (fun c74 => ?_) (fun c74 => ?_)
                · refine v_lconst0 dX11_token_128 ?_
                  refine v_goto (tgt := 136) dX11_token_129 (by decide) ?_
                  exact v_drop [some (pA a0), none, none] (ls_s (ls_n (ls_n ls_e))) (hj68 0)
                · refine v_aload_n dX11_token_132 rfl ?_
                  refine v_get (v := pL (s61.2.1 a0 15)) 10 15 rfl inX11 (by decide) tw1208 dX11_token_133 h64 rfl ?_
                  exact v_drop [some (pA a0), none, none] (ls_s (ls_n (ls_n ls_e))) (hj68 (s61.2.1 a0 15))
            · refine v_aload_n dX11_token_88 rfl ?_
              refine v_aload_n dX11_token_89 rfl ?_
              refine v_get (v := pL (s61.2.1 a0 15)) 10 15 rfl inX11 (by decide) tw1208 dX11_token_90 h64 rfl ?_
              refine v_bipush dX11_token_93 (by decide) ?_
              refine v_lshl dX11_token_95 ?_
              refine v_aload_n dX11_token_96 rfl ?_
              refine v_cV (mi := mX11_token) (c0 := 0) (c1 := 0) (As := []) (st := [pL (lShl (s61.2.1 a0 15) 8), pA a0]) (kX11_see d (by omega) _ _) rfl h64 rfl okX11_see (Or.inl tw1387) tw1389 tp33 rfl (Nat.le_of_ble_eq_true rfl) dX11_token_97 (fun r75 => [pI r75, pL (lShl (s61.2.1 a0 15) 8), pA a0]) (fun r75 => s61.2) (fun _ => rfl) (fun _ => rfl) (fun r75 h76 => ?_) rfl
              refine v_i2l dX11_token_100 ?_
              refine v_lor dX11_token_101 ?_
              refine v_put (x := lOr (lShl (s61.2.1 a0 15) 8) r75) 10 15 rfl inX11 (by decide) tw1208 (Or.inl rfl) rfl dX11_token_102 h64 rfl id ?_
              refine v_bM (fun M77 e78 => ?_)
              refine v_aload_n dX11_token_105 rfl ?_
              refine v_dup dX11_token_106 (by intro z hz; cases hz) ?_
              refine v_get (v := pI (M77.1 a0 10)) 10 10 rfl inX11 (by decide) tw1203 dX11_token_107 (by rw [e78]; exact h64) rfl ?_
              refine v_iconst dX11_token_110 (by decide) ?_
              refine v_iadd dX11_token_111 ?_
              refine v_put (x := w32 ((M77.1 a0 10) + 1)) 10 10 rfl inX11 (by decide) tw1203 (Or.inl rfl) rfl dX11_token_112 (by rw [e78]; exact h64) rfl id ?_
              refine v_bM (fun M79 e80 => ?_)
              refine v_iinc (ls' := [some (pA a0), none, some (pI (w32 (s61.1 + 1)))]) dX11_token_115 (by decide) rfl rfl ?_
              refine v_goto (tgt := 74) dX11_token_118 (by decide) ?_
              exact hrec60 (w32 (s61.1 + 1), M79)
theorem chX11_fails_0 : (cX11_fails.data.toList.drop 0).take 16 = [42, 42, 180, 0, 116, 181, 0, 129, 3, 172] := by decide +kernel
theorem dX11_fails_0 : decode cX11_fails 0 = .ok (.aload_n 0, 1) := oq_42 (byt chX11_fails_0 0 rfl)
theorem dX11_fails_1 : decode cX11_fails 1 = .ok (.aload_n 0, 1) := oq_42 (byt chX11_fails_0 1 rfl)
theorem dX11_fails_2 : decode cX11_fails 2 = .ok (.getfield 116, 3) := oq_180 (byt chX11_fails_0 2 rfl) (byt chX11_fails_0 3 rfl) (byt chX11_fails_0 4 rfl) rfl
theorem dX11_fails_5 : decode cX11_fails 5 = .ok (.putfield 129, 3) := oq_181 (byt chX11_fails_0 5 rfl) (byt chX11_fails_0 6 rfl) (byt chX11_fails_0 7 rfl) rfl
theorem dX11_fails_8 : decode cX11_fails 8 = .ok (.iconst 0, 1) := oq_3 (byt chX11_fails_0 8 rfl)
theorem dX11_fails_9 : decode cX11_fails 9 = .ok (.ireturn, 1) := oq_172 (byt chX11_fails_0 9 rfl)
abbrev mX11_fails : MI := (yX11_fails, cX11_fails, 1, (some .boolean), noE)
theorem okX11_fails : cok mX11_fails 0 := ⟨tw1415, tw11, by decide, by decide, by decide, by decide +kernel⟩
def fX11_fails (M : Mem) (a0 : Int) : Option (Int × Mem) :=
  if M.2.1 a0 = 10 then bM (mst M a0 16 (M.1 a0 12)) fun M2 => some (0, M2) else none
set_option maxRecDepth 100000 in
set_option maxHeartbeats 4000000 in
theorem kX11_fails (d : Nat) (hd : 0 ≤ d) (M : Mem) (a0 : Int) : Ct mX11_fails d 0 0 [pA a0] M dIM (fX11_fails M a0) := by
  refine Ct.of 0 (fun _ _ _ => trivial) (by decide +kernel) rfl ?_
  unfold fX11_fails
  refine v_aload_n dX11_fails_0 rfl ?_
  refine v_aload_n dX11_fails_1 rfl ?_
  refine v_if (fun h1 => ?_)
  refine v_get (v := pI (M.1 a0 12)) 10 12 rfl inX11 (by decide) tw1205 dX11_fails_2 h1 rfl ?_
  refine v_put (x := M.1 a0 12) 10 16 rfl inX11 (by decide) tw1209 (Or.inl rfl) rfl dX11_fails_5 h1 rfl id ?_
  refine v_bM (fun M2 e3 => ?_)
  refine v_iconst dX11_fails_8 (by decide) ?_
  exact v_breturn dX11_fails_9 rfl (by decide) rfl
theorem chX11_later_0 : (cX11_later.data.toList.drop 0).take 16 = [42, 180, 0, 132, 153, 0, 27, 28, 42, 180, 0, 135, 161, 0, 19, 28] := by decide +kernel
theorem chX11_later_1 : (cX11_later.data.toList.drop 16).take 16 = [42, 180, 0, 135, 160, 0, 21, 27, 42, 180, 0, 132, 162, 0, 13, 42] := by decide +kernel
theorem chX11_later_2 : (cX11_later.data.toList.drop 32).take 16 = [27, 181, 0, 132, 42, 28, 181, 0, 135, 177] := by decide +kernel
theorem dX11_later_0 : decode cX11_later 0 = .ok (.aload_n 0, 1) := oq_42 (byt chX11_later_0 0 rfl)
theorem dX11_later_1 : decode cX11_later 1 = .ok (.getfield 132, 3) := oq_180 (byt chX11_later_0 1 rfl) (byt chX11_later_0 2 rfl) (byt chX11_later_0 3 rfl) rfl
theorem dX11_later_4 : decode cX11_later 4 = .ok (.ifCond .eq 27, 3) := oq_153 (byt chX11_later_0 4 rfl) (byt chX11_later_0 5 rfl) (byt chX11_later_0 6 rfl) (by decide +kernel)
theorem dX11_later_7 : decode cX11_later 7 = .ok (.iload_n 2, 1) := oq_28 (byt chX11_later_0 7 rfl)
theorem dX11_later_8 : decode cX11_later 8 = .ok (.aload_n 0, 1) := oq_42 (byt chX11_later_0 8 rfl)
theorem dX11_later_9 : decode cX11_later 9 = .ok (.getfield 135, 3) := oq_180 (byt chX11_later_0 9 rfl) (byt chX11_later_0 10 rfl) (byt chX11_later_0 11 rfl) rfl
theorem dX11_later_12 : decode cX11_later 12 = .ok (.if_icmp .lt 19, 3) := oq_161 (byt chX11_later_0 12 rfl) (byt chX11_later_0 13 rfl) (byt chX11_later_0 14 rfl) (by decide +kernel)
theorem dX11_later_15 : decode cX11_later 15 = .ok (.iload_n 2, 1) := oq_28 (byt chX11_later_0 15 rfl)
theorem dX11_later_16 : decode cX11_later 16 = .ok (.aload_n 0, 1) := oq_42 (byt chX11_later_1 0 rfl)
theorem dX11_later_17 : decode cX11_later 17 = .ok (.getfield 135, 3) := oq_180 (byt chX11_later_1 1 rfl) (byt chX11_later_1 2 rfl) (byt chX11_later_1 3 rfl) rfl
theorem dX11_later_20 : decode cX11_later 20 = .ok (.if_icmp .ne 21, 3) := oq_160 (byt chX11_later_1 4 rfl) (byt chX11_later_1 5 rfl) (byt chX11_later_1 6 rfl) (by decide +kernel)
theorem dX11_later_23 : decode cX11_later 23 = .ok (.iload_n 1, 1) := oq_27 (byt chX11_later_1 7 rfl)
theorem dX11_later_24 : decode cX11_later 24 = .ok (.aload_n 0, 1) := oq_42 (byt chX11_later_1 8 rfl)
theorem dX11_later_25 : decode cX11_later 25 = .ok (.getfield 132, 3) := oq_180 (byt chX11_later_1 9 rfl) (byt chX11_later_1 10 rfl) (byt chX11_later_1 11 rfl) rfl
theorem dX11_later_28 : decode cX11_later 28 = .ok (.if_icmp .ge 13, 3) := oq_162 (byt chX11_later_1 12 rfl) (byt chX11_later_1 13 rfl) (byt chX11_later_1 14 rfl) (by decide +kernel)
theorem dX11_later_31 : decode cX11_later 31 = .ok (.aload_n 0, 1) := oq_42 (byt chX11_later_1 15 rfl)
theorem dX11_later_32 : decode cX11_later 32 = .ok (.iload_n 1, 1) := oq_27 (byt chX11_later_2 0 rfl)
theorem dX11_later_33 : decode cX11_later 33 = .ok (.putfield 132, 3) := oq_181 (byt chX11_later_2 1 rfl) (byt chX11_later_2 2 rfl) (byt chX11_later_2 3 rfl) rfl
theorem dX11_later_36 : decode cX11_later 36 = .ok (.aload_n 0, 1) := oq_42 (byt chX11_later_2 4 rfl)
theorem dX11_later_37 : decode cX11_later 37 = .ok (.iload_n 2, 1) := oq_28 (byt chX11_later_2 5 rfl)
theorem dX11_later_38 : decode cX11_later 38 = .ok (.putfield 135, 3) := oq_181 (byt chX11_later_2 6 rfl) (byt chX11_later_2 7 rfl) (byt chX11_later_2 8 rfl) rfl
theorem dX11_later_41 : decode cX11_later 41 = .ok (.return_, 1) := oq_177 (byt chX11_later_2 9 rfl)
abbrev mX11_later : MI := (yX11_later, cX11_later, 3, none, noE)
theorem okX11_later : cok mX11_later 2 := ⟨tw1423, tw11, by decide, by decide, by decide, by decide +kernel⟩
def fX11_later (M : Mem) (a0 a1 a2 : Int) : Option Mem :=
  if M.2.1 a0 = 10 then jn (fun (t3 : Unit) => bM (mst M a0 17 a1) fun M4 => bM (mst M4 a0 18 a2) fun M6 => some M6) (fun (j2 : Unit → Option Mem) => if M.1 a0 17 = 0 then (j2 ()) else (if a2 < M.1 a0 18 then (j2 ()) else (if a2 = M.1 a0 18 then (if a1 < M.1 a0 17 then (j2 ()) else (some M)) else (some M)))) else none
set_option maxRecDepth 100000 in
set_option maxHeartbeats 4000000 in
theorem kX11_later (d : Nat) (hd : 0 ≤ d) (M : Mem) (a0 a1 a2 : Int) : Ct mX11_later d 0 0 [pA a0, pI a1, pI a2] M dV (fX11_later M a0 a1 a2) := by
  refine Ct.of 0 (fun _ _ _ => trivial) (by decide +kernel) rfl ?_
  unfold fX11_later
  refine v_aload_n dX11_later_0 rfl ?_
  refine v_if (fun h1 => ?_)
  refine v_get (v := pI (M.1 a0 17)) 10 17 rfl inX11 (by decide) tw1210 dX11_later_1 h1 rfl ?_
  refine v_join (fun (t3 : Unit) => [some (pA a0), some (pI a1), some (pI a2)]) (fun (t3 : Unit) => []) (fun (t3 : Unit) => M) 31 (fun t3 => ?_) (fun j2 hj2 => ?_)
  · refine v_aload_n dX11_later_31 rfl ?_
    refine v_iload_n dX11_later_32 rfl ?_
    refine v_put (x := a1) 10 17 rfl inX11 (by decide) tw1210 (Or.inl rfl) rfl dX11_later_33 h1 rfl id ?_
    refine v_bM (fun M4 e5 => ?_)
    refine v_aload_n dX11_later_36 rfl ?_
    refine v_iload_n dX11_later_37 rfl ?_
    refine v_put (x := a2) 10 18 rfl inX11 (by decide) tw1211 (Or.inl rfl) rfl dX11_later_38 (by rw [e5]; exact h1) rfl id ?_
    refine v_bM (fun M6 e7 => ?_)
    exact v_return dX11_later_41 rfl rfl
  · refine v_if_eq (tgt := 31) dX11_later_4 (by decide) (fun c8 => ?_) (fun c8 => ?_)
    · exact hj2 ()
    · refine v_iload_n dX11_later_7 rfl ?_
      refine v_aload_n dX11_later_8 rfl ?_
      refine v_get (v := pI (M.1 a0 18)) 10 18 rfl inX11 (by decide) tw1211 dX11_later_9 h1 rfl ?_
      refine v_icmp_lt (tgt := 31) dX11_later_12 (by decide) (fun c9 => ?_) (fun c9 => ?_)
      · exact hj2 ()
      · refine v_iload_n dX11_later_15 rfl ?_
        refine v_aload_n dX11_later_16 rfl ?_
        refine v_get (v := pI (M.1 a0 18)) 10 18 rfl inX11 (by decide) tw1211 dX11_later_17 h1 rfl ?_
        refine v_icmp_ne (tgt := 41) dX11_later_20 (by decide) (fun c10 => ?_) (fun c10 => ?_)
        · refine v_iload_n dX11_later_23 rfl ?_
          refine v_aload_n dX11_later_24 rfl ?_
          refine v_get (v := pI (M.1 a0 17)) 10 17 rfl inX11 (by decide) tw1210 dX11_later_25 h1 rfl ?_
          refine v_icmp_ge (tgt := 41) dX11_later_28 (by decide) (fun c11 => ?_) (fun c11 => ?_)
          · exact hj2 ()
          · exact v_return dX11_later_41 rfl rfl
        · exact v_return dX11_later_41 rfl rfl
theorem chX11_takeBut_0 : (cX11_takeBut.data.toList.drop 0).take 16 = [42, 180, 0, 123, 6, 159, 0, 8, 42, 182, 0, 138, 172, 42, 180, 0] := by decide +kernel
theorem chX11_takeBut_1 : (cX11_takeBut.data.toList.drop 16).take 16 = [41, 27, 42, 180, 0, 126, 79, 42, 180, 0, 126, 28, 29, 184, 0, 98] := by decide +kernel
theorem chX11_takeBut_2 : (cX11_takeBut.data.toList.drop 32).take 16 = [153, 0, 12, 42, 180, 0, 126, 21, 4, 160, 0, 17, 42, 5, 42, 180] := by decide +kernel
theorem chX11_takeBut_3 : (cX11_takeBut.data.toList.drop 48).take 16 = [0, 116, 182, 0, 142, 42, 3, 181, 0, 146, 42, 182, 0, 150, 4, 172] := by decide +kernel
theorem dX11_takeBut_0 : decode cX11_takeBut 0 = .ok (.aload_n 0, 1) := oq_42 (byt chX11_takeBut_0 0 rfl)
theorem dX11_takeBut_1 : decode cX11_takeBut 1 = .ok (.getfield 123, 3) := oq_180 (byt chX11_takeBut_0 1 rfl) (byt chX11_takeBut_0 2 rfl) (byt chX11_takeBut_0 3 rfl) rfl
theorem dX11_takeBut_4 : decode cX11_takeBut 4 = .ok (.iconst 3, 1) := oq_6 (byt chX11_takeBut_0 4 rfl)
theorem dX11_takeBut_5 : decode cX11_takeBut 5 = .ok (.if_icmp .eq 8, 3) := oq_159 (byt chX11_takeBut_0 5 rfl) (byt chX11_takeBut_0 6 rfl) (byt chX11_takeBut_0 7 rfl) (by decide +kernel)
theorem dX11_takeBut_8 : decode cX11_takeBut 8 = .ok (.aload_n 0, 1) := oq_42 (byt chX11_takeBut_0 8 rfl)
theorem dX11_takeBut_9 : decode cX11_takeBut 9 = .ok (.invokevirtual 138, 3) := oq_182 (byt chX11_takeBut_0 9 rfl) (byt chX11_takeBut_0 10 rfl) (byt chX11_takeBut_0 11 rfl) rfl
theorem dX11_takeBut_12 : decode cX11_takeBut 12 = .ok (.ireturn, 1) := oq_172 (byt chX11_takeBut_0 12 rfl)
theorem dX11_takeBut_13 : decode cX11_takeBut 13 = .ok (.aload_n 0, 1) := oq_42 (byt chX11_takeBut_0 13 rfl)
theorem dX11_takeBut_14 : decode cX11_takeBut 14 = .ok (.getfield 41, 3) := oq_180 (byt chX11_takeBut_0 14 rfl) (byt chX11_takeBut_0 15 rfl) (byt chX11_takeBut_1 0 rfl) rfl
theorem dX11_takeBut_17 : decode cX11_takeBut 17 = .ok (.iload_n 1, 1) := oq_27 (byt chX11_takeBut_1 1 rfl)
theorem dX11_takeBut_18 : decode cX11_takeBut 18 = .ok (.aload_n 0, 1) := oq_42 (byt chX11_takeBut_1 2 rfl)
theorem dX11_takeBut_19 : decode cX11_takeBut 19 = .ok (.getfield 126, 3) := oq_180 (byt chX11_takeBut_1 3 rfl) (byt chX11_takeBut_1 4 rfl) (byt chX11_takeBut_1 5 rfl) rfl
theorem dX11_takeBut_22 : decode cX11_takeBut 22 = .ok (.iastore, 1) := oq_79 (byt chX11_takeBut_1 6 rfl)
theorem dX11_takeBut_23 : decode cX11_takeBut 23 = .ok (.aload_n 0, 1) := oq_42 (byt chX11_takeBut_1 7 rfl)
theorem dX11_takeBut_24 : decode cX11_takeBut 24 = .ok (.getfield 126, 3) := oq_180 (byt chX11_takeBut_1 8 rfl) (byt chX11_takeBut_1 9 rfl) (byt chX11_takeBut_1 10 rfl) rfl
theorem dX11_takeBut_27 : decode cX11_takeBut 27 = .ok (.iload_n 2, 1) := oq_28 (byt chX11_takeBut_1 11 rfl)
theorem dX11_takeBut_28 : decode cX11_takeBut 28 = .ok (.iload_n 3, 1) := oq_29 (byt chX11_takeBut_1 12 rfl)
theorem dX11_takeBut_29 : decode cX11_takeBut 29 = .ok (.invokestatic 98, 3) := oq_184 (byt chX11_takeBut_1 13 rfl) (byt chX11_takeBut_1 14 rfl) (byt chX11_takeBut_1 15 rfl) rfl
theorem dX11_takeBut_32 : decode cX11_takeBut 32 = .ok (.ifCond .eq 12, 3) := oq_153 (byt chX11_takeBut_2 0 rfl) (byt chX11_takeBut_2 1 rfl) (byt chX11_takeBut_2 2 rfl) (by decide +kernel)
theorem dX11_takeBut_35 : decode cX11_takeBut 35 = .ok (.aload_n 0, 1) := oq_42 (byt chX11_takeBut_2 3 rfl)
theorem dX11_takeBut_36 : decode cX11_takeBut 36 = .ok (.getfield 126, 3) := oq_180 (byt chX11_takeBut_2 4 rfl) (byt chX11_takeBut_2 5 rfl) (byt chX11_takeBut_2 6 rfl) rfl
theorem dX11_takeBut_39 : decode cX11_takeBut 39 = .ok (.iload 4, 2) := oq_21 (byt chX11_takeBut_2 7 rfl) (byt chX11_takeBut_2 8 rfl) rfl
theorem dX11_takeBut_41 : decode cX11_takeBut 41 = .ok (.if_icmp .ne 17, 3) := oq_160 (byt chX11_takeBut_2 9 rfl) (byt chX11_takeBut_2 10 rfl) (byt chX11_takeBut_2 11 rfl) (by decide +kernel)
theorem dX11_takeBut_44 : decode cX11_takeBut 44 = .ok (.aload_n 0, 1) := oq_42 (byt chX11_takeBut_2 12 rfl)
theorem dX11_takeBut_45 : decode cX11_takeBut 45 = .ok (.iconst 2, 1) := oq_5 (byt chX11_takeBut_2 13 rfl)
theorem dX11_takeBut_46 : decode cX11_takeBut 46 = .ok (.aload_n 0, 1) := oq_42 (byt chX11_takeBut_2 14 rfl)
theorem dX11_takeBut_47 : decode cX11_takeBut 47 = .ok (.getfield 116, 3) := oq_180 (byt chX11_takeBut_2 15 rfl) (byt chX11_takeBut_3 0 rfl) (byt chX11_takeBut_3 1 rfl) rfl
theorem dX11_takeBut_50 : decode cX11_takeBut 50 = .ok (.invokevirtual 142, 3) := oq_182 (byt chX11_takeBut_3 2 rfl) (byt chX11_takeBut_3 3 rfl) (byt chX11_takeBut_3 4 rfl) rfl
theorem dX11_takeBut_53 : decode cX11_takeBut 53 = .ok (.aload_n 0, 1) := oq_42 (byt chX11_takeBut_3 5 rfl)
theorem dX11_takeBut_54 : decode cX11_takeBut 54 = .ok (.iconst 0, 1) := oq_3 (byt chX11_takeBut_3 6 rfl)
theorem dX11_takeBut_55 : decode cX11_takeBut 55 = .ok (.putfield 146, 3) := oq_181 (byt chX11_takeBut_3 7 rfl) (byt chX11_takeBut_3 8 rfl) (byt chX11_takeBut_3 9 rfl) rfl
theorem dX11_takeBut_58 : decode cX11_takeBut 58 = .ok (.aload_n 0, 1) := oq_42 (byt chX11_takeBut_3 10 rfl)
theorem dX11_takeBut_59 : decode cX11_takeBut 59 = .ok (.invokevirtual 150, 3) := oq_182 (byt chX11_takeBut_3 11 rfl) (byt chX11_takeBut_3 12 rfl) (byt chX11_takeBut_3 13 rfl) rfl
theorem dX11_takeBut_62 : decode cX11_takeBut 62 = .ok (.iconst 1, 1) := oq_4 (byt chX11_takeBut_3 14 rfl)
theorem dX11_takeBut_63 : decode cX11_takeBut 63 = .ok (.ireturn, 1) := oq_172 (byt chX11_takeBut_3 15 rfl)
abbrev mX11_takeBut : MI := (yX11_takeBut, cX11_takeBut, 5, (some .boolean), noE)
theorem okX11_takeBut : cok mX11_takeBut 4 := ⟨tw1439, tw11, by decide, by decide, by decide, by decide +kernel⟩
def fX11_takeBut (M : Mem) (a0 a1 a2 a3 a4 : Int) : Option (Int × Mem) :=
  if M.2.1 a0 = 10 then if M.1 a0 13 = 3 then (if M.2.1 (M.1 a0 20) = 12 ∧ (0 : Int) ≤ a1 ∧ a1 < M.2.2.1 (M.1 a0 20) then bM (mst M (M.1 a0 20) a1 (M.1 a0 14)) fun M4 => (fX11_in M4 (M4.1 a0 14) a2 a3).bind fun r6 => jn (fun (t9 : Mem) => if t9.2.1 a0 = 10 then (fX11_token t9 a0).bind fun r10 => some (1, r10) else none) (fun (j8 : Mem → Option (Int × Mem)) => jn (fun (t14 : Unit) => (fX11_later M4 a0 2 (M4.1 a0 12)).bind fun r15 => if r15.2.1 a0 = 10 then bM (mst r15 a0 23 0) fun M18 => j8 M18 else none) (fun (j13 : Unit → Option (Int × Mem)) => if r6 = 0 then (j13 ()) else (if M4.1 a0 14 = a4 then (j13 ()) else (j8 M4)))) else none) else ((fX11_fails M a0).bind fun r22 => if r22.1 = 0 ∨ r22.1 = 1 then some (r22.1, r22.2) else none) else none
set_option maxRecDepth 100000 in
set_option maxHeartbeats 4000000 in
theorem kX11_takeBut (d : Nat) (hd : 2 ≤ d) (M : Mem) (a0 a1 a2 a3 a4 : Int) : Ct mX11_takeBut d 0 0 [pA a0, pI a1, pI a2, pI a3, pI a4] M dIM (fX11_takeBut M a0 a1 a2 a3 a4) := by
  obtain ⟨d, rfl⟩ : ∃ k, d = k + 1 := ⟨d - 1, by omega⟩
  refine Ct.of 0 (fun _ _ _ => trivial) (by decide +kernel) rfl ?_
  unfold fX11_takeBut
  refine v_aload_n dX11_takeBut_0 rfl ?_
  refine v_if (fun h1 => ?_)
  refine v_get (v := pI (M.1 a0 13)) 10 13 rfl inX11 (by decide) tw1206 dX11_takeBut_1 h1 rfl ?_
  refine v_iconst dX11_takeBut_4 (by decide) ?_
  refine v_icmp_eq (tgt := 13) dX11_takeBut_5 (by decide) (fun c2 => ?_) (fun c2 => ?_)
  · refine v_aload_n dX11_takeBut_13 rfl ?_
    refine v_get (v := pA (M.1 a0 20)) 10 20 rfl inX11 (by decide) tw1213 dX11_takeBut_14 h1 rfl ?_
    refine v_iload_n dX11_takeBut_17 rfl ?_
    refine v_aload_n dX11_takeBut_18 rfl ?_
    refine v_get (v := pI (M.1 a0 14)) 10 14 rfl inX11 (by decide) tw1207 dX11_takeBut_19 h1 rfl ?_
    refine v_if (fun h3 => ?_)
    refine v_iastore h3 dX11_takeBut_22 ?_
    refine v_bM (fun M4 e5 => ?_)
    refine v_aload_n dX11_takeBut_23 rfl ?_
    refine v_get (v := pI (M4.1 a0 14)) 10 14 rfl inX11 (by decide) tw1207 dX11_takeBut_24 (by rw [e5]; exact h1) rfl ?_
    refine v_iload_n dX11_takeBut_27 rfl ?_
    refine v_iload_n dX11_takeBut_28 rfl ?_
    refine v_cS (mi := mX11_takeBut) (c0 := 0) (c1 := 0) (As := [pI (M4.1 a0 14), pI a2, pI a3]) (st := []) (kX11_in d (by omega) _ _ _ _) okX11_in (Or.inl tw1360) tw1361 rfl (Nat.le_of_ble_eq_true rfl) dX11_takeBut_29 (fun r6 => [pI r6]) (fun r6 => M4) (fun _ => rfl) (fun _ => rfl) (fun r6 h7 => ?_) rfl
    refine v_join (fun (t9 : Mem) => [some (pA a0), none, none, none, none]) (fun (t9 : Mem) => []) (fun (t9 : Mem) => t9) 58 (fun t9 => ?_) (fun j8 hj8 => ?_)
    · refine v_aload_n dX11_takeBut_58 rfl ?_
      refine v_if (fun h12 => ?_)
      refine v_cV (mi := mX11_takeBut) (c0 := 0) (c1 := 0) (As := []) (st := []) (kX11_token d (by omega) _ _) rfl h12 rfl okX11_token (Or.inl tw1383) tw1385 tp32 rfl (Nat.le_of_ble_eq_true rfl) dX11_takeBut_59 (fun r10 => []) (fun r10 => r10) (fun _ => rfl) (fun _ => rfl) (fun r10 h11 => ?_) rfl
      refine v_iconst dX11_takeBut_62 (by decide) ?_
      exact v_breturn dX11_takeBut_63 rfl (by decide) rfl
    · refine v_join (fun (t14 : Unit) => [some (pA a0), none, none, none, none]) (fun (t14 : Unit) => []) (fun (t14 : Unit) => M4) 44 (fun t14 => ?_) (fun j13 hj13 => ?_)
      · refine v_aload_n dX11_takeBut_44 rfl ?_
        refine v_iconst dX11_takeBut_45 (by decide) ?_
        refine v_aload_n dX11_takeBut_46 rfl ?_
        refine v_get (v := pI (M4.1 a0 12)) 10 12 rfl inX11 (by decide) tw1205 dX11_takeBut_47 (by rw [e5]; exact h1) rfl ?_
        refine v_cV (mi := mX11_takeBut) (c0 := 0) (c1 := 0) (As := [pI 2, pI (M4.1 a0 12)]) (st := []) (kX11_later d (by omega) _ _ _ _) rfl (by rw [e5]; exact h1) rfl okX11_later (Or.inl tw1420) tw1422 tp39 rfl (Nat.le_of_ble_eq_true rfl) dX11_takeBut_50 (fun r15 => []) (fun r15 => r15) (fun _ => rfl) (fun _ => rfl) (fun r15 h16 => ?_) rfl
        refine v_aload_n dX11_takeBut_53 rfl ?_
        refine v_iconst dX11_takeBut_54 (by decide) ?_
        refine v_if (fun h17 => ?_)
        refine v_put (x := 0) 10 23 rfl inX11 (by decide) tw1216 (Or.inl rfl) rfl dX11_takeBut_55 h17 rfl (fun _ => by first | exact Or.inl rfl | exact Or.inr rfl) ?_
        refine v_bM (fun M18 e19 => ?_)
        exact hj8 M18
      · refine v_if_eq (tgt := 44) dX11_takeBut_32 (by decide) (fun c20 => ?_) (fun c20 => ?_)
        · exact v_drop [some (pA a0), none, none, none, none] (ls_s (ls_n (ls_n (ls_n (ls_n ls_e))))) (hj13 ())
        · refine v_aload_n dX11_takeBut_35 rfl ?_
          refine v_get (v := pI (M4.1 a0 14)) 10 14 rfl inX11 (by decide) tw1207 dX11_takeBut_36 (by rw [e5]; exact h1) rfl ?_
          refine v_iload dX11_takeBut_39 rfl ?_
          refine v_icmp_ne (tgt := 58) dX11_takeBut_41 (by decide) (fun c21 => ?_) (fun c21 => ?_)
          · exact v_drop [some (pA a0), none, none, none, none] (ls_s (ls_n (ls_n (ls_n (ls_n ls_e))))) (hj13 ())
          · exact v_drop [some (pA a0), none, none, none, none] (ls_s (ls_n (ls_n (ls_n (ls_n ls_e))))) (hj8 M4)
  · refine v_aload_n dX11_takeBut_8 rfl ?_
    refine v_cV (mi := mX11_takeBut) (c0 := 0) (c1 := 0) (As := []) (st := []) (kX11_fails d (by omega) _ _) rfl h1 rfl okX11_fails (Or.inl tw1412) tw1414 tp37 rfl (Nat.le_of_ble_eq_true rfl) dX11_takeBut_9 (fun r22 => [pI r22.1]) (fun r22 => r22.2) (fun _ => rfl) (fun _ => rfl) (fun r22 h23 => ?_) rfl
    refine v_if (fun h24 => ?_)
    exact v_breturn dX11_takeBut_12 rfl h24 rfl
theorem chX11_take_0 : (cX11_take.data.toList.drop 0).take 16 = [42, 27, 28, 29, 2, 182, 0, 153, 172] := by decide +kernel
theorem dX11_take_0 : decode cX11_take 0 = .ok (.aload_n 0, 1) := oq_42 (byt chX11_take_0 0 rfl)
theorem dX11_take_1 : decode cX11_take 1 = .ok (.iload_n 1, 1) := oq_27 (byt chX11_take_0 1 rfl)
theorem dX11_take_2 : decode cX11_take 2 = .ok (.iload_n 2, 1) := oq_28 (byt chX11_take_0 2 rfl)
theorem dX11_take_3 : decode cX11_take 3 = .ok (.iload_n 3, 1) := oq_29 (byt chX11_take_0 3 rfl)
theorem dX11_take_4 : decode cX11_take 4 = .ok (.iconst (-1), 1) := oq_2 (byt chX11_take_0 4 rfl)
theorem dX11_take_5 : decode cX11_take 5 = .ok (.invokevirtual 153, 3) := oq_182 (byt chX11_take_0 5 rfl) (byt chX11_take_0 6 rfl) (byt chX11_take_0 7 rfl) rfl
theorem dX11_take_8 : decode cX11_take 8 = .ok (.ireturn, 1) := oq_172 (byt chX11_take_0 8 rfl)
abbrev mX11_take : MI := (yX11_take, cX11_take, 4, (some .boolean), noE)
theorem okX11_take : cok mX11_take 3 := ⟨tw1435, tw11, by decide, by decide, by decide, by decide +kernel⟩
def fX11_take (M : Mem) (a0 a1 a2 a3 : Int) : Option (Int × Mem) :=
  if M.2.1 a0 = 10 then (fX11_takeBut M a0 a1 a2 a3 (-1)).bind fun r1 => if r1.1 = 0 ∨ r1.1 = 1 then some (r1.1, r1.2) else none else none
set_option maxRecDepth 100000 in
set_option maxHeartbeats 4000000 in
theorem kX11_take (d : Nat) (hd : 3 ≤ d) (M : Mem) (a0 a1 a2 a3 : Int) : Ct mX11_take d 0 0 [pA a0, pI a1, pI a2, pI a3] M dIM (fX11_take M a0 a1 a2 a3) := by
  obtain ⟨d, rfl⟩ : ∃ k, d = k + 1 := ⟨d - 1, by omega⟩
  refine Ct.of 0 (fun _ _ _ => trivial) (by decide +kernel) rfl ?_
  unfold fX11_take
  refine v_aload_n dX11_take_0 rfl ?_
  refine v_iload_n dX11_take_1 rfl ?_
  refine v_iload_n dX11_take_2 rfl ?_
  refine v_iload_n dX11_take_3 rfl ?_
  refine v_iconst dX11_take_4 (by decide) ?_
  refine v_if (fun h3 => ?_)
  refine v_cV (mi := mX11_take) (c0 := 0) (c1 := 0) (As := [pI a1, pI a2, pI a3, pI (-1)]) (st := []) (kX11_takeBut d (by omega) _ _ _ _ _ _) rfl h3 rfl okX11_takeBut (Or.inl tw1436) tw1438 tp43 rfl (Nat.le_of_ble_eq_true rfl) dX11_take_5 (fun r1 => [pI r1.1]) (fun r1 => r1.2) (fun _ => rfl) (fun _ => rfl) (fun r1 h2 => ?_) rfl
  refine v_if (fun h4 => ?_)
  exact v_breturn dX11_take_8 rfl h4 rfl
theorem chX11_takeHouse_0 : (cX11_takeHouse.data.toList.drop 0).take 16 = [42, 27, 3, 8, 182, 0, 157, 154, 0, 5, 3, 172, 42, 42, 180, 0] := by decide +kernel
theorem chX11_takeHouse_1 : (cX11_takeHouse.data.toList.drop 16).take 16 = [160, 42, 180, 0, 41, 27, 46, 184, 0, 163, 181, 0, 160, 4, 172] := by decide +kernel
theorem dX11_takeHouse_0 : decode cX11_takeHouse 0 = .ok (.aload_n 0, 1) := oq_42 (byt chX11_takeHouse_0 0 rfl)
theorem dX11_takeHouse_1 : decode cX11_takeHouse 1 = .ok (.iload_n 1, 1) := oq_27 (byt chX11_takeHouse_0 1 rfl)
theorem dX11_takeHouse_2 : decode cX11_takeHouse 2 = .ok (.iconst 0, 1) := oq_3 (byt chX11_takeHouse_0 2 rfl)
theorem dX11_takeHouse_3 : decode cX11_takeHouse 3 = .ok (.iconst 5, 1) := oq_8 (byt chX11_takeHouse_0 3 rfl)
theorem dX11_takeHouse_4 : decode cX11_takeHouse 4 = .ok (.invokevirtual 157, 3) := oq_182 (byt chX11_takeHouse_0 4 rfl) (byt chX11_takeHouse_0 5 rfl) (byt chX11_takeHouse_0 6 rfl) rfl
theorem dX11_takeHouse_7 : decode cX11_takeHouse 7 = .ok (.ifCond .ne 5, 3) := oq_154 (byt chX11_takeHouse_0 7 rfl) (byt chX11_takeHouse_0 8 rfl) (byt chX11_takeHouse_0 9 rfl) (by decide +kernel)
theorem dX11_takeHouse_10 : decode cX11_takeHouse 10 = .ok (.iconst 0, 1) := oq_3 (byt chX11_takeHouse_0 10 rfl)
theorem dX11_takeHouse_11 : decode cX11_takeHouse 11 = .ok (.ireturn, 1) := oq_172 (byt chX11_takeHouse_0 11 rfl)
theorem dX11_takeHouse_12 : decode cX11_takeHouse 12 = .ok (.aload_n 0, 1) := oq_42 (byt chX11_takeHouse_0 12 rfl)
theorem dX11_takeHouse_13 : decode cX11_takeHouse 13 = .ok (.aload_n 0, 1) := oq_42 (byt chX11_takeHouse_0 13 rfl)
theorem dX11_takeHouse_14 : decode cX11_takeHouse 14 = .ok (.getfield 160, 3) := oq_180 (byt chX11_takeHouse_0 14 rfl) (byt chX11_takeHouse_0 15 rfl) (byt chX11_takeHouse_1 0 rfl) rfl
theorem dX11_takeHouse_17 : decode cX11_takeHouse 17 = .ok (.aload_n 0, 1) := oq_42 (byt chX11_takeHouse_1 1 rfl)
theorem dX11_takeHouse_18 : decode cX11_takeHouse 18 = .ok (.getfield 41, 3) := oq_180 (byt chX11_takeHouse_1 2 rfl) (byt chX11_takeHouse_1 3 rfl) (byt chX11_takeHouse_1 4 rfl) rfl
theorem dX11_takeHouse_21 : decode cX11_takeHouse 21 = .ok (.iload_n 1, 1) := oq_27 (byt chX11_takeHouse_1 5 rfl)
theorem dX11_takeHouse_22 : decode cX11_takeHouse 22 = .ok (.iaload, 1) := oq_46 (byt chX11_takeHouse_1 6 rfl)
theorem dX11_takeHouse_23 : decode cX11_takeHouse 23 = .ok (.invokestatic 163, 3) := oq_184 (byt chX11_takeHouse_1 7 rfl) (byt chX11_takeHouse_1 8 rfl) (byt chX11_takeHouse_1 9 rfl) rfl
theorem dX11_takeHouse_26 : decode cX11_takeHouse 26 = .ok (.putfield 160, 3) := oq_181 (byt chX11_takeHouse_1 10 rfl) (byt chX11_takeHouse_1 11 rfl) (byt chX11_takeHouse_1 12 rfl) rfl
theorem dX11_takeHouse_29 : decode cX11_takeHouse 29 = .ok (.iconst 1, 1) := oq_4 (byt chX11_takeHouse_1 13 rfl)
theorem dX11_takeHouse_30 : decode cX11_takeHouse 30 = .ok (.ireturn, 1) := oq_172 (byt chX11_takeHouse_1 14 rfl)
abbrev mX11_takeHouse : MI := (yX11_takeHouse, cX11_takeHouse, 2, (some .boolean), noE)
theorem okX11_takeHouse : cok mX11_takeHouse 1 := ⟨tw1431, tw11, by decide, by decide, by decide, by decide +kernel⟩
def fX11_takeHouse (M : Mem) (a0 a1 : Int) : Option (Int × Mem) :=
  if M.2.1 a0 = 10 then (fX11_take M a0 a1 0 5).bind fun r1 => if r1.1 = 0 then (some (0, r1.2)) else (if r1.2.2.1 a0 = 10 then if r1.2.2.1 (r1.2.1 a0 20) = 12 ∧ (0 : Int) ≤ a1 ∧ a1 < r1.2.2.2.1 (r1.2.1 a0 20) then (fX11_greater r1.2 (r1.2.1 a0 21) (r1.2.1 (r1.2.1 a0 20) a1)).bind fun r7 => bM (mst r1.2 a0 21 r7) fun M9 => some (1, M9) else none else none) else none
set_option maxRecDepth 100000 in
set_option maxHeartbeats 4000000 in
theorem kX11_takeHouse (d : Nat) (hd : 4 ≤ d) (M : Mem) (a0 a1 : Int) : Ct mX11_takeHouse d 0 0 [pA a0, pI a1] M dIM (fX11_takeHouse M a0 a1) := by
  obtain ⟨d, rfl⟩ : ∃ k, d = k + 1 := ⟨d - 1, by omega⟩
  refine Ct.of 0 (fun _ _ _ => trivial) (by decide +kernel) rfl ?_
  unfold fX11_takeHouse
  refine v_aload_n dX11_takeHouse_0 rfl ?_
  refine v_iload_n dX11_takeHouse_1 rfl ?_
  refine v_iconst dX11_takeHouse_2 (by decide) ?_
  refine v_iconst dX11_takeHouse_3 (by decide) ?_
  refine v_if (fun h3 => ?_)
  refine v_cV (mi := mX11_takeHouse) (c0 := 0) (c1 := 0) (As := [pI a1, pI 0, pI 5]) (st := []) (kX11_take d (by omega) _ _ _ _ _) rfl h3 rfl okX11_take (Or.inl tw1432) tw1434 tp42 rfl (Nat.le_of_ble_eq_true rfl) dX11_takeHouse_4 (fun r1 => [pI r1.1]) (fun r1 => r1.2) (fun _ => rfl) (fun _ => rfl) (fun r1 h2 => ?_) rfl
  refine v_if_ne (tgt := 12) dX11_takeHouse_7 (by decide) (fun c4 => ?_) (fun c4 => ?_)
  · refine v_iconst dX11_takeHouse_10 (by decide) ?_
    exact v_breturn dX11_takeHouse_11 rfl (by decide) rfl
  · refine v_aload_n dX11_takeHouse_12 rfl ?_
    refine v_aload_n dX11_takeHouse_13 rfl ?_
    refine v_if (fun h5 => ?_)
    refine v_get (v := pI (r1.2.1 a0 21)) 10 21 rfl inX11 (by decide) tw1214 dX11_takeHouse_14 h5 rfl ?_
    refine v_aload_n dX11_takeHouse_17 rfl ?_
    refine v_get (v := pA (r1.2.1 a0 20)) 10 20 rfl inX11 (by decide) tw1213 dX11_takeHouse_18 h5 rfl ?_
    refine v_iload_n dX11_takeHouse_21 rfl ?_
    refine v_if (fun h6 => ?_)
    refine v_iaload h6 dX11_takeHouse_22 ?_
    refine v_cS (mi := mX11_takeHouse) (c0 := 0) (c1 := 0) (As := [pI (r1.2.1 a0 21), pI (r1.2.1 (r1.2.1 a0 20) a1)]) (st := [pA a0]) (kX11_greater d (by omega) _ _ _) okX11_greater (Or.inl tw1440) tw1441 rfl (Nat.le_of_ble_eq_true rfl) dX11_takeHouse_23 (fun r7 => [pI r7, pA a0]) (fun r7 => r1.2) (fun _ => rfl) (fun _ => rfl) (fun r7 h8 => ?_) rfl
    refine v_put (x := r7) 10 21 rfl inX11 (by decide) tw1214 (Or.inl rfl) rfl dX11_takeHouse_26 h5 rfl id ?_
    refine v_bM (fun M9 e10 => ?_)
    refine v_iconst dX11_takeHouse_29 (by decide) ?_
    exact v_breturn dX11_takeHouse_30 rfl (by decide) rfl
theorem chX11_full_0 : (cX11_full.data.toList.drop 0).take 16 = [42, 180, 0, 38, 27, 46, 28, 160, 0, 9, 42, 6, 29, 182, 0, 142] := by decide +kernel
theorem chX11_full_1 : (cX11_full.data.toList.drop 16).take 16 = [177] := by decide +kernel
theorem dX11_full_0 : decode cX11_full 0 = .ok (.aload_n 0, 1) := oq_42 (byt chX11_full_0 0 rfl)
theorem dX11_full_1 : decode cX11_full 1 = .ok (.getfield 38, 3) := oq_180 (byt chX11_full_0 1 rfl) (byt chX11_full_0 2 rfl) (byt chX11_full_0 3 rfl) rfl
theorem dX11_full_4 : decode cX11_full 4 = .ok (.iload_n 1, 1) := oq_27 (byt chX11_full_0 4 rfl)
theorem dX11_full_5 : decode cX11_full 5 = .ok (.iaload, 1) := oq_46 (byt chX11_full_0 5 rfl)
theorem dX11_full_6 : decode cX11_full 6 = .ok (.iload_n 2, 1) := oq_28 (byt chX11_full_0 6 rfl)
theorem dX11_full_7 : decode cX11_full 7 = .ok (.if_icmp .ne 9, 3) := oq_160 (byt chX11_full_0 7 rfl) (byt chX11_full_0 8 rfl) (byt chX11_full_0 9 rfl) (by decide +kernel)
theorem dX11_full_10 : decode cX11_full 10 = .ok (.aload_n 0, 1) := oq_42 (byt chX11_full_0 10 rfl)
theorem dX11_full_11 : decode cX11_full 11 = .ok (.iconst 3, 1) := oq_6 (byt chX11_full_0 11 rfl)
theorem dX11_full_12 : decode cX11_full 12 = .ok (.iload_n 3, 1) := oq_29 (byt chX11_full_0 12 rfl)
theorem dX11_full_13 : decode cX11_full 13 = .ok (.invokevirtual 142, 3) := oq_182 (byt chX11_full_0 13 rfl) (byt chX11_full_0 14 rfl) (byt chX11_full_0 15 rfl) rfl
theorem dX11_full_16 : decode cX11_full 16 = .ok (.return_, 1) := oq_177 (byt chX11_full_1 0 rfl)
abbrev mX11_full : MI := (yX11_full, cX11_full, 4, none, noE)
theorem okX11_full : cok mX11_full 3 := ⟨tw1419, tw11, by decide, by decide, by decide, by decide +kernel⟩
def fX11_full (M : Mem) (a0 a1 a2 a3 : Int) : Option Mem :=
  if M.2.1 a0 = 10 then if M.2.1 (M.1 a0 19) = 12 ∧ (0 : Int) ≤ a1 ∧ a1 < M.2.2.1 (M.1 a0 19) then if M.1 (M.1 a0 19) a1 = a2 then ((fX11_later M a0 3 a3).bind fun r4 => some r4) else (some M) else none else none
set_option maxRecDepth 100000 in
set_option maxHeartbeats 4000000 in
theorem kX11_full (d : Nat) (hd : 1 ≤ d) (M : Mem) (a0 a1 a2 a3 : Int) : Ct mX11_full d 0 0 [pA a0, pI a1, pI a2, pI a3] M dV (fX11_full M a0 a1 a2 a3) := by
  obtain ⟨d, rfl⟩ : ∃ k, d = k + 1 := ⟨d - 1, by omega⟩
  refine Ct.of 0 (fun _ _ _ => trivial) (by decide +kernel) rfl ?_
  unfold fX11_full
  refine v_aload_n dX11_full_0 rfl ?_
  refine v_if (fun h1 => ?_)
  refine v_get (v := pA (M.1 a0 19)) 10 19 rfl inX11 (by decide) tw1212 dX11_full_1 h1 rfl ?_
  refine v_iload_n dX11_full_4 rfl ?_
  refine v_if (fun h2 => ?_)
  refine v_iaload h2 dX11_full_5 ?_
  refine v_iload_n dX11_full_6 rfl ?_
  refine v_icmp_ne (tgt := 16) dX11_full_7 (by decide) (fun c3 => ?_) (fun c3 => ?_)
  · refine v_aload_n dX11_full_10 rfl ?_
    refine v_iconst dX11_full_11 (by decide) ?_
    refine v_iload_n dX11_full_12 rfl ?_
    refine v_cV (mi := mX11_full) (c0 := 0) (c1 := 0) (As := [pI 3, pI a3]) (st := []) (kX11_later d (by omega) _ _ _ _) rfl h1 rfl okX11_later (Or.inl tw1420) tw1422 tp39 rfl (Nat.le_of_ble_eq_true rfl) dX11_full_13 (fun r4 => []) (fun r4 => r4) (fun _ => rfl) (fun _ => rfl) (fun r4 h5 => ?_) rfl
    exact v_return dX11_full_16 rfl rfl
  · exact v_return dX11_full_16 rfl rfl
theorem chX11_keep_0 : (cX11_keep.data.toList.drop 0).take 16 = [42, 180, 0, 38, 27, 46, 54, 5, 21, 5, 21, 4, 160, 0, 4, 177] := by decide +kernel
theorem chX11_keep_1 : (cX11_keep.data.toList.drop 16).take 16 = [3, 54, 6, 21, 6, 29, 162, 0, 30, 42, 180, 0, 38, 28, 29, 21] := by decide +kernel
theorem chX11_keep_2 : (cX11_keep.data.toList.drop 32).take 16 = [5, 104, 96, 21, 6, 96, 42, 180, 0, 41, 21, 6, 46, 79, 132, 6] := by decide +kernel
theorem chX11_keep_3 : (cX11_keep.data.toList.drop 48).take 16 = [1, 167, 255, 226, 42, 180, 0, 38, 27, 92, 46, 4, 96, 79, 177] := by decide +kernel
theorem dX11_keep_0 : decode cX11_keep 0 = .ok (.aload_n 0, 1) := oq_42 (byt chX11_keep_0 0 rfl)
theorem dX11_keep_1 : decode cX11_keep 1 = .ok (.getfield 38, 3) := oq_180 (byt chX11_keep_0 1 rfl) (byt chX11_keep_0 2 rfl) (byt chX11_keep_0 3 rfl) rfl
theorem dX11_keep_4 : decode cX11_keep 4 = .ok (.iload_n 1, 1) := oq_27 (byt chX11_keep_0 4 rfl)
theorem dX11_keep_5 : decode cX11_keep 5 = .ok (.iaload, 1) := oq_46 (byt chX11_keep_0 5 rfl)
theorem dX11_keep_6 : decode cX11_keep 6 = .ok (.istore 5, 2) := oq_54 (byt chX11_keep_0 6 rfl) (byt chX11_keep_0 7 rfl) rfl
theorem dX11_keep_8 : decode cX11_keep 8 = .ok (.iload 5, 2) := oq_21 (byt chX11_keep_0 8 rfl) (byt chX11_keep_0 9 rfl) rfl
theorem dX11_keep_10 : decode cX11_keep 10 = .ok (.iload 4, 2) := oq_21 (byt chX11_keep_0 10 rfl) (byt chX11_keep_0 11 rfl) rfl
theorem dX11_keep_12 : decode cX11_keep 12 = .ok (.if_icmp .ne 4, 3) := oq_160 (byt chX11_keep_0 12 rfl) (byt chX11_keep_0 13 rfl) (byt chX11_keep_0 14 rfl) (by decide +kernel)
theorem dX11_keep_15 : decode cX11_keep 15 = .ok (.return_, 1) := oq_177 (byt chX11_keep_0 15 rfl)
theorem dX11_keep_16 : decode cX11_keep 16 = .ok (.iconst 0, 1) := oq_3 (byt chX11_keep_1 0 rfl)
theorem dX11_keep_17 : decode cX11_keep 17 = .ok (.istore 6, 2) := oq_54 (byt chX11_keep_1 1 rfl) (byt chX11_keep_1 2 rfl) rfl
theorem dX11_keep_19 : decode cX11_keep 19 = .ok (.iload 6, 2) := oq_21 (byt chX11_keep_1 3 rfl) (byt chX11_keep_1 4 rfl) rfl
theorem dX11_keep_21 : decode cX11_keep 21 = .ok (.iload_n 3, 1) := oq_29 (byt chX11_keep_1 5 rfl)
theorem dX11_keep_22 : decode cX11_keep 22 = .ok (.if_icmp .ge 30, 3) := oq_162 (byt chX11_keep_1 6 rfl) (byt chX11_keep_1 7 rfl) (byt chX11_keep_1 8 rfl) (by decide +kernel)
theorem dX11_keep_25 : decode cX11_keep 25 = .ok (.aload_n 0, 1) := oq_42 (byt chX11_keep_1 9 rfl)
theorem dX11_keep_26 : decode cX11_keep 26 = .ok (.getfield 38, 3) := oq_180 (byt chX11_keep_1 10 rfl) (byt chX11_keep_1 11 rfl) (byt chX11_keep_1 12 rfl) rfl
theorem dX11_keep_29 : decode cX11_keep 29 = .ok (.iload_n 2, 1) := oq_28 (byt chX11_keep_1 13 rfl)
theorem dX11_keep_30 : decode cX11_keep 30 = .ok (.iload_n 3, 1) := oq_29 (byt chX11_keep_1 14 rfl)
theorem dX11_keep_31 : decode cX11_keep 31 = .ok (.iload 5, 2) := oq_21 (byt chX11_keep_1 15 rfl) (byt chX11_keep_2 0 rfl) rfl
theorem dX11_keep_33 : decode cX11_keep 33 = .ok (.imul, 1) := oq_104 (byt chX11_keep_2 1 rfl)
theorem dX11_keep_34 : decode cX11_keep 34 = .ok (.iadd, 1) := oq_96 (byt chX11_keep_2 2 rfl)
theorem dX11_keep_35 : decode cX11_keep 35 = .ok (.iload 6, 2) := oq_21 (byt chX11_keep_2 3 rfl) (byt chX11_keep_2 4 rfl) rfl
theorem dX11_keep_37 : decode cX11_keep 37 = .ok (.iadd, 1) := oq_96 (byt chX11_keep_2 5 rfl)
theorem dX11_keep_38 : decode cX11_keep 38 = .ok (.aload_n 0, 1) := oq_42 (byt chX11_keep_2 6 rfl)
theorem dX11_keep_39 : decode cX11_keep 39 = .ok (.getfield 41, 3) := oq_180 (byt chX11_keep_2 7 rfl) (byt chX11_keep_2 8 rfl) (byt chX11_keep_2 9 rfl) rfl
theorem dX11_keep_42 : decode cX11_keep 42 = .ok (.iload 6, 2) := oq_21 (byt chX11_keep_2 10 rfl) (byt chX11_keep_2 11 rfl) rfl
theorem dX11_keep_44 : decode cX11_keep 44 = .ok (.iaload, 1) := oq_46 (byt chX11_keep_2 12 rfl)
theorem dX11_keep_45 : decode cX11_keep 45 = .ok (.iastore, 1) := oq_79 (byt chX11_keep_2 13 rfl)
theorem dX11_keep_46 : decode cX11_keep 46 = .ok (.iinc 6 1, 3) := oq_132 (byt chX11_keep_2 14 rfl) (byt chX11_keep_2 15 rfl) (byt chX11_keep_3 0 rfl) rfl
theorem dX11_keep_49 : decode cX11_keep 49 = .ok (.goto (-30), 3) := oq_167 (byt chX11_keep_3 1 rfl) (byt chX11_keep_3 2 rfl) (byt chX11_keep_3 3 rfl) (by decide +kernel)
theorem dX11_keep_52 : decode cX11_keep 52 = .ok (.aload_n 0, 1) := oq_42 (byt chX11_keep_3 4 rfl)
theorem dX11_keep_53 : decode cX11_keep 53 = .ok (.getfield 38, 3) := oq_180 (byt chX11_keep_3 5 rfl) (byt chX11_keep_3 6 rfl) (byt chX11_keep_3 7 rfl) rfl
theorem dX11_keep_56 : decode cX11_keep 56 = .ok (.iload_n 1, 1) := oq_27 (byt chX11_keep_3 8 rfl)
theorem dX11_keep_57 : decode cX11_keep 57 = .ok (.dup2, 1) := oq_92 (byt chX11_keep_3 9 rfl)
theorem dX11_keep_58 : decode cX11_keep 58 = .ok (.iaload, 1) := oq_46 (byt chX11_keep_3 10 rfl)
theorem dX11_keep_59 : decode cX11_keep 59 = .ok (.iconst 1, 1) := oq_4 (byt chX11_keep_3 11 rfl)
theorem dX11_keep_60 : decode cX11_keep 60 = .ok (.iadd, 1) := oq_96 (byt chX11_keep_3 12 rfl)
theorem dX11_keep_61 : decode cX11_keep 61 = .ok (.iastore, 1) := oq_79 (byt chX11_keep_3 13 rfl)
theorem dX11_keep_62 : decode cX11_keep 62 = .ok (.return_, 1) := oq_177 (byt chX11_keep_3 14 rfl)
abbrev mX11_keep : MI := (yX11_keep, cX11_keep, 7, none, noE)
theorem okX11_keep : cok mX11_keep 4 := ⟨tw1462, tw11, by decide, by decide, by decide, by decide +kernel⟩
def fX11_keep (M : Mem) (a0 a1 a2 a3 a4 : Int) : Option Mem :=
  if M.2.1 a0 = 10 then if M.2.1 (M.1 a0 19) = 12 ∧ (0 : Int) ≤ a1 ∧ a1 < M.2.2.1 (M.1 a0 19) then if M.1 (M.1 a0 19) a1 = a4 then (some M) else (iterC (fun (rec4 : (Int × Mem) → Option Mem) (s5 : Int × Mem) => if s5.1 < a3 then (if s5.2.2.1 a0 = 10 then if s5.2.2.1 (s5.2.1 a0 20) = 12 ∧ (0 : Int) ≤ s5.1 ∧ s5.1 < s5.2.2.2.1 (s5.2.1 a0 20) then if s5.2.2.1 (s5.2.1 a0 19) = 12 ∧ (0 : Int) ≤ (w32 ((w32 (a2 + (w32 (a3 * (M.1 (M.1 a0 19) a1))))) + s5.1)) ∧ (w32 ((w32 (a2 + (w32 (a3 * (M.1 (M.1 a0 19) a1))))) + s5.1)) < s5.2.2.2.1 (s5.2.1 a0 19) then bM (mst s5.2 (s5.2.1 a0 19) (w32 ((w32 (a2 + (w32 (a3 * (M.1 (M.1 a0 19) a1))))) + s5.1)) (s5.2.1 (s5.2.1 a0 20) s5.1)) fun M10 => rec4 (w32 (s5.1 + 1), M10) else none else none else none) else (if s5.2.2.1 a0 = 10 then if s5.2.2.1 (s5.2.1 a0 19) = 12 ∧ (0 : Int) ≤ a1 ∧ a1 < s5.2.2.2.1 (s5.2.1 a0 19) then if s5.2.2.1 (s5.2.1 a0 19) = 12 ∧ (0 : Int) ≤ a1 ∧ a1 < s5.2.2.2.1 (s5.2.1 a0 19) then bM (mst s5.2 (s5.2.1 a0 19) a1 (w32 ((s5.2.1 (s5.2.1 a0 19) a1) + 1))) fun M15 => some M15 else none else none else none)) BIG (0, M)) else none else none
set_option maxRecDepth 100000 in
set_option maxHeartbeats 4000000 in
theorem kX11_keep (d : Nat) (hd : 0 ≤ d) (M : Mem) (a0 a1 a2 a3 a4 : Int) : Ct mX11_keep d 0 0 [pA a0, pI a1, pI a2, pI a3, pI a4] M dV (fX11_keep M a0 a1 a2 a3 a4) := by
  refine Ct.of 2 (fun _ _ _ => trivial) (by decide +kernel) rfl ?_
  unfold fX11_keep
  refine v_aload_n dX11_keep_0 rfl ?_
  refine v_if (fun h1 => ?_)
  refine v_get (v := pA (M.1 a0 19)) 10 19 rfl inX11 (by decide) tw1212 dX11_keep_1 h1 rfl ?_
  refine v_iload_n dX11_keep_4 rfl ?_
  refine v_if (fun h2 => ?_)
  refine v_iaload h2 dX11_keep_5 ?_
  refine v_istore (ls' := [some (pA a0), some (pI a1), some (pI a2), some (pI a3), some (pI a4), some (pI (M.1 (M.1 a0 19) a1)), none]) dX11_keep_6 (by decide) rfl ?_
  refine v_iload dX11_keep_8 rfl ?_
  refine v_iload dX11_keep_10 rfl ?_
  refine v_icmp_ne (tgt := 16) dX11_keep_12 (by decide) (fun c3 => ?_) (fun c3 => ?_)
  · exact v_return dX11_keep_15 rfl rfl
  · refine v_iconst dX11_keep_16 (by decide) ?_
    refine v_istore (ls' := [some (pA a0), some (pI a1), some (pI a2), some (pI a3), some (pI a4), some (pI (M.1 (M.1 a0 19) a1)), some (pI 0)]) dX11_keep_17 (by decide) rfl ?_
    refine v_drop [some (pA a0), some (pI a1), some (pI a2), some (pI a3), none, some (pI (M.1 (M.1 a0 19) a1)), some (pI 0)] (ls_s (ls_s (ls_s (ls_s (ls_n (ls_s (ls_s ls_e))))))) ?_
    refine v_loop (fun (s5 : Int × Mem) => [some (pA a0), some (pI a1), some (pI a2), some (pI a3), none, some (pI (M.1 (M.1 a0 19) a1)), some (pI s5.1)]) (fun (s5 : Int × Mem) => s5.2) (s0 := (0, M)) ?_
    intro rec4 hrec4 s5
    refine v_iload dX11_keep_19 rfl ?_
    refine v_iload_n dX11_keep_21 rfl ?_
    refine v_icmp_ge (tgt := 52) dX11_keep_22 (by decide) (fun c6 => ?_) (fun c6 => ?_)
    · refine v_aload_n dX11_keep_25 rfl ?_
      refine v_if (fun h7 => ?_)
      refine v_get (v := pA (s5.2.1 a0 19)) 10 19 rfl inX11 (by decide) tw1212 dX11_keep_26 h7 rfl ?_
      refine v_iload_n dX11_keep_29 rfl ?_
      refine v_iload_n dX11_keep_30 rfl ?_
      refine v_iload dX11_keep_31 rfl ?_
      refine v_imul dX11_keep_33 ?_
      refine v_iadd dX11_keep_34 ?_
      refine v_iload dX11_keep_35 rfl ?_
      refine v_iadd dX11_keep_37 ?_
      refine v_aload_n dX11_keep_38 rfl ?_
      refine v_get (v := pA (s5.2.1 a0 20)) 10 20 rfl inX11 (by decide) tw1213 dX11_keep_39 h7 rfl ?_
      refine v_iload dX11_keep_42 rfl ?_
      refine v_if (fun h8 => ?_)
      refine v_iaload h8 dX11_keep_44 ?_
      refine v_if (fun h9 => ?_)
      refine v_iastore h9 dX11_keep_45 ?_
      refine v_bM (fun M10 e11 => ?_)
      refine v_iinc (ls' := [some (pA a0), some (pI a1), some (pI a2), some (pI a3), none, some (pI (M.1 (M.1 a0 19) a1)), some (pI (w32 (s5.1 + 1)))]) dX11_keep_46 (by decide) rfl rfl ?_
      refine v_goto (tgt := 19) dX11_keep_49 (by decide) ?_
      exact hrec4 (w32 (s5.1 + 1), M10)
    · refine v_aload_n dX11_keep_52 rfl ?_
      refine v_if (fun h12 => ?_)
      refine v_get (v := pA (s5.2.1 a0 19)) 10 19 rfl inX11 (by decide) tw1212 dX11_keep_53 h12 rfl ?_
      refine v_iload_n dX11_keep_56 rfl ?_
      refine v_dup2 dX11_keep_57 (by intro z hz; cases hz) (by intro z hz; cases hz) ?_
      refine v_if (fun h13 => ?_)
      refine v_iaload h13 dX11_keep_58 ?_
      refine v_iconst dX11_keep_59 (by decide) ?_
      refine v_iadd dX11_keep_60 ?_
      refine v_if (fun h14 => ?_)
      refine v_iastore h14 dX11_keep_61 ?_
      refine v_bM (fun M15 e16 => ?_)
      exact v_return dX11_keep_62 rfl rfl
theorem chX11_lay_0 : (cX11_lay.data.toList.drop 0).take 16 = [42, 180, 0, 146, 153, 0, 10, 42, 180, 0, 38, 27, 28, 79, 177] := by decide +kernel
theorem dX11_lay_0 : decode cX11_lay 0 = .ok (.aload_n 0, 1) := oq_42 (byt chX11_lay_0 0 rfl)
theorem dX11_lay_1 : decode cX11_lay 1 = .ok (.getfield 146, 3) := oq_180 (byt chX11_lay_0 1 rfl) (byt chX11_lay_0 2 rfl) (byt chX11_lay_0 3 rfl) rfl
theorem dX11_lay_4 : decode cX11_lay 4 = .ok (.ifCond .eq 10, 3) := oq_153 (byt chX11_lay_0 4 rfl) (byt chX11_lay_0 5 rfl) (byt chX11_lay_0 6 rfl) (by decide +kernel)
theorem dX11_lay_7 : decode cX11_lay 7 = .ok (.aload_n 0, 1) := oq_42 (byt chX11_lay_0 7 rfl)
theorem dX11_lay_8 : decode cX11_lay 8 = .ok (.getfield 38, 3) := oq_180 (byt chX11_lay_0 8 rfl) (byt chX11_lay_0 9 rfl) (byt chX11_lay_0 10 rfl) rfl
theorem dX11_lay_11 : decode cX11_lay 11 = .ok (.iload_n 1, 1) := oq_27 (byt chX11_lay_0 11 rfl)
theorem dX11_lay_12 : decode cX11_lay 12 = .ok (.iload_n 2, 1) := oq_28 (byt chX11_lay_0 12 rfl)
theorem dX11_lay_13 : decode cX11_lay 13 = .ok (.iastore, 1) := oq_79 (byt chX11_lay_0 13 rfl)
theorem dX11_lay_14 : decode cX11_lay 14 = .ok (.return_, 1) := oq_177 (byt chX11_lay_0 14 rfl)
abbrev mX11_lay : MI := (yX11_lay, cX11_lay, 3, none, noE)
theorem okX11_lay : cok mX11_lay 2 := ⟨tw1446, tw11, by decide, by decide, by decide, by decide +kernel⟩
def fX11_lay (M : Mem) (a0 a1 a2 : Int) : Option Mem :=
  if M.2.1 a0 = 10 then if M.1 a0 23 = 0 then (some M) else (if M.2.1 (M.1 a0 19) = 12 ∧ (0 : Int) ≤ a1 ∧ a1 < M.2.2.1 (M.1 a0 19) then bM (mst M (M.1 a0 19) a1 a2) fun M4 => some M4 else none) else none
set_option maxRecDepth 100000 in
set_option maxHeartbeats 4000000 in
theorem kX11_lay (d : Nat) (hd : 0 ≤ d) (M : Mem) (a0 a1 a2 : Int) : Ct mX11_lay d 0 0 [pA a0, pI a1, pI a2] M dV (fX11_lay M a0 a1 a2) := by
  refine Ct.of 0 (fun _ _ _ => trivial) (by decide +kernel) rfl ?_
  unfold fX11_lay
  refine v_aload_n dX11_lay_0 rfl ?_
  refine v_if (fun h1 => ?_)
  refine v_get (v := pI (M.1 a0 23)) 10 23 rfl inX11 (by decide) tw1216 dX11_lay_1 h1 rfl ?_
  refine v_if_eq (tgt := 14) dX11_lay_4 (by decide) (fun c2 => ?_) (fun c2 => ?_)
  · exact v_return dX11_lay_14 rfl rfl
  · refine v_aload_n dX11_lay_7 rfl ?_
    refine v_get (v := pA (M.1 a0 19)) 10 19 rfl inX11 (by decide) tw1212 dX11_lay_8 h1 rfl ?_
    refine v_iload_n dX11_lay_11 rfl ?_
    refine v_iload_n dX11_lay_12 rfl ?_
    refine v_if (fun h3 => ?_)
    refine v_iastore h3 dX11_lay_13 ?_
    refine v_bM (fun M4 e5 => ?_)
    exact v_return dX11_lay_14 rfl rfl
theorem chX11_goodsLine_0 : (cX11_goodsLine.data.toList.drop 0).take 16 = [42, 3, 182, 0, 167, 153, 0, 24, 42, 4, 3, 7, 182, 0, 157, 153] := by decide +kernel
theorem chX11_goodsLine_1 : (cX11_goodsLine.data.toList.drop 16).take 16 = [0, 14, 42, 5, 3, 16, 9, 182, 0, 157, 154, 0, 5, 3, 172, 42] := by decide +kernel
theorem chX11_goodsLine_2 : (cX11_goodsLine.data.toList.drop 32).take 16 = [27, 8, 42, 180, 0, 41, 3, 46, 104, 96, 42, 180, 0, 41, 4, 46] := by decide +kernel
theorem chX11_goodsLine_3 : (cX11_goodsLine.data.toList.drop 48).take 16 = [96, 42, 180, 0, 41, 5, 46, 182, 0, 171, 4, 172] := by decide +kernel
theorem dX11_goodsLine_0 : decode cX11_goodsLine 0 = .ok (.aload_n 0, 1) := oq_42 (byt chX11_goodsLine_0 0 rfl)
theorem dX11_goodsLine_1 : decode cX11_goodsLine 1 = .ok (.iconst 0, 1) := oq_3 (byt chX11_goodsLine_0 1 rfl)
theorem dX11_goodsLine_2 : decode cX11_goodsLine 2 = .ok (.invokevirtual 167, 3) := oq_182 (byt chX11_goodsLine_0 2 rfl) (byt chX11_goodsLine_0 3 rfl) (byt chX11_goodsLine_0 4 rfl) rfl
theorem dX11_goodsLine_5 : decode cX11_goodsLine 5 = .ok (.ifCond .eq 24, 3) := oq_153 (byt chX11_goodsLine_0 5 rfl) (byt chX11_goodsLine_0 6 rfl) (byt chX11_goodsLine_0 7 rfl) (by decide +kernel)
theorem dX11_goodsLine_8 : decode cX11_goodsLine 8 = .ok (.aload_n 0, 1) := oq_42 (byt chX11_goodsLine_0 8 rfl)
theorem dX11_goodsLine_9 : decode cX11_goodsLine 9 = .ok (.iconst 1, 1) := oq_4 (byt chX11_goodsLine_0 9 rfl)
theorem dX11_goodsLine_10 : decode cX11_goodsLine 10 = .ok (.iconst 0, 1) := oq_3 (byt chX11_goodsLine_0 10 rfl)
theorem dX11_goodsLine_11 : decode cX11_goodsLine 11 = .ok (.iconst 4, 1) := oq_7 (byt chX11_goodsLine_0 11 rfl)
theorem dX11_goodsLine_12 : decode cX11_goodsLine 12 = .ok (.invokevirtual 157, 3) := oq_182 (byt chX11_goodsLine_0 12 rfl) (byt chX11_goodsLine_0 13 rfl) (byt chX11_goodsLine_0 14 rfl) rfl
theorem dX11_goodsLine_15 : decode cX11_goodsLine 15 = .ok (.ifCond .eq 14, 3) := oq_153 (byt chX11_goodsLine_0 15 rfl) (byt chX11_goodsLine_1 0 rfl) (byt chX11_goodsLine_1 1 rfl) (by decide +kernel)
theorem dX11_goodsLine_18 : decode cX11_goodsLine 18 = .ok (.aload_n 0, 1) := oq_42 (byt chX11_goodsLine_1 2 rfl)
theorem dX11_goodsLine_19 : decode cX11_goodsLine 19 = .ok (.iconst 2, 1) := oq_5 (byt chX11_goodsLine_1 3 rfl)
theorem dX11_goodsLine_20 : decode cX11_goodsLine 20 = .ok (.iconst 0, 1) := oq_3 (byt chX11_goodsLine_1 4 rfl)
theorem dX11_goodsLine_21 : decode cX11_goodsLine 21 = .ok (.bipush 9, 2) := oq_16 (byt chX11_goodsLine_1 5 rfl) (byt chX11_goodsLine_1 6 rfl) rfl
theorem dX11_goodsLine_23 : decode cX11_goodsLine 23 = .ok (.invokevirtual 157, 3) := oq_182 (byt chX11_goodsLine_1 7 rfl) (byt chX11_goodsLine_1 8 rfl) (byt chX11_goodsLine_1 9 rfl) rfl
theorem dX11_goodsLine_26 : decode cX11_goodsLine 26 = .ok (.ifCond .ne 5, 3) := oq_154 (byt chX11_goodsLine_1 10 rfl) (byt chX11_goodsLine_1 11 rfl) (byt chX11_goodsLine_1 12 rfl) (by decide +kernel)
theorem dX11_goodsLine_29 : decode cX11_goodsLine 29 = .ok (.iconst 0, 1) := oq_3 (byt chX11_goodsLine_1 13 rfl)
theorem dX11_goodsLine_30 : decode cX11_goodsLine 30 = .ok (.ireturn, 1) := oq_172 (byt chX11_goodsLine_1 14 rfl)
theorem dX11_goodsLine_31 : decode cX11_goodsLine 31 = .ok (.aload_n 0, 1) := oq_42 (byt chX11_goodsLine_1 15 rfl)
theorem dX11_goodsLine_32 : decode cX11_goodsLine 32 = .ok (.iload_n 1, 1) := oq_27 (byt chX11_goodsLine_2 0 rfl)
theorem dX11_goodsLine_33 : decode cX11_goodsLine 33 = .ok (.iconst 5, 1) := oq_8 (byt chX11_goodsLine_2 1 rfl)
theorem dX11_goodsLine_34 : decode cX11_goodsLine 34 = .ok (.aload_n 0, 1) := oq_42 (byt chX11_goodsLine_2 2 rfl)
theorem dX11_goodsLine_35 : decode cX11_goodsLine 35 = .ok (.getfield 41, 3) := oq_180 (byt chX11_goodsLine_2 3 rfl) (byt chX11_goodsLine_2 4 rfl) (byt chX11_goodsLine_2 5 rfl) rfl
theorem dX11_goodsLine_38 : decode cX11_goodsLine 38 = .ok (.iconst 0, 1) := oq_3 (byt chX11_goodsLine_2 6 rfl)
theorem dX11_goodsLine_39 : decode cX11_goodsLine 39 = .ok (.iaload, 1) := oq_46 (byt chX11_goodsLine_2 7 rfl)
theorem dX11_goodsLine_40 : decode cX11_goodsLine 40 = .ok (.imul, 1) := oq_104 (byt chX11_goodsLine_2 8 rfl)
theorem dX11_goodsLine_41 : decode cX11_goodsLine 41 = .ok (.iadd, 1) := oq_96 (byt chX11_goodsLine_2 9 rfl)
theorem dX11_goodsLine_42 : decode cX11_goodsLine 42 = .ok (.aload_n 0, 1) := oq_42 (byt chX11_goodsLine_2 10 rfl)
theorem dX11_goodsLine_43 : decode cX11_goodsLine 43 = .ok (.getfield 41, 3) := oq_180 (byt chX11_goodsLine_2 11 rfl) (byt chX11_goodsLine_2 12 rfl) (byt chX11_goodsLine_2 13 rfl) rfl
theorem dX11_goodsLine_46 : decode cX11_goodsLine 46 = .ok (.iconst 1, 1) := oq_4 (byt chX11_goodsLine_2 14 rfl)
theorem dX11_goodsLine_47 : decode cX11_goodsLine 47 = .ok (.iaload, 1) := oq_46 (byt chX11_goodsLine_2 15 rfl)
theorem dX11_goodsLine_48 : decode cX11_goodsLine 48 = .ok (.iadd, 1) := oq_96 (byt chX11_goodsLine_3 0 rfl)
theorem dX11_goodsLine_49 : decode cX11_goodsLine 49 = .ok (.aload_n 0, 1) := oq_42 (byt chX11_goodsLine_3 1 rfl)
theorem dX11_goodsLine_50 : decode cX11_goodsLine 50 = .ok (.getfield 41, 3) := oq_180 (byt chX11_goodsLine_3 2 rfl) (byt chX11_goodsLine_3 3 rfl) (byt chX11_goodsLine_3 4 rfl) rfl
theorem dX11_goodsLine_53 : decode cX11_goodsLine 53 = .ok (.iconst 2, 1) := oq_5 (byt chX11_goodsLine_3 5 rfl)
theorem dX11_goodsLine_54 : decode cX11_goodsLine 54 = .ok (.iaload, 1) := oq_46 (byt chX11_goodsLine_3 6 rfl)
theorem dX11_goodsLine_55 : decode cX11_goodsLine 55 = .ok (.invokevirtual 171, 3) := oq_182 (byt chX11_goodsLine_3 7 rfl) (byt chX11_goodsLine_3 8 rfl) (byt chX11_goodsLine_3 9 rfl) rfl
theorem dX11_goodsLine_58 : decode cX11_goodsLine 58 = .ok (.iconst 1, 1) := oq_4 (byt chX11_goodsLine_3 10 rfl)
theorem dX11_goodsLine_59 : decode cX11_goodsLine 59 = .ok (.ireturn, 1) := oq_172 (byt chX11_goodsLine_3 11 rfl)
abbrev mX11_goodsLine : MI := (yX11_goodsLine, cX11_goodsLine, 2, (some .boolean), noE)
theorem okX11_goodsLine : cok mX11_goodsLine 1 := ⟨tw1427, tw11, by decide, by decide, by decide, by decide +kernel⟩
def fX11_goodsLine (M : Mem) (a0 a1 : Int) : Option (Int × Mem) :=
  if M.2.1 a0 = 10 then (fX11_takeHouse M a0 0).bind fun r1 => if r1.1 = 0 then (some (0, r1.2)) else (if r1.2.2.1 a0 = 10 then (fX11_take r1.2 a0 1 0 4).bind fun r5 => if r5.1 = 0 then (some (0, r5.2)) else (if r5.2.2.1 a0 = 10 then (fX11_take r5.2 a0 2 0 9).bind fun r9 => if r9.1 = 0 then (some (0, r9.2)) else (if r9.2.2.1 a0 = 10 then if r9.2.2.1 (r9.2.1 a0 20) = 12 ∧ (0 : Int) ≤ 0 ∧ 0 < r9.2.2.2.1 (r9.2.1 a0 20) then if r9.2.2.1 (r9.2.1 a0 20) = 12 ∧ (0 : Int) ≤ 1 ∧ 1 < r9.2.2.2.1 (r9.2.1 a0 20) then if r9.2.2.1 (r9.2.1 a0 20) = 12 ∧ (0 : Int) ≤ 2 ∧ 2 < r9.2.2.2.1 (r9.2.1 a0 20) then (fX11_lay r9.2 a0 (w32 ((w32 (a1 + (w32 (5 * (r9.2.1 (r9.2.1 a0 20) 0))))) + (r9.2.1 (r9.2.1 a0 20) 1))) (r9.2.1 (r9.2.1 a0 20) 2)).bind fun r17 => some (1, r17) else none else none else none else none) else none) else none) else none
set_option maxRecDepth 100000 in
set_option maxHeartbeats 4000000 in
theorem kX11_goodsLine (d : Nat) (hd : 5 ≤ d) (M : Mem) (a0 a1 : Int) : Ct mX11_goodsLine d 0 0 [pA a0, pI a1] M dIM (fX11_goodsLine M a0 a1) := by
  obtain ⟨d, rfl⟩ : ∃ k, d = k + 1 := ⟨d - 1, by omega⟩
  refine Ct.of 0 (fun _ _ _ => trivial) (by decide +kernel) rfl ?_
  unfold fX11_goodsLine
  refine v_aload_n dX11_goodsLine_0 rfl ?_
  refine v_iconst dX11_goodsLine_1 (by decide) ?_
  refine v_if (fun h3 => ?_)
  refine v_cV (mi := mX11_goodsLine) (c0 := 0) (c1 := 0) (As := [pI 0]) (st := []) (kX11_takeHouse d (by omega) _ _ _) rfl h3 rfl okX11_takeHouse (Or.inl tw1428) tw1430 tp41 rfl (Nat.le_of_ble_eq_true rfl) dX11_goodsLine_2 (fun r1 => [pI r1.1]) (fun r1 => r1.2) (fun _ => rfl) (fun _ => rfl) (fun r1 h2 => ?_) rfl
  refine v_if_eq (tgt := 29) dX11_goodsLine_5 (by decide) (fun c4 => ?_) (fun c4 => ?_)
  · refine v_iconst dX11_goodsLine_29 (by decide) ?_
    exact v_breturn dX11_goodsLine_30 rfl (by decide) rfl
  · refine v_aload_n dX11_goodsLine_8 rfl ?_
    refine v_iconst dX11_goodsLine_9 (by decide) ?_
    refine v_iconst dX11_goodsLine_10 (by decide) ?_
    refine v_iconst dX11_goodsLine_11 (by decide) ?_
    refine v_if (fun h7 => ?_)
    refine v_cV (mi := mX11_goodsLine) (c0 := 0) (c1 := 0) (As := [pI 1, pI 0, pI 4]) (st := []) (kX11_take d (by omega) _ _ _ _ _) rfl h7 rfl okX11_take (Or.inl tw1432) tw1434 tp42 rfl (Nat.le_of_ble_eq_true rfl) dX11_goodsLine_12 (fun r5 => [pI r5.1]) (fun r5 => r5.2) (fun _ => rfl) (fun _ => rfl) (fun r5 h6 => ?_) rfl
    refine v_if_eq (tgt := 29) dX11_goodsLine_15 (by decide) (fun c8 => ?_) (fun c8 => ?_)
    · refine v_iconst dX11_goodsLine_29 (by decide) ?_
      exact v_breturn dX11_goodsLine_30 rfl (by decide) rfl
    · refine v_aload_n dX11_goodsLine_18 rfl ?_
      refine v_iconst dX11_goodsLine_19 (by decide) ?_
      refine v_iconst dX11_goodsLine_20 (by decide) ?_
      refine v_bipush dX11_goodsLine_21 (by decide) ?_
      refine v_if (fun h11 => ?_)
      refine v_cV (mi := mX11_goodsLine) (c0 := 0) (c1 := 0) (As := [pI 2, pI 0, pI 9]) (st := []) (kX11_take d (by omega) _ _ _ _ _) rfl h11 rfl okX11_take (Or.inl tw1432) tw1434 tp42 rfl (Nat.le_of_ble_eq_true rfl) dX11_goodsLine_23 (fun r9 => [pI r9.1]) (fun r9 => r9.2) (fun _ => rfl) (fun _ => rfl) (fun r9 h10 => ?_) rfl
      refine v_if_ne (tgt := 31) dX11_goodsLine_26 (by decide) (fun c12 => ?_) (fun c12 => ?_)
      · refine v_iconst dX11_goodsLine_29 (by decide) ?_
        exact v_breturn dX11_goodsLine_30 rfl (by decide) rfl
      · refine v_aload_n dX11_goodsLine_31 rfl ?_
        refine v_iload_n dX11_goodsLine_32 rfl ?_
        refine v_iconst dX11_goodsLine_33 (by decide) ?_
        refine v_aload_n dX11_goodsLine_34 rfl ?_
        refine v_if (fun h13 => ?_)
        refine v_get (v := pA (r9.2.1 a0 20)) 10 20 rfl inX11 (by decide) tw1213 dX11_goodsLine_35 h13 rfl ?_
        refine v_iconst dX11_goodsLine_38 (by decide) ?_
        refine v_if (fun h14 => ?_)
        refine v_iaload h14 dX11_goodsLine_39 ?_
        refine v_imul dX11_goodsLine_40 ?_
        refine v_iadd dX11_goodsLine_41 ?_
        refine v_aload_n dX11_goodsLine_42 rfl ?_
        refine v_get (v := pA (r9.2.1 a0 20)) 10 20 rfl inX11 (by decide) tw1213 dX11_goodsLine_43 h13 rfl ?_
        refine v_iconst dX11_goodsLine_46 (by decide) ?_
        refine v_if (fun h15 => ?_)
        refine v_iaload h15 dX11_goodsLine_47 ?_
        refine v_iadd dX11_goodsLine_48 ?_
        refine v_aload_n dX11_goodsLine_49 rfl ?_
        refine v_get (v := pA (r9.2.1 a0 20)) 10 20 rfl inX11 (by decide) tw1213 dX11_goodsLine_50 h13 rfl ?_
        refine v_iconst dX11_goodsLine_53 (by decide) ?_
        refine v_if (fun h16 => ?_)
        refine v_iaload h16 dX11_goodsLine_54 ?_
        refine v_cV (mi := mX11_goodsLine) (c0 := 0) (c1 := 0) (As := [pI (w32 ((w32 (a1 + (w32 (5 * (r9.2.1 (r9.2.1 a0 20) 0))))) + (r9.2.1 (r9.2.1 a0 20) 1))), pI (r9.2.1 (r9.2.1 a0 20) 2)]) (st := []) (kX11_lay d (by omega) _ _ _ _) rfl h13 rfl okX11_lay (Or.inl tw1443) tw1445 tp44 rfl (Nat.le_of_ble_eq_true rfl) dX11_goodsLine_55 (fun r17 => []) (fun r17 => r17) (fun _ => rfl) (fun _ => rfl) (fun r17 h18 => ?_) rfl
        refine v_iconst dX11_goodsLine_58 (by decide) ?_
        exact v_breturn dX11_goodsLine_59 rfl (by decide) rfl
theorem chX11_sonLine_0 : (cX11_sonLine.data.toList.drop 0).take 16 = [42, 3, 3, 6, 182, 0, 157, 153, 0, 19, 42, 4, 3, 6, 42, 180] := by decide +kernel
theorem chX11_sonLine_1 : (cX11_sonLine.data.toList.drop 16).take 16 = [0, 41, 3, 46, 182, 0, 153, 154, 0, 5, 3, 172, 42, 42, 180, 0] := by decide +kernel
theorem chX11_sonLine_2 : (cX11_sonLine.data.toList.drop 32).take 16 = [174, 42, 180, 0, 41, 3, 46, 42, 180, 0, 41, 4, 46, 184, 0, 163] := by decide +kernel
theorem chX11_sonLine_3 : (cX11_sonLine.data.toList.drop 48).take 16 = [184, 0, 163, 181, 0, 174, 42, 16, 88, 42, 180, 0, 41, 3, 46, 96] := by decide +kernel
theorem chX11_sonLine_4 : (cX11_sonLine.data.toList.drop 64).take 16 = [42, 180, 0, 41, 4, 46, 182, 0, 171, 4, 172] := by decide +kernel
theorem dX11_sonLine_0 : decode cX11_sonLine 0 = .ok (.aload_n 0, 1) := oq_42 (byt chX11_sonLine_0 0 rfl)
theorem dX11_sonLine_1 : decode cX11_sonLine 1 = .ok (.iconst 0, 1) := oq_3 (byt chX11_sonLine_0 1 rfl)
theorem dX11_sonLine_2 : decode cX11_sonLine 2 = .ok (.iconst 0, 1) := oq_3 (byt chX11_sonLine_0 2 rfl)
theorem dX11_sonLine_3 : decode cX11_sonLine 3 = .ok (.iconst 3, 1) := oq_6 (byt chX11_sonLine_0 3 rfl)
theorem dX11_sonLine_4 : decode cX11_sonLine 4 = .ok (.invokevirtual 157, 3) := oq_182 (byt chX11_sonLine_0 4 rfl) (byt chX11_sonLine_0 5 rfl) (byt chX11_sonLine_0 6 rfl) rfl
theorem dX11_sonLine_7 : decode cX11_sonLine 7 = .ok (.ifCond .eq 19, 3) := oq_153 (byt chX11_sonLine_0 7 rfl) (byt chX11_sonLine_0 8 rfl) (byt chX11_sonLine_0 9 rfl) (by decide +kernel)
theorem dX11_sonLine_10 : decode cX11_sonLine 10 = .ok (.aload_n 0, 1) := oq_42 (byt chX11_sonLine_0 10 rfl)
theorem dX11_sonLine_11 : decode cX11_sonLine 11 = .ok (.iconst 1, 1) := oq_4 (byt chX11_sonLine_0 11 rfl)
theorem dX11_sonLine_12 : decode cX11_sonLine 12 = .ok (.iconst 0, 1) := oq_3 (byt chX11_sonLine_0 12 rfl)
theorem dX11_sonLine_13 : decode cX11_sonLine 13 = .ok (.iconst 3, 1) := oq_6 (byt chX11_sonLine_0 13 rfl)
theorem dX11_sonLine_14 : decode cX11_sonLine 14 = .ok (.aload_n 0, 1) := oq_42 (byt chX11_sonLine_0 14 rfl)
theorem dX11_sonLine_15 : decode cX11_sonLine 15 = .ok (.getfield 41, 3) := oq_180 (byt chX11_sonLine_0 15 rfl) (byt chX11_sonLine_1 0 rfl) (byt chX11_sonLine_1 1 rfl) rfl
theorem dX11_sonLine_18 : decode cX11_sonLine 18 = .ok (.iconst 0, 1) := oq_3 (byt chX11_sonLine_1 2 rfl)
theorem dX11_sonLine_19 : decode cX11_sonLine 19 = .ok (.iaload, 1) := oq_46 (byt chX11_sonLine_1 3 rfl)
theorem dX11_sonLine_20 : decode cX11_sonLine 20 = .ok (.invokevirtual 153, 3) := oq_182 (byt chX11_sonLine_1 4 rfl) (byt chX11_sonLine_1 5 rfl) (byt chX11_sonLine_1 6 rfl) rfl
theorem dX11_sonLine_23 : decode cX11_sonLine 23 = .ok (.ifCond .ne 5, 3) := oq_154 (byt chX11_sonLine_1 7 rfl) (byt chX11_sonLine_1 8 rfl) (byt chX11_sonLine_1 9 rfl) (by decide +kernel)
theorem dX11_sonLine_26 : decode cX11_sonLine 26 = .ok (.iconst 0, 1) := oq_3 (byt chX11_sonLine_1 10 rfl)
theorem dX11_sonLine_27 : decode cX11_sonLine 27 = .ok (.ireturn, 1) := oq_172 (byt chX11_sonLine_1 11 rfl)
theorem dX11_sonLine_28 : decode cX11_sonLine 28 = .ok (.aload_n 0, 1) := oq_42 (byt chX11_sonLine_1 12 rfl)
theorem dX11_sonLine_29 : decode cX11_sonLine 29 = .ok (.aload_n 0, 1) := oq_42 (byt chX11_sonLine_1 13 rfl)
theorem dX11_sonLine_30 : decode cX11_sonLine 30 = .ok (.getfield 174, 3) := oq_180 (byt chX11_sonLine_1 14 rfl) (byt chX11_sonLine_1 15 rfl) (byt chX11_sonLine_2 0 rfl) rfl
theorem dX11_sonLine_33 : decode cX11_sonLine 33 = .ok (.aload_n 0, 1) := oq_42 (byt chX11_sonLine_2 1 rfl)
theorem dX11_sonLine_34 : decode cX11_sonLine 34 = .ok (.getfield 41, 3) := oq_180 (byt chX11_sonLine_2 2 rfl) (byt chX11_sonLine_2 3 rfl) (byt chX11_sonLine_2 4 rfl) rfl
theorem dX11_sonLine_37 : decode cX11_sonLine 37 = .ok (.iconst 0, 1) := oq_3 (byt chX11_sonLine_2 5 rfl)
theorem dX11_sonLine_38 : decode cX11_sonLine 38 = .ok (.iaload, 1) := oq_46 (byt chX11_sonLine_2 6 rfl)
theorem dX11_sonLine_39 : decode cX11_sonLine 39 = .ok (.aload_n 0, 1) := oq_42 (byt chX11_sonLine_2 7 rfl)
theorem dX11_sonLine_40 : decode cX11_sonLine 40 = .ok (.getfield 41, 3) := oq_180 (byt chX11_sonLine_2 8 rfl) (byt chX11_sonLine_2 9 rfl) (byt chX11_sonLine_2 10 rfl) rfl
theorem dX11_sonLine_43 : decode cX11_sonLine 43 = .ok (.iconst 1, 1) := oq_4 (byt chX11_sonLine_2 11 rfl)
theorem dX11_sonLine_44 : decode cX11_sonLine 44 = .ok (.iaload, 1) := oq_46 (byt chX11_sonLine_2 12 rfl)
theorem dX11_sonLine_45 : decode cX11_sonLine 45 = .ok (.invokestatic 163, 3) := oq_184 (byt chX11_sonLine_2 13 rfl) (byt chX11_sonLine_2 14 rfl) (byt chX11_sonLine_2 15 rfl) rfl
theorem dX11_sonLine_48 : decode cX11_sonLine 48 = .ok (.invokestatic 163, 3) := oq_184 (byt chX11_sonLine_3 0 rfl) (byt chX11_sonLine_3 1 rfl) (byt chX11_sonLine_3 2 rfl) rfl
theorem dX11_sonLine_51 : decode cX11_sonLine 51 = .ok (.putfield 174, 3) := oq_181 (byt chX11_sonLine_3 3 rfl) (byt chX11_sonLine_3 4 rfl) (byt chX11_sonLine_3 5 rfl) rfl
theorem dX11_sonLine_54 : decode cX11_sonLine 54 = .ok (.aload_n 0, 1) := oq_42 (byt chX11_sonLine_3 6 rfl)
theorem dX11_sonLine_55 : decode cX11_sonLine 55 = .ok (.bipush 88, 2) := oq_16 (byt chX11_sonLine_3 7 rfl) (byt chX11_sonLine_3 8 rfl) rfl
theorem dX11_sonLine_57 : decode cX11_sonLine 57 = .ok (.aload_n 0, 1) := oq_42 (byt chX11_sonLine_3 9 rfl)
theorem dX11_sonLine_58 : decode cX11_sonLine 58 = .ok (.getfield 41, 3) := oq_180 (byt chX11_sonLine_3 10 rfl) (byt chX11_sonLine_3 11 rfl) (byt chX11_sonLine_3 12 rfl) rfl
theorem dX11_sonLine_61 : decode cX11_sonLine 61 = .ok (.iconst 0, 1) := oq_3 (byt chX11_sonLine_3 13 rfl)
theorem dX11_sonLine_62 : decode cX11_sonLine 62 = .ok (.iaload, 1) := oq_46 (byt chX11_sonLine_3 14 rfl)
theorem dX11_sonLine_63 : decode cX11_sonLine 63 = .ok (.iadd, 1) := oq_96 (byt chX11_sonLine_3 15 rfl)
theorem dX11_sonLine_64 : decode cX11_sonLine 64 = .ok (.aload_n 0, 1) := oq_42 (byt chX11_sonLine_4 0 rfl)
theorem dX11_sonLine_65 : decode cX11_sonLine 65 = .ok (.getfield 41, 3) := oq_180 (byt chX11_sonLine_4 1 rfl) (byt chX11_sonLine_4 2 rfl) (byt chX11_sonLine_4 3 rfl) rfl
theorem dX11_sonLine_68 : decode cX11_sonLine 68 = .ok (.iconst 1, 1) := oq_4 (byt chX11_sonLine_4 4 rfl)
theorem dX11_sonLine_69 : decode cX11_sonLine 69 = .ok (.iaload, 1) := oq_46 (byt chX11_sonLine_4 5 rfl)
theorem dX11_sonLine_70 : decode cX11_sonLine 70 = .ok (.invokevirtual 171, 3) := oq_182 (byt chX11_sonLine_4 6 rfl) (byt chX11_sonLine_4 7 rfl) (byt chX11_sonLine_4 8 rfl) rfl
theorem dX11_sonLine_73 : decode cX11_sonLine 73 = .ok (.iconst 1, 1) := oq_4 (byt chX11_sonLine_4 9 rfl)
theorem dX11_sonLine_74 : decode cX11_sonLine 74 = .ok (.ireturn, 1) := oq_172 (byt chX11_sonLine_4 10 rfl)
abbrev mX11_sonLine : MI := (yX11_sonLine, cX11_sonLine, 1, (some .boolean), noE)
theorem okX11_sonLine : cok mX11_sonLine 0 := ⟨tw1458, tw11, by decide, by decide, by decide, by decide +kernel⟩
def fX11_sonLine (M : Mem) (a0 : Int) : Option (Int × Mem) :=
  if M.2.1 a0 = 10 then (fX11_take M a0 0 0 3).bind fun r1 => if r1.1 = 0 then (some (0, r1.2)) else (if r1.2.2.1 a0 = 10 then if r1.2.2.1 (r1.2.1 a0 20) = 12 ∧ (0 : Int) ≤ 0 ∧ 0 < r1.2.2.2.1 (r1.2.1 a0 20) then (fX11_takeBut r1.2 a0 1 0 3 (r1.2.1 (r1.2.1 a0 20) 0)).bind fun r7 => if r7.1 = 0 then (some (0, r7.2)) else (if r7.2.2.1 a0 = 10 then if r7.2.2.1 (r7.2.1 a0 20) = 12 ∧ (0 : Int) ≤ 0 ∧ 0 < r7.2.2.2.1 (r7.2.1 a0 20) then if r7.2.2.1 (r7.2.1 a0 20) = 12 ∧ (0 : Int) ≤ 1 ∧ 1 < r7.2.2.2.1 (r7.2.1 a0 20) then (fX11_greater r7.2 (r7.2.1 (r7.2.1 a0 20) 0) (r7.2.1 (r7.2.1 a0 20) 1)).bind fun r13 => (fX11_greater r7.2 (r7.2.1 a0 22) r13).bind fun r15 => bM (mst r7.2 a0 22 r15) fun M17 => if M17.2.1 (M17.1 a0 20) = 12 ∧ (0 : Int) ≤ 0 ∧ 0 < M17.2.2.1 (M17.1 a0 20) then if M17.2.1 (M17.1 a0 20) = 12 ∧ (0 : Int) ≤ 1 ∧ 1 < M17.2.2.1 (M17.1 a0 20) then (fX11_lay M17 a0 (w32 (88 + (M17.1 (M17.1 a0 20) 0))) (M17.1 (M17.1 a0 20) 1)).bind fun r21 => some (1, r21) else none else none else none else none else none) else none else none) else none
set_option maxRecDepth 100000 in
set_option maxHeartbeats 4000000 in
theorem kX11_sonLine (d : Nat) (hd : 4 ≤ d) (M : Mem) (a0 : Int) : Ct mX11_sonLine d 0 0 [pA a0] M dIM (fX11_sonLine M a0) := by
  obtain ⟨d, rfl⟩ : ∃ k, d = k + 1 := ⟨d - 1, by omega⟩
  refine Ct.of 0 (fun _ _ _ => trivial) (by decide +kernel) rfl ?_
  unfold fX11_sonLine
  refine v_aload_n dX11_sonLine_0 rfl ?_
  refine v_iconst dX11_sonLine_1 (by decide) ?_
  refine v_iconst dX11_sonLine_2 (by decide) ?_
  refine v_iconst dX11_sonLine_3 (by decide) ?_
  refine v_if (fun h3 => ?_)
  refine v_cV (mi := mX11_sonLine) (c0 := 0) (c1 := 0) (As := [pI 0, pI 0, pI 3]) (st := []) (kX11_take d (by omega) _ _ _ _ _) rfl h3 rfl okX11_take (Or.inl tw1432) tw1434 tp42 rfl (Nat.le_of_ble_eq_true rfl) dX11_sonLine_4 (fun r1 => [pI r1.1]) (fun r1 => r1.2) (fun _ => rfl) (fun _ => rfl) (fun r1 h2 => ?_) rfl
  refine v_if_eq (tgt := 26) dX11_sonLine_7 (by decide) (fun c4 => ?_) (fun c4 => ?_)
  · refine v_iconst dX11_sonLine_26 (by decide) ?_
    exact v_breturn dX11_sonLine_27 rfl (by decide) rfl
  · refine v_aload_n dX11_sonLine_10 rfl ?_
    refine v_iconst dX11_sonLine_11 (by decide) ?_
    refine v_iconst dX11_sonLine_12 (by decide) ?_
    refine v_iconst dX11_sonLine_13 (by decide) ?_
    refine v_aload_n dX11_sonLine_14 rfl ?_
    refine v_if (fun h5 => ?_)
    refine v_get (v := pA (r1.2.1 a0 20)) 10 20 rfl inX11 (by decide) tw1213 dX11_sonLine_15 h5 rfl ?_
    refine v_iconst dX11_sonLine_18 (by decide) ?_
    refine v_if (fun h6 => ?_)
    refine v_iaload h6 dX11_sonLine_19 ?_
    refine v_cV (mi := mX11_sonLine) (c0 := 0) (c1 := 0) (As := [pI 1, pI 0, pI 3, pI (r1.2.1 (r1.2.1 a0 20) 0)]) (st := []) (kX11_takeBut d (by omega) _ _ _ _ _ _) rfl h5 rfl okX11_takeBut (Or.inl tw1436) tw1438 tp43 rfl (Nat.le_of_ble_eq_true rfl) dX11_sonLine_20 (fun r7 => [pI r7.1]) (fun r7 => r7.2) (fun _ => rfl) (fun _ => rfl) (fun r7 h8 => ?_) rfl
    refine v_if_ne (tgt := 28) dX11_sonLine_23 (by decide) (fun c9 => ?_) (fun c9 => ?_)
    · refine v_iconst dX11_sonLine_26 (by decide) ?_
      exact v_breturn dX11_sonLine_27 rfl (by decide) rfl
    · refine v_aload_n dX11_sonLine_28 rfl ?_
      refine v_aload_n dX11_sonLine_29 rfl ?_
      refine v_if (fun h10 => ?_)
      refine v_get (v := pI (r7.2.1 a0 22)) 10 22 rfl inX11 (by decide) tw1215 dX11_sonLine_30 h10 rfl ?_
      refine v_aload_n dX11_sonLine_33 rfl ?_
      refine v_get (v := pA (r7.2.1 a0 20)) 10 20 rfl inX11 (by decide) tw1213 dX11_sonLine_34 h10 rfl ?_
      refine v_iconst dX11_sonLine_37 (by decide) ?_
      refine v_if (fun h11 => ?_)
      refine v_iaload h11 dX11_sonLine_38 ?_
      refine v_aload_n dX11_sonLine_39 rfl ?_
      refine v_get (v := pA (r7.2.1 a0 20)) 10 20 rfl inX11 (by decide) tw1213 dX11_sonLine_40 h10 rfl ?_
      refine v_iconst dX11_sonLine_43 (by decide) ?_
      refine v_if (fun h12 => ?_)
      refine v_iaload h12 dX11_sonLine_44 ?_
      refine v_cS (mi := mX11_sonLine) (c0 := 0) (c1 := 0) (As := [pI (r7.2.1 (r7.2.1 a0 20) 0), pI (r7.2.1 (r7.2.1 a0 20) 1)]) (st := [pI (r7.2.1 a0 22), pA a0]) (kX11_greater d (by omega) _ _ _) okX11_greater (Or.inl tw1440) tw1441 rfl (Nat.le_of_ble_eq_true rfl) dX11_sonLine_45 (fun r13 => [pI r13, pI (r7.2.1 a0 22), pA a0]) (fun r13 => r7.2) (fun _ => rfl) (fun _ => rfl) (fun r13 h14 => ?_) rfl
      refine v_cS (mi := mX11_sonLine) (c0 := 0) (c1 := 0) (As := [pI (r7.2.1 a0 22), pI r13]) (st := [pA a0]) (kX11_greater d (by omega) _ _ _) okX11_greater (Or.inl tw1440) tw1441 rfl (Nat.le_of_ble_eq_true rfl) dX11_sonLine_48 (fun r15 => [pI r15, pA a0]) (fun r15 => r7.2) (fun _ => rfl) (fun _ => rfl) (fun r15 h16 => ?_) rfl
      refine v_put (x := r15) 10 22 rfl inX11 (by decide) tw1215 (Or.inl rfl) rfl dX11_sonLine_51 h10 rfl id ?_
      refine v_bM (fun M17 e18 => ?_)
      refine v_aload_n dX11_sonLine_54 rfl ?_
      refine v_bipush dX11_sonLine_55 (by decide) ?_
      refine v_aload_n dX11_sonLine_57 rfl ?_
      refine v_get (v := pA (M17.1 a0 20)) 10 20 rfl inX11 (by decide) tw1213 dX11_sonLine_58 (by rw [e18]; exact h10) rfl ?_
      refine v_iconst dX11_sonLine_61 (by decide) ?_
      refine v_if (fun h19 => ?_)
      refine v_iaload h19 dX11_sonLine_62 ?_
      refine v_iadd dX11_sonLine_63 ?_
      refine v_aload_n dX11_sonLine_64 rfl ?_
      refine v_get (v := pA (M17.1 a0 20)) 10 20 rfl inX11 (by decide) tw1213 dX11_sonLine_65 (by rw [e18]; exact h10) rfl ?_
      refine v_iconst dX11_sonLine_68 (by decide) ?_
      refine v_if (fun h20 => ?_)
      refine v_iaload h20 dX11_sonLine_69 ?_
      refine v_cV (mi := mX11_sonLine) (c0 := 0) (c1 := 0) (As := [pI (w32 (88 + (M17.1 (M17.1 a0 20) 0))), pI (M17.1 (M17.1 a0 20) 1)]) (st := []) (kX11_lay d (by omega) _ _ _ _) rfl (by rw [e18]; exact h10) rfl okX11_lay (Or.inl tw1443) tw1445 tp44 rfl (Nat.le_of_ble_eq_true rfl) dX11_sonLine_70 (fun r21 => []) (fun r21 => r21) (fun _ => rfl) (fun _ => rfl) (fun r21 h22 => ?_) rfl
      refine v_iconst dX11_sonLine_73 (by decide) ?_
      exact v_breturn dX11_sonLine_74 rfl (by decide) rfl
theorem chX11_houseLine_0 : (cX11_houseLine.data.toList.drop 0).take 16 = [42, 3, 182, 0, 167, 154, 0, 5, 3, 172, 31, 20, 0, 177, 148, 154] := by decide +kernel
theorem chX11_houseLine_1 : (cX11_houseLine.data.toList.drop 16).take 16 = [0, 37, 42, 4, 3, 16, 9, 182, 0, 157, 154, 0, 5, 3, 172, 42] := by decide +kernel
theorem chX11_houseLine_2 : (cX11_houseLine.data.toList.drop 32).take 16 = [16, 62, 42, 180, 0, 41, 3, 46, 96, 42, 180, 0, 41, 4, 46, 182] := by decide +kernel
theorem chX11_houseLine_3 : (cX11_houseLine.data.toList.drop 48).take 16 = [0, 171, 4, 172, 42, 4, 182, 0, 167, 154, 0, 5, 3, 172, 42, 16] := by decide +kernel
theorem chX11_houseLine_4 : (cX11_houseLine.data.toList.drop 64).take 16 = [68, 42, 180, 0, 41, 3, 46, 96, 42, 180, 0, 41, 4, 46, 182, 0] := by decide +kernel
theorem chX11_houseLine_5 : (cX11_houseLine.data.toList.drop 80).take 16 = [171, 4, 172] := by decide +kernel
theorem dX11_houseLine_0 : decode cX11_houseLine 0 = .ok (.aload_n 0, 1) := oq_42 (byt chX11_houseLine_0 0 rfl)
theorem dX11_houseLine_1 : decode cX11_houseLine 1 = .ok (.iconst 0, 1) := oq_3 (byt chX11_houseLine_0 1 rfl)
theorem dX11_houseLine_2 : decode cX11_houseLine 2 = .ok (.invokevirtual 167, 3) := oq_182 (byt chX11_houseLine_0 2 rfl) (byt chX11_houseLine_0 3 rfl) (byt chX11_houseLine_0 4 rfl) rfl
theorem dX11_houseLine_5 : decode cX11_houseLine 5 = .ok (.ifCond .ne 5, 3) := oq_154 (byt chX11_houseLine_0 5 rfl) (byt chX11_houseLine_0 6 rfl) (byt chX11_houseLine_0 7 rfl) (by decide +kernel)
theorem dX11_houseLine_8 : decode cX11_houseLine 8 = .ok (.iconst 0, 1) := oq_3 (byt chX11_houseLine_0 8 rfl)
theorem dX11_houseLine_9 : decode cX11_houseLine 9 = .ok (.ireturn, 1) := oq_172 (byt chX11_houseLine_0 9 rfl)
theorem dX11_houseLine_10 : decode cX11_houseLine 10 = .ok (.lload_n 1, 1) := oq_31 (byt chX11_houseLine_0 10 rfl)
theorem dX11_houseLine_11 : decode cX11_houseLine 11 = .ok (.ldc2_w 177, 3) := oq_20 (byt chX11_houseLine_0 11 rfl) (byt chX11_houseLine_0 12 rfl) (byt chX11_houseLine_0 13 rfl) rfl
theorem dX11_houseLine_14 : decode cX11_houseLine 14 = .ok (.lcmp, 1) := oq_148 (byt chX11_houseLine_0 14 rfl)
theorem dX11_houseLine_15 : decode cX11_houseLine 15 = .ok (.ifCond .ne 37, 3) := oq_154 (byt chX11_houseLine_0 15 rfl) (byt chX11_houseLine_1 0 rfl) (byt chX11_houseLine_1 1 rfl) (by decide +kernel)
theorem dX11_houseLine_18 : decode cX11_houseLine 18 = .ok (.aload_n 0, 1) := oq_42 (byt chX11_houseLine_1 2 rfl)
theorem dX11_houseLine_19 : decode cX11_houseLine 19 = .ok (.iconst 1, 1) := oq_4 (byt chX11_houseLine_1 3 rfl)
theorem dX11_houseLine_20 : decode cX11_houseLine 20 = .ok (.iconst 0, 1) := oq_3 (byt chX11_houseLine_1 4 rfl)
theorem dX11_houseLine_21 : decode cX11_houseLine 21 = .ok (.bipush 9, 2) := oq_16 (byt chX11_houseLine_1 5 rfl) (byt chX11_houseLine_1 6 rfl) rfl
theorem dX11_houseLine_23 : decode cX11_houseLine 23 = .ok (.invokevirtual 157, 3) := oq_182 (byt chX11_houseLine_1 7 rfl) (byt chX11_houseLine_1 8 rfl) (byt chX11_houseLine_1 9 rfl) rfl
theorem dX11_houseLine_26 : decode cX11_houseLine 26 = .ok (.ifCond .ne 5, 3) := oq_154 (byt chX11_houseLine_1 10 rfl) (byt chX11_houseLine_1 11 rfl) (byt chX11_houseLine_1 12 rfl) (by decide +kernel)
theorem dX11_houseLine_29 : decode cX11_houseLine 29 = .ok (.iconst 0, 1) := oq_3 (byt chX11_houseLine_1 13 rfl)
theorem dX11_houseLine_30 : decode cX11_houseLine 30 = .ok (.ireturn, 1) := oq_172 (byt chX11_houseLine_1 14 rfl)
theorem dX11_houseLine_31 : decode cX11_houseLine 31 = .ok (.aload_n 0, 1) := oq_42 (byt chX11_houseLine_1 15 rfl)
theorem dX11_houseLine_32 : decode cX11_houseLine 32 = .ok (.bipush 62, 2) := oq_16 (byt chX11_houseLine_2 0 rfl) (byt chX11_houseLine_2 1 rfl) rfl
theorem dX11_houseLine_34 : decode cX11_houseLine 34 = .ok (.aload_n 0, 1) := oq_42 (byt chX11_houseLine_2 2 rfl)
theorem dX11_houseLine_35 : decode cX11_houseLine 35 = .ok (.getfield 41, 3) := oq_180 (byt chX11_houseLine_2 3 rfl) (byt chX11_houseLine_2 4 rfl) (byt chX11_houseLine_2 5 rfl) rfl
theorem dX11_houseLine_38 : decode cX11_houseLine 38 = .ok (.iconst 0, 1) := oq_3 (byt chX11_houseLine_2 6 rfl)
theorem dX11_houseLine_39 : decode cX11_houseLine 39 = .ok (.iaload, 1) := oq_46 (byt chX11_houseLine_2 7 rfl)
theorem dX11_houseLine_40 : decode cX11_houseLine 40 = .ok (.iadd, 1) := oq_96 (byt chX11_houseLine_2 8 rfl)
theorem dX11_houseLine_41 : decode cX11_houseLine 41 = .ok (.aload_n 0, 1) := oq_42 (byt chX11_houseLine_2 9 rfl)
theorem dX11_houseLine_42 : decode cX11_houseLine 42 = .ok (.getfield 41, 3) := oq_180 (byt chX11_houseLine_2 10 rfl) (byt chX11_houseLine_2 11 rfl) (byt chX11_houseLine_2 12 rfl) rfl
theorem dX11_houseLine_45 : decode cX11_houseLine 45 = .ok (.iconst 1, 1) := oq_4 (byt chX11_houseLine_2 13 rfl)
theorem dX11_houseLine_46 : decode cX11_houseLine 46 = .ok (.iaload, 1) := oq_46 (byt chX11_houseLine_2 14 rfl)
theorem dX11_houseLine_47 : decode cX11_houseLine 47 = .ok (.invokevirtual 171, 3) := oq_182 (byt chX11_houseLine_2 15 rfl) (byt chX11_houseLine_3 0 rfl) (byt chX11_houseLine_3 1 rfl) rfl
theorem dX11_houseLine_50 : decode cX11_houseLine 50 = .ok (.iconst 1, 1) := oq_4 (byt chX11_houseLine_3 2 rfl)
theorem dX11_houseLine_51 : decode cX11_houseLine 51 = .ok (.ireturn, 1) := oq_172 (byt chX11_houseLine_3 3 rfl)
theorem dX11_houseLine_52 : decode cX11_houseLine 52 = .ok (.aload_n 0, 1) := oq_42 (byt chX11_houseLine_3 4 rfl)
theorem dX11_houseLine_53 : decode cX11_houseLine 53 = .ok (.iconst 1, 1) := oq_4 (byt chX11_houseLine_3 5 rfl)
theorem dX11_houseLine_54 : decode cX11_houseLine 54 = .ok (.invokevirtual 167, 3) := oq_182 (byt chX11_houseLine_3 6 rfl) (byt chX11_houseLine_3 7 rfl) (byt chX11_houseLine_3 8 rfl) rfl
theorem dX11_houseLine_57 : decode cX11_houseLine 57 = .ok (.ifCond .ne 5, 3) := oq_154 (byt chX11_houseLine_3 9 rfl) (byt chX11_houseLine_3 10 rfl) (byt chX11_houseLine_3 11 rfl) (by decide +kernel)
theorem dX11_houseLine_60 : decode cX11_houseLine 60 = .ok (.iconst 0, 1) := oq_3 (byt chX11_houseLine_3 12 rfl)
theorem dX11_houseLine_61 : decode cX11_houseLine 61 = .ok (.ireturn, 1) := oq_172 (byt chX11_houseLine_3 13 rfl)
theorem dX11_houseLine_62 : decode cX11_houseLine 62 = .ok (.aload_n 0, 1) := oq_42 (byt chX11_houseLine_3 14 rfl)
theorem dX11_houseLine_63 : decode cX11_houseLine 63 = .ok (.bipush 68, 2) := oq_16 (byt chX11_houseLine_3 15 rfl) (byt chX11_houseLine_4 0 rfl) rfl
theorem dX11_houseLine_65 : decode cX11_houseLine 65 = .ok (.aload_n 0, 1) := oq_42 (byt chX11_houseLine_4 1 rfl)
theorem dX11_houseLine_66 : decode cX11_houseLine 66 = .ok (.getfield 41, 3) := oq_180 (byt chX11_houseLine_4 2 rfl) (byt chX11_houseLine_4 3 rfl) (byt chX11_houseLine_4 4 rfl) rfl
theorem dX11_houseLine_69 : decode cX11_houseLine 69 = .ok (.iconst 0, 1) := oq_3 (byt chX11_houseLine_4 5 rfl)
theorem dX11_houseLine_70 : decode cX11_houseLine 70 = .ok (.iaload, 1) := oq_46 (byt chX11_houseLine_4 6 rfl)
theorem dX11_houseLine_71 : decode cX11_houseLine 71 = .ok (.iadd, 1) := oq_96 (byt chX11_houseLine_4 7 rfl)
theorem dX11_houseLine_72 : decode cX11_houseLine 72 = .ok (.aload_n 0, 1) := oq_42 (byt chX11_houseLine_4 8 rfl)
theorem dX11_houseLine_73 : decode cX11_houseLine 73 = .ok (.getfield 41, 3) := oq_180 (byt chX11_houseLine_4 9 rfl) (byt chX11_houseLine_4 10 rfl) (byt chX11_houseLine_4 11 rfl) rfl
theorem dX11_houseLine_76 : decode cX11_houseLine 76 = .ok (.iconst 1, 1) := oq_4 (byt chX11_houseLine_4 12 rfl)
theorem dX11_houseLine_77 : decode cX11_houseLine 77 = .ok (.iaload, 1) := oq_46 (byt chX11_houseLine_4 13 rfl)
theorem dX11_houseLine_78 : decode cX11_houseLine 78 = .ok (.invokevirtual 171, 3) := oq_182 (byt chX11_houseLine_4 14 rfl) (byt chX11_houseLine_4 15 rfl) (byt chX11_houseLine_5 0 rfl) rfl
theorem dX11_houseLine_81 : decode cX11_houseLine 81 = .ok (.iconst 1, 1) := oq_4 (byt chX11_houseLine_5 1 rfl)
theorem dX11_houseLine_82 : decode cX11_houseLine 82 = .ok (.ireturn, 1) := oq_172 (byt chX11_houseLine_5 2 rfl)
abbrev mX11_houseLine : MI := (yX11_houseLine, cX11_houseLine, 3, (some .boolean), noE)
theorem okX11_houseLine : cok mX11_houseLine 1 := ⟨tw1450, tw11, by decide, by decide, by decide, by decide +kernel⟩
def fX11_houseLine (M : Mem) (a0 a1 : Int) : Option (Int × Mem) :=
  if M.2.1 a0 = 10 then (fX11_takeHouse M a0 0).bind fun r1 => if r1.1 = 0 then (some (0, r1.2)) else (if lcmp a1 512736125800 = 0 then (if r1.2.2.1 a0 = 10 then (fX11_take r1.2 a0 1 0 9).bind fun r6 => if r6.1 = 0 then (some (0, r6.2)) else (if r6.2.2.1 a0 = 10 then if r6.2.2.1 (r6.2.1 a0 20) = 12 ∧ (0 : Int) ≤ 0 ∧ 0 < r6.2.2.2.1 (r6.2.1 a0 20) then if r6.2.2.1 (r6.2.1 a0 20) = 12 ∧ (0 : Int) ≤ 1 ∧ 1 < r6.2.2.2.1 (r6.2.1 a0 20) then (fX11_lay r6.2 a0 (w32 (62 + (r6.2.1 (r6.2.1 a0 20) 0))) (r6.2.1 (r6.2.1 a0 20) 1)).bind fun r13 => some (1, r13) else none else none else none) else none) else (if r1.2.2.1 a0 = 10 then (fX11_takeHouse r1.2 a0 1).bind fun r15 => if r15.1 = 0 then (some (0, r15.2)) else (if r15.2.2.1 a0 = 10 then if r15.2.2.1 (r15.2.1 a0 20) = 12 ∧ (0 : Int) ≤ 0 ∧ 0 < r15.2.2.2.1 (r15.2.1 a0 20) then if r15.2.2.1 (r15.2.1 a0 20) = 12 ∧ (0 : Int) ≤ 1 ∧ 1 < r15.2.2.2.1 (r15.2.1 a0 20) then (fX11_lay r15.2 a0 (w32 (68 + (r15.2.1 (r15.2.1 a0 20) 0))) (r15.2.1 (r15.2.1 a0 20) 1)).bind fun r22 => some (1, r22) else none else none else none) else none)) else none
set_option maxRecDepth 100000 in
set_option maxHeartbeats 4000000 in
theorem kX11_houseLine (d : Nat) (hd : 5 ≤ d) (M : Mem) (a0 a1 : Int) : Ct mX11_houseLine d 0 0 [pA a0, pL a1] M dIM (fX11_houseLine M a0 a1) := by
  obtain ⟨d, rfl⟩ : ∃ k, d = k + 1 := ⟨d - 1, by omega⟩
  refine Ct.of 0 (fun _ _ _ => trivial) (by decide +kernel) rfl ?_
  unfold fX11_houseLine
  refine v_aload_n dX11_houseLine_0 rfl ?_
  refine v_iconst dX11_houseLine_1 (by decide) ?_
  refine v_if (fun h3 => ?_)
  refine v_cV (mi := mX11_houseLine) (c0 := 0) (c1 := 0) (As := [pI 0]) (st := []) (kX11_takeHouse d (by omega) _ _ _) rfl h3 rfl okX11_takeHouse (Or.inl tw1428) tw1430 tp41 rfl (Nat.le_of_ble_eq_true rfl) dX11_houseLine_2 (fun r1 => [pI r1.1]) (fun r1 => r1.2) (fun _ => rfl) (fun _ => rfl) (fun r1 h2 => ?_) rfl
  refine v_if_ne (tgt := 10) dX11_houseLine_5 (by decide) (fun c4 => ?_) (fun c4 => ?_)
  · refine v_iconst dX11_houseLine_8 (by decide) ?_
    exact v_breturn dX11_houseLine_9 rfl (by decide) rfl
  · refine v_lload_n dX11_houseLine_10 rfl ?_
    refine v_ldc2 (n := 512736125800) dX11_houseLine_11 (by decide) tw1406 ?_
    refine v_lcmp dX11_houseLine_14 ?_
    refine v_if_ne (tgt := 52) dX11_houseLine_15 (by decide) (fun c5 => ?_) (fun c5 => ?_)
    · refine v_aload_n dX11_houseLine_18 rfl ?_
      refine v_iconst dX11_houseLine_19 (by decide) ?_
      refine v_iconst dX11_houseLine_20 (by decide) ?_
      refine v_bipush dX11_houseLine_21 (by decide) ?_
      refine v_if (fun h8 => ?_)
      refine v_cV (mi := mX11_houseLine) (c0 := 0) (c1 := 0) (As := [pI 1, pI 0, pI 9]) (st := []) (kX11_take d (by omega) _ _ _ _ _) rfl h8 rfl okX11_take (Or.inl tw1432) tw1434 tp42 rfl (Nat.le_of_ble_eq_true rfl) dX11_houseLine_23 (fun r6 => [pI r6.1]) (fun r6 => r6.2) (fun _ => rfl) (fun _ => rfl) (fun r6 h7 => ?_) rfl
      refine v_if_ne (tgt := 31) dX11_houseLine_26 (by decide) (fun c9 => ?_) (fun c9 => ?_)
      · refine v_iconst dX11_houseLine_29 (by decide) ?_
        exact v_breturn dX11_houseLine_30 rfl (by decide) rfl
      · refine v_aload_n dX11_houseLine_31 rfl ?_
        refine v_bipush dX11_houseLine_32 (by decide) ?_
        refine v_aload_n dX11_houseLine_34 rfl ?_
        refine v_if (fun h10 => ?_)
        refine v_get (v := pA (r6.2.1 a0 20)) 10 20 rfl inX11 (by decide) tw1213 dX11_houseLine_35 h10 rfl ?_
        refine v_iconst dX11_houseLine_38 (by decide) ?_
        refine v_if (fun h11 => ?_)
        refine v_iaload h11 dX11_houseLine_39 ?_
        refine v_iadd dX11_houseLine_40 ?_
        refine v_aload_n dX11_houseLine_41 rfl ?_
        refine v_get (v := pA (r6.2.1 a0 20)) 10 20 rfl inX11 (by decide) tw1213 dX11_houseLine_42 h10 rfl ?_
        refine v_iconst dX11_houseLine_45 (by decide) ?_
        refine v_if (fun h12 => ?_)
        refine v_iaload h12 dX11_houseLine_46 ?_
        refine v_cV (mi := mX11_houseLine) (c0 := 0) (c1 := 0) (As := [pI (w32 (62 + (r6.2.1 (r6.2.1 a0 20) 0))), pI (r6.2.1 (r6.2.1 a0 20) 1)]) (st := []) (kX11_lay d (by omega) _ _ _ _) rfl h10 rfl okX11_lay (Or.inl tw1443) tw1445 tp44 rfl (Nat.le_of_ble_eq_true rfl) dX11_houseLine_47 (fun r13 => []) (fun r13 => r13) (fun _ => rfl) (fun _ => rfl) (fun r13 h14 => ?_) rfl
        refine v_iconst dX11_houseLine_50 (by decide) ?_
        exact v_breturn dX11_houseLine_51 rfl (by decide) rfl
    · refine v_aload_n dX11_houseLine_52 rfl ?_
      refine v_iconst dX11_houseLine_53 (by decide) ?_
      refine v_if (fun h17 => ?_)
      refine v_cV (mi := mX11_houseLine) (c0 := 0) (c1 := 0) (As := [pI 1]) (st := []) (kX11_takeHouse d (by omega) _ _ _) rfl h17 rfl okX11_takeHouse (Or.inl tw1428) tw1430 tp41 rfl (Nat.le_of_ble_eq_true rfl) dX11_houseLine_54 (fun r15 => [pI r15.1]) (fun r15 => r15.2) (fun _ => rfl) (fun _ => rfl) (fun r15 h16 => ?_) rfl
      refine v_if_ne (tgt := 62) dX11_houseLine_57 (by decide) (fun c18 => ?_) (fun c18 => ?_)
      · refine v_iconst dX11_houseLine_60 (by decide) ?_
        exact v_breturn dX11_houseLine_61 rfl (by decide) rfl
      · refine v_aload_n dX11_houseLine_62 rfl ?_
        refine v_bipush dX11_houseLine_63 (by decide) ?_
        refine v_aload_n dX11_houseLine_65 rfl ?_
        refine v_if (fun h19 => ?_)
        refine v_get (v := pA (r15.2.1 a0 20)) 10 20 rfl inX11 (by decide) tw1213 dX11_houseLine_66 h19 rfl ?_
        refine v_iconst dX11_houseLine_69 (by decide) ?_
        refine v_if (fun h20 => ?_)
        refine v_iaload h20 dX11_houseLine_70 ?_
        refine v_iadd dX11_houseLine_71 ?_
        refine v_aload_n dX11_houseLine_72 rfl ?_
        refine v_get (v := pA (r15.2.1 a0 20)) 10 20 rfl inX11 (by decide) tw1213 dX11_houseLine_73 h19 rfl ?_
        refine v_iconst dX11_houseLine_76 (by decide) ?_
        refine v_if (fun h21 => ?_)
        refine v_iaload h21 dX11_houseLine_77 ?_
        refine v_cV (mi := mX11_houseLine) (c0 := 0) (c1 := 0) (As := [pI (w32 (68 + (r15.2.1 (r15.2.1 a0 20) 0))), pI (r15.2.1 (r15.2.1 a0 20) 1)]) (st := []) (kX11_lay d (by omega) _ _ _ _) rfl h19 rfl okX11_lay (Or.inl tw1443) tw1445 tp44 rfl (Nat.le_of_ble_eq_true rfl) dX11_houseLine_78 (fun r22 => []) (fun r22 => r22) (fun _ => rfl) (fun _ => rfl) (fun r22 h23 => ?_) rfl
        refine v_iconst dX11_houseLine_81 (by decide) ?_
        exact v_breturn dX11_houseLine_82 rfl (by decide) rfl
theorem chX11_goodLine_0 : (cX11_goodLine.data.toList.drop 0).take 16 = [42, 3, 3, 7, 182, 0, 157, 153, 0, 26, 42, 4, 31, 20, 0, 179] := by decide +kernel
theorem chX11_goodLine_1 : (cX11_goodLine.data.toList.drop 16).take 16 = [148, 154, 0, 7, 4, 167, 0, 4, 3, 16, 9, 182, 0, 157, 154, 0] := by decide +kernel
theorem chX11_goodLine_2 : (cX11_goodLine.data.toList.drop 32).take 16 = [5, 3, 172, 42, 31, 20, 0, 179, 148, 154, 0, 8, 16, 74, 167, 0] := by decide +kernel
theorem chX11_goodLine_3 : (cX11_goodLine.data.toList.drop 48).take 16 = [5, 16, 79, 42, 180, 0, 41, 3, 46, 96, 42, 180, 0, 41, 4, 46] := by decide +kernel
theorem chX11_goodLine_4 : (cX11_goodLine.data.toList.drop 64).take 16 = [182, 0, 171, 4, 172] := by decide +kernel
theorem dX11_goodLine_0 : decode cX11_goodLine 0 = .ok (.aload_n 0, 1) := oq_42 (byt chX11_goodLine_0 0 rfl)
theorem dX11_goodLine_1 : decode cX11_goodLine 1 = .ok (.iconst 0, 1) := oq_3 (byt chX11_goodLine_0 1 rfl)
theorem dX11_goodLine_2 : decode cX11_goodLine 2 = .ok (.iconst 0, 1) := oq_3 (byt chX11_goodLine_0 2 rfl)
theorem dX11_goodLine_3 : decode cX11_goodLine 3 = .ok (.iconst 4, 1) := oq_7 (byt chX11_goodLine_0 3 rfl)
theorem dX11_goodLine_4 : decode cX11_goodLine 4 = .ok (.invokevirtual 157, 3) := oq_182 (byt chX11_goodLine_0 4 rfl) (byt chX11_goodLine_0 5 rfl) (byt chX11_goodLine_0 6 rfl) rfl
theorem dX11_goodLine_7 : decode cX11_goodLine 7 = .ok (.ifCond .eq 26, 3) := oq_153 (byt chX11_goodLine_0 7 rfl) (byt chX11_goodLine_0 8 rfl) (byt chX11_goodLine_0 9 rfl) (by decide +kernel)
theorem dX11_goodLine_10 : decode cX11_goodLine 10 = .ok (.aload_n 0, 1) := oq_42 (byt chX11_goodLine_0 10 rfl)
theorem dX11_goodLine_11 : decode cX11_goodLine 11 = .ok (.iconst 1, 1) := oq_4 (byt chX11_goodLine_0 11 rfl)
theorem dX11_goodLine_12 : decode cX11_goodLine 12 = .ok (.lload_n 1, 1) := oq_31 (byt chX11_goodLine_0 12 rfl)
theorem dX11_goodLine_13 : decode cX11_goodLine 13 = .ok (.ldc2_w 179, 3) := oq_20 (byt chX11_goodLine_0 13 rfl) (byt chX11_goodLine_0 14 rfl) (byt chX11_goodLine_0 15 rfl) rfl
theorem dX11_goodLine_16 : decode cX11_goodLine 16 = .ok (.lcmp, 1) := oq_148 (byt chX11_goodLine_1 0 rfl)
theorem dX11_goodLine_17 : decode cX11_goodLine 17 = .ok (.ifCond .ne 7, 3) := oq_154 (byt chX11_goodLine_1 1 rfl) (byt chX11_goodLine_1 2 rfl) (byt chX11_goodLine_1 3 rfl) (by decide +kernel)
theorem dX11_goodLine_20 : decode cX11_goodLine 20 = .ok (.iconst 1, 1) := oq_4 (byt chX11_goodLine_1 4 rfl)
theorem dX11_goodLine_21 : decode cX11_goodLine 21 = .ok (.goto 4, 3) := oq_167 (byt chX11_goodLine_1 5 rfl) (byt chX11_goodLine_1 6 rfl) (byt chX11_goodLine_1 7 rfl) (by decide +kernel)
theorem dX11_goodLine_24 : decode cX11_goodLine 24 = .ok (.iconst 0, 1) := oq_3 (byt chX11_goodLine_1 8 rfl)
theorem dX11_goodLine_25 : decode cX11_goodLine 25 = .ok (.bipush 9, 2) := oq_16 (byt chX11_goodLine_1 9 rfl) (byt chX11_goodLine_1 10 rfl) rfl
theorem dX11_goodLine_27 : decode cX11_goodLine 27 = .ok (.invokevirtual 157, 3) := oq_182 (byt chX11_goodLine_1 11 rfl) (byt chX11_goodLine_1 12 rfl) (byt chX11_goodLine_1 13 rfl) rfl
theorem dX11_goodLine_30 : decode cX11_goodLine 30 = .ok (.ifCond .ne 5, 3) := oq_154 (byt chX11_goodLine_1 14 rfl) (byt chX11_goodLine_1 15 rfl) (byt chX11_goodLine_2 0 rfl) (by decide +kernel)
theorem dX11_goodLine_33 : decode cX11_goodLine 33 = .ok (.iconst 0, 1) := oq_3 (byt chX11_goodLine_2 1 rfl)
theorem dX11_goodLine_34 : decode cX11_goodLine 34 = .ok (.ireturn, 1) := oq_172 (byt chX11_goodLine_2 2 rfl)
theorem dX11_goodLine_35 : decode cX11_goodLine 35 = .ok (.aload_n 0, 1) := oq_42 (byt chX11_goodLine_2 3 rfl)
theorem dX11_goodLine_36 : decode cX11_goodLine 36 = .ok (.lload_n 1, 1) := oq_31 (byt chX11_goodLine_2 4 rfl)
theorem dX11_goodLine_37 : decode cX11_goodLine 37 = .ok (.ldc2_w 179, 3) := oq_20 (byt chX11_goodLine_2 5 rfl) (byt chX11_goodLine_2 6 rfl) (byt chX11_goodLine_2 7 rfl) rfl
theorem dX11_goodLine_40 : decode cX11_goodLine 40 = .ok (.lcmp, 1) := oq_148 (byt chX11_goodLine_2 8 rfl)
theorem dX11_goodLine_41 : decode cX11_goodLine 41 = .ok (.ifCond .ne 8, 3) := oq_154 (byt chX11_goodLine_2 9 rfl) (byt chX11_goodLine_2 10 rfl) (byt chX11_goodLine_2 11 rfl) (by decide +kernel)
theorem dX11_goodLine_44 : decode cX11_goodLine 44 = .ok (.bipush 74, 2) := oq_16 (byt chX11_goodLine_2 12 rfl) (byt chX11_goodLine_2 13 rfl) rfl
theorem dX11_goodLine_46 : decode cX11_goodLine 46 = .ok (.goto 5, 3) := oq_167 (byt chX11_goodLine_2 14 rfl) (byt chX11_goodLine_2 15 rfl) (byt chX11_goodLine_3 0 rfl) (by decide +kernel)
theorem dX11_goodLine_49 : decode cX11_goodLine 49 = .ok (.bipush 79, 2) := oq_16 (byt chX11_goodLine_3 1 rfl) (byt chX11_goodLine_3 2 rfl) rfl
theorem dX11_goodLine_51 : decode cX11_goodLine 51 = .ok (.aload_n 0, 1) := oq_42 (byt chX11_goodLine_3 3 rfl)
theorem dX11_goodLine_52 : decode cX11_goodLine 52 = .ok (.getfield 41, 3) := oq_180 (byt chX11_goodLine_3 4 rfl) (byt chX11_goodLine_3 5 rfl) (byt chX11_goodLine_3 6 rfl) rfl
theorem dX11_goodLine_55 : decode cX11_goodLine 55 = .ok (.iconst 0, 1) := oq_3 (byt chX11_goodLine_3 7 rfl)
theorem dX11_goodLine_56 : decode cX11_goodLine 56 = .ok (.iaload, 1) := oq_46 (byt chX11_goodLine_3 8 rfl)
theorem dX11_goodLine_57 : decode cX11_goodLine 57 = .ok (.iadd, 1) := oq_96 (byt chX11_goodLine_3 9 rfl)
theorem dX11_goodLine_58 : decode cX11_goodLine 58 = .ok (.aload_n 0, 1) := oq_42 (byt chX11_goodLine_3 10 rfl)
theorem dX11_goodLine_59 : decode cX11_goodLine 59 = .ok (.getfield 41, 3) := oq_180 (byt chX11_goodLine_3 11 rfl) (byt chX11_goodLine_3 12 rfl) (byt chX11_goodLine_3 13 rfl) rfl
theorem dX11_goodLine_62 : decode cX11_goodLine 62 = .ok (.iconst 1, 1) := oq_4 (byt chX11_goodLine_3 14 rfl)
theorem dX11_goodLine_63 : decode cX11_goodLine 63 = .ok (.iaload, 1) := oq_46 (byt chX11_goodLine_3 15 rfl)
theorem dX11_goodLine_64 : decode cX11_goodLine 64 = .ok (.invokevirtual 171, 3) := oq_182 (byt chX11_goodLine_4 0 rfl) (byt chX11_goodLine_4 1 rfl) (byt chX11_goodLine_4 2 rfl) rfl
theorem dX11_goodLine_67 : decode cX11_goodLine 67 = .ok (.iconst 1, 1) := oq_4 (byt chX11_goodLine_4 3 rfl)
theorem dX11_goodLine_68 : decode cX11_goodLine 68 = .ok (.ireturn, 1) := oq_172 (byt chX11_goodLine_4 4 rfl)
abbrev mX11_goodLine : MI := (yX11_goodLine, cX11_goodLine, 3, (some .boolean), noE)
theorem okX11_goodLine : cok mX11_goodLine 1 := ⟨tw1454, tw11, by decide, by decide, by decide, by decide +kernel⟩
def fX11_goodLine (M : Mem) (a0 a1 : Int) : Option (Int × Mem) :=
  if M.2.1 a0 = 10 then (fX11_take M a0 0 0 4).bind fun r1 => if r1.1 = 0 then (some (0, r1.2)) else (jn (fun (t6 : Int) => if r1.2.2.1 a0 = 10 then (fX11_take r1.2 a0 1 t6 9).bind fun r7 => if r7.1 = 0 then (some (0, r7.2)) else (jn (fun (t12 : Int) => if r7.2.2.1 a0 = 10 then if r7.2.2.1 (r7.2.1 a0 20) = 12 ∧ (0 : Int) ≤ 0 ∧ 0 < r7.2.2.2.1 (r7.2.1 a0 20) then if r7.2.2.1 (r7.2.1 a0 20) = 12 ∧ (0 : Int) ≤ 1 ∧ 1 < r7.2.2.2.1 (r7.2.1 a0 20) then (fX11_lay r7.2 a0 (w32 (t12 + (r7.2.1 (r7.2.1 a0 20) 0))) (r7.2.1 (r7.2.1 a0 20) 1)).bind fun r16 => some (1, r16) else none else none else none) (fun (j11 : Int → Option (Int × Mem)) => if lcmp a1 131277443786868 = 0 then (j11 74) else (j11 79))) else none) (fun (j5 : Int → Option (Int × Mem)) => if lcmp a1 131277443786868 = 0 then (j5 1) else (j5 0))) else none
set_option maxRecDepth 100000 in
set_option maxHeartbeats 4000000 in
theorem kX11_goodLine (d : Nat) (hd : 4 ≤ d) (M : Mem) (a0 a1 : Int) : Ct mX11_goodLine d 0 0 [pA a0, pL a1] M dIM (fX11_goodLine M a0 a1) := by
  obtain ⟨d, rfl⟩ : ∃ k, d = k + 1 := ⟨d - 1, by omega⟩
  refine Ct.of 0 (fun _ _ _ => trivial) (by decide +kernel) rfl ?_
  unfold fX11_goodLine
  refine v_aload_n dX11_goodLine_0 rfl ?_
  refine v_iconst dX11_goodLine_1 (by decide) ?_
  refine v_iconst dX11_goodLine_2 (by decide) ?_
  refine v_iconst dX11_goodLine_3 (by decide) ?_
  refine v_if (fun h3 => ?_)
  refine v_cV (mi := mX11_goodLine) (c0 := 0) (c1 := 0) (As := [pI 0, pI 0, pI 4]) (st := []) (kX11_take d (by omega) _ _ _ _ _) rfl h3 rfl okX11_take (Or.inl tw1432) tw1434 tp42 rfl (Nat.le_of_ble_eq_true rfl) dX11_goodLine_4 (fun r1 => [pI r1.1]) (fun r1 => r1.2) (fun _ => rfl) (fun _ => rfl) (fun r1 h2 => ?_) rfl
  refine v_if_eq (tgt := 33) dX11_goodLine_7 (by decide) (fun c4 => ?_) (fun c4 => ?_)
  · refine v_iconst dX11_goodLine_33 (by decide) ?_
    exact v_breturn dX11_goodLine_34 rfl (by decide) rfl
  · refine v_aload_n dX11_goodLine_10 rfl ?_
    refine v_iconst dX11_goodLine_11 (by decide) ?_
    refine v_lload_n dX11_goodLine_12 rfl ?_
    refine v_ldc2 (n := 131277443786868) dX11_goodLine_13 (by decide) tw1408 ?_
    refine v_lcmp dX11_goodLine_16 ?_
    refine v_join (fun (t6 : Int) => [some (pA a0), some (pL a1), none]) (fun (t6 : Int) => [pI t6, pI 1, pA a0]) (fun (t6 : Int) => r1.2) 25 (fun t6 => ?_) (fun j5 hj5 => ?_)
    · refine v_bipush dX11_goodLine_25 (by decide) ?_
      refine v_if (fun h9 => ?_)
      refine v_cV (mi := mX11_goodLine) (c0 := 0) (c1 := 0) (As := [pI 1, pI t6, pI 9]) (st := []) (kX11_take d (by omega) _ _ _ _ _) rfl h9 rfl okX11_take (Or.inl tw1432) tw1434 tp42 rfl (Nat.le_of_ble_eq_true rfl) dX11_goodLine_27 (fun r7 => [pI r7.1]) (fun r7 => r7.2) (fun _ => rfl) (fun _ => rfl) (fun r7 h8 => ?_) rfl
      refine v_if_ne (tgt := 35) dX11_goodLine_30 (by decide) (fun c10 => ?_) (fun c10 => ?_)
      · refine v_iconst dX11_goodLine_33 (by decide) ?_
        exact v_breturn dX11_goodLine_34 rfl (by decide) rfl
      · refine v_aload_n dX11_goodLine_35 rfl ?_
        refine v_lload_n dX11_goodLine_36 rfl ?_
        refine v_ldc2 (n := 131277443786868) dX11_goodLine_37 (by decide) tw1408 ?_
        refine v_lcmp dX11_goodLine_40 ?_
        refine v_join (fun (t12 : Int) => [some (pA a0), none, none]) (fun (t12 : Int) => [pI t12, pA a0]) (fun (t12 : Int) => r7.2) 51 (fun t12 => ?_) (fun j11 hj11 => ?_)
        · refine v_aload_n dX11_goodLine_51 rfl ?_
          refine v_if (fun h13 => ?_)
          refine v_get (v := pA (r7.2.1 a0 20)) 10 20 rfl inX11 (by decide) tw1213 dX11_goodLine_52 h13 rfl ?_
          refine v_iconst dX11_goodLine_55 (by decide) ?_
          refine v_if (fun h14 => ?_)
          refine v_iaload h14 dX11_goodLine_56 ?_
          refine v_iadd dX11_goodLine_57 ?_
          refine v_aload_n dX11_goodLine_58 rfl ?_
          refine v_get (v := pA (r7.2.1 a0 20)) 10 20 rfl inX11 (by decide) tw1213 dX11_goodLine_59 h13 rfl ?_
          refine v_iconst dX11_goodLine_62 (by decide) ?_
          refine v_if (fun h15 => ?_)
          refine v_iaload h15 dX11_goodLine_63 ?_
          refine v_cV (mi := mX11_goodLine) (c0 := 0) (c1 := 0) (As := [pI (w32 (t12 + (r7.2.1 (r7.2.1 a0 20) 0))), pI (r7.2.1 (r7.2.1 a0 20) 1)]) (st := []) (kX11_lay d (by omega) _ _ _ _) rfl h13 rfl okX11_lay (Or.inl tw1443) tw1445 tp44 rfl (Nat.le_of_ble_eq_true rfl) dX11_goodLine_64 (fun r16 => []) (fun r16 => r16) (fun _ => rfl) (fun _ => rfl) (fun r16 h17 => ?_) rfl
          refine v_iconst dX11_goodLine_67 (by decide) ?_
          exact v_breturn dX11_goodLine_68 rfl (by decide) rfl
        · refine v_if_ne (tgt := 49) dX11_goodLine_41 (by decide) (fun c18 => ?_) (fun c18 => ?_)
          · refine v_bipush dX11_goodLine_44 (by decide) ?_
            refine v_goto (tgt := 51) dX11_goodLine_46 (by decide) ?_
            exact v_drop [some (pA a0), none, none] (ls_s (ls_n (ls_n ls_e))) (hj11 74)
          · refine v_bipush dX11_goodLine_49 (by decide) ?_
            exact v_drop [some (pA a0), none, none] (ls_s (ls_n (ls_n ls_e))) (hj11 79)
    · refine v_if_ne (tgt := 24) dX11_goodLine_17 (by decide) (fun c19 => ?_) (fun c19 => ?_)
      · refine v_iconst dX11_goodLine_20 (by decide) ?_
        refine v_goto (tgt := 25) dX11_goodLine_21 (by decide) ?_
        exact hj5 1
      · refine v_iconst dX11_goodLine_24 (by decide) ?_
        exact hj5 0
theorem chX11_townLine_0 : (cX11_townLine.data.toList.drop 0).take 16 = [31, 20, 0, 181, 148, 153, 0, 72, 31, 20, 0, 183, 148, 153, 0, 64] := by decide +kernel
theorem chX11_townLine_1 : (cX11_townLine.data.toList.drop 16).take 16 = [31, 20, 0, 185, 148, 153, 0, 56, 31, 20, 0, 177, 148, 153, 0, 48] := by decide +kernel
theorem chX11_townLine_2 : (cX11_townLine.data.toList.drop 32).take 16 = [31, 20, 0, 187, 148, 153, 0, 40, 31, 20, 0, 179, 148, 153, 0, 32] := by decide +kernel
theorem chX11_townLine_3 : (cX11_townLine.data.toList.drop 48).take 16 = [31, 20, 0, 189, 148, 153, 0, 24, 31, 20, 0, 191, 148, 153, 0, 16] := by decide +kernel
theorem chX11_townLine_4 : (cX11_townLine.data.toList.drop 64).take 16 = [31, 20, 0, 193, 148, 153, 0, 8, 42, 182, 0, 138, 172, 31, 20, 0] := by decide +kernel
theorem chX11_townLine_5 : (cX11_townLine.data.toList.drop 80).take 16 = [193, 148, 154, 0, 10, 42, 4, 7, 29, 182, 0, 195, 42, 182, 0, 150] := by decide +kernel
theorem chX11_townLine_6 : (cX11_townLine.data.toList.drop 96).take 16 = [31, 20, 0, 183, 148, 153, 0, 11, 31, 20, 0, 185, 148, 154, 0, 22] := by decide +kernel
theorem chX11_townLine_7 : (cX11_townLine.data.toList.drop 112).take 16 = [42, 31, 20, 0, 183, 148, 154, 0, 7, 5, 167, 0, 5, 16, 32, 182] := by decide +kernel
theorem chX11_townLine_8 : (cX11_townLine.data.toList.drop 128).take 16 = [0, 199, 172, 31, 20, 0, 177, 148, 153, 0, 11, 31, 20, 0, 187, 148] := by decide +kernel
theorem chX11_townLine_9 : (cX11_townLine.data.toList.drop 144).take 16 = [154, 0, 9, 42, 31, 182, 0, 202, 172, 31, 20, 0, 179, 148, 153, 0] := by decide +kernel
theorem chX11_townLine_10 : (cX11_townLine.data.toList.drop 160).take 16 = [11, 31, 20, 0, 189, 148, 154, 0, 9, 42, 31, 182, 0, 206, 172, 31] := by decide +kernel
theorem chX11_townLine_11 : (cX11_townLine.data.toList.drop 176).take 16 = [20, 0, 191, 148, 154, 0, 8, 42, 182, 0, 209, 172, 42, 3, 4, 31] := by decide +kernel
theorem chX11_townLine_12 : (cX11_townLine.data.toList.drop 192).take 16 = [20, 0, 181, 148, 154, 0, 8, 16, 6, 167, 0, 5, 16, 9, 182, 0] := by decide +kernel
theorem chX11_townLine_13 : (cX11_townLine.data.toList.drop 208).take 16 = [157, 154, 0, 5, 3, 172, 31, 20, 0, 181, 148, 154, 0, 18, 42, 180] := by decide +kernel
theorem chX11_townLine_14 : (cX11_townLine.data.toList.drop 224).take 16 = [0, 38, 3, 42, 180, 0, 41, 3, 46, 79, 167, 0, 12, 42, 4, 16] := by decide +kernel
theorem chX11_townLine_15 : (cX11_townLine.data.toList.drop 240).take 16 = [84, 4, 7, 182, 0, 212, 4, 172] := by decide +kernel
theorem dX11_townLine_0 : decode cX11_townLine 0 = .ok (.lload_n 1, 1) := oq_31 (byt chX11_townLine_0 0 rfl)
theorem dX11_townLine_1 : decode cX11_townLine 1 = .ok (.ldc2_w 181, 3) := oq_20 (byt chX11_townLine_0 1 rfl) (byt chX11_townLine_0 2 rfl) (byt chX11_townLine_0 3 rfl) rfl
theorem dX11_townLine_4 : decode cX11_townLine 4 = .ok (.lcmp, 1) := oq_148 (byt chX11_townLine_0 4 rfl)
theorem dX11_townLine_5 : decode cX11_townLine 5 = .ok (.ifCond .eq 72, 3) := oq_153 (byt chX11_townLine_0 5 rfl) (byt chX11_townLine_0 6 rfl) (byt chX11_townLine_0 7 rfl) (by decide +kernel)
theorem dX11_townLine_8 : decode cX11_townLine 8 = .ok (.lload_n 1, 1) := oq_31 (byt chX11_townLine_0 8 rfl)
theorem dX11_townLine_9 : decode cX11_townLine 9 = .ok (.ldc2_w 183, 3) := oq_20 (byt chX11_townLine_0 9 rfl) (byt chX11_townLine_0 10 rfl) (byt chX11_townLine_0 11 rfl) rfl
theorem dX11_townLine_12 : decode cX11_townLine 12 = .ok (.lcmp, 1) := oq_148 (byt chX11_townLine_0 12 rfl)
theorem dX11_townLine_13 : decode cX11_townLine 13 = .ok (.ifCond .eq 64, 3) := oq_153 (byt chX11_townLine_0 13 rfl) (byt chX11_townLine_0 14 rfl) (byt chX11_townLine_0 15 rfl) (by decide +kernel)
theorem dX11_townLine_16 : decode cX11_townLine 16 = .ok (.lload_n 1, 1) := oq_31 (byt chX11_townLine_1 0 rfl)
theorem dX11_townLine_17 : decode cX11_townLine 17 = .ok (.ldc2_w 185, 3) := oq_20 (byt chX11_townLine_1 1 rfl) (byt chX11_townLine_1 2 rfl) (byt chX11_townLine_1 3 rfl) rfl
theorem dX11_townLine_20 : decode cX11_townLine 20 = .ok (.lcmp, 1) := oq_148 (byt chX11_townLine_1 4 rfl)
theorem dX11_townLine_21 : decode cX11_townLine 21 = .ok (.ifCond .eq 56, 3) := oq_153 (byt chX11_townLine_1 5 rfl) (byt chX11_townLine_1 6 rfl) (byt chX11_townLine_1 7 rfl) (by decide +kernel)
theorem dX11_townLine_24 : decode cX11_townLine 24 = .ok (.lload_n 1, 1) := oq_31 (byt chX11_townLine_1 8 rfl)
theorem dX11_townLine_25 : decode cX11_townLine 25 = .ok (.ldc2_w 177, 3) := oq_20 (byt chX11_townLine_1 9 rfl) (byt chX11_townLine_1 10 rfl) (byt chX11_townLine_1 11 rfl) rfl
theorem dX11_townLine_28 : decode cX11_townLine 28 = .ok (.lcmp, 1) := oq_148 (byt chX11_townLine_1 12 rfl)
theorem dX11_townLine_29 : decode cX11_townLine 29 = .ok (.ifCond .eq 48, 3) := oq_153 (byt chX11_townLine_1 13 rfl) (byt chX11_townLine_1 14 rfl) (byt chX11_townLine_1 15 rfl) (by decide +kernel)
theorem dX11_townLine_32 : decode cX11_townLine 32 = .ok (.lload_n 1, 1) := oq_31 (byt chX11_townLine_2 0 rfl)
theorem dX11_townLine_33 : decode cX11_townLine 33 = .ok (.ldc2_w 187, 3) := oq_20 (byt chX11_townLine_2 1 rfl) (byt chX11_townLine_2 2 rfl) (byt chX11_townLine_2 3 rfl) rfl
theorem dX11_townLine_36 : decode cX11_townLine 36 = .ok (.lcmp, 1) := oq_148 (byt chX11_townLine_2 4 rfl)
theorem dX11_townLine_37 : decode cX11_townLine 37 = .ok (.ifCond .eq 40, 3) := oq_153 (byt chX11_townLine_2 5 rfl) (byt chX11_townLine_2 6 rfl) (byt chX11_townLine_2 7 rfl) (by decide +kernel)
theorem dX11_townLine_40 : decode cX11_townLine 40 = .ok (.lload_n 1, 1) := oq_31 (byt chX11_townLine_2 8 rfl)
theorem dX11_townLine_41 : decode cX11_townLine 41 = .ok (.ldc2_w 179, 3) := oq_20 (byt chX11_townLine_2 9 rfl) (byt chX11_townLine_2 10 rfl) (byt chX11_townLine_2 11 rfl) rfl
theorem dX11_townLine_44 : decode cX11_townLine 44 = .ok (.lcmp, 1) := oq_148 (byt chX11_townLine_2 12 rfl)
theorem dX11_townLine_45 : decode cX11_townLine 45 = .ok (.ifCond .eq 32, 3) := oq_153 (byt chX11_townLine_2 13 rfl) (byt chX11_townLine_2 14 rfl) (byt chX11_townLine_2 15 rfl) (by decide +kernel)
theorem dX11_townLine_48 : decode cX11_townLine 48 = .ok (.lload_n 1, 1) := oq_31 (byt chX11_townLine_3 0 rfl)
theorem dX11_townLine_49 : decode cX11_townLine 49 = .ok (.ldc2_w 189, 3) := oq_20 (byt chX11_townLine_3 1 rfl) (byt chX11_townLine_3 2 rfl) (byt chX11_townLine_3 3 rfl) rfl
theorem dX11_townLine_52 : decode cX11_townLine 52 = .ok (.lcmp, 1) := oq_148 (byt chX11_townLine_3 4 rfl)
theorem dX11_townLine_53 : decode cX11_townLine 53 = .ok (.ifCond .eq 24, 3) := oq_153 (byt chX11_townLine_3 5 rfl) (byt chX11_townLine_3 6 rfl) (byt chX11_townLine_3 7 rfl) (by decide +kernel)
theorem dX11_townLine_56 : decode cX11_townLine 56 = .ok (.lload_n 1, 1) := oq_31 (byt chX11_townLine_3 8 rfl)
theorem dX11_townLine_57 : decode cX11_townLine 57 = .ok (.ldc2_w 191, 3) := oq_20 (byt chX11_townLine_3 9 rfl) (byt chX11_townLine_3 10 rfl) (byt chX11_townLine_3 11 rfl) rfl
theorem dX11_townLine_60 : decode cX11_townLine 60 = .ok (.lcmp, 1) := oq_148 (byt chX11_townLine_3 12 rfl)
theorem dX11_townLine_61 : decode cX11_townLine 61 = .ok (.ifCond .eq 16, 3) := oq_153 (byt chX11_townLine_3 13 rfl) (byt chX11_townLine_3 14 rfl) (byt chX11_townLine_3 15 rfl) (by decide +kernel)
theorem dX11_townLine_64 : decode cX11_townLine 64 = .ok (.lload_n 1, 1) := oq_31 (byt chX11_townLine_4 0 rfl)
theorem dX11_townLine_65 : decode cX11_townLine 65 = .ok (.ldc2_w 193, 3) := oq_20 (byt chX11_townLine_4 1 rfl) (byt chX11_townLine_4 2 rfl) (byt chX11_townLine_4 3 rfl) rfl
theorem dX11_townLine_68 : decode cX11_townLine 68 = .ok (.lcmp, 1) := oq_148 (byt chX11_townLine_4 4 rfl)
theorem dX11_townLine_69 : decode cX11_townLine 69 = .ok (.ifCond .eq 8, 3) := oq_153 (byt chX11_townLine_4 5 rfl) (byt chX11_townLine_4 6 rfl) (byt chX11_townLine_4 7 rfl) (by decide +kernel)
theorem dX11_townLine_72 : decode cX11_townLine 72 = .ok (.aload_n 0, 1) := oq_42 (byt chX11_townLine_4 8 rfl)
theorem dX11_townLine_73 : decode cX11_townLine 73 = .ok (.invokevirtual 138, 3) := oq_182 (byt chX11_townLine_4 9 rfl) (byt chX11_townLine_4 10 rfl) (byt chX11_townLine_4 11 rfl) rfl
theorem dX11_townLine_76 : decode cX11_townLine 76 = .ok (.ireturn, 1) := oq_172 (byt chX11_townLine_4 12 rfl)
theorem dX11_townLine_77 : decode cX11_townLine 77 = .ok (.lload_n 1, 1) := oq_31 (byt chX11_townLine_4 13 rfl)
theorem dX11_townLine_78 : decode cX11_townLine 78 = .ok (.ldc2_w 193, 3) := oq_20 (byt chX11_townLine_4 14 rfl) (byt chX11_townLine_4 15 rfl) (byt chX11_townLine_5 0 rfl) rfl
theorem dX11_townLine_81 : decode cX11_townLine 81 = .ok (.lcmp, 1) := oq_148 (byt chX11_townLine_5 1 rfl)
theorem dX11_townLine_82 : decode cX11_townLine 82 = .ok (.ifCond .ne 10, 3) := oq_154 (byt chX11_townLine_5 2 rfl) (byt chX11_townLine_5 3 rfl) (byt chX11_townLine_5 4 rfl) (by decide +kernel)
theorem dX11_townLine_85 : decode cX11_townLine 85 = .ok (.aload_n 0, 1) := oq_42 (byt chX11_townLine_5 5 rfl)
theorem dX11_townLine_86 : decode cX11_townLine 86 = .ok (.iconst 1, 1) := oq_4 (byt chX11_townLine_5 6 rfl)
theorem dX11_townLine_87 : decode cX11_townLine 87 = .ok (.iconst 4, 1) := oq_7 (byt chX11_townLine_5 7 rfl)
theorem dX11_townLine_88 : decode cX11_townLine 88 = .ok (.iload_n 3, 1) := oq_29 (byt chX11_townLine_5 8 rfl)
theorem dX11_townLine_89 : decode cX11_townLine 89 = .ok (.invokevirtual 195, 3) := oq_182 (byt chX11_townLine_5 9 rfl) (byt chX11_townLine_5 10 rfl) (byt chX11_townLine_5 11 rfl) rfl
theorem dX11_townLine_92 : decode cX11_townLine 92 = .ok (.aload_n 0, 1) := oq_42 (byt chX11_townLine_5 12 rfl)
theorem dX11_townLine_93 : decode cX11_townLine 93 = .ok (.invokevirtual 150, 3) := oq_182 (byt chX11_townLine_5 13 rfl) (byt chX11_townLine_5 14 rfl) (byt chX11_townLine_5 15 rfl) rfl
theorem dX11_townLine_96 : decode cX11_townLine 96 = .ok (.lload_n 1, 1) := oq_31 (byt chX11_townLine_6 0 rfl)
theorem dX11_townLine_97 : decode cX11_townLine 97 = .ok (.ldc2_w 183, 3) := oq_20 (byt chX11_townLine_6 1 rfl) (byt chX11_townLine_6 2 rfl) (byt chX11_townLine_6 3 rfl) rfl
theorem dX11_townLine_100 : decode cX11_townLine 100 = .ok (.lcmp, 1) := oq_148 (byt chX11_townLine_6 4 rfl)
theorem dX11_townLine_101 : decode cX11_townLine 101 = .ok (.ifCond .eq 11, 3) := oq_153 (byt chX11_townLine_6 5 rfl) (byt chX11_townLine_6 6 rfl) (byt chX11_townLine_6 7 rfl) (by decide +kernel)
theorem dX11_townLine_104 : decode cX11_townLine 104 = .ok (.lload_n 1, 1) := oq_31 (byt chX11_townLine_6 8 rfl)
theorem dX11_townLine_105 : decode cX11_townLine 105 = .ok (.ldc2_w 185, 3) := oq_20 (byt chX11_townLine_6 9 rfl) (byt chX11_townLine_6 10 rfl) (byt chX11_townLine_6 11 rfl) rfl
theorem dX11_townLine_108 : decode cX11_townLine 108 = .ok (.lcmp, 1) := oq_148 (byt chX11_townLine_6 12 rfl)
theorem dX11_townLine_109 : decode cX11_townLine 109 = .ok (.ifCond .ne 22, 3) := oq_154 (byt chX11_townLine_6 13 rfl) (byt chX11_townLine_6 14 rfl) (byt chX11_townLine_6 15 rfl) (by decide +kernel)
theorem dX11_townLine_112 : decode cX11_townLine 112 = .ok (.aload_n 0, 1) := oq_42 (byt chX11_townLine_7 0 rfl)
theorem dX11_townLine_113 : decode cX11_townLine 113 = .ok (.lload_n 1, 1) := oq_31 (byt chX11_townLine_7 1 rfl)
theorem dX11_townLine_114 : decode cX11_townLine 114 = .ok (.ldc2_w 183, 3) := oq_20 (byt chX11_townLine_7 2 rfl) (byt chX11_townLine_7 3 rfl) (byt chX11_townLine_7 4 rfl) rfl
theorem dX11_townLine_117 : decode cX11_townLine 117 = .ok (.lcmp, 1) := oq_148 (byt chX11_townLine_7 5 rfl)
theorem dX11_townLine_118 : decode cX11_townLine 118 = .ok (.ifCond .ne 7, 3) := oq_154 (byt chX11_townLine_7 6 rfl) (byt chX11_townLine_7 7 rfl) (byt chX11_townLine_7 8 rfl) (by decide +kernel)
theorem dX11_townLine_121 : decode cX11_townLine 121 = .ok (.iconst 2, 1) := oq_5 (byt chX11_townLine_7 9 rfl)
theorem dX11_townLine_122 : decode cX11_townLine 122 = .ok (.goto 5, 3) := oq_167 (byt chX11_townLine_7 10 rfl) (byt chX11_townLine_7 11 rfl) (byt chX11_townLine_7 12 rfl) (by decide +kernel)
theorem dX11_townLine_125 : decode cX11_townLine 125 = .ok (.bipush 32, 2) := oq_16 (byt chX11_townLine_7 13 rfl) (byt chX11_townLine_7 14 rfl) rfl
theorem dX11_townLine_127 : decode cX11_townLine 127 = .ok (.invokevirtual 199, 3) := oq_182 (byt chX11_townLine_7 15 rfl) (byt chX11_townLine_8 0 rfl) (byt chX11_townLine_8 1 rfl) rfl
theorem dX11_townLine_130 : decode cX11_townLine 130 = .ok (.ireturn, 1) := oq_172 (byt chX11_townLine_8 2 rfl)
theorem dX11_townLine_131 : decode cX11_townLine 131 = .ok (.lload_n 1, 1) := oq_31 (byt chX11_townLine_8 3 rfl)
theorem dX11_townLine_132 : decode cX11_townLine 132 = .ok (.ldc2_w 177, 3) := oq_20 (byt chX11_townLine_8 4 rfl) (byt chX11_townLine_8 5 rfl) (byt chX11_townLine_8 6 rfl) rfl
theorem dX11_townLine_135 : decode cX11_townLine 135 = .ok (.lcmp, 1) := oq_148 (byt chX11_townLine_8 7 rfl)
theorem dX11_townLine_136 : decode cX11_townLine 136 = .ok (.ifCond .eq 11, 3) := oq_153 (byt chX11_townLine_8 8 rfl) (byt chX11_townLine_8 9 rfl) (byt chX11_townLine_8 10 rfl) (by decide +kernel)
theorem dX11_townLine_139 : decode cX11_townLine 139 = .ok (.lload_n 1, 1) := oq_31 (byt chX11_townLine_8 11 rfl)
theorem dX11_townLine_140 : decode cX11_townLine 140 = .ok (.ldc2_w 187, 3) := oq_20 (byt chX11_townLine_8 12 rfl) (byt chX11_townLine_8 13 rfl) (byt chX11_townLine_8 14 rfl) rfl
theorem dX11_townLine_143 : decode cX11_townLine 143 = .ok (.lcmp, 1) := oq_148 (byt chX11_townLine_8 15 rfl)
theorem dX11_townLine_144 : decode cX11_townLine 144 = .ok (.ifCond .ne 9, 3) := oq_154 (byt chX11_townLine_9 0 rfl) (byt chX11_townLine_9 1 rfl) (byt chX11_townLine_9 2 rfl) (by decide +kernel)
theorem dX11_townLine_147 : decode cX11_townLine 147 = .ok (.aload_n 0, 1) := oq_42 (byt chX11_townLine_9 3 rfl)
theorem dX11_townLine_148 : decode cX11_townLine 148 = .ok (.lload_n 1, 1) := oq_31 (byt chX11_townLine_9 4 rfl)
theorem dX11_townLine_149 : decode cX11_townLine 149 = .ok (.invokevirtual 202, 3) := oq_182 (byt chX11_townLine_9 5 rfl) (byt chX11_townLine_9 6 rfl) (byt chX11_townLine_9 7 rfl) rfl
theorem dX11_townLine_152 : decode cX11_townLine 152 = .ok (.ireturn, 1) := oq_172 (byt chX11_townLine_9 8 rfl)
theorem dX11_townLine_153 : decode cX11_townLine 153 = .ok (.lload_n 1, 1) := oq_31 (byt chX11_townLine_9 9 rfl)
theorem dX11_townLine_154 : decode cX11_townLine 154 = .ok (.ldc2_w 179, 3) := oq_20 (byt chX11_townLine_9 10 rfl) (byt chX11_townLine_9 11 rfl) (byt chX11_townLine_9 12 rfl) rfl
theorem dX11_townLine_157 : decode cX11_townLine 157 = .ok (.lcmp, 1) := oq_148 (byt chX11_townLine_9 13 rfl)
theorem dX11_townLine_158 : decode cX11_townLine 158 = .ok (.ifCond .eq 11, 3) := oq_153 (byt chX11_townLine_9 14 rfl) (byt chX11_townLine_9 15 rfl) (byt chX11_townLine_10 0 rfl) (by decide +kernel)
theorem dX11_townLine_161 : decode cX11_townLine 161 = .ok (.lload_n 1, 1) := oq_31 (byt chX11_townLine_10 1 rfl)
theorem dX11_townLine_162 : decode cX11_townLine 162 = .ok (.ldc2_w 189, 3) := oq_20 (byt chX11_townLine_10 2 rfl) (byt chX11_townLine_10 3 rfl) (byt chX11_townLine_10 4 rfl) rfl
theorem dX11_townLine_165 : decode cX11_townLine 165 = .ok (.lcmp, 1) := oq_148 (byt chX11_townLine_10 5 rfl)
theorem dX11_townLine_166 : decode cX11_townLine 166 = .ok (.ifCond .ne 9, 3) := oq_154 (byt chX11_townLine_10 6 rfl) (byt chX11_townLine_10 7 rfl) (byt chX11_townLine_10 8 rfl) (by decide +kernel)
theorem dX11_townLine_169 : decode cX11_townLine 169 = .ok (.aload_n 0, 1) := oq_42 (byt chX11_townLine_10 9 rfl)
theorem dX11_townLine_170 : decode cX11_townLine 170 = .ok (.lload_n 1, 1) := oq_31 (byt chX11_townLine_10 10 rfl)
theorem dX11_townLine_171 : decode cX11_townLine 171 = .ok (.invokevirtual 206, 3) := oq_182 (byt chX11_townLine_10 11 rfl) (byt chX11_townLine_10 12 rfl) (byt chX11_townLine_10 13 rfl) rfl
theorem dX11_townLine_174 : decode cX11_townLine 174 = .ok (.ireturn, 1) := oq_172 (byt chX11_townLine_10 14 rfl)
theorem dX11_townLine_175 : decode cX11_townLine 175 = .ok (.lload_n 1, 1) := oq_31 (byt chX11_townLine_10 15 rfl)
theorem dX11_townLine_176 : decode cX11_townLine 176 = .ok (.ldc2_w 191, 3) := oq_20 (byt chX11_townLine_11 0 rfl) (byt chX11_townLine_11 1 rfl) (byt chX11_townLine_11 2 rfl) rfl
theorem dX11_townLine_179 : decode cX11_townLine 179 = .ok (.lcmp, 1) := oq_148 (byt chX11_townLine_11 3 rfl)
theorem dX11_townLine_180 : decode cX11_townLine 180 = .ok (.ifCond .ne 8, 3) := oq_154 (byt chX11_townLine_11 4 rfl) (byt chX11_townLine_11 5 rfl) (byt chX11_townLine_11 6 rfl) (by decide +kernel)
theorem dX11_townLine_183 : decode cX11_townLine 183 = .ok (.aload_n 0, 1) := oq_42 (byt chX11_townLine_11 7 rfl)
theorem dX11_townLine_184 : decode cX11_townLine 184 = .ok (.invokevirtual 209, 3) := oq_182 (byt chX11_townLine_11 8 rfl) (byt chX11_townLine_11 9 rfl) (byt chX11_townLine_11 10 rfl) rfl
theorem dX11_townLine_187 : decode cX11_townLine 187 = .ok (.ireturn, 1) := oq_172 (byt chX11_townLine_11 11 rfl)
theorem dX11_townLine_188 : decode cX11_townLine 188 = .ok (.aload_n 0, 1) := oq_42 (byt chX11_townLine_11 12 rfl)
theorem dX11_townLine_189 : decode cX11_townLine 189 = .ok (.iconst 0, 1) := oq_3 (byt chX11_townLine_11 13 rfl)
theorem dX11_townLine_190 : decode cX11_townLine 190 = .ok (.iconst 1, 1) := oq_4 (byt chX11_townLine_11 14 rfl)
theorem dX11_townLine_191 : decode cX11_townLine 191 = .ok (.lload_n 1, 1) := oq_31 (byt chX11_townLine_11 15 rfl)
theorem dX11_townLine_192 : decode cX11_townLine 192 = .ok (.ldc2_w 181, 3) := oq_20 (byt chX11_townLine_12 0 rfl) (byt chX11_townLine_12 1 rfl) (byt chX11_townLine_12 2 rfl) rfl
theorem dX11_townLine_195 : decode cX11_townLine 195 = .ok (.lcmp, 1) := oq_148 (byt chX11_townLine_12 3 rfl)
theorem dX11_townLine_196 : decode cX11_townLine 196 = .ok (.ifCond .ne 8, 3) := oq_154 (byt chX11_townLine_12 4 rfl) (byt chX11_townLine_12 5 rfl) (byt chX11_townLine_12 6 rfl) (by decide +kernel)
theorem dX11_townLine_199 : decode cX11_townLine 199 = .ok (.bipush 6, 2) := oq_16 (byt chX11_townLine_12 7 rfl) (byt chX11_townLine_12 8 rfl) rfl
theorem dX11_townLine_201 : decode cX11_townLine 201 = .ok (.goto 5, 3) := oq_167 (byt chX11_townLine_12 9 rfl) (byt chX11_townLine_12 10 rfl) (byt chX11_townLine_12 11 rfl) (by decide +kernel)
theorem dX11_townLine_204 : decode cX11_townLine 204 = .ok (.bipush 9, 2) := oq_16 (byt chX11_townLine_12 12 rfl) (byt chX11_townLine_12 13 rfl) rfl
theorem dX11_townLine_206 : decode cX11_townLine 206 = .ok (.invokevirtual 157, 3) := oq_182 (byt chX11_townLine_12 14 rfl) (byt chX11_townLine_12 15 rfl) (byt chX11_townLine_13 0 rfl) rfl
theorem dX11_townLine_209 : decode cX11_townLine 209 = .ok (.ifCond .ne 5, 3) := oq_154 (byt chX11_townLine_13 1 rfl) (byt chX11_townLine_13 2 rfl) (byt chX11_townLine_13 3 rfl) (by decide +kernel)
theorem dX11_townLine_212 : decode cX11_townLine 212 = .ok (.iconst 0, 1) := oq_3 (byt chX11_townLine_13 4 rfl)
theorem dX11_townLine_213 : decode cX11_townLine 213 = .ok (.ireturn, 1) := oq_172 (byt chX11_townLine_13 5 rfl)
theorem dX11_townLine_214 : decode cX11_townLine 214 = .ok (.lload_n 1, 1) := oq_31 (byt chX11_townLine_13 6 rfl)
theorem dX11_townLine_215 : decode cX11_townLine 215 = .ok (.ldc2_w 181, 3) := oq_20 (byt chX11_townLine_13 7 rfl) (byt chX11_townLine_13 8 rfl) (byt chX11_townLine_13 9 rfl) rfl
theorem dX11_townLine_218 : decode cX11_townLine 218 = .ok (.lcmp, 1) := oq_148 (byt chX11_townLine_13 10 rfl)
theorem dX11_townLine_219 : decode cX11_townLine 219 = .ok (.ifCond .ne 18, 3) := oq_154 (byt chX11_townLine_13 11 rfl) (byt chX11_townLine_13 12 rfl) (byt chX11_townLine_13 13 rfl) (by decide +kernel)
theorem dX11_townLine_222 : decode cX11_townLine 222 = .ok (.aload_n 0, 1) := oq_42 (byt chX11_townLine_13 14 rfl)
theorem dX11_townLine_223 : decode cX11_townLine 223 = .ok (.getfield 38, 3) := oq_180 (byt chX11_townLine_13 15 rfl) (byt chX11_townLine_14 0 rfl) (byt chX11_townLine_14 1 rfl) rfl
theorem dX11_townLine_226 : decode cX11_townLine 226 = .ok (.iconst 0, 1) := oq_3 (byt chX11_townLine_14 2 rfl)
theorem dX11_townLine_227 : decode cX11_townLine 227 = .ok (.aload_n 0, 1) := oq_42 (byt chX11_townLine_14 3 rfl)
theorem dX11_townLine_228 : decode cX11_townLine 228 = .ok (.getfield 41, 3) := oq_180 (byt chX11_townLine_14 4 rfl) (byt chX11_townLine_14 5 rfl) (byt chX11_townLine_14 6 rfl) rfl
theorem dX11_townLine_231 : decode cX11_townLine 231 = .ok (.iconst 0, 1) := oq_3 (byt chX11_townLine_14 7 rfl)
theorem dX11_townLine_232 : decode cX11_townLine 232 = .ok (.iaload, 1) := oq_46 (byt chX11_townLine_14 8 rfl)
theorem dX11_townLine_233 : decode cX11_townLine 233 = .ok (.iastore, 1) := oq_79 (byt chX11_townLine_14 9 rfl)
theorem dX11_townLine_234 : decode cX11_townLine 234 = .ok (.goto 12, 3) := oq_167 (byt chX11_townLine_14 10 rfl) (byt chX11_townLine_14 11 rfl) (byt chX11_townLine_14 12 rfl) (by decide +kernel)
theorem dX11_townLine_237 : decode cX11_townLine 237 = .ok (.aload_n 0, 1) := oq_42 (byt chX11_townLine_14 13 rfl)
theorem dX11_townLine_238 : decode cX11_townLine 238 = .ok (.iconst 1, 1) := oq_4 (byt chX11_townLine_14 14 rfl)
theorem dX11_townLine_239 : decode cX11_townLine 239 = .ok (.bipush 84, 2) := oq_16 (byt chX11_townLine_14 15 rfl) (byt chX11_townLine_15 0 rfl) rfl
theorem dX11_townLine_241 : decode cX11_townLine 241 = .ok (.iconst 1, 1) := oq_4 (byt chX11_townLine_15 1 rfl)
theorem dX11_townLine_242 : decode cX11_townLine 242 = .ok (.iconst 4, 1) := oq_7 (byt chX11_townLine_15 2 rfl)
theorem dX11_townLine_243 : decode cX11_townLine 243 = .ok (.invokevirtual 212, 3) := oq_182 (byt chX11_townLine_15 3 rfl) (byt chX11_townLine_15 4 rfl) (byt chX11_townLine_15 5 rfl) rfl
theorem dX11_townLine_246 : decode cX11_townLine 246 = .ok (.iconst 1, 1) := oq_4 (byt chX11_townLine_15 6 rfl)
theorem dX11_townLine_247 : decode cX11_townLine 247 = .ok (.ireturn, 1) := oq_172 (byt chX11_townLine_15 7 rfl)
abbrev mX11_townLine : MI := (yX11_townLine, cX11_townLine, 4, (some .boolean), noE)
theorem okX11_townLine : cok mX11_townLine 2 := ⟨tw1402, tw11, by decide, by decide, by decide, by decide +kernel⟩
def fX11_townLine (M : Mem) (a0 a1 a2 : Int) : Option (Int × Mem) :=
  jn (fun (t2 : Unit) => jn (fun (t4 : Mem) => if t4.2.1 a0 = 10 then (fX11_token t4 a0).bind fun r5 => jn (fun (t9 : Unit) => jn (fun (t11 : Int) => if r5.2.1 a0 = 10 then (fX11_goodsLine r5 a0 t11).bind fun r12 => if r12.1 = 0 ∨ r12.1 = 1 then some (r12.1, r12.2) else none else none) (fun (j10 : Int → Option (Int × Mem)) => if lcmp a1 6840691 = 0 then (j10 2) else (j10 32))) (fun (j8 : Unit → Option (Int × Mem)) => if lcmp a1 6840691 = 0 then (j8 ()) else (if lcmp a1 474147546227 = 0 then (j8 ()) else (jn (fun (t20 : Unit) => if r5.2.1 a0 = 10 then (fX11_houseLine r5 a0 a1).bind fun r21 => if r21.1 = 0 ∨ r21.1 = 1 then some (r21.1, r21.2) else none else none) (fun (j19 : Unit → Option (Int × Mem)) => if lcmp a1 512736125800 = 0 then (j19 ()) else (if lcmp a1 123563851081075 = 0 then (j19 ()) else (jn (fun (t28 : Unit) => if r5.2.1 a0 = 10 then (fX11_goodLine r5 a0 a1).bind fun r29 => if r29.1 = 0 ∨ r29.1 = 1 then some (r29.1, r29.2) else none else none) (fun (j27 : Unit → Option (Int × Mem)) => if lcmp a1 131277443786868 = 0 then (j27 ()) else (if lcmp a1 512970880104 = 0 then (j27 ()) else (if lcmp a1 7565166 = 0 then (if r5.2.1 a0 = 10 then (fX11_sonLine r5 a0).bind fun r36 => if r36.1 = 0 ∨ r36.1 = 1 then some (r36.1, r36.2) else none else none) else (jn (fun (t41 : Int) => if r5.2.1 a0 = 10 then (fX11_take r5 a0 0 1 t41).bind fun r42 => if r42.1 = 0 then (some (0, r42.2)) else (if lcmp a1 114827921155443 = 0 then (if r42.2.2.1 a0 = 10 then if r42.2.2.1 (r42.2.1 a0 20) = 12 ∧ (0 : Int) ≤ 0 ∧ 0 < r42.2.2.2.1 (r42.2.1 a0 20) then if r42.2.2.1 (r42.2.1 a0 19) = 12 ∧ (0 : Int) ≤ 0 ∧ 0 < r42.2.2.2.1 (r42.2.1 a0 19) then bM (mst r42.2 (r42.2.1 a0 19) 0 (r42.2.1 (r42.2.1 a0 20) 0)) fun M50 => some (1, M50) else none else none else none) else (if r42.2.2.1 a0 = 10 then (fX11_keep r42.2 a0 1 84 1 4).bind fun r52 => some (1, r52) else none)) else none) (fun (j40 : Int → Option (Int × Mem)) => if lcmp a1 114827921155443 = 0 then (j40 6) else (j40 9)))))))))))) else none) (fun (j3 : Mem → Option (Int × Mem)) => if lcmp a1 499967944038 = 0 then (if M.2.1 a0 = 10 then (fX11_full M a0 1 4 a2).bind fun r57 => j3 r57 else none) else (j3 M))) (fun (j1 : Unit → Option (Int × Mem)) => if lcmp a1 114827921155443 = 0 then (j1 ()) else (if lcmp a1 6840691 = 0 then (j1 ()) else (if lcmp a1 474147546227 = 0 then (j1 ()) else (if lcmp a1 512736125800 = 0 then (j1 ()) else (if lcmp a1 123563851081075 = 0 then (j1 ()) else (if lcmp a1 131277443786868 = 0 then (j1 ()) else (if lcmp a1 512970880104 = 0 then (j1 ()) else (if lcmp a1 7565166 = 0 then (j1 ()) else (if lcmp a1 499967944038 = 0 then (j1 ()) else (if M.2.1 a0 = 10 then (fX11_fails M a0).bind fun r69 => if r69.1 = 0 ∨ r69.1 = 1 then some (r69.1, r69.2) else none else none))))))))))
set_option maxRecDepth 100000 in
set_option maxHeartbeats 4000000 in
theorem kX11_townLine (d : Nat) (hd : 6 ≤ d) (M : Mem) (a0 a1 a2 : Int) : Ct mX11_townLine d 0 0 [pA a0, pL a1, pI a2] M dIM (fX11_townLine M a0 a1 a2) := by
  obtain ⟨d, rfl⟩ : ∃ k, d = k + 1 := ⟨d - 1, by omega⟩
  refine Ct.of 0 (fun _ _ _ => trivial) (by decide +kernel) rfl ?_
  unfold fX11_townLine
  refine v_lload_n dX11_townLine_0 rfl ?_
  refine v_ldc2 (n := 114827921155443) dX11_townLine_1 (by decide) tw1403 ?_
  refine v_lcmp dX11_townLine_4 ?_
  refine v_join (fun (t2 : Unit) => [some (pA a0), some (pL a1), none, some (pI a2)]) (fun (t2 : Unit) => []) (fun (t2 : Unit) => M) 77 (fun t2 => ?_) (fun j1 hj1 => ?_)
  · refine v_lload_n dX11_townLine_77 rfl ?_
    refine v_ldc2 (n := 499967944038) dX11_townLine_78 (by decide) tw1411 ?_
    refine v_lcmp dX11_townLine_81 ?_
    refine v_join (fun (t4 : Mem) => [some (pA a0), some (pL a1), none, none]) (fun (t4 : Mem) => []) (fun (t4 : Mem) => t4) 92 (fun t4 => ?_) (fun j3 hj3 => ?_)
    · refine v_aload_n dX11_townLine_92 rfl ?_
      refine v_if (fun h7 => ?_)
      refine v_cV (mi := mX11_townLine) (c0 := 0) (c1 := 0) (As := []) (st := []) (kX11_token d (by omega) _ _) rfl h7 rfl okX11_token (Or.inl tw1383) tw1385 tp32 rfl (Nat.le_of_ble_eq_true rfl) dX11_townLine_93 (fun r5 => []) (fun r5 => r5) (fun _ => rfl) (fun _ => rfl) (fun r5 h6 => ?_) rfl
      refine v_lload_n dX11_townLine_96 rfl ?_
      refine v_ldc2 (n := 6840691) dX11_townLine_97 (by decide) tw1404 ?_
      refine v_lcmp dX11_townLine_100 ?_
      refine v_join (fun (t9 : Unit) => [some (pA a0), some (pL a1), none, none]) (fun (t9 : Unit) => []) (fun (t9 : Unit) => r5) 112 (fun t9 => ?_) (fun j8 hj8 => ?_)
      · refine v_aload_n dX11_townLine_112 rfl ?_
        refine v_lload_n dX11_townLine_113 rfl ?_
        refine v_ldc2 (n := 6840691) dX11_townLine_114 (by decide) tw1404 ?_
        refine v_lcmp dX11_townLine_117 ?_
        refine v_join (fun (t11 : Int) => [none, none, none, none]) (fun (t11 : Int) => [pI t11, pA a0]) (fun (t11 : Int) => r5) 127 (fun t11 => ?_) (fun j10 hj10 => ?_)
        · refine v_if (fun h14 => ?_)
          refine v_cV (mi := mX11_townLine) (c0 := 0) (c1 := 0) (As := [pI t11]) (st := []) (kX11_goodsLine d (by omega) _ _ _) rfl h14 rfl okX11_goodsLine (Or.inl tw1424) tw1426 tp40 rfl (Nat.le_of_ble_eq_true rfl) dX11_townLine_127 (fun r12 => [pI r12.1]) (fun r12 => r12.2) (fun _ => rfl) (fun _ => rfl) (fun r12 h13 => ?_) rfl
          refine v_if (fun h15 => ?_)
          exact v_breturn dX11_townLine_130 rfl h15 rfl
        · refine v_if_ne (tgt := 125) dX11_townLine_118 (by decide) (fun c16 => ?_) (fun c16 => ?_)
          · refine v_iconst dX11_townLine_121 (by decide) ?_
            refine v_goto (tgt := 127) dX11_townLine_122 (by decide) ?_
            exact v_drop [none, none, none, none] (ls_n (ls_n (ls_n (ls_n ls_e)))) (hj10 2)
          · refine v_bipush dX11_townLine_125 (by decide) ?_
            exact v_drop [none, none, none, none] (ls_n (ls_n (ls_n (ls_n ls_e)))) (hj10 32)
      · refine v_if_eq (tgt := 112) dX11_townLine_101 (by decide) (fun c17 => ?_) (fun c17 => ?_)
        · exact hj8 ()
        · refine v_lload_n dX11_townLine_104 rfl ?_
          refine v_ldc2 (n := 474147546227) dX11_townLine_105 (by decide) tw1405 ?_
          refine v_lcmp dX11_townLine_108 ?_
          refine v_if_ne (tgt := 131) dX11_townLine_109 (by decide) (fun c18 => ?_) (fun c18 => ?_)
          · exact hj8 ()
          · refine v_lload_n dX11_townLine_131 rfl ?_
            refine v_ldc2 (n := 512736125800) dX11_townLine_132 (by decide) tw1406 ?_
            refine v_lcmp dX11_townLine_135 ?_
            refine v_join (fun (t20 : Unit) => [some (pA a0), some (pL a1), none, none]) (fun (t20 : Unit) => []) (fun (t20 : Unit) => r5) 147 (fun t20 => ?_) (fun j19 hj19 => ?_)
            · refine v_aload_n dX11_townLine_147 rfl ?_
              refine v_lload_n dX11_townLine_148 rfl ?_
              refine v_if (fun h23 => ?_)
              refine v_cV (mi := mX11_townLine) (c0 := 0) (c1 := 0) (As := [pL a1]) (st := []) (kX11_houseLine d (by omega) _ _ _) rfl h23 rfl okX11_houseLine (Or.inl tw1447) tw1449 tp45 rfl (Nat.le_of_ble_eq_true rfl) dX11_townLine_149 (fun r21 => [pI r21.1]) (fun r21 => r21.2) (fun _ => rfl) (fun _ => rfl) (fun r21 h22 => ?_) rfl
              refine v_if (fun h24 => ?_)
              exact v_breturn dX11_townLine_152 rfl h24 rfl
            · refine v_if_eq (tgt := 147) dX11_townLine_136 (by decide) (fun c25 => ?_) (fun c25 => ?_)
              · exact hj19 ()
              · refine v_lload_n dX11_townLine_139 rfl ?_
                refine v_ldc2 (n := 123563851081075) dX11_townLine_140 (by decide) tw1407 ?_
                refine v_lcmp dX11_townLine_143 ?_
                refine v_if_ne (tgt := 153) dX11_townLine_144 (by decide) (fun c26 => ?_) (fun c26 => ?_)
                · exact hj19 ()
                · refine v_lload_n dX11_townLine_153 rfl ?_
                  refine v_ldc2 (n := 131277443786868) dX11_townLine_154 (by decide) tw1408 ?_
                  refine v_lcmp dX11_townLine_157 ?_
                  refine v_join (fun (t28 : Unit) => [some (pA a0), some (pL a1), none, none]) (fun (t28 : Unit) => []) (fun (t28 : Unit) => r5) 169 (fun t28 => ?_) (fun j27 hj27 => ?_)
                  · refine v_aload_n dX11_townLine_169 rfl ?_
                    refine v_lload_n dX11_townLine_170 rfl ?_
                    refine v_if (fun h31 => ?_)
                    refine v_cV (mi := mX11_townLine) (c0 := 0) (c1 := 0) (As := [pL a1]) (st := []) (kX11_goodLine d (by omega) _ _ _) rfl h31 rfl okX11_goodLine (Or.inl tw1451) tw1453 tp46 rfl (Nat.le_of_ble_eq_true rfl) dX11_townLine_171 (fun r29 => [pI r29.1]) (fun r29 => r29.2) (fun _ => rfl) (fun _ => rfl) (fun r29 h30 => ?_) rfl
                    refine v_if (fun h32 => ?_)
                    exact v_breturn dX11_townLine_174 rfl h32 rfl
                  · refine v_if_eq (tgt := 169) dX11_townLine_158 (by decide) (fun c33 => ?_) (fun c33 => ?_)
                    · exact hj27 ()
                    · refine v_lload_n dX11_townLine_161 rfl ?_
                      refine v_ldc2 (n := 512970880104) dX11_townLine_162 (by decide) tw1409 ?_
                      refine v_lcmp dX11_townLine_165 ?_
                      refine v_if_ne (tgt := 175) dX11_townLine_166 (by decide) (fun c34 => ?_) (fun c34 => ?_)
                      · exact hj27 ()
                      · refine v_lload_n dX11_townLine_175 rfl ?_
                        refine v_ldc2 (n := 7565166) dX11_townLine_176 (by decide) tw1410 ?_
                        refine v_lcmp dX11_townLine_179 ?_
                        refine v_if_ne (tgt := 188) dX11_townLine_180 (by decide) (fun c35 => ?_) (fun c35 => ?_)
                        · refine v_aload_n dX11_townLine_183 rfl ?_
                          refine v_if (fun h38 => ?_)
                          refine v_cV (mi := mX11_townLine) (c0 := 0) (c1 := 0) (As := []) (st := []) (kX11_sonLine d (by omega) _ _) rfl h38 rfl okX11_sonLine (Or.inl tw1455) tw1457 tp47 rfl (Nat.le_of_ble_eq_true rfl) dX11_townLine_184 (fun r36 => [pI r36.1]) (fun r36 => r36.2) (fun _ => rfl) (fun _ => rfl) (fun r36 h37 => ?_) rfl
                          refine v_if (fun h39 => ?_)
                          exact v_breturn dX11_townLine_187 rfl h39 rfl
                        · refine v_aload_n dX11_townLine_188 rfl ?_
                          refine v_iconst dX11_townLine_189 (by decide) ?_
                          refine v_iconst dX11_townLine_190 (by decide) ?_
                          refine v_lload_n dX11_townLine_191 rfl ?_
                          refine v_ldc2 (n := 114827921155443) dX11_townLine_192 (by decide) tw1403 ?_
                          refine v_lcmp dX11_townLine_195 ?_
                          refine v_join (fun (t41 : Int) => [some (pA a0), some (pL a1), none, none]) (fun (t41 : Int) => [pI t41, pI 1, pI 0, pA a0]) (fun (t41 : Int) => r5) 206 (fun t41 => ?_) (fun j40 hj40 => ?_)
                          · refine v_if (fun h44 => ?_)
                            refine v_cV (mi := mX11_townLine) (c0 := 0) (c1 := 0) (As := [pI 0, pI 1, pI t41]) (st := []) (kX11_take d (by omega) _ _ _ _ _) rfl h44 rfl okX11_take (Or.inl tw1432) tw1434 tp42 rfl (Nat.le_of_ble_eq_true rfl) dX11_townLine_206 (fun r42 => [pI r42.1]) (fun r42 => r42.2) (fun _ => rfl) (fun _ => rfl) (fun r42 h43 => ?_) rfl
                            refine v_if_ne (tgt := 214) dX11_townLine_209 (by decide) (fun c45 => ?_) (fun c45 => ?_)
                            · refine v_iconst dX11_townLine_212 (by decide) ?_
                              exact v_breturn dX11_townLine_213 rfl (by decide) rfl
                            · refine v_lload_n dX11_townLine_214 rfl ?_
                              refine v_ldc2 (n := 114827921155443) dX11_townLine_215 (by decide) tw1403 ?_
                              refine v_lcmp dX11_townLine_218 ?_
                              refine v_if_ne (tgt := 237) dX11_townLine_219 (by decide) (fun c46 => ?_) (fun c46 => ?_)
                              · refine v_aload_n dX11_townLine_222 rfl ?_
                                refine v_if (fun h47 => ?_)
                                refine v_get (v := pA (r42.2.1 a0 19)) 10 19 rfl inX11 (by decide) tw1212 dX11_townLine_223 h47 rfl ?_
                                refine v_iconst dX11_townLine_226 (by decide) ?_
                                refine v_aload_n dX11_townLine_227 rfl ?_
                                refine v_get (v := pA (r42.2.1 a0 20)) 10 20 rfl inX11 (by decide) tw1213 dX11_townLine_228 h47 rfl ?_
                                refine v_iconst dX11_townLine_231 (by decide) ?_
                                refine v_if (fun h48 => ?_)
                                refine v_iaload h48 dX11_townLine_232 ?_
                                refine v_if (fun h49 => ?_)
                                refine v_iastore h49 dX11_townLine_233 ?_
                                refine v_bM (fun M50 e51 => ?_)
                                refine v_goto (tgt := 246) dX11_townLine_234 (by decide) ?_
                                refine v_iconst dX11_townLine_246 (by decide) ?_
                                exact v_breturn dX11_townLine_247 rfl (by decide) rfl
                              · refine v_aload_n dX11_townLine_237 rfl ?_
                                refine v_iconst dX11_townLine_238 (by decide) ?_
                                refine v_bipush dX11_townLine_239 (by decide) ?_
                                refine v_iconst dX11_townLine_241 (by decide) ?_
                                refine v_iconst dX11_townLine_242 (by decide) ?_
                                refine v_if (fun h54 => ?_)
                                refine v_cV (mi := mX11_townLine) (c0 := 0) (c1 := 0) (As := [pI 1, pI 84, pI 1, pI 4]) (st := []) (kX11_keep d (by omega) _ _ _ _ _ _) rfl h54 rfl okX11_keep (Or.inl tw1459) tw1461 tp48 rfl (Nat.le_of_ble_eq_true rfl) dX11_townLine_243 (fun r52 => []) (fun r52 => r52) (fun _ => rfl) (fun _ => rfl) (fun r52 h53 => ?_) rfl
                                refine v_iconst dX11_townLine_246 (by decide) ?_
                                exact v_breturn dX11_townLine_247 rfl (by decide) rfl
                          · refine v_if_ne (tgt := 204) dX11_townLine_196 (by decide) (fun c55 => ?_) (fun c55 => ?_)
                            · refine v_bipush dX11_townLine_199 (by decide) ?_
                              refine v_goto (tgt := 206) dX11_townLine_201 (by decide) ?_
                              exact hj40 6
                            · refine v_bipush dX11_townLine_204 (by decide) ?_
                              exact hj40 9
    · refine v_if_ne (tgt := 92) dX11_townLine_82 (by decide) (fun c56 => ?_) (fun c56 => ?_)
      · refine v_aload_n dX11_townLine_85 rfl ?_
        refine v_iconst dX11_townLine_86 (by decide) ?_
        refine v_iconst dX11_townLine_87 (by decide) ?_
        refine v_iload_n dX11_townLine_88 rfl ?_
        refine v_if (fun h59 => ?_)
        refine v_cV (mi := mX11_townLine) (c0 := 0) (c1 := 0) (As := [pI 1, pI 4, pI a2]) (st := []) (kX11_full d (by omega) _ _ _ _ _) rfl h59 rfl okX11_full (Or.inl tw1416) tw1418 tp38 rfl (Nat.le_of_ble_eq_true rfl) dX11_townLine_89 (fun r57 => []) (fun r57 => r57) (fun _ => rfl) (fun _ => rfl) (fun r57 h58 => ?_) rfl
        exact v_drop [some (pA a0), some (pL a1), none, none] (ls_s (ls_s (ls_n (ls_n ls_e)))) (hj3 r57)
      · exact v_drop [some (pA a0), some (pL a1), none, none] (ls_s (ls_s (ls_n (ls_n ls_e)))) (hj3 M)
  · refine v_if_eq (tgt := 77) dX11_townLine_5 (by decide) (fun c60 => ?_) (fun c60 => ?_)
    · exact hj1 ()
    · refine v_lload_n dX11_townLine_8 rfl ?_
      refine v_ldc2 (n := 6840691) dX11_townLine_9 (by decide) tw1404 ?_
      refine v_lcmp dX11_townLine_12 ?_
      refine v_if_eq (tgt := 77) dX11_townLine_13 (by decide) (fun c61 => ?_) (fun c61 => ?_)
      · exact hj1 ()
      · refine v_lload_n dX11_townLine_16 rfl ?_
        refine v_ldc2 (n := 474147546227) dX11_townLine_17 (by decide) tw1405 ?_
        refine v_lcmp dX11_townLine_20 ?_
        refine v_if_eq (tgt := 77) dX11_townLine_21 (by decide) (fun c62 => ?_) (fun c62 => ?_)
        · exact hj1 ()
        · refine v_lload_n dX11_townLine_24 rfl ?_
          refine v_ldc2 (n := 512736125800) dX11_townLine_25 (by decide) tw1406 ?_
          refine v_lcmp dX11_townLine_28 ?_
          refine v_if_eq (tgt := 77) dX11_townLine_29 (by decide) (fun c63 => ?_) (fun c63 => ?_)
          · exact hj1 ()
          · refine v_lload_n dX11_townLine_32 rfl ?_
            refine v_ldc2 (n := 123563851081075) dX11_townLine_33 (by decide) tw1407 ?_
            refine v_lcmp dX11_townLine_36 ?_
            refine v_if_eq (tgt := 77) dX11_townLine_37 (by decide) (fun c64 => ?_) (fun c64 => ?_)
            · exact hj1 ()
            · refine v_lload_n dX11_townLine_40 rfl ?_
              refine v_ldc2 (n := 131277443786868) dX11_townLine_41 (by decide) tw1408 ?_
              refine v_lcmp dX11_townLine_44 ?_
              refine v_if_eq (tgt := 77) dX11_townLine_45 (by decide) (fun c65 => ?_) (fun c65 => ?_)
              · exact hj1 ()
              · refine v_lload_n dX11_townLine_48 rfl ?_
                refine v_ldc2 (n := 512970880104) dX11_townLine_49 (by decide) tw1409 ?_
                refine v_lcmp dX11_townLine_52 ?_
                refine v_if_eq (tgt := 77) dX11_townLine_53 (by decide) (fun c66 => ?_) (fun c66 => ?_)
                · exact hj1 ()
                · refine v_lload_n dX11_townLine_56 rfl ?_
                  refine v_ldc2 (n := 7565166) dX11_townLine_57 (by decide) tw1410 ?_
                  refine v_lcmp dX11_townLine_60 ?_
                  refine v_if_eq (tgt := 77) dX11_townLine_61 (by decide) (fun c67 => ?_) (fun c67 => ?_)
                  · exact hj1 ()
                  · refine v_lload_n dX11_townLine_64 rfl ?_
                    refine v_ldc2 (n := 499967944038) dX11_townLine_65 (by decide) tw1411 ?_
                    refine v_lcmp dX11_townLine_68 ?_
                    refine v_if_eq (tgt := 77) dX11_townLine_69 (by decide) (fun c68 => ?_) (fun c68 => ?_)
                    · exact hj1 ()
                    · refine v_aload_n dX11_townLine_72 rfl ?_
                      refine v_if (fun h71 => ?_)
                      refine v_cV (mi := mX11_townLine) (c0 := 0) (c1 := 0) (As := []) (st := []) (kX11_fails d (by omega) _ _) rfl h71 rfl okX11_fails (Or.inl tw1412) tw1414 tp37 rfl (Nat.le_of_ble_eq_true rfl) dX11_townLine_73 (fun r69 => [pI r69.1]) (fun r69 => r69.2) (fun _ => rfl) (fun _ => rfl) (fun r69 h70 => ?_) rfl
                      refine v_if (fun h72 => ?_)
                      exact v_breturn dX11_townLine_76 rfl h72 rfl
theorem chX11_lawLine_0 : (cX11_lawLine.data.toList.drop 0).take 16 = [31, 20, 0, 216, 148, 153, 0, 24, 31, 20, 0, 218, 148, 153, 0, 16] := by decide +kernel
theorem chX11_lawLine_1 : (cX11_lawLine.data.toList.drop 16).take 16 = [31, 20, 0, 220, 148, 153, 0, 8, 42, 182, 0, 138, 172, 42, 182, 0] := by decide +kernel
theorem chX11_lawLine_2 : (cX11_lawLine.data.toList.drop 32).take 16 = [150, 42, 3, 31, 20, 0, 216, 148, 154, 0, 7, 5, 167, 0, 16, 31] := by decide +kernel
theorem chX11_lawLine_3 : (cX11_lawLine.data.toList.drop 48).take 16 = [20, 0, 218, 148, 154, 0, 7, 4, 167, 0, 4, 3, 31, 20, 0, 216] := by decide +kernel
theorem chX11_lawLine_4 : (cX11_lawLine.data.toList.drop 64).take 16 = [148, 154, 0, 7, 8, 167, 0, 18, 31, 20, 0, 218, 148, 154, 0, 8] := by decide +kernel
theorem chX11_lawLine_5 : (cX11_lawLine.data.toList.drop 80).take 16 = [16, 99, 167, 0, 5, 16, 19, 182, 0, 157, 154, 0, 5, 3, 172, 31] := by decide +kernel
theorem chX11_lawLine_6 : (cX11_lawLine.data.toList.drop 96).take 16 = [20, 0, 220, 148, 154, 0, 34, 42, 180, 0, 38, 5, 92, 46, 42, 180] := by decide +kernel
theorem chX11_lawLine_7 : (cX11_lawLine.data.toList.drop 112).take 16 = [0, 146, 153, 0, 14, 4, 42, 180, 0, 41, 3, 46, 120, 167, 0, 4] := by decide +kernel
theorem chX11_lawLine_8 : (cX11_lawLine.data.toList.drop 128).take 16 = [3, 128, 79, 167, 0, 27, 42, 180, 0, 38, 31, 20, 0, 216, 148, 154] := by decide +kernel
theorem chX11_lawLine_9 : (cX11_lawLine.data.toList.drop 144).take 16 = [0, 7, 3, 167, 0, 4, 4, 42, 180, 0, 41, 3, 46, 79, 4, 172] := by decide +kernel
theorem dX11_lawLine_0 : decode cX11_lawLine 0 = .ok (.lload_n 1, 1) := oq_31 (byt chX11_lawLine_0 0 rfl)
theorem dX11_lawLine_1 : decode cX11_lawLine 1 = .ok (.ldc2_w 216, 3) := oq_20 (byt chX11_lawLine_0 1 rfl) (byt chX11_lawLine_0 2 rfl) (byt chX11_lawLine_0 3 rfl) rfl
theorem dX11_lawLine_4 : decode cX11_lawLine 4 = .ok (.lcmp, 1) := oq_148 (byt chX11_lawLine_0 4 rfl)
theorem dX11_lawLine_5 : decode cX11_lawLine 5 = .ok (.ifCond .eq 24, 3) := oq_153 (byt chX11_lawLine_0 5 rfl) (byt chX11_lawLine_0 6 rfl) (byt chX11_lawLine_0 7 rfl) (by decide +kernel)
theorem dX11_lawLine_8 : decode cX11_lawLine 8 = .ok (.lload_n 1, 1) := oq_31 (byt chX11_lawLine_0 8 rfl)
theorem dX11_lawLine_9 : decode cX11_lawLine 9 = .ok (.ldc2_w 218, 3) := oq_20 (byt chX11_lawLine_0 9 rfl) (byt chX11_lawLine_0 10 rfl) (byt chX11_lawLine_0 11 rfl) rfl
theorem dX11_lawLine_12 : decode cX11_lawLine 12 = .ok (.lcmp, 1) := oq_148 (byt chX11_lawLine_0 12 rfl)
theorem dX11_lawLine_13 : decode cX11_lawLine 13 = .ok (.ifCond .eq 16, 3) := oq_153 (byt chX11_lawLine_0 13 rfl) (byt chX11_lawLine_0 14 rfl) (byt chX11_lawLine_0 15 rfl) (by decide +kernel)
theorem dX11_lawLine_16 : decode cX11_lawLine 16 = .ok (.lload_n 1, 1) := oq_31 (byt chX11_lawLine_1 0 rfl)
theorem dX11_lawLine_17 : decode cX11_lawLine 17 = .ok (.ldc2_w 220, 3) := oq_20 (byt chX11_lawLine_1 1 rfl) (byt chX11_lawLine_1 2 rfl) (byt chX11_lawLine_1 3 rfl) rfl
theorem dX11_lawLine_20 : decode cX11_lawLine 20 = .ok (.lcmp, 1) := oq_148 (byt chX11_lawLine_1 4 rfl)
theorem dX11_lawLine_21 : decode cX11_lawLine 21 = .ok (.ifCond .eq 8, 3) := oq_153 (byt chX11_lawLine_1 5 rfl) (byt chX11_lawLine_1 6 rfl) (byt chX11_lawLine_1 7 rfl) (by decide +kernel)
theorem dX11_lawLine_24 : decode cX11_lawLine 24 = .ok (.aload_n 0, 1) := oq_42 (byt chX11_lawLine_1 8 rfl)
theorem dX11_lawLine_25 : decode cX11_lawLine 25 = .ok (.invokevirtual 138, 3) := oq_182 (byt chX11_lawLine_1 9 rfl) (byt chX11_lawLine_1 10 rfl) (byt chX11_lawLine_1 11 rfl) rfl
theorem dX11_lawLine_28 : decode cX11_lawLine 28 = .ok (.ireturn, 1) := oq_172 (byt chX11_lawLine_1 12 rfl)
theorem dX11_lawLine_29 : decode cX11_lawLine 29 = .ok (.aload_n 0, 1) := oq_42 (byt chX11_lawLine_1 13 rfl)
theorem dX11_lawLine_30 : decode cX11_lawLine 30 = .ok (.invokevirtual 150, 3) := oq_182 (byt chX11_lawLine_1 14 rfl) (byt chX11_lawLine_1 15 rfl) (byt chX11_lawLine_2 0 rfl) rfl
theorem dX11_lawLine_33 : decode cX11_lawLine 33 = .ok (.aload_n 0, 1) := oq_42 (byt chX11_lawLine_2 1 rfl)
theorem dX11_lawLine_34 : decode cX11_lawLine 34 = .ok (.iconst 0, 1) := oq_3 (byt chX11_lawLine_2 2 rfl)
theorem dX11_lawLine_35 : decode cX11_lawLine 35 = .ok (.lload_n 1, 1) := oq_31 (byt chX11_lawLine_2 3 rfl)
theorem dX11_lawLine_36 : decode cX11_lawLine 36 = .ok (.ldc2_w 216, 3) := oq_20 (byt chX11_lawLine_2 4 rfl) (byt chX11_lawLine_2 5 rfl) (byt chX11_lawLine_2 6 rfl) rfl
theorem dX11_lawLine_39 : decode cX11_lawLine 39 = .ok (.lcmp, 1) := oq_148 (byt chX11_lawLine_2 7 rfl)
theorem dX11_lawLine_40 : decode cX11_lawLine 40 = .ok (.ifCond .ne 7, 3) := oq_154 (byt chX11_lawLine_2 8 rfl) (byt chX11_lawLine_2 9 rfl) (byt chX11_lawLine_2 10 rfl) (by decide +kernel)
theorem dX11_lawLine_43 : decode cX11_lawLine 43 = .ok (.iconst 2, 1) := oq_5 (byt chX11_lawLine_2 11 rfl)
theorem dX11_lawLine_44 : decode cX11_lawLine 44 = .ok (.goto 16, 3) := oq_167 (byt chX11_lawLine_2 12 rfl) (byt chX11_lawLine_2 13 rfl) (byt chX11_lawLine_2 14 rfl) (by decide +kernel)
theorem dX11_lawLine_47 : decode cX11_lawLine 47 = .ok (.lload_n 1, 1) := oq_31 (byt chX11_lawLine_2 15 rfl)
theorem dX11_lawLine_48 : decode cX11_lawLine 48 = .ok (.ldc2_w 218, 3) := oq_20 (byt chX11_lawLine_3 0 rfl) (byt chX11_lawLine_3 1 rfl) (byt chX11_lawLine_3 2 rfl) rfl
theorem dX11_lawLine_51 : decode cX11_lawLine 51 = .ok (.lcmp, 1) := oq_148 (byt chX11_lawLine_3 3 rfl)
theorem dX11_lawLine_52 : decode cX11_lawLine 52 = .ok (.ifCond .ne 7, 3) := oq_154 (byt chX11_lawLine_3 4 rfl) (byt chX11_lawLine_3 5 rfl) (byt chX11_lawLine_3 6 rfl) (by decide +kernel)
theorem dX11_lawLine_55 : decode cX11_lawLine 55 = .ok (.iconst 1, 1) := oq_4 (byt chX11_lawLine_3 7 rfl)
theorem dX11_lawLine_56 : decode cX11_lawLine 56 = .ok (.goto 4, 3) := oq_167 (byt chX11_lawLine_3 8 rfl) (byt chX11_lawLine_3 9 rfl) (byt chX11_lawLine_3 10 rfl) (by decide +kernel)
theorem dX11_lawLine_59 : decode cX11_lawLine 59 = .ok (.iconst 0, 1) := oq_3 (byt chX11_lawLine_3 11 rfl)
theorem dX11_lawLine_60 : decode cX11_lawLine 60 = .ok (.lload_n 1, 1) := oq_31 (byt chX11_lawLine_3 12 rfl)
theorem dX11_lawLine_61 : decode cX11_lawLine 61 = .ok (.ldc2_w 216, 3) := oq_20 (byt chX11_lawLine_3 13 rfl) (byt chX11_lawLine_3 14 rfl) (byt chX11_lawLine_3 15 rfl) rfl
theorem dX11_lawLine_64 : decode cX11_lawLine 64 = .ok (.lcmp, 1) := oq_148 (byt chX11_lawLine_4 0 rfl)
theorem dX11_lawLine_65 : decode cX11_lawLine 65 = .ok (.ifCond .ne 7, 3) := oq_154 (byt chX11_lawLine_4 1 rfl) (byt chX11_lawLine_4 2 rfl) (byt chX11_lawLine_4 3 rfl) (by decide +kernel)
theorem dX11_lawLine_68 : decode cX11_lawLine 68 = .ok (.iconst 5, 1) := oq_8 (byt chX11_lawLine_4 4 rfl)
theorem dX11_lawLine_69 : decode cX11_lawLine 69 = .ok (.goto 18, 3) := oq_167 (byt chX11_lawLine_4 5 rfl) (byt chX11_lawLine_4 6 rfl) (byt chX11_lawLine_4 7 rfl) (by decide +kernel)
theorem dX11_lawLine_72 : decode cX11_lawLine 72 = .ok (.lload_n 1, 1) := oq_31 (byt chX11_lawLine_4 8 rfl)
theorem dX11_lawLine_73 : decode cX11_lawLine 73 = .ok (.ldc2_w 218, 3) := oq_20 (byt chX11_lawLine_4 9 rfl) (byt chX11_lawLine_4 10 rfl) (byt chX11_lawLine_4 11 rfl) rfl
theorem dX11_lawLine_76 : decode cX11_lawLine 76 = .ok (.lcmp, 1) := oq_148 (byt chX11_lawLine_4 12 rfl)
theorem dX11_lawLine_77 : decode cX11_lawLine 77 = .ok (.ifCond .ne 8, 3) := oq_154 (byt chX11_lawLine_4 13 rfl) (byt chX11_lawLine_4 14 rfl) (byt chX11_lawLine_4 15 rfl) (by decide +kernel)
theorem dX11_lawLine_80 : decode cX11_lawLine 80 = .ok (.bipush 99, 2) := oq_16 (byt chX11_lawLine_5 0 rfl) (byt chX11_lawLine_5 1 rfl) rfl
theorem dX11_lawLine_82 : decode cX11_lawLine 82 = .ok (.goto 5, 3) := oq_167 (byt chX11_lawLine_5 2 rfl) (byt chX11_lawLine_5 3 rfl) (byt chX11_lawLine_5 4 rfl) (by decide +kernel)
theorem dX11_lawLine_85 : decode cX11_lawLine 85 = .ok (.bipush 19, 2) := oq_16 (byt chX11_lawLine_5 5 rfl) (byt chX11_lawLine_5 6 rfl) rfl
theorem dX11_lawLine_87 : decode cX11_lawLine 87 = .ok (.invokevirtual 157, 3) := oq_182 (byt chX11_lawLine_5 7 rfl) (byt chX11_lawLine_5 8 rfl) (byt chX11_lawLine_5 9 rfl) rfl
theorem dX11_lawLine_90 : decode cX11_lawLine 90 = .ok (.ifCond .ne 5, 3) := oq_154 (byt chX11_lawLine_5 10 rfl) (byt chX11_lawLine_5 11 rfl) (byt chX11_lawLine_5 12 rfl) (by decide +kernel)
theorem dX11_lawLine_93 : decode cX11_lawLine 93 = .ok (.iconst 0, 1) := oq_3 (byt chX11_lawLine_5 13 rfl)
theorem dX11_lawLine_94 : decode cX11_lawLine 94 = .ok (.ireturn, 1) := oq_172 (byt chX11_lawLine_5 14 rfl)
theorem dX11_lawLine_95 : decode cX11_lawLine 95 = .ok (.lload_n 1, 1) := oq_31 (byt chX11_lawLine_5 15 rfl)
theorem dX11_lawLine_96 : decode cX11_lawLine 96 = .ok (.ldc2_w 220, 3) := oq_20 (byt chX11_lawLine_6 0 rfl) (byt chX11_lawLine_6 1 rfl) (byt chX11_lawLine_6 2 rfl) rfl
theorem dX11_lawLine_99 : decode cX11_lawLine 99 = .ok (.lcmp, 1) := oq_148 (byt chX11_lawLine_6 3 rfl)
theorem dX11_lawLine_100 : decode cX11_lawLine 100 = .ok (.ifCond .ne 34, 3) := oq_154 (byt chX11_lawLine_6 4 rfl) (byt chX11_lawLine_6 5 rfl) (byt chX11_lawLine_6 6 rfl) (by decide +kernel)
theorem dX11_lawLine_103 : decode cX11_lawLine 103 = .ok (.aload_n 0, 1) := oq_42 (byt chX11_lawLine_6 7 rfl)
theorem dX11_lawLine_104 : decode cX11_lawLine 104 = .ok (.getfield 38, 3) := oq_180 (byt chX11_lawLine_6 8 rfl) (byt chX11_lawLine_6 9 rfl) (byt chX11_lawLine_6 10 rfl) rfl
theorem dX11_lawLine_107 : decode cX11_lawLine 107 = .ok (.iconst 2, 1) := oq_5 (byt chX11_lawLine_6 11 rfl)
theorem dX11_lawLine_108 : decode cX11_lawLine 108 = .ok (.dup2, 1) := oq_92 (byt chX11_lawLine_6 12 rfl)
theorem dX11_lawLine_109 : decode cX11_lawLine 109 = .ok (.iaload, 1) := oq_46 (byt chX11_lawLine_6 13 rfl)
theorem dX11_lawLine_110 : decode cX11_lawLine 110 = .ok (.aload_n 0, 1) := oq_42 (byt chX11_lawLine_6 14 rfl)
theorem dX11_lawLine_111 : decode cX11_lawLine 111 = .ok (.getfield 146, 3) := oq_180 (byt chX11_lawLine_6 15 rfl) (byt chX11_lawLine_7 0 rfl) (byt chX11_lawLine_7 1 rfl) rfl
theorem dX11_lawLine_114 : decode cX11_lawLine 114 = .ok (.ifCond .eq 14, 3) := oq_153 (byt chX11_lawLine_7 2 rfl) (byt chX11_lawLine_7 3 rfl) (byt chX11_lawLine_7 4 rfl) (by decide +kernel)
theorem dX11_lawLine_117 : decode cX11_lawLine 117 = .ok (.iconst 1, 1) := oq_4 (byt chX11_lawLine_7 5 rfl)
theorem dX11_lawLine_118 : decode cX11_lawLine 118 = .ok (.aload_n 0, 1) := oq_42 (byt chX11_lawLine_7 6 rfl)
theorem dX11_lawLine_119 : decode cX11_lawLine 119 = .ok (.getfield 41, 3) := oq_180 (byt chX11_lawLine_7 7 rfl) (byt chX11_lawLine_7 8 rfl) (byt chX11_lawLine_7 9 rfl) rfl
theorem dX11_lawLine_122 : decode cX11_lawLine 122 = .ok (.iconst 0, 1) := oq_3 (byt chX11_lawLine_7 10 rfl)
theorem dX11_lawLine_123 : decode cX11_lawLine 123 = .ok (.iaload, 1) := oq_46 (byt chX11_lawLine_7 11 rfl)
theorem dX11_lawLine_124 : decode cX11_lawLine 124 = .ok (.ishl, 1) := oq_120 (byt chX11_lawLine_7 12 rfl)
theorem dX11_lawLine_125 : decode cX11_lawLine 125 = .ok (.goto 4, 3) := oq_167 (byt chX11_lawLine_7 13 rfl) (byt chX11_lawLine_7 14 rfl) (byt chX11_lawLine_7 15 rfl) (by decide +kernel)
theorem dX11_lawLine_128 : decode cX11_lawLine 128 = .ok (.iconst 0, 1) := oq_3 (byt chX11_lawLine_8 0 rfl)
theorem dX11_lawLine_129 : decode cX11_lawLine 129 = .ok (.ior, 1) := oq_128 (byt chX11_lawLine_8 1 rfl)
theorem dX11_lawLine_130 : decode cX11_lawLine 130 = .ok (.iastore, 1) := oq_79 (byt chX11_lawLine_8 2 rfl)
theorem dX11_lawLine_131 : decode cX11_lawLine 131 = .ok (.goto 27, 3) := oq_167 (byt chX11_lawLine_8 3 rfl) (byt chX11_lawLine_8 4 rfl) (byt chX11_lawLine_8 5 rfl) (by decide +kernel)
theorem dX11_lawLine_134 : decode cX11_lawLine 134 = .ok (.aload_n 0, 1) := oq_42 (byt chX11_lawLine_8 6 rfl)
theorem dX11_lawLine_135 : decode cX11_lawLine 135 = .ok (.getfield 38, 3) := oq_180 (byt chX11_lawLine_8 7 rfl) (byt chX11_lawLine_8 8 rfl) (byt chX11_lawLine_8 9 rfl) rfl
theorem dX11_lawLine_138 : decode cX11_lawLine 138 = .ok (.lload_n 1, 1) := oq_31 (byt chX11_lawLine_8 10 rfl)
theorem dX11_lawLine_139 : decode cX11_lawLine 139 = .ok (.ldc2_w 216, 3) := oq_20 (byt chX11_lawLine_8 11 rfl) (byt chX11_lawLine_8 12 rfl) (byt chX11_lawLine_8 13 rfl) rfl
theorem dX11_lawLine_142 : decode cX11_lawLine 142 = .ok (.lcmp, 1) := oq_148 (byt chX11_lawLine_8 14 rfl)
theorem dX11_lawLine_143 : decode cX11_lawLine 143 = .ok (.ifCond .ne 7, 3) := oq_154 (byt chX11_lawLine_8 15 rfl) (byt chX11_lawLine_9 0 rfl) (byt chX11_lawLine_9 1 rfl) (by decide +kernel)
theorem dX11_lawLine_146 : decode cX11_lawLine 146 = .ok (.iconst 0, 1) := oq_3 (byt chX11_lawLine_9 2 rfl)
theorem dX11_lawLine_147 : decode cX11_lawLine 147 = .ok (.goto 4, 3) := oq_167 (byt chX11_lawLine_9 3 rfl) (byt chX11_lawLine_9 4 rfl) (byt chX11_lawLine_9 5 rfl) (by decide +kernel)
theorem dX11_lawLine_150 : decode cX11_lawLine 150 = .ok (.iconst 1, 1) := oq_4 (byt chX11_lawLine_9 6 rfl)
theorem dX11_lawLine_151 : decode cX11_lawLine 151 = .ok (.aload_n 0, 1) := oq_42 (byt chX11_lawLine_9 7 rfl)
theorem dX11_lawLine_152 : decode cX11_lawLine 152 = .ok (.getfield 41, 3) := oq_180 (byt chX11_lawLine_9 8 rfl) (byt chX11_lawLine_9 9 rfl) (byt chX11_lawLine_9 10 rfl) rfl
theorem dX11_lawLine_155 : decode cX11_lawLine 155 = .ok (.iconst 0, 1) := oq_3 (byt chX11_lawLine_9 11 rfl)
theorem dX11_lawLine_156 : decode cX11_lawLine 156 = .ok (.iaload, 1) := oq_46 (byt chX11_lawLine_9 12 rfl)
theorem dX11_lawLine_157 : decode cX11_lawLine 157 = .ok (.iastore, 1) := oq_79 (byt chX11_lawLine_9 13 rfl)
theorem dX11_lawLine_158 : decode cX11_lawLine 158 = .ok (.iconst 1, 1) := oq_4 (byt chX11_lawLine_9 14 rfl)
theorem dX11_lawLine_159 : decode cX11_lawLine 159 = .ok (.ireturn, 1) := oq_172 (byt chX11_lawLine_9 15 rfl)
abbrev mX11_lawLine : MI := (yX11_lawLine, cX11_lawLine, 3, (some .boolean), noE)
theorem okX11_lawLine : cok mX11_lawLine 1 := ⟨tw1466, tw11, by decide, by decide, by decide, by decide +kernel⟩
def fX11_lawLine (M : Mem) (a0 a1 : Int) : Option (Int × Mem) :=
  jn (fun (t2 : Unit) => if M.2.1 a0 = 10 then (fX11_token M a0).bind fun r3 => jn (fun (t7 : Int) => jn (fun (t9 : Int) => if r3.2.1 a0 = 10 then (fX11_take r3 a0 0 t7 t9).bind fun r10 => if r10.1 = 0 then (some (0, r10.2)) else (if lcmp a1 110429873532005 = 0 then (if r10.2.2.1 a0 = 10 then if r10.2.2.1 (r10.2.1 a0 19) = 12 ∧ (0 : Int) ≤ 2 ∧ 2 < r10.2.2.2.1 (r10.2.1 a0 19) then jn (fun (t18 : Int) => if r10.2.2.1 (r10.2.1 a0 19) = 12 ∧ (0 : Int) ≤ 2 ∧ 2 < r10.2.2.2.1 (r10.2.1 a0 19) then bM (mst r10.2 (r10.2.1 a0 19) 2 (bOr (r10.2.1 (r10.2.1 a0 19) 2) t18)) fun M20 => some (1, M20) else none) (fun (j17 : Int → Option (Int × Mem)) => if r10.2.1 a0 23 = 0 then (j17 0) else (if r10.2.2.1 (r10.2.1 a0 20) = 12 ∧ (0 : Int) ≤ 0 ∧ 0 < r10.2.2.2.1 (r10.2.1 a0 20) then j17 (bShl 1 (r10.2.1 (r10.2.1 a0 20) 0)) else none)) else none else none) else (if r10.2.2.1 a0 = 10 then jn (fun (t26 : Int) => if r10.2.2.1 (r10.2.1 a0 20) = 12 ∧ (0 : Int) ≤ 0 ∧ 0 < r10.2.2.2.1 (r10.2.1 a0 20) then if r10.2.2.1 (r10.2.1 a0 19) = 12 ∧ (0 : Int) ≤ t26 ∧ t26 < r10.2.2.2.1 (r10.2.1 a0 19) then bM (mst r10.2 (r10.2.1 a0 19) t26 (r10.2.1 (r10.2.1 a0 20) 0)) fun M29 => some (1, M29) else none else none) (fun (j25 : Int → Option (Int × Mem)) => if lcmp a1 1918989413 = 0 then (j25 0) else (j25 1)) else none)) else none) (fun (j8 : Int → Option (Int × Mem)) => if lcmp a1 1918989413 = 0 then (j8 5) else (if lcmp a1 426836779880 = 0 then (j8 99) else (j8 19)))) (fun (j6 : Int → Option (Int × Mem)) => if lcmp a1 1918989413 = 0 then (j6 2) else (if lcmp a1 426836779880 = 0 then (j6 1) else (j6 0))) else none) (fun (j1 : Unit → Option (Int × Mem)) => if lcmp a1 1918989413 = 0 then (j1 ()) else (if lcmp a1 426836779880 = 0 then (j1 ()) else (if lcmp a1 110429873532005 = 0 then (j1 ()) else (if M.2.1 a0 = 10 then (fX11_fails M a0).bind fun r39 => if r39.1 = 0 ∨ r39.1 = 1 then some (r39.1, r39.2) else none else none))))
set_option maxRecDepth 100000 in
set_option maxHeartbeats 4000000 in
theorem kX11_lawLine (d : Nat) (hd : 4 ≤ d) (M : Mem) (a0 a1 : Int) : Ct mX11_lawLine d 0 0 [pA a0, pL a1] M dIM (fX11_lawLine M a0 a1) := by
  obtain ⟨d, rfl⟩ : ∃ k, d = k + 1 := ⟨d - 1, by omega⟩
  refine Ct.of 0 (fun _ _ _ => trivial) (by decide +kernel) rfl ?_
  unfold fX11_lawLine
  refine v_lload_n dX11_lawLine_0 rfl ?_
  refine v_ldc2 (n := 1918989413) dX11_lawLine_1 (by decide) tw1467 ?_
  refine v_lcmp dX11_lawLine_4 ?_
  refine v_join (fun (t2 : Unit) => [some (pA a0), some (pL a1), none]) (fun (t2 : Unit) => []) (fun (t2 : Unit) => M) 29 (fun t2 => ?_) (fun j1 hj1 => ?_)
  · refine v_aload_n dX11_lawLine_29 rfl ?_
    refine v_if (fun h5 => ?_)
    refine v_cV (mi := mX11_lawLine) (c0 := 0) (c1 := 0) (As := []) (st := []) (kX11_token d (by omega) _ _) rfl h5 rfl okX11_token (Or.inl tw1383) tw1385 tp32 rfl (Nat.le_of_ble_eq_true rfl) dX11_lawLine_30 (fun r3 => []) (fun r3 => r3) (fun _ => rfl) (fun _ => rfl) (fun r3 h4 => ?_) rfl
    refine v_aload_n dX11_lawLine_33 rfl ?_
    refine v_iconst dX11_lawLine_34 (by decide) ?_
    refine v_lload_n dX11_lawLine_35 rfl ?_
    refine v_ldc2 (n := 1918989413) dX11_lawLine_36 (by decide) tw1467 ?_
    refine v_lcmp dX11_lawLine_39 ?_
    refine v_join (fun (t7 : Int) => [some (pA a0), some (pL a1), none]) (fun (t7 : Int) => [pI t7, pI 0, pA a0]) (fun (t7 : Int) => r3) 60 (fun t7 => ?_) (fun j6 hj6 => ?_)
    · refine v_lload_n dX11_lawLine_60 rfl ?_
      refine v_ldc2 (n := 1918989413) dX11_lawLine_61 (by decide) tw1467 ?_
      refine v_lcmp dX11_lawLine_64 ?_
      refine v_join (fun (t9 : Int) => [some (pA a0), some (pL a1), none]) (fun (t9 : Int) => [pI t9, pI t7, pI 0, pA a0]) (fun (t9 : Int) => r3) 87 (fun t9 => ?_) (fun j8 hj8 => ?_)
      · refine v_if (fun h12 => ?_)
        refine v_cV (mi := mX11_lawLine) (c0 := 0) (c1 := 0) (As := [pI 0, pI t7, pI t9]) (st := []) (kX11_take d (by omega) _ _ _ _ _) rfl h12 rfl okX11_take (Or.inl tw1432) tw1434 tp42 rfl (Nat.le_of_ble_eq_true rfl) dX11_lawLine_87 (fun r10 => [pI r10.1]) (fun r10 => r10.2) (fun _ => rfl) (fun _ => rfl) (fun r10 h11 => ?_) rfl
        refine v_if_ne (tgt := 95) dX11_lawLine_90 (by decide) (fun c13 => ?_) (fun c13 => ?_)
        · refine v_iconst dX11_lawLine_93 (by decide) ?_
          exact v_breturn dX11_lawLine_94 rfl (by decide) rfl
        · refine v_lload_n dX11_lawLine_95 rfl ?_
          refine v_ldc2 (n := 110429873532005) dX11_lawLine_96 (by decide) tw1469 ?_
          refine v_lcmp dX11_lawLine_99 ?_
          refine v_if_ne (tgt := 134) dX11_lawLine_100 (by decide) (fun c14 => ?_) (fun c14 => ?_)
          · refine v_aload_n dX11_lawLine_103 rfl ?_
            refine v_if (fun h15 => ?_)
            refine v_get (v := pA (r10.2.1 a0 19)) 10 19 rfl inX11 (by decide) tw1212 dX11_lawLine_104 h15 rfl ?_
            refine v_iconst dX11_lawLine_107 (by decide) ?_
            refine v_dup2 dX11_lawLine_108 (by intro z hz; cases hz) (by intro z hz; cases hz) ?_
            refine v_if (fun h16 => ?_)
            refine v_iaload h16 dX11_lawLine_109 ?_
            refine v_aload_n dX11_lawLine_110 rfl ?_
            refine v_get (v := pI (r10.2.1 a0 23)) 10 23 rfl inX11 (by decide) tw1216 dX11_lawLine_111 h15 rfl ?_
            refine v_join (fun (t18 : Int) => [none, none, none]) (fun (t18 : Int) => [pI t18, pI (r10.2.1 (r10.2.1 a0 19) 2), pI 2, pA (r10.2.1 a0 19)]) (fun (t18 : Int) => r10.2) 129 (fun t18 => ?_) (fun j17 hj17 => ?_)
            · refine v_ior dX11_lawLine_129 ?_
              refine v_if (fun h19 => ?_)
              refine v_iastore h19 dX11_lawLine_130 ?_
              refine v_bM (fun M20 e21 => ?_)
              refine v_goto (tgt := 158) dX11_lawLine_131 (by decide) ?_
              refine v_iconst dX11_lawLine_158 (by decide) ?_
              exact v_breturn dX11_lawLine_159 rfl (by decide) rfl
            · refine v_if_eq (tgt := 128) dX11_lawLine_114 (by decide) (fun c22 => ?_) (fun c22 => ?_)
              · refine v_iconst dX11_lawLine_128 (by decide) ?_
                exact v_drop [none, none, none] (ls_n (ls_n (ls_n ls_e))) (hj17 0)
              · refine v_iconst dX11_lawLine_117 (by decide) ?_
                refine v_aload_n dX11_lawLine_118 rfl ?_
                refine v_get (v := pA (r10.2.1 a0 20)) 10 20 rfl inX11 (by decide) tw1213 dX11_lawLine_119 h15 rfl ?_
                refine v_iconst dX11_lawLine_122 (by decide) ?_
                refine v_if (fun h23 => ?_)
                refine v_iaload h23 dX11_lawLine_123 ?_
                refine v_ishl dX11_lawLine_124 ?_
                refine v_goto (tgt := 129) dX11_lawLine_125 (by decide) ?_
                exact v_drop [none, none, none] (ls_n (ls_n (ls_n ls_e))) (hj17 (bShl 1 (r10.2.1 (r10.2.1 a0 20) 0)))
          · refine v_aload_n dX11_lawLine_134 rfl ?_
            refine v_if (fun h24 => ?_)
            refine v_get (v := pA (r10.2.1 a0 19)) 10 19 rfl inX11 (by decide) tw1212 dX11_lawLine_135 h24 rfl ?_
            refine v_lload_n dX11_lawLine_138 rfl ?_
            refine v_ldc2 (n := 1918989413) dX11_lawLine_139 (by decide) tw1467 ?_
            refine v_lcmp dX11_lawLine_142 ?_
            refine v_join (fun (t26 : Int) => [some (pA a0), none, none]) (fun (t26 : Int) => [pI t26, pA (r10.2.1 a0 19)]) (fun (t26 : Int) => r10.2) 151 (fun t26 => ?_) (fun j25 hj25 => ?_)
            · refine v_aload_n dX11_lawLine_151 rfl ?_
              refine v_get (v := pA (r10.2.1 a0 20)) 10 20 rfl inX11 (by decide) tw1213 dX11_lawLine_152 h24 rfl ?_
              refine v_iconst dX11_lawLine_155 (by decide) ?_
              refine v_if (fun h27 => ?_)
              refine v_iaload h27 dX11_lawLine_156 ?_
              refine v_if (fun h28 => ?_)
              refine v_iastore h28 dX11_lawLine_157 ?_
              refine v_bM (fun M29 e30 => ?_)
              refine v_iconst dX11_lawLine_158 (by decide) ?_
              exact v_breturn dX11_lawLine_159 rfl (by decide) rfl
            · refine v_if_ne (tgt := 150) dX11_lawLine_143 (by decide) (fun c31 => ?_) (fun c31 => ?_)
              · refine v_iconst dX11_lawLine_146 (by decide) ?_
                refine v_goto (tgt := 151) dX11_lawLine_147 (by decide) ?_
                exact v_drop [some (pA a0), none, none] (ls_s (ls_n (ls_n ls_e))) (hj25 0)
              · refine v_iconst dX11_lawLine_150 (by decide) ?_
                exact v_drop [some (pA a0), none, none] (ls_s (ls_n (ls_n ls_e))) (hj25 1)
      · refine v_if_ne (tgt := 72) dX11_lawLine_65 (by decide) (fun c32 => ?_) (fun c32 => ?_)
        · refine v_iconst dX11_lawLine_68 (by decide) ?_
          refine v_goto (tgt := 87) dX11_lawLine_69 (by decide) ?_
          exact hj8 5
        · refine v_lload_n dX11_lawLine_72 rfl ?_
          refine v_ldc2 (n := 426836779880) dX11_lawLine_73 (by decide) tw1468 ?_
          refine v_lcmp dX11_lawLine_76 ?_
          refine v_if_ne (tgt := 85) dX11_lawLine_77 (by decide) (fun c33 => ?_) (fun c33 => ?_)
          · refine v_bipush dX11_lawLine_80 (by decide) ?_
            refine v_goto (tgt := 87) dX11_lawLine_82 (by decide) ?_
            exact hj8 99
          · refine v_bipush dX11_lawLine_85 (by decide) ?_
            exact hj8 19
    · refine v_if_ne (tgt := 47) dX11_lawLine_40 (by decide) (fun c34 => ?_) (fun c34 => ?_)
      · refine v_iconst dX11_lawLine_43 (by decide) ?_
        refine v_goto (tgt := 60) dX11_lawLine_44 (by decide) ?_
        exact hj6 2
      · refine v_lload_n dX11_lawLine_47 rfl ?_
        refine v_ldc2 (n := 426836779880) dX11_lawLine_48 (by decide) tw1468 ?_
        refine v_lcmp dX11_lawLine_51 ?_
        refine v_if_ne (tgt := 59) dX11_lawLine_52 (by decide) (fun c35 => ?_) (fun c35 => ?_)
        · refine v_iconst dX11_lawLine_55 (by decide) ?_
          refine v_goto (tgt := 60) dX11_lawLine_56 (by decide) ?_
          exact hj6 1
        · refine v_iconst dX11_lawLine_59 (by decide) ?_
          exact hj6 0
  · refine v_if_eq (tgt := 29) dX11_lawLine_5 (by decide) (fun c36 => ?_) (fun c36 => ?_)
    · exact hj1 ()
    · refine v_lload_n dX11_lawLine_8 rfl ?_
      refine v_ldc2 (n := 426836779880) dX11_lawLine_9 (by decide) tw1468 ?_
      refine v_lcmp dX11_lawLine_12 ?_
      refine v_if_eq (tgt := 29) dX11_lawLine_13 (by decide) (fun c37 => ?_) (fun c37 => ?_)
      · exact hj1 ()
      · refine v_lload_n dX11_lawLine_16 rfl ?_
        refine v_ldc2 (n := 110429873532005) dX11_lawLine_17 (by decide) tw1469 ?_
        refine v_lcmp dX11_lawLine_20 ?_
        refine v_if_eq (tgt := 29) dX11_lawLine_21 (by decide) (fun c38 => ?_) (fun c38 => ?_)
        · exact hj1 ()
        · refine v_aload_n dX11_lawLine_24 rfl ?_
          refine v_if (fun h41 => ?_)
          refine v_cV (mi := mX11_lawLine) (c0 := 0) (c1 := 0) (As := []) (st := []) (kX11_fails d (by omega) _ _) rfl h41 rfl okX11_fails (Or.inl tw1412) tw1414 tp37 rfl (Nat.le_of_ble_eq_true rfl) dX11_lawLine_25 (fun r39 => [pI r39.1]) (fun r39 => r39.2) (fun _ => rfl) (fun _ => rfl) (fun r39 h40 => ?_) rfl
          refine v_if (fun h42 => ?_)
          exact v_breturn dX11_lawLine_28 rfl h42 rfl
theorem chX11_nightsLine_0 : (cX11_nightsLine.data.toList.drop 0).take 16 = [31, 20, 0, 222, 148, 154, 0, 7, 3, 167, 0, 40, 31, 20, 0, 224] := by decide +kernel
theorem chX11_nightsLine_1 : (cX11_nightsLine.data.toList.drop 16).take 16 = [148, 154, 0, 7, 4, 167, 0, 28, 31, 20, 0, 226, 148, 154, 0, 7] := by decide +kernel
theorem chX11_nightsLine_2 : (cX11_nightsLine.data.toList.drop 32).take 16 = [5, 167, 0, 16, 31, 20, 0, 228, 148, 154, 0, 7, 6, 167, 0, 4] := by decide +kernel
theorem chX11_nightsLine_3 : (cX11_nightsLine.data.toList.drop 48).take 16 = [2, 54, 4, 21, 4, 2, 160, 0, 8, 42, 182, 0, 138, 172, 42, 3] := by decide +kernel
theorem chX11_nightsLine_4 : (cX11_nightsLine.data.toList.drop 64).take 16 = [16, 40, 29, 182, 0, 195, 42, 182, 0, 150, 42, 180, 0, 41, 4, 2] := by decide +kernel
theorem chX11_nightsLine_5 : (cX11_nightsLine.data.toList.drop 80).take 16 = [79, 42, 180, 0, 41, 5, 2, 79, 42, 180, 0, 41, 6, 2, 79, 21] := by decide +kernel
theorem chX11_nightsLine_6 : (cX11_nightsLine.data.toList.drop 96).take 16 = [4, 5, 160, 0, 42, 42, 4, 3, 6, 182, 0, 157, 153, 0, 30, 42] := by decide +kernel
theorem chX11_nightsLine_7 : (cX11_nightsLine.data.toList.drop 112).take 16 = [5, 3, 6, 42, 180, 0, 41, 4, 46, 182, 0, 153, 153, 0, 14, 42] := by decide +kernel
theorem chX11_nightsLine_8 : (cX11_nightsLine.data.toList.drop 128).take 16 = [6, 4, 16, 9, 182, 0, 157, 154, 0, 5, 3, 172, 21, 4, 5, 162] := by decide +kernel
theorem chX11_nightsLine_9 : (cX11_nightsLine.data.toList.drop 144).take 16 = [0, 35, 42, 4, 3, 6, 182, 0, 157, 153, 0, 23, 42, 5, 3, 8] := by decide +kernel
theorem chX11_nightsLine_10 : (cX11_nightsLine.data.toList.drop 160).take 16 = [182, 0, 157, 153, 0, 13, 42, 6, 3, 7, 182, 0, 157, 154, 0, 5] := by decide +kernel
theorem chX11_nightsLine_11 : (cX11_nightsLine.data.toList.drop 176).take 16 = [3, 172, 42, 180, 0, 41, 3, 21, 4, 79, 42, 3, 4, 7, 16, 40] := by decide +kernel
theorem chX11_nightsLine_12 : (cX11_nightsLine.data.toList.drop 192).take 16 = [182, 0, 212, 4, 172] := by decide +kernel
theorem dX11_nightsLine_0 : decode cX11_nightsLine 0 = .ok (.lload_n 1, 1) := oq_31 (byt chX11_nightsLine_0 0 rfl)
theorem dX11_nightsLine_1 : decode cX11_nightsLine 1 = .ok (.ldc2_w 222, 3) := oq_20 (byt chX11_nightsLine_0 1 rfl) (byt chX11_nightsLine_0 2 rfl) (byt chX11_nightsLine_0 3 rfl) rfl
theorem dX11_nightsLine_4 : decode cX11_nightsLine 4 = .ok (.lcmp, 1) := oq_148 (byt chX11_nightsLine_0 4 rfl)
theorem dX11_nightsLine_5 : decode cX11_nightsLine 5 = .ok (.ifCond .ne 7, 3) := oq_154 (byt chX11_nightsLine_0 5 rfl) (byt chX11_nightsLine_0 6 rfl) (byt chX11_nightsLine_0 7 rfl) (by decide +kernel)
theorem dX11_nightsLine_8 : decode cX11_nightsLine 8 = .ok (.iconst 0, 1) := oq_3 (byt chX11_nightsLine_0 8 rfl)
theorem dX11_nightsLine_9 : decode cX11_nightsLine 9 = .ok (.goto 40, 3) := oq_167 (byt chX11_nightsLine_0 9 rfl) (byt chX11_nightsLine_0 10 rfl) (byt chX11_nightsLine_0 11 rfl) (by decide +kernel)
theorem dX11_nightsLine_12 : decode cX11_nightsLine 12 = .ok (.lload_n 1, 1) := oq_31 (byt chX11_nightsLine_0 12 rfl)
theorem dX11_nightsLine_13 : decode cX11_nightsLine 13 = .ok (.ldc2_w 224, 3) := oq_20 (byt chX11_nightsLine_0 13 rfl) (byt chX11_nightsLine_0 14 rfl) (byt chX11_nightsLine_0 15 rfl) rfl
theorem dX11_nightsLine_16 : decode cX11_nightsLine 16 = .ok (.lcmp, 1) := oq_148 (byt chX11_nightsLine_1 0 rfl)
theorem dX11_nightsLine_17 : decode cX11_nightsLine 17 = .ok (.ifCond .ne 7, 3) := oq_154 (byt chX11_nightsLine_1 1 rfl) (byt chX11_nightsLine_1 2 rfl) (byt chX11_nightsLine_1 3 rfl) (by decide +kernel)
theorem dX11_nightsLine_20 : decode cX11_nightsLine 20 = .ok (.iconst 1, 1) := oq_4 (byt chX11_nightsLine_1 4 rfl)
theorem dX11_nightsLine_21 : decode cX11_nightsLine 21 = .ok (.goto 28, 3) := oq_167 (byt chX11_nightsLine_1 5 rfl) (byt chX11_nightsLine_1 6 rfl) (byt chX11_nightsLine_1 7 rfl) (by decide +kernel)
theorem dX11_nightsLine_24 : decode cX11_nightsLine 24 = .ok (.lload_n 1, 1) := oq_31 (byt chX11_nightsLine_1 8 rfl)
theorem dX11_nightsLine_25 : decode cX11_nightsLine 25 = .ok (.ldc2_w 226, 3) := oq_20 (byt chX11_nightsLine_1 9 rfl) (byt chX11_nightsLine_1 10 rfl) (byt chX11_nightsLine_1 11 rfl) rfl
theorem dX11_nightsLine_28 : decode cX11_nightsLine 28 = .ok (.lcmp, 1) := oq_148 (byt chX11_nightsLine_1 12 rfl)
theorem dX11_nightsLine_29 : decode cX11_nightsLine 29 = .ok (.ifCond .ne 7, 3) := oq_154 (byt chX11_nightsLine_1 13 rfl) (byt chX11_nightsLine_1 14 rfl) (byt chX11_nightsLine_1 15 rfl) (by decide +kernel)
theorem dX11_nightsLine_32 : decode cX11_nightsLine 32 = .ok (.iconst 2, 1) := oq_5 (byt chX11_nightsLine_2 0 rfl)
theorem dX11_nightsLine_33 : decode cX11_nightsLine 33 = .ok (.goto 16, 3) := oq_167 (byt chX11_nightsLine_2 1 rfl) (byt chX11_nightsLine_2 2 rfl) (byt chX11_nightsLine_2 3 rfl) (by decide +kernel)
theorem dX11_nightsLine_36 : decode cX11_nightsLine 36 = .ok (.lload_n 1, 1) := oq_31 (byt chX11_nightsLine_2 4 rfl)
theorem dX11_nightsLine_37 : decode cX11_nightsLine 37 = .ok (.ldc2_w 228, 3) := oq_20 (byt chX11_nightsLine_2 5 rfl) (byt chX11_nightsLine_2 6 rfl) (byt chX11_nightsLine_2 7 rfl) rfl
theorem dX11_nightsLine_40 : decode cX11_nightsLine 40 = .ok (.lcmp, 1) := oq_148 (byt chX11_nightsLine_2 8 rfl)
theorem dX11_nightsLine_41 : decode cX11_nightsLine 41 = .ok (.ifCond .ne 7, 3) := oq_154 (byt chX11_nightsLine_2 9 rfl) (byt chX11_nightsLine_2 10 rfl) (byt chX11_nightsLine_2 11 rfl) (by decide +kernel)
theorem dX11_nightsLine_44 : decode cX11_nightsLine 44 = .ok (.iconst 3, 1) := oq_6 (byt chX11_nightsLine_2 12 rfl)
theorem dX11_nightsLine_45 : decode cX11_nightsLine 45 = .ok (.goto 4, 3) := oq_167 (byt chX11_nightsLine_2 13 rfl) (byt chX11_nightsLine_2 14 rfl) (byt chX11_nightsLine_2 15 rfl) (by decide +kernel)
theorem dX11_nightsLine_48 : decode cX11_nightsLine 48 = .ok (.iconst (-1), 1) := oq_2 (byt chX11_nightsLine_3 0 rfl)
theorem dX11_nightsLine_49 : decode cX11_nightsLine 49 = .ok (.istore 4, 2) := oq_54 (byt chX11_nightsLine_3 1 rfl) (byt chX11_nightsLine_3 2 rfl) rfl
theorem dX11_nightsLine_51 : decode cX11_nightsLine 51 = .ok (.iload 4, 2) := oq_21 (byt chX11_nightsLine_3 3 rfl) (byt chX11_nightsLine_3 4 rfl) rfl
theorem dX11_nightsLine_53 : decode cX11_nightsLine 53 = .ok (.iconst (-1), 1) := oq_2 (byt chX11_nightsLine_3 5 rfl)
theorem dX11_nightsLine_54 : decode cX11_nightsLine 54 = .ok (.if_icmp .ne 8, 3) := oq_160 (byt chX11_nightsLine_3 6 rfl) (byt chX11_nightsLine_3 7 rfl) (byt chX11_nightsLine_3 8 rfl) (by decide +kernel)
theorem dX11_nightsLine_57 : decode cX11_nightsLine 57 = .ok (.aload_n 0, 1) := oq_42 (byt chX11_nightsLine_3 9 rfl)
theorem dX11_nightsLine_58 : decode cX11_nightsLine 58 = .ok (.invokevirtual 138, 3) := oq_182 (byt chX11_nightsLine_3 10 rfl) (byt chX11_nightsLine_3 11 rfl) (byt chX11_nightsLine_3 12 rfl) rfl
theorem dX11_nightsLine_61 : decode cX11_nightsLine 61 = .ok (.ireturn, 1) := oq_172 (byt chX11_nightsLine_3 13 rfl)
theorem dX11_nightsLine_62 : decode cX11_nightsLine 62 = .ok (.aload_n 0, 1) := oq_42 (byt chX11_nightsLine_3 14 rfl)
theorem dX11_nightsLine_63 : decode cX11_nightsLine 63 = .ok (.iconst 0, 1) := oq_3 (byt chX11_nightsLine_3 15 rfl)
theorem dX11_nightsLine_64 : decode cX11_nightsLine 64 = .ok (.bipush 40, 2) := oq_16 (byt chX11_nightsLine_4 0 rfl) (byt chX11_nightsLine_4 1 rfl) rfl
theorem dX11_nightsLine_66 : decode cX11_nightsLine 66 = .ok (.iload_n 3, 1) := oq_29 (byt chX11_nightsLine_4 2 rfl)
theorem dX11_nightsLine_67 : decode cX11_nightsLine 67 = .ok (.invokevirtual 195, 3) := oq_182 (byt chX11_nightsLine_4 3 rfl) (byt chX11_nightsLine_4 4 rfl) (byt chX11_nightsLine_4 5 rfl) rfl
theorem dX11_nightsLine_70 : decode cX11_nightsLine 70 = .ok (.aload_n 0, 1) := oq_42 (byt chX11_nightsLine_4 6 rfl)
theorem dX11_nightsLine_71 : decode cX11_nightsLine 71 = .ok (.invokevirtual 150, 3) := oq_182 (byt chX11_nightsLine_4 7 rfl) (byt chX11_nightsLine_4 8 rfl) (byt chX11_nightsLine_4 9 rfl) rfl
theorem dX11_nightsLine_74 : decode cX11_nightsLine 74 = .ok (.aload_n 0, 1) := oq_42 (byt chX11_nightsLine_4 10 rfl)
theorem dX11_nightsLine_75 : decode cX11_nightsLine 75 = .ok (.getfield 41, 3) := oq_180 (byt chX11_nightsLine_4 11 rfl) (byt chX11_nightsLine_4 12 rfl) (byt chX11_nightsLine_4 13 rfl) rfl
theorem dX11_nightsLine_78 : decode cX11_nightsLine 78 = .ok (.iconst 1, 1) := oq_4 (byt chX11_nightsLine_4 14 rfl)
theorem dX11_nightsLine_79 : decode cX11_nightsLine 79 = .ok (.iconst (-1), 1) := oq_2 (byt chX11_nightsLine_4 15 rfl)
theorem dX11_nightsLine_80 : decode cX11_nightsLine 80 = .ok (.iastore, 1) := oq_79 (byt chX11_nightsLine_5 0 rfl)
theorem dX11_nightsLine_81 : decode cX11_nightsLine 81 = .ok (.aload_n 0, 1) := oq_42 (byt chX11_nightsLine_5 1 rfl)
theorem dX11_nightsLine_82 : decode cX11_nightsLine 82 = .ok (.getfield 41, 3) := oq_180 (byt chX11_nightsLine_5 2 rfl) (byt chX11_nightsLine_5 3 rfl) (byt chX11_nightsLine_5 4 rfl) rfl
theorem dX11_nightsLine_85 : decode cX11_nightsLine 85 = .ok (.iconst 2, 1) := oq_5 (byt chX11_nightsLine_5 5 rfl)
theorem dX11_nightsLine_86 : decode cX11_nightsLine 86 = .ok (.iconst (-1), 1) := oq_2 (byt chX11_nightsLine_5 6 rfl)
theorem dX11_nightsLine_87 : decode cX11_nightsLine 87 = .ok (.iastore, 1) := oq_79 (byt chX11_nightsLine_5 7 rfl)
theorem dX11_nightsLine_88 : decode cX11_nightsLine 88 = .ok (.aload_n 0, 1) := oq_42 (byt chX11_nightsLine_5 8 rfl)
theorem dX11_nightsLine_89 : decode cX11_nightsLine 89 = .ok (.getfield 41, 3) := oq_180 (byt chX11_nightsLine_5 9 rfl) (byt chX11_nightsLine_5 10 rfl) (byt chX11_nightsLine_5 11 rfl) rfl
theorem dX11_nightsLine_92 : decode cX11_nightsLine 92 = .ok (.iconst 3, 1) := oq_6 (byt chX11_nightsLine_5 12 rfl)
theorem dX11_nightsLine_93 : decode cX11_nightsLine 93 = .ok (.iconst (-1), 1) := oq_2 (byt chX11_nightsLine_5 13 rfl)
theorem dX11_nightsLine_94 : decode cX11_nightsLine 94 = .ok (.iastore, 1) := oq_79 (byt chX11_nightsLine_5 14 rfl)
theorem dX11_nightsLine_95 : decode cX11_nightsLine 95 = .ok (.iload 4, 2) := oq_21 (byt chX11_nightsLine_5 15 rfl) (byt chX11_nightsLine_6 0 rfl) rfl
theorem dX11_nightsLine_97 : decode cX11_nightsLine 97 = .ok (.iconst 2, 1) := oq_5 (byt chX11_nightsLine_6 1 rfl)
theorem dX11_nightsLine_98 : decode cX11_nightsLine 98 = .ok (.if_icmp .ne 42, 3) := oq_160 (byt chX11_nightsLine_6 2 rfl) (byt chX11_nightsLine_6 3 rfl) (byt chX11_nightsLine_6 4 rfl) (by decide +kernel)
theorem dX11_nightsLine_101 : decode cX11_nightsLine 101 = .ok (.aload_n 0, 1) := oq_42 (byt chX11_nightsLine_6 5 rfl)
theorem dX11_nightsLine_102 : decode cX11_nightsLine 102 = .ok (.iconst 1, 1) := oq_4 (byt chX11_nightsLine_6 6 rfl)
theorem dX11_nightsLine_103 : decode cX11_nightsLine 103 = .ok (.iconst 0, 1) := oq_3 (byt chX11_nightsLine_6 7 rfl)
theorem dX11_nightsLine_104 : decode cX11_nightsLine 104 = .ok (.iconst 3, 1) := oq_6 (byt chX11_nightsLine_6 8 rfl)
theorem dX11_nightsLine_105 : decode cX11_nightsLine 105 = .ok (.invokevirtual 157, 3) := oq_182 (byt chX11_nightsLine_6 9 rfl) (byt chX11_nightsLine_6 10 rfl) (byt chX11_nightsLine_6 11 rfl) rfl
theorem dX11_nightsLine_108 : decode cX11_nightsLine 108 = .ok (.ifCond .eq 30, 3) := oq_153 (byt chX11_nightsLine_6 12 rfl) (byt chX11_nightsLine_6 13 rfl) (byt chX11_nightsLine_6 14 rfl) (by decide +kernel)
theorem dX11_nightsLine_111 : decode cX11_nightsLine 111 = .ok (.aload_n 0, 1) := oq_42 (byt chX11_nightsLine_6 15 rfl)
theorem dX11_nightsLine_112 : decode cX11_nightsLine 112 = .ok (.iconst 2, 1) := oq_5 (byt chX11_nightsLine_7 0 rfl)
theorem dX11_nightsLine_113 : decode cX11_nightsLine 113 = .ok (.iconst 0, 1) := oq_3 (byt chX11_nightsLine_7 1 rfl)
theorem dX11_nightsLine_114 : decode cX11_nightsLine 114 = .ok (.iconst 3, 1) := oq_6 (byt chX11_nightsLine_7 2 rfl)
theorem dX11_nightsLine_115 : decode cX11_nightsLine 115 = .ok (.aload_n 0, 1) := oq_42 (byt chX11_nightsLine_7 3 rfl)
theorem dX11_nightsLine_116 : decode cX11_nightsLine 116 = .ok (.getfield 41, 3) := oq_180 (byt chX11_nightsLine_7 4 rfl) (byt chX11_nightsLine_7 5 rfl) (byt chX11_nightsLine_7 6 rfl) rfl
theorem dX11_nightsLine_119 : decode cX11_nightsLine 119 = .ok (.iconst 1, 1) := oq_4 (byt chX11_nightsLine_7 7 rfl)
theorem dX11_nightsLine_120 : decode cX11_nightsLine 120 = .ok (.iaload, 1) := oq_46 (byt chX11_nightsLine_7 8 rfl)
theorem dX11_nightsLine_121 : decode cX11_nightsLine 121 = .ok (.invokevirtual 153, 3) := oq_182 (byt chX11_nightsLine_7 9 rfl) (byt chX11_nightsLine_7 10 rfl) (byt chX11_nightsLine_7 11 rfl) rfl
theorem dX11_nightsLine_124 : decode cX11_nightsLine 124 = .ok (.ifCond .eq 14, 3) := oq_153 (byt chX11_nightsLine_7 12 rfl) (byt chX11_nightsLine_7 13 rfl) (byt chX11_nightsLine_7 14 rfl) (by decide +kernel)
theorem dX11_nightsLine_127 : decode cX11_nightsLine 127 = .ok (.aload_n 0, 1) := oq_42 (byt chX11_nightsLine_7 15 rfl)
theorem dX11_nightsLine_128 : decode cX11_nightsLine 128 = .ok (.iconst 3, 1) := oq_6 (byt chX11_nightsLine_8 0 rfl)
theorem dX11_nightsLine_129 : decode cX11_nightsLine 129 = .ok (.iconst 1, 1) := oq_4 (byt chX11_nightsLine_8 1 rfl)
theorem dX11_nightsLine_130 : decode cX11_nightsLine 130 = .ok (.bipush 9, 2) := oq_16 (byt chX11_nightsLine_8 2 rfl) (byt chX11_nightsLine_8 3 rfl) rfl
theorem dX11_nightsLine_132 : decode cX11_nightsLine 132 = .ok (.invokevirtual 157, 3) := oq_182 (byt chX11_nightsLine_8 4 rfl) (byt chX11_nightsLine_8 5 rfl) (byt chX11_nightsLine_8 6 rfl) rfl
theorem dX11_nightsLine_135 : decode cX11_nightsLine 135 = .ok (.ifCond .ne 5, 3) := oq_154 (byt chX11_nightsLine_8 7 rfl) (byt chX11_nightsLine_8 8 rfl) (byt chX11_nightsLine_8 9 rfl) (by decide +kernel)
theorem dX11_nightsLine_138 : decode cX11_nightsLine 138 = .ok (.iconst 0, 1) := oq_3 (byt chX11_nightsLine_8 10 rfl)
theorem dX11_nightsLine_139 : decode cX11_nightsLine 139 = .ok (.ireturn, 1) := oq_172 (byt chX11_nightsLine_8 11 rfl)
theorem dX11_nightsLine_140 : decode cX11_nightsLine 140 = .ok (.iload 4, 2) := oq_21 (byt chX11_nightsLine_8 12 rfl) (byt chX11_nightsLine_8 13 rfl) rfl
theorem dX11_nightsLine_142 : decode cX11_nightsLine 142 = .ok (.iconst 2, 1) := oq_5 (byt chX11_nightsLine_8 14 rfl)
theorem dX11_nightsLine_143 : decode cX11_nightsLine 143 = .ok (.if_icmp .ge 35, 3) := oq_162 (byt chX11_nightsLine_8 15 rfl) (byt chX11_nightsLine_9 0 rfl) (byt chX11_nightsLine_9 1 rfl) (by decide +kernel)
theorem dX11_nightsLine_146 : decode cX11_nightsLine 146 = .ok (.aload_n 0, 1) := oq_42 (byt chX11_nightsLine_9 2 rfl)
theorem dX11_nightsLine_147 : decode cX11_nightsLine 147 = .ok (.iconst 1, 1) := oq_4 (byt chX11_nightsLine_9 3 rfl)
theorem dX11_nightsLine_148 : decode cX11_nightsLine 148 = .ok (.iconst 0, 1) := oq_3 (byt chX11_nightsLine_9 4 rfl)
theorem dX11_nightsLine_149 : decode cX11_nightsLine 149 = .ok (.iconst 3, 1) := oq_6 (byt chX11_nightsLine_9 5 rfl)
theorem dX11_nightsLine_150 : decode cX11_nightsLine 150 = .ok (.invokevirtual 157, 3) := oq_182 (byt chX11_nightsLine_9 6 rfl) (byt chX11_nightsLine_9 7 rfl) (byt chX11_nightsLine_9 8 rfl) rfl
theorem dX11_nightsLine_153 : decode cX11_nightsLine 153 = .ok (.ifCond .eq 23, 3) := oq_153 (byt chX11_nightsLine_9 9 rfl) (byt chX11_nightsLine_9 10 rfl) (byt chX11_nightsLine_9 11 rfl) (by decide +kernel)
theorem dX11_nightsLine_156 : decode cX11_nightsLine 156 = .ok (.aload_n 0, 1) := oq_42 (byt chX11_nightsLine_9 12 rfl)
theorem dX11_nightsLine_157 : decode cX11_nightsLine 157 = .ok (.iconst 2, 1) := oq_5 (byt chX11_nightsLine_9 13 rfl)
theorem dX11_nightsLine_158 : decode cX11_nightsLine 158 = .ok (.iconst 0, 1) := oq_3 (byt chX11_nightsLine_9 14 rfl)
theorem dX11_nightsLine_159 : decode cX11_nightsLine 159 = .ok (.iconst 5, 1) := oq_8 (byt chX11_nightsLine_9 15 rfl)
theorem dX11_nightsLine_160 : decode cX11_nightsLine 160 = .ok (.invokevirtual 157, 3) := oq_182 (byt chX11_nightsLine_10 0 rfl) (byt chX11_nightsLine_10 1 rfl) (byt chX11_nightsLine_10 2 rfl) rfl
theorem dX11_nightsLine_163 : decode cX11_nightsLine 163 = .ok (.ifCond .eq 13, 3) := oq_153 (byt chX11_nightsLine_10 3 rfl) (byt chX11_nightsLine_10 4 rfl) (byt chX11_nightsLine_10 5 rfl) (by decide +kernel)
theorem dX11_nightsLine_166 : decode cX11_nightsLine 166 = .ok (.aload_n 0, 1) := oq_42 (byt chX11_nightsLine_10 6 rfl)
theorem dX11_nightsLine_167 : decode cX11_nightsLine 167 = .ok (.iconst 3, 1) := oq_6 (byt chX11_nightsLine_10 7 rfl)
theorem dX11_nightsLine_168 : decode cX11_nightsLine 168 = .ok (.iconst 0, 1) := oq_3 (byt chX11_nightsLine_10 8 rfl)
theorem dX11_nightsLine_169 : decode cX11_nightsLine 169 = .ok (.iconst 4, 1) := oq_7 (byt chX11_nightsLine_10 9 rfl)
theorem dX11_nightsLine_170 : decode cX11_nightsLine 170 = .ok (.invokevirtual 157, 3) := oq_182 (byt chX11_nightsLine_10 10 rfl) (byt chX11_nightsLine_10 11 rfl) (byt chX11_nightsLine_10 12 rfl) rfl
theorem dX11_nightsLine_173 : decode cX11_nightsLine 173 = .ok (.ifCond .ne 5, 3) := oq_154 (byt chX11_nightsLine_10 13 rfl) (byt chX11_nightsLine_10 14 rfl) (byt chX11_nightsLine_10 15 rfl) (by decide +kernel)
theorem dX11_nightsLine_176 : decode cX11_nightsLine 176 = .ok (.iconst 0, 1) := oq_3 (byt chX11_nightsLine_11 0 rfl)
theorem dX11_nightsLine_177 : decode cX11_nightsLine 177 = .ok (.ireturn, 1) := oq_172 (byt chX11_nightsLine_11 1 rfl)
theorem dX11_nightsLine_178 : decode cX11_nightsLine 178 = .ok (.aload_n 0, 1) := oq_42 (byt chX11_nightsLine_11 2 rfl)
theorem dX11_nightsLine_179 : decode cX11_nightsLine 179 = .ok (.getfield 41, 3) := oq_180 (byt chX11_nightsLine_11 3 rfl) (byt chX11_nightsLine_11 4 rfl) (byt chX11_nightsLine_11 5 rfl) rfl
theorem dX11_nightsLine_182 : decode cX11_nightsLine 182 = .ok (.iconst 0, 1) := oq_3 (byt chX11_nightsLine_11 6 rfl)
theorem dX11_nightsLine_183 : decode cX11_nightsLine 183 = .ok (.iload 4, 2) := oq_21 (byt chX11_nightsLine_11 7 rfl) (byt chX11_nightsLine_11 8 rfl) rfl
theorem dX11_nightsLine_185 : decode cX11_nightsLine 185 = .ok (.iastore, 1) := oq_79 (byt chX11_nightsLine_11 9 rfl)
theorem dX11_nightsLine_186 : decode cX11_nightsLine 186 = .ok (.aload_n 0, 1) := oq_42 (byt chX11_nightsLine_11 10 rfl)
theorem dX11_nightsLine_187 : decode cX11_nightsLine 187 = .ok (.iconst 0, 1) := oq_3 (byt chX11_nightsLine_11 11 rfl)
theorem dX11_nightsLine_188 : decode cX11_nightsLine 188 = .ok (.iconst 1, 1) := oq_4 (byt chX11_nightsLine_11 12 rfl)
theorem dX11_nightsLine_189 : decode cX11_nightsLine 189 = .ok (.iconst 4, 1) := oq_7 (byt chX11_nightsLine_11 13 rfl)
theorem dX11_nightsLine_190 : decode cX11_nightsLine 190 = .ok (.bipush 40, 2) := oq_16 (byt chX11_nightsLine_11 14 rfl) (byt chX11_nightsLine_11 15 rfl) rfl
theorem dX11_nightsLine_192 : decode cX11_nightsLine 192 = .ok (.invokevirtual 212, 3) := oq_182 (byt chX11_nightsLine_12 0 rfl) (byt chX11_nightsLine_12 1 rfl) (byt chX11_nightsLine_12 2 rfl) rfl
theorem dX11_nightsLine_195 : decode cX11_nightsLine 195 = .ok (.iconst 1, 1) := oq_4 (byt chX11_nightsLine_12 3 rfl)
theorem dX11_nightsLine_196 : decode cX11_nightsLine 196 = .ok (.ireturn, 1) := oq_172 (byt chX11_nightsLine_12 4 rfl)
abbrev mX11_nightsLine : MI := (yX11_nightsLine, cX11_nightsLine, 5, (some .boolean), noE)
theorem okX11_nightsLine : cok mX11_nightsLine 2 := ⟨tw1473, tw11, by decide, by decide, by decide, by decide +kernel⟩
def fX11_nightsLine (M : Mem) (a0 a1 a2 : Int) : Option (Int × Mem) :=
  jn (fun (t2 : Int) => if t2 = (-1) then (if M.2.1 a0 = 10 then (fX11_fails M a0).bind fun r4 => if r4.1 = 0 ∨ r4.1 = 1 then some (r4.1, r4.2) else none else none) else (if M.2.1 a0 = 10 then (fX11_full M a0 0 40 a2).bind fun r8 => if r8.2.1 a0 = 10 then (fX11_token r8 a0).bind fun r11 => if r11.2.1 a0 = 10 then if r11.2.1 (r11.1 a0 20) = 12 ∧ (0 : Int) ≤ 1 ∧ 1 < r11.2.2.1 (r11.1 a0 20) then bM (mst r11 (r11.1 a0 20) 1 (-1)) fun M16 => if M16.2.1 (M16.1 a0 20) = 12 ∧ (0 : Int) ≤ 2 ∧ 2 < M16.2.2.1 (M16.1 a0 20) then bM (mst M16 (M16.1 a0 20) 2 (-1)) fun M19 => if M19.2.1 (M19.1 a0 20) = 12 ∧ (0 : Int) ≤ 3 ∧ 3 < M19.2.2.1 (M19.1 a0 20) then bM (mst M19 (M19.1 a0 20) 3 (-1)) fun M22 => jn (fun (t25 : Mem) => jn (fun (t27 : Mem) => if t27.2.1 a0 = 10 then if t27.2.1 (t27.1 a0 20) = 12 ∧ (0 : Int) ≤ 0 ∧ 0 < t27.2.2.1 (t27.1 a0 20) then bM (mst t27 (t27.1 a0 20) 0 t2) fun M30 => (fX11_keep M30 a0 0 1 4 40).bind fun r32 => some (1, r32) else none else none) (fun (j26 : Mem → Option (Int × Mem)) => if t2 < 2 then (if t25.2.1 a0 = 10 then (fX11_take t25 a0 1 0 3).bind fun r35 => if r35.1 = 0 then (some (0, r35.2)) else (if r35.2.2.1 a0 = 10 then (fX11_take r35.2 a0 2 0 5).bind fun r39 => if r39.1 = 0 then (some (0, r39.2)) else (if r39.2.2.1 a0 = 10 then (fX11_take r39.2 a0 3 0 4).bind fun r43 => if r43.1 = 0 then (some (0, r43.2)) else (j26 r43.2) else none) else none) else none) else (j26 t25))) (fun (j24 : Mem → Option (Int × Mem)) => if t2 = 2 then ((fX11_take M22 a0 1 0 3).bind fun r48 => if r48.1 = 0 then (some (0, r48.2)) else (if r48.2.2.1 a0 = 10 then if r48.2.2.1 (r48.2.1 a0 20) = 12 ∧ (0 : Int) ≤ 1 ∧ 1 < r48.2.2.2.1 (r48.2.1 a0 20) then (fX11_takeBut r48.2 a0 2 0 3 (r48.2.1 (r48.2.1 a0 20) 1)).bind fun r53 => if r53.1 = 0 then (some (0, r53.2)) else (if r53.2.2.1 a0 = 10 then (fX11_take r53.2 a0 3 1 9).bind fun r56 => if r56.1 = 0 then (some (0, r56.2)) else (j24 r56.2) else none) else none else none)) else (j24 M22)) else none else none else none else none else none else none)) (fun (j1 : Int → Option (Int × Mem)) => if lcmp a1 1952541541 = 0 then (j1 0) else (if lcmp a1 1734964837 = 0 then (j1 1) else (if lcmp a1 7562612 = 0 then (j1 2) else (if lcmp a1 474214787188 = 0 then (j1 3) else (j1 (-1))))))
set_option maxRecDepth 100000 in
set_option maxHeartbeats 4000000 in
theorem kX11_nightsLine (d : Nat) (hd : 4 ≤ d) (M : Mem) (a0 a1 a2 : Int) : Ct mX11_nightsLine d 0 0 [pA a0, pL a1, pI a2] M dIM (fX11_nightsLine M a0 a1 a2) := by
  obtain ⟨d, rfl⟩ : ∃ k, d = k + 1 := ⟨d - 1, by omega⟩
  refine Ct.of 1 (fun _ _ _ => trivial) (by decide +kernel) rfl ?_
  unfold fX11_nightsLine
  refine v_lload_n dX11_nightsLine_0 rfl ?_
  refine v_ldc2 (n := 1952541541) dX11_nightsLine_1 (by decide) tw1474 ?_
  refine v_lcmp dX11_nightsLine_4 ?_
  refine v_join (fun (t2 : Int) => [some (pA a0), none, none, some (pI a2), none]) (fun (t2 : Int) => [pI t2]) (fun (t2 : Int) => M) 49 (fun t2 => ?_) (fun j1 hj1 => ?_)
  · refine v_istore (ls' := [some (pA a0), none, none, some (pI a2), some (pI t2)]) dX11_nightsLine_49 (by decide) rfl ?_
    refine v_iload dX11_nightsLine_51 rfl ?_
    refine v_iconst dX11_nightsLine_53 (by decide) ?_
    refine v_icmp_ne (tgt := 62) dX11_nightsLine_54 (by decide) (fun c3 => ?_) (fun c3 => ?_)
    · refine v_aload_n dX11_nightsLine_57 rfl ?_
      refine v_if (fun h6 => ?_)
      refine v_cV (mi := mX11_nightsLine) (c0 := 0) (c1 := 0) (As := []) (st := []) (kX11_fails d (by omega) _ _) rfl h6 rfl okX11_fails (Or.inl tw1412) tw1414 tp37 rfl (Nat.le_of_ble_eq_true rfl) dX11_nightsLine_58 (fun r4 => [pI r4.1]) (fun r4 => r4.2) (fun _ => rfl) (fun _ => rfl) (fun r4 h5 => ?_) rfl
      refine v_if (fun h7 => ?_)
      exact v_breturn dX11_nightsLine_61 rfl h7 rfl
    · refine v_aload_n dX11_nightsLine_62 rfl ?_
      refine v_iconst dX11_nightsLine_63 (by decide) ?_
      refine v_bipush dX11_nightsLine_64 (by decide) ?_
      refine v_iload_n dX11_nightsLine_66 rfl ?_
      refine v_if (fun h10 => ?_)
      refine v_cV (mi := mX11_nightsLine) (c0 := 0) (c1 := 0) (As := [pI 0, pI 40, pI a2]) (st := []) (kX11_full d (by omega) _ _ _ _ _) rfl h10 rfl okX11_full (Or.inl tw1416) tw1418 tp38 rfl (Nat.le_of_ble_eq_true rfl) dX11_nightsLine_67 (fun r8 => []) (fun r8 => r8) (fun _ => rfl) (fun _ => rfl) (fun r8 h9 => ?_) rfl
      refine v_aload_n dX11_nightsLine_70 rfl ?_
      refine v_if (fun h13 => ?_)
      refine v_cV (mi := mX11_nightsLine) (c0 := 0) (c1 := 0) (As := []) (st := []) (kX11_token d (by omega) _ _) rfl h13 rfl okX11_token (Or.inl tw1383) tw1385 tp32 rfl (Nat.le_of_ble_eq_true rfl) dX11_nightsLine_71 (fun r11 => []) (fun r11 => r11) (fun _ => rfl) (fun _ => rfl) (fun r11 h12 => ?_) rfl
      refine v_aload_n dX11_nightsLine_74 rfl ?_
      refine v_if (fun h14 => ?_)
      refine v_get (v := pA (r11.1 a0 20)) 10 20 rfl inX11 (by decide) tw1213 dX11_nightsLine_75 h14 rfl ?_
      refine v_iconst dX11_nightsLine_78 (by decide) ?_
      refine v_iconst dX11_nightsLine_79 (by decide) ?_
      refine v_if (fun h15 => ?_)
      refine v_iastore h15 dX11_nightsLine_80 ?_
      refine v_bM (fun M16 e17 => ?_)
      refine v_aload_n dX11_nightsLine_81 rfl ?_
      refine v_get (v := pA (M16.1 a0 20)) 10 20 rfl inX11 (by decide) tw1213 dX11_nightsLine_82 (by rw [e17]; exact h14) rfl ?_
      refine v_iconst dX11_nightsLine_85 (by decide) ?_
      refine v_iconst dX11_nightsLine_86 (by decide) ?_
      refine v_if (fun h18 => ?_)
      refine v_iastore h18 dX11_nightsLine_87 ?_
      refine v_bM (fun M19 e20 => ?_)
      refine v_aload_n dX11_nightsLine_88 rfl ?_
      refine v_get (v := pA (M19.1 a0 20)) 10 20 rfl inX11 (by decide) tw1213 dX11_nightsLine_89 (by rw [e20, e17]; exact h14) rfl ?_
      refine v_iconst dX11_nightsLine_92 (by decide) ?_
      refine v_iconst dX11_nightsLine_93 (by decide) ?_
      refine v_if (fun h21 => ?_)
      refine v_iastore h21 dX11_nightsLine_94 ?_
      refine v_bM (fun M22 e23 => ?_)
      refine v_iload dX11_nightsLine_95 rfl ?_
      refine v_iconst dX11_nightsLine_97 (by decide) ?_
      refine v_join (fun (t25 : Mem) => [some (pA a0), none, none, none, some (pI t2)]) (fun (t25 : Mem) => []) (fun (t25 : Mem) => t25) 140 (fun t25 => ?_) (fun j24 hj24 => ?_)
      · refine v_iload dX11_nightsLine_140 rfl ?_
        refine v_iconst dX11_nightsLine_142 (by decide) ?_
        refine v_join (fun (t27 : Mem) => [some (pA a0), none, none, none, some (pI t2)]) (fun (t27 : Mem) => []) (fun (t27 : Mem) => t27) 178 (fun t27 => ?_) (fun j26 hj26 => ?_)
        · refine v_aload_n dX11_nightsLine_178 rfl ?_
          refine v_if (fun h28 => ?_)
          refine v_get (v := pA (t27.1 a0 20)) 10 20 rfl inX11 (by decide) tw1213 dX11_nightsLine_179 h28 rfl ?_
          refine v_iconst dX11_nightsLine_182 (by decide) ?_
          refine v_iload dX11_nightsLine_183 rfl ?_
          refine v_if (fun h29 => ?_)
          refine v_iastore h29 dX11_nightsLine_185 ?_
          refine v_bM (fun M30 e31 => ?_)
          refine v_aload_n dX11_nightsLine_186 rfl ?_
          refine v_iconst dX11_nightsLine_187 (by decide) ?_
          refine v_iconst dX11_nightsLine_188 (by decide) ?_
          refine v_iconst dX11_nightsLine_189 (by decide) ?_
          refine v_bipush dX11_nightsLine_190 (by decide) ?_
          refine v_cV (mi := mX11_nightsLine) (c0 := 0) (c1 := 0) (As := [pI 0, pI 1, pI 4, pI 40]) (st := []) (kX11_keep d (by omega) _ _ _ _ _ _) rfl (by rw [e31]; exact h28) rfl okX11_keep (Or.inl tw1459) tw1461 tp48 rfl (Nat.le_of_ble_eq_true rfl) dX11_nightsLine_192 (fun r32 => []) (fun r32 => r32) (fun _ => rfl) (fun _ => rfl) (fun r32 h33 => ?_) rfl
          refine v_iconst dX11_nightsLine_195 (by decide) ?_
          exact v_breturn dX11_nightsLine_196 rfl (by decide) rfl
        · refine v_icmp_ge (tgt := 178) dX11_nightsLine_143 (by decide) (fun c34 => ?_) (fun c34 => ?_)
          · refine v_aload_n dX11_nightsLine_146 rfl ?_
            refine v_iconst dX11_nightsLine_147 (by decide) ?_
            refine v_iconst dX11_nightsLine_148 (by decide) ?_
            refine v_iconst dX11_nightsLine_149 (by decide) ?_
            refine v_if (fun h37 => ?_)
            refine v_cV (mi := mX11_nightsLine) (c0 := 0) (c1 := 0) (As := [pI 1, pI 0, pI 3]) (st := []) (kX11_take d (by omega) _ _ _ _ _) rfl h37 rfl okX11_take (Or.inl tw1432) tw1434 tp42 rfl (Nat.le_of_ble_eq_true rfl) dX11_nightsLine_150 (fun r35 => [pI r35.1]) (fun r35 => r35.2) (fun _ => rfl) (fun _ => rfl) (fun r35 h36 => ?_) rfl
            refine v_if_eq (tgt := 176) dX11_nightsLine_153 (by decide) (fun c38 => ?_) (fun c38 => ?_)
            · refine v_iconst dX11_nightsLine_176 (by decide) ?_
              exact v_breturn dX11_nightsLine_177 rfl (by decide) rfl
            · refine v_aload_n dX11_nightsLine_156 rfl ?_
              refine v_iconst dX11_nightsLine_157 (by decide) ?_
              refine v_iconst dX11_nightsLine_158 (by decide) ?_
              refine v_iconst dX11_nightsLine_159 (by decide) ?_
              refine v_if (fun h41 => ?_)
              refine v_cV (mi := mX11_nightsLine) (c0 := 0) (c1 := 0) (As := [pI 2, pI 0, pI 5]) (st := []) (kX11_take d (by omega) _ _ _ _ _) rfl h41 rfl okX11_take (Or.inl tw1432) tw1434 tp42 rfl (Nat.le_of_ble_eq_true rfl) dX11_nightsLine_160 (fun r39 => [pI r39.1]) (fun r39 => r39.2) (fun _ => rfl) (fun _ => rfl) (fun r39 h40 => ?_) rfl
              refine v_if_eq (tgt := 176) dX11_nightsLine_163 (by decide) (fun c42 => ?_) (fun c42 => ?_)
              · refine v_iconst dX11_nightsLine_176 (by decide) ?_
                exact v_breturn dX11_nightsLine_177 rfl (by decide) rfl
              · refine v_aload_n dX11_nightsLine_166 rfl ?_
                refine v_iconst dX11_nightsLine_167 (by decide) ?_
                refine v_iconst dX11_nightsLine_168 (by decide) ?_
                refine v_iconst dX11_nightsLine_169 (by decide) ?_
                refine v_if (fun h45 => ?_)
                refine v_cV (mi := mX11_nightsLine) (c0 := 0) (c1 := 0) (As := [pI 3, pI 0, pI 4]) (st := []) (kX11_take d (by omega) _ _ _ _ _) rfl h45 rfl okX11_take (Or.inl tw1432) tw1434 tp42 rfl (Nat.le_of_ble_eq_true rfl) dX11_nightsLine_170 (fun r43 => [pI r43.1]) (fun r43 => r43.2) (fun _ => rfl) (fun _ => rfl) (fun r43 h44 => ?_) rfl
                refine v_if_ne (tgt := 178) dX11_nightsLine_173 (by decide) (fun c46 => ?_) (fun c46 => ?_)
                · refine v_iconst dX11_nightsLine_176 (by decide) ?_
                  exact v_breturn dX11_nightsLine_177 rfl (by decide) rfl
                · exact hj26 r43.2
          · exact hj26 t25
      · refine v_icmp_ne (tgt := 140) dX11_nightsLine_98 (by decide) (fun c47 => ?_) (fun c47 => ?_)
        · refine v_aload_n dX11_nightsLine_101 rfl ?_
          refine v_iconst dX11_nightsLine_102 (by decide) ?_
          refine v_iconst dX11_nightsLine_103 (by decide) ?_
          refine v_iconst dX11_nightsLine_104 (by decide) ?_
          refine v_cV (mi := mX11_nightsLine) (c0 := 0) (c1 := 0) (As := [pI 1, pI 0, pI 3]) (st := []) (kX11_take d (by omega) _ _ _ _ _) rfl (by rw [e23, e20, e17]; exact h14) rfl okX11_take (Or.inl tw1432) tw1434 tp42 rfl (Nat.le_of_ble_eq_true rfl) dX11_nightsLine_105 (fun r48 => [pI r48.1]) (fun r48 => r48.2) (fun _ => rfl) (fun _ => rfl) (fun r48 h49 => ?_) rfl
          refine v_if_eq (tgt := 138) dX11_nightsLine_108 (by decide) (fun c50 => ?_) (fun c50 => ?_)
          · refine v_iconst dX11_nightsLine_138 (by decide) ?_
            exact v_breturn dX11_nightsLine_139 rfl (by decide) rfl
          · refine v_aload_n dX11_nightsLine_111 rfl ?_
            refine v_iconst dX11_nightsLine_112 (by decide) ?_
            refine v_iconst dX11_nightsLine_113 (by decide) ?_
            refine v_iconst dX11_nightsLine_114 (by decide) ?_
            refine v_aload_n dX11_nightsLine_115 rfl ?_
            refine v_if (fun h51 => ?_)
            refine v_get (v := pA (r48.2.1 a0 20)) 10 20 rfl inX11 (by decide) tw1213 dX11_nightsLine_116 h51 rfl ?_
            refine v_iconst dX11_nightsLine_119 (by decide) ?_
            refine v_if (fun h52 => ?_)
            refine v_iaload h52 dX11_nightsLine_120 ?_
            refine v_cV (mi := mX11_nightsLine) (c0 := 0) (c1 := 0) (As := [pI 2, pI 0, pI 3, pI (r48.2.1 (r48.2.1 a0 20) 1)]) (st := []) (kX11_takeBut d (by omega) _ _ _ _ _ _) rfl h51 rfl okX11_takeBut (Or.inl tw1436) tw1438 tp43 rfl (Nat.le_of_ble_eq_true rfl) dX11_nightsLine_121 (fun r53 => [pI r53.1]) (fun r53 => r53.2) (fun _ => rfl) (fun _ => rfl) (fun r53 h54 => ?_) rfl
            refine v_if_eq (tgt := 138) dX11_nightsLine_124 (by decide) (fun c55 => ?_) (fun c55 => ?_)
            · refine v_iconst dX11_nightsLine_138 (by decide) ?_
              exact v_breturn dX11_nightsLine_139 rfl (by decide) rfl
            · refine v_aload_n dX11_nightsLine_127 rfl ?_
              refine v_iconst dX11_nightsLine_128 (by decide) ?_
              refine v_iconst dX11_nightsLine_129 (by decide) ?_
              refine v_bipush dX11_nightsLine_130 (by decide) ?_
              refine v_if (fun h58 => ?_)
              refine v_cV (mi := mX11_nightsLine) (c0 := 0) (c1 := 0) (As := [pI 3, pI 1, pI 9]) (st := []) (kX11_take d (by omega) _ _ _ _ _) rfl h58 rfl okX11_take (Or.inl tw1432) tw1434 tp42 rfl (Nat.le_of_ble_eq_true rfl) dX11_nightsLine_132 (fun r56 => [pI r56.1]) (fun r56 => r56.2) (fun _ => rfl) (fun _ => rfl) (fun r56 h57 => ?_) rfl
              refine v_if_ne (tgt := 140) dX11_nightsLine_135 (by decide) (fun c59 => ?_) (fun c59 => ?_)
              · refine v_iconst dX11_nightsLine_138 (by decide) ?_
                exact v_breturn dX11_nightsLine_139 rfl (by decide) rfl
              · exact v_drop [some (pA a0), none, none, none, some (pI t2)] (ls_s (ls_n (ls_n (ls_n (ls_s ls_e))))) (hj24 r56.2)
        · exact v_drop [some (pA a0), none, none, none, some (pI t2)] (ls_s (ls_n (ls_n (ls_n (ls_s ls_e))))) (hj24 M22)
  · refine v_if_ne (tgt := 12) dX11_nightsLine_5 (by decide) (fun c60 => ?_) (fun c60 => ?_)
    · refine v_iconst dX11_nightsLine_8 (by decide) ?_
      refine v_goto (tgt := 49) dX11_nightsLine_9 (by decide) ?_
      exact v_drop [some (pA a0), none, none, some (pI a2), none] (ls_s (ls_n (ls_n (ls_s (ls_n ls_e))))) (hj1 0)
    · refine v_lload_n dX11_nightsLine_12 rfl ?_
      refine v_ldc2 (n := 1734964837) dX11_nightsLine_13 (by decide) tw1475 ?_
      refine v_lcmp dX11_nightsLine_16 ?_
      refine v_if_ne (tgt := 24) dX11_nightsLine_17 (by decide) (fun c61 => ?_) (fun c61 => ?_)
      · refine v_iconst dX11_nightsLine_20 (by decide) ?_
        refine v_goto (tgt := 49) dX11_nightsLine_21 (by decide) ?_
        exact v_drop [some (pA a0), none, none, some (pI a2), none] (ls_s (ls_n (ls_n (ls_s (ls_n ls_e))))) (hj1 1)
      · refine v_lload_n dX11_nightsLine_24 rfl ?_
        refine v_ldc2 (n := 7562612) dX11_nightsLine_25 (by decide) tw1476 ?_
        refine v_lcmp dX11_nightsLine_28 ?_
        refine v_if_ne (tgt := 36) dX11_nightsLine_29 (by decide) (fun c62 => ?_) (fun c62 => ?_)
        · refine v_iconst dX11_nightsLine_32 (by decide) ?_
          refine v_goto (tgt := 49) dX11_nightsLine_33 (by decide) ?_
          exact v_drop [some (pA a0), none, none, some (pI a2), none] (ls_s (ls_n (ls_n (ls_s (ls_n ls_e))))) (hj1 2)
        · refine v_lload_n dX11_nightsLine_36 rfl ?_
          refine v_ldc2 (n := 474214787188) dX11_nightsLine_37 (by decide) tw1477 ?_
          refine v_lcmp dX11_nightsLine_40 ?_
          refine v_if_ne (tgt := 48) dX11_nightsLine_41 (by decide) (fun c63 => ?_) (fun c63 => ?_)
          · refine v_iconst dX11_nightsLine_44 (by decide) ?_
            refine v_goto (tgt := 49) dX11_nightsLine_45 (by decide) ?_
            exact v_drop [some (pA a0), none, none, some (pI a2), none] (ls_s (ls_n (ls_n (ls_s (ls_n ls_e))))) (hj1 3)
          · refine v_iconst dX11_nightsLine_48 (by decide) ?_
            exact v_drop [some (pA a0), none, none, some (pI a2), none] (ls_s (ls_n (ls_n (ls_s (ls_n ls_e))))) (hj1 (-1))

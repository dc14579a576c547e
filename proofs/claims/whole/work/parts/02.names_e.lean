theorem dX3_words_49 : decode cX3_words 49 = .ok (.iload 5, 2) := by decide +kernel
theorem dX3_words_51 : decode cX3_words 51 = .ok (.ifCond .eq 27, 3) := by decide +kernel
theorem dX3_words_54 : decode cX3_words 54 = .ok (.iload 7, 2) := by decide +kernel
theorem dX3_words_56 : decode cX3_words 56 = .ok (.bipush 102, 2) := by decide +kernel
theorem dX3_words_58 : decode cX3_words 58 = .ok (.if_icmp .gt 20, 3) := by decide +kernel
theorem dX3_words_61 : decode cX3_words 61 = .ok (.iload 4, 2) := by decide +kernel
theorem dX3_words_63 : decode cX3_words 63 = .ok (.iload 7, 2) := by decide +kernel
theorem dX3_words_65 : decode cX3_words 65 = .ok (.bipush 97, 2) := by decide +kernel
theorem dX3_words_67 : decode cX3_words 67 = .ok (.isub, 1) := by decide +kernel
theorem dX3_words_68 : decode cX3_words 68 = .ok (.ishr, 1) := by decide +kernel
theorem dX3_words_69 : decode cX3_words 69 = .ok (.iconst 1, 1) := by decide +kernel
theorem dX3_words_70 : decode cX3_words 70 = .ok (.iand, 1) := by decide +kernel
theorem dX3_words_71 : decode cX3_words 71 = .ok (.ifCond .ne 7, 3) := by decide +kernel
theorem dX3_words_74 : decode cX3_words 74 = .ok (.iconst 1, 1) := by decide +kernel
theorem dX3_words_75 : decode cX3_words 75 = .ok (.goto 4, 3) := by decide +kernel
theorem dX3_words_78 : decode cX3_words 78 = .ok (.iconst 0, 1) := by decide +kernel
theorem dX3_words_79 : decode cX3_words 79 = .ok (.istore 5, 2) := by decide +kernel
theorem dX3_words_81 : decode cX3_words 81 = .ok (.iload 4, 2) := by decide +kernel
theorem dX3_words_83 : decode cX3_words 83 = .ok (.iload 5, 2) := by decide +kernel
theorem dX3_words_85 : decode cX3_words 85 = .ok (.ifCond .eq 13, 3) := by decide +kernel
theorem dX3_words_88 : decode cX3_words 88 = .ok (.iconst 1, 1) := by decide +kernel
theorem dX3_words_89 : decode cX3_words 89 = .ok (.iload 7, 2) := by decide +kernel
theorem dX3_words_91 : decode cX3_words 91 = .ok (.bipush 97, 2) := by decide +kernel
theorem dX3_words_93 : decode cX3_words 93 = .ok (.isub, 1) := by decide +kernel
theorem dX3_words_94 : decode cX3_words 94 = .ok (.ishl, 1) := by decide +kernel
theorem dX3_words_95 : decode cX3_words 95 = .ok (.goto 4, 3) := by decide +kernel
theorem dX3_words_98 : decode cX3_words 98 = .ok (.iconst 0, 1) := by decide +kernel
theorem dX3_words_99 : decode cX3_words 99 = .ok (.ior, 1) := by decide +kernel
theorem dX3_words_100 : decode cX3_words 100 = .ok (.istore 4, 2) := by decide +kernel
theorem dX3_words_102 : decode cX3_words 102 = .ok (.iinc 6 1, 3) := by decide +kernel
theorem dX3_words_105 : decode cX3_words 105 = .ok (.goto (-94), 3) := by decide +kernel
theorem dX3_words_108 : decode cX3_words 108 = .ok (.iload 5, 2) := by decide +kernel
theorem dX3_words_110 : decode cX3_words 110 = .ok (.ifCond .eq 15, 3) := by decide +kernel
theorem dX3_words_113 : decode cX3_words 113 = .ok (.aload_n 0, 1) := by decide +kernel
theorem dX3_words_114 : decode cX3_words 114 = .ok (.iconst 1, 1) := by decide +kernel
theorem dX3_words_115 : decode cX3_words 115 = .ok (.putfield 88, 3) := by decide +kernel
theorem dX3_words_118 : decode cX3_words 118 = .ok (.aload_n 0, 1) := by decide +kernel
theorem dX3_words_119 : decode cX3_words 119 = .ok (.iload 4, 2) := by decide +kernel
theorem dX3_words_121 : decode cX3_words 121 = .ok (.putfield 91, 3) := by decide +kernel
theorem dX3_words_124 : decode cX3_words 124 = .ok (.return_, 1) := by decide +kernel
theorem dX3_words_125 : decode cX3_words 125 = .ok (.aload_n 0, 1) := by decide +kernel
theorem dX3_words_126 : decode cX3_words 126 = .ok (.lload_n 2, 1) := by decide +kernel
theorem dX3_words_127 : decode cX3_words 127 = .ok (.bipush 97, 2) := by decide +kernel
theorem dX3_words_129 : decode cX3_words 129 = .ok (.bipush 100, 2) := by decide +kernel
theorem dX3_words_131 : decode cX3_words 131 = .ok (.bipush 100, 2) := by decide +kernel
theorem dX3_words_133 : decode cX3_words 133 = .ok (.iconst 0, 1) := by decide +kernel
theorem dX3_words_134 : decode cX3_words 134 = .ok (.iconst 0, 1) := by decide +kernel
theorem dX3_words_135 : decode cX3_words 135 = .ok (.invokestatic 94, 3) := by decide +kernel
theorem dX3_words_138 : decode cX3_words 138 = .ok (.lcmp, 1) := by decide +kernel
theorem dX3_words_139 : decode cX3_words 139 = .ok (.ifCond .ne 7, 3) := by decide +kernel
theorem dX3_words_142 : decode cX3_words 142 = .ok (.iconst 0, 1) := by decide +kernel
theorem dX3_words_143 : decode cX3_words 143 = .ok (.goto 68, 3) := by decide +kernel
theorem dX3_words_146 : decode cX3_words 146 = .ok (.lload_n 2, 1) := by decide +kernel
theorem dX3_words_147 : decode cX3_words 147 = .ok (.bipush 98, 2) := by decide +kernel
theorem dX3_words_149 : decode cX3_words 149 = .ok (.bipush 121, 2) := by decide +kernel
theorem dX3_words_151 : decode cX3_words 151 = .ok (.iconst 0, 1) := by decide +kernel
theorem dX3_words_152 : decode cX3_words 152 = .ok (.iconst 0, 1) := by decide +kernel
theorem dX3_words_153 : decode cX3_words 153 = .ok (.iconst 0, 1) := by decide +kernel
theorem dX3_words_154 : decode cX3_words 154 = .ok (.invokestatic 94, 3) := by decide +kernel
theorem dX3_words_157 : decode cX3_words 157 = .ok (.lcmp, 1) := by decide +kernel
theorem dX3_words_158 : decode cX3_words 158 = .ok (.ifCond .ne 7, 3) := by decide +kernel
theorem dX3_words_161 : decode cX3_words 161 = .ok (.iconst 1, 1) := by decide +kernel
theorem dX3_words_162 : decode cX3_words 162 = .ok (.goto 49, 3) := by decide +kernel
theorem dX3_words_165 : decode cX3_words 165 = .ok (.lload_n 2, 1) := by decide +kernel
theorem dX3_words_166 : decode cX3_words 166 = .ok (.bipush 116, 2) := by decide +kernel
theorem dX3_words_168 : decode cX3_words 168 = .ok (.bipush 105, 2) := by decide +kernel
theorem dX3_words_170 : decode cX3_words 170 = .ok (.bipush 109, 2) := by decide +kernel
theorem dX3_words_172 : decode cX3_words 172 = .ok (.bipush 101, 2) := by decide +kernel
theorem dX3_words_174 : decode cX3_words 174 = .ok (.bipush 115, 2) := by decide +kernel
theorem dX3_words_176 : decode cX3_words 176 = .ok (.invokestatic 94, 3) := by decide +kernel
theorem dX3_words_179 : decode cX3_words 179 = .ok (.lcmp, 1) := by decide +kernel
theorem dX3_words_180 : decode cX3_words 180 = .ok (.ifCond .ne 7, 3) := by decide +kernel
theorem dX3_words_183 : decode cX3_words 183 = .ok (.iconst 2, 1) := by decide +kernel
theorem dX3_words_184 : decode cX3_words 184 = .ok (.goto 27, 3) := by decide +kernel
theorem dX3_words_187 : decode cX3_words 187 = .ok (.lload_n 2, 1) := by decide +kernel
theorem dX3_words_188 : decode cX3_words 188 = .ok (.bipush 99, 2) := by decide +kernel
theorem dX3_words_190 : decode cX3_words 190 = .ok (.bipush 108, 2) := by decide +kernel
theorem dX3_words_192 : decode cX3_words 192 = .ok (.bipush 97, 2) := by decide +kernel
theorem dX3_words_194 : decode cX3_words 194 = .ok (.bipush 105, 2) := by decide +kernel
theorem dX3_words_196 : decode cX3_words 196 = .ok (.bipush 109, 2) := by decide +kernel
theorem dX3_words_198 : decode cX3_words 198 = .ok (.invokestatic 94, 3) := by decide +kernel
theorem dX3_words_201 : decode cX3_words 201 = .ok (.lcmp, 1) := by decide +kernel
theorem dX3_words_202 : decode cX3_words 202 = .ok (.ifCond .ne 7, 3) := by decide +kernel
theorem dX3_words_205 : decode cX3_words 205 = .ok (.iconst 3, 1) := by decide +kernel
theorem dX3_words_206 : decode cX3_words 206 = .ok (.goto 5, 3) := by decide +kernel
theorem dX3_words_209 : decode cX3_words 209 = .ok (.bipush (-9), 2) := by decide +kernel
theorem dX3_words_211 : decode cX3_words 211 = .ok (.putfield 91, 3) := by decide +kernel
theorem dX3_words_214 : decode cX3_words 214 = .ok (.aload_n 0, 1) := by decide +kernel
theorem dX3_words_215 : decode cX3_words 215 = .ok (.aload_n 0, 1) := by decide +kernel
theorem dX3_words_216 : decode cX3_words 216 = .ok (.getfield 91, 3) := by decide +kernel
theorem dX3_words_219 : decode cX3_words 219 = .ok (.bipush (-9), 2) := by decide +kernel
theorem dX3_words_221 : decode cX3_words 221 = .ok (.if_icmp .ne 8, 3) := by decide +kernel
theorem dX3_words_224 : decode cX3_words 224 = .ok (.bipush 6, 2) := by decide +kernel
theorem dX3_words_226 : decode cX3_words 226 = .ok (.goto 4, 3) := by decide +kernel
theorem dX3_words_229 : decode cX3_words 229 = .ok (.iconst 2, 1) := by decide +kernel
theorem dX3_words_230 : decode cX3_words 230 = .ok (.putfield 88, 3) := by decide +kernel
theorem dX3_words_233 : decode cX3_words 233 = .ok (.return_, 1) := by decide +kernel
set_option maxRecDepth 20000 in
theorem ggX3_advances_X3_byteAt : GoodIn wsX3_advances wsX3_byteAt := goodIn_r _ [9, 10, 11, 26, 27, 28, 29, 30, 31, 32, 33, 34, 35, 36, 37, 38, 39, 40, 41, 42, 43, 44, 45, 46, 47, 48, 49, 50, 51, 52] (by decide +kernel) (by decide +kernel)
set_option maxRecDepth 20000 in
theorem gX3_advances_X3_byteAt : GoodIn wsX3_advances (wsV RX3 101 RX3 yX3_byteAt wsX3_byteAt) := goodIn_app (goodIn_of _ (by decide +kernel)) ggX3_advances_X3_byteAt
set_option maxRecDepth 20000 in
theorem ggX3_advances_X3_in : GoodIn wsX3_advances wsX3_in := goodIn_r _ [14] (by decide +kernel) (by decide +kernel)
set_option maxRecDepth 20000 in
theorem gX3_advances_X3_in : GoodIn wsX3_advances (va_wsS RX3 71 yX3_in wsX3_in) := goodIn_app (goodIn_of _ (by decide +kernel)) ggX3_advances_X3_in
set_option maxRecDepth 20000 in
theorem ggX3_advances_X3_words : GoodIn wsX3_advances wsX3_words := goodIn_r _ [18, 11, 2, 3, 4, 19, 20, 8, 21, 22, 23, 24, 25, 26, 27, 28, 29, 30, 31, 32, 33, 34, 35, 36, 37, 38, 39, 40, 41, 42, 43, 44, 45, 46, 47, 48, 49, 50, 51, 52] (by decide +kernel) (by decide +kernel)
set_option maxRecDepth 20000 in
theorem gX3_advances_X3_words : GoodIn wsX3_advances (wsV RX3 104 RX3 yX3_words wsX3_words) := goodIn_app (goodIn_of _ (by decide +kernel)) ggX3_advances_X3_words
theorem dX3_advances_0 : decode cX3_advances 0 = .ok (.aload_n 0, 1) := by decide +kernel
theorem dX3_advances_1 : decode cX3_advances 1 = .ok (.aload_n 0, 1) := by decide +kernel
theorem dX3_advances_2 : decode cX3_advances 2 = .ok (.getfield 98, 3) := by decide +kernel
theorem dX3_advances_5 : decode cX3_advances 5 = .ok (.invokevirtual 101, 3) := by decide +kernel
theorem dX3_advances_8 : decode cX3_advances 8 = .ok (.bipush 32, 2) := by decide +kernel
theorem dX3_advances_10 : decode cX3_advances 10 = .ok (.if_icmp .ne 16, 3) := by decide +kernel
theorem dX3_advances_13 : decode cX3_advances 13 = .ok (.aload_n 0, 1) := by decide +kernel
theorem dX3_advances_14 : decode cX3_advances 14 = .ok (.dup, 1) := by decide +kernel
theorem dX3_advances_15 : decode cX3_advances 15 = .ok (.getfield 98, 3) := by decide +kernel
theorem dX3_advances_18 : decode cX3_advances 18 = .ok (.iconst 1, 1) := by decide +kernel
theorem dX3_advances_19 : decode cX3_advances 19 = .ok (.iadd, 1) := by decide +kernel
theorem dX3_advances_20 : decode cX3_advances 20 = .ok (.putfield 98, 3) := by decide +kernel
theorem dX3_advances_23 : decode cX3_advances 23 = .ok (.goto (-23), 3) := by decide +kernel
theorem dX3_advances_26 : decode cX3_advances 26 = .ok (.aload_n 0, 1) := by decide +kernel
theorem dX3_advances_27 : decode cX3_advances 27 = .ok (.aload_n 0, 1) := by decide +kernel
theorem dX3_advances_28 : decode cX3_advances 28 = .ok (.getfield 98, 3) := by decide +kernel
theorem dX3_advances_31 : decode cX3_advances 31 = .ok (.putfield 85, 3) := by decide +kernel
theorem dX3_advances_34 : decode cX3_advances 34 = .ok (.aload_n 0, 1) := by decide +kernel
theorem dX3_advances_35 : decode cX3_advances 35 = .ok (.aload_n 0, 1) := by decide +kernel
theorem dX3_advances_36 : decode cX3_advances 36 = .ok (.getfield 98, 3) := by decide +kernel
theorem dX3_advances_39 : decode cX3_advances 39 = .ok (.invokevirtual 101, 3) := by decide +kernel
theorem dX3_advances_42 : decode cX3_advances 42 = .ok (.istore_n 1, 1) := by decide +kernel
theorem dX3_advances_43 : decode cX3_advances 43 = .ok (.iload_n 1, 1) := by decide +kernel
theorem dX3_advances_44 : decode cX3_advances 44 = .ok (.ifCond .ge 11, 3) := by decide +kernel
theorem dX3_advances_47 : decode cX3_advances 47 = .ok (.aload_n 0, 1) := by decide +kernel
theorem dX3_advances_48 : decode cX3_advances 48 = .ok (.iconst 0, 1) := by decide +kernel
theorem dX3_advances_49 : decode cX3_advances 49 = .ok (.putfield 88, 3) := by decide +kernel
theorem dX3_advances_52 : decode cX3_advances 52 = .ok (.goto 224, 3) := by decide +kernel
theorem dX3_advances_55 : decode cX3_advances 55 = .ok (.iload_n 1, 1) := by decide +kernel
theorem dX3_advances_56 : decode cX3_advances 56 = .ok (.bipush 97, 2) := by decide +kernel
theorem dX3_advances_58 : decode cX3_advances 58 = .ok (.bipush 122, 2) := by decide +kernel
theorem dX3_advances_60 : decode cX3_advances 60 = .ok (.invokestatic 71, 3) := by decide +kernel
theorem dX3_advances_63 : decode cX3_advances 63 = .ok (.ifCond .eq 50, 3) := by decide +kernel
theorem dX3_advances_66 : decode cX3_advances 66 = .ok (.aload_n 0, 1) := by decide +kernel
theorem dX3_advances_67 : decode cX3_advances 67 = .ok (.aload_n 0, 1) := by decide +kernel
theorem dX3_advances_68 : decode cX3_advances 68 = .ok (.getfield 98, 3) := by decide +kernel
theorem dX3_advances_71 : decode cX3_advances 71 = .ok (.invokevirtual 101, 3) := by decide +kernel
theorem dX3_advances_74 : decode cX3_advances 74 = .ok (.bipush 97, 2) := by decide +kernel
theorem dX3_advances_76 : decode cX3_advances 76 = .ok (.bipush 122, 2) := by decide +kernel
theorem dX3_advances_78 : decode cX3_advances 78 = .ok (.invokestatic 71, 3) := by decide +kernel
theorem dX3_advances_81 : decode cX3_advances 81 = .ok (.ifCond .eq 16, 3) := by decide +kernel
theorem dX3_advances_84 : decode cX3_advances 84 = .ok (.aload_n 0, 1) := by decide +kernel
theorem dX3_advances_85 : decode cX3_advances 85 = .ok (.dup, 1) := by decide +kernel
theorem dX3_advances_86 : decode cX3_advances 86 = .ok (.getfield 98, 3) := by decide +kernel
theorem dX3_advances_89 : decode cX3_advances 89 = .ok (.iconst 1, 1) := by decide +kernel
theorem dX3_advances_90 : decode cX3_advances 90 = .ok (.iadd, 1) := by decide +kernel
theorem dX3_advances_91 : decode cX3_advances 91 = .ok (.putfield 98, 3) := by decide +kernel
theorem dX3_advances_94 : decode cX3_advances 94 = .ok (.goto (-28), 3) := by decide +kernel
theorem dX3_advances_97 : decode cX3_advances 97 = .ok (.aload_n 0, 1) := by decide +kernel
theorem dX3_advances_98 : decode cX3_advances 98 = .ok (.aload_n 0, 1) := by decide +kernel
theorem dX3_advances_99 : decode cX3_advances 99 = .ok (.getfield 98, 3) := by decide +kernel
theorem dX3_advances_102 : decode cX3_advances 102 = .ok (.aload_n 0, 1) := by decide +kernel
theorem dX3_advances_103 : decode cX3_advances 103 = .ok (.getfield 85, 3) := by decide +kernel
theorem dX3_advances_106 : decode cX3_advances 106 = .ok (.isub, 1) := by decide +kernel
theorem dX3_advances_107 : decode cX3_advances 107 = .ok (.invokevirtual 104, 3) := by decide +kernel
theorem dX3_advances_110 : decode cX3_advances 110 = .ok (.goto 166, 3) := by decide +kernel
theorem dX3_advances_113 : decode cX3_advances 113 = .ok (.iload_n 1, 1) := by decide +kernel
theorem dX3_advances_114 : decode cX3_advances 114 = .ok (.bipush 48, 2) := by decide +kernel
theorem dX3_advances_116 : decode cX3_advances 116 = .ok (.bipush 57, 2) := by decide +kernel
theorem dX3_advances_118 : decode cX3_advances 118 = .ok (.invokestatic 71, 3) := by decide +kernel
theorem dX3_advances_121 : decode cX3_advances 121 = .ok (.ifCond .eq 119, 3) := by decide +kernel
theorem dX3_advances_124 : decode cX3_advances 124 = .ok (.aload_n 0, 1) := by decide +kernel
theorem dX3_advances_125 : decode cX3_advances 125 = .ok (.iconst 0, 1) := by decide +kernel
theorem dX3_advances_126 : decode cX3_advances 126 = .ok (.putfield 91, 3) := by decide +kernel
theorem dX3_advances_129 : decode cX3_advances 129 = .ok (.aload_n 0, 1) := by decide +kernel
theorem dX3_advances_130 : decode cX3_advances 130 = .ok (.aload_n 0, 1) := by decide +kernel
theorem dX3_advances_131 : decode cX3_advances 131 = .ok (.getfield 98, 3) := by decide +kernel
theorem dX3_advances_134 : decode cX3_advances 134 = .ok (.invokevirtual 101, 3) := by decide +kernel
theorem dX3_advances_137 : decode cX3_advances 137 = .ok (.bipush 48, 2) := by decide +kernel
theorem dX3_advances_139 : decode cX3_advances 139 = .ok (.bipush 57, 2) := by decide +kernel
theorem dX3_advances_141 : decode cX3_advances 141 = .ok (.invokestatic 71, 3) := by decide +kernel
theorem dX3_advances_144 : decode cX3_advances 144 = .ok (.ifCond .eq 55, 3) := by decide +kernel
theorem dX3_advances_147 : decode cX3_advances 147 = .ok (.aload_n 0, 1) := by decide +kernel
theorem dX3_advances_148 : decode cX3_advances 148 = .ok (.aload_n 0, 1) := by decide +kernel
theorem dX3_advances_149 : decode cX3_advances 149 = .ok (.getfield 91, 3) := by decide +kernel
theorem dX3_advances_152 : decode cX3_advances 152 = .ok (.bipush 99, 2) := by decide +kernel
theorem dX3_advances_154 : decode cX3_advances 154 = .ok (.if_icmp .le 10, 3) := by decide +kernel
theorem dX3_advances_157 : decode cX3_advances 157 = .ok (.aload_n 0, 1) := by decide +kernel
theorem dX3_advances_158 : decode cX3_advances 158 = .ok (.getfield 91, 3) := by decide +kernel
theorem dX3_advances_161 : decode cX3_advances 161 = .ok (.goto 22, 3) := by decide +kernel
theorem dX3_advances_164 : decode cX3_advances 164 = .ok (.bipush 10, 2) := by decide +kernel
theorem dX3_advances_166 : decode cX3_advances 166 = .ok (.aload_n 0, 1) := by decide +kernel
theorem dX3_advances_167 : decode cX3_advances 167 = .ok (.getfield 91, 3) := by decide +kernel
theorem dX3_advances_170 : decode cX3_advances 170 = .ok (.imul, 1) := by decide +kernel
theorem dX3_advances_171 : decode cX3_advances 171 = .ok (.aload_n 0, 1) := by decide +kernel
theorem dX3_advances_172 : decode cX3_advances 172 = .ok (.aload_n 0, 1) := by decide +kernel
theorem dX3_advances_173 : decode cX3_advances 173 = .ok (.getfield 98, 3) := by decide +kernel
theorem dX3_advances_176 : decode cX3_advances 176 = .ok (.invokevirtual 101, 3) := by decide +kernel
theorem dX3_advances_179 : decode cX3_advances 179 = .ok (.iadd, 1) := by decide +kernel
theorem dX3_advances_180 : decode cX3_advances 180 = .ok (.bipush 48, 2) := by decide +kernel
theorem dX3_advances_182 : decode cX3_advances 182 = .ok (.isub, 1) := by decide +kernel
theorem dX3_advances_183 : decode cX3_advances 183 = .ok (.putfield 91, 3) := by decide +kernel
theorem dX3_advances_186 : decode cX3_advances 186 = .ok (.aload_n 0, 1) := by decide +kernel
theorem dX3_advances_187 : decode cX3_advances 187 = .ok (.dup, 1) := by decide +kernel
theorem dX3_advances_188 : decode cX3_advances 188 = .ok (.getfield 98, 3) := by decide +kernel
theorem dX3_advances_191 : decode cX3_advances 191 = .ok (.iconst 1, 1) := by decide +kernel
theorem dX3_advances_192 : decode cX3_advances 192 = .ok (.iadd, 1) := by decide +kernel
theorem dX3_advances_193 : decode cX3_advances 193 = .ok (.putfield 98, 3) := by decide +kernel
theorem dX3_advances_196 : decode cX3_advances 196 = .ok (.goto (-67), 3) := by decide +kernel
theorem dX3_advances_199 : decode cX3_advances 199 = .ok (.aload_n 0, 1) := by decide +kernel
theorem dX3_advances_200 : decode cX3_advances 200 = .ok (.aload_n 0, 1) := by decide +kernel
theorem dX3_advances_201 : decode cX3_advances 201 = .ok (.getfield 91, 3) := by decide +kernel
theorem dX3_advances_204 : decode cX3_advances 204 = .ok (.bipush 99, 2) := by decide +kernel
theorem dX3_advances_206 : decode cX3_advances 206 = .ok (.if_icmp .gt 22, 3) := by decide +kernel
theorem dX3_advances_209 : decode cX3_advances 209 = .ok (.iload_n 1, 1) := by decide +kernel
theorem dX3_advances_210 : decode cX3_advances 210 = .ok (.bipush 48, 2) := by decide +kernel
theorem dX3_advances_212 : decode cX3_advances 212 = .ok (.if_icmp .ne 21, 3) := by decide +kernel
theorem dX3_advances_215 : decode cX3_advances 215 = .ok (.aload_n 0, 1) := by decide +kernel
theorem dX3_advances_216 : decode cX3_advances 216 = .ok (.getfield 98, 3) := by decide +kernel
theorem dX3_advances_219 : decode cX3_advances 219 = .ok (.aload_n 0, 1) := by decide +kernel
theorem dX3_advances_220 : decode cX3_advances 220 = .ok (.getfield 85, 3) := by decide +kernel
theorem dX3_advances_223 : decode cX3_advances 223 = .ok (.isub, 1) := by decide +kernel
theorem dX3_advances_224 : decode cX3_advances 224 = .ok (.iconst 1, 1) := by decide +kernel
theorem dX3_advances_225 : decode cX3_advances 225 = .ok (.if_icmp .le 8, 3) := by decide +kernel
theorem dX3_advances_228 : decode cX3_advances 228 = .ok (.bipush 6, 2) := by decide +kernel
theorem dX3_advances_230 : decode cX3_advances 230 = .ok (.goto 4, 3) := by decide +kernel
theorem dX3_advances_233 : decode cX3_advances 233 = .ok (.iconst 3, 1) := by decide +kernel
theorem dX3_advances_234 : decode cX3_advances 234 = .ok (.putfield 88, 3) := by decide +kernel
theorem dX3_advances_237 : decode cX3_advances 237 = .ok (.goto 39, 3) := by decide +kernel
theorem dX3_advances_240 : decode cX3_advances 240 = .ok (.aload_n 0, 1) := by decide +kernel
theorem dX3_advances_241 : decode cX3_advances 241 = .ok (.dup, 1) := by decide +kernel
theorem dX3_advances_242 : decode cX3_advances 242 = .ok (.getfield 98, 3) := by decide +kernel
theorem dX3_advances_245 : decode cX3_advances 245 = .ok (.iconst 1, 1) := by decide +kernel
theorem dX3_advances_246 : decode cX3_advances 246 = .ok (.iadd, 1) := by decide +kernel
theorem dX3_advances_247 : decode cX3_advances 247 = .ok (.putfield 98, 3) := by decide +kernel
theorem dX3_advances_250 : decode cX3_advances 250 = .ok (.aload_n 0, 1) := by decide +kernel
theorem dX3_advances_251 : decode cX3_advances 251 = .ok (.iload_n 1, 1) := by decide +kernel
theorem dX3_advances_252 : decode cX3_advances 252 = .ok (.bipush 43, 2) := by decide +kernel
theorem dX3_advances_254 : decode cX3_advances 254 = .ok (.if_icmp .ne 7, 3) := by decide +kernel
theorem dX3_advances_257 : decode cX3_advances 257 = .ok (.iconst 4, 1) := by decide +kernel
theorem dX3_advances_258 : decode cX3_advances 258 = .ok (.goto 15, 3) := by decide +kernel
theorem dX3_advances_261 : decode cX3_advances 261 = .ok (.iload_n 1, 1) := by decide +kernel
theorem dX3_advances_262 : decode cX3_advances 262 = .ok (.bipush 59, 2) := by decide +kernel
theorem dX3_advances_264 : decode cX3_advances 264 = .ok (.if_icmp .ne 7, 3) := by decide +kernel
theorem dX3_advances_267 : decode cX3_advances 267 = .ok (.iconst 5, 1) := by decide +kernel
theorem dX3_advances_268 : decode cX3_advances 268 = .ok (.goto 5, 3) := by decide +kernel
theorem dX3_advances_271 : decode cX3_advances 271 = .ok (.bipush 6, 2) := by decide +kernel
theorem dX3_advances_273 : decode cX3_advances 273 = .ok (.putfield 88, 3) := by decide +kernel
theorem dX3_advances_276 : decode cX3_advances 276 = .ok (.return_, 1) := by decide +kernel
theorem dX3_isWell_0 : decode cX3_isWell 0 = .ok (.aload_n 0, 1) := by decide +kernel
theorem dX3_isWell_1 : decode cX3_isWell 1 = .ok (.getfield 108, 3) := by decide +kernel
theorem dX3_isWell_4 : decode cX3_isWell 4 = .ok (.ifCond .ge 7, 3) := by decide +kernel
theorem dX3_isWell_7 : decode cX3_isWell 7 = .ok (.iconst 1, 1) := by decide +kernel
theorem dX3_isWell_8 : decode cX3_isWell 8 = .ok (.goto 4, 3) := by decide +kernel
theorem dX3_isWell_11 : decode cX3_isWell 11 = .ok (.iconst 0, 1) := by decide +kernel
theorem dX3_isWell_12 : decode cX3_isWell 12 = .ok (.ireturn, 1) := by decide +kernel
set_option maxRecDepth 20000 in
theorem ggX3_takes_X3_isWell : GoodIn wsX3_takes wsX3_isWell := goodIn_r _ [8, 2, 35, 36, 37, 38, 39, 40, 41, 42, 43, 44, 45, 46, 47, 48, 49, 50, 51, 52, 53, 54, 55, 56, 57, 58, 59, 60, 61] (by decide +kernel) (by decide +kernel)
set_option maxRecDepth 20000 in
theorem gX3_takes_X3_isWell : GoodIn wsX3_takes (wsV RX3 111 RX3 yX3_isWell wsX3_isWell) := goodIn_app (goodIn_of _ (by decide +kernel)) ggX3_takes_X3_isWell
set_option maxRecDepth 20000 in
theorem ggX3_takes_X3_advances : GoodIn wsX3_takes wsX3_advances := goodIn_r _ [12, 13, 1, 14, 3, 15, 16, 17, 7, 18, 19, 20, 21, 22, 23, 24, 25, 26, 27, 28, 29, 30, 31, 32, 33, 34, 35, 36, 37, 38, 39, 40, 41, 42, 43, 44, 45, 46, 47, 48, 49, 50, 51, 52, 53, 54, 55, 56, 57, 58, 59, 60, 61] (by decide +kernel) (by decide +kernel)
set_option maxRecDepth 20000 in
theorem gX3_takes_X3_advances : GoodIn wsX3_takes (wsV RX3 115 RX3 yX3_advances wsX3_advances) := goodIn_app (goodIn_of _ (by decide +kernel)) ggX3_takes_X3_advances
theorem dX3_takes_0 : decode cX3_takes 0 = .ok (.aload_n 0, 1) := by decide +kernel
theorem dX3_takes_1 : decode cX3_takes 1 = .ok (.invokevirtual 111, 3) := by decide +kernel
theorem dX3_takes_4 : decode cX3_takes 4 = .ok (.ifCond .ne 5, 3) := by decide +kernel
theorem dX3_takes_7 : decode cX3_takes 7 = .ok (.iconst 0, 1) := by decide +kernel
theorem dX3_takes_8 : decode cX3_takes 8 = .ok (.ireturn, 1) := by decide +kernel
theorem dX3_takes_9 : decode cX3_takes 9 = .ok (.iload_n 1, 1) := by decide +kernel
theorem dX3_takes_10 : decode cX3_takes 10 = .ok (.ifCond .ne 13, 3) := by decide +kernel
theorem dX3_takes_13 : decode cX3_takes 13 = .ok (.aload_n 0, 1) := by decide +kernel
theorem dX3_takes_14 : decode cX3_takes 14 = .ok (.aload_n 0, 1) := by decide +kernel
theorem dX3_takes_15 : decode cX3_takes 15 = .ok (.getfield 85, 3) := by decide +kernel
theorem dX3_takes_18 : decode cX3_takes 18 = .ok (.putfield 108, 3) := by decide +kernel
theorem dX3_takes_21 : decode cX3_takes 21 = .ok (.iconst 0, 1) := by decide +kernel
theorem dX3_takes_22 : decode cX3_takes 22 = .ok (.ireturn, 1) := by decide +kernel
theorem dX3_takes_23 : decode cX3_takes 23 = .ok (.aload_n 0, 1) := by decide +kernel
theorem dX3_takes_24 : decode cX3_takes 24 = .ok (.getfield 91, 3) := by decide +kernel
theorem dX3_takes_27 : decode cX3_takes 27 = .ok (.istore_n 2, 1) := by decide +kernel
theorem dX3_takes_28 : decode cX3_takes 28 = .ok (.aload_n 0, 1) := by decide +kernel
theorem dX3_takes_29 : decode cX3_takes 29 = .ok (.invokevirtual 115, 3) := by decide +kernel
theorem dX3_takes_32 : decode cX3_takes 32 = .ok (.iload_n 2, 1) := by decide +kernel
theorem dX3_takes_33 : decode cX3_takes 33 = .ok (.ireturn, 1) := by decide +kernel
set_option maxRecDepth 20000 in
theorem ggX3_begins_X3_advances : GoodIn wsX3_begins wsX3_advances := goodIn_r _ [7, 2, 8, 9, 10, 11, 12, 13, 6, 14, 15, 16, 17, 18, 19, 20, 21, 22, 23, 24, 25, 26, 27, 28, 29, 30, 31, 32, 33, 34, 35, 36, 37, 38, 39, 40, 41, 42, 43, 44, 45, 46, 47, 48, 49, 50, 51, 52, 53, 54, 55, 56, 57] (by decide +kernel) (by decide +kernel)
set_option maxRecDepth 20000 in
theorem gX3_begins_X3_advances : GoodIn wsX3_begins (wsV RX3 115 RX3 yX3_advances wsX3_advances) := goodIn_app (goodIn_of _ (by decide +kernel)) ggX3_begins_X3_advances
theorem dX3_begins_0 : decode cX3_begins 0 = .ok (.aload_n 0, 1) := by decide +kernel
theorem dX3_begins_1 : decode cX3_begins 1 = .ok (.iconst (-1), 1) := by decide +kernel
theorem dX3_begins_2 : decode cX3_begins 2 = .ok (.putfield 108, 3) := by decide +kernel
theorem dX3_begins_5 : decode cX3_begins 5 = .ok (.aload_n 0, 1) := by decide +kernel
theorem dX3_begins_6 : decode cX3_begins 6 = .ok (.iconst 0, 1) := by decide +kernel
theorem dX3_begins_7 : decode cX3_begins 7 = .ok (.putfield 98, 3) := by decide +kernel
theorem dX3_begins_10 : decode cX3_begins 10 = .ok (.aload_n 0, 1) := by decide +kernel
theorem dX3_begins_11 : decode cX3_begins 11 = .ok (.invokevirtual 115, 3) := by decide +kernel
theorem dX3_begins_14 : decode cX3_begins 14 = .ok (.return_, 1) := by decide +kernel
set_option maxRecDepth 20000 in
theorem ggX3_readsSum_X3_isWell : GoodIn wsX3_readsSum wsX3_isWell := goodIn_r _ [7, 8, 39, 40, 41, 42, 43, 44, 45, 46, 47, 48, 49, 50, 51, 52, 53, 54, 55, 56, 57, 58, 59, 60, 61, 62, 63, 64, 65] (by decide +kernel) (by decide +kernel)
set_option maxRecDepth 20000 in
theorem gX3_readsSum_X3_isWell : GoodIn wsX3_readsSum (wsV RX3 111 RX3 yX3_isWell wsX3_isWell) := goodIn_app (goodIn_of _ (by decide +kernel)) ggX3_readsSum_X3_isWell
set_option maxRecDepth 20000 in
theorem ggX3_readsSum_X3_takes : GoodIn wsX3_readsSum wsX3_takes := goodIn_r _ [12, 13, 8, 2, 3, 4, 5, 6, 7, 14, 15, 16, 17, 18, 1, 19, 20, 21, 22, 23, 24, 25, 26, 27, 28, 29, 30, 31, 32, 33, 34, 35, 36, 37, 38, 39, 40, 41, 42, 43, 44, 45, 46, 47, 48, 49, 50, 51, 52, 53, 54, 55, 56, 57, 58, 59, 60, 61, 62, 63, 64, 65] (by decide +kernel) (by decide +kernel)
set_option maxRecDepth 20000 in
theorem gX3_readsSum_X3_takes : GoodIn wsX3_readsSum (wsV RX3 118 RX3 yX3_takes wsX3_takes) := goodIn_app (goodIn_of _ (by decide +kernel)) ggX3_readsSum_X3_takes
set_option maxRecDepth 20000 in
theorem ggX3_readsSum_X3_advances : GoodIn wsX3_readsSum wsX3_advances := goodIn_r _ [17, 18, 13, 1, 2, 19, 20, 21, 6, 22, 23, 24, 25, 26, 27, 28, 29, 30, 31, 32, 33, 34, 35, 36, 37, 38, 39, 40, 41, 42, 43, 44, 45, 46, 47, 48, 49, 50, 51, 52, 53, 54, 55, 56, 57, 58, 59, 60, 61, 62, 63, 64, 65] (by decide +kernel) (by decide +kernel)
set_option maxRecDepth 20000 in
theorem gX3_readsSum_X3_advances : GoodIn wsX3_readsSum (wsV RX3 115 RX3 yX3_advances wsX3_advances) := goodIn_app (goodIn_of _ (by decide +kernel)) ggX3_readsSum_X3_advances
theorem dX3_readsSum_0 : decode cX3_readsSum 0 = .ok (.lconst 0, 1) := by decide +kernel
theorem dX3_readsSum_1 : decode cX3_readsSum 1 = .ok (.lstore_n 1, 1) := by decide +kernel
theorem dX3_readsSum_2 : decode cX3_readsSum 2 = .ok (.iconst 1, 1) := by decide +kernel
theorem dX3_readsSum_3 : decode cX3_readsSum 3 = .ok (.istore_n 3, 1) := by decide +kernel
theorem dX3_readsSum_4 : decode cX3_readsSum 4 = .ok (.iload_n 3, 1) := by decide +kernel
theorem dX3_readsSum_5 : decode cX3_readsSum 5 = .ok (.ifCond .eq 126, 3) := by decide +kernel
theorem dX3_readsSum_8 : decode cX3_readsSum 8 = .ok (.aload_n 0, 1) := by decide +kernel
theorem dX3_readsSum_9 : decode cX3_readsSum 9 = .ok (.invokevirtual 111, 3) := by decide +kernel
theorem dX3_readsSum_12 : decode cX3_readsSum 12 = .ok (.ifCond .eq 119, 3) := by decide +kernel
theorem dX3_readsSum_15 : decode cX3_readsSum 15 = .ok (.aload_n 0, 1) := by decide +kernel
theorem dX3_readsSum_16 : decode cX3_readsSum 16 = .ok (.getfield 88, 3) := by decide +kernel
theorem dX3_readsSum_19 : decode cX3_readsSum 19 = .ok (.iconst 1, 1) := by decide +kernel
theorem dX3_readsSum_20 : decode cX3_readsSum 20 = .ok (.if_icmp .ne 7, 3) := by decide +kernel
theorem dX3_readsSum_23 : decode cX3_readsSum 23 = .ok (.iconst 1, 1) := by decide +kernel
theorem dX3_readsSum_24 : decode cX3_readsSum 24 = .ok (.goto 4, 3) := by decide +kernel
theorem dX3_readsSum_27 : decode cX3_readsSum 27 = .ok (.iconst 0, 1) := by decide +kernel
theorem dX3_readsSum_28 : decode cX3_readsSum 28 = .ok (.istore 4, 2) := by decide +kernel
theorem dX3_readsSum_30 : decode cX3_readsSum 30 = .ok (.aload_n 0, 1) := by decide +kernel
theorem dX3_readsSum_31 : decode cX3_readsSum 31 = .ok (.iload 4, 2) := by decide +kernel
theorem dX3_readsSum_33 : decode cX3_readsSum 33 = .ok (.ifCond .ne 19, 3) := by decide +kernel
theorem dX3_readsSum_36 : decode cX3_readsSum 36 = .ok (.aload_n 0, 1) := by decide +kernel
theorem dX3_readsSum_37 : decode cX3_readsSum 37 = .ok (.getfield 88, 3) := by decide +kernel
theorem dX3_readsSum_40 : decode cX3_readsSum 40 = .ok (.iconst 3, 1) := by decide +kernel
theorem dX3_readsSum_41 : decode cX3_readsSum 41 = .ok (.if_icmp .ne 15, 3) := by decide +kernel
theorem dX3_readsSum_44 : decode cX3_readsSum 44 = .ok (.aload_n 0, 1) := by decide +kernel
theorem dX3_readsSum_45 : decode cX3_readsSum 45 = .ok (.getfield 91, 3) := by decide +kernel
theorem dX3_readsSum_48 : decode cX3_readsSum 48 = .ok (.iconst 2, 1) := by decide +kernel
theorem dX3_readsSum_49 : decode cX3_readsSum 49 = .ok (.if_icmp .ge 7, 3) := by decide +kernel
theorem dX3_readsSum_52 : decode cX3_readsSum 52 = .ok (.iconst 1, 1) := by decide +kernel
theorem dX3_readsSum_53 : decode cX3_readsSum 53 = .ok (.goto 4, 3) := by decide +kernel
theorem dX3_readsSum_56 : decode cX3_readsSum 56 = .ok (.iconst 0, 1) := by decide +kernel
theorem dX3_readsSum_57 : decode cX3_readsSum 57 = .ok (.invokevirtual 118, 3) := by decide +kernel
theorem dX3_readsSum_60 : decode cX3_readsSum 60 = .ok (.istore 5, 2) := by decide +kernel
theorem dX3_readsSum_62 : decode cX3_readsSum 62 = .ok (.lload_n 1, 1) := by decide +kernel
theorem dX3_readsSum_63 : decode cX3_readsSum 63 = .ok (.aload_n 0, 1) := by decide +kernel
theorem dX3_readsSum_64 : decode cX3_readsSum 64 = .ok (.invokevirtual 111, 3) := by decide +kernel
theorem dX3_readsSum_67 : decode cX3_readsSum 67 = .ok (.ifCond .ne 7, 3) := by decide +kernel
theorem dX3_readsSum_70 : decode cX3_readsSum 70 = .ok (.lconst 0, 1) := by decide +kernel
theorem dX3_readsSum_71 : decode cX3_readsSum 71 = .ok (.goto 26, 3) := by decide +kernel
theorem dX3_readsSum_74 : decode cX3_readsSum 74 = .ok (.iload 4, 2) := by decide +kernel
theorem dX3_readsSum_76 : decode cX3_readsSum 76 = .ok (.ifCond .eq 10, 3) := by decide +kernel
theorem dX3_readsSum_79 : decode cX3_readsSum 79 = .ok (.lconst 1, 1) := by decide +kernel
theorem dX3_readsSum_80 : decode cX3_readsSum 80 = .ok (.iload 5, 2) := by decide +kernel
theorem dX3_readsSum_82 : decode cX3_readsSum 82 = .ok (.lshl, 1) := by decide +kernel
theorem dX3_readsSum_83 : decode cX3_readsSum 83 = .ok (.goto 14, 3) := by decide +kernel
theorem dX3_readsSum_86 : decode cX3_readsSum 86 = .ok (.iload 5, 2) := by decide +kernel
theorem dX3_readsSum_88 : decode cX3_readsSum 88 = .ok (.iconst 1, 1) := by decide +kernel
theorem dX3_readsSum_89 : decode cX3_readsSum 89 = .ok (.if_icmp .ne 7, 3) := by decide +kernel
theorem dX3_readsSum_92 : decode cX3_readsSum 92 = .ok (.lconst 1, 1) := by decide +kernel
theorem dX3_readsSum_93 : decode cX3_readsSum 93 = .ok (.goto 4, 3) := by decide +kernel
theorem dX3_readsSum_96 : decode cX3_readsSum 96 = .ok (.lconst 0, 1) := by decide +kernel
theorem dX3_readsSum_97 : decode cX3_readsSum 97 = .ok (.lxor, 1) := by decide +kernel
theorem dX3_readsSum_98 : decode cX3_readsSum 98 = .ok (.lstore_n 1, 1) := by decide +kernel
theorem dX3_readsSum_99 : decode cX3_readsSum 99 = .ok (.aload_n 0, 1) := by decide +kernel
theorem dX3_readsSum_100 : decode cX3_readsSum 100 = .ok (.invokevirtual 111, 3) := by decide +kernel
theorem dX3_readsSum_103 : decode cX3_readsSum 103 = .ok (.ifCond .eq 15, 3) := by decide +kernel
theorem dX3_readsSum_106 : decode cX3_readsSum 106 = .ok (.aload_n 0, 1) := by decide +kernel
theorem dX3_readsSum_107 : decode cX3_readsSum 107 = .ok (.getfield 88, 3) := by decide +kernel
theorem dX3_readsSum_110 : decode cX3_readsSum 110 = .ok (.iconst 4, 1) := by decide +kernel
theorem dX3_readsSum_111 : decode cX3_readsSum 111 = .ok (.if_icmp .ne 7, 3) := by decide +kernel
theorem dX3_readsSum_114 : decode cX3_readsSum 114 = .ok (.iconst 1, 1) := by decide +kernel
theorem dX3_readsSum_115 : decode cX3_readsSum 115 = .ok (.goto 4, 3) := by decide +kernel
theorem dX3_readsSum_118 : decode cX3_readsSum 118 = .ok (.iconst 0, 1) := by decide +kernel
theorem dX3_readsSum_119 : decode cX3_readsSum 119 = .ok (.istore_n 3, 1) := by decide +kernel
theorem dX3_readsSum_120 : decode cX3_readsSum 120 = .ok (.iload_n 3, 1) := by decide +kernel
theorem dX3_readsSum_121 : decode cX3_readsSum 121 = .ok (.ifCond .eq 7, 3) := by decide +kernel
theorem dX3_readsSum_124 : decode cX3_readsSum 124 = .ok (.aload_n 0, 1) := by decide +kernel
theorem dX3_readsSum_125 : decode cX3_readsSum 125 = .ok (.invokevirtual 115, 3) := by decide +kernel
theorem dX3_readsSum_128 : decode cX3_readsSum 128 = .ok (.goto (-124), 3) := by decide +kernel
theorem dX3_readsSum_131 : decode cX3_readsSum 131 = .ok (.lload_n 1, 1) := by decide +kernel
theorem dX3_readsSum_132 : decode cX3_readsSum 132 = .ok (.lreturn, 1) := by decide +kernel
set_option maxRecDepth 20000 in
theorem ggX3_given_X3_begins : GoodIn wsX3_given wsX3_begins := goodIn_r _ [15, 4, 16, 17, 18, 19, 14, 20, 21, 2, 22, 23, 24, 25, 26, 10, 27, 28, 29, 30, 31, 32, 33, 34, 35, 36, 37, 38, 39, 40, 41, 76, 77, 78, 79, 80, 81, 82, 83, 84, 85, 86, 87, 88, 89, 90, 91, 92, 93, 94, 95, 96, 97, 98, 99, 100, 101, 102] (by decide +kernel) (by decide +kernel)
set_option maxRecDepth 20000 in
theorem gX3_given_X3_begins : GoodIn wsX3_given (wsV RX3 122 RX3 yX3_begins wsX3_begins) := goodIn_app (goodIn_of _ (by decide +kernel)) ggX3_given_X3_begins
set_option maxRecDepth 20000 in
theorem ggX3_given_X3_isWell : GoodIn wsX3_given wsX3_isWell := goodIn_r _ [45, 4, 76, 77, 78, 79, 80, 81, 82, 83, 84, 85, 86, 87, 88, 89, 90, 91, 92, 93, 94, 95, 96, 97, 98, 99, 100, 101, 102] (by decide +kernel) (by decide +kernel)
set_option maxRecDepth 20000 in
theorem gX3_given_X3_isWell : GoodIn wsX3_given (wsV RX3 111 RX3 yX3_isWell wsX3_isWell) := goodIn_app (goodIn_of _ (by decide +kernel)) ggX3_given_X3_isWell
set_option maxRecDepth 20000 in
theorem ggX3_given_X3_takes : GoodIn wsX3_given wsX3_takes := goodIn_r _ [49, 21, 4, 22, 42, 43, 44, 14, 45, 17, 18, 19, 20, 16, 2, 23, 24, 25, 26, 10, 27, 28, 29, 30, 31, 32, 33, 34, 35, 36, 37, 38, 39, 40, 41, 76, 77, 78, 79, 80, 81, 82, 83, 84, 85, 86, 87, 88, 89, 90, 91, 92, 93, 94, 95, 96, 97, 98, 99, 100, 101, 102] (by decide +kernel) (by decide +kernel)
set_option maxRecDepth 20000 in
theorem gX3_given_X3_takes : GoodIn wsX3_given (wsV RX3 118 RX3 yX3_takes wsX3_takes) := goodIn_app (goodIn_of _ (by decide +kernel)) ggX3_given_X3_takes
set_option maxRecDepth 20000 in
theorem ggX3_given_X3_readsSum : GoodIn wsX3_given wsX3_readsSum := goodIn_r _ [53, 2, 22, 42, 43, 44, 14, 45, 4, 46, 47, 48, 49, 21, 17, 18, 19, 20, 16, 23, 24, 25, 26, 10, 27, 28, 29, 30, 31, 32, 33, 34, 35, 36, 37, 38, 39, 40, 41, 76, 77, 78, 79, 80, 81, 82, 83, 84, 85, 86, 87, 88, 89, 90, 91, 92, 93, 94, 95, 96, 97, 98, 99, 100, 101, 102] (by decide +kernel) (by decide +kernel)
set_option maxRecDepth 20000 in
theorem gX3_given_X3_readsSum : GoodIn wsX3_given (wsV RX3 125 RX3 yX3_readsSum wsX3_readsSum) := goodIn_app (goodIn_of _ (by decide +kernel)) ggX3_given_X3_readsSum
set_option maxRecDepth 20000 in
theorem ggX3_given_X3_stands : GoodIn wsX3_given wsX3_stands := goodIn_r _ [57, 58, 59, 6, 5, 60, 61, 62, 63, 64, 65, 66, 67, 14, 68, 69, 70, 71, 72, 73, 74, 75, 76, 77, 78, 79, 80, 81, 82, 83, 84, 85, 86, 87, 88, 89, 90, 91, 92, 93, 94, 95, 96, 97, 98, 99, 100, 101, 102] (by decide +kernel) (by decide +kernel)
set_option maxRecDepth 20000 in
theorem gX3_given_X3_stands : GoodIn wsX3_given (wsV RX3 53 RX3 yX3_stands wsX3_stands) := goodIn_app (goodIn_of _ (by decide +kernel)) ggX3_given_X3_stands
theorem dX3_given_0 : decode cX3_given 0 = .ok (.aload_n 0, 1) := by decide +kernel
theorem dX3_given_1 : decode cX3_given 1 = .ok (.iconst 0, 1) := by decide +kernel
theorem dX3_given_2 : decode cX3_given 2 = .ok (.putfield 56, 3) := by decide +kernel
theorem dX3_given_5 : decode cX3_given 5 = .ok (.iconst 0, 1) := by decide +kernel
theorem dX3_given_6 : decode cX3_given 6 = .ok (.istore_n 1, 1) := by decide +kernel
theorem dX3_given_7 : decode cX3_given 7 = .ok (.aload_n 0, 1) := by decide +kernel
theorem dX3_given_8 : decode cX3_given 8 = .ok (.invokevirtual 122, 3) := by decide +kernel
theorem dX3_given_11 : decode cX3_given 11 = .ok (.aload_n 0, 1) := by decide +kernel
theorem dX3_given_12 : decode cX3_given 12 = .ok (.invokevirtual 111, 3) := by decide +kernel
theorem dX3_given_15 : decode cX3_given 15 = .ok (.ifCond .eq 59, 3) := by decide +kernel
theorem dX3_given_18 : decode cX3_given 18 = .ok (.aload_n 0, 1) := by decide +kernel
theorem dX3_given_19 : decode cX3_given 19 = .ok (.getfield 88, 3) := by decide +kernel
theorem dX3_given_22 : decode cX3_given 22 = .ok (.ifCond .eq 52, 3) := by decide +kernel
theorem dX3_given_25 : decode cX3_given 25 = .ok (.iload_n 1, 1) := by decide +kernel
theorem dX3_given_26 : decode cX3_given 26 = .ok (.bipush 8, 2) := by decide +kernel
theorem dX3_given_28 : decode cX3_given 28 = .ok (.if_icmp .ne 12, 3) := by decide +kernel
theorem dX3_given_31 : decode cX3_given 31 = .ok (.aload_n 0, 1) := by decide +kernel
theorem dX3_given_32 : decode cX3_given 32 = .ok (.iconst 0, 1) := by decide +kernel
theorem dX3_given_33 : decode cX3_given 33 = .ok (.invokevirtual 118, 3) := by decide +kernel
theorem dX3_given_36 : decode cX3_given 36 = .ok (.pop, 1) := by decide +kernel
theorem dX3_given_37 : decode cX3_given 37 = .ok (.goto (-26), 3) := by decide +kernel
theorem dX3_given_40 : decode cX3_given 40 = .ok (.aload_n 0, 1) := by decide +kernel
theorem dX3_given_41 : decode cX3_given 41 = .ok (.getfield 24, 3) := by decide +kernel
theorem dX3_given_44 : decode cX3_given 44 = .ok (.iload_n 1, 1) := by decide +kernel
theorem dX3_given_45 : decode cX3_given 45 = .ok (.aload_n 0, 1) := by decide +kernel
theorem dX3_given_46 : decode cX3_given 46 = .ok (.invokevirtual 125, 3) := by decide +kernel
theorem dX3_given_49 : decode cX3_given 49 = .ok (.lastore, 1) := by decide +kernel
theorem dX3_given_50 : decode cX3_given 50 = .ok (.aload_n 0, 1) := by decide +kernel
theorem dX3_given_51 : decode cX3_given 51 = .ok (.aload_n 0, 1) := by decide +kernel
theorem dX3_given_52 : decode cX3_given 52 = .ok (.getfield 88, 3) := by decide +kernel
theorem dX3_given_55 : decode cX3_given 55 = .ok (.iconst 5, 1) := by decide +kernel
theorem dX3_given_56 : decode cX3_given 56 = .ok (.if_icmp .ne 7, 3) := by decide +kernel
theorem dX3_given_59 : decode cX3_given 59 = .ok (.iconst 1, 1) := by decide +kernel
theorem dX3_given_60 : decode cX3_given 60 = .ok (.goto 4, 3) := by decide +kernel
theorem dX3_given_63 : decode cX3_given 63 = .ok (.iconst 0, 1) := by decide +kernel
theorem dX3_given_64 : decode cX3_given 64 = .ok (.invokevirtual 118, 3) := by decide +kernel
theorem dX3_given_67 : decode cX3_given 67 = .ok (.pop, 1) := by decide +kernel
theorem dX3_given_68 : decode cX3_given 68 = .ok (.iinc 1 1, 3) := by decide +kernel
theorem dX3_given_71 : decode cX3_given 71 = .ok (.goto (-60), 3) := by decide +kernel
theorem dX3_given_74 : decode cX3_given 74 = .ok (.aload_n 0, 1) := by decide +kernel
theorem dX3_given_75 : decode cX3_given 75 = .ok (.invokevirtual 111, 3) := by decide +kernel
theorem dX3_given_78 : decode cX3_given 78 = .ok (.ifCond .ne 11, 3) := by decide +kernel
theorem dX3_given_81 : decode cX3_given 81 = .ok (.bipush (-10), 2) := by decide +kernel
theorem dX3_given_83 : decode cX3_given 83 = .ok (.aload_n 0, 1) := by decide +kernel
theorem dX3_given_84 : decode cX3_given 84 = .ok (.getfield 108, 3) := by decide +kernel
theorem dX3_given_87 : decode cX3_given 87 = .ok (.isub, 1) := by decide +kernel
theorem dX3_given_88 : decode cX3_given 88 = .ok (.ireturn, 1) := by decide +kernel
theorem dX3_given_89 : decode cX3_given 89 = .ok (.iconst 0, 1) := by decide +kernel
theorem dX3_given_90 : decode cX3_given 90 = .ok (.istore_n 2, 1) := by decide +kernel
theorem dX3_given_91 : decode cX3_given 91 = .ok (.iload_n 2, 1) := by decide +kernel
theorem dX3_given_92 : decode cX3_given 92 = .ok (.iload_n 1, 1) := by decide +kernel
theorem dX3_given_93 : decode cX3_given 93 = .ok (.if_icmp .ge 21, 3) := by decide +kernel
theorem dX3_given_96 : decode cX3_given 96 = .ok (.aload_n 0, 1) := by decide +kernel
theorem dX3_given_97 : decode cX3_given 97 = .ok (.getfield 20, 3) := by decide +kernel
theorem dX3_given_100 : decode cX3_given 100 = .ok (.iload_n 2, 1) := by decide +kernel
theorem dX3_given_101 : decode cX3_given 101 = .ok (.aload_n 0, 1) := by decide +kernel
theorem dX3_given_102 : decode cX3_given 102 = .ok (.getfield 24, 3) := by decide +kernel
theorem dX3_given_105 : decode cX3_given 105 = .ok (.iload_n 2, 1) := by decide +kernel
theorem dX3_given_106 : decode cX3_given 106 = .ok (.laload, 1) := by decide +kernel
theorem dX3_given_107 : decode cX3_given 107 = .ok (.lastore, 1) := by decide +kernel
theorem dX3_given_108 : decode cX3_given 108 = .ok (.iinc 2 1, 3) := by decide +kernel
theorem dX3_given_111 : decode cX3_given 111 = .ok (.goto (-20), 3) := by decide +kernel
theorem dX3_given_114 : decode cX3_given 114 = .ok (.aload_n 0, 1) := by decide +kernel
theorem dX3_given_115 : decode cX3_given 115 = .ok (.iload_n 1, 1) := by decide +kernel
theorem dX3_given_116 : decode cX3_given 116 = .ok (.putfield 129, 3) := by decide +kernel
theorem dX3_given_119 : decode cX3_given 119 = .ok (.aload_n 0, 1) := by decide +kernel
theorem dX3_given_120 : decode cX3_given 120 = .ok (.iconst 0, 1) := by decide +kernel
theorem dX3_given_121 : decode cX3_given 121 = .ok (.putfield 132, 3) := by decide +kernel
theorem dX3_given_124 : decode cX3_given 124 = .ok (.aload_n 0, 1) := by decide +kernel
theorem dX3_given_125 : decode cX3_given 125 = .ok (.iconst 0, 1) := by decide +kernel
theorem dX3_given_126 : decode cX3_given 126 = .ok (.putfield 135, 3) := by decide +kernel
theorem dX3_given_129 : decode cX3_given 129 = .ok (.aload_n 0, 1) := by decide +kernel
theorem dX3_given_130 : decode cX3_given 130 = .ok (.bipush (-9), 2) := by decide +kernel
theorem dX3_given_132 : decode cX3_given 132 = .ok (.putfield 16, 3) := by decide +kernel
theorem dX3_given_135 : decode cX3_given 135 = .ok (.aload_n 0, 1) := by decide +kernel
theorem dX3_given_136 : decode cX3_given 136 = .ok (.iconst 0, 1) := by decide +kernel
theorem dX3_given_137 : decode cX3_given 137 = .ok (.putfield 75, 3) := by decide +kernel
theorem dX3_given_140 : decode cX3_given 140 = .ok (.aload_n 0, 1) := by decide +kernel
theorem dX3_given_141 : decode cX3_given 141 = .ok (.invokevirtual 53, 3) := by decide +kernel
theorem dX3_given_144 : decode cX3_given 144 = .ok (.aload_n 0, 1) := by decide +kernel
theorem dX3_given_145 : decode cX3_given 145 = .ok (.getfield 129, 3) := by decide +kernel
theorem dX3_given_148 : decode cX3_given 148 = .ok (.ireturn, 1) := by decide +kernel
set_option maxRecDepth 20000 in
theorem ggX3_readsStep_X3_takes : GoodIn wsX3_readsStep wsX3_takes := goodIn_r _ [10, 11, 12, 4, 13, 14, 15, 9, 16, 17, 18, 19, 20, 21, 1, 22, 23, 24, 25, 26, 27, 28, 29, 30, 31, 32, 33, 34, 35, 36, 37, 38, 39, 40, 41, 49, 50, 51, 52, 53, 54, 55, 56, 57, 58, 59, 60, 61, 62, 63, 64, 65, 66, 67, 68, 69, 70, 71, 72, 73, 74, 75] (by decide +kernel) (by decide +kernel)
set_option maxRecDepth 20000 in
theorem gX3_readsStep_X3_takes : GoodIn wsX3_readsStep (wsV RX3 118 RX3 yX3_takes wsX3_takes) := goodIn_app (goodIn_of _ (by decide +kernel)) ggX3_readsStep_X3_takes
set_option maxRecDepth 20000 in
theorem ggX3_readsStep_X3_isWell : GoodIn wsX3_readsStep wsX3_isWell := goodIn_r _ [16, 12, 49, 50, 51, 52, 53, 54, 55, 56, 57, 58, 59, 60, 61, 62, 63, 64, 65, 66, 67, 68, 69, 70, 71, 72, 73, 74, 75] (by decide +kernel) (by decide +kernel)
set_option maxRecDepth 20000 in
theorem gX3_readsStep_X3_isWell : GoodIn wsX3_readsStep (wsV RX3 111 RX3 yX3_isWell wsX3_isWell) := goodIn_app (goodIn_of _ (by decide +kernel)) ggX3_readsStep_X3_isWell
set_option maxRecDepth 20000 in
theorem ggX3_readsStep_X3_readsSum : GoodIn wsX3_readsStep wsX3_readsSum := goodIn_r _ [45, 1, 4, 13, 14, 15, 9, 16, 12, 6, 7, 8, 10, 11, 17, 18, 19, 20, 21, 22, 23, 24, 25, 26, 27, 28, 29, 30, 31, 32, 33, 34, 35, 36, 37, 38, 39, 40, 41, 49, 50, 51, 52, 53, 54, 55, 56, 57, 58, 59, 60, 61, 62, 63, 64, 65, 66, 67, 68, 69, 70, 71, 72, 73, 74, 75] (by decide +kernel) (by decide +kernel)
set_option maxRecDepth 20000 in
theorem gX3_readsStep_X3_readsSum : GoodIn wsX3_readsStep (wsV RX3 125 RX3 yX3_readsSum wsX3_readsSum) := goodIn_app (goodIn_of _ (by decide +kernel)) ggX3_readsStep_X3_readsSum
set_option maxRecDepth 20000 in
theorem ggX3_readsStep_X3_letters : GoodIn wsX3_readsStep wsX3_letters := goodIn_r _ [48] (by decide +kernel) (by decide +kernel)
set_option maxRecDepth 20000 in
theorem gX3_readsStep_X3_letters : GoodIn wsX3_readsStep (va_wsS RX3 49 yX3_letters wsX3_letters) := goodIn_app (goodIn_of _ (by decide +kernel)) ggX3_readsStep_X3_letters
theorem dX3_readsStep_0 : decode cX3_readsStep 0 = .ok (.aload_n 0, 1) := by decide +kernel
theorem dX3_readsStep_1 : decode cX3_readsStep 1 = .ok (.aload_n 0, 1) := by decide +kernel
theorem dX3_readsStep_2 : decode cX3_readsStep 2 = .ok (.getfield 88, 3) := by decide +kernel
theorem dX3_readsStep_5 : decode cX3_readsStep 5 = .ok (.iconst 2, 1) := by decide +kernel
theorem dX3_readsStep_6 : decode cX3_readsStep 6 = .ok (.if_icmp .ne 7, 3) := by decide +kernel
theorem dX3_readsStep_9 : decode cX3_readsStep 9 = .ok (.iconst 1, 1) := by decide +kernel
theorem dX3_readsStep_10 : decode cX3_readsStep 10 = .ok (.goto 4, 3) := by decide +kernel
theorem dX3_readsStep_13 : decode cX3_readsStep 13 = .ok (.iconst 0, 1) := by decide +kernel
theorem dX3_readsStep_14 : decode cX3_readsStep 14 = .ok (.invokevirtual 118, 3) := by decide +kernel
theorem dX3_readsStep_17 : decode cX3_readsStep 17 = .ok (.istore_n 2, 1) := by decide +kernel
theorem dX3_readsStep_18 : decode cX3_readsStep 18 = .ok (.aload_n 0, 1) := by decide +kernel
theorem dX3_readsStep_19 : decode cX3_readsStep 19 = .ok (.getfield 27, 3) := by decide +kernel
theorem dX3_readsStep_22 : decode cX3_readsStep 22 = .ok (.iconst 3, 1) := by decide +kernel
theorem dX3_readsStep_23 : decode cX3_readsStep 23 = .ok (.iload_n 1, 1) := by decide +kernel
theorem dX3_readsStep_24 : decode cX3_readsStep 24 = .ok (.imul, 1) := by decide +kernel
theorem dX3_readsStep_25 : decode cX3_readsStep 25 = .ok (.iload_n 2, 1) := by decide +kernel
theorem dX3_readsStep_26 : decode cX3_readsStep 26 = .ok (.iastore, 1) := by decide +kernel
theorem dX3_readsStep_27 : decode cX3_readsStep 27 = .ok (.iload_n 2, 1) := by decide +kernel
theorem dX3_readsStep_28 : decode cX3_readsStep 28 = .ok (.iconst 3, 1) := by decide +kernel
theorem dX3_readsStep_29 : decode cX3_readsStep 29 = .ok (.if_icmp .ne 27, 3) := by decide +kernel
theorem dX3_readsStep_32 : decode cX3_readsStep 32 = .ok (.aload_n 0, 1) := by decide +kernel
theorem dX3_readsStep_33 : decode cX3_readsStep 33 = .ok (.getfield 30, 3) := by decide +kernel
theorem dX3_readsStep_36 : decode cX3_readsStep 36 = .ok (.iload_n 1, 1) := by decide +kernel
theorem dX3_readsStep_37 : decode cX3_readsStep 37 = .ok (.aload_n 0, 1) := by decide +kernel
theorem dX3_readsStep_38 : decode cX3_readsStep 38 = .ok (.invokevirtual 111, 3) := by decide +kernel
theorem dX3_readsStep_41 : decode cX3_readsStep 41 = .ok (.ifCond .eq 10, 3) := by decide +kernel
theorem dX3_readsStep_44 : decode cX3_readsStep 44 = .ok (.aload_n 0, 1) := by decide +kernel
theorem dX3_readsStep_45 : decode cX3_readsStep 45 = .ok (.invokevirtual 125, 3) := by decide +kernel
theorem dX3_readsStep_48 : decode cX3_readsStep 48 = .ok (.goto 4, 3) := by decide +kernel
theorem dX3_readsStep_51 : decode cX3_readsStep 51 = .ok (.lconst 0, 1) := by decide +kernel
theorem dX3_readsStep_52 : decode cX3_readsStep 52 = .ok (.lastore, 1) := by decide +kernel
theorem dX3_readsStep_53 : decode cX3_readsStep 53 = .ok (.goto 129, 3) := by decide +kernel
theorem dX3_readsStep_56 : decode cX3_readsStep 56 = .ok (.aload_n 0, 1) := by decide +kernel
theorem dX3_readsStep_57 : decode cX3_readsStep 57 = .ok (.getfield 27, 3) := by decide +kernel
theorem dX3_readsStep_60 : decode cX3_readsStep 60 = .ok (.iconst 3, 1) := by decide +kernel
theorem dX3_readsStep_61 : decode cX3_readsStep 61 = .ok (.iload_n 1, 1) := by decide +kernel
theorem dX3_readsStep_62 : decode cX3_readsStep 62 = .ok (.imul, 1) := by decide +kernel
theorem dX3_readsStep_63 : decode cX3_readsStep 63 = .ok (.iconst 1, 1) := by decide +kernel
theorem dX3_readsStep_64 : decode cX3_readsStep 64 = .ok (.iadd, 1) := by decide +kernel
theorem dX3_readsStep_65 : decode cX3_readsStep 65 = .ok (.aload_n 0, 1) := by decide +kernel
theorem dX3_readsStep_66 : decode cX3_readsStep 66 = .ok (.aload_n 0, 1) := by decide +kernel
theorem dX3_readsStep_67 : decode cX3_readsStep 67 = .ok (.getfield 88, 3) := by decide +kernel
theorem dX3_readsStep_70 : decode cX3_readsStep 70 = .ok (.iconst 3, 1) := by decide +kernel
theorem dX3_readsStep_71 : decode cX3_readsStep 71 = .ok (.if_icmp .ne 20, 3) := by decide +kernel
theorem dX3_readsStep_74 : decode cX3_readsStep 74 = .ok (.aload_n 0, 1) := by decide +kernel
theorem dX3_readsStep_75 : decode cX3_readsStep 75 = .ok (.getfield 91, 3) := by decide +kernel
theorem dX3_readsStep_78 : decode cX3_readsStep 78 = .ok (.aload_n 0, 1) := by decide +kernel
theorem dX3_readsStep_79 : decode cX3_readsStep 79 = .ok (.getfield 129, 3) := by decide +kernel
theorem dX3_readsStep_82 : decode cX3_readsStep 82 = .ok (.iload_n 1, 1) := by decide +kernel
theorem dX3_readsStep_83 : decode cX3_readsStep 83 = .ok (.iadd, 1) := by decide +kernel
theorem dX3_readsStep_84 : decode cX3_readsStep 84 = .ok (.if_icmp .ge 7, 3) := by decide +kernel
theorem dX3_readsStep_87 : decode cX3_readsStep 87 = .ok (.iconst 1, 1) := by decide +kernel
theorem dX3_readsStep_88 : decode cX3_readsStep 88 = .ok (.goto 4, 3) := by decide +kernel
theorem dX3_readsStep_91 : decode cX3_readsStep 91 = .ok (.iconst 0, 1) := by decide +kernel
theorem dX3_readsStep_92 : decode cX3_readsStep 92 = .ok (.invokevirtual 118, 3) := by decide +kernel
theorem dX3_readsStep_95 : decode cX3_readsStep 95 = .ok (.iastore, 1) := by decide +kernel
theorem dX3_readsStep_96 : decode cX3_readsStep 96 = .ok (.iload_n 2, 1) := by decide +kernel
theorem dX3_readsStep_97 : decode cX3_readsStep 97 = .ok (.iconst 1, 1) := by decide +kernel
theorem dX3_readsStep_98 : decode cX3_readsStep 98 = .ok (.if_icmp .ne 44, 3) := by decide +kernel
theorem dX3_readsStep_101 : decode cX3_readsStep 101 = .ok (.aload_n 0, 1) := by decide +kernel
theorem dX3_readsStep_102 : decode cX3_readsStep 102 = .ok (.getfield 27, 3) := by decide +kernel
theorem dX3_readsStep_105 : decode cX3_readsStep 105 = .ok (.iconst 3, 1) := by decide +kernel
theorem dX3_readsStep_106 : decode cX3_readsStep 106 = .ok (.iload_n 1, 1) := by decide +kernel
theorem dX3_readsStep_107 : decode cX3_readsStep 107 = .ok (.imul, 1) := by decide +kernel
theorem dX3_readsStep_108 : decode cX3_readsStep 108 = .ok (.iconst 2, 1) := by decide +kernel
theorem dX3_readsStep_109 : decode cX3_readsStep 109 = .ok (.iadd, 1) := by decide +kernel
theorem dX3_readsStep_110 : decode cX3_readsStep 110 = .ok (.aload_n 0, 1) := by decide +kernel
theorem dX3_readsStep_111 : decode cX3_readsStep 111 = .ok (.aload_n 0, 1) := by decide +kernel
theorem dX3_readsStep_112 : decode cX3_readsStep 112 = .ok (.getfield 88, 3) := by decide +kernel
theorem dX3_readsStep_115 : decode cX3_readsStep 115 = .ok (.iconst 1, 1) := by decide +kernel
theorem dX3_readsStep_116 : decode cX3_readsStep 116 = .ok (.if_icmp .ne 18, 3) := by decide +kernel
theorem dX3_readsStep_119 : decode cX3_readsStep 119 = .ok (.aload_n 0, 1) := by decide +kernel
theorem dX3_readsStep_120 : decode cX3_readsStep 120 = .ok (.getfield 91, 3) := by decide +kernel
theorem dX3_readsStep_123 : decode cX3_readsStep 123 = .ok (.invokestatic 49, 3) := by decide +kernel
theorem dX3_readsStep_126 : decode cX3_readsStep 126 = .ok (.iconst 1, 1) := by decide +kernel
theorem dX3_readsStep_127 : decode cX3_readsStep 127 = .ok (.if_icmp .ne 7, 3) := by decide +kernel
theorem dX3_readsStep_130 : decode cX3_readsStep 130 = .ok (.iconst 1, 1) := by decide +kernel
theorem dX3_readsStep_131 : decode cX3_readsStep 131 = .ok (.goto 4, 3) := by decide +kernel
theorem dX3_readsStep_134 : decode cX3_readsStep 134 = .ok (.iconst 0, 1) := by decide +kernel
theorem dX3_readsStep_135 : decode cX3_readsStep 135 = .ok (.invokevirtual 118, 3) := by decide +kernel
theorem dX3_readsStep_138 : decode cX3_readsStep 138 = .ok (.iastore, 1) := by decide +kernel
theorem dX3_readsStep_139 : decode cX3_readsStep 139 = .ok (.goto 43, 3) := by decide +kernel
theorem dX3_readsStep_142 : decode cX3_readsStep 142 = .ok (.aload_n 0, 1) := by decide +kernel
theorem dX3_readsStep_143 : decode cX3_readsStep 143 = .ok (.getfield 27, 3) := by decide +kernel
theorem dX3_readsStep_146 : decode cX3_readsStep 146 = .ok (.iconst 3, 1) := by decide +kernel
theorem dX3_readsStep_147 : decode cX3_readsStep 147 = .ok (.iload_n 1, 1) := by decide +kernel
theorem dX3_readsStep_148 : decode cX3_readsStep 148 = .ok (.imul, 1) := by decide +kernel
theorem dX3_readsStep_149 : decode cX3_readsStep 149 = .ok (.iconst 2, 1) := by decide +kernel
theorem dX3_readsStep_150 : decode cX3_readsStep 150 = .ok (.iadd, 1) := by decide +kernel
theorem dX3_readsStep_151 : decode cX3_readsStep 151 = .ok (.aload_n 0, 1) := by decide +kernel
theorem dX3_readsStep_152 : decode cX3_readsStep 152 = .ok (.aload_n 0, 1) := by decide +kernel
theorem dX3_readsStep_153 : decode cX3_readsStep 153 = .ok (.getfield 88, 3) := by decide +kernel
theorem dX3_readsStep_156 : decode cX3_readsStep 156 = .ok (.iconst 3, 1) := by decide +kernel
theorem dX3_readsStep_157 : decode cX3_readsStep 157 = .ok (.if_icmp .ne 20, 3) := by decide +kernel
theorem dX3_readsStep_160 : decode cX3_readsStep 160 = .ok (.aload_n 0, 1) := by decide +kernel
theorem dX3_readsStep_161 : decode cX3_readsStep 161 = .ok (.getfield 91, 3) := by decide +kernel
theorem dX3_readsStep_164 : decode cX3_readsStep 164 = .ok (.aload_n 0, 1) := by decide +kernel
theorem dX3_readsStep_165 : decode cX3_readsStep 165 = .ok (.getfield 129, 3) := by decide +kernel
theorem dX3_readsStep_168 : decode cX3_readsStep 168 = .ok (.iload_n 1, 1) := by decide +kernel
theorem dX3_readsStep_169 : decode cX3_readsStep 169 = .ok (.iadd, 1) := by decide +kernel
theorem dX3_readsStep_170 : decode cX3_readsStep 170 = .ok (.if_icmp .ge 7, 3) := by decide +kernel
theorem dX3_readsStep_173 : decode cX3_readsStep 173 = .ok (.iconst 1, 1) := by decide +kernel
theorem dX3_readsStep_174 : decode cX3_readsStep 174 = .ok (.goto 4, 3) := by decide +kernel
theorem dX3_readsStep_177 : decode cX3_readsStep 177 = .ok (.iconst 0, 1) := by decide +kernel
theorem dX3_readsStep_178 : decode cX3_readsStep 178 = .ok (.invokevirtual 118, 3) := by decide +kernel
theorem dX3_readsStep_181 : decode cX3_readsStep 181 = .ok (.iastore, 1) := by decide +kernel
theorem dX3_readsStep_182 : decode cX3_readsStep 182 = .ok (.aload_n 0, 1) := by decide +kernel
theorem dX3_readsStep_183 : decode cX3_readsStep 183 = .ok (.aload_n 0, 1) := by decide +kernel
theorem dX3_readsStep_184 : decode cX3_readsStep 184 = .ok (.getfield 88, 3) := by decide +kernel
theorem dX3_readsStep_187 : decode cX3_readsStep 187 = .ok (.iconst 5, 1) := by decide +kernel
theorem dX3_readsStep_188 : decode cX3_readsStep 188 = .ok (.if_icmp .ne 7, 3) := by decide +kernel
theorem dX3_readsStep_191 : decode cX3_readsStep 191 = .ok (.iconst 1, 1) := by decide +kernel
theorem dX3_readsStep_192 : decode cX3_readsStep 192 = .ok (.goto 4, 3) := by decide +kernel
theorem dX3_readsStep_195 : decode cX3_readsStep 195 = .ok (.iconst 0, 1) := by decide +kernel
theorem dX3_readsStep_196 : decode cX3_readsStep 196 = .ok (.invokevirtual 118, 3) := by decide +kernel
theorem dX3_readsStep_199 : decode cX3_readsStep 199 = .ok (.pop, 1) := by decide +kernel
theorem dX3_readsStep_200 : decode cX3_readsStep 200 = .ok (.return_, 1) := by decide +kernel
set_option maxRecDepth 20000 in
theorem ggX3_proof_X3_begins : GoodIn wsX3_proof wsX3_begins := goodIn_r _ [16, 3, 17, 18, 19, 20, 15, 21, 22, 2, 23, 24, 25, 26, 27, 7, 28, 29, 30, 31, 32, 33, 34, 35, 36, 37, 38, 39, 40, 41, 42, 79, 80, 81, 82, 83, 84, 85, 86, 87, 88, 89, 90, 91, 92, 93, 94, 95, 96, 97, 98, 99, 100, 101, 102, 103, 104, 105] (by decide +kernel) (by decide +kernel)
set_option maxRecDepth 20000 in
theorem gX3_proof_X3_begins : GoodIn wsX3_proof (wsV RX3 122 RX3 yX3_begins wsX3_begins) := goodIn_app (goodIn_of _ (by decide +kernel)) ggX3_proof_X3_begins
set_option maxRecDepth 20000 in
theorem ggX3_proof_X3_isWell : GoodIn wsX3_proof wsX3_isWell := goodIn_r _ [46, 3, 79, 80, 81, 82, 83, 84, 85, 86, 87, 88, 89, 90, 91, 92, 93, 94, 95, 96, 97, 98, 99, 100, 101, 102, 103, 104, 105] (by decide +kernel) (by decide +kernel)
set_option maxRecDepth 20000 in
theorem gX3_proof_X3_isWell : GoodIn wsX3_proof (wsV RX3 111 RX3 yX3_isWell wsX3_isWell) := goodIn_app (goodIn_of _ (by decide +kernel)) ggX3_proof_X3_isWell
set_option maxRecDepth 20000 in
theorem ggX3_proof_X3_takes : GoodIn wsX3_proof wsX3_takes := goodIn_r _ [50, 22, 3, 23, 43, 44, 45, 15, 46, 18, 19, 20, 21, 17, 2, 24, 25, 26, 27, 7, 28, 29, 30, 31, 32, 33, 34, 35, 36, 37, 38, 39, 40, 41, 42, 79, 80, 81, 82, 83, 84, 85, 86, 87, 88, 89, 90, 91, 92, 93, 94, 95, 96, 97, 98, 99, 100, 101, 102, 103, 104, 105] (by decide +kernel) (by decide +kernel)
set_option maxRecDepth 20000 in
theorem gX3_proof_X3_takes : GoodIn wsX3_proof (wsV RX3 118 RX3 yX3_takes wsX3_takes) := goodIn_app (goodIn_of _ (by decide +kernel)) ggX3_proof_X3_takes
set_option maxRecDepth 20000 in
theorem ggX3_proof_X3_readsStep : GoodIn wsX3_proof wsX3_readsStep := goodIn_r _ [54, 2, 8, 10, 23, 11, 47, 48, 49, 15, 50, 22, 3, 43, 44, 45, 46, 18, 19, 20, 21, 17, 24, 25, 26, 27, 7, 28, 29, 30, 31, 32, 33, 34, 35, 36, 37, 38, 39, 40, 41, 42, 55, 56, 57, 58, 59, 60, 61, 79, 80, 81, 82, 83, 84, 85, 86, 87, 88, 89, 90, 91, 92, 93, 94, 95, 96, 97, 98, 99, 100, 101, 102, 103, 104, 105] (by decide +kernel) (by decide +kernel)
set_option maxRecDepth 20000 in
theorem gX3_proof_X3_readsStep : GoodIn wsX3_proof (wsV RX3 138 RX3 yX3_readsStep wsX3_readsStep) := goodIn_app (goodIn_of _ (by decide +kernel)) ggX3_proof_X3_readsStep
set_option maxRecDepth 20000 in
theorem ggX3_proof_X3_raised : GoodIn wsX3_proof wsX3_raised := goodIn_r _ [64, 65, 66, 15, 67] (by decide +kernel) (by decide +kernel)
set_option maxRecDepth 20000 in
theorem gX3_proof_X3_raised : GoodIn wsX3_proof (va_wsS RX3 63 yX3_raised wsX3_raised) := goodIn_app (goodIn_of _ (by decide +kernel)) ggX3_proof_X3_raised
set_option maxRecDepth 20000 in
theorem ggX3_proof_X3_multiplied : GoodIn wsX3_proof wsX3_multiplied := goodIn_r _ [70, 65, 66, 15, 67, 62, 63, 64] (by decide +kernel) (by decide +kernel)
set_option maxRecDepth 20000 in
theorem gX3_proof_X3_multiplied : GoodIn wsX3_proof (va_wsS RX3 141 yX3_multiplied wsX3_multiplied) := goodIn_app (goodIn_of _ (by decide +kernel)) ggX3_proof_X3_multiplied
set_option maxRecDepth 20000 in
theorem ggX3_proof_X3_isFollowing : GoodIn wsX3_proof wsX3_isFollowing := goodIn_r _ [74, 75, 76, 77, 15, 78, 65, 66, 67, 79, 80, 81, 82, 83, 84, 85, 86, 87, 88, 89, 90, 91, 92, 93, 94, 95, 96, 97, 98, 99, 100, 101, 102, 103, 104, 105] (by decide +kernel) (by decide +kernel)
set_option maxRecDepth 20000 in
theorem gX3_proof_X3_isFollowing : GoodIn wsX3_proof (wsV RX3 145 RX3 yX3_isFollowing wsX3_isFollowing) := goodIn_app (goodIn_of _ (by decide +kernel)) ggX3_proof_X3_isFollowing
theorem dX3_proof_0 : decode cX3_proof 0 = .ok (.aload_n 0, 1) := by decide +kernel
theorem dX3_proof_1 : decode cX3_proof 1 = .ok (.iconst 0, 1) := by decide +kernel
theorem dX3_proof_2 : decode cX3_proof 2 = .ok (.putfield 56, 3) := by decide +kernel
theorem dX3_proof_5 : decode cX3_proof 5 = .ok (.iconst 0, 1) := by decide +kernel
theorem dX3_proof_6 : decode cX3_proof 6 = .ok (.istore_n 1, 1) := by decide +kernel
theorem dX3_proof_7 : decode cX3_proof 7 = .ok (.aload_n 0, 1) := by decide +kernel
theorem dX3_proof_8 : decode cX3_proof 8 = .ok (.invokevirtual 122, 3) := by decide +kernel
theorem dX3_proof_11 : decode cX3_proof 11 = .ok (.aload_n 0, 1) := by decide +kernel
theorem dX3_proof_12 : decode cX3_proof 12 = .ok (.invokevirtual 111, 3) := by decide +kernel
theorem dX3_proof_15 : decode cX3_proof 15 = .ok (.ifCond .eq 36, 3) := by decide +kernel
theorem dX3_proof_18 : decode cX3_proof 18 = .ok (.aload_n 0, 1) := by decide +kernel
theorem dX3_proof_19 : decode cX3_proof 19 = .ok (.getfield 88, 3) := by decide +kernel
theorem dX3_proof_22 : decode cX3_proof 22 = .ok (.ifCond .eq 29, 3) := by decide +kernel
theorem dX3_proof_25 : decode cX3_proof 25 = .ok (.iload_n 1, 1) := by decide +kernel
theorem dX3_proof_26 : decode cX3_proof 26 = .ok (.bipush 24, 2) := by decide +kernel
theorem dX3_proof_28 : decode cX3_proof 28 = .ok (.if_icmp .ne 12, 3) := by decide +kernel
theorem dX3_proof_31 : decode cX3_proof 31 = .ok (.aload_n 0, 1) := by decide +kernel
theorem dX3_proof_32 : decode cX3_proof 32 = .ok (.iconst 0, 1) := by decide +kernel
theorem dX3_proof_33 : decode cX3_proof 33 = .ok (.invokevirtual 118, 3) := by decide +kernel
theorem dX3_proof_36 : decode cX3_proof 36 = .ok (.pop, 1) := by decide +kernel
theorem dX3_proof_37 : decode cX3_proof 37 = .ok (.goto (-26), 3) := by decide +kernel
theorem dX3_proof_40 : decode cX3_proof 40 = .ok (.aload_n 0, 1) := by decide +kernel
theorem dX3_proof_41 : decode cX3_proof 41 = .ok (.iload_n 1, 1) := by decide +kernel
theorem dX3_proof_42 : decode cX3_proof 42 = .ok (.invokevirtual 138, 3) := by decide +kernel
theorem dX3_proof_45 : decode cX3_proof 45 = .ok (.iinc 1 1, 3) := by decide +kernel
theorem dX3_proof_48 : decode cX3_proof 48 = .ok (.goto (-37), 3) := by decide +kernel
theorem dX3_proof_51 : decode cX3_proof 51 = .ok (.aload_n 0, 1) := by decide +kernel
theorem dX3_proof_52 : decode cX3_proof 52 = .ok (.invokevirtual 111, 3) := by decide +kernel
theorem dX3_proof_55 : decode cX3_proof 55 = .ok (.ifCond .ne 11, 3) := by decide +kernel
theorem dX3_proof_58 : decode cX3_proof 58 = .ok (.bipush (-10), 2) := by decide +kernel
theorem dX3_proof_60 : decode cX3_proof 60 = .ok (.aload_n 0, 1) := by decide +kernel
theorem dX3_proof_61 : decode cX3_proof 61 = .ok (.getfield 108, 3) := by decide +kernel
theorem dX3_proof_64 : decode cX3_proof 64 = .ok (.isub, 1) := by decide +kernel
theorem dX3_proof_65 : decode cX3_proof 65 = .ok (.ireturn, 1) := by decide +kernel
theorem dX3_proof_66 : decode cX3_proof 66 = .ok (.aload_n 0, 1) := by decide +kernel
theorem dX3_proof_67 : decode cX3_proof 67 = .ok (.iload_n 1, 1) := by decide +kernel
theorem dX3_proof_68 : decode cX3_proof 68 = .ok (.putfield 135, 3) := by decide +kernel
theorem dX3_proof_71 : decode cX3_proof 71 = .ok (.aload_n 0, 1) := by decide +kernel
theorem dX3_proof_72 : decode cX3_proof 72 = .ok (.iconst 0, 1) := by decide +kernel
theorem dX3_proof_73 : decode cX3_proof 73 = .ok (.putfield 132, 3) := by decide +kernel
theorem dX3_proof_76 : decode cX3_proof 76 = .ok (.aload_n 0, 1) := by decide +kernel
theorem dX3_proof_77 : decode cX3_proof 77 = .ok (.bipush (-9), 2) := by decide +kernel
theorem dX3_proof_79 : decode cX3_proof 79 = .ok (.putfield 16, 3) := by decide +kernel
theorem dX3_proof_82 : decode cX3_proof 82 = .ok (.aload_n 0, 1) := by decide +kernel
theorem dX3_proof_83 : decode cX3_proof 83 = .ok (.iconst 0, 1) := by decide +kernel
theorem dX3_proof_84 : decode cX3_proof 84 = .ok (.putfield 75, 3) := by decide +kernel
theorem dX3_proof_87 : decode cX3_proof 87 = .ok (.iconst 0, 1) := by decide +kernel
theorem dX3_proof_88 : decode cX3_proof 88 = .ok (.istore_n 2, 1) := by decide +kernel
theorem dX3_proof_89 : decode cX3_proof 89 = .ok (.iload_n 2, 1) := by decide +kernel
theorem dX3_proof_90 : decode cX3_proof 90 = .ok (.aload_n 0, 1) := by decide +kernel
theorem dX3_proof_91 : decode cX3_proof 91 = .ok (.getfield 135, 3) := by decide +kernel
theorem dX3_proof_94 : decode cX3_proof 94 = .ok (.if_icmp .ge 164, 3) := by decide +kernel
theorem dX3_proof_97 : decode cX3_proof 97 = .ok (.aload_n 0, 1) := by decide +kernel
theorem dX3_proof_98 : decode cX3_proof 98 = .ok (.getfield 16, 3) := by decide +kernel
theorem dX3_proof_101 : decode cX3_proof 101 = .ok (.bipush (-9), 2) := by decide +kernel
theorem dX3_proof_103 : decode cX3_proof 103 = .ok (.if_icmp .ne 155, 3) := by decide +kernel
theorem dX3_proof_106 : decode cX3_proof 106 = .ok (.aload_n 0, 1) := by decide +kernel
theorem dX3_proof_107 : decode cX3_proof 107 = .ok (.getfield 27, 3) := by decide +kernel
theorem dX3_proof_110 : decode cX3_proof 110 = .ok (.iconst 3, 1) := by decide +kernel
theorem dX3_proof_111 : decode cX3_proof 111 = .ok (.iload_n 2, 1) := by decide +kernel
theorem dX3_proof_112 : decode cX3_proof 112 = .ok (.imul, 1) := by decide +kernel
theorem dX3_proof_113 : decode cX3_proof 113 = .ok (.iaload, 1) := by decide +kernel
theorem dX3_proof_114 : decode cX3_proof 114 = .ok (.istore_n 3, 1) := by decide +kernel
theorem dX3_proof_115 : decode cX3_proof 115 = .ok (.aload_n 0, 1) := by decide +kernel
theorem dX3_proof_116 : decode cX3_proof 116 = .ok (.getfield 20, 3) := by decide +kernel
theorem dX3_proof_119 : decode cX3_proof 119 = .ok (.aload_n 0, 1) := by decide +kernel
theorem dX3_proof_120 : decode cX3_proof 120 = .ok (.getfield 27, 3) := by decide +kernel
theorem dX3_proof_123 : decode cX3_proof 123 = .ok (.iconst 3, 1) := by decide +kernel
theorem dX3_proof_124 : decode cX3_proof 124 = .ok (.iload_n 2, 1) := by decide +kernel
theorem dX3_proof_125 : decode cX3_proof 125 = .ok (.imul, 1) := by decide +kernel
theorem dX3_proof_126 : decode cX3_proof 126 = .ok (.iconst 1, 1) := by decide +kernel
theorem dX3_proof_127 : decode cX3_proof 127 = .ok (.iadd, 1) := by decide +kernel
theorem dX3_proof_128 : decode cX3_proof 128 = .ok (.iaload, 1) := by decide +kernel
theorem dX3_proof_129 : decode cX3_proof 129 = .ok (.laload, 1) := by decide +kernel
theorem dX3_proof_130 : decode cX3_proof 130 = .ok (.lstore 4, 2) := by decide +kernel
theorem dX3_proof_132 : decode cX3_proof 132 = .ok (.aload_n 0, 1) := by decide +kernel
theorem dX3_proof_133 : decode cX3_proof 133 = .ok (.getfield 27, 3) := by decide +kernel
theorem dX3_proof_136 : decode cX3_proof 136 = .ok (.iconst 3, 1) := by decide +kernel
theorem dX3_proof_137 : decode cX3_proof 137 = .ok (.iload_n 2, 1) := by decide +kernel
theorem dX3_proof_138 : decode cX3_proof 138 = .ok (.imul, 1) := by decide +kernel
theorem dX3_proof_139 : decode cX3_proof 139 = .ok (.iconst 2, 1) := by decide +kernel
theorem dX3_proof_140 : decode cX3_proof 140 = .ok (.iadd, 1) := by decide +kernel
theorem dX3_proof_141 : decode cX3_proof 141 = .ok (.iaload, 1) := by decide +kernel
theorem dX3_proof_142 : decode cX3_proof 142 = .ok (.istore 6, 2) := by decide +kernel
theorem dX3_proof_144 : decode cX3_proof 144 = .ok (.iload_n 3, 1) := by decide +kernel
theorem dX3_proof_145 : decode cX3_proof 145 = .ok (.iconst 3, 1) := by decide +kernel
theorem dX3_proof_146 : decode cX3_proof 146 = .ok (.if_icmp .ne 12, 3) := by decide +kernel
theorem dX3_proof_149 : decode cX3_proof 149 = .ok (.aload_n 0, 1) := by decide +kernel
theorem dX3_proof_150 : decode cX3_proof 150 = .ok (.getfield 30, 3) := by decide +kernel
theorem dX3_proof_153 : decode cX3_proof 153 = .ok (.iload_n 2, 1) := by decide +kernel
theorem dX3_proof_154 : decode cX3_proof 154 = .ok (.laload, 1) := by decide +kernel
theorem dX3_proof_155 : decode cX3_proof 155 = .ok (.goto 47, 3) := by decide +kernel
theorem dX3_proof_158 : decode cX3_proof 158 = .ok (.iload_n 3, 1) := by decide +kernel
theorem dX3_proof_159 : decode cX3_proof 159 = .ok (.ifCond .ne 16, 3) := by decide +kernel
theorem dX3_proof_162 : decode cX3_proof 162 = .ok (.lload 4, 2) := by decide +kernel
theorem dX3_proof_164 : decode cX3_proof 164 = .ok (.aload_n 0, 1) := by decide +kernel
theorem dX3_proof_165 : decode cX3_proof 165 = .ok (.getfield 20, 3) := by decide +kernel
theorem dX3_proof_168 : decode cX3_proof 168 = .ok (.iload 6, 2) := by decide +kernel
theorem dX3_proof_170 : decode cX3_proof 170 = .ok (.laload, 1) := by decide +kernel
theorem dX3_proof_171 : decode cX3_proof 171 = .ok (.lxor, 1) := by decide +kernel
theorem dX3_proof_172 : decode cX3_proof 172 = .ok (.goto 30, 3) := by decide +kernel
theorem dX3_proof_175 : decode cX3_proof 175 = .ok (.iload_n 3, 1) := by decide +kernel
theorem dX3_proof_176 : decode cX3_proof 176 = .ok (.iconst 1, 1) := by decide +kernel
theorem dX3_proof_177 : decode cX3_proof 177 = .ok (.if_icmp .ne 13, 3) := by decide +kernel
theorem dX3_proof_180 : decode cX3_proof 180 = .ok (.lload 4, 2) := by decide +kernel
theorem dX3_proof_182 : decode cX3_proof 182 = .ok (.iload 6, 2) := by decide +kernel
theorem dX3_proof_184 : decode cX3_proof 184 = .ok (.invokestatic 63, 3) := by decide +kernel
theorem dX3_proof_187 : decode cX3_proof 187 = .ok (.goto 15, 3) := by decide +kernel
theorem dX3_proof_190 : decode cX3_proof 190 = .ok (.lload 4, 2) := by decide +kernel
theorem dX3_proof_192 : decode cX3_proof 192 = .ok (.aload_n 0, 1) := by decide +kernel
theorem dX3_proof_193 : decode cX3_proof 193 = .ok (.getfield 20, 3) := by decide +kernel
theorem dX3_proof_196 : decode cX3_proof 196 = .ok (.iload 6, 2) := by decide +kernel
theorem dX3_proof_198 : decode cX3_proof 198 = .ok (.laload, 1) := by decide +kernel
theorem dX3_proof_199 : decode cX3_proof 199 = .ok (.invokestatic 141, 3) := by decide +kernel
theorem dX3_proof_202 : decode cX3_proof 202 = .ok (.lstore 7, 2) := by decide +kernel
theorem dX3_proof_204 : decode cX3_proof 204 = .ok (.iload_n 3, 1) := by decide +kernel
theorem dX3_proof_205 : decode cX3_proof 205 = .ok (.iconst 3, 1) := by decide +kernel
theorem dX3_proof_206 : decode cX3_proof 206 = .ok (.if_icmp .ne 20, 3) := by decide +kernel
theorem dX3_proof_209 : decode cX3_proof 209 = .ok (.aload_n 0, 1) := by decide +kernel
theorem dX3_proof_210 : decode cX3_proof 210 = .ok (.lload 7, 2) := by decide +kernel
theorem dX3_proof_212 : decode cX3_proof 212 = .ok (.invokevirtual 145, 3) := by decide +kernel
theorem dX3_proof_215 : decode cX3_proof 215 = .ok (.ifCond .ne 11, 3) := by decide +kernel
theorem dX3_proof_218 : decode cX3_proof 218 = .ok (.aload_n 0, 1) := by decide +kernel
theorem dX3_proof_219 : decode cX3_proof 219 = .ok (.iload_n 2, 1) := by decide +kernel
theorem dX3_proof_220 : decode cX3_proof 220 = .ok (.putfield 16, 3) := by decide +kernel
theorem dX3_proof_223 : decode cX3_proof 223 = .ok (.goto 29, 3) := by decide +kernel
theorem dX3_proof_226 : decode cX3_proof 226 = .ok (.aload_n 0, 1) := by decide +kernel
theorem dX3_proof_227 : decode cX3_proof 227 = .ok (.getfield 20, 3) := by decide +kernel
theorem dX3_proof_230 : decode cX3_proof 230 = .ok (.aload_n 0, 1) := by decide +kernel
theorem dX3_proof_231 : decode cX3_proof 231 = .ok (.getfield 129, 3) := by decide +kernel
theorem dX3_proof_234 : decode cX3_proof 234 = .ok (.aload_n 0, 1) := by decide +kernel
theorem dX3_proof_235 : decode cX3_proof 235 = .ok (.getfield 132, 3) := by decide +kernel
theorem dX3_proof_238 : decode cX3_proof 238 = .ok (.iadd, 1) := by decide +kernel
theorem dX3_proof_239 : decode cX3_proof 239 = .ok (.lload 7, 2) := by decide +kernel
theorem dX3_proof_241 : decode cX3_proof 241 = .ok (.lastore, 1) := by decide +kernel
theorem dX3_proof_242 : decode cX3_proof 242 = .ok (.aload_n 0, 1) := by decide +kernel
theorem dX3_proof_243 : decode cX3_proof 243 = .ok (.dup, 1) := by decide +kernel
theorem dX3_proof_244 : decode cX3_proof 244 = .ok (.getfield 132, 3) := by decide +kernel
theorem dX3_proof_247 : decode cX3_proof 247 = .ok (.iconst 1, 1) := by decide +kernel
theorem dX3_proof_248 : decode cX3_proof 248 = .ok (.iadd, 1) := by decide +kernel
theorem dX3_proof_249 : decode cX3_proof 249 = .ok (.putfield 132, 3) := by decide +kernel
theorem dX3_proof_252 : decode cX3_proof 252 = .ok (.iinc 2 1, 3) := by decide +kernel
theorem dX3_proof_255 : decode cX3_proof 255 = .ok (.goto (-166), 3) := by decide +kernel
theorem dX3_proof_258 : decode cX3_proof 258 = .ok (.aload_n 0, 1) := by decide +kernel
theorem dX3_proof_259 : decode cX3_proof 259 = .ok (.getfield 132, 3) := by decide +kernel
theorem dX3_proof_262 : decode cX3_proof 262 = .ok (.ireturn, 1) := by decide +kernel
theorem dX3_wrong_0 : decode cX3_wrong 0 = .ok (.aload_n 0, 1) := by decide +kernel
theorem dX3_wrong_1 : decode cX3_wrong 1 = .ok (.iconst 0, 1) := by decide +kernel
theorem dX3_wrong_2 : decode cX3_wrong 2 = .ok (.putfield 56, 3) := by decide +kernel
theorem dX3_wrong_5 : decode cX3_wrong 5 = .ok (.aload_n 0, 1) := by decide +kernel
theorem dX3_wrong_6 : decode cX3_wrong 6 = .ok (.getfield 16, 3) := by decide +kernel
theorem dX3_wrong_9 : decode cX3_wrong 9 = .ok (.ireturn, 1) := by decide +kernel
theorem dX3_end_0 : decode cX3_end 0 = .ok (.aload_n 0, 1) := by decide +kernel
theorem dX3_end_1 : decode cX3_end 1 = .ok (.iconst 0, 1) := by decide +kernel
theorem dX3_end_2 : decode cX3_end 2 = .ok (.putfield 56, 3) := by decide +kernel
theorem dX3_end_5 : decode cX3_end 5 = .ok (.iconst 0, 1) := by decide +kernel
theorem dX3_end_6 : decode cX3_end 6 = .ok (.istore_n 1, 1) := by decide +kernel
theorem dX3_end_7 : decode cX3_end 7 = .ok (.iload_n 1, 1) := by decide +kernel
theorem dX3_end_8 : decode cX3_end 8 = .ok (.aload_n 0, 1) := by decide +kernel
theorem dX3_end_9 : decode cX3_end 9 = .ok (.getfield 129, 3) := by decide +kernel
theorem dX3_end_12 : decode cX3_end 12 = .ok (.aload_n 0, 1) := by decide +kernel
theorem dX3_end_13 : decode cX3_end 13 = .ok (.getfield 132, 3) := by decide +kernel
theorem dX3_end_16 : decode cX3_end 16 = .ok (.iadd, 1) := by decide +kernel
theorem dX3_end_17 : decode cX3_end 17 = .ok (.if_icmp .ge 22, 3) := by decide +kernel
theorem dX3_end_20 : decode cX3_end 20 = .ok (.aload_n 0, 1) := by decide +kernel
theorem dX3_end_21 : decode cX3_end 21 = .ok (.getfield 20, 3) := by decide +kernel
theorem dX3_end_24 : decode cX3_end 24 = .ok (.iload_n 1, 1) := by decide +kernel
theorem dX3_end_25 : decode cX3_end 25 = .ok (.laload, 1) := by decide +kernel
theorem dX3_end_26 : decode cX3_end 26 = .ok (.lconst 1, 1) := by decide +kernel
theorem dX3_end_27 : decode cX3_end 27 = .ok (.lcmp, 1) := by decide +kernel
theorem dX3_end_28 : decode cX3_end 28 = .ok (.ifCond .ne 5, 3) := by decide +kernel
theorem dX3_end_31 : decode cX3_end 31 = .ok (.iload_n 1, 1) := by decide +kernel
theorem dX3_end_32 : decode cX3_end 32 = .ok (.ireturn, 1) := by decide +kernel
theorem dX3_end_33 : decode cX3_end 33 = .ok (.iinc 1 1, 3) := by decide +kernel
theorem dX3_end_36 : decode cX3_end 36 = .ok (.goto (-29), 3) := by decide +kernel
theorem dX3_end_39 : decode cX3_end 39 = .ok (.bipush (-9), 2) := by decide +kernel
theorem dX3_end_41 : decode cX3_end 41 = .ok (.ireturn, 1) := by decide +kernel
set_option maxRecDepth 20000 in
theorem ggX3_isLine_X3_in : GoodIn wsX3_isLine wsX3_in := goodIn_r _ [6] (by decide +kernel) (by decide +kernel)
set_option maxRecDepth 20000 in
theorem gX3_isLine_X3_in : GoodIn wsX3_isLine (va_wsS RX3 71 yX3_in wsX3_in) := goodIn_app (goodIn_of _ (by decide +kernel)) ggX3_isLine_X3_in
theorem dX3_isLine_0 : decode cX3_isLine 0 = .ok (.iload_n 1, 1) := by decide +kernel
theorem dX3_isLine_1 : decode cX3_isLine 1 = .ok (.iconst 0, 1) := by decide +kernel
theorem dX3_isLine_2 : decode cX3_isLine 2 = .ok (.aload_n 0, 1) := by decide +kernel
theorem dX3_isLine_3 : decode cX3_isLine 3 = .ok (.getfield 129, 3) := by decide +kernel
theorem dX3_isLine_6 : decode cX3_isLine 6 = .ok (.aload_n 0, 1) := by decide +kernel
theorem dX3_isLine_7 : decode cX3_isLine 7 = .ok (.getfield 132, 3) := by decide +kernel
theorem dX3_isLine_10 : decode cX3_isLine 10 = .ok (.iadd, 1) := by decide +kernel
theorem dX3_isLine_11 : decode cX3_isLine 11 = .ok (.iconst 1, 1) := by decide +kernel
theorem dX3_isLine_12 : decode cX3_isLine 12 = .ok (.isub, 1) := by decide +kernel
theorem dX3_isLine_13 : decode cX3_isLine 13 = .ok (.invokestatic 71, 3) := by decide +kernel
theorem dX3_isLine_16 : decode cX3_isLine 16 = .ok (.ireturn, 1) := by decide +kernel
set_option maxRecDepth 20000 in
theorem ggX3_line_X3_isLine : GoodIn wsX3_line wsX3_isLine := goodIn_r _ [7, 8, 9, 10, 11, 6, 12, 13, 14, 15, 16, 17, 18, 19, 20, 21, 22, 23, 24, 25, 26, 27, 28, 29, 30, 31, 32, 33, 34, 35, 36, 37, 38, 39] (by decide +kernel) (by decide +kernel)
set_option maxRecDepth 20000 in
theorem gX3_line_X3_isLine : GoodIn wsX3_line (wsV RX3 149 RX3 yX3_isLine wsX3_isLine) := goodIn_app (goodIn_of _ (by decide +kernel)) ggX3_line_X3_isLine
theorem dX3_line_0 : decode cX3_line 0 = .ok (.aload_n 0, 1) := by decide +kernel
theorem dX3_line_1 : decode cX3_line 1 = .ok (.iconst 0, 1) := by decide +kernel
theorem dX3_line_2 : decode cX3_line 2 = .ok (.putfield 56, 3) := by decide +kernel
theorem dX3_line_5 : decode cX3_line 5 = .ok (.aload_n 0, 1) := by decide +kernel
theorem dX3_line_6 : decode cX3_line 6 = .ok (.iload_n 1, 1) := by decide +kernel
theorem dX3_line_7 : decode cX3_line 7 = .ok (.invokevirtual 149, 3) := by decide +kernel
theorem dX3_line_10 : decode cX3_line 10 = .ok (.ifCond .eq 12, 3) := by decide +kernel
theorem dX3_line_13 : decode cX3_line 13 = .ok (.aload_n 0, 1) := by decide +kernel
theorem dX3_line_14 : decode cX3_line 14 = .ok (.getfield 20, 3) := by decide +kernel
theorem dX3_line_17 : decode cX3_line 17 = .ok (.iload_n 1, 1) := by decide +kernel
theorem dX3_line_18 : decode cX3_line 18 = .ok (.laload, 1) := by decide +kernel
theorem dX3_line_19 : decode cX3_line 19 = .ok (.goto 4, 3) := by decide +kernel
theorem dX3_line_22 : decode cX3_line 22 = .ok (.lconst 0, 1) := by decide +kernel
theorem dX3_line_23 : decode cX3_line 23 = .ok (.lreturn, 1) := by decide +kernel
set_option maxRecDepth 20000 in
theorem ggX3_value_X3_isLine : GoodIn wsX3_value wsX3_isLine := goodIn_r _ [7, 8, 9, 10, 11, 6, 12, 19, 20, 21, 22, 23, 24, 25, 26, 27, 28, 29, 30, 31, 32, 33, 34, 35, 36, 37, 38, 39, 40, 41, 42, 43, 44, 45] (by decide +kernel) (by decide +kernel)
set_option maxRecDepth 20000 in
theorem gX3_value_X3_isLine : GoodIn wsX3_value (wsV RX3 149 RX3 yX3_isLine wsX3_isLine) := goodIn_app (goodIn_of _ (by decide +kernel)) ggX3_value_X3_isLine
set_option maxRecDepth 20000 in
theorem ggX3_value_X3_in : GoodIn wsX3_value wsX3_in := goodIn_r _ [12] (by decide +kernel) (by decide +kernel)
set_option maxRecDepth 20000 in
theorem gX3_value_X3_in : GoodIn wsX3_value (va_wsS RX3 71 yX3_in wsX3_in) := goodIn_app (goodIn_of _ (by decide +kernel)) ggX3_value_X3_in
set_option maxRecDepth 20000 in
theorem ggX3_value_X3_values : GoodIn wsX3_value wsX3_values := goodIn_r _ [15, 16, 17, 6, 18] (by decide +kernel) (by decide +kernel)
set_option maxRecDepth 20000 in
theorem gX3_value_X3_values : GoodIn wsX3_value (va_wsS RX3 153 yX3_values wsX3_values) := goodIn_app (goodIn_of _ (by decide +kernel)) ggX3_value_X3_values
set_option maxRecDepth 20000 in
theorem ggX3_value_X3_has : GoodIn wsX3_value wsX3_has := goodIn_r _ [18] (by decide +kernel) (by decide +kernel)
set_option maxRecDepth 20000 in
theorem gX3_value_X3_has : GoodIn wsX3_value (va_wsS RX3 59 yX3_has wsX3_has) := goodIn_app (goodIn_of _ (by decide +kernel)) ggX3_value_X3_has
theorem dX3_value_0 : decode cX3_value 0 = .ok (.aload_n 0, 1) := by decide +kernel
theorem dX3_value_1 : decode cX3_value 1 = .ok (.iconst 0, 1) := by decide +kernel
theorem dX3_value_2 : decode cX3_value 2 = .ok (.putfield 56, 3) := by decide +kernel
theorem dX3_value_5 : decode cX3_value 5 = .ok (.aload_n 0, 1) := by decide +kernel
theorem dX3_value_6 : decode cX3_value 6 = .ok (.iload_n 1, 1) := by decide +kernel
theorem dX3_value_7 : decode cX3_value 7 = .ok (.invokevirtual 149, 3) := by decide +kernel
theorem dX3_value_10 : decode cX3_value 10 = .ok (.ifCond .eq 13, 3) := by decide +kernel
theorem dX3_value_13 : decode cX3_value 13 = .ok (.iload_n 2, 1) := by decide +kernel
theorem dX3_value_14 : decode cX3_value 14 = .ok (.iconst 0, 1) := by decide +kernel
theorem dX3_value_15 : decode cX3_value 15 = .ok (.bipush 63, 2) := by decide +kernel
theorem dX3_value_17 : decode cX3_value 17 = .ok (.invokestatic 71, 3) := by decide +kernel
theorem dX3_value_20 : decode cX3_value 20 = .ok (.ifCond .ne 7, 3) := by decide +kernel
theorem dX3_value_23 : decode cX3_value 23 = .ok (.iconst (-1), 1) := by decide +kernel
theorem dX3_value_24 : decode cX3_value 24 = .ok (.goto 24, 3) := by decide +kernel
theorem dX3_value_27 : decode cX3_value 27 = .ok (.aload_n 0, 1) := by decide +kernel
theorem dX3_value_28 : decode cX3_value 28 = .ok (.getfield 20, 3) := by decide +kernel
theorem dX3_value_31 : decode cX3_value 31 = .ok (.iload_n 1, 1) := by decide +kernel
theorem dX3_value_32 : decode cX3_value 32 = .ok (.laload, 1) := by decide +kernel
theorem dX3_value_33 : decode cX3_value 33 = .ok (.invokestatic 153, 3) := by decide +kernel
theorem dX3_value_36 : decode cX3_value 36 = .ok (.iload_n 2, 1) := by decide +kernel
theorem dX3_value_37 : decode cX3_value 37 = .ok (.invokestatic 59, 3) := by decide +kernel
theorem dX3_value_40 : decode cX3_value 40 = .ok (.ifCond .eq 7, 3) := by decide +kernel
theorem dX3_value_43 : decode cX3_value 43 = .ok (.iconst 1, 1) := by decide +kernel
theorem dX3_value_44 : decode cX3_value 44 = .ok (.goto 4, 3) := by decide +kernel
theorem dX3_value_47 : decode cX3_value 47 = .ok (.iconst 0, 1) := by decide +kernel
theorem dX3_value_48 : decode cX3_value 48 = .ok (.ireturn, 1) := by decide +kernel
set_option maxRecDepth 20000 in
theorem ggX3_lead_X3_isLine : GoodIn wsX3_lead wsX3_isLine := goodIn_r _ [7, 8, 9, 10, 11, 6, 12, 28, 29, 30, 31, 32, 33, 34, 35, 36, 37, 38, 39, 40, 41, 42, 43, 44, 45, 46, 47, 48, 49, 50, 51, 52, 53, 54] (by decide +kernel) (by decide +kernel)
set_option maxRecDepth 20000 in
theorem gX3_lead_X3_isLine : GoodIn wsX3_lead (wsV RX3 149 RX3 yX3_isLine wsX3_isLine) := goodIn_app (goodIn_of _ (by decide +kernel)) ggX3_lead_X3_isLine
set_option maxRecDepth 20000 in
theorem ggX3_lead_X3_in : GoodIn wsX3_lead wsX3_in := goodIn_r _ [12] (by decide +kernel) (by decide +kernel)
set_option maxRecDepth 20000 in
theorem gX3_lead_X3_in : GoodIn wsX3_lead (va_wsS RX3 71 yX3_in wsX3_in) := goodIn_app (goodIn_of _ (by decide +kernel)) ggX3_lead_X3_in
set_option maxRecDepth 20000 in
theorem ggX3_lead_X3_degreeOf : GoodIn wsX3_lead wsX3_degreeOf := goodIn_r _ [16, 17, 18, 19, 6, 20, 21, 22, 23, 24, 25, 26, 27, 28, 29, 30, 31, 32, 33, 34, 35, 36, 37, 38, 39, 40, 41, 42, 43, 44, 45, 46, 47, 48, 49, 50, 51, 52, 53, 54] (by decide +kernel) (by decide +kernel)
set_option maxRecDepth 20000 in
theorem gX3_lead_X3_degreeOf : GoodIn wsX3_lead (wsV RX3 157 RX3 yX3_degreeOf wsX3_degreeOf) := goodIn_app (goodIn_of _ (by decide +kernel)) ggX3_lead_X3_degreeOf
set_option maxRecDepth 20000 in
theorem ggX3_lead_X3_leadOf : GoodIn wsX3_lead wsX3_leadOf := goodIn_r _ [20, 21, 22, 23, 6, 24, 28, 29, 30, 31, 32, 33, 34, 35, 36, 37, 38, 39, 40, 41, 42, 43, 44, 45, 46, 47, 48, 49, 50, 51, 52, 53, 54] (by decide +kernel) (by decide +kernel)
set_option maxRecDepth 20000 in
theorem gX3_lead_X3_leadOf : GoodIn wsX3_lead (wsV RX3 67 RX3 yX3_leadOf wsX3_leadOf) := goodIn_app (goodIn_of _ (by decide +kernel)) ggX3_lead_X3_leadOf
theorem dX3_lead_0 : decode cX3_lead 0 = .ok (.aload_n 0, 1) := by decide +kernel
theorem dX3_lead_1 : decode cX3_lead 1 = .ok (.iconst 0, 1) := by decide +kernel
theorem dX3_lead_2 : decode cX3_lead 2 = .ok (.putfield 56, 3) := by decide +kernel
theorem dX3_lead_5 : decode cX3_lead 5 = .ok (.aload_n 0, 1) := by decide +kernel
theorem dX3_lead_6 : decode cX3_lead 6 = .ok (.iload_n 1, 1) := by decide +kernel
theorem dX3_lead_7 : decode cX3_lead 7 = .ok (.invokevirtual 149, 3) := by decide +kernel
theorem dX3_lead_10 : decode cX3_lead 10 = .ok (.ifCond .eq 12, 3) := by decide +kernel
theorem dX3_lead_13 : decode cX3_lead 13 = .ok (.iload_n 2, 1) := by decide +kernel
theorem dX3_lead_14 : decode cX3_lead 14 = .ok (.iconst 0, 1) := by decide +kernel
theorem dX3_lead_15 : decode cX3_lead 15 = .ok (.iconst 1, 1) := by decide +kernel
theorem dX3_lead_16 : decode cX3_lead 16 = .ok (.invokestatic 71, 3) := by decide +kernel
theorem dX3_lead_19 : decode cX3_lead 19 = .ok (.ifCond .ne 7, 3) := by decide +kernel
theorem dX3_lead_22 : decode cX3_lead 22 = .ok (.iconst (-1), 1) := by decide +kernel
theorem dX3_lead_23 : decode cX3_lead 23 = .ok (.goto 30, 3) := by decide +kernel
theorem dX3_lead_26 : decode cX3_lead 26 = .ok (.iload_n 2, 1) := by decide +kernel
theorem dX3_lead_27 : decode cX3_lead 27 = .ok (.ifCond .ne 16, 3) := by decide +kernel
theorem dX3_lead_30 : decode cX3_lead 30 = .ok (.aload_n 0, 1) := by decide +kernel
theorem dX3_lead_31 : decode cX3_lead 31 = .ok (.aload_n 0, 1) := by decide +kernel
theorem dX3_lead_32 : decode cX3_lead 32 = .ok (.getfield 20, 3) := by decide +kernel
theorem dX3_lead_35 : decode cX3_lead 35 = .ok (.iload_n 1, 1) := by decide +kernel
theorem dX3_lead_36 : decode cX3_lead 36 = .ok (.laload, 1) := by decide +kernel
theorem dX3_lead_37 : decode cX3_lead 37 = .ok (.invokevirtual 157, 3) := by decide +kernel
theorem dX3_lead_40 : decode cX3_lead 40 = .ok (.goto 13, 3) := by decide +kernel
theorem dX3_lead_43 : decode cX3_lead 43 = .ok (.aload_n 0, 1) := by decide +kernel
theorem dX3_lead_44 : decode cX3_lead 44 = .ok (.aload_n 0, 1) := by decide +kernel
theorem dX3_lead_45 : decode cX3_lead 45 = .ok (.getfield 20, 3) := by decide +kernel
theorem dX3_lead_48 : decode cX3_lead 48 = .ok (.iload_n 1, 1) := by decide +kernel
theorem dX3_lead_49 : decode cX3_lead 49 = .ok (.laload, 1) := by decide +kernel
theorem dX3_lead_50 : decode cX3_lead 50 = .ok (.invokevirtual 67, 3) := by decide +kernel
theorem dX3_lead_53 : decode cX3_lead 53 = .ok (.ireturn, 1) := by decide +kernel
set_option maxRecDepth 20000 in
theorem ggX3_both_X3_isLine : GoodIn wsX3_both wsX3_isLine := goodIn_r _ [7, 8, 9, 10, 11, 6, 12, 22, 23, 24, 25, 26, 27, 28, 29, 30, 31, 32, 33, 34, 35, 36, 37, 38, 39, 40, 41, 42, 43, 44, 45, 46, 47, 48] (by decide +kernel) (by decide +kernel)
set_option maxRecDepth 20000 in
theorem gX3_both_X3_isLine : GoodIn wsX3_both (wsV RX3 149 RX3 yX3_isLine wsX3_isLine) := goodIn_app (goodIn_of _ (by decide +kernel)) ggX3_both_X3_isLine
set_option maxRecDepth 20000 in
theorem ggX3_both_X3_in : GoodIn wsX3_both wsX3_in := goodIn_r _ [12] (by decide +kernel) (by decide +kernel)
set_option maxRecDepth 20000 in
theorem gX3_both_X3_in : GoodIn wsX3_both (va_wsS RX3 71 yX3_in wsX3_in) := goodIn_app (goodIn_of _ (by decide +kernel)) ggX3_both_X3_in
set_option maxRecDepth 20000 in
theorem ggX3_both_X3_multiplied : GoodIn wsX3_both wsX3_multiplied := goodIn_r _ [15, 16, 17, 6, 18, 19, 20, 21] (by decide +kernel) (by decide +kernel)
set_option maxRecDepth 20000 in
theorem gX3_both_X3_multiplied : GoodIn wsX3_both (va_wsS RX3 141 yX3_multiplied wsX3_multiplied) := goodIn_app (goodIn_of _ (by decide +kernel)) ggX3_both_X3_multiplied
theorem dX3_both_0 : decode cX3_both 0 = .ok (.aload_n 0, 1) := by decide +kernel
theorem dX3_both_1 : decode cX3_both 1 = .ok (.iconst 0, 1) := by decide +kernel
theorem dX3_both_2 : decode cX3_both 2 = .ok (.putfield 56, 3) := by decide +kernel
theorem dX3_both_5 : decode cX3_both 5 = .ok (.aload_n 0, 1) := by decide +kernel
theorem dX3_both_6 : decode cX3_both 6 = .ok (.iload_n 1, 1) := by decide +kernel
theorem dX3_both_7 : decode cX3_both 7 = .ok (.invokevirtual 149, 3) := by decide +kernel
theorem dX3_both_10 : decode cX3_both 10 = .ok (.ifCond .eq 20, 3) := by decide +kernel
theorem dX3_both_13 : decode cX3_both 13 = .ok (.aload_n 0, 1) := by decide +kernel
theorem dX3_both_14 : decode cX3_both 14 = .ok (.iload_n 2, 1) := by decide +kernel
theorem dX3_both_15 : decode cX3_both 15 = .ok (.invokevirtual 149, 3) := by decide +kernel
theorem dX3_both_18 : decode cX3_both 18 = .ok (.ifCond .eq 12, 3) := by decide +kernel
theorem dX3_both_21 : decode cX3_both 21 = .ok (.iload_n 3, 1) := by decide +kernel
theorem dX3_both_22 : decode cX3_both 22 = .ok (.iconst 0, 1) := by decide +kernel
theorem dX3_both_23 : decode cX3_both 23 = .ok (.iconst 1, 1) := by decide +kernel
theorem dX3_both_24 : decode cX3_both 24 = .ok (.invokestatic 71, 3) := by decide +kernel
theorem dX3_both_27 : decode cX3_both 27 = .ok (.ifCond .ne 7, 3) := by decide +kernel
theorem dX3_both_30 : decode cX3_both 30 = .ok (.lconst 0, 1) := by decide +kernel
theorem dX3_both_31 : decode cX3_both 31 = .ok (.goto 38, 3) := by decide +kernel
theorem dX3_both_34 : decode cX3_both 34 = .ok (.iload_n 3, 1) := by decide +kernel
theorem dX3_both_35 : decode cX3_both 35 = .ok (.ifCond .ne 21, 3) := by decide +kernel
theorem dX3_both_38 : decode cX3_both 38 = .ok (.aload_n 0, 1) := by decide +kernel
theorem dX3_both_39 : decode cX3_both 39 = .ok (.getfield 20, 3) := by decide +kernel
theorem dX3_both_42 : decode cX3_both 42 = .ok (.iload_n 1, 1) := by decide +kernel
theorem dX3_both_43 : decode cX3_both 43 = .ok (.laload, 1) := by decide +kernel
theorem dX3_both_44 : decode cX3_both 44 = .ok (.aload_n 0, 1) := by decide +kernel
theorem dX3_both_45 : decode cX3_both 45 = .ok (.getfield 20, 3) := by decide +kernel
theorem dX3_both_48 : decode cX3_both 48 = .ok (.iload_n 2, 1) := by decide +kernel
theorem dX3_both_49 : decode cX3_both 49 = .ok (.laload, 1) := by decide +kernel
theorem dX3_both_50 : decode cX3_both 50 = .ok (.invokestatic 141, 3) := by decide +kernel
theorem dX3_both_53 : decode cX3_both 53 = .ok (.goto 16, 3) := by decide +kernel
theorem dX3_both_56 : decode cX3_both 56 = .ok (.aload_n 0, 1) := by decide +kernel
theorem dX3_both_57 : decode cX3_both 57 = .ok (.getfield 20, 3) := by decide +kernel
theorem dX3_both_60 : decode cX3_both 60 = .ok (.iload_n 1, 1) := by decide +kernel
theorem dX3_both_61 : decode cX3_both 61 = .ok (.laload, 1) := by decide +kernel
theorem dX3_both_62 : decode cX3_both 62 = .ok (.aload_n 0, 1) := by decide +kernel
theorem dX3_both_63 : decode cX3_both 63 = .ok (.getfield 20, 3) := by decide +kernel
theorem dX3_both_66 : decode cX3_both 66 = .ok (.iload_n 2, 1) := by decide +kernel
theorem dX3_both_67 : decode cX3_both 67 = .ok (.laload, 1) := by decide +kernel
theorem dX3_both_68 : decode cX3_both 68 = .ok (.lxor, 1) := by decide +kernel
theorem dX3_both_69 : decode cX3_both 69 = .ok (.lreturn, 1) := by decide +kernel
set_option maxRecDepth 20000 in
theorem ggX3_with_X3_isLine : GoodIn wsX3_with wsX3_isLine := goodIn_r _ [7, 8, 9, 10, 11, 6, 12, 16, 17, 18, 19, 20, 21, 22, 23, 24, 25, 26, 27, 28, 29, 30, 31, 32, 33, 34, 35, 36, 37, 38, 39, 40, 41, 42] (by decide +kernel) (by decide +kernel)
set_option maxRecDepth 20000 in
theorem gX3_with_X3_isLine : GoodIn wsX3_with (wsV RX3 149 RX3 yX3_isLine wsX3_isLine) := goodIn_app (goodIn_of _ (by decide +kernel)) ggX3_with_X3_isLine
set_option maxRecDepth 20000 in
theorem ggX3_with_X3_in : GoodIn wsX3_with wsX3_in := goodIn_r _ [12] (by decide +kernel) (by decide +kernel)
set_option maxRecDepth 20000 in
theorem gX3_with_X3_in : GoodIn wsX3_with (va_wsS RX3 71 yX3_in wsX3_in) := goodIn_app (goodIn_of _ (by decide +kernel)) ggX3_with_X3_in

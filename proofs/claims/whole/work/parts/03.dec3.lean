theorem dX6_pays_69 : decode cX6_pays 69 = .ok (.iload 8, 2) := by decide +kernel
theorem dX6_pays_71 : decode cX6_pays 71 = .ok (.laload, 1) := by decide +kernel
theorem dX6_pays_72 : decode cX6_pays 72 = .ok (.goto 5, 3) := by decide +kernel
theorem dX6_pays_75 : decode cX6_pays 75 = .ok (.lload 6, 2) := by decide +kernel
theorem dX6_pays_77 : decode cX6_pays 77 = .ok (.lstore 9, 2) := by decide +kernel
theorem dX6_pays_79 : decode cX6_pays 79 = .ok (.aload_n 0, 1) := by decide +kernel
theorem dX6_pays_80 : decode cX6_pays 80 = .ok (.getfield 7, 3) := by decide +kernel
theorem dX6_pays_83 : decode cX6_pays 83 = .ok (.iload 8, 2) := by decide +kernel
theorem dX6_pays_85 : decode cX6_pays 85 = .ok (.dup2, 1) := by decide +kernel
theorem dX6_pays_86 : decode cX6_pays 86 = .ok (.laload, 1) := by decide +kernel
theorem dX6_pays_87 : decode cX6_pays 87 = .ok (.lload 9, 2) := by decide +kernel
theorem dX6_pays_89 : decode cX6_pays 89 = .ok (.lsub, 1) := by decide +kernel
theorem dX6_pays_90 : decode cX6_pays 90 = .ok (.lastore, 1) := by decide +kernel
theorem dX6_pays_91 : decode cX6_pays 91 = .ok (.aload_n 0, 1) := by decide +kernel
theorem dX6_pays_92 : decode cX6_pays 92 = .ok (.getfield 7, 3) := by decide +kernel
theorem dX6_pays_95 : decode cX6_pays 95 = .ok (.sipush 5664, 3) := by decide +kernel
theorem dX6_pays_98 : decode cX6_pays 98 = .ok (.dup2, 1) := by decide +kernel
theorem dX6_pays_99 : decode cX6_pays 99 = .ok (.laload, 1) := by decide +kernel
theorem dX6_pays_100 : decode cX6_pays 100 = .ok (.lload 9, 2) := by decide +kernel
theorem dX6_pays_102 : decode cX6_pays 102 = .ok (.ladd, 1) := by decide +kernel
theorem dX6_pays_103 : decode cX6_pays 103 = .ok (.lastore, 1) := by decide +kernel
theorem dX6_pays_104 : decode cX6_pays 104 = .ok (.lload 6, 2) := by decide +kernel
theorem dX6_pays_106 : decode cX6_pays 106 = .ok (.lload 9, 2) := by decide +kernel
theorem dX6_pays_108 : decode cX6_pays 108 = .ok (.lsub, 1) := by decide +kernel
theorem dX6_pays_109 : decode cX6_pays 109 = .ok (.lstore 6, 2) := by decide +kernel
theorem dX6_pays_111 : decode cX6_pays 111 = .ok (.aload_n 0, 1) := by decide +kernel
theorem dX6_pays_112 : decode cX6_pays 112 = .ok (.getfield 7, 3) := by decide +kernel
theorem dX6_pays_115 : decode cX6_pays 115 = .ok (.iload_n 1, 1) := by decide +kernel
theorem dX6_pays_116 : decode cX6_pays 116 = .ok (.bipush 12, 2) := by decide +kernel
theorem dX6_pays_118 : decode cX6_pays 118 = .ok (.invokestatic 89, 3) := by decide +kernel
theorem dX6_pays_121 : decode cX6_pays 121 = .ok (.laload, 1) := by decide +kernel
theorem dX6_pays_122 : decode cX6_pays 122 = .ok (.lload 6, 2) := by decide +kernel
theorem dX6_pays_124 : decode cX6_pays 124 = .ok (.lcmp, 1) := by decide +kernel
theorem dX6_pays_125 : decode cX6_pays 125 = .ok (.ifCond .ge 17, 3) := by decide +kernel
theorem dX6_pays_128 : decode cX6_pays 128 = .ok (.aload_n 0, 1) := by decide +kernel
theorem dX6_pays_129 : decode cX6_pays 129 = .ok (.getfield 7, 3) := by decide +kernel
theorem dX6_pays_132 : decode cX6_pays 132 = .ok (.iload_n 1, 1) := by decide +kernel
theorem dX6_pays_133 : decode cX6_pays 133 = .ok (.bipush 12, 2) := by decide +kernel
theorem dX6_pays_135 : decode cX6_pays 135 = .ok (.invokestatic 89, 3) := by decide +kernel
theorem dX6_pays_138 : decode cX6_pays 138 = .ok (.laload, 1) := by decide +kernel
theorem dX6_pays_139 : decode cX6_pays 139 = .ok (.goto 5, 3) := by decide +kernel
theorem dX6_pays_142 : decode cX6_pays 142 = .ok (.lload 6, 2) := by decide +kernel
theorem dX6_pays_144 : decode cX6_pays 144 = .ok (.lstore 11, 2) := by decide +kernel
theorem dX6_pays_146 : decode cX6_pays 146 = .ok (.aload_n 0, 1) := by decide +kernel
theorem dX6_pays_147 : decode cX6_pays 147 = .ok (.getfield 7, 3) := by decide +kernel
theorem dX6_pays_150 : decode cX6_pays 150 = .ok (.iload_n 1, 1) := by decide +kernel
theorem dX6_pays_151 : decode cX6_pays 151 = .ok (.bipush 12, 2) := by decide +kernel
theorem dX6_pays_153 : decode cX6_pays 153 = .ok (.invokestatic 89, 3) := by decide +kernel
theorem dX6_pays_156 : decode cX6_pays 156 = .ok (.dup2, 1) := by decide +kernel
theorem dX6_pays_157 : decode cX6_pays 157 = .ok (.laload, 1) := by decide +kernel
theorem dX6_pays_158 : decode cX6_pays 158 = .ok (.lload 11, 2) := by decide +kernel
theorem dX6_pays_160 : decode cX6_pays 160 = .ok (.lsub, 1) := by decide +kernel
theorem dX6_pays_161 : decode cX6_pays 161 = .ok (.lastore, 1) := by decide +kernel
theorem dX6_pays_162 : decode cX6_pays 162 = .ok (.aload_n 0, 1) := by decide +kernel
theorem dX6_pays_163 : decode cX6_pays 163 = .ok (.getfield 7, 3) := by decide +kernel
theorem dX6_pays_166 : decode cX6_pays 166 = .ok (.aload_n 0, 1) := by decide +kernel
theorem dX6_pays_167 : decode cX6_pays 167 = .ok (.getfield 7, 3) := by decide +kernel
theorem dX6_pays_170 : decode cX6_pays 170 = .ok (.iload_n 1, 1) := by decide +kernel
theorem dX6_pays_171 : decode cX6_pays 171 = .ok (.bipush 11, 2) := by decide +kernel
theorem dX6_pays_173 : decode cX6_pays 173 = .ok (.invokestatic 89, 3) := by decide +kernel
theorem dX6_pays_176 : decode cX6_pays 176 = .ok (.laload, 1) := by decide +kernel
theorem dX6_pays_177 : decode cX6_pays 177 = .ok (.l2i, 1) := by decide +kernel
theorem dX6_pays_178 : decode cX6_pays 178 = .ok (.iconst 1, 1) := by decide +kernel
theorem dX6_pays_179 : decode cX6_pays 179 = .ok (.invokestatic 63, 3) := by decide +kernel
theorem dX6_pays_182 : decode cX6_pays 182 = .ok (.dup2, 1) := by decide +kernel
theorem dX6_pays_183 : decode cX6_pays 183 = .ok (.laload, 1) := by decide +kernel
theorem dX6_pays_184 : decode cX6_pays 184 = .ok (.lload 11, 2) := by decide +kernel
theorem dX6_pays_186 : decode cX6_pays 186 = .ok (.ladd, 1) := by decide +kernel
theorem dX6_pays_187 : decode cX6_pays 187 = .ok (.lastore, 1) := by decide +kernel
theorem dX6_pays_188 : decode cX6_pays 188 = .ok (.lload 6, 2) := by decide +kernel
theorem dX6_pays_190 : decode cX6_pays 190 = .ok (.lload 11, 2) := by decide +kernel
theorem dX6_pays_192 : decode cX6_pays 192 = .ok (.lsub, 1) := by decide +kernel
theorem dX6_pays_193 : decode cX6_pays 193 = .ok (.lstore 6, 2) := by decide +kernel
theorem dX6_pays_195 : decode cX6_pays 195 = .ok (.aload_n 0, 1) := by decide +kernel
theorem dX6_pays_196 : decode cX6_pays 196 = .ok (.getfield 7, 3) := by decide +kernel
theorem dX6_pays_199 : decode cX6_pays 199 = .ok (.aload_n 0, 1) := by decide +kernel
theorem dX6_pays_200 : decode cX6_pays 200 = .ok (.getfield 7, 3) := by decide +kernel
theorem dX6_pays_203 : decode cX6_pays 203 = .ok (.iload_n 1, 1) := by decide +kernel
theorem dX6_pays_204 : decode cX6_pays 204 = .ok (.iconst 0, 1) := by decide +kernel
theorem dX6_pays_205 : decode cX6_pays 205 = .ok (.invokestatic 89, 3) := by decide +kernel
theorem dX6_pays_208 : decode cX6_pays 208 = .ok (.laload, 1) := by decide +kernel
theorem dX6_pays_209 : decode cX6_pays 209 = .ok (.l2i, 1) := by decide +kernel
theorem dX6_pays_210 : decode cX6_pays 210 = .ok (.iconst 1, 1) := by decide +kernel
theorem dX6_pays_211 : decode cX6_pays 211 = .ok (.invokestatic 63, 3) := by decide +kernel
theorem dX6_pays_214 : decode cX6_pays 214 = .ok (.dup2, 1) := by decide +kernel
theorem dX6_pays_215 : decode cX6_pays 215 = .ok (.laload, 1) := by decide +kernel
theorem dX6_pays_216 : decode cX6_pays 216 = .ok (.lload 6, 2) := by decide +kernel
theorem dX6_pays_218 : decode cX6_pays 218 = .ok (.ladd, 1) := by decide +kernel
theorem dX6_pays_219 : decode cX6_pays 219 = .ok (.lastore, 1) := by decide +kernel
theorem dX6_pays_220 : decode cX6_pays 220 = .ok (.aload_n 0, 1) := by decide +kernel
theorem dX6_pays_221 : decode cX6_pays 221 = .ok (.getfield 7, 3) := by decide +kernel
theorem dX6_pays_224 : decode cX6_pays 224 = .ok (.iload_n 1, 1) := by decide +kernel
theorem dX6_pays_225 : decode cX6_pays 225 = .ok (.bipush 7, 2) := by decide +kernel
theorem dX6_pays_227 : decode cX6_pays 227 = .ok (.invokestatic 89, 3) := by decide +kernel
theorem dX6_pays_230 : decode cX6_pays 230 = .ok (.dup2, 1) := by decide +kernel
theorem dX6_pays_231 : decode cX6_pays 231 = .ok (.laload, 1) := by decide +kernel
theorem dX6_pays_232 : decode cX6_pays 232 = .ok (.lload_n 2, 1) := by decide +kernel
theorem dX6_pays_233 : decode cX6_pays 233 = .ok (.ladd, 1) := by decide +kernel
theorem dX6_pays_234 : decode cX6_pays 234 = .ok (.lastore, 1) := by decide +kernel
theorem dX6_pays_235 : decode cX6_pays 235 = .ok (.return_, 1) := by decide +kernel
theorem dX6_proof_0 : decode cX6_proof 0 = .ok (.aload_n 0, 1) := by decide +kernel
theorem dX6_proof_1 : decode cX6_proof 1 = .ok (.iload_n 1, 1) := by decide +kernel
theorem dX6_proof_2 : decode cX6_proof 2 = .ok (.invokevirtual 66, 3) := by decide +kernel
theorem dX6_proof_5 : decode cX6_proof 5 = .ok (.ifCond .eq 27, 3) := by decide +kernel
theorem dX6_proof_8 : decode cX6_proof 8 = .ok (.aload_n 0, 1) := by decide +kernel
theorem dX6_proof_9 : decode cX6_proof 9 = .ok (.iload_n 1, 1) := by decide +kernel
theorem dX6_proof_10 : decode cX6_proof 10 = .ok (.i2l, 1) := by decide +kernel
theorem dX6_proof_11 : decode cX6_proof 11 = .ok (.invokevirtual 75, 3) := by decide +kernel
theorem dX6_proof_14 : decode cX6_proof 14 = .ok (.ifCond .ne 18, 3) := by decide +kernel
theorem dX6_proof_17 : decode cX6_proof 17 = .ok (.aload_n 0, 1) := by decide +kernel
theorem dX6_proof_18 : decode cX6_proof 18 = .ok (.getfield 7, 3) := by decide +kernel
theorem dX6_proof_21 : decode cX6_proof 21 = .ok (.iload_n 1, 1) := by decide +kernel
theorem dX6_proof_22 : decode cX6_proof 22 = .ok (.iconst 4, 1) := by decide +kernel
theorem dX6_proof_23 : decode cX6_proof 23 = .ok (.invokestatic 63, 3) := by decide +kernel
theorem dX6_proof_26 : decode cX6_proof 26 = .ok (.laload, 1) := by decide +kernel
theorem dX6_proof_27 : decode cX6_proof 27 = .ok (.lconst 1, 1) := by decide +kernel
theorem dX6_proof_28 : decode cX6_proof 28 = .ok (.lcmp, 1) := by decide +kernel
theorem dX6_proof_29 : decode cX6_proof 29 = .ok (.ifCond .ne 7, 3) := by decide +kernel
theorem dX6_proof_32 : decode cX6_proof 32 = .ok (.ldc2_w 41, 3) := by decide +kernel
theorem dX6_proof_35 : decode cX6_proof 35 = .ok (.lreturn, 1) := by decide +kernel
theorem dX6_proof_36 : decode cX6_proof 36 = .ok (.aload_n 0, 1) := by decide +kernel
theorem dX6_proof_37 : decode cX6_proof 37 = .ok (.getfield 7, 3) := by decide +kernel
theorem dX6_proof_40 : decode cX6_proof 40 = .ok (.iload_n 1, 1) := by decide +kernel
theorem dX6_proof_41 : decode cX6_proof 41 = .ok (.iconst 4, 1) := by decide +kernel
theorem dX6_proof_42 : decode cX6_proof 42 = .ok (.invokestatic 63, 3) := by decide +kernel
theorem dX6_proof_45 : decode cX6_proof 45 = .ok (.lconst 1, 1) := by decide +kernel
theorem dX6_proof_46 : decode cX6_proof 46 = .ok (.lastore, 1) := by decide +kernel
theorem dX6_proof_47 : decode cX6_proof 47 = .ok (.lconst 0, 1) := by decide +kernel
theorem dX6_proof_48 : decode cX6_proof 48 = .ok (.lstore_n 2, 1) := by decide +kernel
theorem dX6_proof_49 : decode cX6_proof 49 = .ok (.iconst 0, 1) := by decide +kernel
theorem dX6_proof_50 : decode cX6_proof 50 = .ok (.istore 4, 2) := by decide +kernel
theorem dX6_proof_52 : decode cX6_proof 52 = .ok (.iload 4, 2) := by decide +kernel
theorem dX6_proof_54 : decode cX6_proof 54 = .ok (.i2l, 1) := by decide +kernel
theorem dX6_proof_55 : decode cX6_proof 55 = .ok (.aload_n 0, 1) := by decide +kernel
theorem dX6_proof_56 : decode cX6_proof 56 = .ok (.getfield 7, 3) := by decide +kernel
theorem dX6_proof_59 : decode cX6_proof 59 = .ok (.sipush 5670, 3) := by decide +kernel
theorem dX6_proof_62 : decode cX6_proof 62 = .ok (.laload, 1) := by decide +kernel
theorem dX6_proof_63 : decode cX6_proof 63 = .ok (.lcmp, 1) := by decide +kernel
theorem dX6_proof_64 : decode cX6_proof 64 = .ok (.ifCond .ge 90, 3) := by decide +kernel
theorem dX6_proof_67 : decode cX6_proof 67 = .ok (.aload_n 0, 1) := by decide +kernel
theorem dX6_proof_68 : decode cX6_proof 68 = .ok (.iload 4, 2) := by decide +kernel
theorem dX6_proof_70 : decode cX6_proof 70 = .ok (.iload_n 1, 1) := by decide +kernel
theorem dX6_proof_71 : decode cX6_proof 71 = .ok (.invokevirtual 101, 3) := by decide +kernel
theorem dX6_proof_74 : decode cX6_proof 74 = .ok (.ifCond .ne 6, 3) := by decide +kernel
theorem dX6_proof_77 : decode cX6_proof 77 = .ok (.goto 71, 3) := by decide +kernel
theorem dX6_proof_80 : decode cX6_proof 80 = .ok (.aload_n 0, 1) := by decide +kernel
theorem dX6_proof_81 : decode cX6_proof 81 = .ok (.iload 4, 2) := by decide +kernel
theorem dX6_proof_83 : decode cX6_proof 83 = .ok (.invokevirtual 114, 3) := by decide +kernel
theorem dX6_proof_86 : decode cX6_proof 86 = .ok (.lstore 5, 2) := by decide +kernel
theorem dX6_proof_88 : decode cX6_proof 88 = .ok (.iconst 0, 1) := by decide +kernel
theorem dX6_proof_89 : decode cX6_proof 89 = .ok (.istore 7, 2) := by decide +kernel
theorem dX6_proof_91 : decode cX6_proof 91 = .ok (.iload 7, 2) := by decide +kernel
theorem dX6_proof_93 : decode cX6_proof 93 = .ok (.bipush 60, 2) := by decide +kernel
theorem dX6_proof_95 : decode cX6_proof 95 = .ok (.if_icmp .ge 27, 3) := by decide +kernel
theorem dX6_proof_98 : decode cX6_proof 98 = .ok (.aload_n 0, 1) := by decide +kernel
theorem dX6_proof_99 : decode cX6_proof 99 = .ok (.getfield 7, 3) := by decide +kernel
theorem dX6_proof_102 : decode cX6_proof 102 = .ok (.sipush 3263, 3) := by decide +kernel
theorem dX6_proof_105 : decode cX6_proof 105 = .ok (.bipush 60, 2) := by decide +kernel
theorem dX6_proof_107 : decode cX6_proof 107 = .ok (.iload 4, 2) := by decide +kernel
theorem dX6_proof_109 : decode cX6_proof 109 = .ok (.imul, 1) := by decide +kernel
theorem dX6_proof_110 : decode cX6_proof 110 = .ok (.iadd, 1) := by decide +kernel
theorem dX6_proof_111 : decode cX6_proof 111 = .ok (.iload 7, 2) := by decide +kernel
theorem dX6_proof_113 : decode cX6_proof 113 = .ok (.iadd, 1) := by decide +kernel
theorem dX6_proof_114 : decode cX6_proof 114 = .ok (.lconst 0, 1) := by decide +kernel
theorem dX6_proof_115 : decode cX6_proof 115 = .ok (.lastore, 1) := by decide +kernel
theorem dX6_proof_116 : decode cX6_proof 116 = .ok (.iinc 7 1, 3) := by decide +kernel
theorem dX6_proof_119 : decode cX6_proof 119 = .ok (.goto (-28), 3) := by decide +kernel
theorem dX6_proof_122 : decode cX6_proof 122 = .ok (.aload_n 0, 1) := by decide +kernel
theorem dX6_proof_123 : decode cX6_proof 123 = .ok (.iload 4, 2) := by decide +kernel
theorem dX6_proof_125 : decode cX6_proof 125 = .ok (.lload 5, 2) := by decide +kernel
theorem dX6_proof_127 : decode cX6_proof 127 = .ok (.invokevirtual 121, 3) := by decide +kernel
theorem dX6_proof_130 : decode cX6_proof 130 = .ok (.aload_n 0, 1) := by decide +kernel
theorem dX6_proof_131 : decode cX6_proof 131 = .ok (.getfield 7, 3) := by decide +kernel
theorem dX6_proof_134 : decode cX6_proof 134 = .ok (.iload 4, 2) := by decide +kernel
theorem dX6_proof_136 : decode cX6_proof 136 = .ok (.bipush 10, 2) := by decide +kernel
theorem dX6_proof_138 : decode cX6_proof 138 = .ok (.invokestatic 89, 3) := by decide +kernel
theorem dX6_proof_141 : decode cX6_proof 141 = .ok (.lconst 0, 1) := by decide +kernel
theorem dX6_proof_142 : decode cX6_proof 142 = .ok (.lastore, 1) := by decide +kernel
theorem dX6_proof_143 : decode cX6_proof 143 = .ok (.lload_n 2, 1) := by decide +kernel
theorem dX6_proof_144 : decode cX6_proof 144 = .ok (.lload 5, 2) := by decide +kernel
theorem dX6_proof_146 : decode cX6_proof 146 = .ok (.ladd, 1) := by decide +kernel
theorem dX6_proof_147 : decode cX6_proof 147 = .ok (.lstore_n 2, 1) := by decide +kernel
theorem dX6_proof_148 : decode cX6_proof 148 = .ok (.iinc 4 1, 3) := by decide +kernel
theorem dX6_proof_151 : decode cX6_proof 151 = .ok (.goto (-99), 3) := by decide +kernel
theorem dX6_proof_154 : decode cX6_proof 154 = .ok (.lload_n 2, 1) := by decide +kernel
theorem dX6_proof_155 : decode cX6_proof 155 = .ok (.lreturn, 1) := by decide +kernel
theorem dX6_death_0 : decode cX6_death 0 = .ok (.aload_n 0, 1) := by decide +kernel
theorem dX6_death_1 : decode cX6_death 1 = .ok (.iload_n 1, 1) := by decide +kernel
theorem dX6_death_2 : decode cX6_death 2 = .ok (.invokevirtual 66, 3) := by decide +kernel
theorem dX6_death_5 : decode cX6_death 5 = .ok (.ifCond .eq 42, 3) := by decide +kernel
theorem dX6_death_8 : decode cX6_death 8 = .ok (.aload_n 0, 1) := by decide +kernel
theorem dX6_death_9 : decode cX6_death 9 = .ok (.iload_n 1, 1) := by decide +kernel
theorem dX6_death_10 : decode cX6_death 10 = .ok (.i2l, 1) := by decide +kernel
theorem dX6_death_11 : decode cX6_death 11 = .ok (.invokevirtual 75, 3) := by decide +kernel
theorem dX6_death_14 : decode cX6_death 14 = .ok (.ifCond .ne 33, 3) := by decide +kernel
theorem dX6_death_17 : decode cX6_death 17 = .ok (.iload_n 2, 1) := by decide +kernel
theorem dX6_death_18 : decode cX6_death 18 = .ok (.i2l, 1) := by decide +kernel
theorem dX6_death_19 : decode cX6_death 19 = .ok (.aload_n 0, 1) := by decide +kernel
theorem dX6_death_20 : decode cX6_death 20 = .ok (.getfield 7, 3) := by decide +kernel
theorem dX6_death_23 : decode cX6_death 23 = .ok (.iload_n 1, 1) := by decide +kernel
theorem dX6_death_24 : decode cX6_death 24 = .ok (.iconst 0, 1) := by decide +kernel
theorem dX6_death_25 : decode cX6_death 25 = .ok (.invokestatic 63, 3) := by decide +kernel
theorem dX6_death_28 : decode cX6_death 28 = .ok (.laload, 1) := by decide +kernel
theorem dX6_death_29 : decode cX6_death 29 = .ok (.lcmp, 1) := by decide +kernel
theorem dX6_death_30 : decode cX6_death 30 = .ok (.ifCond .lt 17, 3) := by decide +kernel
theorem dX6_death_33 : decode cX6_death 33 = .ok (.iload_n 2, 1) := by decide +kernel
theorem dX6_death_34 : decode cX6_death 34 = .ok (.i2l, 1) := by decide +kernel
theorem dX6_death_35 : decode cX6_death 35 = .ok (.aload_n 0, 1) := by decide +kernel
theorem dX6_death_36 : decode cX6_death 36 = .ok (.getfield 7, 3) := by decide +kernel
theorem dX6_death_39 : decode cX6_death 39 = .ok (.sipush 5663, 3) := by decide +kernel
theorem dX6_death_42 : decode cX6_death 42 = .ok (.laload, 1) := by decide +kernel
theorem dX6_death_43 : decode cX6_death 43 = .ok (.lcmp, 1) := by decide +kernel
theorem dX6_death_44 : decode cX6_death 44 = .ok (.ifCond .le 7, 3) := by decide +kernel
theorem dX6_death_47 : decode cX6_death 47 = .ok (.ldc2_w 41, 3) := by decide +kernel
theorem dX6_death_50 : decode cX6_death 50 = .ok (.lreturn, 1) := by decide +kernel
theorem dX6_death_51 : decode cX6_death 51 = .ok (.aload_n 0, 1) := by decide +kernel
theorem dX6_death_52 : decode cX6_death 52 = .ok (.getfield 7, 3) := by decide +kernel
theorem dX6_death_55 : decode cX6_death 55 = .ok (.iload_n 1, 1) := by decide +kernel
theorem dX6_death_56 : decode cX6_death 56 = .ok (.iconst 5, 1) := by decide +kernel
theorem dX6_death_57 : decode cX6_death 57 = .ok (.invokestatic 63, 3) := by decide +kernel
theorem dX6_death_60 : decode cX6_death 60 = .ok (.lconst 1, 1) := by decide +kernel
theorem dX6_death_61 : decode cX6_death 61 = .ok (.lastore, 1) := by decide +kernel
theorem dX6_death_62 : decode cX6_death 62 = .ok (.aload_n 0, 1) := by decide +kernel
theorem dX6_death_63 : decode cX6_death 63 = .ok (.getfield 7, 3) := by decide +kernel
theorem dX6_death_66 : decode cX6_death 66 = .ok (.iload_n 1, 1) := by decide +kernel
theorem dX6_death_67 : decode cX6_death 67 = .ok (.bipush 6, 2) := by decide +kernel
theorem dX6_death_69 : decode cX6_death 69 = .ok (.invokestatic 63, 3) := by decide +kernel
theorem dX6_death_72 : decode cX6_death 72 = .ok (.iload_n 2, 1) := by decide +kernel
theorem dX6_death_73 : decode cX6_death 73 = .ok (.i2l, 1) := by decide +kernel
theorem dX6_death_74 : decode cX6_death 74 = .ok (.lastore, 1) := by decide +kernel
theorem dX6_death_75 : decode cX6_death 75 = .ok (.aload_n 0, 1) := by decide +kernel
theorem dX6_death_76 : decode cX6_death 76 = .ok (.getfield 7, 3) := by decide +kernel
theorem dX6_death_79 : decode cX6_death 79 = .ok (.iload_n 1, 1) := by decide +kernel
theorem dX6_death_80 : decode cX6_death 80 = .ok (.iconst 4, 1) := by decide +kernel
theorem dX6_death_81 : decode cX6_death 81 = .ok (.invokestatic 63, 3) := by decide +kernel
theorem dX6_death_84 : decode cX6_death 84 = .ok (.lconst 0, 1) := by decide +kernel
theorem dX6_death_85 : decode cX6_death 85 = .ok (.lastore, 1) := by decide +kernel
theorem dX6_death_86 : decode cX6_death 86 = .ok (.lconst 0, 1) := by decide +kernel
theorem dX6_death_87 : decode cX6_death 87 = .ok (.lstore_n 3, 1) := by decide +kernel
theorem dX6_death_88 : decode cX6_death 88 = .ok (.iconst 0, 1) := by decide +kernel
theorem dX6_death_89 : decode cX6_death 89 = .ok (.istore 5, 2) := by decide +kernel
theorem dX6_death_91 : decode cX6_death 91 = .ok (.iload 5, 2) := by decide +kernel
theorem dX6_death_93 : decode cX6_death 93 = .ok (.i2l, 1) := by decide +kernel
theorem dX6_death_94 : decode cX6_death 94 = .ok (.aload_n 0, 1) := by decide +kernel
theorem dX6_death_95 : decode cX6_death 95 = .ok (.getfield 7, 3) := by decide +kernel
theorem dX6_death_98 : decode cX6_death 98 = .ok (.sipush 5670, 3) := by decide +kernel
theorem dX6_death_101 : decode cX6_death 101 = .ok (.laload, 1) := by decide +kernel
theorem dX6_death_102 : decode cX6_death 102 = .ok (.lcmp, 1) := by decide +kernel
theorem dX6_death_103 : decode cX6_death 103 = .ok (.ifCond .ge 37, 3) := by decide +kernel
theorem dX6_death_106 : decode cX6_death 106 = .ok (.aload_n 0, 1) := by decide +kernel
theorem dX6_death_107 : decode cX6_death 107 = .ok (.iload 5, 2) := by decide +kernel
theorem dX6_death_109 : decode cX6_death 109 = .ok (.iload_n 1, 1) := by decide +kernel
theorem dX6_death_110 : decode cX6_death 110 = .ok (.invokevirtual 101, 3) := by decide +kernel
theorem dX6_death_113 : decode cX6_death 113 = .ok (.ifCond .eq 21, 3) := by decide +kernel
theorem dX6_death_116 : decode cX6_death 116 = .ok (.aload_n 0, 1) := by decide +kernel
theorem dX6_death_117 : decode cX6_death 117 = .ok (.iload 5, 2) := by decide +kernel
theorem dX6_death_119 : decode cX6_death 119 = .ok (.invokevirtual 109, 3) := by decide +kernel
theorem dX6_death_122 : decode cX6_death 122 = .ok (.ifCond .eq 12, 3) := by decide +kernel
theorem dX6_death_125 : decode cX6_death 125 = .ok (.lload_n 3, 1) := by decide +kernel
theorem dX6_death_126 : decode cX6_death 126 = .ok (.aload_n 0, 1) := by decide +kernel
theorem dX6_death_127 : decode cX6_death 127 = .ok (.iload 5, 2) := by decide +kernel
theorem dX6_death_129 : decode cX6_death 129 = .ok (.invokevirtual 125, 3) := by decide +kernel
theorem dX6_death_132 : decode cX6_death 132 = .ok (.ladd, 1) := by decide +kernel
theorem dX6_death_133 : decode cX6_death 133 = .ok (.lstore_n 3, 1) := by decide +kernel
theorem dX6_death_134 : decode cX6_death 134 = .ok (.iinc 5 1, 3) := by decide +kernel
theorem dX6_death_137 : decode cX6_death 137 = .ok (.goto (-46), 3) := by decide +kernel
theorem dX6_death_140 : decode cX6_death 140 = .ok (.lload_n 3, 1) := by decide +kernel
theorem dX6_death_141 : decode cX6_death 141 = .ok (.lreturn, 1) := by decide +kernel
theorem dX6_ends_0 : decode cX6_ends 0 = .ok (.aload_n 0, 1) := by decide +kernel
theorem dX6_ends_1 : decode cX6_ends 1 = .ok (.getfield 7, 3) := by decide +kernel
theorem dX6_ends_4 : decode cX6_ends 4 = .ok (.aload_n 0, 1) := by decide +kernel
theorem dX6_ends_5 : decode cX6_ends 5 = .ok (.getfield 7, 3) := by decide +kernel
theorem dX6_ends_8 : decode cX6_ends 8 = .ok (.iload_n 1, 1) := by decide +kernel
theorem dX6_ends_9 : decode cX6_ends 9 = .ok (.iconst 1, 1) := by decide +kernel
theorem dX6_ends_10 : decode cX6_ends 10 = .ok (.invokestatic 89, 3) := by decide +kernel
theorem dX6_ends_13 : decode cX6_ends 13 = .ok (.laload, 1) := by decide +kernel
theorem dX6_ends_14 : decode cX6_ends 14 = .ok (.l2i, 1) := by decide +kernel
theorem dX6_ends_15 : decode cX6_ends 15 = .ok (.bipush 6, 2) := by decide +kernel
theorem dX6_ends_17 : decode cX6_ends 17 = .ok (.invokestatic 63, 3) := by decide +kernel
theorem dX6_ends_20 : decode cX6_ends 20 = .ok (.laload, 1) := by decide +kernel
theorem dX6_ends_21 : decode cX6_ends 21 = .ok (.lstore_n 2, 1) := by decide +kernel
theorem dX6_ends_22 : decode cX6_ends 22 = .ok (.aload_n 0, 1) := by decide +kernel
theorem dX6_ends_23 : decode cX6_ends 23 = .ok (.getfield 7, 3) := by decide +kernel
theorem dX6_ends_26 : decode cX6_ends 26 = .ok (.iload_n 1, 1) := by decide +kernel
theorem dX6_ends_27 : decode cX6_ends 27 = .ok (.iconst 2, 1) := by decide +kernel
theorem dX6_ends_28 : decode cX6_ends 28 = .ok (.invokestatic 89, 3) := by decide +kernel
theorem dX6_ends_31 : decode cX6_ends 31 = .ok (.laload, 1) := by decide +kernel
theorem dX6_ends_32 : decode cX6_ends 32 = .ok (.lstore 4, 2) := by decide +kernel
theorem dX6_ends_34 : decode cX6_ends 34 = .ok (.lload 4, 2) := by decide +kernel
theorem dX6_ends_36 : decode cX6_ends 36 = .ok (.lconst 0, 1) := by decide +kernel
theorem dX6_ends_37 : decode cX6_ends 37 = .ok (.lcmp, 1) := by decide +kernel
theorem dX6_ends_38 : decode cX6_ends 38 = .ok (.ifCond .lt 35, 3) := by decide +kernel
theorem dX6_ends_41 : decode cX6_ends 41 = .ok (.aload_n 0, 1) := by decide +kernel
theorem dX6_ends_42 : decode cX6_ends 42 = .ok (.getfield 7, 3) := by decide +kernel
theorem dX6_ends_45 : decode cX6_ends 45 = .ok (.lload 4, 2) := by decide +kernel
theorem dX6_ends_47 : decode cX6_ends 47 = .ok (.l2i, 1) := by decide +kernel
theorem dX6_ends_48 : decode cX6_ends 48 = .ok (.bipush 6, 2) := by decide +kernel
theorem dX6_ends_50 : decode cX6_ends 50 = .ok (.invokestatic 63, 3) := by decide +kernel
theorem dX6_ends_53 : decode cX6_ends 53 = .ok (.laload, 1) := by decide +kernel
theorem dX6_ends_54 : decode cX6_ends 54 = .ok (.lload_n 2, 1) := by decide +kernel
theorem dX6_ends_55 : decode cX6_ends 55 = .ok (.lcmp, 1) := by decide +kernel
theorem dX6_ends_56 : decode cX6_ends 56 = .ok (.ifCond .le 17, 3) := by decide +kernel
theorem dX6_ends_59 : decode cX6_ends 59 = .ok (.aload_n 0, 1) := by decide +kernel
theorem dX6_ends_60 : decode cX6_ends 60 = .ok (.getfield 7, 3) := by decide +kernel
theorem dX6_ends_63 : decode cX6_ends 63 = .ok (.lload 4, 2) := by decide +kernel
theorem dX6_ends_65 : decode cX6_ends 65 = .ok (.l2i, 1) := by decide +kernel
theorem dX6_ends_66 : decode cX6_ends 66 = .ok (.bipush 6, 2) := by decide +kernel
theorem dX6_ends_68 : decode cX6_ends 68 = .ok (.invokestatic 63, 3) := by decide +kernel
theorem dX6_ends_71 : decode cX6_ends 71 = .ok (.laload, 1) := by decide +kernel
theorem dX6_ends_72 : decode cX6_ends 72 = .ok (.lstore_n 2, 1) := by decide +kernel
theorem dX6_ends_73 : decode cX6_ends 73 = .ok (.lconst 0, 1) := by decide +kernel
theorem dX6_ends_74 : decode cX6_ends 74 = .ok (.lstore 6, 2) := by decide +kernel
theorem dX6_ends_76 : decode cX6_ends 76 = .ok (.iconst 0, 1) := by decide +kernel
theorem dX6_ends_77 : decode cX6_ends 77 = .ok (.istore 8, 2) := by decide +kernel
theorem dX6_ends_79 : decode cX6_ends 79 = .ok (.iload 8, 2) := by decide +kernel
theorem dX6_ends_81 : decode cX6_ends 81 = .ok (.bipush 60, 2) := by decide +kernel
theorem dX6_ends_83 : decode cX6_ends 83 = .ok (.if_icmp .ge 97, 3) := by decide +kernel
theorem dX6_ends_86 : decode cX6_ends 86 = .ok (.sipush 3263, 3) := by decide +kernel
theorem dX6_ends_89 : decode cX6_ends 89 = .ok (.bipush 60, 2) := by decide +kernel
theorem dX6_ends_91 : decode cX6_ends 91 = .ok (.iload_n 1, 1) := by decide +kernel
theorem dX6_ends_92 : decode cX6_ends 92 = .ok (.imul, 1) := by decide +kernel
theorem dX6_ends_93 : decode cX6_ends 93 = .ok (.iadd, 1) := by decide +kernel
theorem dX6_ends_94 : decode cX6_ends 94 = .ok (.iload 8, 2) := by decide +kernel
theorem dX6_ends_96 : decode cX6_ends 96 = .ok (.iadd, 1) := by decide +kernel
theorem dX6_ends_97 : decode cX6_ends 97 = .ok (.istore 9, 2) := by decide +kernel
theorem dX6_ends_99 : decode cX6_ends 99 = .ok (.iload 8, 2) := by decide +kernel
theorem dX6_ends_101 : decode cX6_ends 101 = .ok (.i2l, 1) := by decide +kernel
theorem dX6_ends_102 : decode cX6_ends 102 = .ok (.lload_n 2, 1) := by decide +kernel
theorem dX6_ends_103 : decode cX6_ends 103 = .ok (.lcmp, 1) := by decide +kernel
theorem dX6_ends_104 : decode cX6_ends 104 = .ok (.ifCond .le 50, 3) := by decide +kernel
theorem dX6_ends_107 : decode cX6_ends 107 = .ok (.aload_n 0, 1) := by decide +kernel
theorem dX6_ends_108 : decode cX6_ends 108 = .ok (.getfield 7, 3) := by decide +kernel
theorem dX6_ends_111 : decode cX6_ends 111 = .ok (.sipush 5664, 3) := by decide +kernel
theorem dX6_ends_114 : decode cX6_ends 114 = .ok (.dup2, 1) := by decide +kernel
theorem dX6_ends_115 : decode cX6_ends 115 = .ok (.laload, 1) := by decide +kernel
theorem dX6_ends_116 : decode cX6_ends 116 = .ok (.aload_n 0, 1) := by decide +kernel
theorem dX6_ends_117 : decode cX6_ends 117 = .ok (.getfield 7, 3) := by decide +kernel
theorem dX6_ends_120 : decode cX6_ends 120 = .ok (.iload 9, 2) := by decide +kernel
theorem dX6_ends_122 : decode cX6_ends 122 = .ok (.laload, 1) := by decide +kernel
theorem dX6_ends_123 : decode cX6_ends 123 = .ok (.ladd, 1) := by decide +kernel
theorem dX6_ends_124 : decode cX6_ends 124 = .ok (.lastore, 1) := by decide +kernel
theorem dX6_ends_125 : decode cX6_ends 125 = .ok (.aload_n 0, 1) := by decide +kernel
theorem dX6_ends_126 : decode cX6_ends 126 = .ok (.getfield 7, 3) := by decide +kernel
theorem dX6_ends_129 : decode cX6_ends 129 = .ok (.sipush 863, 3) := by decide +kernel
theorem dX6_ends_132 : decode cX6_ends 132 = .ok (.bipush 60, 2) := by decide +kernel
theorem dX6_ends_134 : decode cX6_ends 134 = .ok (.iload_n 1, 1) := by decide +kernel
theorem dX6_ends_135 : decode cX6_ends 135 = .ok (.imul, 1) := by decide +kernel
theorem dX6_ends_136 : decode cX6_ends 136 = .ok (.iadd, 1) := by decide +kernel
theorem dX6_ends_137 : decode cX6_ends 137 = .ok (.iload 8, 2) := by decide +kernel
theorem dX6_ends_139 : decode cX6_ends 139 = .ok (.iadd, 1) := by decide +kernel
theorem dX6_ends_140 : decode cX6_ends 140 = .ok (.dup2, 1) := by decide +kernel
theorem dX6_ends_141 : decode cX6_ends 141 = .ok (.laload, 1) := by decide +kernel
theorem dX6_ends_142 : decode cX6_ends 142 = .ok (.aload_n 0, 1) := by decide +kernel
theorem dX6_ends_143 : decode cX6_ends 143 = .ok (.getfield 7, 3) := by decide +kernel
theorem dX6_ends_146 : decode cX6_ends 146 = .ok (.iload 9, 2) := by decide +kernel
theorem dX6_ends_148 : decode cX6_ends 148 = .ok (.laload, 1) := by decide +kernel
theorem dX6_ends_149 : decode cX6_ends 149 = .ok (.lsub, 1) := by decide +kernel
theorem dX6_ends_150 : decode cX6_ends 150 = .ok (.lastore, 1) := by decide +kernel
theorem dX6_ends_151 : decode cX6_ends 151 = .ok (.goto 15, 3) := by decide +kernel
theorem dX6_ends_154 : decode cX6_ends 154 = .ok (.lload 6, 2) := by decide +kernel
theorem dX6_ends_156 : decode cX6_ends 156 = .ok (.aload_n 0, 1) := by decide +kernel
theorem dX6_ends_157 : decode cX6_ends 157 = .ok (.getfield 7, 3) := by decide +kernel
theorem dX6_ends_160 : decode cX6_ends 160 = .ok (.iload 9, 2) := by decide +kernel
theorem dX6_ends_162 : decode cX6_ends 162 = .ok (.laload, 1) := by decide +kernel
theorem dX6_ends_163 : decode cX6_ends 163 = .ok (.ladd, 1) := by decide +kernel
theorem dX6_ends_164 : decode cX6_ends 164 = .ok (.lstore 6, 2) := by decide +kernel
theorem dX6_ends_166 : decode cX6_ends 166 = .ok (.aload_n 0, 1) := by decide +kernel
theorem dX6_ends_167 : decode cX6_ends 167 = .ok (.getfield 7, 3) := by decide +kernel
theorem dX6_ends_170 : decode cX6_ends 170 = .ok (.iload 9, 2) := by decide +kernel
theorem dX6_ends_172 : decode cX6_ends 172 = .ok (.lconst 0, 1) := by decide +kernel
theorem dX6_ends_173 : decode cX6_ends 173 = .ok (.lastore, 1) := by decide +kernel
theorem dX6_ends_174 : decode cX6_ends 174 = .ok (.iinc 8 1, 3) := by decide +kernel
theorem dX6_ends_177 : decode cX6_ends 177 = .ok (.goto (-98), 3) := by decide +kernel
theorem dX6_ends_180 : decode cX6_ends 180 = .ok (.aload_n 0, 1) := by decide +kernel
theorem dX6_ends_181 : decode cX6_ends 181 = .ok (.iload_n 1, 1) := by decide +kernel
theorem dX6_ends_182 : decode cX6_ends 182 = .ok (.lload 6, 2) := by decide +kernel
theorem dX6_ends_184 : decode cX6_ends 184 = .ok (.invokevirtual 121, 3) := by decide +kernel
theorem dX6_ends_187 : decode cX6_ends 187 = .ok (.lconst 0, 1) := by decide +kernel
theorem dX6_ends_188 : decode cX6_ends 188 = .ok (.lstore 8, 2) := by decide +kernel
theorem dX6_ends_190 : decode cX6_ends 190 = .ok (.iconst 0, 1) := by decide +kernel
theorem dX6_ends_191 : decode cX6_ends 191 = .ok (.istore 10, 2) := by decide +kernel
theorem dX6_ends_193 : decode cX6_ends 193 = .ok (.iload 10, 2) := by decide +kernel
theorem dX6_ends_195 : decode cX6_ends 195 = .ok (.bipush 60, 2) := by decide +kernel
theorem dX6_ends_197 : decode cX6_ends 197 = .ok (.if_icmp .ge 49, 3) := by decide +kernel
theorem dX6_ends_200 : decode cX6_ends 200 = .ok (.iload 10, 2) := by decide +kernel
theorem dX6_ends_202 : decode cX6_ends 202 = .ok (.i2l, 1) := by decide +kernel
theorem dX6_ends_203 : decode cX6_ends 203 = .ok (.lload_n 2, 1) := by decide +kernel
theorem dX6_ends_204 : decode cX6_ends 204 = .ok (.lcmp, 1) := by decide +kernel
theorem dX6_ends_205 : decode cX6_ends 205 = .ok (.ifCond .le 35, 3) := by decide +kernel
theorem dX6_ends_208 : decode cX6_ends 208 = .ok (.aload_n 0, 1) := by decide +kernel
theorem dX6_ends_209 : decode cX6_ends 209 = .ok (.iload_n 1, 1) := by decide +kernel
theorem dX6_ends_210 : decode cX6_ends 210 = .ok (.iload 10, 2) := by decide +kernel
theorem dX6_ends_212 : decode cX6_ends 212 = .ok (.i2l, 1) := by decide +kernel
theorem dX6_ends_213 : decode cX6_ends 213 = .ok (.invokevirtual 105, 3) := by decide +kernel
theorem dX6_ends_216 : decode cX6_ends 216 = .ok (.ifCond .ne 24, 3) := by decide +kernel
theorem dX6_ends_219 : decode cX6_ends 219 = .ok (.lload 8, 2) := by decide +kernel
theorem dX6_ends_221 : decode cX6_ends 221 = .ok (.aload_n 0, 1) := by decide +kernel
theorem dX6_ends_222 : decode cX6_ends 222 = .ok (.getfield 7, 3) := by decide +kernel
theorem dX6_ends_225 : decode cX6_ends 225 = .ok (.sipush 863, 3) := by decide +kernel
theorem dX6_ends_228 : decode cX6_ends 228 = .ok (.bipush 60, 2) := by decide +kernel
theorem dX6_ends_230 : decode cX6_ends 230 = .ok (.iload_n 1, 1) := by decide +kernel
theorem dX6_ends_231 : decode cX6_ends 231 = .ok (.imul, 1) := by decide +kernel
theorem dX6_ends_232 : decode cX6_ends 232 = .ok (.iadd, 1) := by decide +kernel
theorem dX6_ends_233 : decode cX6_ends 233 = .ok (.iload 10, 2) := by decide +kernel
theorem dX6_ends_235 : decode cX6_ends 235 = .ok (.iadd, 1) := by decide +kernel
theorem dX6_ends_236 : decode cX6_ends 236 = .ok (.laload, 1) := by decide +kernel
theorem dX6_ends_237 : decode cX6_ends 237 = .ok (.ladd, 1) := by decide +kernel
theorem dX6_ends_238 : decode cX6_ends 238 = .ok (.lstore 8, 2) := by decide +kernel
theorem dX6_ends_240 : decode cX6_ends 240 = .ok (.iinc 10 1, 3) := by decide +kernel
theorem dX6_ends_243 : decode cX6_ends 243 = .ok (.goto (-50), 3) := by decide +kernel
theorem dX6_ends_246 : decode cX6_ends 246 = .ok (.aload_n 0, 1) := by decide +kernel
theorem dX6_ends_247 : decode cX6_ends 247 = .ok (.getfield 7, 3) := by decide +kernel
theorem dX6_ends_250 : decode cX6_ends 250 = .ok (.aload_n 0, 1) := by decide +kernel
theorem dX6_ends_251 : decode cX6_ends 251 = .ok (.getfield 7, 3) := by decide +kernel
theorem dX6_ends_254 : decode cX6_ends 254 = .ok (.iload_n 1, 1) := by decide +kernel
theorem dX6_ends_255 : decode cX6_ends 255 = .ok (.iconst 0, 1) := by decide +kernel
theorem dX6_ends_256 : decode cX6_ends 256 = .ok (.invokestatic 89, 3) := by decide +kernel
theorem dX6_ends_259 : decode cX6_ends 259 = .ok (.laload, 1) := by decide +kernel
theorem dX6_ends_260 : decode cX6_ends 260 = .ok (.l2i, 1) := by decide +kernel
theorem dX6_ends_261 : decode cX6_ends 261 = .ok (.iconst 2, 1) := by decide +kernel
theorem dX6_ends_262 : decode cX6_ends 262 = .ok (.invokestatic 63, 3) := by decide +kernel
theorem dX6_ends_265 : decode cX6_ends 265 = .ok (.dup2, 1) := by decide +kernel
theorem dX6_ends_266 : decode cX6_ends 266 = .ok (.laload, 1) := by decide +kernel
theorem dX6_ends_267 : decode cX6_ends 267 = .ok (.lload 8, 2) := by decide +kernel
theorem dX6_ends_269 : decode cX6_ends 269 = .ok (.ladd, 1) := by decide +kernel
theorem dX6_ends_270 : decode cX6_ends 270 = .ok (.lastore, 1) := by decide +kernel
theorem dX6_ends_271 : decode cX6_ends 271 = .ok (.lload 8, 2) := by decide +kernel
theorem dX6_ends_273 : decode cX6_ends 273 = .ok (.lreturn, 1) := by decide +kernel
theorem dX6_close_0 : decode cX6_close 0 = .ok (.iload_n 1, 1) := by decide +kernel
theorem dX6_close_1 : decode cX6_close 1 = .ok (.i2l, 1) := by decide +kernel
theorem dX6_close_2 : decode cX6_close 2 = .ok (.lconst 0, 1) := by decide +kernel
theorem dX6_close_3 : decode cX6_close 3 = .ok (.ldc2_w 128, 3) := by decide +kernel
theorem dX6_close_6 : decode cX6_close 6 = .ok (.invokestatic 35, 3) := by decide +kernel
theorem dX6_close_9 : decode cX6_close 9 = .ok (.ifCond .eq 18, 3) := by decide +kernel
theorem dX6_close_12 : decode cX6_close 12 = .ok (.aload_n 0, 1) := by decide +kernel
theorem dX6_close_13 : decode cX6_close 13 = .ok (.getfield 7, 3) := by decide +kernel
theorem dX6_close_16 : decode cX6_close 16 = .ok (.sipush 5663, 3) := by decide +kernel
theorem dX6_close_19 : decode cX6_close 19 = .ok (.laload, 1) := by decide +kernel
theorem dX6_close_20 : decode cX6_close 20 = .ok (.ldc2_w 130, 3) := by decide +kernel
theorem dX6_close_23 : decode cX6_close 23 = .ok (.lcmp, 1) := by decide +kernel
theorem dX6_close_24 : decode cX6_close 24 = .ok (.ifCond .ne 7, 3) := by decide +kernel
theorem dX6_close_27 : decode cX6_close 27 = .ok (.ldc2_w 41, 3) := by decide +kernel
theorem dX6_close_30 : decode cX6_close 30 = .ok (.lreturn, 1) := by decide +kernel
theorem dX6_close_31 : decode cX6_close 31 = .ok (.aload_n 0, 1) := by decide +kernel
theorem dX6_close_32 : decode cX6_close 32 = .ok (.getfield 7, 3) := by decide +kernel
theorem dX6_close_35 : decode cX6_close 35 = .ok (.sipush 5664, 3) := by decide +kernel
theorem dX6_close_38 : decode cX6_close 38 = .ok (.laload, 1) := by decide +kernel
theorem dX6_close_39 : decode cX6_close 39 = .ok (.iload_n 1, 1) := by decide +kernel
theorem dX6_close_40 : decode cX6_close 40 = .ok (.i2l, 1) := by decide +kernel
theorem dX6_close_41 : decode cX6_close 41 = .ok (.ladd, 1) := by decide +kernel
theorem dX6_close_42 : decode cX6_close 42 = .ok (.lstore_n 2, 1) := by decide +kernel
theorem dX6_close_43 : decode cX6_close 43 = .ok (.aload_n 0, 1) := by decide +kernel
theorem dX6_close_44 : decode cX6_close 44 = .ok (.getfield 7, 3) := by decide +kernel
theorem dX6_close_47 : decode cX6_close 47 = .ok (.sipush 5671, 3) := by decide +kernel
theorem dX6_close_50 : decode cX6_close 50 = .ok (.dup2, 1) := by decide +kernel
theorem dX6_close_51 : decode cX6_close 51 = .ok (.laload, 1) := by decide +kernel
theorem dX6_close_52 : decode cX6_close 52 = .ok (.iload_n 1, 1) := by decide +kernel
theorem dX6_close_53 : decode cX6_close 53 = .ok (.i2l, 1) := by decide +kernel
theorem dX6_close_54 : decode cX6_close 54 = .ok (.ladd, 1) := by decide +kernel
theorem dX6_close_55 : decode cX6_close 55 = .ok (.lastore, 1) := by decide +kernel
theorem dX6_close_56 : decode cX6_close 56 = .ok (.aload_n 0, 1) := by decide +kernel
theorem dX6_close_57 : decode cX6_close 57 = .ok (.getfield 7, 3) := by decide +kernel
theorem dX6_close_60 : decode cX6_close 60 = .ok (.sipush 5669, 3) := by decide +kernel
theorem dX6_close_63 : decode cX6_close 63 = .ok (.laload, 1) := by decide +kernel
theorem dX6_close_64 : decode cX6_close 64 = .ok (.l2i, 1) := by decide +kernel
theorem dX6_close_65 : decode cX6_close 65 = .ok (.istore 4, 2) := by decide +kernel
theorem dX6_close_67 : decode cX6_close 67 = .ok (.aload_n 0, 1) := by decide +kernel
theorem dX6_close_68 : decode cX6_close 68 = .ok (.getfield 7, 3) := by decide +kernel
theorem dX6_close_71 : decode cX6_close 71 = .ok (.sipush 5670, 3) := by decide +kernel
theorem dX6_close_74 : decode cX6_close 74 = .ok (.laload, 1) := by decide +kernel
theorem dX6_close_75 : decode cX6_close 75 = .ok (.l2i, 1) := by decide +kernel
theorem dX6_close_76 : decode cX6_close 76 = .ok (.istore 5, 2) := by decide +kernel
theorem dX6_close_78 : decode cX6_close 78 = .ok (.lconst 0, 1) := by decide +kernel
theorem dX6_close_79 : decode cX6_close 79 = .ok (.lstore 6, 2) := by decide +kernel
theorem dX6_close_81 : decode cX6_close 81 = .ok (.iconst 0, 1) := by decide +kernel
theorem dX6_close_82 : decode cX6_close 82 = .ok (.istore 8, 2) := by decide +kernel
theorem dX6_close_84 : decode cX6_close 84 = .ok (.iload 8, 2) := by decide +kernel
theorem dX6_close_86 : decode cX6_close 86 = .ok (.iload 4, 2) := by decide +kernel
theorem dX6_close_88 : decode cX6_close 88 = .ok (.if_icmp .ge 41, 3) := by decide +kernel
theorem dX6_close_91 : decode cX6_close 91 = .ok (.lload 6, 2) := by decide +kernel
theorem dX6_close_93 : decode cX6_close 93 = .ok (.aload_n 0, 1) := by decide +kernel
theorem dX6_close_94 : decode cX6_close 94 = .ok (.getfield 7, 3) := by decide +kernel
theorem dX6_close_97 : decode cX6_close 97 = .ok (.iload 8, 2) := by decide +kernel
theorem dX6_close_99 : decode cX6_close 99 = .ok (.iconst 3, 1) := by decide +kernel
theorem dX6_close_100 : decode cX6_close 100 = .ok (.invokestatic 55, 3) := by decide +kernel
theorem dX6_close_103 : decode cX6_close 103 = .ok (.laload, 1) := by decide +kernel
theorem dX6_close_104 : decode cX6_close 104 = .ok (.ladd, 1) := by decide +kernel
theorem dX6_close_105 : decode cX6_close 105 = .ok (.lstore 6, 2) := by decide +kernel
theorem dX6_close_107 : decode cX6_close 107 = .ok (.aload_n 0, 1) := by decide +kernel
theorem dX6_close_108 : decode cX6_close 108 = .ok (.getfield 19, 3) := by decide +kernel
theorem dX6_close_111 : decode cX6_close 111 = .ok (.iload 8, 2) := by decide +kernel
theorem dX6_close_113 : decode cX6_close 113 = .ok (.lconst 0, 1) := by decide +kernel
theorem dX6_close_114 : decode cX6_close 114 = .ok (.lastore, 1) := by decide +kernel
theorem dX6_close_115 : decode cX6_close 115 = .ok (.aload_n 0, 1) := by decide +kernel
theorem dX6_close_116 : decode cX6_close 116 = .ok (.getfield 16, 3) := by decide +kernel
theorem dX6_close_119 : decode cX6_close 119 = .ok (.iload 8, 2) := by decide +kernel
theorem dX6_close_121 : decode cX6_close 121 = .ok (.lconst 0, 1) := by decide +kernel
theorem dX6_close_122 : decode cX6_close 122 = .ok (.lastore, 1) := by decide +kernel
theorem dX6_close_123 : decode cX6_close 123 = .ok (.iinc 8 1, 3) := by decide +kernel
theorem dX6_close_126 : decode cX6_close 126 = .ok (.goto (-42), 3) := by decide +kernel
theorem dX6_close_129 : decode cX6_close 129 = .ok (.iconst 0, 1) := by decide +kernel
theorem dX6_close_130 : decode cX6_close 130 = .ok (.istore 8, 2) := by decide +kernel
theorem dX6_close_132 : decode cX6_close 132 = .ok (.iload 8, 2) := by decide +kernel
theorem dX6_close_134 : decode cX6_close 134 = .ok (.iload 5, 2) := by decide +kernel
theorem dX6_close_136 : decode cX6_close 136 = .ok (.if_icmp .ge 64, 3) := by decide +kernel
theorem dX6_close_139 : decode cX6_close 139 = .ok (.aload_n 0, 1) := by decide +kernel
theorem dX6_close_140 : decode cX6_close 140 = .ok (.getfield 25, 3) := by decide +kernel
theorem dX6_close_143 : decode cX6_close 143 = .ok (.iload 8, 2) := by decide +kernel
theorem dX6_close_145 : decode cX6_close 145 = .ok (.aload_n 0, 1) := by decide +kernel
theorem dX6_close_146 : decode cX6_close 146 = .ok (.iload 8, 2) := by decide +kernel
theorem dX6_close_148 : decode cX6_close 148 = .ok (.invokevirtual 117, 3) := by decide +kernel
theorem dX6_close_151 : decode cX6_close 151 = .ok (.iastore, 1) := by decide +kernel
theorem dX6_close_152 : decode cX6_close 152 = .ok (.aload_n 0, 1) := by decide +kernel
theorem dX6_close_153 : decode cX6_close 153 = .ok (.getfield 25, 3) := by decide +kernel
theorem dX6_close_156 : decode cX6_close 156 = .ok (.iload 8, 2) := by decide +kernel
theorem dX6_close_158 : decode cX6_close 158 = .ok (.iaload, 1) := by decide +kernel
theorem dX6_close_159 : decode cX6_close 159 = .ok (.iconst 2, 1) := by decide +kernel
theorem dX6_close_160 : decode cX6_close 160 = .ok (.if_icmp .ge 34, 3) := by decide +kernel
theorem dX6_close_163 : decode cX6_close 163 = .ok (.aload_n 0, 1) := by decide +kernel
theorem dX6_close_164 : decode cX6_close 164 = .ok (.getfield 19, 3) := by decide +kernel
theorem dX6_close_167 : decode cX6_close 167 = .ok (.aload_n 0, 1) := by decide +kernel
theorem dX6_close_168 : decode cX6_close 168 = .ok (.getfield 7, 3) := by decide +kernel
theorem dX6_close_171 : decode cX6_close 171 = .ok (.iload 8, 2) := by decide +kernel
theorem dX6_close_173 : decode cX6_close 173 = .ok (.iconst 4, 1) := by decide +kernel
theorem dX6_close_174 : decode cX6_close 174 = .ok (.invokestatic 89, 3) := by decide +kernel
theorem dX6_close_177 : decode cX6_close 177 = .ok (.laload, 1) := by decide +kernel
theorem dX6_close_178 : decode cX6_close 178 = .ok (.l2i, 1) := by decide +kernel
theorem dX6_close_179 : decode cX6_close 179 = .ok (.dup2, 1) := by decide +kernel
theorem dX6_close_180 : decode cX6_close 180 = .ok (.laload, 1) := by decide +kernel
theorem dX6_close_181 : decode cX6_close 181 = .ok (.aload_n 0, 1) := by decide +kernel
theorem dX6_close_182 : decode cX6_close 182 = .ok (.getfield 7, 3) := by decide +kernel
theorem dX6_close_185 : decode cX6_close 185 = .ok (.iload 8, 2) := by decide +kernel
theorem dX6_close_187 : decode cX6_close 187 = .ok (.iconst 3, 1) := by decide +kernel
theorem dX6_close_188 : decode cX6_close 188 = .ok (.invokestatic 89, 3) := by decide +kernel
theorem dX6_close_191 : decode cX6_close 191 = .ok (.laload, 1) := by decide +kernel
theorem dX6_close_192 : decode cX6_close 192 = .ok (.ladd, 1) := by decide +kernel
theorem dX6_close_193 : decode cX6_close 193 = .ok (.lastore, 1) := by decide +kernel
theorem dX6_close_194 : decode cX6_close 194 = .ok (.iinc 8 1, 3) := by decide +kernel
theorem dX6_close_197 : decode cX6_close 197 = .ok (.goto (-65), 3) := by decide +kernel
theorem dX6_close_200 : decode cX6_close 200 = .ok (.lload_n 2, 1) := by decide +kernel
theorem dX6_close_201 : decode cX6_close 201 = .ok (.lstore 8, 2) := by decide +kernel
theorem dX6_close_203 : decode cX6_close 203 = .ok (.iconst 0, 1) := by decide +kernel
theorem dX6_close_204 : decode cX6_close 204 = .ok (.istore 10, 2) := by decide +kernel
theorem dX6_close_206 : decode cX6_close 206 = .ok (.iload 10, 2) := by decide +kernel
theorem dX6_close_208 : decode cX6_close 208 = .ok (.iload 4, 2) := by decide +kernel
theorem dX6_close_210 : decode cX6_close 210 = .ok (.if_icmp .ge 92, 3) := by decide +kernel
theorem dX6_close_213 : decode cX6_close 213 = .ok (.lload 6, 2) := by decide +kernel
theorem dX6_close_215 : decode cX6_close 215 = .ok (.lconst 0, 1) := by decide +kernel
theorem dX6_close_216 : decode cX6_close 216 = .ok (.lcmp, 1) := by decide +kernel
theorem dX6_close_217 : decode cX6_close 217 = .ok (.ifCond .le 85, 3) := by decide +kernel
theorem dX6_close_220 : decode cX6_close 220 = .ok (.lload_n 2, 1) := by decide +kernel
theorem dX6_close_221 : decode cX6_close 221 = .ok (.aload_n 0, 1) := by decide +kernel
theorem dX6_close_222 : decode cX6_close 222 = .ok (.getfield 7, 3) := by decide +kernel
theorem dX6_close_225 : decode cX6_close 225 = .ok (.iload 10, 2) := by decide +kernel
theorem dX6_close_227 : decode cX6_close 227 = .ok (.iconst 3, 1) := by decide +kernel
theorem dX6_close_228 : decode cX6_close 228 = .ok (.invokestatic 55, 3) := by decide +kernel
theorem dX6_close_231 : decode cX6_close 231 = .ok (.laload, 1) := by decide +kernel
theorem dX6_close_232 : decode cX6_close 232 = .ok (.lmul, 1) := by decide +kernel
theorem dX6_close_233 : decode cX6_close 233 = .ok (.lload 6, 2) := by decide +kernel
theorem dX6_close_235 : decode cX6_close 235 = .ok (.ldiv, 1) := by decide +kernel
theorem dX6_close_236 : decode cX6_close 236 = .ok (.lstore 11, 2) := by decide +kernel
theorem dX6_close_238 : decode cX6_close 238 = .ok (.iload 10, 2) := by decide +kernel
theorem dX6_close_240 : decode cX6_close 240 = .ok (.istore 13, 2) := by decide +kernel
theorem dX6_close_242 : decode cX6_close 242 = .ok (.iload 13, 2) := by decide +kernel
theorem dX6_close_244 : decode cX6_close 244 = .ok (.iload 4, 2) := by decide +kernel
theorem dX6_close_246 : decode cX6_close 246 = .ok (.if_icmp .ge 21, 3) := by decide +kernel
theorem dX6_close_249 : decode cX6_close 249 = .ok (.aload_n 0, 1) := by decide +kernel
theorem dX6_close_250 : decode cX6_close 250 = .ok (.getfield 19, 3) := by decide +kernel
theorem dX6_close_253 : decode cX6_close 253 = .ok (.iload 13, 2) := by decide +kernel
theorem dX6_close_255 : decode cX6_close 255 = .ok (.laload, 1) := by decide +kernel
theorem dX6_close_256 : decode cX6_close 256 = .ok (.lconst 0, 1) := by decide +kernel
theorem dX6_close_257 : decode cX6_close 257 = .ok (.lcmp, 1) := by decide +kernel
theorem dX6_close_258 : decode cX6_close 258 = .ok (.ifCond .ne 9, 3) := by decide +kernel
theorem dX6_close_261 : decode cX6_close 261 = .ok (.iinc 13 1, 3) := by decide +kernel
theorem dX6_close_264 : decode cX6_close 264 = .ok (.goto (-22), 3) := by decide +kernel
theorem dX6_close_267 : decode cX6_close 267 = .ok (.iload 13, 2) := by decide +kernel
theorem dX6_close_269 : decode cX6_close 269 = .ok (.iload 4, 2) := by decide +kernel
theorem dX6_close_271 : decode cX6_close 271 = .ok (.if_icmp .ne 6, 3) := by decide +kernel
theorem dX6_close_274 : decode cX6_close 274 = .ok (.goto 22, 3) := by decide +kernel
theorem dX6_close_277 : decode cX6_close 277 = .ok (.aload_n 0, 1) := by decide +kernel
theorem dX6_close_278 : decode cX6_close 278 = .ok (.getfield 16, 3) := by decide +kernel
theorem dX6_close_281 : decode cX6_close 281 = .ok (.iload 13, 2) := by decide +kernel
theorem dX6_close_283 : decode cX6_close 283 = .ok (.dup2, 1) := by decide +kernel
theorem dX6_close_284 : decode cX6_close 284 = .ok (.laload, 1) := by decide +kernel
theorem dX6_close_285 : decode cX6_close 285 = .ok (.lload 11, 2) := by decide +kernel
theorem dX6_close_287 : decode cX6_close 287 = .ok (.ladd, 1) := by decide +kernel
theorem dX6_close_288 : decode cX6_close 288 = .ok (.lastore, 1) := by decide +kernel
theorem dX6_close_289 : decode cX6_close 289 = .ok (.lload 8, 2) := by decide +kernel
theorem dX6_close_291 : decode cX6_close 291 = .ok (.lload 11, 2) := by decide +kernel
theorem dX6_close_293 : decode cX6_close 293 = .ok (.lsub, 1) := by decide +kernel
theorem dX6_close_294 : decode cX6_close 294 = .ok (.lstore 8, 2) := by decide +kernel
theorem dX6_close_296 : decode cX6_close 296 = .ok (.iinc 10 1, 3) := by decide +kernel
theorem dX6_close_299 : decode cX6_close 299 = .ok (.goto (-93), 3) := by decide +kernel
theorem dX6_close_302 : decode cX6_close 302 = .ok (.iconst 0, 1) := by decide +kernel
theorem dX6_close_303 : decode cX6_close 303 = .ok (.istore 10, 2) := by decide +kernel
theorem dX6_close_305 : decode cX6_close 305 = .ok (.iload 10, 2) := by decide +kernel
theorem dX6_close_307 : decode cX6_close 307 = .ok (.iload 5, 2) := by decide +kernel
theorem dX6_close_309 : decode cX6_close 309 = .ok (.if_icmp .ge 84, 3) := by decide +kernel
theorem dX6_close_312 : decode cX6_close 312 = .ok (.aload_n 0, 1) := by decide +kernel
theorem dX6_close_313 : decode cX6_close 313 = .ok (.getfield 7, 3) := by decide +kernel
theorem dX6_close_316 : decode cX6_close 316 = .ok (.iload 10, 2) := by decide +kernel
theorem dX6_close_318 : decode cX6_close 318 = .ok (.iconst 4, 1) := by decide +kernel
theorem dX6_close_319 : decode cX6_close 319 = .ok (.invokestatic 89, 3) := by decide +kernel
theorem dX6_close_322 : decode cX6_close 322 = .ok (.laload, 1) := by decide +kernel
theorem dX6_close_323 : decode cX6_close 323 = .ok (.l2i, 1) := by decide +kernel
theorem dX6_close_324 : decode cX6_close 324 = .ok (.istore 11, 2) := by decide +kernel
theorem dX6_close_326 : decode cX6_close 326 = .ok (.aload_n 0, 1) := by decide +kernel
theorem dX6_close_327 : decode cX6_close 327 = .ok (.getfield 22, 3) := by decide +kernel
theorem dX6_close_330 : decode cX6_close 330 = .ok (.iload 10, 2) := by decide +kernel
theorem dX6_close_332 : decode cX6_close 332 = .ok (.aload_n 0, 1) := by decide +kernel
theorem dX6_close_333 : decode cX6_close 333 = .ok (.getfield 25, 3) := by decide +kernel
theorem dX6_close_336 : decode cX6_close 336 = .ok (.iload 10, 2) := by decide +kernel
theorem dX6_close_338 : decode cX6_close 338 = .ok (.iaload, 1) := by decide +kernel
theorem dX6_close_339 : decode cX6_close 339 = .ok (.iconst 2, 1) := by decide +kernel
theorem dX6_close_340 : decode cX6_close 340 = .ok (.if_icmp .ge 33, 3) := by decide +kernel
theorem dX6_close_343 : decode cX6_close 343 = .ok (.aload_n 0, 1) := by decide +kernel
theorem dX6_close_344 : decode cX6_close 344 = .ok (.getfield 16, 3) := by decide +kernel
theorem dX6_close_347 : decode cX6_close 347 = .ok (.iload 11, 2) := by decide +kernel
theorem dX6_close_349 : decode cX6_close 349 = .ok (.laload, 1) := by decide +kernel
theorem dX6_close_350 : decode cX6_close 350 = .ok (.aload_n 0, 1) := by decide +kernel
theorem dX6_close_351 : decode cX6_close 351 = .ok (.getfield 7, 3) := by decide +kernel
theorem dX6_close_354 : decode cX6_close 354 = .ok (.iload 10, 2) := by decide +kernel
theorem dX6_close_356 : decode cX6_close 356 = .ok (.iconst 3, 1) := by decide +kernel
theorem dX6_close_357 : decode cX6_close 357 = .ok (.invokestatic 89, 3) := by decide +kernel
theorem dX6_close_360 : decode cX6_close 360 = .ok (.laload, 1) := by decide +kernel
theorem dX6_close_361 : decode cX6_close 361 = .ok (.lmul, 1) := by decide +kernel
theorem dX6_close_362 : decode cX6_close 362 = .ok (.aload_n 0, 1) := by decide +kernel
theorem dX6_close_363 : decode cX6_close 363 = .ok (.getfield 19, 3) := by decide +kernel
theorem dX6_close_366 : decode cX6_close 366 = .ok (.iload 11, 2) := by decide +kernel
theorem dX6_close_368 : decode cX6_close 368 = .ok (.laload, 1) := by decide +kernel
theorem dX6_close_369 : decode cX6_close 369 = .ok (.ldiv, 1) := by decide +kernel
theorem dX6_close_370 : decode cX6_close 370 = .ok (.goto 4, 3) := by decide +kernel
theorem dX6_close_373 : decode cX6_close 373 = .ok (.lconst 0, 1) := by decide +kernel
theorem dX6_close_374 : decode cX6_close 374 = .ok (.lastore, 1) := by decide +kernel
theorem dX6_close_375 : decode cX6_close 375 = .ok (.lload 8, 2) := by decide +kernel
theorem dX6_close_377 : decode cX6_close 377 = .ok (.aload_n 0, 1) := by decide +kernel
theorem dX6_close_378 : decode cX6_close 378 = .ok (.getfield 22, 3) := by decide +kernel
theorem dX6_close_381 : decode cX6_close 381 = .ok (.iload 10, 2) := by decide +kernel
theorem dX6_close_383 : decode cX6_close 383 = .ok (.laload, 1) := by decide +kernel
theorem dX6_close_384 : decode cX6_close 384 = .ok (.lsub, 1) := by decide +kernel
theorem dX6_close_385 : decode cX6_close 385 = .ok (.lstore 8, 2) := by decide +kernel
theorem dX6_close_387 : decode cX6_close 387 = .ok (.iinc 10 1, 3) := by decide +kernel
theorem dX6_close_390 : decode cX6_close 390 = .ok (.goto (-85), 3) := by decide +kernel
theorem dX6_close_393 : decode cX6_close 393 = .ok (.iconst 0, 1) := by decide +kernel
theorem dX6_close_394 : decode cX6_close 394 = .ok (.istore 10, 2) := by decide +kernel
theorem dX6_close_396 : decode cX6_close 396 = .ok (.iload 10, 2) := by decide +kernel
theorem dX6_close_398 : decode cX6_close 398 = .ok (.iload 4, 2) := by decide +kernel
theorem dX6_close_400 : decode cX6_close 400 = .ok (.if_icmp .ge 21, 3) := by decide +kernel
theorem dX6_close_403 : decode cX6_close 403 = .ok (.lload 8, 2) := by decide +kernel
theorem dX6_close_405 : decode cX6_close 405 = .ok (.aload_n 0, 1) := by decide +kernel
theorem dX6_close_406 : decode cX6_close 406 = .ok (.getfield 16, 3) := by decide +kernel
theorem dX6_close_409 : decode cX6_close 409 = .ok (.iload 10, 2) := by decide +kernel
theorem dX6_close_411 : decode cX6_close 411 = .ok (.laload, 1) := by decide +kernel
theorem dX6_close_412 : decode cX6_close 412 = .ok (.ladd, 1) := by decide +kernel
theorem dX6_close_413 : decode cX6_close 413 = .ok (.lstore 8, 2) := by decide +kernel
theorem dX6_close_415 : decode cX6_close 415 = .ok (.iinc 10 1, 3) := by decide +kernel
theorem dX6_close_418 : decode cX6_close 418 = .ok (.goto (-22), 3) := by decide +kernel
theorem dX6_close_421 : decode cX6_close 421 = .ok (.aload_n 0, 1) := by decide +kernel
theorem dX6_close_422 : decode cX6_close 422 = .ok (.getfield 7, 3) := by decide +kernel
theorem dX6_close_425 : decode cX6_close 425 = .ok (.sipush 5664, 3) := by decide +kernel
theorem dX6_close_428 : decode cX6_close 428 = .ok (.lload 8, 2) := by decide +kernel
theorem dX6_close_430 : decode cX6_close 430 = .ok (.lastore, 1) := by decide +kernel
theorem dX6_close_431 : decode cX6_close 431 = .ok (.aload_n 0, 1) := by decide +kernel
theorem dX6_close_432 : decode cX6_close 432 = .ok (.getfield 7, 3) := by decide +kernel
theorem dX6_close_435 : decode cX6_close 435 = .ok (.sipush 5663, 3) := by decide +kernel
theorem dX6_close_438 : decode cX6_close 438 = .ok (.laload, 1) := by decide +kernel
theorem dX6_close_439 : decode cX6_close 439 = .ok (.l2i, 1) := by decide +kernel
theorem dX6_close_440 : decode cX6_close 440 = .ok (.istore 10, 2) := by decide +kernel
theorem dX6_close_442 : decode cX6_close 442 = .ok (.lconst 0, 1) := by decide +kernel
theorem dX6_close_443 : decode cX6_close 443 = .ok (.lstore 11, 2) := by decide +kernel
theorem dX6_close_445 : decode cX6_close 445 = .ok (.iconst 0, 1) := by decide +kernel
theorem dX6_close_446 : decode cX6_close 446 = .ok (.istore 13, 2) := by decide +kernel
theorem dX6_close_448 : decode cX6_close 448 = .ok (.iload 13, 2) := by decide +kernel
theorem dX6_close_450 : decode cX6_close 450 = .ok (.iload 5, 2) := by decide +kernel
theorem dX6_close_452 : decode cX6_close 452 = .ok (.if_icmp .ge 165, 3) := by decide +kernel
theorem dX6_close_455 : decode cX6_close 455 = .ok (.aload_n 0, 1) := by decide +kernel
theorem dX6_close_456 : decode cX6_close 456 = .ok (.getfield 25, 3) := by decide +kernel
theorem dX6_close_459 : decode cX6_close 459 = .ok (.iload 13, 2) := by decide +kernel
theorem dX6_close_461 : decode cX6_close 461 = .ok (.iaload, 1) := by decide +kernel
theorem dX6_close_462 : decode cX6_close 462 = .ok (.iconst 2, 1) := by decide +kernel
theorem dX6_close_463 : decode cX6_close 463 = .ok (.if_icmp .ge 27, 3) := by decide +kernel
theorem dX6_close_466 : decode cX6_close 466 = .ok (.aload_n 0, 1) := by decide +kernel
theorem dX6_close_467 : decode cX6_close 467 = .ok (.getfield 7, 3) := by decide +kernel
theorem dX6_close_470 : decode cX6_close 470 = .ok (.sipush 863, 3) := by decide +kernel
theorem dX6_close_473 : decode cX6_close 473 = .ok (.bipush 60, 2) := by decide +kernel
theorem dX6_close_475 : decode cX6_close 475 = .ok (.iload 13, 2) := by decide +kernel
theorem dX6_close_477 : decode cX6_close 477 = .ok (.imul, 1) := by decide +kernel
theorem dX6_close_478 : decode cX6_close 478 = .ok (.iadd, 1) := by decide +kernel
theorem dX6_close_479 : decode cX6_close 479 = .ok (.iload 10, 2) := by decide +kernel
theorem dX6_close_481 : decode cX6_close 481 = .ok (.iadd, 1) := by decide +kernel
theorem dX6_close_482 : decode cX6_close 482 = .ok (.aload_n 0, 1) := by decide +kernel
theorem dX6_close_483 : decode cX6_close 483 = .ok (.getfield 22, 3) := by decide +kernel
theorem dX6_close_486 : decode cX6_close 486 = .ok (.iload 13, 2) := by decide +kernel
theorem dX6_close_488 : decode cX6_close 488 = .ok (.laload, 1) := by decide +kernel
theorem dX6_close_489 : decode cX6_close 489 = .ok (.lastore, 1) := by decide +kernel
theorem dX6_close_490 : decode cX6_close 490 = .ok (.aload_n 0, 1) := by decide +kernel
theorem dX6_close_491 : decode cX6_close 491 = .ok (.getfield 25, 3) := by decide +kernel
theorem dX6_close_494 : decode cX6_close 494 = .ok (.iload 13, 2) := by decide +kernel
theorem dX6_close_496 : decode cX6_close 496 = .ok (.iaload, 1) := by decide +kernel
theorem dX6_close_497 : decode cX6_close 497 = .ok (.iconst 1, 1) := by decide +kernel
theorem dX6_close_498 : decode cX6_close 498 = .ok (.if_icmp .ne 27, 3) := by decide +kernel
theorem dX6_close_501 : decode cX6_close 501 = .ok (.aload_n 0, 1) := by decide +kernel
theorem dX6_close_502 : decode cX6_close 502 = .ok (.getfield 7, 3) := by decide +kernel
theorem dX6_close_505 : decode cX6_close 505 = .ok (.sipush 3263, 3) := by decide +kernel
theorem dX6_close_508 : decode cX6_close 508 = .ok (.bipush 60, 2) := by decide +kernel
theorem dX6_close_510 : decode cX6_close 510 = .ok (.iload 13, 2) := by decide +kernel
theorem dX6_close_512 : decode cX6_close 512 = .ok (.imul, 1) := by decide +kernel
theorem dX6_close_513 : decode cX6_close 513 = .ok (.iadd, 1) := by decide +kernel
theorem dX6_close_514 : decode cX6_close 514 = .ok (.iload 10, 2) := by decide +kernel
theorem dX6_close_516 : decode cX6_close 516 = .ok (.iadd, 1) := by decide +kernel
theorem dX6_close_517 : decode cX6_close 517 = .ok (.aload_n 0, 1) := by decide +kernel
theorem dX6_close_518 : decode cX6_close 518 = .ok (.getfield 22, 3) := by decide +kernel
theorem dX6_close_521 : decode cX6_close 521 = .ok (.iload 13, 2) := by decide +kernel
theorem dX6_close_523 : decode cX6_close 523 = .ok (.laload, 1) := by decide +kernel
theorem dX6_close_524 : decode cX6_close 524 = .ok (.lastore, 1) := by decide +kernel
theorem dX6_close_525 : decode cX6_close 525 = .ok (.aload_n 0, 1) := by decide +kernel
theorem dX6_close_526 : decode cX6_close 526 = .ok (.getfield 25, 3) := by decide +kernel
theorem dX6_close_529 : decode cX6_close 529 = .ok (.iload 13, 2) := by decide +kernel
theorem dX6_close_531 : decode cX6_close 531 = .ok (.iaload, 1) := by decide +kernel
theorem dX6_close_532 : decode cX6_close 532 = .ok (.ifCond .ne 28, 3) := by decide +kernel
theorem dX6_close_535 : decode cX6_close 535 = .ok (.aload_n 0, 1) := by decide +kernel
theorem dX6_close_536 : decode cX6_close 536 = .ok (.iload 13, 2) := by decide +kernel
theorem dX6_close_538 : decode cX6_close 538 = .ok (.aload_n 0, 1) := by decide +kernel
theorem dX6_close_539 : decode cX6_close 539 = .ok (.getfield 22, 3) := by decide +kernel
theorem dX6_close_542 : decode cX6_close 542 = .ok (.iload 13, 2) := by decide +kernel
theorem dX6_close_544 : decode cX6_close 544 = .ok (.laload, 1) := by decide +kernel
theorem dX6_close_545 : decode cX6_close 545 = .ok (.invokevirtual 121, 3) := by decide +kernel
theorem dX6_close_548 : decode cX6_close 548 = .ok (.lload 11, 2) := by decide +kernel
theorem dX6_close_550 : decode cX6_close 550 = .ok (.aload_n 0, 1) := by decide +kernel
theorem dX6_close_551 : decode cX6_close 551 = .ok (.getfield 22, 3) := by decide +kernel
theorem dX6_close_554 : decode cX6_close 554 = .ok (.iload 13, 2) := by decide +kernel
theorem dX6_close_556 : decode cX6_close 556 = .ok (.laload, 1) := by decide +kernel
theorem dX6_close_557 : decode cX6_close 557 = .ok (.ladd, 1) := by decide +kernel
theorem dX6_close_558 : decode cX6_close 558 = .ok (.lstore 11, 2) := by decide +kernel
theorem dX6_close_560 : decode cX6_close 560 = .ok (.aload_n 0, 1) := by decide +kernel
theorem dX6_close_561 : decode cX6_close 561 = .ok (.getfield 7, 3) := by decide +kernel
theorem dX6_close_564 : decode cX6_close 564 = .ok (.iload 13, 2) := by decide +kernel
theorem dX6_close_566 : decode cX6_close 566 = .ok (.bipush 10, 2) := by decide +kernel
theorem dX6_close_568 : decode cX6_close 568 = .ok (.invokestatic 89, 3) := by decide +kernel
theorem dX6_close_571 : decode cX6_close 571 = .ok (.aload_n 0, 1) := by decide +kernel
theorem dX6_close_572 : decode cX6_close 572 = .ok (.getfield 25, 3) := by decide +kernel
theorem dX6_close_575 : decode cX6_close 575 = .ok (.iload 13, 2) := by decide +kernel
theorem dX6_close_577 : decode cX6_close 577 = .ok (.iaload, 1) := by decide +kernel
theorem dX6_close_578 : decode cX6_close 578 = .ok (.ifCond .eq 14, 3) := by decide +kernel
theorem dX6_close_581 : decode cX6_close 581 = .ok (.aload_n 0, 1) := by decide +kernel
theorem dX6_close_582 : decode cX6_close 582 = .ok (.getfield 25, 3) := by decide +kernel
theorem dX6_close_585 : decode cX6_close 585 = .ok (.iload 13, 2) := by decide +kernel
theorem dX6_close_587 : decode cX6_close 587 = .ok (.iaload, 1) := by decide +kernel
theorem dX6_close_588 : decode cX6_close 588 = .ok (.iconst 3, 1) := by decide +kernel
theorem dX6_close_589 : decode cX6_close 589 = .ok (.if_icmp .ne 7, 3) := by decide +kernel
theorem dX6_close_592 : decode cX6_close 592 = .ok (.lconst 0, 1) := by decide +kernel
theorem dX6_close_593 : decode cX6_close 593 = .ok (.goto 17, 3) := by decide +kernel
theorem dX6_close_596 : decode cX6_close 596 = .ok (.aload_n 0, 1) := by decide +kernel
theorem dX6_close_597 : decode cX6_close 597 = .ok (.getfield 7, 3) := by decide +kernel
theorem dX6_close_600 : decode cX6_close 600 = .ok (.iload 13, 2) := by decide +kernel
theorem dX6_close_602 : decode cX6_close 602 = .ok (.bipush 10, 2) := by decide +kernel
theorem dX6_close_604 : decode cX6_close 604 = .ok (.invokestatic 89, 3) := by decide +kernel
theorem dX6_close_607 : decode cX6_close 607 = .ok (.laload, 1) := by decide +kernel
theorem dX6_close_608 : decode cX6_close 608 = .ok (.lconst 1, 1) := by decide +kernel
theorem dX6_close_609 : decode cX6_close 609 = .ok (.ladd, 1) := by decide +kernel
theorem dX6_close_610 : decode cX6_close 610 = .ok (.lastore, 1) := by decide +kernel
theorem dX6_close_611 : decode cX6_close 611 = .ok (.iinc 13 1, 3) := by decide +kernel
theorem dX6_close_614 : decode cX6_close 614 = .ok (.goto (-166), 3) := by decide +kernel
theorem dX6_close_617 : decode cX6_close 617 = .ok (.aload_n 0, 1) := by decide +kernel
theorem dX6_close_618 : decode cX6_close 618 = .ok (.getfield 7, 3) := by decide +kernel
theorem dX6_close_621 : decode cX6_close 621 = .ok (.sipush 5663, 3) := by decide +kernel
theorem dX6_close_624 : decode cX6_close 624 = .ok (.dup2, 1) := by decide +kernel
theorem dX6_close_625 : decode cX6_close 625 = .ok (.laload, 1) := by decide +kernel
theorem dX6_close_626 : decode cX6_close 626 = .ok (.lconst 1, 1) := by decide +kernel
theorem dX6_close_627 : decode cX6_close 627 = .ok (.ladd, 1) := by decide +kernel
theorem dX6_close_628 : decode cX6_close 628 = .ok (.lastore, 1) := by decide +kernel
theorem dX6_close_629 : decode cX6_close 629 = .ok (.iconst 0, 1) := by decide +kernel
theorem dX6_close_630 : decode cX6_close 630 = .ok (.istore 13, 2) := by decide +kernel
theorem dX6_close_632 : decode cX6_close 632 = .ok (.iload 13, 2) := by decide +kernel
theorem dX6_close_634 : decode cX6_close 634 = .ok (.i2l, 1) := by decide +kernel
theorem dX6_close_635 : decode cX6_close 635 = .ok (.aload_n 0, 1) := by decide +kernel
theorem dX6_close_636 : decode cX6_close 636 = .ok (.getfield 7, 3) := by decide +kernel
theorem dX6_close_639 : decode cX6_close 639 = .ok (.sipush 5668, 3) := by decide +kernel
theorem dX6_close_642 : decode cX6_close 642 = .ok (.laload, 1) := by decide +kernel
theorem dX6_close_643 : decode cX6_close 643 = .ok (.lcmp, 1) := by decide +kernel
theorem dX6_close_644 : decode cX6_close 644 = .ok (.ifCond .ge 21, 3) := by decide +kernel
theorem dX6_close_647 : decode cX6_close 647 = .ok (.aload_n 0, 1) := by decide +kernel
theorem dX6_close_648 : decode cX6_close 648 = .ok (.getfield 7, 3) := by decide +kernel
theorem dX6_close_651 : decode cX6_close 651 = .ok (.iload 13, 2) := by decide +kernel
theorem dX6_close_653 : decode cX6_close 653 = .ok (.iconst 4, 1) := by decide +kernel
theorem dX6_close_654 : decode cX6_close 654 = .ok (.invokestatic 63, 3) := by decide +kernel
theorem dX6_close_657 : decode cX6_close 657 = .ok (.lconst 0, 1) := by decide +kernel
theorem dX6_close_658 : decode cX6_close 658 = .ok (.lastore, 1) := by decide +kernel
theorem dX6_close_659 : decode cX6_close 659 = .ok (.iinc 13 1, 3) := by decide +kernel
theorem dX6_close_662 : decode cX6_close 662 = .ok (.goto (-30), 3) := by decide +kernel
theorem dX6_close_665 : decode cX6_close 665 = .ok (.iconst 0, 1) := by decide +kernel
theorem dX6_close_666 : decode cX6_close 666 = .ok (.istore 13, 2) := by decide +kernel
theorem dX6_close_668 : decode cX6_close 668 = .ok (.iload 13, 2) := by decide +kernel
theorem dX6_close_670 : decode cX6_close 670 = .ok (.iload 5, 2) := by decide +kernel
theorem dX6_close_672 : decode cX6_close 672 = .ok (.if_icmp .ge 60, 3) := by decide +kernel
theorem dX6_close_675 : decode cX6_close 675 = .ok (.aload_n 0, 1) := by decide +kernel
theorem dX6_close_676 : decode cX6_close 676 = .ok (.getfield 7, 3) := by decide +kernel
theorem dX6_close_679 : decode cX6_close 679 = .ok (.iload 13, 2) := by decide +kernel
theorem dX6_close_681 : decode cX6_close 681 = .ok (.iconst 5, 1) := by decide +kernel
theorem dX6_close_682 : decode cX6_close 682 = .ok (.invokestatic 89, 3) := by decide +kernel
theorem dX6_close_685 : decode cX6_close 685 = .ok (.laload, 1) := by decide +kernel
theorem dX6_close_686 : decode cX6_close 686 = .ok (.ldc2_w 79, 3) := by decide +kernel
theorem dX6_close_689 : decode cX6_close 689 = .ok (.lcmp, 1) := by decide +kernel
theorem dX6_close_690 : decode cX6_close 690 = .ok (.ifCond .ne 36, 3) := by decide +kernel
theorem dX6_close_693 : decode cX6_close 693 = .ok (.aload_n 0, 1) := by decide +kernel
theorem dX6_close_694 : decode cX6_close 694 = .ok (.getfield 7, 3) := by decide +kernel
theorem dX6_close_697 : decode cX6_close 697 = .ok (.iload 13, 2) := by decide +kernel
theorem dX6_close_699 : decode cX6_close 699 = .ok (.bipush 13, 2) := by decide +kernel
theorem dX6_close_701 : decode cX6_close 701 = .ok (.invokestatic 89, 3) := by decide +kernel
theorem dX6_close_704 : decode cX6_close 704 = .ok (.laload, 1) := by decide +kernel
theorem dX6_close_705 : decode cX6_close 705 = .ok (.lconst 0, 1) := by decide +kernel
theorem dX6_close_706 : decode cX6_close 706 = .ok (.lcmp, 1) := by decide +kernel
theorem dX6_close_707 : decode cX6_close 707 = .ok (.ifCond .ne 19, 3) := by decide +kernel
theorem dX6_close_710 : decode cX6_close 710 = .ok (.aload_n 0, 1) := by decide +kernel
theorem dX6_close_711 : decode cX6_close 711 = .ok (.iload 13, 2) := by decide +kernel
theorem dX6_close_713 : decode cX6_close 713 = .ok (.invokevirtual 117, 3) := by decide +kernel
theorem dX6_close_716 : decode cX6_close 716 = .ok (.iconst 3, 1) := by decide +kernel
theorem dX6_close_717 : decode cX6_close 717 = .ok (.if_icmp .ne 9, 3) := by decide +kernel
theorem dX6_close_720 : decode cX6_close 720 = .ok (.aload_n 0, 1) := by decide +kernel
theorem dX6_close_721 : decode cX6_close 721 = .ok (.iload 13, 2) := by decide +kernel
theorem dX6_close_723 : decode cX6_close 723 = .ok (.invokevirtual 132, 3) := by decide +kernel
theorem dX6_close_726 : decode cX6_close 726 = .ok (.iinc 13 1, 3) := by decide +kernel
theorem dX6_close_729 : decode cX6_close 729 = .ok (.goto (-61), 3) := by decide +kernel
theorem dX6_close_732 : decode cX6_close 732 = .ok (.lload 11, 2) := by decide +kernel
theorem dX6_close_734 : decode cX6_close 734 = .ok (.lreturn, 1) := by decide +kernel
theorem dX6_backGoes_0 : decode cX6_backGoes 0 = .ok (.aload_n 0, 1) := by decide +kernel
theorem dX6_backGoes_1 : decode cX6_backGoes 1 = .ok (.getfield 7, 3) := by decide +kernel
theorem dX6_backGoes_4 : decode cX6_backGoes 4 = .ok (.iload_n 1, 1) := by decide +kernel
theorem dX6_backGoes_5 : decode cX6_backGoes 5 = .ok (.bipush 13, 2) := by decide +kernel
theorem dX6_backGoes_7 : decode cX6_backGoes 7 = .ok (.invokestatic 89, 3) := by decide +kernel
theorem dX6_backGoes_10 : decode cX6_backGoes 10 = .ok (.lconst 1, 1) := by decide +kernel
theorem dX6_backGoes_11 : decode cX6_backGoes 11 = .ok (.lastore, 1) := by decide +kernel
theorem dX6_backGoes_12 : decode cX6_backGoes 12 = .ok (.aload_n 0, 1) := by decide +kernel
theorem dX6_backGoes_13 : decode cX6_backGoes 13 = .ok (.getfield 7, 3) := by decide +kernel
theorem dX6_backGoes_16 : decode cX6_backGoes 16 = .ok (.iload_n 1, 1) := by decide +kernel
theorem dX6_backGoes_17 : decode cX6_backGoes 17 = .ok (.iconst 4, 1) := by decide +kernel
theorem dX6_backGoes_18 : decode cX6_backGoes 18 = .ok (.invokestatic 89, 3) := by decide +kernel
theorem dX6_backGoes_21 : decode cX6_backGoes 21 = .ok (.laload, 1) := by decide +kernel
theorem dX6_backGoes_22 : decode cX6_backGoes 22 = .ok (.l2i, 1) := by decide +kernel
theorem dX6_backGoes_23 : decode cX6_backGoes 23 = .ok (.iconst 3, 1) := by decide +kernel
theorem dX6_backGoes_24 : decode cX6_backGoes 24 = .ok (.invokestatic 55, 3) := by decide +kernel
theorem dX6_backGoes_27 : decode cX6_backGoes 27 = .ok (.istore_n 2, 1) := by decide +kernel
theorem dX6_backGoes_28 : decode cX6_backGoes 28 = .ok (.aload_n 0, 1) := by decide +kernel
theorem dX6_backGoes_29 : decode cX6_backGoes 29 = .ok (.getfield 7, 3) := by decide +kernel
theorem dX6_backGoes_32 : decode cX6_backGoes 32 = .ok (.iload_n 1, 1) := by decide +kernel
theorem dX6_backGoes_33 : decode cX6_backGoes 33 = .ok (.bipush 6, 2) := by decide +kernel
theorem dX6_backGoes_35 : decode cX6_backGoes 35 = .ok (.invokestatic 89, 3) := by decide +kernel
theorem dX6_backGoes_38 : decode cX6_backGoes 38 = .ok (.laload, 1) := by decide +kernel
theorem dX6_backGoes_39 : decode cX6_backGoes 39 = .ok (.aload_n 0, 1) := by decide +kernel
theorem dX6_backGoes_40 : decode cX6_backGoes 40 = .ok (.getfield 7, 3) := by decide +kernel
theorem dX6_backGoes_43 : decode cX6_backGoes 43 = .ok (.iload_n 1, 1) := by decide +kernel
theorem dX6_backGoes_44 : decode cX6_backGoes 44 = .ok (.bipush 7, 2) := by decide +kernel
theorem dX6_backGoes_46 : decode cX6_backGoes 46 = .ok (.invokestatic 89, 3) := by decide +kernel
theorem dX6_backGoes_49 : decode cX6_backGoes 49 = .ok (.laload, 1) := by decide +kernel
theorem dX6_backGoes_50 : decode cX6_backGoes 50 = .ok (.lsub, 1) := by decide +kernel
theorem dX6_backGoes_51 : decode cX6_backGoes 51 = .ok (.lstore_n 3, 1) := by decide +kernel
theorem dX6_backGoes_52 : decode cX6_backGoes 52 = .ok (.lload_n 3, 1) := by decide +kernel
theorem dX6_backGoes_53 : decode cX6_backGoes 53 = .ok (.lconst 0, 1) := by decide +kernel
theorem dX6_backGoes_54 : decode cX6_backGoes 54 = .ok (.lcmp, 1) := by decide +kernel
theorem dX6_backGoes_55 : decode cX6_backGoes 55 = .ok (.ifCond .ge 7, 3) := by decide +kernel
theorem dX6_backGoes_58 : decode cX6_backGoes 58 = .ok (.lconst 0, 1) := by decide +kernel
theorem dX6_backGoes_59 : decode cX6_backGoes 59 = .ok (.goto 24, 3) := by decide +kernel
theorem dX6_backGoes_62 : decode cX6_backGoes 62 = .ok (.lload_n 3, 1) := by decide +kernel
theorem dX6_backGoes_63 : decode cX6_backGoes 63 = .ok (.aload_n 0, 1) := by decide +kernel
theorem dX6_backGoes_64 : decode cX6_backGoes 64 = .ok (.getfield 7, 3) := by decide +kernel
theorem dX6_backGoes_67 : decode cX6_backGoes 67 = .ok (.iload_n 2, 1) := by decide +kernel
theorem dX6_backGoes_68 : decode cX6_backGoes 68 = .ok (.laload, 1) := by decide +kernel
theorem dX6_backGoes_69 : decode cX6_backGoes 69 = .ok (.lcmp, 1) := by decide +kernel
theorem dX6_backGoes_70 : decode cX6_backGoes 70 = .ok (.ifCond .le 12, 3) := by decide +kernel
theorem dX6_backGoes_73 : decode cX6_backGoes 73 = .ok (.aload_n 0, 1) := by decide +kernel
theorem dX6_backGoes_74 : decode cX6_backGoes 74 = .ok (.getfield 7, 3) := by decide +kernel
theorem dX6_backGoes_77 : decode cX6_backGoes 77 = .ok (.iload_n 2, 1) := by decide +kernel
theorem dX6_backGoes_78 : decode cX6_backGoes 78 = .ok (.laload, 1) := by decide +kernel
theorem dX6_backGoes_79 : decode cX6_backGoes 79 = .ok (.goto 4, 3) := by decide +kernel
theorem dX6_backGoes_82 : decode cX6_backGoes 82 = .ok (.lload_n 3, 1) := by decide +kernel
theorem dX6_backGoes_83 : decode cX6_backGoes 83 = .ok (.lstore_n 3, 1) := by decide +kernel
theorem dX6_backGoes_84 : decode cX6_backGoes 84 = .ok (.aload_n 0, 1) := by decide +kernel
theorem dX6_backGoes_85 : decode cX6_backGoes 85 = .ok (.getfield 7, 3) := by decide +kernel
theorem dX6_backGoes_88 : decode cX6_backGoes 88 = .ok (.aload_n 0, 1) := by decide +kernel
theorem dX6_backGoes_89 : decode cX6_backGoes 89 = .ok (.getfield 7, 3) := by decide +kernel
theorem dX6_backGoes_92 : decode cX6_backGoes 92 = .ok (.iload_n 1, 1) := by decide +kernel
theorem dX6_backGoes_93 : decode cX6_backGoes 93 = .ok (.iconst 1, 1) := by decide +kernel
theorem dX6_backGoes_94 : decode cX6_backGoes 94 = .ok (.invokestatic 89, 3) := by decide +kernel
theorem dX6_backGoes_97 : decode cX6_backGoes 97 = .ok (.laload, 1) := by decide +kernel
theorem dX6_backGoes_98 : decode cX6_backGoes 98 = .ok (.l2i, 1) := by decide +kernel
theorem dX6_backGoes_99 : decode cX6_backGoes 99 = .ok (.iconst 3, 1) := by decide +kernel
theorem dX6_backGoes_100 : decode cX6_backGoes 100 = .ok (.invokestatic 63, 3) := by decide +kernel
theorem dX6_backGoes_103 : decode cX6_backGoes 103 = .ok (.laload, 1) := by decide +kernel
theorem dX6_backGoes_104 : decode cX6_backGoes 104 = .ok (.lstore 5, 2) := by decide +kernel
theorem dX6_backGoes_106 : decode cX6_backGoes 106 = .ok (.aload_n 0, 1) := by decide +kernel
theorem dX6_backGoes_107 : decode cX6_backGoes 107 = .ok (.getfield 7, 3) := by decide +kernel
theorem dX6_backGoes_110 : decode cX6_backGoes 110 = .ok (.iload_n 2, 1) := by decide +kernel
theorem dX6_backGoes_111 : decode cX6_backGoes 111 = .ok (.dup2, 1) := by decide +kernel
theorem dX6_backGoes_112 : decode cX6_backGoes 112 = .ok (.laload, 1) := by decide +kernel
theorem dX6_backGoes_113 : decode cX6_backGoes 113 = .ok (.lload_n 3, 1) := by decide +kernel
theorem dX6_backGoes_114 : decode cX6_backGoes 114 = .ok (.lsub, 1) := by decide +kernel
theorem dX6_backGoes_115 : decode cX6_backGoes 115 = .ok (.lastore, 1) := by decide +kernel
theorem dX6_backGoes_116 : decode cX6_backGoes 116 = .ok (.aload_n 0, 1) := by decide +kernel
theorem dX6_backGoes_117 : decode cX6_backGoes 117 = .ok (.getfield 7, 3) := by decide +kernel
theorem dX6_backGoes_120 : decode cX6_backGoes 120 = .ok (.lload 5, 2) := by decide +kernel
theorem dX6_backGoes_122 : decode cX6_backGoes 122 = .ok (.lconst 0, 1) := by decide +kernel
theorem dX6_backGoes_123 : decode cX6_backGoes 123 = .ok (.lcmp, 1) := by decide +kernel
theorem dX6_backGoes_124 : decode cX6_backGoes 124 = .ok (.ifCond .ge 16, 3) := by decide +kernel
theorem dX6_backGoes_127 : decode cX6_backGoes 127 = .ok (.aload_n 0, 1) := by decide +kernel
theorem dX6_backGoes_128 : decode cX6_backGoes 128 = .ok (.getfield 7, 3) := by decide +kernel
theorem dX6_backGoes_131 : decode cX6_backGoes 131 = .ok (.iload_n 1, 1) := by decide +kernel
theorem dX6_backGoes_132 : decode cX6_backGoes 132 = .ok (.iconst 0, 1) := by decide +kernel
theorem dX6_backGoes_133 : decode cX6_backGoes 133 = .ok (.invokestatic 89, 3) := by decide +kernel
theorem dX6_backGoes_136 : decode cX6_backGoes 136 = .ok (.laload, 1) := by decide +kernel
theorem dX6_backGoes_137 : decode cX6_backGoes 137 = .ok (.goto 5, 3) := by decide +kernel
theorem dX6_backGoes_140 : decode cX6_backGoes 140 = .ok (.lload 5, 2) := by decide +kernel
theorem dX6_backGoes_142 : decode cX6_backGoes 142 = .ok (.l2i, 1) := by decide +kernel
theorem dX6_backGoes_143 : decode cX6_backGoes 143 = .ok (.iconst 1, 1) := by decide +kernel
theorem dX6_backGoes_144 : decode cX6_backGoes 144 = .ok (.invokestatic 63, 3) := by decide +kernel
theorem dX6_backGoes_147 : decode cX6_backGoes 147 = .ok (.dup2, 1) := by decide +kernel
theorem dX6_backGoes_148 : decode cX6_backGoes 148 = .ok (.laload, 1) := by decide +kernel
theorem dX6_backGoes_149 : decode cX6_backGoes 149 = .ok (.lload_n 3, 1) := by decide +kernel
theorem dX6_backGoes_150 : decode cX6_backGoes 150 = .ok (.ladd, 1) := by decide +kernel
theorem dX6_backGoes_151 : decode cX6_backGoes 151 = .ok (.lastore, 1) := by decide +kernel
theorem dX6_backGoes_152 : decode cX6_backGoes 152 = .ok (.return_, 1) := by decide +kernel
theorem dX6_of_0 : decode cX6_of 0 = .ok (.aload_n 0, 1) := by decide +kernel
theorem dX6_of_1 : decode cX6_of 1 = .ok (.iload_n 1, 1) := by decide +kernel
theorem dX6_of_2 : decode cX6_of 2 = .ok (.invokevirtual 66, 3) := by decide +kernel
theorem dX6_of_5 : decode cX6_of 5 = .ok (.ifCond .eq 15, 3) := by decide +kernel
theorem dX6_of_8 : decode cX6_of 8 = .ok (.iload_n 2, 1) := by decide +kernel
theorem dX6_of_9 : decode cX6_of 9 = .ok (.i2l, 1) := by decide +kernel
theorem dX6_of_10 : decode cX6_of 10 = .ok (.lconst 0, 1) := by decide +kernel
theorem dX6_of_11 : decode cX6_of 11 = .ok (.ldc2_w 73, 3) := by decide +kernel
theorem dX6_of_14 : decode cX6_of 14 = .ok (.invokestatic 35, 3) := by decide +kernel
theorem dX6_of_17 : decode cX6_of 17 = .ok (.ifCond .ne 7, 3) := by decide +kernel
theorem dX6_of_20 : decode cX6_of 20 = .ok (.ldc2_w 41, 3) := by decide +kernel
theorem dX6_of_23 : decode cX6_of 23 = .ok (.lreturn, 1) := by decide +kernel
theorem dX6_of_24 : decode cX6_of 24 = .ok (.iload_n 2, 1) := by decide +kernel
theorem dX6_of_25 : decode cX6_of 25 = .ok (.tableswitch 106 0 4 #[35, 46, 57, 68, 79], 35) := by decide +kernel
theorem dX6_of_60 : decode cX6_of 60 = .ok (.aload_n 0, 1) := by decide +kernel
theorem dX6_of_61 : decode cX6_of 61 = .ok (.getfield 7, 3) := by decide +kernel
theorem dX6_of_64 : decode cX6_of 64 = .ok (.iload_n 1, 1) := by decide +kernel
theorem dX6_of_65 : decode cX6_of 65 = .ok (.iconst 1, 1) := by decide +kernel
theorem dX6_of_66 : decode cX6_of 66 = .ok (.invokestatic 63, 3) := by decide +kernel
theorem dX6_of_69 : decode cX6_of 69 = .ok (.laload, 1) := by decide +kernel
theorem dX6_of_70 : decode cX6_of 70 = .ok (.lreturn, 1) := by decide +kernel
theorem dX6_of_71 : decode cX6_of 71 = .ok (.aload_n 0, 1) := by decide +kernel
theorem dX6_of_72 : decode cX6_of 72 = .ok (.getfield 7, 3) := by decide +kernel
theorem dX6_of_75 : decode cX6_of 75 = .ok (.iload_n 1, 1) := by decide +kernel
theorem dX6_of_76 : decode cX6_of 76 = .ok (.iconst 2, 1) := by decide +kernel
theorem dX6_of_77 : decode cX6_of 77 = .ok (.invokestatic 63, 3) := by decide +kernel
theorem dX6_of_80 : decode cX6_of 80 = .ok (.laload, 1) := by decide +kernel
theorem dX6_of_81 : decode cX6_of 81 = .ok (.lreturn, 1) := by decide +kernel
theorem dX6_of_82 : decode cX6_of 82 = .ok (.aload_n 0, 1) := by decide +kernel
theorem dX6_of_83 : decode cX6_of 83 = .ok (.getfield 7, 3) := by decide +kernel
theorem dX6_of_86 : decode cX6_of 86 = .ok (.iload_n 1, 1) := by decide +kernel
theorem dX6_of_87 : decode cX6_of 87 = .ok (.iconst 0, 1) := by decide +kernel
theorem dX6_of_88 : decode cX6_of 88 = .ok (.invokestatic 63, 3) := by decide +kernel
theorem dX6_of_91 : decode cX6_of 91 = .ok (.laload, 1) := by decide +kernel
theorem dX6_of_92 : decode cX6_of 92 = .ok (.lreturn, 1) := by decide +kernel
theorem dX6_of_93 : decode cX6_of 93 = .ok (.aload_n 0, 1) := by decide +kernel
theorem dX6_of_94 : decode cX6_of 94 = .ok (.getfield 7, 3) := by decide +kernel
theorem dX6_of_97 : decode cX6_of 97 = .ok (.iload_n 1, 1) := by decide +kernel
theorem dX6_of_98 : decode cX6_of 98 = .ok (.iconst 4, 1) := by decide +kernel
theorem dX6_of_99 : decode cX6_of 99 = .ok (.invokestatic 63, 3) := by decide +kernel
theorem dX6_of_102 : decode cX6_of 102 = .ok (.laload, 1) := by decide +kernel
theorem dX6_of_103 : decode cX6_of 103 = .ok (.lreturn, 1) := by decide +kernel
theorem dX6_of_104 : decode cX6_of 104 = .ok (.aload_n 0, 1) := by decide +kernel
theorem dX6_of_105 : decode cX6_of 105 = .ok (.iload_n 1, 1) := by decide +kernel
theorem dX6_of_106 : decode cX6_of 106 = .ok (.i2l, 1) := by decide +kernel
theorem dX6_of_107 : decode cX6_of 107 = .ok (.invokevirtual 75, 3) := by decide +kernel
theorem dX6_of_110 : decode cX6_of 110 = .ok (.ifCond .eq 17, 3) := by decide +kernel
theorem dX6_of_113 : decode cX6_of 113 = .ok (.aload_n 0, 1) := by decide +kernel
theorem dX6_of_114 : decode cX6_of 114 = .ok (.getfield 7, 3) := by decide +kernel
theorem dX6_of_117 : decode cX6_of 117 = .ok (.iload_n 1, 1) := by decide +kernel
theorem dX6_of_118 : decode cX6_of 118 = .ok (.bipush 6, 2) := by decide +kernel
theorem dX6_of_120 : decode cX6_of 120 = .ok (.invokestatic 63, 3) := by decide +kernel
theorem dX6_of_123 : decode cX6_of 123 = .ok (.laload, 1) := by decide +kernel
theorem dX6_of_124 : decode cX6_of 124 = .ok (.goto 6, 3) := by decide +kernel
theorem dX6_of_127 : decode cX6_of 127 = .ok (.ldc2_w 41, 3) := by decide +kernel
theorem dX6_of_130 : decode cX6_of 130 = .ok (.lreturn, 1) := by decide +kernel
theorem dX6_of_131 : decode cX6_of 131 = .ok (.aload_n 0, 1) := by decide +kernel
theorem dX6_of_132 : decode cX6_of 132 = .ok (.getfield 7, 3) := by decide +kernel
theorem dX6_of_135 : decode cX6_of 135 = .ok (.iload_n 1, 1) := by decide +kernel
theorem dX6_of_136 : decode cX6_of 136 = .ok (.iconst 3, 1) := by decide +kernel
theorem dX6_of_137 : decode cX6_of 137 = .ok (.invokestatic 63, 3) := by decide +kernel
theorem dX6_of_140 : decode cX6_of 140 = .ok (.laload, 1) := by decide +kernel
theorem dX6_of_141 : decode cX6_of 141 = .ok (.lreturn, 1) := by decide +kernel
theorem dX6_about_0 : decode cX6_about 0 = .ok (.aload_n 0, 1) := by decide +kernel
theorem dX6_about_1 : decode cX6_about 1 = .ok (.iload_n 1, 1) := by decide +kernel
theorem dX6_about_2 : decode cX6_about 2 = .ok (.invokevirtual 51, 3) := by decide +kernel
theorem dX6_about_5 : decode cX6_about 5 = .ok (.ifCond .eq 15, 3) := by decide +kernel
theorem dX6_about_8 : decode cX6_about 8 = .ok (.iload_n 2, 1) := by decide +kernel
theorem dX6_about_9 : decode cX6_about 9 = .ok (.i2l, 1) := by decide +kernel
theorem dX6_about_10 : decode cX6_about 10 = .ok (.lconst 0, 1) := by decide +kernel
theorem dX6_about_11 : decode cX6_about 11 = .ok (.ldc2_w 73, 3) := by decide +kernel
theorem dX6_about_14 : decode cX6_about 14 = .ok (.invokestatic 35, 3) := by decide +kernel
theorem dX6_about_17 : decode cX6_about 17 = .ok (.ifCond .ne 7, 3) := by decide +kernel
theorem dX6_about_20 : decode cX6_about 20 = .ok (.ldc2_w 41, 3) := by decide +kernel
theorem dX6_about_23 : decode cX6_about 23 = .ok (.lreturn, 1) := by decide +kernel
theorem dX6_about_24 : decode cX6_about 24 = .ok (.iload_n 2, 1) := by decide +kernel
theorem dX6_about_25 : decode cX6_about 25 = .ok (.iconst 4, 1) := by decide +kernel
theorem dX6_about_26 : decode cX6_about 26 = .ok (.if_icmp .ge 14, 3) := by decide +kernel
theorem dX6_about_29 : decode cX6_about 29 = .ok (.aload_n 0, 1) := by decide +kernel
theorem dX6_about_30 : decode cX6_about 30 = .ok (.getfield 7, 3) := by decide +kernel
theorem dX6_about_33 : decode cX6_about 33 = .ok (.iload_n 1, 1) := by decide +kernel
theorem dX6_about_34 : decode cX6_about 34 = .ok (.iload_n 2, 1) := by decide +kernel
theorem dX6_about_35 : decode cX6_about 35 = .ok (.invokestatic 55, 3) := by decide +kernel
theorem dX6_about_38 : decode cX6_about 38 = .ok (.laload, 1) := by decide +kernel
theorem dX6_about_39 : decode cX6_about 39 = .ok (.lreturn, 1) := by decide +kernel
theorem dX6_about_40 : decode cX6_about 40 = .ok (.lconst 0, 1) := by decide +kernel
theorem dX6_about_41 : decode cX6_about 41 = .ok (.lstore_n 3, 1) := by decide +kernel
theorem dX6_about_42 : decode cX6_about 42 = .ok (.iconst 0, 1) := by decide +kernel
theorem dX6_about_43 : decode cX6_about 43 = .ok (.istore 5, 2) := by decide +kernel
theorem dX6_about_45 : decode cX6_about 45 = .ok (.iload 5, 2) := by decide +kernel
theorem dX6_about_47 : decode cX6_about 47 = .ok (.i2l, 1) := by decide +kernel
theorem dX6_about_48 : decode cX6_about 48 = .ok (.aload_n 0, 1) := by decide +kernel
theorem dX6_about_49 : decode cX6_about 49 = .ok (.getfield 7, 3) := by decide +kernel
theorem dX6_about_52 : decode cX6_about 52 = .ok (.sipush 5670, 3) := by decide +kernel
theorem dX6_about_55 : decode cX6_about 55 = .ok (.laload, 1) := by decide +kernel
theorem dX6_about_56 : decode cX6_about 56 = .ok (.lcmp, 1) := by decide +kernel
theorem dX6_about_57 : decode cX6_about 57 = .ok (.ifCond .ge 66, 3) := by decide +kernel
theorem dX6_about_60 : decode cX6_about 60 = .ok (.aload_n 0, 1) := by decide +kernel
theorem dX6_about_61 : decode cX6_about 61 = .ok (.getfield 7, 3) := by decide +kernel
theorem dX6_about_64 : decode cX6_about 64 = .ok (.iload 5, 2) := by decide +kernel
theorem dX6_about_66 : decode cX6_about 66 = .ok (.iconst 4, 1) := by decide +kernel
theorem dX6_about_67 : decode cX6_about 67 = .ok (.invokestatic 89, 3) := by decide +kernel
theorem dX6_about_70 : decode cX6_about 70 = .ok (.laload, 1) := by decide +kernel
theorem dX6_about_71 : decode cX6_about 71 = .ok (.iload_n 1, 1) := by decide +kernel
theorem dX6_about_72 : decode cX6_about 72 = .ok (.i2l, 1) := by decide +kernel
theorem dX6_about_73 : decode cX6_about 73 = .ok (.lcmp, 1) := by decide +kernel
theorem dX6_about_74 : decode cX6_about 74 = .ok (.ifCond .eq 6, 3) := by decide +kernel
theorem dX6_about_77 : decode cX6_about 77 = .ok (.goto 40, 3) := by decide +kernel
theorem dX6_about_80 : decode cX6_about 80 = .ok (.lload_n 3, 1) := by decide +kernel
theorem dX6_about_81 : decode cX6_about 81 = .ok (.iload_n 2, 1) := by decide +kernel
theorem dX6_about_82 : decode cX6_about 82 = .ok (.iconst 5, 1) := by decide +kernel
theorem dX6_about_83 : decode cX6_about 83 = .ok (.if_icmp .ne 7, 3) := by decide +kernel
theorem dX6_about_86 : decode cX6_about 86 = .ok (.lconst 1, 1) := by decide +kernel
theorem dX6_about_87 : decode cX6_about 87 = .ok (.goto 28, 3) := by decide +kernel
theorem dX6_about_90 : decode cX6_about 90 = .ok (.aload_n 0, 1) := by decide +kernel
theorem dX6_about_91 : decode cX6_about 91 = .ok (.iload 5, 2) := by decide +kernel
theorem dX6_about_93 : decode cX6_about 93 = .ok (.invokevirtual 117, 3) := by decide +kernel
theorem dX6_about_96 : decode cX6_about 96 = .ok (.iconst 2, 1) := by decide +kernel
theorem dX6_about_97 : decode cX6_about 97 = .ok (.if_icmp .ge 17, 3) := by decide +kernel
theorem dX6_about_100 : decode cX6_about 100 = .ok (.aload_n 0, 1) := by decide +kernel
theorem dX6_about_101 : decode cX6_about 101 = .ok (.getfield 7, 3) := by decide +kernel
theorem dX6_about_104 : decode cX6_about 104 = .ok (.iload 5, 2) := by decide +kernel
theorem dX6_about_106 : decode cX6_about 106 = .ok (.iconst 3, 1) := by decide +kernel
theorem dX6_about_107 : decode cX6_about 107 = .ok (.invokestatic 89, 3) := by decide +kernel
theorem dX6_about_110 : decode cX6_about 110 = .ok (.laload, 1) := by decide +kernel
theorem dX6_about_111 : decode cX6_about 111 = .ok (.goto 4, 3) := by decide +kernel
theorem dX6_about_114 : decode cX6_about 114 = .ok (.lconst 0, 1) := by decide +kernel
theorem dX6_about_115 : decode cX6_about 115 = .ok (.ladd, 1) := by decide +kernel
theorem dX6_about_116 : decode cX6_about 116 = .ok (.lstore_n 3, 1) := by decide +kernel
theorem dX6_about_117 : decode cX6_about 117 = .ok (.iinc 5 1, 3) := by decide +kernel
theorem dX6_about_120 : decode cX6_about 120 = .ok (.goto (-75), 3) := by decide +kernel
theorem dX6_about_123 : decode cX6_about 123 = .ok (.lload_n 3, 1) := by decide +kernel
theorem dX6_about_124 : decode cX6_about 124 = .ok (.lreturn, 1) := by decide +kernel
theorem dX6_told_0 : decode cX6_told 0 = .ok (.lconst 0, 1) := by decide +kernel
theorem dX6_told_1 : decode cX6_told 1 = .ok (.lstore_n 2, 1) := by decide +kernel
theorem dX6_told_2 : decode cX6_told 2 = .ok (.iload_n 1, 1) := by decide +kernel
theorem dX6_told_3 : decode cX6_told 3 = .ok (.tableswitch 275 0 10 #[57, 66, 75, 84, 119, 159, 199, 239, 248, 257, 266], 57) := by decide +kernel
theorem dX6_told_60 : decode cX6_told 60 = .ok (.aload_n 0, 1) := by decide +kernel
theorem dX6_told_61 : decode cX6_told 61 = .ok (.getfield 7, 3) := by decide +kernel
theorem dX6_told_64 : decode cX6_told 64 = .ok (.sipush 5663, 3) := by decide +kernel
theorem dX6_told_67 : decode cX6_told 67 = .ok (.laload, 1) := by decide +kernel
theorem dX6_told_68 : decode cX6_told 68 = .ok (.lreturn, 1) := by decide +kernel
theorem dX6_told_69 : decode cX6_told 69 = .ok (.aload_n 0, 1) := by decide +kernel
theorem dX6_told_70 : decode cX6_told 70 = .ok (.getfield 7, 3) := by decide +kernel
theorem dX6_told_73 : decode cX6_told 73 = .ok (.sipush 5664, 3) := by decide +kernel
theorem dX6_told_76 : decode cX6_told 76 = .ok (.laload, 1) := by decide +kernel
theorem dX6_told_77 : decode cX6_told 77 = .ok (.lreturn, 1) := by decide +kernel
theorem dX6_told_78 : decode cX6_told 78 = .ok (.aload_n 0, 1) := by decide +kernel
theorem dX6_told_79 : decode cX6_told 79 = .ok (.getfield 7, 3) := by decide +kernel
theorem dX6_told_82 : decode cX6_told 82 = .ok (.sipush 5665, 3) := by decide +kernel
theorem dX6_told_85 : decode cX6_told 85 = .ok (.laload, 1) := by decide +kernel
theorem dX6_told_86 : decode cX6_told 86 = .ok (.lreturn, 1) := by decide +kernel
theorem dX6_told_87 : decode cX6_told 87 = .ok (.iconst 0, 1) := by decide +kernel
theorem dX6_told_88 : decode cX6_told 88 = .ok (.istore 4, 2) := by decide +kernel
theorem dX6_told_90 : decode cX6_told 90 = .ok (.iload 4, 2) := by decide +kernel
theorem dX6_told_92 : decode cX6_told 92 = .ok (.i2l, 1) := by decide +kernel
theorem dX6_told_93 : decode cX6_told 93 = .ok (.aload_n 0, 1) := by decide +kernel
theorem dX6_told_94 : decode cX6_told 94 = .ok (.getfield 7, 3) := by decide +kernel
theorem dX6_told_97 : decode cX6_told 97 = .ok (.sipush 5670, 3) := by decide +kernel
theorem dX6_told_100 : decode cX6_told 100 = .ok (.laload, 1) := by decide +kernel
theorem dX6_told_101 : decode cX6_told 101 = .ok (.lcmp, 1) := by decide +kernel
theorem dX6_told_102 : decode cX6_told 102 = .ok (.ifCond .ge 18, 3) := by decide +kernel
theorem dX6_told_105 : decode cX6_told 105 = .ok (.lload_n 2, 1) := by decide +kernel
theorem dX6_told_106 : decode cX6_told 106 = .ok (.aload_n 0, 1) := by decide +kernel
theorem dX6_told_107 : decode cX6_told 107 = .ok (.iload 4, 2) := by decide +kernel
theorem dX6_told_109 : decode cX6_told 109 = .ok (.invokevirtual 114, 3) := by decide +kernel
theorem dX6_told_112 : decode cX6_told 112 = .ok (.ladd, 1) := by decide +kernel
theorem dX6_told_113 : decode cX6_told 113 = .ok (.lstore_n 2, 1) := by decide +kernel
theorem dX6_told_114 : decode cX6_told 114 = .ok (.iinc 4 1, 3) := by decide +kernel
theorem dX6_told_117 : decode cX6_told 117 = .ok (.goto (-27), 3) := by decide +kernel
theorem dX6_told_120 : decode cX6_told 120 = .ok (.lload_n 2, 1) := by decide +kernel
theorem dX6_told_121 : decode cX6_told 121 = .ok (.lreturn, 1) := by decide +kernel
theorem dX6_told_122 : decode cX6_told 122 = .ok (.iconst 0, 1) := by decide +kernel
theorem dX6_told_123 : decode cX6_told 123 = .ok (.istore 4, 2) := by decide +kernel
theorem dX6_told_125 : decode cX6_told 125 = .ok (.iload 4, 2) := by decide +kernel
theorem dX6_told_127 : decode cX6_told 127 = .ok (.i2l, 1) := by decide +kernel
theorem dX6_told_128 : decode cX6_told 128 = .ok (.aload_n 0, 1) := by decide +kernel
theorem dX6_told_129 : decode cX6_told 129 = .ok (.getfield 7, 3) := by decide +kernel
theorem dX6_told_132 : decode cX6_told 132 = .ok (.sipush 5668, 3) := by decide +kernel
theorem dX6_told_135 : decode cX6_told 135 = .ok (.laload, 1) := by decide +kernel
theorem dX6_told_136 : decode cX6_told 136 = .ok (.lcmp, 1) := by decide +kernel
theorem dX6_told_137 : decode cX6_told 137 = .ok (.ifCond .ge 23, 3) := by decide +kernel
theorem dX6_told_140 : decode cX6_told 140 = .ok (.lload_n 2, 1) := by decide +kernel
theorem dX6_told_141 : decode cX6_told 141 = .ok (.aload_n 0, 1) := by decide +kernel
theorem dX6_told_142 : decode cX6_told 142 = .ok (.getfield 7, 3) := by decide +kernel
theorem dX6_told_145 : decode cX6_told 145 = .ok (.iload 4, 2) := by decide +kernel
theorem dX6_told_147 : decode cX6_told 147 = .ok (.iconst 1, 1) := by decide +kernel
theorem dX6_told_148 : decode cX6_told 148 = .ok (.invokestatic 63, 3) := by decide +kernel
theorem dX6_told_151 : decode cX6_told 151 = .ok (.laload, 1) := by decide +kernel
theorem dX6_told_152 : decode cX6_told 152 = .ok (.ladd, 1) := by decide +kernel
theorem dX6_told_153 : decode cX6_told 153 = .ok (.lstore_n 2, 1) := by decide +kernel
theorem dX6_told_154 : decode cX6_told 154 = .ok (.iinc 4 1, 3) := by decide +kernel
theorem dX6_told_157 : decode cX6_told 157 = .ok (.goto (-32), 3) := by decide +kernel
theorem dX6_told_160 : decode cX6_told 160 = .ok (.lload_n 2, 1) := by decide +kernel
theorem dX6_told_161 : decode cX6_told 161 = .ok (.lreturn, 1) := by decide +kernel
theorem dX6_told_162 : decode cX6_told 162 = .ok (.iconst 0, 1) := by decide +kernel
theorem dX6_told_163 : decode cX6_told 163 = .ok (.istore 4, 2) := by decide +kernel
theorem dX6_told_165 : decode cX6_told 165 = .ok (.iload 4, 2) := by decide +kernel
theorem dX6_told_167 : decode cX6_told 167 = .ok (.i2l, 1) := by decide +kernel
theorem dX6_told_168 : decode cX6_told 168 = .ok (.aload_n 0, 1) := by decide +kernel
theorem dX6_told_169 : decode cX6_told 169 = .ok (.getfield 7, 3) := by decide +kernel
theorem dX6_told_172 : decode cX6_told 172 = .ok (.sipush 5669, 3) := by decide +kernel
theorem dX6_told_175 : decode cX6_told 175 = .ok (.laload, 1) := by decide +kernel
theorem dX6_told_176 : decode cX6_told 176 = .ok (.lcmp, 1) := by decide +kernel
theorem dX6_told_177 : decode cX6_told 177 = .ok (.ifCond .ge 23, 3) := by decide +kernel
theorem dX6_told_180 : decode cX6_told 180 = .ok (.lload_n 2, 1) := by decide +kernel
theorem dX6_told_181 : decode cX6_told 181 = .ok (.aload_n 0, 1) := by decide +kernel
theorem dX6_told_182 : decode cX6_told 182 = .ok (.getfield 7, 3) := by decide +kernel
theorem dX6_told_185 : decode cX6_told 185 = .ok (.iload 4, 2) := by decide +kernel
theorem dX6_told_187 : decode cX6_told 187 = .ok (.iconst 3, 1) := by decide +kernel
theorem dX6_told_188 : decode cX6_told 188 = .ok (.invokestatic 55, 3) := by decide +kernel
theorem dX6_told_191 : decode cX6_told 191 = .ok (.laload, 1) := by decide +kernel
theorem dX6_told_192 : decode cX6_told 192 = .ok (.ladd, 1) := by decide +kernel
theorem dX6_told_193 : decode cX6_told 193 = .ok (.lstore_n 2, 1) := by decide +kernel
theorem dX6_told_194 : decode cX6_told 194 = .ok (.iinc 4 1, 3) := by decide +kernel
theorem dX6_told_197 : decode cX6_told 197 = .ok (.goto (-32), 3) := by decide +kernel
theorem dX6_told_200 : decode cX6_told 200 = .ok (.lload_n 2, 1) := by decide +kernel
theorem dX6_told_201 : decode cX6_told 201 = .ok (.lreturn, 1) := by decide +kernel
theorem dX6_told_202 : decode cX6_told 202 = .ok (.iconst 0, 1) := by decide +kernel
theorem dX6_told_203 : decode cX6_told 203 = .ok (.istore 4, 2) := by decide +kernel
theorem dX6_told_205 : decode cX6_told 205 = .ok (.iload 4, 2) := by decide +kernel
theorem dX6_told_207 : decode cX6_told 207 = .ok (.i2l, 1) := by decide +kernel
theorem dX6_told_208 : decode cX6_told 208 = .ok (.aload_n 0, 1) := by decide +kernel
theorem dX6_told_209 : decode cX6_told 209 = .ok (.getfield 7, 3) := by decide +kernel
theorem dX6_told_212 : decode cX6_told 212 = .ok (.sipush 5668, 3) := by decide +kernel
theorem dX6_told_215 : decode cX6_told 215 = .ok (.laload, 1) := by decide +kernel
theorem dX6_told_216 : decode cX6_told 216 = .ok (.lcmp, 1) := by decide +kernel
theorem dX6_told_217 : decode cX6_told 217 = .ok (.ifCond .ge 23, 3) := by decide +kernel
theorem dX6_told_220 : decode cX6_told 220 = .ok (.lload_n 2, 1) := by decide +kernel
theorem dX6_told_221 : decode cX6_told 221 = .ok (.aload_n 0, 1) := by decide +kernel
theorem dX6_told_222 : decode cX6_told 222 = .ok (.getfield 7, 3) := by decide +kernel
theorem dX6_told_225 : decode cX6_told 225 = .ok (.iload 4, 2) := by decide +kernel
theorem dX6_told_227 : decode cX6_told 227 = .ok (.iconst 2, 1) := by decide +kernel
theorem dX6_told_228 : decode cX6_told 228 = .ok (.invokestatic 63, 3) := by decide +kernel
theorem dX6_told_231 : decode cX6_told 231 = .ok (.laload, 1) := by decide +kernel
theorem dX6_told_232 : decode cX6_told 232 = .ok (.ladd, 1) := by decide +kernel
theorem dX6_told_233 : decode cX6_told 233 = .ok (.lstore_n 2, 1) := by decide +kernel
theorem dX6_told_234 : decode cX6_told 234 = .ok (.iinc 4 1, 3) := by decide +kernel
theorem dX6_told_237 : decode cX6_told 237 = .ok (.goto (-32), 3) := by decide +kernel
theorem dX6_told_240 : decode cX6_told 240 = .ok (.lload_n 2, 1) := by decide +kernel
theorem dX6_told_241 : decode cX6_told 241 = .ok (.lreturn, 1) := by decide +kernel
theorem dX6_told_242 : decode cX6_told 242 = .ok (.aload_n 0, 1) := by decide +kernel
theorem dX6_told_243 : decode cX6_told 243 = .ok (.getfield 7, 3) := by decide +kernel
theorem dX6_told_246 : decode cX6_told 246 = .ok (.sipush 5671, 3) := by decide +kernel
theorem dX6_told_249 : decode cX6_told 249 = .ok (.laload, 1) := by decide +kernel
theorem dX6_told_250 : decode cX6_told 250 = .ok (.lreturn, 1) := by decide +kernel
theorem dX6_told_251 : decode cX6_told 251 = .ok (.aload_n 0, 1) := by decide +kernel
theorem dX6_told_252 : decode cX6_told 252 = .ok (.getfield 7, 3) := by decide +kernel
theorem dX6_told_255 : decode cX6_told 255 = .ok (.sipush 5668, 3) := by decide +kernel
theorem dX6_told_258 : decode cX6_told 258 = .ok (.laload, 1) := by decide +kernel
theorem dX6_told_259 : decode cX6_told 259 = .ok (.lreturn, 1) := by decide +kernel
theorem dX6_told_260 : decode cX6_told 260 = .ok (.aload_n 0, 1) := by decide +kernel
theorem dX6_told_261 : decode cX6_told 261 = .ok (.getfield 7, 3) := by decide +kernel
theorem dX6_told_264 : decode cX6_told 264 = .ok (.sipush 5669, 3) := by decide +kernel
theorem dX6_told_267 : decode cX6_told 267 = .ok (.laload, 1) := by decide +kernel
theorem dX6_told_268 : decode cX6_told 268 = .ok (.lreturn, 1) := by decide +kernel
theorem dX6_told_269 : decode cX6_told 269 = .ok (.aload_n 0, 1) := by decide +kernel
theorem dX6_told_270 : decode cX6_told 270 = .ok (.getfield 7, 3) := by decide +kernel
theorem dX6_told_273 : decode cX6_told 273 = .ok (.sipush 5670, 3) := by decide +kernel
theorem dX6_told_276 : decode cX6_told 276 = .ok (.laload, 1) := by decide +kernel
theorem dX6_told_277 : decode cX6_told 277 = .ok (.lreturn, 1) := by decide +kernel
theorem dX6_told_278 : decode cX6_told 278 = .ok (.ldc2_w 41, 3) := by decide +kernel
theorem dX6_told_281 : decode cX6_told 281 = .ok (.lreturn, 1) := by decide +kernel
theorem dX6_keep_0 : decode cX6_keep 0 = .ok (.iconst 0, 1) := by decide +kernel
theorem dX6_keep_1 : decode cX6_keep 1 = .ok (.istore_n 1, 1) := by decide +kernel
theorem dX6_keep_2 : decode cX6_keep 2 = .ok (.iload_n 1, 1) := by decide +kernel
theorem dX6_keep_3 : decode cX6_keep 3 = .ok (.sipush 5672, 3) := by decide +kernel
theorem dX6_keep_6 : decode cX6_keep 6 = .ok (.if_icmp .ge 21, 3) := by decide +kernel
theorem dX6_keep_9 : decode cX6_keep 9 = .ok (.aload_n 0, 1) := by decide +kernel
theorem dX6_keep_10 : decode cX6_keep 10 = .ok (.getfield 13, 3) := by decide +kernel
theorem dX6_keep_13 : decode cX6_keep 13 = .ok (.iload_n 1, 1) := by decide +kernel
theorem dX6_keep_14 : decode cX6_keep 14 = .ok (.aload_n 0, 1) := by decide +kernel
theorem dX6_keep_15 : decode cX6_keep 15 = .ok (.getfield 7, 3) := by decide +kernel
theorem dX6_keep_18 : decode cX6_keep 18 = .ok (.iload_n 1, 1) := by decide +kernel
theorem dX6_keep_19 : decode cX6_keep 19 = .ok (.laload, 1) := by decide +kernel
theorem dX6_keep_20 : decode cX6_keep 20 = .ok (.lastore, 1) := by decide +kernel
theorem dX6_keep_21 : decode cX6_keep 21 = .ok (.iinc 1 1, 3) := by decide +kernel
theorem dX6_keep_24 : decode cX6_keep 24 = .ok (.goto (-22), 3) := by decide +kernel
theorem dX6_keep_27 : decode cX6_keep 27 = .ok (.aload_n 0, 1) := by decide +kernel
theorem dX6_keep_28 : decode cX6_keep 28 = .ok (.iconst 1, 1) := by decide +kernel
theorem dX6_keep_29 : decode cX6_keep 29 = .ok (.putfield 136, 3) := by decide +kernel
theorem dX6_keep_32 : decode cX6_keep 32 = .ok (.lconst 1, 1) := by decide +kernel
theorem dX6_keep_33 : decode cX6_keep 33 = .ok (.lreturn, 1) := by decide +kernel
theorem dX6_back_0 : decode cX6_back 0 = .ok (.aload_n 0, 1) := by decide +kernel
theorem dX6_back_1 : decode cX6_back 1 = .ok (.getfield 136, 3) := by decide +kernel
theorem dX6_back_4 : decode cX6_back 4 = .ok (.ifCond .ne 7, 3) := by decide +kernel
theorem dX6_back_7 : decode cX6_back 7 = .ok (.ldc2_w 41, 3) := by decide +kernel
theorem dX6_back_10 : decode cX6_back 10 = .ok (.lreturn, 1) := by decide +kernel
theorem dX6_back_11 : decode cX6_back 11 = .ok (.iconst 0, 1) := by decide +kernel
theorem dX6_back_12 : decode cX6_back 12 = .ok (.istore_n 1, 1) := by decide +kernel
theorem dX6_back_13 : decode cX6_back 13 = .ok (.iload_n 1, 1) := by decide +kernel
theorem dX6_back_14 : decode cX6_back 14 = .ok (.sipush 5672, 3) := by decide +kernel
theorem dX6_back_17 : decode cX6_back 17 = .ok (.if_icmp .ge 21, 3) := by decide +kernel
theorem dX6_back_20 : decode cX6_back 20 = .ok (.aload_n 0, 1) := by decide +kernel
theorem dX6_back_21 : decode cX6_back 21 = .ok (.getfield 7, 3) := by decide +kernel
theorem dX6_back_24 : decode cX6_back 24 = .ok (.iload_n 1, 1) := by decide +kernel
theorem dX6_back_25 : decode cX6_back 25 = .ok (.aload_n 0, 1) := by decide +kernel
theorem dX6_back_26 : decode cX6_back 26 = .ok (.getfield 13, 3) := by decide +kernel
theorem dX6_back_29 : decode cX6_back 29 = .ok (.iload_n 1, 1) := by decide +kernel
theorem dX6_back_30 : decode cX6_back 30 = .ok (.laload, 1) := by decide +kernel
theorem dX6_back_31 : decode cX6_back 31 = .ok (.lastore, 1) := by decide +kernel
theorem dX6_back_32 : decode cX6_back 32 = .ok (.iinc 1 1, 3) := by decide +kernel
theorem dX6_back_35 : decode cX6_back 35 = .ok (.goto (-22), 3) := by decide +kernel
theorem dX6_back_38 : decode cX6_back 38 = .ok (.lconst 1, 1) := by decide +kernel
theorem dX6_back_39 : decode cX6_back 39 = .ok (.lreturn, 1) := by decide +kernel
theorem dJ9_max_7cf53_0 : decode cJ9_max_7cf53 0 = .ok (.iload_n 0, 1) := by decide +kernel
theorem dJ9_max_7cf53_1 : decode cJ9_max_7cf53 1 = .ok (.iload_n 1, 1) := by decide +kernel
theorem dJ9_max_7cf53_2 : decode cJ9_max_7cf53 2 = .ok (.if_icmp .lt 7, 3) := by decide +kernel
theorem dJ9_max_7cf53_5 : decode cJ9_max_7cf53 5 = .ok (.iload_n 0, 1) := by decide +kernel
theorem dJ9_max_7cf53_6 : decode cJ9_max_7cf53 6 = .ok (.goto 4, 3) := by decide +kernel
theorem dJ9_max_7cf53_9 : decode cJ9_max_7cf53 9 = .ok (.iload_n 1, 1) := by decide +kernel
theorem dJ9_max_7cf53_10 : decode cJ9_max_7cf53 10 = .ok (.ireturn, 1) := by decide +kernel
theorem dJ9_max_f86c9_0 : decode cJ9_max_f86c9 0 = .ok (.lload_n 0, 1) := by decide +kernel
theorem dJ9_max_f86c9_1 : decode cJ9_max_f86c9 1 = .ok (.lload_n 2, 1) := by decide +kernel
theorem dJ9_max_f86c9_2 : decode cJ9_max_f86c9 2 = .ok (.lcmp, 1) := by decide +kernel
theorem dJ9_max_f86c9_3 : decode cJ9_max_f86c9 3 = .ok (.ifCond .lt 7, 3) := by decide +kernel
theorem dJ9_max_f86c9_6 : decode cJ9_max_f86c9 6 = .ok (.lload_n 0, 1) := by decide +kernel
theorem dJ9_max_f86c9_7 : decode cJ9_max_f86c9 7 = .ok (.goto 4, 3) := by decide +kernel
theorem dJ9_max_f86c9_10 : decode cJ9_max_f86c9 10 = .ok (.lload_n 2, 1) := by decide +kernel
theorem dJ9_max_f86c9_11 : decode cJ9_max_f86c9 11 = .ok (.lreturn, 1) := by decide +kernel
theorem dJ9_min_f86c9_0 : decode cJ9_min_f86c9 0 = .ok (.lload_n 0, 1) := by decide +kernel
theorem dJ9_min_f86c9_1 : decode cJ9_min_f86c9 1 = .ok (.lload_n 2, 1) := by decide +kernel
theorem dJ9_min_f86c9_2 : decode cJ9_min_f86c9 2 = .ok (.lcmp, 1) := by decide +kernel
theorem dJ9_min_f86c9_3 : decode cJ9_min_f86c9 3 = .ok (.ifCond .gt 7, 3) := by decide +kernel
theorem dJ9_min_f86c9_6 : decode cJ9_min_f86c9 6 = .ok (.lload_n 0, 1) := by decide +kernel
theorem dJ9_min_f86c9_7 : decode cJ9_min_f86c9 7 = .ok (.goto 4, 3) := by decide +kernel
theorem dJ9_min_f86c9_10 : decode cJ9_min_f86c9 10 = .ok (.lload_n 2, 1) := by decide +kernel
theorem dJ9_min_f86c9_11 : decode cJ9_min_f86c9 11 = .ok (.lreturn, 1) := by decide +kernel
theorem dJ7_fill_d0a16_0 : decode cJ7_fill_d0a16 0 = .ok (.iconst 0, 1) := by decide +kernel
theorem dJ7_fill_d0a16_1 : decode cJ7_fill_d0a16 1 = .ok (.istore_n 3, 1) := by decide +kernel
theorem dJ7_fill_d0a16_2 : decode cJ7_fill_d0a16 2 = .ok (.aload_n 0, 1) := by decide +kernel
theorem dJ7_fill_d0a16_3 : decode cJ7_fill_d0a16 3 = .ok (.arraylength, 1) := by decide +kernel
theorem dJ7_fill_d0a16_4 : decode cJ7_fill_d0a16 4 = .ok (.istore 4, 2) := by decide +kernel
theorem dJ7_fill_d0a16_6 : decode cJ7_fill_d0a16 6 = .ok (.iload_n 3, 1) := by decide +kernel
theorem dJ7_fill_d0a16_7 : decode cJ7_fill_d0a16 7 = .ok (.iload 4, 2) := by decide +kernel
theorem dJ7_fill_d0a16_9 : decode cJ7_fill_d0a16 9 = .ok (.if_icmp .ge 13, 3) := by decide +kernel
theorem dJ7_fill_d0a16_12 : decode cJ7_fill_d0a16 12 = .ok (.aload_n 0, 1) := by decide +kernel
theorem dJ7_fill_d0a16_13 : decode cJ7_fill_d0a16 13 = .ok (.iload_n 3, 1) := by decide +kernel
theorem dJ7_fill_d0a16_14 : decode cJ7_fill_d0a16 14 = .ok (.lload_n 1, 1) := by decide +kernel
theorem dJ7_fill_d0a16_15 : decode cJ7_fill_d0a16 15 = .ok (.lastore, 1) := by decide +kernel
theorem dJ7_fill_d0a16_16 : decode cJ7_fill_d0a16 16 = .ok (.iinc 3 1, 3) := by decide +kernel
theorem dJ7_fill_d0a16_19 : decode cJ7_fill_d0a16 19 = .ok (.goto (-13), 3) := by decide +kernel
theorem dJ7_fill_d0a16_22 : decode cJ7_fill_d0a16 22 = .ok (.return_, 1) := by decide +kernel
theorem dL_law_0 : decode cL_law 0 = .ok (.new 7, 3) := by decide +kernel
theorem dL_law_3 : decode cL_law 3 = .ok (.dup, 1) := by decide +kernel
theorem dL_law_4 : decode cL_law 4 = .ok (.invokespecial 9, 3) := by decide +kernel
theorem dL_law_7 : decode cL_law 7 = .ok (.astore_n 1, 1) := by decide +kernel
theorem dL_law_8 : decode cL_law 8 = .ok (.new 10, 3) := by decide +kernel
theorem dL_law_11 : decode cL_law 11 = .ok (.dup, 1) := by decide +kernel
theorem dL_law_12 : decode cL_law 12 = .ok (.invokespecial 12, 3) := by decide +kernel
theorem dL_law_15 : decode cL_law 15 = .ok (.astore_n 2, 1) := by decide +kernel
theorem dL_law_16 : decode cL_law 16 = .ok (.iconst 0, 1) := by decide +kernel
theorem dL_law_17 : decode cL_law 17 = .ok (.istore_n 3, 1) := by decide +kernel
theorem dL_law_18 : decode cL_law 18 = .ok (.iload_n 3, 1) := by decide +kernel
theorem dL_law_19 : decode cL_law 19 = .ok (.aload_n 0, 1) := by decide +kernel
theorem dL_law_20 : decode cL_law 20 = .ok (.arraylength, 1) := by decide +kernel
theorem dL_law_21 : decode cL_law 21 = .ok (.bipush 7, 2) := by decide +kernel
theorem dL_law_23 : decode cL_law 23 = .ok (.isub, 1) := by decide +kernel
theorem dL_law_24 : decode cL_law 24 = .ok (.if_icmp .gt 838, 3) := by decide +kernel
theorem dL_law_27 : decode cL_law 27 = .ok (.aload_n 0, 1) := by decide +kernel
theorem dL_law_28 : decode cL_law 28 = .ok (.iload_n 3, 1) := by decide +kernel
theorem dL_law_29 : decode cL_law 29 = .ok (.iaload, 1) := by decide +kernel
theorem dL_law_30 : decode cL_law 30 = .ok (.bipush 31, 2) := by decide +kernel
theorem dL_law_32 : decode cL_law 32 = .ok (.iand, 1) := by decide +kernel
theorem dL_law_33 : decode cL_law 33 = .ok (.tableswitch 823 0 21 #[103, 137, 171, 195, 229, 253, 287, 331, 365, 441, 475, 509, 553, 587, 621, 645, 679, 703, 737, 771, 795, 809], 103) := by decide +kernel
theorem dL_law_136 : decode cL_law 136 = .ok (.aload_n 1, 1) := by decide +kernel
theorem dL_law_137 : decode cL_law 137 = .ok (.aload_n 0, 1) := by decide +kernel
theorem dL_law_138 : decode cL_law 138 = .ok (.iload_n 3, 1) := by decide +kernel
theorem dL_law_139 : decode cL_law 139 = .ok (.iconst 1, 1) := by decide +kernel
theorem dL_law_140 : decode cL_law 140 = .ok (.iadd, 1) := by decide +kernel
theorem dL_law_141 : decode cL_law 141 = .ok (.iaload, 1) := by decide +kernel
theorem dL_law_142 : decode cL_law 142 = .ok (.aload_n 0, 1) := by decide +kernel
theorem dL_law_143 : decode cL_law 143 = .ok (.iload_n 3, 1) := by decide +kernel
theorem dL_law_144 : decode cL_law 144 = .ok (.iconst 2, 1) := by decide +kernel
theorem dL_law_145 : decode cL_law 145 = .ok (.iadd, 1) := by decide +kernel
theorem dL_law_146 : decode cL_law 146 = .ok (.iaload, 1) := by decide +kernel
theorem dL_law_147 : decode cL_law 147 = .ok (.invokevirtual 13, 3) := by decide +kernel
theorem dL_law_150 : decode cL_law 150 = .ok (.aload_n 2, 1) := by decide +kernel
theorem dL_law_151 : decode cL_law 151 = .ok (.aload_n 0, 1) := by decide +kernel
theorem dL_law_152 : decode cL_law 152 = .ok (.iload_n 3, 1) := by decide +kernel
theorem dL_law_153 : decode cL_law 153 = .ok (.iconst 1, 1) := by decide +kernel
theorem dL_law_154 : decode cL_law 154 = .ok (.iadd, 1) := by decide +kernel
theorem dL_law_155 : decode cL_law 155 = .ok (.iaload, 1) := by decide +kernel
theorem dL_law_156 : decode cL_law 156 = .ok (.aload_n 0, 1) := by decide +kernel
theorem dL_law_157 : decode cL_law 157 = .ok (.iload_n 3, 1) := by decide +kernel
theorem dL_law_158 : decode cL_law 158 = .ok (.iconst 2, 1) := by decide +kernel
theorem dL_law_159 : decode cL_law 159 = .ok (.iadd, 1) := by decide +kernel
theorem dL_law_160 : decode cL_law 160 = .ok (.iaload, 1) := by decide +kernel
theorem dL_law_161 : decode cL_law 161 = .ok (.invokevirtual 17, 3) := by decide +kernel
theorem dL_law_164 : decode cL_law 164 = .ok (.lcmp, 1) := by decide +kernel
theorem dL_law_165 : decode cL_law 165 = .ok (.ifCond .eq 691, 3) := by decide +kernel
theorem dL_law_168 : decode cL_law 168 = .ok (.iconst 0, 1) := by decide +kernel
theorem dL_law_169 : decode cL_law 169 = .ok (.ireturn, 1) := by decide +kernel
theorem dL_law_170 : decode cL_law 170 = .ok (.aload_n 1, 1) := by decide +kernel
theorem dL_law_171 : decode cL_law 171 = .ok (.aload_n 0, 1) := by decide +kernel
theorem dL_law_172 : decode cL_law 172 = .ok (.iload_n 3, 1) := by decide +kernel
theorem dL_law_173 : decode cL_law 173 = .ok (.iconst 1, 1) := by decide +kernel
theorem dL_law_174 : decode cL_law 174 = .ok (.iadd, 1) := by decide +kernel
theorem dL_law_175 : decode cL_law 175 = .ok (.iaload, 1) := by decide +kernel
theorem dL_law_176 : decode cL_law 176 = .ok (.aload_n 0, 1) := by decide +kernel
theorem dL_law_177 : decode cL_law 177 = .ok (.iload_n 3, 1) := by decide +kernel
theorem dL_law_178 : decode cL_law 178 = .ok (.iconst 2, 1) := by decide +kernel
theorem dL_law_179 : decode cL_law 179 = .ok (.iadd, 1) := by decide +kernel
theorem dL_law_180 : decode cL_law 180 = .ok (.iaload, 1) := by decide +kernel
theorem dL_law_181 : decode cL_law 181 = .ok (.invokevirtual 18, 3) := by decide +kernel
theorem dL_law_184 : decode cL_law 184 = .ok (.aload_n 2, 1) := by decide +kernel
theorem dL_law_185 : decode cL_law 185 = .ok (.aload_n 0, 1) := by decide +kernel
theorem dL_law_186 : decode cL_law 186 = .ok (.iload_n 3, 1) := by decide +kernel
theorem dL_law_187 : decode cL_law 187 = .ok (.iconst 1, 1) := by decide +kernel
theorem dL_law_188 : decode cL_law 188 = .ok (.iadd, 1) := by decide +kernel
theorem dL_law_189 : decode cL_law 189 = .ok (.iaload, 1) := by decide +kernel
theorem dL_law_190 : decode cL_law 190 = .ok (.aload_n 0, 1) := by decide +kernel
theorem dL_law_191 : decode cL_law 191 = .ok (.iload_n 3, 1) := by decide +kernel
theorem dL_law_192 : decode cL_law 192 = .ok (.iconst 2, 1) := by decide +kernel
theorem dL_law_193 : decode cL_law 193 = .ok (.iadd, 1) := by decide +kernel
theorem dL_law_194 : decode cL_law 194 = .ok (.iaload, 1) := by decide +kernel
theorem dL_law_195 : decode cL_law 195 = .ok (.invokevirtual 21, 3) := by decide +kernel
theorem dL_law_198 : decode cL_law 198 = .ok (.lcmp, 1) := by decide +kernel
theorem dL_law_199 : decode cL_law 199 = .ok (.ifCond .eq 657, 3) := by decide +kernel
theorem dL_law_202 : decode cL_law 202 = .ok (.iconst 0, 1) := by decide +kernel
theorem dL_law_203 : decode cL_law 203 = .ok (.ireturn, 1) := by decide +kernel
theorem dL_law_204 : decode cL_law 204 = .ok (.aload_n 1, 1) := by decide +kernel
theorem dL_law_205 : decode cL_law 205 = .ok (.aload_n 0, 1) := by decide +kernel
theorem dL_law_206 : decode cL_law 206 = .ok (.iload_n 3, 1) := by decide +kernel
theorem dL_law_207 : decode cL_law 207 = .ok (.iconst 1, 1) := by decide +kernel
theorem dL_law_208 : decode cL_law 208 = .ok (.iadd, 1) := by decide +kernel
theorem dL_law_209 : decode cL_law 209 = .ok (.iaload, 1) := by decide +kernel
theorem dL_law_210 : decode cL_law 210 = .ok (.invokevirtual 22, 3) := by decide +kernel
theorem dL_law_213 : decode cL_law 213 = .ok (.aload_n 2, 1) := by decide +kernel
theorem dL_law_214 : decode cL_law 214 = .ok (.aload_n 0, 1) := by decide +kernel
theorem dL_law_215 : decode cL_law 215 = .ok (.iload_n 3, 1) := by decide +kernel
theorem dL_law_216 : decode cL_law 216 = .ok (.iconst 1, 1) := by decide +kernel
theorem dL_law_217 : decode cL_law 217 = .ok (.iadd, 1) := by decide +kernel
theorem dL_law_218 : decode cL_law 218 = .ok (.iaload, 1) := by decide +kernel
theorem dL_law_219 : decode cL_law 219 = .ok (.invokevirtual 26, 3) := by decide +kernel
theorem dL_law_222 : decode cL_law 222 = .ok (.lcmp, 1) := by decide +kernel
theorem dL_law_223 : decode cL_law 223 = .ok (.ifCond .eq 633, 3) := by decide +kernel
theorem dL_law_226 : decode cL_law 226 = .ok (.iconst 0, 1) := by decide +kernel
theorem dL_law_227 : decode cL_law 227 = .ok (.ireturn, 1) := by decide +kernel
theorem dL_law_228 : decode cL_law 228 = .ok (.aload_n 1, 1) := by decide +kernel
theorem dL_law_229 : decode cL_law 229 = .ok (.aload_n 0, 1) := by decide +kernel
theorem dL_law_230 : decode cL_law 230 = .ok (.iload_n 3, 1) := by decide +kernel
theorem dL_law_231 : decode cL_law 231 = .ok (.iconst 1, 1) := by decide +kernel
theorem dL_law_232 : decode cL_law 232 = .ok (.iadd, 1) := by decide +kernel
theorem dL_law_233 : decode cL_law 233 = .ok (.iaload, 1) := by decide +kernel
theorem dL_law_234 : decode cL_law 234 = .ok (.aload_n 0, 1) := by decide +kernel
theorem dL_law_235 : decode cL_law 235 = .ok (.iload_n 3, 1) := by decide +kernel
theorem dL_law_236 : decode cL_law 236 = .ok (.iconst 2, 1) := by decide +kernel
theorem dL_law_237 : decode cL_law 237 = .ok (.iadd, 1) := by decide +kernel
theorem dL_law_238 : decode cL_law 238 = .ok (.iaload, 1) := by decide +kernel
theorem dL_law_239 : decode cL_law 239 = .ok (.invokevirtual 27, 3) := by decide +kernel
theorem dL_law_242 : decode cL_law 242 = .ok (.aload_n 2, 1) := by decide +kernel
theorem dL_law_243 : decode cL_law 243 = .ok (.aload_n 0, 1) := by decide +kernel
theorem dL_law_244 : decode cL_law 244 = .ok (.iload_n 3, 1) := by decide +kernel
theorem dL_law_245 : decode cL_law 245 = .ok (.iconst 1, 1) := by decide +kernel
theorem dL_law_246 : decode cL_law 246 = .ok (.iadd, 1) := by decide +kernel
theorem dL_law_247 : decode cL_law 247 = .ok (.iaload, 1) := by decide +kernel
theorem dL_law_248 : decode cL_law 248 = .ok (.aload_n 0, 1) := by decide +kernel
theorem dL_law_249 : decode cL_law 249 = .ok (.iload_n 3, 1) := by decide +kernel
theorem dL_law_250 : decode cL_law 250 = .ok (.iconst 2, 1) := by decide +kernel
theorem dL_law_251 : decode cL_law 251 = .ok (.iadd, 1) := by decide +kernel
theorem dL_law_252 : decode cL_law 252 = .ok (.iaload, 1) := by decide +kernel
theorem dL_law_253 : decode cL_law 253 = .ok (.invokevirtual 30, 3) := by decide +kernel
theorem dL_law_256 : decode cL_law 256 = .ok (.lcmp, 1) := by decide +kernel
theorem dL_law_257 : decode cL_law 257 = .ok (.ifCond .eq 599, 3) := by decide +kernel
theorem dL_law_260 : decode cL_law 260 = .ok (.iconst 0, 1) := by decide +kernel
theorem dL_law_261 : decode cL_law 261 = .ok (.ireturn, 1) := by decide +kernel
theorem dL_law_262 : decode cL_law 262 = .ok (.aload_n 1, 1) := by decide +kernel
theorem dL_law_263 : decode cL_law 263 = .ok (.aload_n 0, 1) := by decide +kernel
theorem dL_law_264 : decode cL_law 264 = .ok (.iload_n 3, 1) := by decide +kernel
theorem dL_law_265 : decode cL_law 265 = .ok (.iconst 1, 1) := by decide +kernel
theorem dL_law_266 : decode cL_law 266 = .ok (.iadd, 1) := by decide +kernel
theorem dL_law_267 : decode cL_law 267 = .ok (.iaload, 1) := by decide +kernel
theorem dL_law_268 : decode cL_law 268 = .ok (.invokevirtual 31, 3) := by decide +kernel
theorem dL_law_271 : decode cL_law 271 = .ok (.aload_n 2, 1) := by decide +kernel
theorem dL_law_272 : decode cL_law 272 = .ok (.aload_n 0, 1) := by decide +kernel
theorem dL_law_273 : decode cL_law 273 = .ok (.iload_n 3, 1) := by decide +kernel
theorem dL_law_274 : decode cL_law 274 = .ok (.iconst 1, 1) := by decide +kernel
theorem dL_law_275 : decode cL_law 275 = .ok (.iadd, 1) := by decide +kernel
theorem dL_law_276 : decode cL_law 276 = .ok (.iaload, 1) := by decide +kernel
theorem dL_law_277 : decode cL_law 277 = .ok (.invokevirtual 34, 3) := by decide +kernel
theorem dL_law_280 : decode cL_law 280 = .ok (.lcmp, 1) := by decide +kernel
theorem dL_law_281 : decode cL_law 281 = .ok (.ifCond .eq 575, 3) := by decide +kernel
theorem dL_law_284 : decode cL_law 284 = .ok (.iconst 0, 1) := by decide +kernel
theorem dL_law_285 : decode cL_law 285 = .ok (.ireturn, 1) := by decide +kernel
theorem dL_law_286 : decode cL_law 286 = .ok (.aload_n 1, 1) := by decide +kernel
theorem dL_law_287 : decode cL_law 287 = .ok (.aload_n 0, 1) := by decide +kernel
theorem dL_law_288 : decode cL_law 288 = .ok (.iload_n 3, 1) := by decide +kernel
theorem dL_law_289 : decode cL_law 289 = .ok (.iconst 1, 1) := by decide +kernel
theorem dL_law_290 : decode cL_law 290 = .ok (.iadd, 1) := by decide +kernel
theorem dL_law_291 : decode cL_law 291 = .ok (.iaload, 1) := by decide +kernel
theorem dL_law_292 : decode cL_law 292 = .ok (.aload_n 0, 1) := by decide +kernel
theorem dL_law_293 : decode cL_law 293 = .ok (.iload_n 3, 1) := by decide +kernel
theorem dL_law_294 : decode cL_law 294 = .ok (.iconst 2, 1) := by decide +kernel
theorem dL_law_295 : decode cL_law 295 = .ok (.iadd, 1) := by decide +kernel
theorem dL_law_296 : decode cL_law 296 = .ok (.iaload, 1) := by decide +kernel
theorem dL_law_297 : decode cL_law 297 = .ok (.invokevirtual 35, 3) := by decide +kernel
theorem dL_law_300 : decode cL_law 300 = .ok (.aload_n 2, 1) := by decide +kernel
theorem dL_law_301 : decode cL_law 301 = .ok (.aload_n 0, 1) := by decide +kernel
theorem dL_law_302 : decode cL_law 302 = .ok (.iload_n 3, 1) := by decide +kernel
theorem dL_law_303 : decode cL_law 303 = .ok (.iconst 1, 1) := by decide +kernel
theorem dL_law_304 : decode cL_law 304 = .ok (.iadd, 1) := by decide +kernel
theorem dL_law_305 : decode cL_law 305 = .ok (.iaload, 1) := by decide +kernel
theorem dL_law_306 : decode cL_law 306 = .ok (.aload_n 0, 1) := by decide +kernel
theorem dL_law_307 : decode cL_law 307 = .ok (.iload_n 3, 1) := by decide +kernel
theorem dL_law_308 : decode cL_law 308 = .ok (.iconst 2, 1) := by decide +kernel
theorem dL_law_309 : decode cL_law 309 = .ok (.iadd, 1) := by decide +kernel
theorem dL_law_310 : decode cL_law 310 = .ok (.iaload, 1) := by decide +kernel
theorem dL_law_311 : decode cL_law 311 = .ok (.invokevirtual 38, 3) := by decide +kernel
theorem dL_law_314 : decode cL_law 314 = .ok (.lcmp, 1) := by decide +kernel
theorem dL_law_315 : decode cL_law 315 = .ok (.ifCond .eq 541, 3) := by decide +kernel
theorem dL_law_318 : decode cL_law 318 = .ok (.iconst 0, 1) := by decide +kernel
theorem dL_law_319 : decode cL_law 319 = .ok (.ireturn, 1) := by decide +kernel
theorem dL_law_320 : decode cL_law 320 = .ok (.aload_n 1, 1) := by decide +kernel
theorem dL_law_321 : decode cL_law 321 = .ok (.aload_n 0, 1) := by decide +kernel
theorem dL_law_322 : decode cL_law 322 = .ok (.iload_n 3, 1) := by decide +kernel
theorem dL_law_323 : decode cL_law 323 = .ok (.iconst 1, 1) := by decide +kernel
theorem dL_law_324 : decode cL_law 324 = .ok (.iadd, 1) := by decide +kernel
theorem dL_law_325 : decode cL_law 325 = .ok (.iaload, 1) := by decide +kernel
theorem dL_law_326 : decode cL_law 326 = .ok (.aload_n 0, 1) := by decide +kernel
theorem dL_law_327 : decode cL_law 327 = .ok (.iload_n 3, 1) := by decide +kernel
theorem dL_law_328 : decode cL_law 328 = .ok (.iconst 2, 1) := by decide +kernel
theorem dL_law_329 : decode cL_law 329 = .ok (.iadd, 1) := by decide +kernel
theorem dL_law_330 : decode cL_law 330 = .ok (.iaload, 1) := by decide +kernel
theorem dL_law_331 : decode cL_law 331 = .ok (.aload_n 0, 1) := by decide +kernel
theorem dL_law_332 : decode cL_law 332 = .ok (.iload_n 3, 1) := by decide +kernel
theorem dL_law_333 : decode cL_law 333 = .ok (.iconst 3, 1) := by decide +kernel
theorem dL_law_334 : decode cL_law 334 = .ok (.iadd, 1) := by decide +kernel
theorem dL_law_335 : decode cL_law 335 = .ok (.iaload, 1) := by decide +kernel
theorem dL_law_336 : decode cL_law 336 = .ok (.invokevirtual 39, 3) := by decide +kernel
theorem dL_law_339 : decode cL_law 339 = .ok (.aload_n 2, 1) := by decide +kernel
theorem dL_law_340 : decode cL_law 340 = .ok (.aload_n 0, 1) := by decide +kernel
theorem dL_law_341 : decode cL_law 341 = .ok (.iload_n 3, 1) := by decide +kernel
theorem dL_law_342 : decode cL_law 342 = .ok (.iconst 1, 1) := by decide +kernel
theorem dL_law_343 : decode cL_law 343 = .ok (.iadd, 1) := by decide +kernel
theorem dL_law_344 : decode cL_law 344 = .ok (.iaload, 1) := by decide +kernel
theorem dL_law_345 : decode cL_law 345 = .ok (.aload_n 0, 1) := by decide +kernel
theorem dL_law_346 : decode cL_law 346 = .ok (.iload_n 3, 1) := by decide +kernel
theorem dL_law_347 : decode cL_law 347 = .ok (.iconst 2, 1) := by decide +kernel
theorem dL_law_348 : decode cL_law 348 = .ok (.iadd, 1) := by decide +kernel
theorem dL_law_349 : decode cL_law 349 = .ok (.iaload, 1) := by decide +kernel
theorem dL_law_350 : decode cL_law 350 = .ok (.aload_n 0, 1) := by decide +kernel
theorem dL_law_351 : decode cL_law 351 = .ok (.iload_n 3, 1) := by decide +kernel
theorem dL_law_352 : decode cL_law 352 = .ok (.iconst 3, 1) := by decide +kernel
theorem dL_law_353 : decode cL_law 353 = .ok (.iadd, 1) := by decide +kernel
theorem dL_law_354 : decode cL_law 354 = .ok (.iaload, 1) := by decide +kernel
theorem dL_law_355 : decode cL_law 355 = .ok (.invokevirtual 43, 3) := by decide +kernel
theorem dL_law_358 : decode cL_law 358 = .ok (.lcmp, 1) := by decide +kernel
theorem dL_law_359 : decode cL_law 359 = .ok (.ifCond .eq 497, 3) := by decide +kernel
theorem dL_law_362 : decode cL_law 362 = .ok (.iconst 0, 1) := by decide +kernel
theorem dL_law_363 : decode cL_law 363 = .ok (.ireturn, 1) := by decide +kernel
theorem dL_law_364 : decode cL_law 364 = .ok (.aload_n 1, 1) := by decide +kernel
theorem dL_law_365 : decode cL_law 365 = .ok (.aload_n 0, 1) := by decide +kernel
theorem dL_law_366 : decode cL_law 366 = .ok (.iload_n 3, 1) := by decide +kernel
theorem dL_law_367 : decode cL_law 367 = .ok (.iconst 1, 1) := by decide +kernel
theorem dL_law_368 : decode cL_law 368 = .ok (.iadd, 1) := by decide +kernel
theorem dL_law_369 : decode cL_law 369 = .ok (.iaload, 1) := by decide +kernel
theorem dL_law_370 : decode cL_law 370 = .ok (.aload_n 0, 1) := by decide +kernel
theorem dL_law_371 : decode cL_law 371 = .ok (.iload_n 3, 1) := by decide +kernel
theorem dL_law_372 : decode cL_law 372 = .ok (.iconst 2, 1) := by decide +kernel
theorem dL_law_373 : decode cL_law 373 = .ok (.iadd, 1) := by decide +kernel
theorem dL_law_374 : decode cL_law 374 = .ok (.iaload, 1) := by decide +kernel
theorem dL_law_375 : decode cL_law 375 = .ok (.invokevirtual 44, 3) := by decide +kernel
theorem dL_law_378 : decode cL_law 378 = .ok (.aload_n 2, 1) := by decide +kernel
theorem dL_law_379 : decode cL_law 379 = .ok (.aload_n 0, 1) := by decide +kernel
theorem dL_law_380 : decode cL_law 380 = .ok (.iload_n 3, 1) := by decide +kernel
theorem dL_law_381 : decode cL_law 381 = .ok (.iconst 1, 1) := by decide +kernel
theorem dL_law_382 : decode cL_law 382 = .ok (.iadd, 1) := by decide +kernel
theorem dL_law_383 : decode cL_law 383 = .ok (.iaload, 1) := by decide +kernel
theorem dL_law_384 : decode cL_law 384 = .ok (.aload_n 0, 1) := by decide +kernel
theorem dL_law_385 : decode cL_law 385 = .ok (.iload_n 3, 1) := by decide +kernel
theorem dL_law_386 : decode cL_law 386 = .ok (.iconst 2, 1) := by decide +kernel
theorem dL_law_387 : decode cL_law 387 = .ok (.iadd, 1) := by decide +kernel
theorem dL_law_388 : decode cL_law 388 = .ok (.iaload, 1) := by decide +kernel
theorem dL_law_389 : decode cL_law 389 = .ok (.invokevirtual 47, 3) := by decide +kernel
theorem dL_law_392 : decode cL_law 392 = .ok (.lcmp, 1) := by decide +kernel
theorem dL_law_393 : decode cL_law 393 = .ok (.ifCond .eq 463, 3) := by decide +kernel
theorem dL_law_396 : decode cL_law 396 = .ok (.iconst 0, 1) := by decide +kernel
theorem dL_law_397 : decode cL_law 397 = .ok (.ireturn, 1) := by decide +kernel
theorem dL_law_398 : decode cL_law 398 = .ok (.aload_n 1, 1) := by decide +kernel
theorem dL_law_399 : decode cL_law 399 = .ok (.aload_n 0, 1) := by decide +kernel
theorem dL_law_400 : decode cL_law 400 = .ok (.iload_n 3, 1) := by decide +kernel
theorem dL_law_401 : decode cL_law 401 = .ok (.iconst 1, 1) := by decide +kernel
theorem dL_law_402 : decode cL_law 402 = .ok (.iadd, 1) := by decide +kernel
theorem dL_law_403 : decode cL_law 403 = .ok (.iaload, 1) := by decide +kernel
theorem dL_law_404 : decode cL_law 404 = .ok (.aload_n 0, 1) := by decide +kernel
theorem dL_law_405 : decode cL_law 405 = .ok (.iload_n 3, 1) := by decide +kernel
theorem dL_law_406 : decode cL_law 406 = .ok (.iconst 2, 1) := by decide +kernel
theorem dL_law_407 : decode cL_law 407 = .ok (.iadd, 1) := by decide +kernel
theorem dL_law_408 : decode cL_law 408 = .ok (.iaload, 1) := by decide +kernel
theorem dL_law_409 : decode cL_law 409 = .ok (.aload_n 0, 1) := by decide +kernel
theorem dL_law_410 : decode cL_law 410 = .ok (.iload_n 3, 1) := by decide +kernel
theorem dL_law_411 : decode cL_law 411 = .ok (.iconst 3, 1) := by decide +kernel
theorem dL_law_412 : decode cL_law 412 = .ok (.iadd, 1) := by decide +kernel
theorem dL_law_413 : decode cL_law 413 = .ok (.iaload, 1) := by decide +kernel
theorem dL_law_414 : decode cL_law 414 = .ok (.aload_n 0, 1) := by decide +kernel
theorem dL_law_415 : decode cL_law 415 = .ok (.iload_n 3, 1) := by decide +kernel
theorem dL_law_416 : decode cL_law 416 = .ok (.iconst 4, 1) := by decide +kernel
theorem dL_law_417 : decode cL_law 417 = .ok (.iadd, 1) := by decide +kernel
theorem dL_law_418 : decode cL_law 418 = .ok (.iaload, 1) := by decide +kernel
theorem dL_law_419 : decode cL_law 419 = .ok (.aload_n 0, 1) := by decide +kernel
theorem dL_law_420 : decode cL_law 420 = .ok (.iload_n 3, 1) := by decide +kernel
theorem dL_law_421 : decode cL_law 421 = .ok (.iconst 5, 1) := by decide +kernel
theorem dL_law_422 : decode cL_law 422 = .ok (.iadd, 1) := by decide +kernel
theorem dL_law_423 : decode cL_law 423 = .ok (.iaload, 1) := by decide +kernel
theorem dL_law_424 : decode cL_law 424 = .ok (.aload_n 0, 1) := by decide +kernel
theorem dL_law_425 : decode cL_law 425 = .ok (.iload_n 3, 1) := by decide +kernel
theorem dL_law_426 : decode cL_law 426 = .ok (.bipush 6, 2) := by decide +kernel
theorem dL_law_428 : decode cL_law 428 = .ok (.iadd, 1) := by decide +kernel
theorem dL_law_429 : decode cL_law 429 = .ok (.iaload, 1) := by decide +kernel
theorem dL_law_430 : decode cL_law 430 = .ok (.invokevirtual 48, 3) := by decide +kernel
theorem dL_law_433 : decode cL_law 433 = .ok (.aload_n 2, 1) := by decide +kernel
theorem dL_law_434 : decode cL_law 434 = .ok (.aload_n 0, 1) := by decide +kernel
theorem dL_law_435 : decode cL_law 435 = .ok (.iload_n 3, 1) := by decide +kernel
theorem dL_law_436 : decode cL_law 436 = .ok (.iconst 1, 1) := by decide +kernel
theorem dL_law_437 : decode cL_law 437 = .ok (.iadd, 1) := by decide +kernel
theorem dL_law_438 : decode cL_law 438 = .ok (.iaload, 1) := by decide +kernel
theorem dL_law_439 : decode cL_law 439 = .ok (.aload_n 0, 1) := by decide +kernel
theorem dL_law_440 : decode cL_law 440 = .ok (.iload_n 3, 1) := by decide +kernel
theorem dL_law_441 : decode cL_law 441 = .ok (.iconst 2, 1) := by decide +kernel
theorem dL_law_442 : decode cL_law 442 = .ok (.iadd, 1) := by decide +kernel
theorem dL_law_443 : decode cL_law 443 = .ok (.iaload, 1) := by decide +kernel
theorem dL_law_444 : decode cL_law 444 = .ok (.aload_n 0, 1) := by decide +kernel
theorem dL_law_445 : decode cL_law 445 = .ok (.iload_n 3, 1) := by decide +kernel
theorem dL_law_446 : decode cL_law 446 = .ok (.iconst 3, 1) := by decide +kernel
theorem dL_law_447 : decode cL_law 447 = .ok (.iadd, 1) := by decide +kernel
theorem dL_law_448 : decode cL_law 448 = .ok (.iaload, 1) := by decide +kernel
theorem dL_law_449 : decode cL_law 449 = .ok (.aload_n 0, 1) := by decide +kernel
theorem dL_law_450 : decode cL_law 450 = .ok (.iload_n 3, 1) := by decide +kernel
theorem dL_law_451 : decode cL_law 451 = .ok (.iconst 4, 1) := by decide +kernel
theorem dL_law_452 : decode cL_law 452 = .ok (.iadd, 1) := by decide +kernel
theorem dL_law_453 : decode cL_law 453 = .ok (.iaload, 1) := by decide +kernel
theorem dL_law_454 : decode cL_law 454 = .ok (.aload_n 0, 1) := by decide +kernel
theorem dL_law_455 : decode cL_law 455 = .ok (.iload_n 3, 1) := by decide +kernel
theorem dL_law_456 : decode cL_law 456 = .ok (.iconst 5, 1) := by decide +kernel
theorem dL_law_457 : decode cL_law 457 = .ok (.iadd, 1) := by decide +kernel
theorem dL_law_458 : decode cL_law 458 = .ok (.iaload, 1) := by decide +kernel
theorem dL_law_459 : decode cL_law 459 = .ok (.aload_n 0, 1) := by decide +kernel
theorem dL_law_460 : decode cL_law 460 = .ok (.iload_n 3, 1) := by decide +kernel
theorem dL_law_461 : decode cL_law 461 = .ok (.bipush 6, 2) := by decide +kernel
theorem dL_law_463 : decode cL_law 463 = .ok (.iadd, 1) := by decide +kernel
theorem dL_law_464 : decode cL_law 464 = .ok (.iaload, 1) := by decide +kernel
theorem dL_law_465 : decode cL_law 465 = .ok (.invokevirtual 52, 3) := by decide +kernel
theorem dL_law_468 : decode cL_law 468 = .ok (.lcmp, 1) := by decide +kernel
theorem dL_law_469 : decode cL_law 469 = .ok (.ifCond .eq 387, 3) := by decide +kernel
theorem dL_law_472 : decode cL_law 472 = .ok (.iconst 0, 1) := by decide +kernel
theorem dL_law_473 : decode cL_law 473 = .ok (.ireturn, 1) := by decide +kernel
theorem dL_law_474 : decode cL_law 474 = .ok (.aload_n 1, 1) := by decide +kernel
theorem dL_law_475 : decode cL_law 475 = .ok (.aload_n 0, 1) := by decide +kernel
theorem dL_law_476 : decode cL_law 476 = .ok (.iload_n 3, 1) := by decide +kernel
theorem dL_law_477 : decode cL_law 477 = .ok (.iconst 1, 1) := by decide +kernel
theorem dL_law_478 : decode cL_law 478 = .ok (.iadd, 1) := by decide +kernel
theorem dL_law_479 : decode cL_law 479 = .ok (.iaload, 1) := by decide +kernel
theorem dL_law_480 : decode cL_law 480 = .ok (.aload_n 0, 1) := by decide +kernel
theorem dL_law_481 : decode cL_law 481 = .ok (.iload_n 3, 1) := by decide +kernel
theorem dL_law_482 : decode cL_law 482 = .ok (.iconst 2, 1) := by decide +kernel
theorem dL_law_483 : decode cL_law 483 = .ok (.iadd, 1) := by decide +kernel
theorem dL_law_484 : decode cL_law 484 = .ok (.iaload, 1) := by decide +kernel
theorem dL_law_485 : decode cL_law 485 = .ok (.invokevirtual 53, 3) := by decide +kernel
theorem dL_law_488 : decode cL_law 488 = .ok (.aload_n 2, 1) := by decide +kernel
theorem dL_law_489 : decode cL_law 489 = .ok (.aload_n 0, 1) := by decide +kernel
theorem dL_law_490 : decode cL_law 490 = .ok (.iload_n 3, 1) := by decide +kernel
theorem dL_law_491 : decode cL_law 491 = .ok (.iconst 1, 1) := by decide +kernel
theorem dL_law_492 : decode cL_law 492 = .ok (.iadd, 1) := by decide +kernel
theorem dL_law_493 : decode cL_law 493 = .ok (.iaload, 1) := by decide +kernel
theorem dL_law_494 : decode cL_law 494 = .ok (.aload_n 0, 1) := by decide +kernel
theorem dL_law_495 : decode cL_law 495 = .ok (.iload_n 3, 1) := by decide +kernel
theorem dL_law_496 : decode cL_law 496 = .ok (.iconst 2, 1) := by decide +kernel
theorem dL_law_497 : decode cL_law 497 = .ok (.iadd, 1) := by decide +kernel
theorem dL_law_498 : decode cL_law 498 = .ok (.iaload, 1) := by decide +kernel
theorem dL_law_499 : decode cL_law 499 = .ok (.invokevirtual 56, 3) := by decide +kernel
theorem dL_law_502 : decode cL_law 502 = .ok (.lcmp, 1) := by decide +kernel
theorem dL_law_503 : decode cL_law 503 = .ok (.ifCond .eq 353, 3) := by decide +kernel
theorem dL_law_506 : decode cL_law 506 = .ok (.iconst 0, 1) := by decide +kernel
theorem dL_law_507 : decode cL_law 507 = .ok (.ireturn, 1) := by decide +kernel
theorem dL_law_508 : decode cL_law 508 = .ok (.aload_n 1, 1) := by decide +kernel
theorem dL_law_509 : decode cL_law 509 = .ok (.aload_n 0, 1) := by decide +kernel
theorem dL_law_510 : decode cL_law 510 = .ok (.iload_n 3, 1) := by decide +kernel
theorem dL_law_511 : decode cL_law 511 = .ok (.iconst 1, 1) := by decide +kernel
theorem dL_law_512 : decode cL_law 512 = .ok (.iadd, 1) := by decide +kernel
theorem dL_law_513 : decode cL_law 513 = .ok (.iaload, 1) := by decide +kernel
theorem dL_law_514 : decode cL_law 514 = .ok (.aload_n 0, 1) := by decide +kernel
theorem dL_law_515 : decode cL_law 515 = .ok (.iload_n 3, 1) := by decide +kernel
theorem dL_law_516 : decode cL_law 516 = .ok (.iconst 2, 1) := by decide +kernel
theorem dL_law_517 : decode cL_law 517 = .ok (.iadd, 1) := by decide +kernel
theorem dL_law_518 : decode cL_law 518 = .ok (.iaload, 1) := by decide +kernel
theorem dL_law_519 : decode cL_law 519 = .ok (.invokevirtual 57, 3) := by decide +kernel
theorem dL_law_522 : decode cL_law 522 = .ok (.aload_n 2, 1) := by decide +kernel
theorem dL_law_523 : decode cL_law 523 = .ok (.aload_n 0, 1) := by decide +kernel
theorem dL_law_524 : decode cL_law 524 = .ok (.iload_n 3, 1) := by decide +kernel
theorem dL_law_525 : decode cL_law 525 = .ok (.iconst 1, 1) := by decide +kernel
theorem dL_law_526 : decode cL_law 526 = .ok (.iadd, 1) := by decide +kernel
theorem dL_law_527 : decode cL_law 527 = .ok (.iaload, 1) := by decide +kernel
theorem dL_law_528 : decode cL_law 528 = .ok (.aload_n 0, 1) := by decide +kernel
theorem dL_law_529 : decode cL_law 529 = .ok (.iload_n 3, 1) := by decide +kernel
theorem dL_law_530 : decode cL_law 530 = .ok (.iconst 2, 1) := by decide +kernel
theorem dL_law_531 : decode cL_law 531 = .ok (.iadd, 1) := by decide +kernel
theorem dL_law_532 : decode cL_law 532 = .ok (.iaload, 1) := by decide +kernel
theorem dL_law_533 : decode cL_law 533 = .ok (.invokevirtual 60, 3) := by decide +kernel
theorem dL_law_536 : decode cL_law 536 = .ok (.lcmp, 1) := by decide +kernel
theorem dL_law_537 : decode cL_law 537 = .ok (.ifCond .eq 319, 3) := by decide +kernel
theorem dL_law_540 : decode cL_law 540 = .ok (.iconst 0, 1) := by decide +kernel
theorem dL_law_541 : decode cL_law 541 = .ok (.ireturn, 1) := by decide +kernel
theorem dL_law_542 : decode cL_law 542 = .ok (.aload_n 1, 1) := by decide +kernel
theorem dL_law_543 : decode cL_law 543 = .ok (.aload_n 0, 1) := by decide +kernel
theorem dL_law_544 : decode cL_law 544 = .ok (.iload_n 3, 1) := by decide +kernel
theorem dL_law_545 : decode cL_law 545 = .ok (.iconst 1, 1) := by decide +kernel
theorem dL_law_546 : decode cL_law 546 = .ok (.iadd, 1) := by decide +kernel
theorem dL_law_547 : decode cL_law 547 = .ok (.iaload, 1) := by decide +kernel
theorem dL_law_548 : decode cL_law 548 = .ok (.aload_n 0, 1) := by decide +kernel
theorem dL_law_549 : decode cL_law 549 = .ok (.iload_n 3, 1) := by decide +kernel
theorem dL_law_550 : decode cL_law 550 = .ok (.iconst 2, 1) := by decide +kernel
theorem dL_law_551 : decode cL_law 551 = .ok (.iadd, 1) := by decide +kernel
theorem dL_law_552 : decode cL_law 552 = .ok (.iaload, 1) := by decide +kernel
theorem dL_law_553 : decode cL_law 553 = .ok (.aload_n 0, 1) := by decide +kernel
theorem dL_law_554 : decode cL_law 554 = .ok (.iload_n 3, 1) := by decide +kernel
theorem dL_law_555 : decode cL_law 555 = .ok (.iconst 3, 1) := by decide +kernel
theorem dL_law_556 : decode cL_law 556 = .ok (.iadd, 1) := by decide +kernel
theorem dL_law_557 : decode cL_law 557 = .ok (.iaload, 1) := by decide +kernel
theorem dL_law_558 : decode cL_law 558 = .ok (.invokevirtual 61, 3) := by decide +kernel
theorem dL_law_561 : decode cL_law 561 = .ok (.aload_n 2, 1) := by decide +kernel
theorem dL_law_562 : decode cL_law 562 = .ok (.aload_n 0, 1) := by decide +kernel
theorem dL_law_563 : decode cL_law 563 = .ok (.iload_n 3, 1) := by decide +kernel
theorem dL_law_564 : decode cL_law 564 = .ok (.iconst 1, 1) := by decide +kernel
theorem dL_law_565 : decode cL_law 565 = .ok (.iadd, 1) := by decide +kernel
theorem dL_law_566 : decode cL_law 566 = .ok (.iaload, 1) := by decide +kernel
theorem dL_law_567 : decode cL_law 567 = .ok (.aload_n 0, 1) := by decide +kernel
theorem dL_law_568 : decode cL_law 568 = .ok (.iload_n 3, 1) := by decide +kernel
theorem dL_law_569 : decode cL_law 569 = .ok (.iconst 2, 1) := by decide +kernel
theorem dL_law_570 : decode cL_law 570 = .ok (.iadd, 1) := by decide +kernel
theorem dL_law_571 : decode cL_law 571 = .ok (.iaload, 1) := by decide +kernel
theorem dL_law_572 : decode cL_law 572 = .ok (.aload_n 0, 1) := by decide +kernel
theorem dL_law_573 : decode cL_law 573 = .ok (.iload_n 3, 1) := by decide +kernel
theorem dL_law_574 : decode cL_law 574 = .ok (.iconst 3, 1) := by decide +kernel
theorem dL_law_575 : decode cL_law 575 = .ok (.iadd, 1) := by decide +kernel
theorem dL_law_576 : decode cL_law 576 = .ok (.iaload, 1) := by decide +kernel
theorem dL_law_577 : decode cL_law 577 = .ok (.invokevirtual 64, 3) := by decide +kernel
theorem dL_law_580 : decode cL_law 580 = .ok (.lcmp, 1) := by decide +kernel
theorem dL_law_581 : decode cL_law 581 = .ok (.ifCond .eq 275, 3) := by decide +kernel
theorem dL_law_584 : decode cL_law 584 = .ok (.iconst 0, 1) := by decide +kernel
theorem dL_law_585 : decode cL_law 585 = .ok (.ireturn, 1) := by decide +kernel
theorem dL_law_586 : decode cL_law 586 = .ok (.aload_n 1, 1) := by decide +kernel
theorem dL_law_587 : decode cL_law 587 = .ok (.aload_n 0, 1) := by decide +kernel
theorem dL_law_588 : decode cL_law 588 = .ok (.iload_n 3, 1) := by decide +kernel
theorem dL_law_589 : decode cL_law 589 = .ok (.iconst 1, 1) := by decide +kernel
theorem dL_law_590 : decode cL_law 590 = .ok (.iadd, 1) := by decide +kernel
theorem dL_law_591 : decode cL_law 591 = .ok (.iaload, 1) := by decide +kernel
theorem dL_law_592 : decode cL_law 592 = .ok (.aload_n 0, 1) := by decide +kernel
theorem dL_law_593 : decode cL_law 593 = .ok (.iload_n 3, 1) := by decide +kernel
theorem dL_law_594 : decode cL_law 594 = .ok (.iconst 2, 1) := by decide +kernel
theorem dL_law_595 : decode cL_law 595 = .ok (.iadd, 1) := by decide +kernel
theorem dL_law_596 : decode cL_law 596 = .ok (.iaload, 1) := by decide +kernel
theorem dL_law_597 : decode cL_law 597 = .ok (.invokevirtual 65, 3) := by decide +kernel
theorem dL_law_600 : decode cL_law 600 = .ok (.aload_n 2, 1) := by decide +kernel
theorem dL_law_601 : decode cL_law 601 = .ok (.aload_n 0, 1) := by decide +kernel
theorem dL_law_602 : decode cL_law 602 = .ok (.iload_n 3, 1) := by decide +kernel
theorem dL_law_603 : decode cL_law 603 = .ok (.iconst 1, 1) := by decide +kernel
theorem dL_law_604 : decode cL_law 604 = .ok (.iadd, 1) := by decide +kernel
theorem dL_law_605 : decode cL_law 605 = .ok (.iaload, 1) := by decide +kernel
theorem dL_law_606 : decode cL_law 606 = .ok (.aload_n 0, 1) := by decide +kernel
theorem dL_law_607 : decode cL_law 607 = .ok (.iload_n 3, 1) := by decide +kernel
theorem dL_law_608 : decode cL_law 608 = .ok (.iconst 2, 1) := by decide +kernel
theorem dL_law_609 : decode cL_law 609 = .ok (.iadd, 1) := by decide +kernel
theorem dL_law_610 : decode cL_law 610 = .ok (.iaload, 1) := by decide +kernel
theorem dL_law_611 : decode cL_law 611 = .ok (.invokevirtual 68, 3) := by decide +kernel
theorem dL_law_614 : decode cL_law 614 = .ok (.lcmp, 1) := by decide +kernel
theorem dL_law_615 : decode cL_law 615 = .ok (.ifCond .eq 241, 3) := by decide +kernel
theorem dL_law_618 : decode cL_law 618 = .ok (.iconst 0, 1) := by decide +kernel
theorem dL_law_619 : decode cL_law 619 = .ok (.ireturn, 1) := by decide +kernel
theorem dL_law_620 : decode cL_law 620 = .ok (.aload_n 1, 1) := by decide +kernel
theorem dL_law_621 : decode cL_law 621 = .ok (.aload_n 0, 1) := by decide +kernel
theorem dL_law_622 : decode cL_law 622 = .ok (.iload_n 3, 1) := by decide +kernel
theorem dL_law_623 : decode cL_law 623 = .ok (.iconst 1, 1) := by decide +kernel
theorem dL_law_624 : decode cL_law 624 = .ok (.iadd, 1) := by decide +kernel
theorem dL_law_625 : decode cL_law 625 = .ok (.iaload, 1) := by decide +kernel
theorem dL_law_626 : decode cL_law 626 = .ok (.aload_n 0, 1) := by decide +kernel
theorem dL_law_627 : decode cL_law 627 = .ok (.iload_n 3, 1) := by decide +kernel
theorem dL_law_628 : decode cL_law 628 = .ok (.iconst 2, 1) := by decide +kernel
theorem dL_law_629 : decode cL_law 629 = .ok (.iadd, 1) := by decide +kernel
theorem dL_law_630 : decode cL_law 630 = .ok (.iaload, 1) := by decide +kernel
theorem dL_law_631 : decode cL_law 631 = .ok (.invokevirtual 69, 3) := by decide +kernel
theorem dL_law_634 : decode cL_law 634 = .ok (.aload_n 2, 1) := by decide +kernel
theorem dL_law_635 : decode cL_law 635 = .ok (.aload_n 0, 1) := by decide +kernel
theorem dL_law_636 : decode cL_law 636 = .ok (.iload_n 3, 1) := by decide +kernel
theorem dL_law_637 : decode cL_law 637 = .ok (.iconst 1, 1) := by decide +kernel
theorem dL_law_638 : decode cL_law 638 = .ok (.iadd, 1) := by decide +kernel
theorem dL_law_639 : decode cL_law 639 = .ok (.iaload, 1) := by decide +kernel
theorem dL_law_640 : decode cL_law 640 = .ok (.aload_n 0, 1) := by decide +kernel
theorem dL_law_641 : decode cL_law 641 = .ok (.iload_n 3, 1) := by decide +kernel
theorem dL_law_642 : decode cL_law 642 = .ok (.iconst 2, 1) := by decide +kernel
theorem dL_law_643 : decode cL_law 643 = .ok (.iadd, 1) := by decide +kernel
theorem dL_law_644 : decode cL_law 644 = .ok (.iaload, 1) := by decide +kernel
theorem dL_law_645 : decode cL_law 645 = .ok (.invokevirtual 72, 3) := by decide +kernel
theorem dL_law_648 : decode cL_law 648 = .ok (.lcmp, 1) := by decide +kernel
theorem dL_law_649 : decode cL_law 649 = .ok (.ifCond .eq 207, 3) := by decide +kernel
theorem dL_law_652 : decode cL_law 652 = .ok (.iconst 0, 1) := by decide +kernel
theorem dL_law_653 : decode cL_law 653 = .ok (.ireturn, 1) := by decide +kernel
theorem dL_law_654 : decode cL_law 654 = .ok (.aload_n 1, 1) := by decide +kernel
theorem dL_law_655 : decode cL_law 655 = .ok (.aload_n 0, 1) := by decide +kernel
theorem dL_law_656 : decode cL_law 656 = .ok (.iload_n 3, 1) := by decide +kernel
theorem dL_law_657 : decode cL_law 657 = .ok (.iconst 1, 1) := by decide +kernel
theorem dL_law_658 : decode cL_law 658 = .ok (.iadd, 1) := by decide +kernel
theorem dL_law_659 : decode cL_law 659 = .ok (.iaload, 1) := by decide +kernel
theorem dL_law_660 : decode cL_law 660 = .ok (.invokevirtual 73, 3) := by decide +kernel
theorem dL_law_663 : decode cL_law 663 = .ok (.aload_n 2, 1) := by decide +kernel
theorem dL_law_664 : decode cL_law 664 = .ok (.aload_n 0, 1) := by decide +kernel
theorem dL_law_665 : decode cL_law 665 = .ok (.iload_n 3, 1) := by decide +kernel
theorem dL_law_666 : decode cL_law 666 = .ok (.iconst 1, 1) := by decide +kernel
theorem dL_law_667 : decode cL_law 667 = .ok (.iadd, 1) := by decide +kernel
theorem dL_law_668 : decode cL_law 668 = .ok (.iaload, 1) := by decide +kernel
theorem dL_law_669 : decode cL_law 669 = .ok (.invokevirtual 76, 3) := by decide +kernel
theorem dL_law_672 : decode cL_law 672 = .ok (.lcmp, 1) := by decide +kernel
theorem dL_law_673 : decode cL_law 673 = .ok (.ifCond .eq 183, 3) := by decide +kernel
theorem dL_law_676 : decode cL_law 676 = .ok (.iconst 0, 1) := by decide +kernel
theorem dL_law_677 : decode cL_law 677 = .ok (.ireturn, 1) := by decide +kernel
theorem dL_law_678 : decode cL_law 678 = .ok (.aload_n 1, 1) := by decide +kernel
theorem dL_law_679 : decode cL_law 679 = .ok (.aload_n 0, 1) := by decide +kernel
theorem dL_law_680 : decode cL_law 680 = .ok (.iload_n 3, 1) := by decide +kernel
theorem dL_law_681 : decode cL_law 681 = .ok (.iconst 1, 1) := by decide +kernel
theorem dL_law_682 : decode cL_law 682 = .ok (.iadd, 1) := by decide +kernel
theorem dL_law_683 : decode cL_law 683 = .ok (.iaload, 1) := by decide +kernel
theorem dL_law_684 : decode cL_law 684 = .ok (.aload_n 0, 1) := by decide +kernel
theorem dL_law_685 : decode cL_law 685 = .ok (.iload_n 3, 1) := by decide +kernel
theorem dL_law_686 : decode cL_law 686 = .ok (.iconst 2, 1) := by decide +kernel
theorem dL_law_687 : decode cL_law 687 = .ok (.iadd, 1) := by decide +kernel
theorem dL_law_688 : decode cL_law 688 = .ok (.iaload, 1) := by decide +kernel
theorem dL_law_689 : decode cL_law 689 = .ok (.invokevirtual 77, 3) := by decide +kernel
theorem dL_law_692 : decode cL_law 692 = .ok (.aload_n 2, 1) := by decide +kernel
theorem dL_law_693 : decode cL_law 693 = .ok (.aload_n 0, 1) := by decide +kernel
theorem dL_law_694 : decode cL_law 694 = .ok (.iload_n 3, 1) := by decide +kernel
theorem dL_law_695 : decode cL_law 695 = .ok (.iconst 1, 1) := by decide +kernel
theorem dL_law_696 : decode cL_law 696 = .ok (.iadd, 1) := by decide +kernel
theorem dL_law_697 : decode cL_law 697 = .ok (.iaload, 1) := by decide +kernel
theorem dL_law_698 : decode cL_law 698 = .ok (.aload_n 0, 1) := by decide +kernel
theorem dL_law_699 : decode cL_law 699 = .ok (.iload_n 3, 1) := by decide +kernel
theorem dL_law_700 : decode cL_law 700 = .ok (.iconst 2, 1) := by decide +kernel
theorem dL_law_701 : decode cL_law 701 = .ok (.iadd, 1) := by decide +kernel
theorem dL_law_702 : decode cL_law 702 = .ok (.iaload, 1) := by decide +kernel
theorem dL_law_703 : decode cL_law 703 = .ok (.invokevirtual 80, 3) := by decide +kernel
theorem dL_law_706 : decode cL_law 706 = .ok (.lcmp, 1) := by decide +kernel
theorem dL_law_707 : decode cL_law 707 = .ok (.ifCond .eq 149, 3) := by decide +kernel
theorem dL_law_710 : decode cL_law 710 = .ok (.iconst 0, 1) := by decide +kernel
theorem dL_law_711 : decode cL_law 711 = .ok (.ireturn, 1) := by decide +kernel
theorem dL_law_712 : decode cL_law 712 = .ok (.aload_n 1, 1) := by decide +kernel
theorem dL_law_713 : decode cL_law 713 = .ok (.aload_n 0, 1) := by decide +kernel
theorem dL_law_714 : decode cL_law 714 = .ok (.iload_n 3, 1) := by decide +kernel
theorem dL_law_715 : decode cL_law 715 = .ok (.iconst 1, 1) := by decide +kernel
theorem dL_law_716 : decode cL_law 716 = .ok (.iadd, 1) := by decide +kernel
theorem dL_law_717 : decode cL_law 717 = .ok (.iaload, 1) := by decide +kernel
theorem dL_law_718 : decode cL_law 718 = .ok (.invokevirtual 81, 3) := by decide +kernel
theorem dL_law_721 : decode cL_law 721 = .ok (.aload_n 2, 1) := by decide +kernel
theorem dL_law_722 : decode cL_law 722 = .ok (.aload_n 0, 1) := by decide +kernel
theorem dL_law_723 : decode cL_law 723 = .ok (.iload_n 3, 1) := by decide +kernel
theorem dL_law_724 : decode cL_law 724 = .ok (.iconst 1, 1) := by decide +kernel
theorem dL_law_725 : decode cL_law 725 = .ok (.iadd, 1) := by decide +kernel
theorem dL_law_726 : decode cL_law 726 = .ok (.iaload, 1) := by decide +kernel
theorem dL_law_727 : decode cL_law 727 = .ok (.invokevirtual 84, 3) := by decide +kernel
theorem dL_law_730 : decode cL_law 730 = .ok (.lcmp, 1) := by decide +kernel
theorem dL_law_731 : decode cL_law 731 = .ok (.ifCond .eq 125, 3) := by decide +kernel
theorem dL_law_734 : decode cL_law 734 = .ok (.iconst 0, 1) := by decide +kernel
theorem dL_law_735 : decode cL_law 735 = .ok (.ireturn, 1) := by decide +kernel
theorem dL_law_736 : decode cL_law 736 = .ok (.aload_n 1, 1) := by decide +kernel
theorem dL_law_737 : decode cL_law 737 = .ok (.aload_n 0, 1) := by decide +kernel
theorem dL_law_738 : decode cL_law 738 = .ok (.iload_n 3, 1) := by decide +kernel
theorem dL_law_739 : decode cL_law 739 = .ok (.iconst 1, 1) := by decide +kernel
theorem dL_law_740 : decode cL_law 740 = .ok (.iadd, 1) := by decide +kernel
theorem dL_law_741 : decode cL_law 741 = .ok (.iaload, 1) := by decide +kernel
theorem dL_law_742 : decode cL_law 742 = .ok (.aload_n 0, 1) := by decide +kernel
theorem dL_law_743 : decode cL_law 743 = .ok (.iload_n 3, 1) := by decide +kernel
theorem dL_law_744 : decode cL_law 744 = .ok (.iconst 2, 1) := by decide +kernel
theorem dL_law_745 : decode cL_law 745 = .ok (.iadd, 1) := by decide +kernel
theorem dL_law_746 : decode cL_law 746 = .ok (.iaload, 1) := by decide +kernel
theorem dL_law_747 : decode cL_law 747 = .ok (.invokevirtual 85, 3) := by decide +kernel
theorem dL_law_750 : decode cL_law 750 = .ok (.aload_n 2, 1) := by decide +kernel
theorem dL_law_751 : decode cL_law 751 = .ok (.aload_n 0, 1) := by decide +kernel
theorem dL_law_752 : decode cL_law 752 = .ok (.iload_n 3, 1) := by decide +kernel
theorem dL_law_753 : decode cL_law 753 = .ok (.iconst 1, 1) := by decide +kernel
theorem dL_law_754 : decode cL_law 754 = .ok (.iadd, 1) := by decide +kernel
theorem dL_law_755 : decode cL_law 755 = .ok (.iaload, 1) := by decide +kernel
theorem dL_law_756 : decode cL_law 756 = .ok (.aload_n 0, 1) := by decide +kernel
theorem dL_law_757 : decode cL_law 757 = .ok (.iload_n 3, 1) := by decide +kernel
theorem dL_law_758 : decode cL_law 758 = .ok (.iconst 2, 1) := by decide +kernel
theorem dL_law_759 : decode cL_law 759 = .ok (.iadd, 1) := by decide +kernel
theorem dL_law_760 : decode cL_law 760 = .ok (.iaload, 1) := by decide +kernel
theorem dL_law_761 : decode cL_law 761 = .ok (.invokevirtual 88, 3) := by decide +kernel
theorem dL_law_764 : decode cL_law 764 = .ok (.lcmp, 1) := by decide +kernel
theorem dL_law_765 : decode cL_law 765 = .ok (.ifCond .eq 91, 3) := by decide +kernel
theorem dL_law_768 : decode cL_law 768 = .ok (.iconst 0, 1) := by decide +kernel
theorem dL_law_769 : decode cL_law 769 = .ok (.ireturn, 1) := by decide +kernel
theorem dL_law_770 : decode cL_law 770 = .ok (.aload_n 1, 1) := by decide +kernel
theorem dL_law_771 : decode cL_law 771 = .ok (.aload_n 0, 1) := by decide +kernel
theorem dL_law_772 : decode cL_law 772 = .ok (.iload_n 3, 1) := by decide +kernel
theorem dL_law_773 : decode cL_law 773 = .ok (.iconst 1, 1) := by decide +kernel
theorem dL_law_774 : decode cL_law 774 = .ok (.iadd, 1) := by decide +kernel
theorem dL_law_775 : decode cL_law 775 = .ok (.iaload, 1) := by decide +kernel
theorem dL_law_776 : decode cL_law 776 = .ok (.aload_n 0, 1) := by decide +kernel
theorem dL_law_777 : decode cL_law 777 = .ok (.iload_n 3, 1) := by decide +kernel
theorem dL_law_778 : decode cL_law 778 = .ok (.iconst 2, 1) := by decide +kernel
theorem dL_law_779 : decode cL_law 779 = .ok (.iadd, 1) := by decide +kernel
theorem dL_law_780 : decode cL_law 780 = .ok (.iaload, 1) := by decide +kernel
theorem dL_law_781 : decode cL_law 781 = .ok (.invokevirtual 89, 3) := by decide +kernel
theorem dL_law_784 : decode cL_law 784 = .ok (.aload_n 2, 1) := by decide +kernel
theorem dL_law_785 : decode cL_law 785 = .ok (.aload_n 0, 1) := by decide +kernel
theorem dL_law_786 : decode cL_law 786 = .ok (.iload_n 3, 1) := by decide +kernel
theorem dL_law_787 : decode cL_law 787 = .ok (.iconst 1, 1) := by decide +kernel
theorem dL_law_788 : decode cL_law 788 = .ok (.iadd, 1) := by decide +kernel
theorem dL_law_789 : decode cL_law 789 = .ok (.iaload, 1) := by decide +kernel
theorem dL_law_790 : decode cL_law 790 = .ok (.aload_n 0, 1) := by decide +kernel
theorem dL_law_791 : decode cL_law 791 = .ok (.iload_n 3, 1) := by decide +kernel
theorem dL_law_792 : decode cL_law 792 = .ok (.iconst 2, 1) := by decide +kernel
theorem dL_law_793 : decode cL_law 793 = .ok (.iadd, 1) := by decide +kernel
theorem dL_law_794 : decode cL_law 794 = .ok (.iaload, 1) := by decide +kernel
theorem dL_law_795 : decode cL_law 795 = .ok (.invokevirtual 92, 3) := by decide +kernel
theorem dL_law_798 : decode cL_law 798 = .ok (.lcmp, 1) := by decide +kernel
theorem dL_law_799 : decode cL_law 799 = .ok (.ifCond .eq 57, 3) := by decide +kernel
theorem dL_law_802 : decode cL_law 802 = .ok (.iconst 0, 1) := by decide +kernel
theorem dL_law_803 : decode cL_law 803 = .ok (.ireturn, 1) := by decide +kernel
theorem dL_law_804 : decode cL_law 804 = .ok (.aload_n 1, 1) := by decide +kernel
theorem dL_law_805 : decode cL_law 805 = .ok (.aload_n 0, 1) := by decide +kernel
theorem dL_law_806 : decode cL_law 806 = .ok (.iload_n 3, 1) := by decide +kernel
theorem dL_law_807 : decode cL_law 807 = .ok (.iconst 1, 1) := by decide +kernel
theorem dL_law_808 : decode cL_law 808 = .ok (.iadd, 1) := by decide +kernel
theorem dL_law_809 : decode cL_law 809 = .ok (.iaload, 1) := by decide +kernel
theorem dL_law_810 : decode cL_law 810 = .ok (.invokevirtual 93, 3) := by decide +kernel
theorem dL_law_813 : decode cL_law 813 = .ok (.aload_n 2, 1) := by decide +kernel
theorem dL_law_814 : decode cL_law 814 = .ok (.aload_n 0, 1) := by decide +kernel
theorem dL_law_815 : decode cL_law 815 = .ok (.iload_n 3, 1) := by decide +kernel
theorem dL_law_816 : decode cL_law 816 = .ok (.iconst 1, 1) := by decide +kernel
theorem dL_law_817 : decode cL_law 817 = .ok (.iadd, 1) := by decide +kernel
theorem dL_law_818 : decode cL_law 818 = .ok (.iaload, 1) := by decide +kernel
theorem dL_law_819 : decode cL_law 819 = .ok (.invokevirtual 96, 3) := by decide +kernel
theorem dL_law_822 : decode cL_law 822 = .ok (.lcmp, 1) := by decide +kernel
theorem dL_law_823 : decode cL_law 823 = .ok (.ifCond .eq 33, 3) := by decide +kernel
theorem dL_law_826 : decode cL_law 826 = .ok (.iconst 0, 1) := by decide +kernel
theorem dL_law_827 : decode cL_law 827 = .ok (.ireturn, 1) := by decide +kernel
theorem dL_law_828 : decode cL_law 828 = .ok (.aload_n 1, 1) := by decide +kernel
theorem dL_law_829 : decode cL_law 829 = .ok (.invokevirtual 97, 3) := by decide +kernel
theorem dL_law_832 : decode cL_law 832 = .ok (.aload_n 2, 1) := by decide +kernel
theorem dL_law_833 : decode cL_law 833 = .ok (.invokevirtual 101, 3) := by decide +kernel
theorem dL_law_836 : decode cL_law 836 = .ok (.lcmp, 1) := by decide +kernel
theorem dL_law_837 : decode cL_law 837 = .ok (.ifCond .eq 19, 3) := by decide +kernel
theorem dL_law_840 : decode cL_law 840 = .ok (.iconst 0, 1) := by decide +kernel
theorem dL_law_841 : decode cL_law 841 = .ok (.ireturn, 1) := by decide +kernel
theorem dL_law_842 : decode cL_law 842 = .ok (.aload_n 1, 1) := by decide +kernel
theorem dL_law_843 : decode cL_law 843 = .ok (.invokevirtual 102, 3) := by decide +kernel
theorem dL_law_846 : decode cL_law 846 = .ok (.aload_n 2, 1) := by decide +kernel
theorem dL_law_847 : decode cL_law 847 = .ok (.invokevirtual 105, 3) := by decide +kernel
theorem dL_law_850 : decode cL_law 850 = .ok (.lcmp, 1) := by decide +kernel
theorem dL_law_851 : decode cL_law 851 = .ok (.ifCond .eq 5, 3) := by decide +kernel
theorem dL_law_854 : decode cL_law 854 = .ok (.iconst 0, 1) := by decide +kernel
theorem dL_law_855 : decode cL_law 855 = .ok (.ireturn, 1) := by decide +kernel
theorem dL_law_856 : decode cL_law 856 = .ok (.iinc 3 7, 3) := by decide +kernel
theorem dL_law_859 : decode cL_law 859 = .ok (.goto (-841), 3) := by decide +kernel
theorem dL_law_862 : decode cL_law 862 = .ok (.iconst 1, 1) := by decide +kernel
theorem dL_law_863 : decode cL_law 863 = .ok (.ireturn, 1) := by decide +kernel

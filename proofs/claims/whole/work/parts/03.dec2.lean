theorem dX5_buy_132 : decode cX5_buy 132 = .ok (.if_icmp .lt 7, 3) := by decide +kernel
theorem dX5_buy_135 : decode cX5_buy 135 = .ok (.ldc2_w 34, 3) := by decide +kernel
theorem dX5_buy_138 : decode cX5_buy 138 = .ok (.lreturn, 1) := by decide +kernel
theorem dX5_buy_139 : decode cX5_buy 139 = .ok (.aload_n 0, 1) := by decide +kernel
theorem dX5_buy_140 : decode cX5_buy 140 = .ok (.getfield 10, 3) := by decide +kernel
theorem dX5_buy_143 : decode cX5_buy 143 = .ok (.iload_n 1, 1) := by decide +kernel
theorem dX5_buy_144 : decode cX5_buy 144 = .ok (.iload_n 2, 1) := by decide +kernel
theorem dX5_buy_145 : decode cX5_buy 145 = .ok (.iload 7, 2) := by decide +kernel
theorem dX5_buy_147 : decode cX5_buy 147 = .ok (.iload 4, 2) := by decide +kernel
theorem dX5_buy_149 : decode cX5_buy 149 = .ok (.iload 8, 2) := by decide +kernel
theorem dX5_buy_151 : decode cX5_buy 151 = .ok (.invokevirtual 125, 3) := by decide +kernel
theorem dX5_buy_154 : decode cX5_buy 154 = .ok (.istore 9, 2) := by decide +kernel
theorem dX5_buy_156 : decode cX5_buy 156 = .ok (.aload_n 0, 1) := by decide +kernel
theorem dX5_buy_157 : decode cX5_buy 157 = .ok (.getfield 10, 3) := by decide +kernel
theorem dX5_buy_160 : decode cX5_buy 160 = .ok (.getfield 129, 3) := by decide +kernel
theorem dX5_buy_163 : decode cX5_buy 163 = .ok (.iload 9, 2) := by decide +kernel
theorem dX5_buy_165 : decode cX5_buy 165 = .ok (.aaload, 1) := by decide +kernel
theorem dX5_buy_166 : decode cX5_buy 166 = .ok (.astore 10, 2) := by decide +kernel
theorem dX5_buy_168 : decode cX5_buy 168 = .ok (.aload 10, 2) := by decide +kernel
theorem dX5_buy_170 : decode cX5_buy 170 = .ok (.iload 5, 2) := by decide +kernel
theorem dX5_buy_172 : decode cX5_buy 172 = .ok (.putfield 133, 3) := by decide +kernel
theorem dX5_buy_175 : decode cX5_buy 175 = .ok (.aload 10, 2) := by decide +kernel
theorem dX5_buy_177 : decode cX5_buy 177 = .ok (.iload 5, 2) := by decide +kernel
theorem dX5_buy_179 : decode cX5_buy 179 = .ok (.iconst 2, 1) := by decide +kernel
theorem dX5_buy_180 : decode cX5_buy 180 = .ok (.if_icmp .eq 9, 3) := by decide +kernel
theorem dX5_buy_183 : decode cX5_buy 183 = .ok (.iload 5, 2) := by decide +kernel
theorem dX5_buy_185 : decode cX5_buy 185 = .ok (.iconst 3, 1) := by decide +kernel
theorem dX5_buy_186 : decode cX5_buy 186 = .ok (.if_icmp .ne 16, 3) := by decide +kernel
theorem dX5_buy_189 : decode cX5_buy 189 = .ok (.aload_n 0, 1) := by decide +kernel
theorem dX5_buy_190 : decode cX5_buy 190 = .ok (.getfield 10, 3) := by decide +kernel
theorem dX5_buy_193 : decode cX5_buy 193 = .ok (.getfield 75, 3) := by decide +kernel
theorem dX5_buy_196 : decode cX5_buy 196 = .ok (.iload 6, 2) := by decide +kernel
theorem dX5_buy_198 : decode cX5_buy 198 = .ok (.iadd, 1) := by decide +kernel
theorem dX5_buy_199 : decode cX5_buy 199 = .ok (.goto 10, 3) := by decide +kernel
theorem dX5_buy_202 : decode cX5_buy 202 = .ok (.aload_n 0, 1) := by decide +kernel
theorem dX5_buy_203 : decode cX5_buy 203 = .ok (.getfield 10, 3) := by decide +kernel
theorem dX5_buy_206 : decode cX5_buy 206 = .ok (.getfield 75, 3) := by decide +kernel
theorem dX5_buy_209 : decode cX5_buy 209 = .ok (.putfield 138, 3) := by decide +kernel
theorem dX5_buy_212 : decode cX5_buy 212 = .ok (.iload 9, 2) := by decide +kernel
theorem dX5_buy_214 : decode cX5_buy 214 = .ok (.i2l, 1) := by decide +kernel
theorem dX5_buy_215 : decode cX5_buy 215 = .ok (.lreturn, 1) := by decide +kernel
theorem dX5_sell_0 : decode cX5_sell 0 = .ok (.aload_n 0, 1) := by decide +kernel
theorem dX5_sell_1 : decode cX5_sell 1 = .ok (.getfield 10, 3) := by decide +kernel
theorem dX5_sell_4 : decode cX5_sell 4 = .ok (.iload_n 1, 1) := by decide +kernel
theorem dX5_sell_5 : decode cX5_sell 5 = .ok (.invokevirtual 141, 3) := by decide +kernel
theorem dX5_sell_8 : decode cX5_sell 8 = .ok (.ifCond .eq 14, 3) := by decide +kernel
theorem dX5_sell_11 : decode cX5_sell 11 = .ok (.aload_n 0, 1) := by decide +kernel
theorem dX5_sell_12 : decode cX5_sell 12 = .ok (.getfield 10, 3) := by decide +kernel
theorem dX5_sell_15 : decode cX5_sell 15 = .ok (.iload_n 2, 1) := by decide +kernel
theorem dX5_sell_16 : decode cX5_sell 16 = .ok (.invokevirtual 85, 3) := by decide +kernel
theorem dX5_sell_19 : decode cX5_sell 19 = .ok (.ifCond .ne 7, 3) := by decide +kernel
theorem dX5_sell_22 : decode cX5_sell 22 = .ok (.ldc2_w 34, 3) := by decide +kernel
theorem dX5_sell_25 : decode cX5_sell 25 = .ok (.lreturn, 1) := by decide +kernel
theorem dX5_sell_26 : decode cX5_sell 26 = .ok (.aload_n 0, 1) := by decide +kernel
theorem dX5_sell_27 : decode cX5_sell 27 = .ok (.getfield 10, 3) := by decide +kernel
theorem dX5_sell_30 : decode cX5_sell 30 = .ok (.getfield 129, 3) := by decide +kernel
theorem dX5_sell_33 : decode cX5_sell 33 = .ok (.iload_n 1, 1) := by decide +kernel
theorem dX5_sell_34 : decode cX5_sell 34 = .ok (.aaload, 1) := by decide +kernel
theorem dX5_sell_35 : decode cX5_sell 35 = .ok (.getfield 144, 3) := by decide +kernel
theorem dX5_sell_38 : decode cX5_sell 38 = .ok (.istore_n 3, 1) := by decide +kernel
theorem dX5_sell_39 : decode cX5_sell 39 = .ok (.aload_n 0, 1) := by decide +kernel
theorem dX5_sell_40 : decode cX5_sell 40 = .ok (.getfield 10, 3) := by decide +kernel
theorem dX5_sell_43 : decode cX5_sell 43 = .ok (.getfield 129, 3) := by decide +kernel
theorem dX5_sell_46 : decode cX5_sell 46 = .ok (.iload_n 1, 1) := by decide +kernel
theorem dX5_sell_47 : decode cX5_sell 47 = .ok (.aaload, 1) := by decide +kernel
theorem dX5_sell_48 : decode cX5_sell 48 = .ok (.iload_n 2, 1) := by decide +kernel
theorem dX5_sell_49 : decode cX5_sell 49 = .ok (.putfield 144, 3) := by decide +kernel
theorem dX5_sell_52 : decode cX5_sell 52 = .ok (.iload_n 3, 1) := by decide +kernel
theorem dX5_sell_53 : decode cX5_sell 53 = .ok (.i2l, 1) := by decide +kernel
theorem dX5_sell_54 : decode cX5_sell 54 = .ok (.lreturn, 1) := by decide +kernel
theorem dX5_split_0 : decode cX5_split 0 = .ok (.aload_n 0, 1) := by decide +kernel
theorem dX5_split_1 : decode cX5_split 1 = .ok (.getfield 10, 3) := by decide +kernel
theorem dX5_split_4 : decode cX5_split 4 = .ok (.iload_n 1, 1) := by decide +kernel
theorem dX5_split_5 : decode cX5_split 5 = .ok (.invokevirtual 141, 3) := by decide +kernel
theorem dX5_split_8 : decode cX5_split 8 = .ok (.ifCond .eq 15, 3) := by decide +kernel
theorem dX5_split_11 : decode cX5_split 11 = .ok (.aload_n 0, 1) := by decide +kernel
theorem dX5_split_12 : decode cX5_split 12 = .ok (.getfield 10, 3) := by decide +kernel
theorem dX5_split_15 : decode cX5_split 15 = .ok (.getfield 122, 3) := by decide +kernel
theorem dX5_split_18 : decode cX5_split 18 = .ok (.bipush 40, 2) := by decide +kernel
theorem dX5_split_20 : decode cX5_split 20 = .ok (.if_icmp .lt 7, 3) := by decide +kernel
theorem dX5_split_23 : decode cX5_split 23 = .ok (.ldc2_w 34, 3) := by decide +kernel
theorem dX5_split_26 : decode cX5_split 26 = .ok (.lreturn, 1) := by decide +kernel
theorem dX5_split_27 : decode cX5_split 27 = .ok (.iload_n 2, 1) := by decide +kernel
theorem dX5_split_28 : decode cX5_split 28 = .ok (.iconst 1, 1) := by decide +kernel
theorem dX5_split_29 : decode cX5_split 29 = .ok (.aload_n 0, 1) := by decide +kernel
theorem dX5_split_30 : decode cX5_split 30 = .ok (.getfield 10, 3) := by decide +kernel
theorem dX5_split_33 : decode cX5_split 33 = .ok (.getfield 129, 3) := by decide +kernel
theorem dX5_split_36 : decode cX5_split 36 = .ok (.iload_n 1, 1) := by decide +kernel
theorem dX5_split_37 : decode cX5_split 37 = .ok (.aaload, 1) := by decide +kernel
theorem dX5_split_38 : decode cX5_split 38 = .ok (.getfield 147, 3) := by decide +kernel
theorem dX5_split_41 : decode cX5_split 41 = .ok (.iconst 1, 1) := by decide +kernel
theorem dX5_split_42 : decode cX5_split 42 = .ok (.isub, 1) := by decide +kernel
theorem dX5_split_43 : decode cX5_split 43 = .ok (.invokestatic 97, 3) := by decide +kernel
theorem dX5_split_46 : decode cX5_split 46 = .ok (.ifCond .ne 7, 3) := by decide +kernel
theorem dX5_split_49 : decode cX5_split 49 = .ok (.ldc2_w 34, 3) := by decide +kernel
theorem dX5_split_52 : decode cX5_split 52 = .ok (.lreturn, 1) := by decide +kernel
theorem dX5_split_53 : decode cX5_split 53 = .ok (.aload_n 0, 1) := by decide +kernel
theorem dX5_split_54 : decode cX5_split 54 = .ok (.getfield 10, 3) := by decide +kernel
theorem dX5_split_57 : decode cX5_split 57 = .ok (.aload_n 0, 1) := by decide +kernel
theorem dX5_split_58 : decode cX5_split 58 = .ok (.getfield 10, 3) := by decide +kernel
theorem dX5_split_61 : decode cX5_split 61 = .ok (.getfield 129, 3) := by decide +kernel
theorem dX5_split_64 : decode cX5_split 64 = .ok (.iload_n 1, 1) := by decide +kernel
theorem dX5_split_65 : decode cX5_split 65 = .ok (.aaload, 1) := by decide +kernel
theorem dX5_split_66 : decode cX5_split 66 = .ok (.iload_n 2, 1) := by decide +kernel
theorem dX5_split_67 : decode cX5_split 67 = .ok (.invokevirtual 150, 3) := by decide +kernel
theorem dX5_split_70 : decode cX5_split 70 = .ok (.i2l, 1) := by decide +kernel
theorem dX5_split_71 : decode cX5_split 71 = .ok (.lreturn, 1) := by decide +kernel
theorem dX5_pledge_0 : decode cX5_pledge 0 = .ok (.aload_n 0, 1) := by decide +kernel
theorem dX5_pledge_1 : decode cX5_pledge 1 = .ok (.getfield 10, 3) := by decide +kernel
theorem dX5_pledge_4 : decode cX5_pledge 4 = .ok (.iload_n 1, 1) := by decide +kernel
theorem dX5_pledge_5 : decode cX5_pledge 5 = .ok (.invokevirtual 141, 3) := by decide +kernel
theorem dX5_pledge_8 : decode cX5_pledge 8 = .ok (.ifCond .eq 24, 3) := by decide +kernel
theorem dX5_pledge_11 : decode cX5_pledge 11 = .ok (.aload_n 0, 1) := by decide +kernel
theorem dX5_pledge_12 : decode cX5_pledge 12 = .ok (.getfield 10, 3) := by decide +kernel
theorem dX5_pledge_15 : decode cX5_pledge 15 = .ok (.iload_n 2, 1) := by decide +kernel
theorem dX5_pledge_16 : decode cX5_pledge 16 = .ok (.invokevirtual 85, 3) := by decide +kernel
theorem dX5_pledge_19 : decode cX5_pledge 19 = .ok (.ifCond .eq 13, 3) := by decide +kernel
theorem dX5_pledge_22 : decode cX5_pledge 22 = .ok (.iload_n 3, 1) := by decide +kernel
theorem dX5_pledge_23 : decode cX5_pledge 23 = .ok (.iconst 0, 1) := by decide +kernel
theorem dX5_pledge_24 : decode cX5_pledge 24 = .ok (.ldc 154, 2) := by decide +kernel
theorem dX5_pledge_26 : decode cX5_pledge 26 = .ok (.invokestatic 97, 3) := by decide +kernel
theorem dX5_pledge_29 : decode cX5_pledge 29 = .ok (.ifCond .ne 7, 3) := by decide +kernel
theorem dX5_pledge_32 : decode cX5_pledge 32 = .ok (.ldc2_w 34, 3) := by decide +kernel
theorem dX5_pledge_35 : decode cX5_pledge 35 = .ok (.lreturn, 1) := by decide +kernel
theorem dX5_pledge_36 : decode cX5_pledge 36 = .ok (.aload_n 0, 1) := by decide +kernel
theorem dX5_pledge_37 : decode cX5_pledge 37 = .ok (.getfield 10, 3) := by decide +kernel
theorem dX5_pledge_40 : decode cX5_pledge 40 = .ok (.getfield 129, 3) := by decide +kernel
theorem dX5_pledge_43 : decode cX5_pledge 43 = .ok (.iload_n 1, 1) := by decide +kernel
theorem dX5_pledge_44 : decode cX5_pledge 44 = .ok (.aaload, 1) := by decide +kernel
theorem dX5_pledge_45 : decode cX5_pledge 45 = .ok (.astore 4, 2) := by decide +kernel
theorem dX5_pledge_47 : decode cX5_pledge 47 = .ok (.aload 4, 2) := by decide +kernel
theorem dX5_pledge_49 : decode cX5_pledge 49 = .ok (.getfield 155, 3) := by decide +kernel
theorem dX5_pledge_52 : decode cX5_pledge 52 = .ok (.lstore 5, 2) := by decide +kernel
theorem dX5_pledge_54 : decode cX5_pledge 54 = .ok (.aload 4, 2) := by decide +kernel
theorem dX5_pledge_56 : decode cX5_pledge 56 = .ok (.iload_n 3, 1) := by decide +kernel
theorem dX5_pledge_57 : decode cX5_pledge 57 = .ok (.i2l, 1) := by decide +kernel
theorem dX5_pledge_58 : decode cX5_pledge 58 = .ok (.putfield 155, 3) := by decide +kernel
theorem dX5_pledge_61 : decode cX5_pledge 61 = .ok (.aload 4, 2) := by decide +kernel
theorem dX5_pledge_63 : decode cX5_pledge 63 = .ok (.iload_n 2, 1) := by decide +kernel
theorem dX5_pledge_64 : decode cX5_pledge 64 = .ok (.putfield 159, 3) := by decide +kernel
theorem dX5_pledge_67 : decode cX5_pledge 67 = .ok (.lload 5, 2) := by decide +kernel
theorem dX5_pledge_69 : decode cX5_pledge 69 = .ok (.lreturn, 1) := by decide +kernel
theorem dX5_share_0 : decode cX5_share 0 = .ok (.aload_n 0, 1) := by decide +kernel
theorem dX5_share_1 : decode cX5_share 1 = .ok (.getfield 10, 3) := by decide +kernel
theorem dX5_share_4 : decode cX5_share 4 = .ok (.iload_n 1, 1) := by decide +kernel
theorem dX5_share_5 : decode cX5_share 5 = .ok (.invokevirtual 141, 3) := by decide +kernel
theorem dX5_share_8 : decode cX5_share 8 = .ok (.ifCond .ne 7, 3) := by decide +kernel
theorem dX5_share_11 : decode cX5_share 11 = .ok (.ldc2_w 34, 3) := by decide +kernel
theorem dX5_share_14 : decode cX5_share 14 = .ok (.lreturn, 1) := by decide +kernel
theorem dX5_share_15 : decode cX5_share 15 = .ok (.aload_n 0, 1) := by decide +kernel
theorem dX5_share_16 : decode cX5_share 16 = .ok (.getfield 10, 3) := by decide +kernel
theorem dX5_share_19 : decode cX5_share 19 = .ok (.getfield 129, 3) := by decide +kernel
theorem dX5_share_22 : decode cX5_share 22 = .ok (.iload_n 1, 1) := by decide +kernel
theorem dX5_share_23 : decode cX5_share 23 = .ok (.aaload, 1) := by decide +kernel
theorem dX5_share_24 : decode cX5_share 24 = .ok (.astore_n 3, 1) := by decide +kernel
theorem dX5_share_25 : decode cX5_share 25 = .ok (.iload_n 2, 1) := by decide +kernel
theorem dX5_share_26 : decode cX5_share 26 = .ok (.tableswitch 151 0 12 #[66, 72, 78, 84, 90, 96, 102, 107, 112, 124, 130, 136, 146], 66) := by decide +kernel
theorem dX5_share_92 : decode cX5_share 92 = .ok (.aload_n 3, 1) := by decide +kernel
theorem dX5_share_93 : decode cX5_share 93 = .ok (.getfield 144, 3) := by decide +kernel
theorem dX5_share_96 : decode cX5_share 96 = .ok (.i2l, 1) := by decide +kernel
theorem dX5_share_97 : decode cX5_share 97 = .ok (.lreturn, 1) := by decide +kernel
theorem dX5_share_98 : decode cX5_share 98 = .ok (.aload_n 3, 1) := by decide +kernel
theorem dX5_share_99 : decode cX5_share 99 = .ok (.getfield 162, 3) := by decide +kernel
theorem dX5_share_102 : decode cX5_share 102 = .ok (.i2l, 1) := by decide +kernel
theorem dX5_share_103 : decode cX5_share 103 = .ok (.lreturn, 1) := by decide +kernel
theorem dX5_share_104 : decode cX5_share 104 = .ok (.aload_n 3, 1) := by decide +kernel
theorem dX5_share_105 : decode cX5_share 105 = .ok (.getfield 165, 3) := by decide +kernel
theorem dX5_share_108 : decode cX5_share 108 = .ok (.i2l, 1) := by decide +kernel
theorem dX5_share_109 : decode cX5_share 109 = .ok (.lreturn, 1) := by decide +kernel
theorem dX5_share_110 : decode cX5_share 110 = .ok (.aload_n 3, 1) := by decide +kernel
theorem dX5_share_111 : decode cX5_share 111 = .ok (.getfield 147, 3) := by decide +kernel
theorem dX5_share_114 : decode cX5_share 114 = .ok (.i2l, 1) := by decide +kernel
theorem dX5_share_115 : decode cX5_share 115 = .ok (.lreturn, 1) := by decide +kernel
theorem dX5_share_116 : decode cX5_share 116 = .ok (.aload_n 3, 1) := by decide +kernel
theorem dX5_share_117 : decode cX5_share 117 = .ok (.getfield 168, 3) := by decide +kernel
theorem dX5_share_120 : decode cX5_share 120 = .ok (.i2l, 1) := by decide +kernel
theorem dX5_share_121 : decode cX5_share 121 = .ok (.lreturn, 1) := by decide +kernel
theorem dX5_share_122 : decode cX5_share 122 = .ok (.aload_n 3, 1) := by decide +kernel
theorem dX5_share_123 : decode cX5_share 123 = .ok (.getfield 133, 3) := by decide +kernel
theorem dX5_share_126 : decode cX5_share 126 = .ok (.i2l, 1) := by decide +kernel
theorem dX5_share_127 : decode cX5_share 127 = .ok (.lreturn, 1) := by decide +kernel
theorem dX5_share_128 : decode cX5_share 128 = .ok (.aload_n 3, 1) := by decide +kernel
theorem dX5_share_129 : decode cX5_share 129 = .ok (.getfield 171, 3) := by decide +kernel
theorem dX5_share_132 : decode cX5_share 132 = .ok (.lreturn, 1) := by decide +kernel
theorem dX5_share_133 : decode cX5_share 133 = .ok (.aload_n 3, 1) := by decide +kernel
theorem dX5_share_134 : decode cX5_share 134 = .ok (.getfield 174, 3) := by decide +kernel
theorem dX5_share_137 : decode cX5_share 137 = .ok (.lreturn, 1) := by decide +kernel
theorem dX5_share_138 : decode cX5_share 138 = .ok (.aload_n 3, 1) := by decide +kernel
theorem dX5_share_139 : decode cX5_share 139 = .ok (.aload_n 0, 1) := by decide +kernel
theorem dX5_share_140 : decode cX5_share 140 = .ok (.getfield 10, 3) := by decide +kernel
theorem dX5_share_143 : decode cX5_share 143 = .ok (.getfield 75, 3) := by decide +kernel
theorem dX5_share_146 : decode cX5_share 146 = .ok (.invokevirtual 177, 3) := by decide +kernel
theorem dX5_share_149 : decode cX5_share 149 = .ok (.lreturn, 1) := by decide +kernel
theorem dX5_share_150 : decode cX5_share 150 = .ok (.aload_n 3, 1) := by decide +kernel
theorem dX5_share_151 : decode cX5_share 151 = .ok (.getfield 180, 3) := by decide +kernel
theorem dX5_share_154 : decode cX5_share 154 = .ok (.i2l, 1) := by decide +kernel
theorem dX5_share_155 : decode cX5_share 155 = .ok (.lreturn, 1) := by decide +kernel
theorem dX5_share_156 : decode cX5_share 156 = .ok (.aload_n 3, 1) := by decide +kernel
theorem dX5_share_157 : decode cX5_share 157 = .ok (.getfield 183, 3) := by decide +kernel
theorem dX5_share_160 : decode cX5_share 160 = .ok (.i2l, 1) := by decide +kernel
theorem dX5_share_161 : decode cX5_share 161 = .ok (.lreturn, 1) := by decide +kernel
theorem dX5_share_162 : decode cX5_share 162 = .ok (.aload_n 0, 1) := by decide +kernel
theorem dX5_share_163 : decode cX5_share 163 = .ok (.getfield 10, 3) := by decide +kernel
theorem dX5_share_166 : decode cX5_share 166 = .ok (.aload_n 3, 1) := by decide +kernel
theorem dX5_share_167 : decode cX5_share 167 = .ok (.invokevirtual 186, 3) := by decide +kernel
theorem dX5_share_170 : decode cX5_share 170 = .ok (.i2l, 1) := by decide +kernel
theorem dX5_share_171 : decode cX5_share 171 = .ok (.lreturn, 1) := by decide +kernel
theorem dX5_share_172 : decode cX5_share 172 = .ok (.aload_n 3, 1) := by decide +kernel
theorem dX5_share_173 : decode cX5_share 173 = .ok (.getfield 155, 3) := by decide +kernel
theorem dX5_share_176 : decode cX5_share 176 = .ok (.lreturn, 1) := by decide +kernel
theorem dX5_share_177 : decode cX5_share 177 = .ok (.ldc2_w 34, 3) := by decide +kernel
theorem dX5_share_180 : decode cX5_share 180 = .ok (.lreturn, 1) := by decide +kernel
theorem dX5_drew_0 : decode cX5_drew 0 = .ok (.aload_n 0, 1) := by decide +kernel
theorem dX5_drew_1 : decode cX5_drew 1 = .ok (.getfield 10, 3) := by decide +kernel
theorem dX5_drew_4 : decode cX5_drew 4 = .ok (.iload_n 1, 1) := by decide +kernel
theorem dX5_drew_5 : decode cX5_drew 5 = .ok (.invokevirtual 141, 3) := by decide +kernel
theorem dX5_drew_8 : decode cX5_drew 8 = .ok (.ifCond .eq 20, 3) := by decide +kernel
theorem dX5_drew_11 : decode cX5_drew 11 = .ok (.iload_n 2, 1) := by decide +kernel
theorem dX5_drew_12 : decode cX5_drew 12 = .ok (.iconst 0, 1) := by decide +kernel
theorem dX5_drew_13 : decode cX5_drew 13 = .ok (.aload_n 0, 1) := by decide +kernel
theorem dX5_drew_14 : decode cX5_drew 14 = .ok (.getfield 10, 3) := by decide +kernel
theorem dX5_drew_17 : decode cX5_drew 17 = .ok (.getfield 75, 3) := by decide +kernel
theorem dX5_drew_20 : decode cX5_drew 20 = .ok (.iconst 1, 1) := by decide +kernel
theorem dX5_drew_21 : decode cX5_drew 21 = .ok (.isub, 1) := by decide +kernel
theorem dX5_drew_22 : decode cX5_drew 22 = .ok (.invokestatic 97, 3) := by decide +kernel
theorem dX5_drew_25 : decode cX5_drew 25 = .ok (.ifCond .ne 7, 3) := by decide +kernel
theorem dX5_drew_28 : decode cX5_drew 28 = .ok (.ldc2_w 34, 3) := by decide +kernel
theorem dX5_drew_31 : decode cX5_drew 31 = .ok (.lreturn, 1) := by decide +kernel
theorem dX5_drew_32 : decode cX5_drew 32 = .ok (.aload_n 0, 1) := by decide +kernel
theorem dX5_drew_33 : decode cX5_drew 33 = .ok (.getfield 10, 3) := by decide +kernel
theorem dX5_drew_36 : decode cX5_drew 36 = .ok (.getfield 129, 3) := by decide +kernel
theorem dX5_drew_39 : decode cX5_drew 39 = .ok (.iload_n 1, 1) := by decide +kernel
theorem dX5_drew_40 : decode cX5_drew 40 = .ok (.aaload, 1) := by decide +kernel
theorem dX5_drew_41 : decode cX5_drew 41 = .ok (.iload_n 2, 1) := by decide +kernel
theorem dX5_drew_42 : decode cX5_drew 42 = .ok (.iload_n 2, 1) := by decide +kernel
theorem dX5_drew_43 : decode cX5_drew 43 = .ok (.iconst 1, 1) := by decide +kernel
theorem dX5_drew_44 : decode cX5_drew 44 = .ok (.iadd, 1) := by decide +kernel
theorem dX5_drew_45 : decode cX5_drew 45 = .ok (.invokevirtual 190, 3) := by decide +kernel
theorem dX5_drew_48 : decode cX5_drew 48 = .ok (.lreturn, 1) := by decide +kernel
theorem dX5_proof_0 : decode cX5_proof 0 = .ok (.aload_n 0, 1) := by decide +kernel
theorem dX5_proof_1 : decode cX5_proof 1 = .ok (.getfield 10, 3) := by decide +kernel
theorem dX5_proof_4 : decode cX5_proof 4 = .ok (.iload_n 1, 1) := by decide +kernel
theorem dX5_proof_5 : decode cX5_proof 5 = .ok (.invokevirtual 85, 3) := by decide +kernel
theorem dX5_proof_8 : decode cX5_proof 8 = .ok (.ifCond .eq 33, 3) := by decide +kernel
theorem dX5_proof_11 : decode cX5_proof 11 = .ok (.aload_n 0, 1) := by decide +kernel
theorem dX5_proof_12 : decode cX5_proof 12 = .ok (.getfield 10, 3) := by decide +kernel
theorem dX5_proof_15 : decode cX5_proof 15 = .ok (.getfield 88, 3) := by decide +kernel
theorem dX5_proof_18 : decode cX5_proof 18 = .ok (.iload_n 1, 1) := by decide +kernel
theorem dX5_proof_19 : decode cX5_proof 19 = .ok (.aaload, 1) := by decide +kernel
theorem dX5_proof_20 : decode cX5_proof 20 = .ok (.getfield 193, 3) := by decide +kernel
theorem dX5_proof_23 : decode cX5_proof 23 = .ok (.ifCond .ne 18, 3) := by decide +kernel
theorem dX5_proof_26 : decode cX5_proof 26 = .ok (.aload_n 0, 1) := by decide +kernel
theorem dX5_proof_27 : decode cX5_proof 27 = .ok (.getfield 10, 3) := by decide +kernel
theorem dX5_proof_30 : decode cX5_proof 30 = .ok (.getfield 88, 3) := by decide +kernel
theorem dX5_proof_33 : decode cX5_proof 33 = .ok (.iload_n 1, 1) := by decide +kernel
theorem dX5_proof_34 : decode cX5_proof 34 = .ok (.aaload, 1) := by decide +kernel
theorem dX5_proof_35 : decode cX5_proof 35 = .ok (.getfield 197, 3) := by decide +kernel
theorem dX5_proof_38 : decode cX5_proof 38 = .ok (.ifCond .eq 7, 3) := by decide +kernel
theorem dX5_proof_41 : decode cX5_proof 41 = .ok (.ldc2_w 34, 3) := by decide +kernel
theorem dX5_proof_44 : decode cX5_proof 44 = .ok (.lreturn, 1) := by decide +kernel
theorem dX5_proof_45 : decode cX5_proof 45 = .ok (.aload_n 0, 1) := by decide +kernel
theorem dX5_proof_46 : decode cX5_proof 46 = .ok (.getfield 10, 3) := by decide +kernel
theorem dX5_proof_49 : decode cX5_proof 49 = .ok (.iload_n 1, 1) := by decide +kernel
theorem dX5_proof_50 : decode cX5_proof 50 = .ok (.invokevirtual 200, 3) := by decide +kernel
theorem dX5_proof_53 : decode cX5_proof 53 = .ok (.lreturn, 1) := by decide +kernel
theorem dX5_death_0 : decode cX5_death 0 = .ok (.aload_n 0, 1) := by decide +kernel
theorem dX5_death_1 : decode cX5_death 1 = .ok (.getfield 10, 3) := by decide +kernel
theorem dX5_death_4 : decode cX5_death 4 = .ok (.iload_n 1, 1) := by decide +kernel
theorem dX5_death_5 : decode cX5_death 5 = .ok (.invokevirtual 85, 3) := by decide +kernel
theorem dX5_death_8 : decode cX5_death 8 = .ok (.ifCond .eq 18, 3) := by decide +kernel
theorem dX5_death_11 : decode cX5_death 11 = .ok (.aload_n 0, 1) := by decide +kernel
theorem dX5_death_12 : decode cX5_death 12 = .ok (.getfield 10, 3) := by decide +kernel
theorem dX5_death_15 : decode cX5_death 15 = .ok (.getfield 88, 3) := by decide +kernel
theorem dX5_death_18 : decode cX5_death 18 = .ok (.iload_n 1, 1) := by decide +kernel
theorem dX5_death_19 : decode cX5_death 19 = .ok (.aaload, 1) := by decide +kernel
theorem dX5_death_20 : decode cX5_death 20 = .ok (.getfield 193, 3) := by decide +kernel
theorem dX5_death_23 : decode cX5_death 23 = .ok (.ifCond .eq 7, 3) := by decide +kernel
theorem dX5_death_26 : decode cX5_death 26 = .ok (.ldc2_w 34, 3) := by decide +kernel
theorem dX5_death_29 : decode cX5_death 29 = .ok (.lreturn, 1) := by decide +kernel
theorem dX5_death_30 : decode cX5_death 30 = .ok (.iload_n 2, 1) := by decide +kernel
theorem dX5_death_31 : decode cX5_death 31 = .ok (.aload_n 0, 1) := by decide +kernel
theorem dX5_death_32 : decode cX5_death 32 = .ok (.getfield 10, 3) := by decide +kernel
theorem dX5_death_35 : decode cX5_death 35 = .ok (.getfield 88, 3) := by decide +kernel
theorem dX5_death_38 : decode cX5_death 38 = .ok (.iload_n 1, 1) := by decide +kernel
theorem dX5_death_39 : decode cX5_death 39 = .ok (.aaload, 1) := by decide +kernel
theorem dX5_death_40 : decode cX5_death 40 = .ok (.getfield 203, 3) := by decide +kernel
theorem dX5_death_43 : decode cX5_death 43 = .ok (.aload_n 0, 1) := by decide +kernel
theorem dX5_death_44 : decode cX5_death 44 = .ok (.getfield 10, 3) := by decide +kernel
theorem dX5_death_47 : decode cX5_death 47 = .ok (.getfield 75, 3) := by decide +kernel
theorem dX5_death_50 : decode cX5_death 50 = .ok (.invokestatic 97, 3) := by decide +kernel
theorem dX5_death_53 : decode cX5_death 53 = .ok (.ifCond .ne 7, 3) := by decide +kernel
theorem dX5_death_56 : decode cX5_death 56 = .ok (.ldc2_w 34, 3) := by decide +kernel
theorem dX5_death_59 : decode cX5_death 59 = .ok (.lreturn, 1) := by decide +kernel
theorem dX5_death_60 : decode cX5_death 60 = .ok (.aload_n 0, 1) := by decide +kernel
theorem dX5_death_61 : decode cX5_death 61 = .ok (.getfield 10, 3) := by decide +kernel
theorem dX5_death_64 : decode cX5_death 64 = .ok (.iload_n 1, 1) := by decide +kernel
theorem dX5_death_65 : decode cX5_death 65 = .ok (.iload_n 2, 1) := by decide +kernel
theorem dX5_death_66 : decode cX5_death 66 = .ok (.invokevirtual 206, 3) := by decide +kernel
theorem dX5_death_69 : decode cX5_death 69 = .ok (.lreturn, 1) := by decide +kernel
theorem dX5_close_0 : decode cX5_close 0 = .ok (.iload_n 1, 1) := by decide +kernel
theorem dX5_close_1 : decode cX5_close 1 = .ok (.iconst 0, 1) := by decide +kernel
theorem dX5_close_2 : decode cX5_close 2 = .ok (.ldc 209, 2) := by decide +kernel
theorem dX5_close_4 : decode cX5_close 4 = .ok (.invokestatic 97, 3) := by decide +kernel
theorem dX5_close_7 : decode cX5_close 7 = .ok (.ifCond .eq 15, 3) := by decide +kernel
theorem dX5_close_10 : decode cX5_close 10 = .ok (.aload_n 0, 1) := by decide +kernel
theorem dX5_close_11 : decode cX5_close 11 = .ok (.getfield 10, 3) := by decide +kernel
theorem dX5_close_14 : decode cX5_close 14 = .ok (.getfield 75, 3) := by decide +kernel
theorem dX5_close_17 : decode cX5_close 17 = .ok (.bipush 60, 2) := by decide +kernel
theorem dX5_close_19 : decode cX5_close 19 = .ok (.if_icmp .lt 7, 3) := by decide +kernel
theorem dX5_close_22 : decode cX5_close 22 = .ok (.ldc2_w 34, 3) := by decide +kernel
theorem dX5_close_25 : decode cX5_close 25 = .ok (.lreturn, 1) := by decide +kernel
theorem dX5_close_26 : decode cX5_close 26 = .ok (.aload_n 0, 1) := by decide +kernel
theorem dX5_close_27 : decode cX5_close 27 = .ok (.getfield 10, 3) := by decide +kernel
theorem dX5_close_30 : decode cX5_close 30 = .ok (.iload_n 1, 1) := by decide +kernel
theorem dX5_close_31 : decode cX5_close 31 = .ok (.invokevirtual 210, 3) := by decide +kernel
theorem dX5_close_34 : decode cX5_close 34 = .ok (.aload_n 0, 1) := by decide +kernel
theorem dX5_close_35 : decode cX5_close 35 = .ok (.getfield 10, 3) := by decide +kernel
theorem dX5_close_38 : decode cX5_close 38 = .ok (.invokevirtual 214, 3) := by decide +kernel
theorem dX5_close_41 : decode cX5_close 41 = .ok (.lstore_n 2, 1) := by decide +kernel
theorem dX5_close_42 : decode cX5_close 42 = .ok (.aload_n 0, 1) := by decide +kernel
theorem dX5_close_43 : decode cX5_close 43 = .ok (.getfield 10, 3) := by decide +kernel
theorem dX5_close_46 : decode cX5_close 46 = .ok (.invokevirtual 218, 3) := by decide +kernel
theorem dX5_close_49 : decode cX5_close 49 = .ok (.aload_n 0, 1) := by decide +kernel
theorem dX5_close_50 : decode cX5_close 50 = .ok (.getfield 10, 3) := by decide +kernel
theorem dX5_close_53 : decode cX5_close 53 = .ok (.invokevirtual 221, 3) := by decide +kernel
theorem dX5_close_56 : decode cX5_close 56 = .ok (.lload_n 2, 1) := by decide +kernel
theorem dX5_close_57 : decode cX5_close 57 = .ok (.lreturn, 1) := by decide +kernel
theorem dX5_of_0 : decode cX5_of 0 = .ok (.aload_n 0, 1) := by decide +kernel
theorem dX5_of_1 : decode cX5_of 1 = .ok (.getfield 10, 3) := by decide +kernel
theorem dX5_of_4 : decode cX5_of 4 = .ok (.iload_n 1, 1) := by decide +kernel
theorem dX5_of_5 : decode cX5_of 5 = .ok (.invokevirtual 85, 3) := by decide +kernel
theorem dX5_of_8 : decode cX5_of 8 = .ok (.ifCond .ne 7, 3) := by decide +kernel
theorem dX5_of_11 : decode cX5_of 11 = .ok (.ldc2_w 34, 3) := by decide +kernel
theorem dX5_of_14 : decode cX5_of 14 = .ok (.lreturn, 1) := by decide +kernel
theorem dX5_of_15 : decode cX5_of 15 = .ok (.aload_n 0, 1) := by decide +kernel
theorem dX5_of_16 : decode cX5_of 16 = .ok (.getfield 10, 3) := by decide +kernel
theorem dX5_of_19 : decode cX5_of 19 = .ok (.getfield 88, 3) := by decide +kernel
theorem dX5_of_22 : decode cX5_of 22 = .ok (.iload_n 1, 1) := by decide +kernel
theorem dX5_of_23 : decode cX5_of 23 = .ok (.aaload, 1) := by decide +kernel
theorem dX5_of_24 : decode cX5_of 24 = .ok (.astore_n 3, 1) := by decide +kernel
theorem dX5_of_25 : decode cX5_of 25 = .ok (.iload_n 2, 1) := by decide +kernel
theorem dX5_of_26 : decode cX5_of 26 = .ok (.tableswitch 92 0 5 #[38, 43, 48, 54, 67, 86], 38) := by decide +kernel
theorem dX5_of_64 : decode cX5_of 64 = .ok (.aload_n 3, 1) := by decide +kernel
theorem dX5_of_65 : decode cX5_of 65 = .ok (.getfield 224, 3) := by decide +kernel
theorem dX5_of_68 : decode cX5_of 68 = .ok (.lreturn, 1) := by decide +kernel
theorem dX5_of_69 : decode cX5_of 69 = .ok (.aload_n 3, 1) := by decide +kernel
theorem dX5_of_70 : decode cX5_of 70 = .ok (.getfield 227, 3) := by decide +kernel
theorem dX5_of_73 : decode cX5_of 73 = .ok (.lreturn, 1) := by decide +kernel
theorem dX5_of_74 : decode cX5_of 74 = .ok (.aload_n 3, 1) := by decide +kernel
theorem dX5_of_75 : decode cX5_of 75 = .ok (.getfield 203, 3) := by decide +kernel
theorem dX5_of_78 : decode cX5_of 78 = .ok (.i2l, 1) := by decide +kernel
theorem dX5_of_79 : decode cX5_of 79 = .ok (.lreturn, 1) := by decide +kernel
theorem dX5_of_80 : decode cX5_of 80 = .ok (.aload_n 3, 1) := by decide +kernel
theorem dX5_of_81 : decode cX5_of 81 = .ok (.getfield 197, 3) := by decide +kernel
theorem dX5_of_84 : decode cX5_of 84 = .ok (.ifCond .eq 7, 3) := by decide +kernel
theorem dX5_of_87 : decode cX5_of 87 = .ok (.lconst 1, 1) := by decide +kernel
theorem dX5_of_88 : decode cX5_of 88 = .ok (.goto 4, 3) := by decide +kernel
theorem dX5_of_91 : decode cX5_of 91 = .ok (.lconst 0, 1) := by decide +kernel
theorem dX5_of_92 : decode cX5_of 92 = .ok (.lreturn, 1) := by decide +kernel
theorem dX5_of_93 : decode cX5_of 93 = .ok (.aload_n 3, 1) := by decide +kernel
theorem dX5_of_94 : decode cX5_of 94 = .ok (.getfield 193, 3) := by decide +kernel
theorem dX5_of_97 : decode cX5_of 97 = .ok (.ifCond .eq 11, 3) := by decide +kernel
theorem dX5_of_100 : decode cX5_of 100 = .ok (.aload_n 3, 1) := by decide +kernel
theorem dX5_of_101 : decode cX5_of 101 = .ok (.getfield 230, 3) := by decide +kernel
theorem dX5_of_104 : decode cX5_of 104 = .ok (.i2l, 1) := by decide +kernel
theorem dX5_of_105 : decode cX5_of 105 = .ok (.goto 6, 3) := by decide +kernel
theorem dX5_of_108 : decode cX5_of 108 = .ok (.ldc2_w 34, 3) := by decide +kernel
theorem dX5_of_111 : decode cX5_of 111 = .ok (.lreturn, 1) := by decide +kernel
theorem dX5_of_112 : decode cX5_of 112 = .ok (.aload_n 3, 1) := by decide +kernel
theorem dX5_of_113 : decode cX5_of 113 = .ok (.getfield 92, 3) := by decide +kernel
theorem dX5_of_116 : decode cX5_of 116 = .ok (.i2l, 1) := by decide +kernel
theorem dX5_of_117 : decode cX5_of 117 = .ok (.lreturn, 1) := by decide +kernel
theorem dX5_of_118 : decode cX5_of 118 = .ok (.ldc2_w 34, 3) := by decide +kernel
theorem dX5_of_121 : decode cX5_of 121 = .ok (.lreturn, 1) := by decide +kernel
theorem dX5_about_0 : decode cX5_about 0 = .ok (.aload_n 0, 1) := by decide +kernel
theorem dX5_about_1 : decode cX5_about 1 = .ok (.getfield 10, 3) := by decide +kernel
theorem dX5_about_4 : decode cX5_about 4 = .ok (.iload_n 1, 1) := by decide +kernel
theorem dX5_about_5 : decode cX5_about 5 = .ok (.invokevirtual 55, 3) := by decide +kernel
theorem dX5_about_8 : decode cX5_about 8 = .ok (.ifCond .ne 7, 3) := by decide +kernel
theorem dX5_about_11 : decode cX5_about 11 = .ok (.ldc2_w 34, 3) := by decide +kernel
theorem dX5_about_14 : decode cX5_about 14 = .ok (.lreturn, 1) := by decide +kernel
theorem dX5_about_15 : decode cX5_about 15 = .ok (.aload_n 0, 1) := by decide +kernel
theorem dX5_about_16 : decode cX5_about 16 = .ok (.getfield 10, 3) := by decide +kernel
theorem dX5_about_19 : decode cX5_about 19 = .ok (.getfield 58, 3) := by decide +kernel
theorem dX5_about_22 : decode cX5_about 22 = .ok (.iload_n 1, 1) := by decide +kernel
theorem dX5_about_23 : decode cX5_about 23 = .ok (.aaload, 1) := by decide +kernel
theorem dX5_about_24 : decode cX5_about 24 = .ok (.astore_n 3, 1) := by decide +kernel
theorem dX5_about_25 : decode cX5_about 25 = .ok (.iload_n 2, 1) := by decide +kernel
theorem dX5_about_26 : decode cX5_about 26 = .ok (.tableswitch 79 0 5 #[38, 44, 50, 56, 61, 70], 38) := by decide +kernel
theorem dX5_about_64 : decode cX5_about 64 = .ok (.aload_n 3, 1) := by decide +kernel
theorem dX5_about_65 : decode cX5_about 65 = .ok (.getfield 62, 3) := by decide +kernel
theorem dX5_about_68 : decode cX5_about 68 = .ok (.i2l, 1) := by decide +kernel
theorem dX5_about_69 : decode cX5_about 69 = .ok (.lreturn, 1) := by decide +kernel
theorem dX5_about_70 : decode cX5_about 70 = .ok (.aload_n 3, 1) := by decide +kernel
theorem dX5_about_71 : decode cX5_about 71 = .ok (.getfield 233, 3) := by decide +kernel
theorem dX5_about_74 : decode cX5_about 74 = .ok (.i2l, 1) := by decide +kernel
theorem dX5_about_75 : decode cX5_about 75 = .ok (.lreturn, 1) := by decide +kernel
theorem dX5_about_76 : decode cX5_about 76 = .ok (.aload_n 3, 1) := by decide +kernel
theorem dX5_about_77 : decode cX5_about 77 = .ok (.getfield 72, 3) := by decide +kernel
theorem dX5_about_80 : decode cX5_about 80 = .ok (.i2l, 1) := by decide +kernel
theorem dX5_about_81 : decode cX5_about 81 = .ok (.lreturn, 1) := by decide +kernel
theorem dX5_about_82 : decode cX5_about 82 = .ok (.aload_n 3, 1) := by decide +kernel
theorem dX5_about_83 : decode cX5_about 83 = .ok (.getfield 236, 3) := by decide +kernel
theorem dX5_about_86 : decode cX5_about 86 = .ok (.lreturn, 1) := by decide +kernel
theorem dX5_about_87 : decode cX5_about 87 = .ok (.aload_n 0, 1) := by decide +kernel
theorem dX5_about_88 : decode cX5_about 88 = .ok (.getfield 10, 3) := by decide +kernel
theorem dX5_about_91 : decode cX5_about 91 = .ok (.iload_n 1, 1) := by decide +kernel
theorem dX5_about_92 : decode cX5_about 92 = .ok (.invokevirtual 239, 3) := by decide +kernel
theorem dX5_about_95 : decode cX5_about 95 = .ok (.lreturn, 1) := by decide +kernel
theorem dX5_about_96 : decode cX5_about 96 = .ok (.aload_n 0, 1) := by decide +kernel
theorem dX5_about_97 : decode cX5_about 97 = .ok (.getfield 10, 3) := by decide +kernel
theorem dX5_about_100 : decode cX5_about 100 = .ok (.iload_n 1, 1) := by decide +kernel
theorem dX5_about_101 : decode cX5_about 101 = .ok (.invokevirtual 242, 3) := by decide +kernel
theorem dX5_about_104 : decode cX5_about 104 = .ok (.lreturn, 1) := by decide +kernel
theorem dX5_about_105 : decode cX5_about 105 = .ok (.ldc2_w 34, 3) := by decide +kernel
theorem dX5_about_108 : decode cX5_about 108 = .ok (.lreturn, 1) := by decide +kernel
theorem dX5_told_0 : decode cX5_told 0 = .ok (.iload_n 1, 1) := by decide +kernel
theorem dX5_told_1 : decode cX5_told 1 = .ok (.tableswitch 151 0 10 #[59, 68, 76, 84, 92, 100, 108, 116, 124, 133, 142], 59) := by decide +kernel
theorem dX5_told_60 : decode cX5_told 60 = .ok (.aload_n 0, 1) := by decide +kernel
theorem dX5_told_61 : decode cX5_told 61 = .ok (.getfield 10, 3) := by decide +kernel
theorem dX5_told_64 : decode cX5_told 64 = .ok (.getfield 75, 3) := by decide +kernel
theorem dX5_told_67 : decode cX5_told 67 = .ok (.i2l, 1) := by decide +kernel
theorem dX5_told_68 : decode cX5_told 68 = .ok (.lreturn, 1) := by decide +kernel
theorem dX5_told_69 : decode cX5_told 69 = .ok (.aload_n 0, 1) := by decide +kernel
theorem dX5_told_70 : decode cX5_told 70 = .ok (.getfield 10, 3) := by decide +kernel
theorem dX5_told_73 : decode cX5_told 73 = .ok (.getfield 245, 3) := by decide +kernel
theorem dX5_told_76 : decode cX5_told 76 = .ok (.lreturn, 1) := by decide +kernel
theorem dX5_told_77 : decode cX5_told 77 = .ok (.aload_n 0, 1) := by decide +kernel
theorem dX5_told_78 : decode cX5_told 78 = .ok (.getfield 10, 3) := by decide +kernel
theorem dX5_told_81 : decode cX5_told 81 = .ok (.getfield 248, 3) := by decide +kernel
theorem dX5_told_84 : decode cX5_told 84 = .ok (.lreturn, 1) := by decide +kernel
theorem dX5_told_85 : decode cX5_told 85 = .ok (.aload_n 0, 1) := by decide +kernel
theorem dX5_told_86 : decode cX5_told 86 = .ok (.getfield 10, 3) := by decide +kernel
theorem dX5_told_89 : decode cX5_told 89 = .ok (.invokevirtual 251, 3) := by decide +kernel
theorem dX5_told_92 : decode cX5_told 92 = .ok (.lreturn, 1) := by decide +kernel
theorem dX5_told_93 : decode cX5_told 93 = .ok (.aload_n 0, 1) := by decide +kernel
theorem dX5_told_94 : decode cX5_told 94 = .ok (.getfield 10, 3) := by decide +kernel
theorem dX5_told_97 : decode cX5_told 97 = .ok (.invokevirtual 254, 3) := by decide +kernel
theorem dX5_told_100 : decode cX5_told 100 = .ok (.lreturn, 1) := by decide +kernel
theorem dX5_told_101 : decode cX5_told 101 = .ok (.aload_n 0, 1) := by decide +kernel
theorem dX5_told_102 : decode cX5_told 102 = .ok (.getfield 10, 3) := by decide +kernel
theorem dX5_told_105 : decode cX5_told 105 = .ok (.invokevirtual 257, 3) := by decide +kernel
theorem dX5_told_108 : decode cX5_told 108 = .ok (.lreturn, 1) := by decide +kernel
theorem dX5_told_109 : decode cX5_told 109 = .ok (.aload_n 0, 1) := by decide +kernel
theorem dX5_told_110 : decode cX5_told 110 = .ok (.getfield 10, 3) := by decide +kernel
theorem dX5_told_113 : decode cX5_told 113 = .ok (.invokevirtual 260, 3) := by decide +kernel
theorem dX5_told_116 : decode cX5_told 116 = .ok (.lreturn, 1) := by decide +kernel
theorem dX5_told_117 : decode cX5_told 117 = .ok (.aload_n 0, 1) := by decide +kernel
theorem dX5_told_118 : decode cX5_told 118 = .ok (.getfield 10, 3) := by decide +kernel
theorem dX5_told_121 : decode cX5_told 121 = .ok (.getfield 263, 3) := by decide +kernel
theorem dX5_told_124 : decode cX5_told 124 = .ok (.lreturn, 1) := by decide +kernel
theorem dX5_told_125 : decode cX5_told 125 = .ok (.aload_n 0, 1) := by decide +kernel
theorem dX5_told_126 : decode cX5_told 126 = .ok (.getfield 10, 3) := by decide +kernel
theorem dX5_told_129 : decode cX5_told 129 = .ok (.getfield 78, 3) := by decide +kernel
theorem dX5_told_132 : decode cX5_told 132 = .ok (.i2l, 1) := by decide +kernel
theorem dX5_told_133 : decode cX5_told 133 = .ok (.lreturn, 1) := by decide +kernel
theorem dX5_told_134 : decode cX5_told 134 = .ok (.aload_n 0, 1) := by decide +kernel
theorem dX5_told_135 : decode cX5_told 135 = .ok (.getfield 10, 3) := by decide +kernel
theorem dX5_told_138 : decode cX5_told 138 = .ok (.getfield 101, 3) := by decide +kernel
theorem dX5_told_141 : decode cX5_told 141 = .ok (.i2l, 1) := by decide +kernel
theorem dX5_told_142 : decode cX5_told 142 = .ok (.lreturn, 1) := by decide +kernel
theorem dX5_told_143 : decode cX5_told 143 = .ok (.aload_n 0, 1) := by decide +kernel
theorem dX5_told_144 : decode cX5_told 144 = .ok (.getfield 10, 3) := by decide +kernel
theorem dX5_told_147 : decode cX5_told 147 = .ok (.getfield 122, 3) := by decide +kernel
theorem dX5_told_150 : decode cX5_told 150 = .ok (.i2l, 1) := by decide +kernel
theorem dX5_told_151 : decode cX5_told 151 = .ok (.lreturn, 1) := by decide +kernel
theorem dX5_told_152 : decode cX5_told 152 = .ok (.ldc2_w 34, 3) := by decide +kernel
theorem dX5_told_155 : decode cX5_told 155 = .ok (.lreturn, 1) := by decide +kernel
theorem dX5_keep_0 : decode cX5_keep 0 = .ok (.aload_n 0, 1) := by decide +kernel
theorem dX5_keep_1 : decode cX5_keep 1 = .ok (.getfield 16, 3) := by decide +kernel
theorem dX5_keep_4 : decode cX5_keep 4 = .ok (.ifnonnull 14, 3) := by decide +kernel
theorem dX5_keep_7 : decode cX5_keep 7 = .ok (.aload_n 0, 1) := by decide +kernel
theorem dX5_keep_8 : decode cX5_keep 8 = .ok (.new 7, 3) := by decide +kernel
theorem dX5_keep_11 : decode cX5_keep 11 = .ok (.dup, 1) := by decide +kernel
theorem dX5_keep_12 : decode cX5_keep 12 = .ok (.invokespecial 9, 3) := by decide +kernel
theorem dX5_keep_15 : decode cX5_keep 15 = .ok (.putfield 16, 3) := by decide +kernel
theorem dX5_keep_18 : decode cX5_keep 18 = .ok (.aload_n 0, 1) := by decide +kernel
theorem dX5_keep_19 : decode cX5_keep 19 = .ok (.getfield 16, 3) := by decide +kernel
theorem dX5_keep_22 : decode cX5_keep 22 = .ok (.aload_n 0, 1) := by decide +kernel
theorem dX5_keep_23 : decode cX5_keep 23 = .ok (.getfield 10, 3) := by decide +kernel
theorem dX5_keep_26 : decode cX5_keep 26 = .ok (.invokevirtual 266, 3) := by decide +kernel
theorem dX5_keep_29 : decode cX5_keep 29 = .ok (.lconst 1, 1) := by decide +kernel
theorem dX5_keep_30 : decode cX5_keep 30 = .ok (.lreturn, 1) := by decide +kernel
theorem dX5_back_0 : decode cX5_back 0 = .ok (.aload_n 0, 1) := by decide +kernel
theorem dX5_back_1 : decode cX5_back 1 = .ok (.getfield 16, 3) := by decide +kernel
theorem dX5_back_4 : decode cX5_back 4 = .ok (.ifnonnull 7, 3) := by decide +kernel
theorem dX5_back_7 : decode cX5_back 7 = .ok (.ldc2_w 34, 3) := by decide +kernel
theorem dX5_back_10 : decode cX5_back 10 = .ok (.lreturn, 1) := by decide +kernel
theorem dX5_back_11 : decode cX5_back 11 = .ok (.aload_n 0, 1) := by decide +kernel
theorem dX5_back_12 : decode cX5_back 12 = .ok (.getfield 10, 3) := by decide +kernel
theorem dX5_back_15 : decode cX5_back 15 = .ok (.aload_n 0, 1) := by decide +kernel
theorem dX5_back_16 : decode cX5_back 16 = .ok (.getfield 16, 3) := by decide +kernel
theorem dX5_back_19 : decode cX5_back 19 = .ok (.invokevirtual 266, 3) := by decide +kernel
theorem dX5_back_22 : decode cX5_back 22 = .ok (.lconst 1, 1) := by decide +kernel
theorem dX5_back_23 : decode cX5_back 23 = .ok (.lreturn, 1) := by decide +kernel
theorem dX5_isWithin_0 : decode cX5_isWithin 0 = .ok (.iload_n 0, 1) := by decide +kernel
theorem dX5_isWithin_1 : decode cX5_isWithin 1 = .ok (.iload_n 1, 1) := by decide +kernel
theorem dX5_isWithin_2 : decode cX5_isWithin 2 = .ok (.if_icmp .lt 12, 3) := by decide +kernel
theorem dX5_isWithin_5 : decode cX5_isWithin 5 = .ok (.iload_n 0, 1) := by decide +kernel
theorem dX5_isWithin_6 : decode cX5_isWithin 6 = .ok (.iload_n 2, 1) := by decide +kernel
theorem dX5_isWithin_7 : decode cX5_isWithin 7 = .ok (.if_icmp .gt 7, 3) := by decide +kernel
theorem dX5_isWithin_10 : decode cX5_isWithin 10 = .ok (.iconst 1, 1) := by decide +kernel
theorem dX5_isWithin_11 : decode cX5_isWithin 11 = .ok (.goto 4, 3) := by decide +kernel
theorem dX5_isWithin_14 : decode cX5_isWithin 14 = .ok (.iconst 0, 1) := by decide +kernel
theorem dX5_isWithin_15 : decode cX5_isWithin 15 = .ok (.ireturn, 1) := by decide +kernel
theorem dX5_isAge_0 : decode cX5_isAge 0 = .ok (.iload_n 0, 1) := by decide +kernel
theorem dX5_isAge_1 : decode cX5_isAge 1 = .ok (.iconst 0, 1) := by decide +kernel
theorem dX5_isAge_2 : decode cX5_isAge 2 = .ok (.bipush 110, 2) := by decide +kernel
theorem dX5_isAge_4 : decode cX5_isAge 4 = .ok (.invokestatic 97, 3) := by decide +kernel
theorem dX5_isAge_7 : decode cX5_isAge 7 = .ok (.ireturn, 1) := by decide +kernel
theorem dX5_sign_0 : decode cX5_sign 0 = .ok (.lload_n 0, 1) := by decide +kernel
theorem dX5_sign_1 : decode cX5_sign 1 = .ok (.lload_n 2, 1) := by decide +kernel
theorem dX5_sign_2 : decode cX5_sign 2 = .ok (.lcmp, 1) := by decide +kernel
theorem dX5_sign_3 : decode cX5_sign 3 = .ok (.ifCond .le 7, 3) := by decide +kernel
theorem dX5_sign_6 : decode cX5_sign 6 = .ok (.lconst 1, 1) := by decide +kernel
theorem dX5_sign_7 : decode cX5_sign 7 = .ok (.goto 16, 3) := by decide +kernel
theorem dX5_sign_10 : decode cX5_sign 10 = .ok (.lload_n 0, 1) := by decide +kernel
theorem dX5_sign_11 : decode cX5_sign 11 = .ok (.lload_n 2, 1) := by decide +kernel
theorem dX5_sign_12 : decode cX5_sign 12 = .ok (.lcmp, 1) := by decide +kernel
theorem dX5_sign_13 : decode cX5_sign 13 = .ok (.ifCond .ge 9, 3) := by decide +kernel
theorem dX5_sign_16 : decode cX5_sign 16 = .ok (.ldc2_w 270, 3) := by decide +kernel
theorem dX5_sign_19 : decode cX5_sign 19 = .ok (.goto 4, 3) := by decide +kernel
theorem dX5_sign_22 : decode cX5_sign 22 = .ok (.lconst 0, 1) := by decide +kernel
theorem dX5_sign_23 : decode cX5_sign 23 = .ok (.lreturn, 1) := by decide +kernel
theorem dX5_parted_0 : decode cX5_parted 0 = .ok (.lload 4, 2) := by decide +kernel
theorem dX5_parted_2 : decode cX5_parted 2 = .ok (.lconst 0, 1) := by decide +kernel
theorem dX5_parted_3 : decode cX5_parted 3 = .ok (.lcmp, 1) := by decide +kernel
theorem dX5_parted_4 : decode cX5_parted 4 = .ok (.ifCond .le 12, 3) := by decide +kernel
theorem dX5_parted_7 : decode cX5_parted 7 = .ok (.lload_n 0, 1) := by decide +kernel
theorem dX5_parted_8 : decode cX5_parted 8 = .ok (.lload_n 2, 1) := by decide +kernel
theorem dX5_parted_9 : decode cX5_parted 9 = .ok (.lmul, 1) := by decide +kernel
theorem dX5_parted_10 : decode cX5_parted 10 = .ok (.lload 4, 2) := by decide +kernel
theorem dX5_parted_12 : decode cX5_parted 12 = .ok (.ldiv, 1) := by decide +kernel
theorem dX5_parted_13 : decode cX5_parted 13 = .ok (.goto 4, 3) := by decide +kernel
theorem dX5_parted_16 : decode cX5_parted 16 = .ok (.lconst 0, 1) := by decide +kernel
theorem dX5_parted_17 : decode cX5_parted 17 = .ok (.lreturn, 1) := by decide +kernel
theorem dX6_init_0 : decode cX6_init 0 = .ok (.aload_n 0, 1) := by decide +kernel
theorem dX6_init_1 : decode cX6_init 1 = .ok (.invokespecial 1, 3) := by decide +kernel
theorem dX6_init_4 : decode cX6_init 4 = .ok (.aload_n 0, 1) := by decide +kernel
theorem dX6_init_5 : decode cX6_init 5 = .ok (.sipush 5672, 3) := by decide +kernel
theorem dX6_init_8 : decode cX6_init 8 = .ok (.newarray .long, 2) := by decide +kernel
theorem dX6_init_10 : decode cX6_init 10 = .ok (.putfield 7, 3) := by decide +kernel
theorem dX6_init_13 : decode cX6_init 13 = .ok (.aload_n 0, 1) := by decide +kernel
theorem dX6_init_14 : decode cX6_init 14 = .ok (.sipush 5672, 3) := by decide +kernel
theorem dX6_init_17 : decode cX6_init 17 = .ok (.newarray .long, 2) := by decide +kernel
theorem dX6_init_19 : decode cX6_init 19 = .ok (.putfield 13, 3) := by decide +kernel
theorem dX6_init_22 : decode cX6_init 22 = .ok (.aload_n 0, 1) := by decide +kernel
theorem dX6_init_23 : decode cX6_init 23 = .ok (.bipush 7, 2) := by decide +kernel
theorem dX6_init_25 : decode cX6_init 25 = .ok (.newarray .long, 2) := by decide +kernel
theorem dX6_init_27 : decode cX6_init 27 = .ok (.putfield 16, 3) := by decide +kernel
theorem dX6_init_30 : decode cX6_init 30 = .ok (.aload_n 0, 1) := by decide +kernel
theorem dX6_init_31 : decode cX6_init 31 = .ok (.bipush 6, 2) := by decide +kernel
theorem dX6_init_33 : decode cX6_init 33 = .ok (.newarray .long, 2) := by decide +kernel
theorem dX6_init_35 : decode cX6_init 35 = .ok (.putfield 19, 3) := by decide +kernel
theorem dX6_init_38 : decode cX6_init 38 = .ok (.aload_n 0, 1) := by decide +kernel
theorem dX6_init_39 : decode cX6_init 39 = .ok (.bipush 40, 2) := by decide +kernel
theorem dX6_init_41 : decode cX6_init 41 = .ok (.newarray .long, 2) := by decide +kernel
theorem dX6_init_43 : decode cX6_init 43 = .ok (.putfield 22, 3) := by decide +kernel
theorem dX6_init_46 : decode cX6_init 46 = .ok (.aload_n 0, 1) := by decide +kernel
theorem dX6_init_47 : decode cX6_init 47 = .ok (.bipush 40, 2) := by decide +kernel
theorem dX6_init_49 : decode cX6_init 49 = .ok (.newarray .int, 2) := by decide +kernel
theorem dX6_init_51 : decode cX6_init 51 = .ok (.putfield 25, 3) := by decide +kernel
theorem dX6_init_54 : decode cX6_init 54 = .ok (.iconst 0, 1) := by decide +kernel
theorem dX6_init_55 : decode cX6_init 55 = .ok (.istore_n 1, 1) := by decide +kernel
theorem dX6_init_56 : decode cX6_init 56 = .ok (.iload_n 1, 1) := by decide +kernel
theorem dX6_init_57 : decode cX6_init 57 = .ok (.bipush 110, 2) := by decide +kernel
theorem dX6_init_59 : decode cX6_init 59 = .ok (.if_icmp .gt 27, 3) := by decide +kernel
theorem dX6_init_62 : decode cX6_init 62 = .ok (.aload_n 0, 1) := by decide +kernel
theorem dX6_init_63 : decode cX6_init 63 = .ok (.getfield 7, 3) := by decide +kernel
theorem dX6_init_66 : decode cX6_init 66 = .ok (.iconst 0, 1) := by decide +kernel
theorem dX6_init_67 : decode cX6_init 67 = .ok (.iload_n 1, 1) := by decide +kernel
theorem dX6_init_68 : decode cX6_init 68 = .ok (.iadd, 1) := by decide +kernel
theorem dX6_init_69 : decode cX6_init 69 = .ok (.ldc2_w 29, 3) := by decide +kernel
theorem dX6_init_72 : decode cX6_init 72 = .ok (.ldc2_w 31, 3) := by decide +kernel
theorem dX6_init_75 : decode cX6_init 75 = .ok (.iload_n 1, 1) := by decide +kernel
theorem dX6_init_76 : decode cX6_init 76 = .ok (.i2l, 1) := by decide +kernel
theorem dX6_init_77 : decode cX6_init 77 = .ok (.lmul, 1) := by decide +kernel
theorem dX6_init_78 : decode cX6_init 78 = .ok (.lsub, 1) := by decide +kernel
theorem dX6_init_79 : decode cX6_init 79 = .ok (.lastore, 1) := by decide +kernel
theorem dX6_init_80 : decode cX6_init 80 = .ok (.iinc 1 1, 3) := by decide +kernel
theorem dX6_init_83 : decode cX6_init 83 = .ok (.goto (-27), 3) := by decide +kernel
theorem dX6_init_86 : decode cX6_init 86 = .ok (.aload_n 0, 1) := by decide +kernel
theorem dX6_init_87 : decode cX6_init 87 = .ok (.getfield 7, 3) := by decide +kernel
theorem dX6_init_90 : decode cX6_init 90 = .ok (.sipush 5666, 3) := by decide +kernel
theorem dX6_init_93 : decode cX6_init 93 = .ok (.ldc2_w 33, 3) := by decide +kernel
theorem dX6_init_96 : decode cX6_init 96 = .ok (.lastore, 1) := by decide +kernel
theorem dX6_init_97 : decode cX6_init 97 = .ok (.return_, 1) := by decide +kernel
theorem dX6_in_0 : decode cX6_in 0 = .ok (.lload_n 0, 1) := by decide +kernel
theorem dX6_in_1 : decode cX6_in 1 = .ok (.lload_n 2, 1) := by decide +kernel
theorem dX6_in_2 : decode cX6_in 2 = .ok (.lcmp, 1) := by decide +kernel
theorem dX6_in_3 : decode cX6_in 3 = .ok (.ifCond .lt 14, 3) := by decide +kernel
theorem dX6_in_6 : decode cX6_in 6 = .ok (.lload_n 0, 1) := by decide +kernel
theorem dX6_in_7 : decode cX6_in 7 = .ok (.lload 4, 2) := by decide +kernel
theorem dX6_in_9 : decode cX6_in 9 = .ok (.lcmp, 1) := by decide +kernel
theorem dX6_in_10 : decode cX6_in 10 = .ok (.ifCond .gt 7, 3) := by decide +kernel
theorem dX6_in_13 : decode cX6_in 13 = .ok (.iconst 1, 1) := by decide +kernel
theorem dX6_in_14 : decode cX6_in 14 = .ok (.goto 4, 3) := by decide +kernel
theorem dX6_in_17 : decode cX6_in 17 = .ok (.iconst 0, 1) := by decide +kernel
theorem dX6_in_18 : decode cX6_in 18 = .ok (.ireturn, 1) := by decide +kernel
theorem dX6_isMember_0 : decode cX6_isMember 0 = .ok (.iload_n 1, 1) := by decide +kernel
theorem dX6_isMember_1 : decode cX6_isMember 1 = .ok (.i2l, 1) := by decide +kernel
theorem dX6_isMember_2 : decode cX6_isMember 2 = .ok (.lconst 0, 1) := by decide +kernel
theorem dX6_isMember_3 : decode cX6_isMember 3 = .ok (.aload_n 0, 1) := by decide +kernel
theorem dX6_isMember_4 : decode cX6_isMember 4 = .ok (.getfield 7, 3) := by decide +kernel
theorem dX6_isMember_7 : decode cX6_isMember 7 = .ok (.sipush 5668, 3) := by decide +kernel
theorem dX6_isMember_10 : decode cX6_isMember 10 = .ok (.laload, 1) := by decide +kernel
theorem dX6_isMember_11 : decode cX6_isMember 11 = .ok (.lconst 1, 1) := by decide +kernel
theorem dX6_isMember_12 : decode cX6_isMember 12 = .ok (.lsub, 1) := by decide +kernel
theorem dX6_isMember_13 : decode cX6_isMember 13 = .ok (.invokestatic 35, 3) := by decide +kernel
theorem dX6_isMember_16 : decode cX6_isMember 16 = .ok (.ireturn, 1) := by decide +kernel
theorem dX6_isClass_0 : decode cX6_isClass 0 = .ok (.iload_n 1, 1) := by decide +kernel
theorem dX6_isClass_1 : decode cX6_isClass 1 = .ok (.i2l, 1) := by decide +kernel
theorem dX6_isClass_2 : decode cX6_isClass 2 = .ok (.lconst 0, 1) := by decide +kernel
theorem dX6_isClass_3 : decode cX6_isClass 3 = .ok (.aload_n 0, 1) := by decide +kernel
theorem dX6_isClass_4 : decode cX6_isClass 4 = .ok (.getfield 7, 3) := by decide +kernel
theorem dX6_isClass_7 : decode cX6_isClass 7 = .ok (.sipush 5669, 3) := by decide +kernel
theorem dX6_isClass_10 : decode cX6_isClass 10 = .ok (.laload, 1) := by decide +kernel
theorem dX6_isClass_11 : decode cX6_isClass 11 = .ok (.lconst 1, 1) := by decide +kernel
theorem dX6_isClass_12 : decode cX6_isClass 12 = .ok (.lsub, 1) := by decide +kernel
theorem dX6_isClass_13 : decode cX6_isClass 13 = .ok (.invokestatic 35, 3) := by decide +kernel
theorem dX6_isClass_16 : decode cX6_isClass 16 = .ok (.ireturn, 1) := by decide +kernel
theorem dX6_isShare_0 : decode cX6_isShare 0 = .ok (.iload_n 1, 1) := by decide +kernel
theorem dX6_isShare_1 : decode cX6_isShare 1 = .ok (.i2l, 1) := by decide +kernel
theorem dX6_isShare_2 : decode cX6_isShare 2 = .ok (.lconst 0, 1) := by decide +kernel
theorem dX6_isShare_3 : decode cX6_isShare 3 = .ok (.aload_n 0, 1) := by decide +kernel
theorem dX6_isShare_4 : decode cX6_isShare 4 = .ok (.getfield 7, 3) := by decide +kernel
theorem dX6_isShare_7 : decode cX6_isShare 7 = .ok (.sipush 5670, 3) := by decide +kernel
theorem dX6_isShare_10 : decode cX6_isShare 10 = .ok (.laload, 1) := by decide +kernel
theorem dX6_isShare_11 : decode cX6_isShare 11 = .ok (.lconst 1, 1) := by decide +kernel
theorem dX6_isShare_12 : decode cX6_isShare 12 = .ok (.lsub, 1) := by decide +kernel
theorem dX6_isShare_13 : decode cX6_isShare 13 = .ok (.invokestatic 35, 3) := by decide +kernel
theorem dX6_isShare_16 : decode cX6_isShare 16 = .ok (.ireturn, 1) := by decide +kernel
theorem dX6_cellOf_0 : decode cX6_cellOf 0 = .ok (.bipush 111, 2) := by decide +kernel
theorem dX6_cellOf_2 : decode cX6_cellOf 2 = .ok (.bipush 7, 2) := by decide +kernel
theorem dX6_cellOf_4 : decode cX6_cellOf 4 = .ok (.iload_n 0, 1) := by decide +kernel
theorem dX6_cellOf_5 : decode cX6_cellOf 5 = .ok (.imul, 1) := by decide +kernel
theorem dX6_cellOf_6 : decode cX6_cellOf 6 = .ok (.iadd, 1) := by decide +kernel
theorem dX6_cellOf_7 : decode cX6_cellOf 7 = .ok (.iload_n 1, 1) := by decide +kernel
theorem dX6_cellOf_8 : decode cX6_cellOf 8 = .ok (.iadd, 1) := by decide +kernel
theorem dX6_cellOf_9 : decode cX6_cellOf 9 = .ok (.ireturn, 1) := by decide +kernel
theorem dX6_groupCell_0 : decode cX6_groupCell 0 = .ok (.sipush 279, 3) := by decide +kernel
theorem dX6_groupCell_3 : decode cX6_groupCell 3 = .ok (.iconst 4, 1) := by decide +kernel
theorem dX6_groupCell_4 : decode cX6_groupCell 4 = .ok (.iload_n 0, 1) := by decide +kernel
theorem dX6_groupCell_5 : decode cX6_groupCell 5 = .ok (.imul, 1) := by decide +kernel
theorem dX6_groupCell_6 : decode cX6_groupCell 6 = .ok (.iadd, 1) := by decide +kernel
theorem dX6_groupCell_7 : decode cX6_groupCell 7 = .ok (.iload_n 1, 1) := by decide +kernel
theorem dX6_groupCell_8 : decode cX6_groupCell 8 = .ok (.iadd, 1) := by decide +kernel
theorem dX6_groupCell_9 : decode cX6_groupCell 9 = .ok (.ireturn, 1) := by decide +kernel
theorem dX6_part_0 : decode cX6_part 0 = .ok (.sipush 303, 3) := by decide +kernel
theorem dX6_part_3 : decode cX6_part 3 = .ok (.bipush 14, 2) := by decide +kernel
theorem dX6_part_5 : decode cX6_part 5 = .ok (.iload_n 0, 1) := by decide +kernel
theorem dX6_part_6 : decode cX6_part 6 = .ok (.imul, 1) := by decide +kernel
theorem dX6_part_7 : decode cX6_part 7 = .ok (.iadd, 1) := by decide +kernel
theorem dX6_part_8 : decode cX6_part 8 = .ok (.iload_n 1, 1) := by decide +kernel
theorem dX6_part_9 : decode cX6_part 9 = .ok (.iadd, 1) := by decide +kernel
theorem dX6_part_10 : decode cX6_part 10 = .ok (.ireturn, 1) := by decide +kernel
theorem dX6_living_0 : decode cX6_living 0 = .ok (.iload_n 1, 1) := by decide +kernel
theorem dX6_living_1 : decode cX6_living 1 = .ok (.i2l, 1) := by decide +kernel
theorem dX6_living_2 : decode cX6_living 2 = .ok (.lconst 0, 1) := by decide +kernel
theorem dX6_living_3 : decode cX6_living 3 = .ok (.ldc2_w 39, 3) := by decide +kernel
theorem dX6_living_6 : decode cX6_living 6 = .ok (.invokestatic 35, 3) := by decide +kernel
theorem dX6_living_9 : decode cX6_living 9 = .ok (.ifCond .eq 15, 3) := by decide +kernel
theorem dX6_living_12 : decode cX6_living 12 = .ok (.iload_n 2, 1) := by decide +kernel
theorem dX6_living_13 : decode cX6_living 13 = .ok (.i2l, 1) := by decide +kernel
theorem dX6_living_14 : decode cX6_living 14 = .ok (.lconst 0, 1) := by decide +kernel
theorem dX6_living_15 : decode cX6_living 15 = .ok (.ldc2_w 29, 3) := by decide +kernel
theorem dX6_living_18 : decode cX6_living 18 = .ok (.invokestatic 35, 3) := by decide +kernel
theorem dX6_living_21 : decode cX6_living 21 = .ok (.ifCond .ne 7, 3) := by decide +kernel
theorem dX6_living_24 : decode cX6_living 24 = .ok (.ldc2_w 41, 3) := by decide +kernel
theorem dX6_living_27 : decode cX6_living 27 = .ok (.lreturn, 1) := by decide +kernel
theorem dX6_living_28 : decode cX6_living 28 = .ok (.iload_n 1, 1) := by decide +kernel
theorem dX6_living_29 : decode cX6_living 29 = .ok (.ifCond .le 19, 3) := by decide +kernel
theorem dX6_living_32 : decode cX6_living 32 = .ok (.iload_n 2, 1) := by decide +kernel
theorem dX6_living_33 : decode cX6_living 33 = .ok (.i2l, 1) := by decide +kernel
theorem dX6_living_34 : decode cX6_living 34 = .ok (.aload_n 0, 1) := by decide +kernel
theorem dX6_living_35 : decode cX6_living 35 = .ok (.getfield 7, 3) := by decide +kernel
theorem dX6_living_38 : decode cX6_living 38 = .ok (.iconst 0, 1) := by decide +kernel
theorem dX6_living_39 : decode cX6_living 39 = .ok (.iload_n 1, 1) := by decide +kernel
theorem dX6_living_40 : decode cX6_living 40 = .ok (.iadd, 1) := by decide +kernel
theorem dX6_living_41 : decode cX6_living 41 = .ok (.iconst 1, 1) := by decide +kernel
theorem dX6_living_42 : decode cX6_living 42 = .ok (.isub, 1) := by decide +kernel
theorem dX6_living_43 : decode cX6_living 43 = .ok (.laload, 1) := by decide +kernel
theorem dX6_living_44 : decode cX6_living 44 = .ok (.lcmp, 1) := by decide +kernel
theorem dX6_living_45 : decode cX6_living 45 = .ok (.ifCond .gt 25, 3) := by decide +kernel
theorem dX6_living_48 : decode cX6_living 48 = .ok (.iload_n 1, 1) := by decide +kernel
theorem dX6_living_49 : decode cX6_living 49 = .ok (.bipush 110, 2) := by decide +kernel
theorem dX6_living_51 : decode cX6_living 51 = .ok (.if_icmp .ge 23, 3) := by decide +kernel
theorem dX6_living_54 : decode cX6_living 54 = .ok (.iload_n 2, 1) := by decide +kernel
theorem dX6_living_55 : decode cX6_living 55 = .ok (.i2l, 1) := by decide +kernel
theorem dX6_living_56 : decode cX6_living 56 = .ok (.aload_n 0, 1) := by decide +kernel
theorem dX6_living_57 : decode cX6_living 57 = .ok (.getfield 7, 3) := by decide +kernel
theorem dX6_living_60 : decode cX6_living 60 = .ok (.iconst 0, 1) := by decide +kernel
theorem dX6_living_61 : decode cX6_living 61 = .ok (.iload_n 1, 1) := by decide +kernel
theorem dX6_living_62 : decode cX6_living 62 = .ok (.iadd, 1) := by decide +kernel
theorem dX6_living_63 : decode cX6_living 63 = .ok (.iconst 1, 1) := by decide +kernel
theorem dX6_living_64 : decode cX6_living 64 = .ok (.iadd, 1) := by decide +kernel
theorem dX6_living_65 : decode cX6_living 65 = .ok (.laload, 1) := by decide +kernel
theorem dX6_living_66 : decode cX6_living 66 = .ok (.lcmp, 1) := by decide +kernel
theorem dX6_living_67 : decode cX6_living 67 = .ok (.ifCond .ge 7, 3) := by decide +kernel
theorem dX6_living_70 : decode cX6_living 70 = .ok (.ldc2_w 41, 3) := by decide +kernel
theorem dX6_living_73 : decode cX6_living 73 = .ok (.lreturn, 1) := by decide +kernel
theorem dX6_living_74 : decode cX6_living 74 = .ok (.aload_n 0, 1) := by decide +kernel
theorem dX6_living_75 : decode cX6_living 75 = .ok (.getfield 7, 3) := by decide +kernel
theorem dX6_living_78 : decode cX6_living 78 = .ok (.iconst 0, 1) := by decide +kernel
theorem dX6_living_79 : decode cX6_living 79 = .ok (.iload_n 1, 1) := by decide +kernel
theorem dX6_living_80 : decode cX6_living 80 = .ok (.iadd, 1) := by decide +kernel
theorem dX6_living_81 : decode cX6_living 81 = .ok (.laload, 1) := by decide +kernel
theorem dX6_living_82 : decode cX6_living 82 = .ok (.lstore_n 3, 1) := by decide +kernel
theorem dX6_living_83 : decode cX6_living 83 = .ok (.aload_n 0, 1) := by decide +kernel
theorem dX6_living_84 : decode cX6_living 84 = .ok (.getfield 7, 3) := by decide +kernel
theorem dX6_living_87 : decode cX6_living 87 = .ok (.iconst 0, 1) := by decide +kernel
theorem dX6_living_88 : decode cX6_living 88 = .ok (.iload_n 1, 1) := by decide +kernel
theorem dX6_living_89 : decode cX6_living 89 = .ok (.iadd, 1) := by decide +kernel
theorem dX6_living_90 : decode cX6_living 90 = .ok (.iload_n 2, 1) := by decide +kernel
theorem dX6_living_91 : decode cX6_living 91 = .ok (.i2l, 1) := by decide +kernel
theorem dX6_living_92 : decode cX6_living 92 = .ok (.lastore, 1) := by decide +kernel
theorem dX6_living_93 : decode cX6_living 93 = .ok (.lload_n 3, 1) := by decide +kernel
theorem dX6_living_94 : decode cX6_living 94 = .ok (.lreturn, 1) := by decide +kernel
theorem dX6_foretell_0 : decode cX6_foretell 0 = .ok (.iload_n 1, 1) := by decide +kernel
theorem dX6_foretell_1 : decode cX6_foretell 1 = .ok (.i2l, 1) := by decide +kernel
theorem dX6_foretell_2 : decode cX6_foretell 2 = .ok (.lconst 0, 1) := by decide +kernel
theorem dX6_foretell_3 : decode cX6_foretell 3 = .ok (.ldc2_w 39, 3) := by decide +kernel
theorem dX6_foretell_6 : decode cX6_foretell 6 = .ok (.invokestatic 35, 3) := by decide +kernel
theorem dX6_foretell_9 : decode cX6_foretell 9 = .ok (.ifCond .eq 7, 3) := by decide +kernel
theorem dX6_foretell_12 : decode cX6_foretell 12 = .ok (.iload_n 2, 1) := by decide +kernel
theorem dX6_foretell_13 : decode cX6_foretell 13 = .ok (.ifCond .ge 7, 3) := by decide +kernel
theorem dX6_foretell_16 : decode cX6_foretell 16 = .ok (.ldc2_w 41, 3) := by decide +kernel
theorem dX6_foretell_19 : decode cX6_foretell 19 = .ok (.lreturn, 1) := by decide +kernel
theorem dX6_foretell_20 : decode cX6_foretell 20 = .ok (.aload_n 0, 1) := by decide +kernel
theorem dX6_foretell_21 : decode cX6_foretell 21 = .ok (.getfield 7, 3) := by decide +kernel
theorem dX6_foretell_24 : decode cX6_foretell 24 = .ok (.iconst 0, 1) := by decide +kernel
theorem dX6_foretell_25 : decode cX6_foretell 25 = .ok (.iload_n 1, 1) := by decide +kernel
theorem dX6_foretell_26 : decode cX6_foretell 26 = .ok (.iadd, 1) := by decide +kernel
theorem dX6_foretell_27 : decode cX6_foretell 27 = .ok (.laload, 1) := by decide +kernel
theorem dX6_foretell_28 : decode cX6_foretell 28 = .ok (.lstore_n 3, 1) := by decide +kernel
theorem dX6_foretell_29 : decode cX6_foretell 29 = .ok (.lload_n 3, 1) := by decide +kernel
theorem dX6_foretell_30 : decode cX6_foretell 30 = .ok (.lconst 0, 1) := by decide +kernel
theorem dX6_foretell_31 : decode cX6_foretell 31 = .ok (.lcmp, 1) := by decide +kernel
theorem dX6_foretell_32 : decode cX6_foretell 32 = .ok (.ifCond .eq 11, 3) := by decide +kernel
theorem dX6_foretell_35 : decode cX6_foretell 35 = .ok (.iload_n 2, 1) := by decide +kernel
theorem dX6_foretell_36 : decode cX6_foretell 36 = .ok (.bipush 110, 2) := by decide +kernel
theorem dX6_foretell_38 : decode cX6_foretell 38 = .ok (.iload_n 1, 1) := by decide +kernel
theorem dX6_foretell_39 : decode cX6_foretell 39 = .ok (.isub, 1) := by decide +kernel
theorem dX6_foretell_40 : decode cX6_foretell 40 = .ok (.if_icmp .le 7, 3) := by decide +kernel
theorem dX6_foretell_43 : decode cX6_foretell 43 = .ok (.lconst 0, 1) := by decide +kernel
theorem dX6_foretell_44 : decode cX6_foretell 44 = .ok (.goto 19, 3) := by decide +kernel
theorem dX6_foretell_47 : decode cX6_foretell 47 = .ok (.ldc2_w 43, 3) := by decide +kernel
theorem dX6_foretell_50 : decode cX6_foretell 50 = .ok (.aload_n 0, 1) := by decide +kernel
theorem dX6_foretell_51 : decode cX6_foretell 51 = .ok (.getfield 7, 3) := by decide +kernel
theorem dX6_foretell_54 : decode cX6_foretell 54 = .ok (.iconst 0, 1) := by decide +kernel
theorem dX6_foretell_55 : decode cX6_foretell 55 = .ok (.iload_n 1, 1) := by decide +kernel
theorem dX6_foretell_56 : decode cX6_foretell 56 = .ok (.iadd, 1) := by decide +kernel
theorem dX6_foretell_57 : decode cX6_foretell 57 = .ok (.iload_n 2, 1) := by decide +kernel
theorem dX6_foretell_58 : decode cX6_foretell 58 = .ok (.iadd, 1) := by decide +kernel
theorem dX6_foretell_59 : decode cX6_foretell 59 = .ok (.laload, 1) := by decide +kernel
theorem dX6_foretell_60 : decode cX6_foretell 60 = .ok (.lmul, 1) := by decide +kernel
theorem dX6_foretell_61 : decode cX6_foretell 61 = .ok (.lload_n 3, 1) := by decide +kernel
theorem dX6_foretell_62 : decode cX6_foretell 62 = .ok (.ldiv, 1) := by decide +kernel
theorem dX6_foretell_63 : decode cX6_foretell 63 = .ok (.lreturn, 1) := by decide +kernel
theorem dX6_later_0 : decode cX6_later 0 = .ok (.lconst 0, 1) := by decide +kernel
theorem dX6_later_1 : decode cX6_later 1 = .ok (.lstore_n 2, 1) := by decide +kernel
theorem dX6_later_2 : decode cX6_later 2 = .ok (.iload_n 1, 1) := by decide +kernel
theorem dX6_later_3 : decode cX6_later 3 = .ok (.iconst 1, 1) := by decide +kernel
theorem dX6_later_4 : decode cX6_later 4 = .ok (.iadd, 1) := by decide +kernel
theorem dX6_later_5 : decode cX6_later 5 = .ok (.istore 4, 2) := by decide +kernel
theorem dX6_later_7 : decode cX6_later 7 = .ok (.iload 4, 2) := by decide +kernel
theorem dX6_later_9 : decode cX6_later 9 = .ok (.bipush 110, 2) := by decide +kernel
theorem dX6_later_11 : decode cX6_later 11 = .ok (.if_icmp .gt 21, 3) := by decide +kernel
theorem dX6_later_14 : decode cX6_later 14 = .ok (.lload_n 2, 1) := by decide +kernel
theorem dX6_later_15 : decode cX6_later 15 = .ok (.aload_n 0, 1) := by decide +kernel
theorem dX6_later_16 : decode cX6_later 16 = .ok (.getfield 7, 3) := by decide +kernel
theorem dX6_later_19 : decode cX6_later 19 = .ok (.iconst 0, 1) := by decide +kernel
theorem dX6_later_20 : decode cX6_later 20 = .ok (.iload 4, 2) := by decide +kernel
theorem dX6_later_22 : decode cX6_later 22 = .ok (.iadd, 1) := by decide +kernel
theorem dX6_later_23 : decode cX6_later 23 = .ok (.laload, 1) := by decide +kernel
theorem dX6_later_24 : decode cX6_later 24 = .ok (.ladd, 1) := by decide +kernel
theorem dX6_later_25 : decode cX6_later 25 = .ok (.lstore_n 2, 1) := by decide +kernel
theorem dX6_later_26 : decode cX6_later 26 = .ok (.iinc 4 1, 3) := by decide +kernel
theorem dX6_later_29 : decode cX6_later 29 = .ok (.goto (-22), 3) := by decide +kernel
theorem dX6_later_32 : decode cX6_later 32 = .ok (.lload_n 2, 1) := by decide +kernel
theorem dX6_later_33 : decode cX6_later 33 = .ok (.lreturn, 1) := by decide +kernel
theorem dX6_mean_0 : decode cX6_mean 0 = .ok (.iload_n 1, 1) := by decide +kernel
theorem dX6_mean_1 : decode cX6_mean 1 = .ok (.i2l, 1) := by decide +kernel
theorem dX6_mean_2 : decode cX6_mean 2 = .ok (.lconst 0, 1) := by decide +kernel
theorem dX6_mean_3 : decode cX6_mean 3 = .ok (.ldc2_w 39, 3) := by decide +kernel
theorem dX6_mean_6 : decode cX6_mean 6 = .ok (.invokestatic 35, 3) := by decide +kernel
theorem dX6_mean_9 : decode cX6_mean 9 = .ok (.ifCond .ne 7, 3) := by decide +kernel
theorem dX6_mean_12 : decode cX6_mean 12 = .ok (.ldc2_w 41, 3) := by decide +kernel
theorem dX6_mean_15 : decode cX6_mean 15 = .ok (.lreturn, 1) := by decide +kernel
theorem dX6_mean_16 : decode cX6_mean 16 = .ok (.aload_n 0, 1) := by decide +kernel
theorem dX6_mean_17 : decode cX6_mean 17 = .ok (.getfield 7, 3) := by decide +kernel
theorem dX6_mean_20 : decode cX6_mean 20 = .ok (.iconst 0, 1) := by decide +kernel
theorem dX6_mean_21 : decode cX6_mean 21 = .ok (.iload_n 1, 1) := by decide +kernel
theorem dX6_mean_22 : decode cX6_mean 22 = .ok (.iadd, 1) := by decide +kernel
theorem dX6_mean_23 : decode cX6_mean 23 = .ok (.laload, 1) := by decide +kernel
theorem dX6_mean_24 : decode cX6_mean 24 = .ok (.lconst 0, 1) := by decide +kernel
theorem dX6_mean_25 : decode cX6_mean 25 = .ok (.lcmp, 1) := by decide +kernel
theorem dX6_mean_26 : decode cX6_mean 26 = .ok (.ifCond .ne 7, 3) := by decide +kernel
theorem dX6_mean_29 : decode cX6_mean 29 = .ok (.lconst 0, 1) := by decide +kernel
theorem dX6_mean_30 : decode cX6_mean 30 = .ok (.goto 21, 3) := by decide +kernel
theorem dX6_mean_33 : decode cX6_mean 33 = .ok (.ldc2_w 45, 3) := by decide +kernel
theorem dX6_mean_36 : decode cX6_mean 36 = .ok (.aload_n 0, 1) := by decide +kernel
theorem dX6_mean_37 : decode cX6_mean 37 = .ok (.iload_n 1, 1) := by decide +kernel
theorem dX6_mean_38 : decode cX6_mean 38 = .ok (.invokevirtual 47, 3) := by decide +kernel
theorem dX6_mean_41 : decode cX6_mean 41 = .ok (.lmul, 1) := by decide +kernel
theorem dX6_mean_42 : decode cX6_mean 42 = .ok (.aload_n 0, 1) := by decide +kernel
theorem dX6_mean_43 : decode cX6_mean 43 = .ok (.getfield 7, 3) := by decide +kernel
theorem dX6_mean_46 : decode cX6_mean 46 = .ok (.iconst 0, 1) := by decide +kernel
theorem dX6_mean_47 : decode cX6_mean 47 = .ok (.iload_n 1, 1) := by decide +kernel
theorem dX6_mean_48 : decode cX6_mean 48 = .ok (.iadd, 1) := by decide +kernel
theorem dX6_mean_49 : decode cX6_mean 49 = .ok (.laload, 1) := by decide +kernel
theorem dX6_mean_50 : decode cX6_mean 50 = .ok (.ldiv, 1) := by decide +kernel
theorem dX6_mean_51 : decode cX6_mean 51 = .ok (.lreturn, 1) := by decide +kernel
theorem dX6_dearer_0 : decode cX6_dearer 0 = .ok (.aload_n 0, 1) := by decide +kernel
theorem dX6_dearer_1 : decode cX6_dearer 1 = .ok (.iload_n 1, 1) := by decide +kernel
theorem dX6_dearer_2 : decode cX6_dearer 2 = .ok (.invokevirtual 51, 3) := by decide +kernel
theorem dX6_dearer_5 : decode cX6_dearer 5 = .ok (.ifCond .eq 11, 3) := by decide +kernel
theorem dX6_dearer_8 : decode cX6_dearer 8 = .ok (.aload_n 0, 1) := by decide +kernel
theorem dX6_dearer_9 : decode cX6_dearer 9 = .ok (.iload_n 2, 1) := by decide +kernel
theorem dX6_dearer_10 : decode cX6_dearer 10 = .ok (.invokevirtual 51, 3) := by decide +kernel
theorem dX6_dearer_13 : decode cX6_dearer 13 = .ok (.ifCond .ne 7, 3) := by decide +kernel
theorem dX6_dearer_16 : decode cX6_dearer 16 = .ok (.ldc2_w 41, 3) := by decide +kernel
theorem dX6_dearer_19 : decode cX6_dearer 19 = .ok (.lreturn, 1) := by decide +kernel
theorem dX6_dearer_20 : decode cX6_dearer 20 = .ok (.aload_n 0, 1) := by decide +kernel
theorem dX6_dearer_21 : decode cX6_dearer 21 = .ok (.getfield 7, 3) := by decide +kernel
theorem dX6_dearer_24 : decode cX6_dearer 24 = .ok (.iload_n 1, 1) := by decide +kernel
theorem dX6_dearer_25 : decode cX6_dearer 25 = .ok (.iconst 0, 1) := by decide +kernel
theorem dX6_dearer_26 : decode cX6_dearer 26 = .ok (.invokestatic 55, 3) := by decide +kernel
theorem dX6_dearer_29 : decode cX6_dearer 29 = .ok (.laload, 1) := by decide +kernel
theorem dX6_dearer_30 : decode cX6_dearer 30 = .ok (.l2i, 1) := by decide +kernel
theorem dX6_dearer_31 : decode cX6_dearer 31 = .ok (.istore_n 3, 1) := by decide +kernel
theorem dX6_dearer_32 : decode cX6_dearer 32 = .ok (.aload_n 0, 1) := by decide +kernel
theorem dX6_dearer_33 : decode cX6_dearer 33 = .ok (.getfield 7, 3) := by decide +kernel
theorem dX6_dearer_36 : decode cX6_dearer 36 = .ok (.iload_n 2, 1) := by decide +kernel
theorem dX6_dearer_37 : decode cX6_dearer 37 = .ok (.iconst 0, 1) := by decide +kernel
theorem dX6_dearer_38 : decode cX6_dearer 38 = .ok (.invokestatic 55, 3) := by decide +kernel
theorem dX6_dearer_41 : decode cX6_dearer 41 = .ok (.laload, 1) := by decide +kernel
theorem dX6_dearer_42 : decode cX6_dearer 42 = .ok (.l2i, 1) := by decide +kernel
theorem dX6_dearer_43 : decode cX6_dearer 43 = .ok (.istore 4, 2) := by decide +kernel
theorem dX6_dearer_45 : decode cX6_dearer 45 = .ok (.aload_n 0, 1) := by decide +kernel
theorem dX6_dearer_46 : decode cX6_dearer 46 = .ok (.iload_n 3, 1) := by decide +kernel
theorem dX6_dearer_47 : decode cX6_dearer 47 = .ok (.invokevirtual 47, 3) := by decide +kernel
theorem dX6_dearer_50 : decode cX6_dearer 50 = .ok (.lstore 5, 2) := by decide +kernel
theorem dX6_dearer_52 : decode cX6_dearer 52 = .ok (.aload_n 0, 1) := by decide +kernel
theorem dX6_dearer_53 : decode cX6_dearer 53 = .ok (.iload 4, 2) := by decide +kernel
theorem dX6_dearer_55 : decode cX6_dearer 55 = .ok (.invokevirtual 47, 3) := by decide +kernel
theorem dX6_dearer_58 : decode cX6_dearer 58 = .ok (.lstore 7, 2) := by decide +kernel
theorem dX6_dearer_60 : decode cX6_dearer 60 = .ok (.lload 5, 2) := by decide +kernel
theorem dX6_dearer_62 : decode cX6_dearer 62 = .ok (.lconst 0, 1) := by decide +kernel
theorem dX6_dearer_63 : decode cX6_dearer 63 = .ok (.lcmp, 1) := by decide +kernel
theorem dX6_dearer_64 : decode cX6_dearer 64 = .ok (.ifCond .eq 10, 3) := by decide +kernel
theorem dX6_dearer_67 : decode cX6_dearer 67 = .ok (.lload 7, 2) := by decide +kernel
theorem dX6_dearer_69 : decode cX6_dearer 69 = .ok (.lconst 0, 1) := by decide +kernel
theorem dX6_dearer_70 : decode cX6_dearer 70 = .ok (.lcmp, 1) := by decide +kernel
theorem dX6_dearer_71 : decode cX6_dearer 71 = .ok (.ifCond .ne 30, 3) := by decide +kernel
theorem dX6_dearer_74 : decode cX6_dearer 74 = .ok (.lload 5, 2) := by decide +kernel
theorem dX6_dearer_76 : decode cX6_dearer 76 = .ok (.lload 7, 2) := by decide +kernel
theorem dX6_dearer_78 : decode cX6_dearer 78 = .ok (.lcmp, 1) := by decide +kernel
theorem dX6_dearer_79 : decode cX6_dearer 79 = .ok (.ifCond .ne 7, 3) := by decide +kernel
theorem dX6_dearer_82 : decode cX6_dearer 82 = .ok (.lconst 0, 1) := by decide +kernel
theorem dX6_dearer_83 : decode cX6_dearer 83 = .ok (.goto 17, 3) := by decide +kernel
theorem dX6_dearer_86 : decode cX6_dearer 86 = .ok (.lload 5, 2) := by decide +kernel
theorem dX6_dearer_88 : decode cX6_dearer 88 = .ok (.lconst 0, 1) := by decide +kernel
theorem dX6_dearer_89 : decode cX6_dearer 89 = .ok (.lcmp, 1) := by decide +kernel
theorem dX6_dearer_90 : decode cX6_dearer 90 = .ok (.ifCond .ne 7, 3) := by decide +kernel
theorem dX6_dearer_93 : decode cX6_dearer 93 = .ok (.lconst 1, 1) := by decide +kernel
theorem dX6_dearer_94 : decode cX6_dearer 94 = .ok (.goto 6, 3) := by decide +kernel
theorem dX6_dearer_97 : decode cX6_dearer 97 = .ok (.ldc2_w 59, 3) := by decide +kernel
theorem dX6_dearer_100 : decode cX6_dearer 100 = .ok (.lreturn, 1) := by decide +kernel
theorem dX6_dearer_101 : decode cX6_dearer 101 = .ok (.aload_n 0, 1) := by decide +kernel
theorem dX6_dearer_102 : decode cX6_dearer 102 = .ok (.getfield 7, 3) := by decide +kernel
theorem dX6_dearer_105 : decode cX6_dearer 105 = .ok (.iload_n 1, 1) := by decide +kernel
theorem dX6_dearer_106 : decode cX6_dearer 106 = .ok (.iconst 2, 1) := by decide +kernel
theorem dX6_dearer_107 : decode cX6_dearer 107 = .ok (.invokestatic 55, 3) := by decide +kernel
theorem dX6_dearer_110 : decode cX6_dearer 110 = .ok (.laload, 1) := by decide +kernel
theorem dX6_dearer_111 : decode cX6_dearer 111 = .ok (.aload_n 0, 1) := by decide +kernel
theorem dX6_dearer_112 : decode cX6_dearer 112 = .ok (.getfield 7, 3) := by decide +kernel
theorem dX6_dearer_115 : decode cX6_dearer 115 = .ok (.iconst 0, 1) := by decide +kernel
theorem dX6_dearer_116 : decode cX6_dearer 116 = .ok (.iload_n 3, 1) := by decide +kernel
theorem dX6_dearer_117 : decode cX6_dearer 117 = .ok (.iadd, 1) := by decide +kernel
theorem dX6_dearer_118 : decode cX6_dearer 118 = .ok (.laload, 1) := by decide +kernel
theorem dX6_dearer_119 : decode cX6_dearer 119 = .ok (.lmul, 1) := by decide +kernel
theorem dX6_dearer_120 : decode cX6_dearer 120 = .ok (.lload 7, 2) := by decide +kernel
theorem dX6_dearer_122 : decode cX6_dearer 122 = .ok (.lmul, 1) := by decide +kernel
theorem dX6_dearer_123 : decode cX6_dearer 123 = .ok (.lstore 9, 2) := by decide +kernel
theorem dX6_dearer_125 : decode cX6_dearer 125 = .ok (.aload_n 0, 1) := by decide +kernel
theorem dX6_dearer_126 : decode cX6_dearer 126 = .ok (.getfield 7, 3) := by decide +kernel
theorem dX6_dearer_129 : decode cX6_dearer 129 = .ok (.iload_n 2, 1) := by decide +kernel
theorem dX6_dearer_130 : decode cX6_dearer 130 = .ok (.iconst 2, 1) := by decide +kernel
theorem dX6_dearer_131 : decode cX6_dearer 131 = .ok (.invokestatic 55, 3) := by decide +kernel
theorem dX6_dearer_134 : decode cX6_dearer 134 = .ok (.laload, 1) := by decide +kernel
theorem dX6_dearer_135 : decode cX6_dearer 135 = .ok (.aload_n 0, 1) := by decide +kernel
theorem dX6_dearer_136 : decode cX6_dearer 136 = .ok (.getfield 7, 3) := by decide +kernel
theorem dX6_dearer_139 : decode cX6_dearer 139 = .ok (.iconst 0, 1) := by decide +kernel
theorem dX6_dearer_140 : decode cX6_dearer 140 = .ok (.iload 4, 2) := by decide +kernel
theorem dX6_dearer_142 : decode cX6_dearer 142 = .ok (.iadd, 1) := by decide +kernel
theorem dX6_dearer_143 : decode cX6_dearer 143 = .ok (.laload, 1) := by decide +kernel
theorem dX6_dearer_144 : decode cX6_dearer 144 = .ok (.lmul, 1) := by decide +kernel
theorem dX6_dearer_145 : decode cX6_dearer 145 = .ok (.lload 5, 2) := by decide +kernel
theorem dX6_dearer_147 : decode cX6_dearer 147 = .ok (.lmul, 1) := by decide +kernel
theorem dX6_dearer_148 : decode cX6_dearer 148 = .ok (.lstore 11, 2) := by decide +kernel
theorem dX6_dearer_150 : decode cX6_dearer 150 = .ok (.lload 9, 2) := by decide +kernel
theorem dX6_dearer_152 : decode cX6_dearer 152 = .ok (.lload 11, 2) := by decide +kernel
theorem dX6_dearer_154 : decode cX6_dearer 154 = .ok (.lcmp, 1) := by decide +kernel
theorem dX6_dearer_155 : decode cX6_dearer 155 = .ok (.ifCond .le 7, 3) := by decide +kernel
theorem dX6_dearer_158 : decode cX6_dearer 158 = .ok (.lconst 1, 1) := by decide +kernel
theorem dX6_dearer_159 : decode cX6_dearer 159 = .ok (.goto 18, 3) := by decide +kernel
theorem dX6_dearer_162 : decode cX6_dearer 162 = .ok (.lload 9, 2) := by decide +kernel
theorem dX6_dearer_164 : decode cX6_dearer 164 = .ok (.lload 11, 2) := by decide +kernel
theorem dX6_dearer_166 : decode cX6_dearer 166 = .ok (.lcmp, 1) := by decide +kernel
theorem dX6_dearer_167 : decode cX6_dearer 167 = .ok (.ifCond .ge 9, 3) := by decide +kernel
theorem dX6_dearer_170 : decode cX6_dearer 170 = .ok (.ldc2_w 59, 3) := by decide +kernel
theorem dX6_dearer_173 : decode cX6_dearer 173 = .ok (.goto 4, 3) := by decide +kernel
theorem dX6_dearer_176 : decode cX6_dearer 176 = .ok (.lconst 0, 1) := by decide +kernel
theorem dX6_dearer_177 : decode cX6_dearer 177 = .ok (.lreturn, 1) := by decide +kernel
theorem dX6_member_0 : decode cX6_member 0 = .ok (.iload_n 1, 1) := by decide +kernel
theorem dX6_member_1 : decode cX6_member 1 = .ok (.i2l, 1) := by decide +kernel
theorem dX6_member_2 : decode cX6_member 2 = .ok (.aload_n 0, 1) := by decide +kernel
theorem dX6_member_3 : decode cX6_member 3 = .ok (.getfield 7, 3) := by decide +kernel
theorem dX6_member_6 : decode cX6_member 6 = .ok (.sipush 5663, 3) := by decide +kernel
theorem dX6_member_9 : decode cX6_member 9 = .ok (.laload, 1) := by decide +kernel
theorem dX6_member_10 : decode cX6_member 10 = .ok (.lcmp, 1) := by decide +kernel
theorem dX6_member_11 : decode cX6_member 11 = .ok (.ifCond .gt 36, 3) := by decide +kernel
theorem dX6_member_14 : decode cX6_member 14 = .ok (.iload_n 1, 1) := by decide +kernel
theorem dX6_member_15 : decode cX6_member 15 = .ok (.i2l, 1) := by decide +kernel
theorem dX6_member_16 : decode cX6_member 16 = .ok (.aload_n 0, 1) := by decide +kernel
theorem dX6_member_17 : decode cX6_member 17 = .ok (.getfield 7, 3) := by decide +kernel
theorem dX6_member_20 : decode cX6_member 20 = .ok (.sipush 5663, 3) := by decide +kernel
theorem dX6_member_23 : decode cX6_member 23 = .ok (.laload, 1) := by decide +kernel
theorem dX6_member_24 : decode cX6_member 24 = .ok (.ldc2_w 39, 3) := by decide +kernel
theorem dX6_member_27 : decode cX6_member 27 = .ok (.lsub, 1) := by decide +kernel
theorem dX6_member_28 : decode cX6_member 28 = .ok (.lcmp, 1) := by decide +kernel
theorem dX6_member_29 : decode cX6_member 29 = .ok (.ifCond .lt 18, 3) := by decide +kernel
theorem dX6_member_32 : decode cX6_member 32 = .ok (.aload_n 0, 1) := by decide +kernel
theorem dX6_member_33 : decode cX6_member 33 = .ok (.getfield 7, 3) := by decide +kernel
theorem dX6_member_36 : decode cX6_member 36 = .ok (.sipush 5668, 3) := by decide +kernel
theorem dX6_member_39 : decode cX6_member 39 = .ok (.laload, 1) := by decide +kernel
theorem dX6_member_40 : decode cX6_member 40 = .ok (.ldc2_w 61, 3) := by decide +kernel
theorem dX6_member_43 : decode cX6_member 43 = .ok (.lcmp, 1) := by decide +kernel
theorem dX6_member_44 : decode cX6_member 44 = .ok (.ifCond .ne 7, 3) := by decide +kernel
theorem dX6_member_47 : decode cX6_member 47 = .ok (.ldc2_w 41, 3) := by decide +kernel
theorem dX6_member_50 : decode cX6_member 50 = .ok (.lreturn, 1) := by decide +kernel
theorem dX6_member_51 : decode cX6_member 51 = .ok (.aload_n 0, 1) := by decide +kernel
theorem dX6_member_52 : decode cX6_member 52 = .ok (.getfield 7, 3) := by decide +kernel
theorem dX6_member_55 : decode cX6_member 55 = .ok (.sipush 5668, 3) := by decide +kernel
theorem dX6_member_58 : decode cX6_member 58 = .ok (.laload, 1) := by decide +kernel
theorem dX6_member_59 : decode cX6_member 59 = .ok (.l2i, 1) := by decide +kernel
theorem dX6_member_60 : decode cX6_member 60 = .ok (.istore_n 2, 1) := by decide +kernel
theorem dX6_member_61 : decode cX6_member 61 = .ok (.iconst 0, 1) := by decide +kernel
theorem dX6_member_62 : decode cX6_member 62 = .ok (.istore_n 3, 1) := by decide +kernel
theorem dX6_member_63 : decode cX6_member 63 = .ok (.iload_n 3, 1) := by decide +kernel
theorem dX6_member_64 : decode cX6_member 64 = .ok (.bipush 7, 2) := by decide +kernel
theorem dX6_member_66 : decode cX6_member 66 = .ok (.if_icmp .ge 20, 3) := by decide +kernel
theorem dX6_member_69 : decode cX6_member 69 = .ok (.aload_n 0, 1) := by decide +kernel
theorem dX6_member_70 : decode cX6_member 70 = .ok (.getfield 7, 3) := by decide +kernel
theorem dX6_member_73 : decode cX6_member 73 = .ok (.iload_n 2, 1) := by decide +kernel
theorem dX6_member_74 : decode cX6_member 74 = .ok (.iload_n 3, 1) := by decide +kernel
theorem dX6_member_75 : decode cX6_member 75 = .ok (.invokestatic 63, 3) := by decide +kernel
theorem dX6_member_78 : decode cX6_member 78 = .ok (.lconst 0, 1) := by decide +kernel
theorem dX6_member_79 : decode cX6_member 79 = .ok (.lastore, 1) := by decide +kernel
theorem dX6_member_80 : decode cX6_member 80 = .ok (.iinc 3 1, 3) := by decide +kernel
theorem dX6_member_83 : decode cX6_member 83 = .ok (.goto (-20), 3) := by decide +kernel
theorem dX6_member_86 : decode cX6_member 86 = .ok (.aload_n 0, 1) := by decide +kernel
theorem dX6_member_87 : decode cX6_member 87 = .ok (.getfield 7, 3) := by decide +kernel
theorem dX6_member_90 : decode cX6_member 90 = .ok (.iload_n 2, 1) := by decide +kernel
theorem dX6_member_91 : decode cX6_member 91 = .ok (.iconst 0, 1) := by decide +kernel
theorem dX6_member_92 : decode cX6_member 92 = .ok (.invokestatic 63, 3) := by decide +kernel
theorem dX6_member_95 : decode cX6_member 95 = .ok (.iload_n 1, 1) := by decide +kernel
theorem dX6_member_96 : decode cX6_member 96 = .ok (.i2l, 1) := by decide +kernel
theorem dX6_member_97 : decode cX6_member 97 = .ok (.lastore, 1) := by decide +kernel
theorem dX6_member_98 : decode cX6_member 98 = .ok (.aload_n 0, 1) := by decide +kernel
theorem dX6_member_99 : decode cX6_member 99 = .ok (.getfield 7, 3) := by decide +kernel
theorem dX6_member_102 : decode cX6_member 102 = .ok (.iload_n 2, 1) := by decide +kernel
theorem dX6_member_103 : decode cX6_member 103 = .ok (.iconst 3, 1) := by decide +kernel
theorem dX6_member_104 : decode cX6_member 104 = .ok (.invokestatic 63, 3) := by decide +kernel
theorem dX6_member_107 : decode cX6_member 107 = .ok (.ldc2_w 59, 3) := by decide +kernel
theorem dX6_member_110 : decode cX6_member 110 = .ok (.lastore, 1) := by decide +kernel
theorem dX6_member_111 : decode cX6_member 111 = .ok (.aload_n 0, 1) := by decide +kernel
theorem dX6_member_112 : decode cX6_member 112 = .ok (.getfield 7, 3) := by decide +kernel
theorem dX6_member_115 : decode cX6_member 115 = .ok (.sipush 5668, 3) := by decide +kernel
theorem dX6_member_118 : decode cX6_member 118 = .ok (.dup2, 1) := by decide +kernel
theorem dX6_member_119 : decode cX6_member 119 = .ok (.laload, 1) := by decide +kernel
theorem dX6_member_120 : decode cX6_member 120 = .ok (.lconst 1, 1) := by decide +kernel
theorem dX6_member_121 : decode cX6_member 121 = .ok (.ladd, 1) := by decide +kernel
theorem dX6_member_122 : decode cX6_member 122 = .ok (.lastore, 1) := by decide +kernel
theorem dX6_member_123 : decode cX6_member 123 = .ok (.iload_n 2, 1) := by decide +kernel
theorem dX6_member_124 : decode cX6_member 124 = .ok (.i2l, 1) := by decide +kernel
theorem dX6_member_125 : decode cX6_member 125 = .ok (.lreturn, 1) := by decide +kernel
theorem dX6_heir_0 : decode cX6_heir 0 = .ok (.aload_n 0, 1) := by decide +kernel
theorem dX6_heir_1 : decode cX6_heir 1 = .ok (.iload_n 1, 1) := by decide +kernel
theorem dX6_heir_2 : decode cX6_heir 2 = .ok (.invokevirtual 66, 3) := by decide +kernel
theorem dX6_heir_5 : decode cX6_heir 5 = .ok (.ifCond .eq 21, 3) := by decide +kernel
theorem dX6_heir_8 : decode cX6_heir 8 = .ok (.iload_n 2, 1) := by decide +kernel
theorem dX6_heir_9 : decode cX6_heir 9 = .ok (.iconst (-1), 1) := by decide +kernel
theorem dX6_heir_10 : decode cX6_heir 10 = .ok (.if_icmp .eq 20, 3) := by decide +kernel
theorem dX6_heir_13 : decode cX6_heir 13 = .ok (.aload_n 0, 1) := by decide +kernel
theorem dX6_heir_14 : decode cX6_heir 14 = .ok (.iload_n 2, 1) := by decide +kernel
theorem dX6_heir_15 : decode cX6_heir 15 = .ok (.invokevirtual 66, 3) := by decide +kernel
theorem dX6_heir_18 : decode cX6_heir 18 = .ok (.ifCond .eq 8, 3) := by decide +kernel
theorem dX6_heir_21 : decode cX6_heir 21 = .ok (.iload_n 2, 1) := by decide +kernel
theorem dX6_heir_22 : decode cX6_heir 22 = .ok (.iload_n 1, 1) := by decide +kernel
theorem dX6_heir_23 : decode cX6_heir 23 = .ok (.if_icmp .ne 7, 3) := by decide +kernel
theorem dX6_heir_26 : decode cX6_heir 26 = .ok (.ldc2_w 41, 3) := by decide +kernel
theorem dX6_heir_29 : decode cX6_heir 29 = .ok (.lreturn, 1) := by decide +kernel
theorem dX6_heir_30 : decode cX6_heir 30 = .ok (.aload_n 0, 1) := by decide +kernel
theorem dX6_heir_31 : decode cX6_heir 31 = .ok (.getfield 7, 3) := by decide +kernel
theorem dX6_heir_34 : decode cX6_heir 34 = .ok (.iload_n 1, 1) := by decide +kernel
theorem dX6_heir_35 : decode cX6_heir 35 = .ok (.iconst 3, 1) := by decide +kernel
theorem dX6_heir_36 : decode cX6_heir 36 = .ok (.invokestatic 63, 3) := by decide +kernel
theorem dX6_heir_39 : decode cX6_heir 39 = .ok (.laload, 1) := by decide +kernel
theorem dX6_heir_40 : decode cX6_heir 40 = .ok (.lstore_n 3, 1) := by decide +kernel
theorem dX6_heir_41 : decode cX6_heir 41 = .ok (.aload_n 0, 1) := by decide +kernel
theorem dX6_heir_42 : decode cX6_heir 42 = .ok (.getfield 7, 3) := by decide +kernel
theorem dX6_heir_45 : decode cX6_heir 45 = .ok (.iload_n 1, 1) := by decide +kernel
theorem dX6_heir_46 : decode cX6_heir 46 = .ok (.iconst 3, 1) := by decide +kernel
theorem dX6_heir_47 : decode cX6_heir 47 = .ok (.invokestatic 63, 3) := by decide +kernel
theorem dX6_heir_50 : decode cX6_heir 50 = .ok (.iload_n 2, 1) := by decide +kernel
theorem dX6_heir_51 : decode cX6_heir 51 = .ok (.i2l, 1) := by decide +kernel
theorem dX6_heir_52 : decode cX6_heir 52 = .ok (.lastore, 1) := by decide +kernel
theorem dX6_heir_53 : decode cX6_heir 53 = .ok (.lload_n 3, 1) := by decide +kernel
theorem dX6_heir_54 : decode cX6_heir 54 = .ok (.lreturn, 1) := by decide +kernel
theorem dX6_group_0 : decode cX6_group 0 = .ok (.iload_n 1, 1) := by decide +kernel
theorem dX6_group_1 : decode cX6_group 1 = .ok (.i2l, 1) := by decide +kernel
theorem dX6_group_2 : decode cX6_group 2 = .ok (.lconst 0, 1) := by decide +kernel
theorem dX6_group_3 : decode cX6_group 3 = .ok (.ldc2_w 39, 3) := by decide +kernel
theorem dX6_group_6 : decode cX6_group 6 = .ok (.invokestatic 35, 3) := by decide +kernel
theorem dX6_group_9 : decode cX6_group 9 = .ok (.ifCond .eq 47, 3) := by decide +kernel
theorem dX6_group_12 : decode cX6_group 12 = .ok (.iload_n 2, 1) := by decide +kernel
theorem dX6_group_13 : decode cX6_group 13 = .ok (.i2l, 1) := by decide +kernel
theorem dX6_group_14 : decode cX6_group 14 = .ok (.lconst 0, 1) := by decide +kernel
theorem dX6_group_15 : decode cX6_group 15 = .ok (.ldc2_w 39, 3) := by decide +kernel
theorem dX6_group_18 : decode cX6_group 18 = .ok (.invokestatic 35, 3) := by decide +kernel
theorem dX6_group_21 : decode cX6_group 21 = .ok (.ifCond .eq 35, 3) := by decide +kernel
theorem dX6_group_24 : decode cX6_group 24 = .ok (.iload_n 1, 1) := by decide +kernel
theorem dX6_group_25 : decode cX6_group 25 = .ok (.iload_n 2, 1) := by decide +kernel
theorem dX6_group_26 : decode cX6_group 26 = .ok (.if_icmp .gt 30, 3) := by decide +kernel
theorem dX6_group_29 : decode cX6_group 29 = .ok (.iload_n 3, 1) := by decide +kernel
theorem dX6_group_30 : decode cX6_group 30 = .ok (.i2l, 1) := by decide +kernel
theorem dX6_group_31 : decode cX6_group 31 = .ok (.lconst 1, 1) := by decide +kernel
theorem dX6_group_32 : decode cX6_group 32 = .ok (.ldc2_w 69, 3) := by decide +kernel
theorem dX6_group_35 : decode cX6_group 35 = .ok (.invokestatic 35, 3) := by decide +kernel
theorem dX6_group_38 : decode cX6_group 38 = .ok (.ifCond .eq 18, 3) := by decide +kernel
theorem dX6_group_41 : decode cX6_group 41 = .ok (.aload_n 0, 1) := by decide +kernel
theorem dX6_group_42 : decode cX6_group 42 = .ok (.getfield 7, 3) := by decide +kernel
theorem dX6_group_45 : decode cX6_group 45 = .ok (.sipush 5669, 3) := by decide +kernel
theorem dX6_group_48 : decode cX6_group 48 = .ok (.laload, 1) := by decide +kernel
theorem dX6_group_49 : decode cX6_group 49 = .ok (.ldc2_w 71, 3) := by decide +kernel
theorem dX6_group_52 : decode cX6_group 52 = .ok (.lcmp, 1) := by decide +kernel
theorem dX6_group_53 : decode cX6_group 53 = .ok (.ifCond .ne 7, 3) := by decide +kernel
theorem dX6_group_56 : decode cX6_group 56 = .ok (.ldc2_w 41, 3) := by decide +kernel
theorem dX6_group_59 : decode cX6_group 59 = .ok (.lreturn, 1) := by decide +kernel
theorem dX6_group_60 : decode cX6_group 60 = .ok (.aload_n 0, 1) := by decide +kernel
theorem dX6_group_61 : decode cX6_group 61 = .ok (.getfield 7, 3) := by decide +kernel
theorem dX6_group_64 : decode cX6_group 64 = .ok (.sipush 5669, 3) := by decide +kernel
theorem dX6_group_67 : decode cX6_group 67 = .ok (.laload, 1) := by decide +kernel
theorem dX6_group_68 : decode cX6_group 68 = .ok (.l2i, 1) := by decide +kernel
theorem dX6_group_69 : decode cX6_group 69 = .ok (.istore 4, 2) := by decide +kernel
theorem dX6_group_71 : decode cX6_group 71 = .ok (.aload_n 0, 1) := by decide +kernel
theorem dX6_group_72 : decode cX6_group 72 = .ok (.getfield 7, 3) := by decide +kernel
theorem dX6_group_75 : decode cX6_group 75 = .ok (.iload 4, 2) := by decide +kernel
theorem dX6_group_77 : decode cX6_group 77 = .ok (.iconst 0, 1) := by decide +kernel
theorem dX6_group_78 : decode cX6_group 78 = .ok (.invokestatic 55, 3) := by decide +kernel
theorem dX6_group_81 : decode cX6_group 81 = .ok (.iload_n 1, 1) := by decide +kernel
theorem dX6_group_82 : decode cX6_group 82 = .ok (.i2l, 1) := by decide +kernel
theorem dX6_group_83 : decode cX6_group 83 = .ok (.lastore, 1) := by decide +kernel
theorem dX6_group_84 : decode cX6_group 84 = .ok (.aload_n 0, 1) := by decide +kernel
theorem dX6_group_85 : decode cX6_group 85 = .ok (.getfield 7, 3) := by decide +kernel
theorem dX6_group_88 : decode cX6_group 88 = .ok (.iload 4, 2) := by decide +kernel
theorem dX6_group_90 : decode cX6_group 90 = .ok (.iconst 1, 1) := by decide +kernel
theorem dX6_group_91 : decode cX6_group 91 = .ok (.invokestatic 55, 3) := by decide +kernel
theorem dX6_group_94 : decode cX6_group 94 = .ok (.iload_n 2, 1) := by decide +kernel
theorem dX6_group_95 : decode cX6_group 95 = .ok (.i2l, 1) := by decide +kernel
theorem dX6_group_96 : decode cX6_group 96 = .ok (.lastore, 1) := by decide +kernel
theorem dX6_group_97 : decode cX6_group 97 = .ok (.aload_n 0, 1) := by decide +kernel
theorem dX6_group_98 : decode cX6_group 98 = .ok (.getfield 7, 3) := by decide +kernel
theorem dX6_group_101 : decode cX6_group 101 = .ok (.iload 4, 2) := by decide +kernel
theorem dX6_group_103 : decode cX6_group 103 = .ok (.iconst 2, 1) := by decide +kernel
theorem dX6_group_104 : decode cX6_group 104 = .ok (.invokestatic 55, 3) := by decide +kernel
theorem dX6_group_107 : decode cX6_group 107 = .ok (.iload_n 3, 1) := by decide +kernel
theorem dX6_group_108 : decode cX6_group 108 = .ok (.i2l, 1) := by decide +kernel
theorem dX6_group_109 : decode cX6_group 109 = .ok (.lastore, 1) := by decide +kernel
theorem dX6_group_110 : decode cX6_group 110 = .ok (.aload_n 0, 1) := by decide +kernel
theorem dX6_group_111 : decode cX6_group 111 = .ok (.getfield 7, 3) := by decide +kernel
theorem dX6_group_114 : decode cX6_group 114 = .ok (.iload 4, 2) := by decide +kernel
theorem dX6_group_116 : decode cX6_group 116 = .ok (.iconst 3, 1) := by decide +kernel
theorem dX6_group_117 : decode cX6_group 117 = .ok (.invokestatic 55, 3) := by decide +kernel
theorem dX6_group_120 : decode cX6_group 120 = .ok (.lconst 0, 1) := by decide +kernel
theorem dX6_group_121 : decode cX6_group 121 = .ok (.lastore, 1) := by decide +kernel
theorem dX6_group_122 : decode cX6_group 122 = .ok (.aload_n 0, 1) := by decide +kernel
theorem dX6_group_123 : decode cX6_group 123 = .ok (.getfield 7, 3) := by decide +kernel
theorem dX6_group_126 : decode cX6_group 126 = .ok (.sipush 5669, 3) := by decide +kernel
theorem dX6_group_129 : decode cX6_group 129 = .ok (.dup2, 1) := by decide +kernel
theorem dX6_group_130 : decode cX6_group 130 = .ok (.laload, 1) := by decide +kernel
theorem dX6_group_131 : decode cX6_group 131 = .ok (.lconst 1, 1) := by decide +kernel
theorem dX6_group_132 : decode cX6_group 132 = .ok (.ladd, 1) := by decide +kernel
theorem dX6_group_133 : decode cX6_group 133 = .ok (.lastore, 1) := by decide +kernel
theorem dX6_group_134 : decode cX6_group 134 = .ok (.iload 4, 2) := by decide +kernel
theorem dX6_group_136 : decode cX6_group 136 = .ok (.i2l, 1) := by decide +kernel
theorem dX6_group_137 : decode cX6_group 137 = .ok (.lreturn, 1) := by decide +kernel
theorem dX6_set_0 : decode cX6_set 0 = .ok (.iload_n 1, 1) := by decide +kernel
theorem dX6_set_1 : decode cX6_set 1 = .ok (.ifCond .ne 15, 3) := by decide +kernel
theorem dX6_set_4 : decode cX6_set 4 = .ok (.iload_n 2, 1) := by decide +kernel
theorem dX6_set_5 : decode cX6_set 5 = .ok (.i2l, 1) := by decide +kernel
theorem dX6_set_6 : decode cX6_set 6 = .ok (.lconst 1, 1) := by decide +kernel
theorem dX6_set_7 : decode cX6_set 7 = .ok (.ldc2_w 73, 3) := by decide +kernel
theorem dX6_set_10 : decode cX6_set 10 = .ok (.invokestatic 35, 3) := by decide +kernel
theorem dX6_set_13 : decode cX6_set 13 = .ok (.ifCond .ne 20, 3) := by decide +kernel
theorem dX6_set_16 : decode cX6_set 16 = .ok (.iload_n 1, 1) := by decide +kernel
theorem dX6_set_17 : decode cX6_set 17 = .ok (.iconst 1, 1) := by decide +kernel
theorem dX6_set_18 : decode cX6_set 18 = .ok (.if_icmp .ne 48, 3) := by decide +kernel
theorem dX6_set_21 : decode cX6_set 21 = .ok (.iload_n 2, 1) := by decide +kernel
theorem dX6_set_22 : decode cX6_set 22 = .ok (.i2l, 1) := by decide +kernel
theorem dX6_set_23 : decode cX6_set 23 = .ok (.lconst 0, 1) := by decide +kernel
theorem dX6_set_24 : decode cX6_set 24 = .ok (.ldc2_w 45, 3) := by decide +kernel
theorem dX6_set_27 : decode cX6_set 27 = .ok (.invokestatic 35, 3) := by decide +kernel
theorem dX6_set_30 : decode cX6_set 30 = .ok (.ifCond .eq 36, 3) := by decide +kernel
theorem dX6_set_33 : decode cX6_set 33 = .ok (.iload_n 1, 1) := by decide +kernel
theorem dX6_set_34 : decode cX6_set 34 = .ok (.ifCond .ne 9, 3) := by decide +kernel
theorem dX6_set_37 : decode cX6_set 37 = .ok (.sipush 5666, 3) := by decide +kernel
theorem dX6_set_40 : decode cX6_set 40 = .ok (.goto 6, 3) := by decide +kernel
theorem dX6_set_43 : decode cX6_set 43 = .ok (.sipush 5667, 3) := by decide +kernel
theorem dX6_set_46 : decode cX6_set 46 = .ok (.istore_n 3, 1) := by decide +kernel
theorem dX6_set_47 : decode cX6_set 47 = .ok (.aload_n 0, 1) := by decide +kernel
theorem dX6_set_48 : decode cX6_set 48 = .ok (.getfield 7, 3) := by decide +kernel
theorem dX6_set_51 : decode cX6_set 51 = .ok (.iload_n 3, 1) := by decide +kernel
theorem dX6_set_52 : decode cX6_set 52 = .ok (.laload, 1) := by decide +kernel
theorem dX6_set_53 : decode cX6_set 53 = .ok (.lstore 4, 2) := by decide +kernel
theorem dX6_set_55 : decode cX6_set 55 = .ok (.aload_n 0, 1) := by decide +kernel
theorem dX6_set_56 : decode cX6_set 56 = .ok (.getfield 7, 3) := by decide +kernel
theorem dX6_set_59 : decode cX6_set 59 = .ok (.iload_n 3, 1) := by decide +kernel
theorem dX6_set_60 : decode cX6_set 60 = .ok (.iload_n 2, 1) := by decide +kernel
theorem dX6_set_61 : decode cX6_set 61 = .ok (.i2l, 1) := by decide +kernel
theorem dX6_set_62 : decode cX6_set 62 = .ok (.lastore, 1) := by decide +kernel
theorem dX6_set_63 : decode cX6_set 63 = .ok (.lload 4, 2) := by decide +kernel
theorem dX6_set_65 : decode cX6_set 65 = .ok (.lreturn, 1) := by decide +kernel
theorem dX6_set_66 : decode cX6_set 66 = .ok (.ldc2_w 41, 3) := by decide +kernel
theorem dX6_set_69 : decode cX6_set 69 = .ok (.lreturn, 1) := by decide +kernel
theorem dX6_isDead_0 : decode cX6_isDead 0 = .ok (.aload_n 0, 1) := by decide +kernel
theorem dX6_isDead_1 : decode cX6_isDead 1 = .ok (.getfield 7, 3) := by decide +kernel
theorem dX6_isDead_4 : decode cX6_isDead 4 = .ok (.lload_n 1, 1) := by decide +kernel
theorem dX6_isDead_5 : decode cX6_isDead 5 = .ok (.l2i, 1) := by decide +kernel
theorem dX6_isDead_6 : decode cX6_isDead 6 = .ok (.iconst 5, 1) := by decide +kernel
theorem dX6_isDead_7 : decode cX6_isDead 7 = .ok (.invokestatic 63, 3) := by decide +kernel
theorem dX6_isDead_10 : decode cX6_isDead 10 = .ok (.laload, 1) := by decide +kernel
theorem dX6_isDead_11 : decode cX6_isDead 11 = .ok (.lconst 1, 1) := by decide +kernel
theorem dX6_isDead_12 : decode cX6_isDead 12 = .ok (.lcmp, 1) := by decide +kernel
theorem dX6_isDead_13 : decode cX6_isDead 13 = .ok (.ifCond .ne 7, 3) := by decide +kernel
theorem dX6_isDead_16 : decode cX6_isDead 16 = .ok (.iconst 1, 1) := by decide +kernel
theorem dX6_isDead_17 : decode cX6_isDead 17 = .ok (.goto 4, 3) := by decide +kernel
theorem dX6_isDead_20 : decode cX6_isDead 20 = .ok (.iconst 0, 1) := by decide +kernel
theorem dX6_isDead_21 : decode cX6_isDead 21 = .ok (.ireturn, 1) := by decide +kernel
theorem dX6_classFor_0 : decode cX6_classFor 0 = .ok (.iconst 0, 1) := by decide +kernel
theorem dX6_classFor_1 : decode cX6_classFor 1 = .ok (.istore_n 3, 1) := by decide +kernel
theorem dX6_classFor_2 : decode cX6_classFor 2 = .ok (.iload_n 3, 1) := by decide +kernel
theorem dX6_classFor_3 : decode cX6_classFor 3 = .ok (.i2l, 1) := by decide +kernel
theorem dX6_classFor_4 : decode cX6_classFor 4 = .ok (.aload_n 0, 1) := by decide +kernel
theorem dX6_classFor_5 : decode cX6_classFor 5 = .ok (.getfield 7, 3) := by decide +kernel
theorem dX6_classFor_8 : decode cX6_classFor 8 = .ok (.sipush 5669, 3) := by decide +kernel
theorem dX6_classFor_11 : decode cX6_classFor 11 = .ok (.laload, 1) := by decide +kernel
theorem dX6_classFor_12 : decode cX6_classFor 12 = .ok (.lcmp, 1) := by decide +kernel
theorem dX6_classFor_13 : decode cX6_classFor 13 = .ok (.ifCond .ge 38, 3) := by decide +kernel
theorem dX6_classFor_16 : decode cX6_classFor 16 = .ok (.lload_n 1, 1) := by decide +kernel
theorem dX6_classFor_17 : decode cX6_classFor 17 = .ok (.aload_n 0, 1) := by decide +kernel
theorem dX6_classFor_18 : decode cX6_classFor 18 = .ok (.getfield 7, 3) := by decide +kernel
theorem dX6_classFor_21 : decode cX6_classFor 21 = .ok (.iload_n 3, 1) := by decide +kernel
theorem dX6_classFor_22 : decode cX6_classFor 22 = .ok (.iconst 0, 1) := by decide +kernel
theorem dX6_classFor_23 : decode cX6_classFor 23 = .ok (.invokestatic 55, 3) := by decide +kernel
theorem dX6_classFor_26 : decode cX6_classFor 26 = .ok (.laload, 1) := by decide +kernel
theorem dX6_classFor_27 : decode cX6_classFor 27 = .ok (.aload_n 0, 1) := by decide +kernel
theorem dX6_classFor_28 : decode cX6_classFor 28 = .ok (.getfield 7, 3) := by decide +kernel
theorem dX6_classFor_31 : decode cX6_classFor 31 = .ok (.iload_n 3, 1) := by decide +kernel
theorem dX6_classFor_32 : decode cX6_classFor 32 = .ok (.iconst 1, 1) := by decide +kernel
theorem dX6_classFor_33 : decode cX6_classFor 33 = .ok (.invokestatic 55, 3) := by decide +kernel
theorem dX6_classFor_36 : decode cX6_classFor 36 = .ok (.laload, 1) := by decide +kernel
theorem dX6_classFor_37 : decode cX6_classFor 37 = .ok (.invokestatic 35, 3) := by decide +kernel
theorem dX6_classFor_40 : decode cX6_classFor 40 = .ok (.ifCond .eq 5, 3) := by decide +kernel
theorem dX6_classFor_43 : decode cX6_classFor 43 = .ok (.iload_n 3, 1) := by decide +kernel
theorem dX6_classFor_44 : decode cX6_classFor 44 = .ok (.ireturn, 1) := by decide +kernel
theorem dX6_classFor_45 : decode cX6_classFor 45 = .ok (.iinc 3 1, 3) := by decide +kernel
theorem dX6_classFor_48 : decode cX6_classFor 48 = .ok (.goto (-46), 3) := by decide +kernel
theorem dX6_classFor_51 : decode cX6_classFor 51 = .ok (.iconst (-1), 1) := by decide +kernel
theorem dX6_classFor_52 : decode cX6_classFor 52 = .ok (.ireturn, 1) := by decide +kernel
theorem dX6_buy_0 : decode cX6_buy 0 = .ok (.aload_n 0, 1) := by decide +kernel
theorem dX6_buy_1 : decode cX6_buy 1 = .ok (.iload_n 1, 1) := by decide +kernel
theorem dX6_buy_2 : decode cX6_buy 2 = .ok (.invokevirtual 66, 3) := by decide +kernel
theorem dX6_buy_5 : decode cX6_buy 5 = .ok (.ifCond .eq 46, 3) := by decide +kernel
theorem dX6_buy_8 : decode cX6_buy 8 = .ok (.aload_n 0, 1) := by decide +kernel
theorem dX6_buy_9 : decode cX6_buy 9 = .ok (.iload_n 2, 1) := by decide +kernel
theorem dX6_buy_10 : decode cX6_buy 10 = .ok (.invokevirtual 66, 3) := by decide +kernel
theorem dX6_buy_13 : decode cX6_buy 13 = .ok (.ifCond .eq 38, 3) := by decide +kernel
theorem dX6_buy_16 : decode cX6_buy 16 = .ok (.aload_n 0, 1) := by decide +kernel
theorem dX6_buy_17 : decode cX6_buy 17 = .ok (.iload_n 2, 1) := by decide +kernel
theorem dX6_buy_18 : decode cX6_buy 18 = .ok (.i2l, 1) := by decide +kernel
theorem dX6_buy_19 : decode cX6_buy 19 = .ok (.invokevirtual 75, 3) := by decide +kernel
theorem dX6_buy_22 : decode cX6_buy 22 = .ok (.ifCond .ne 29, 3) := by decide +kernel
theorem dX6_buy_25 : decode cX6_buy 25 = .ok (.iload 5, 2) := by decide +kernel
theorem dX6_buy_27 : decode cX6_buy 27 = .ok (.i2l, 1) := by decide +kernel
theorem dX6_buy_28 : decode cX6_buy 28 = .ok (.lconst 0, 1) := by decide +kernel
theorem dX6_buy_29 : decode cX6_buy 29 = .ok (.ldc2_w 79, 3) := by decide +kernel
theorem dX6_buy_32 : decode cX6_buy 32 = .ok (.invokestatic 35, 3) := by decide +kernel
theorem dX6_buy_35 : decode cX6_buy 35 = .ok (.ifCond .eq 16, 3) := by decide +kernel
theorem dX6_buy_38 : decode cX6_buy 38 = .ok (.iload 4, 2) := by decide +kernel
theorem dX6_buy_40 : decode cX6_buy 40 = .ok (.i2l, 1) := by decide +kernel
theorem dX6_buy_41 : decode cX6_buy 41 = .ok (.lconst 1, 1) := by decide +kernel
theorem dX6_buy_42 : decode cX6_buy 42 = .ok (.ldc2_w 45, 3) := by decide +kernel
theorem dX6_buy_45 : decode cX6_buy 45 = .ok (.invokestatic 35, 3) := by decide +kernel
theorem dX6_buy_48 : decode cX6_buy 48 = .ok (.ifCond .ne 7, 3) := by decide +kernel
theorem dX6_buy_51 : decode cX6_buy 51 = .ok (.ldc2_w 41, 3) := by decide +kernel
theorem dX6_buy_54 : decode cX6_buy 54 = .ok (.lreturn, 1) := by decide +kernel
theorem dX6_buy_55 : decode cX6_buy 55 = .ok (.iload 5, 2) := by decide +kernel
theorem dX6_buy_57 : decode cX6_buy 57 = .ok (.iconst 1, 1) := by decide +kernel
theorem dX6_buy_58 : decode cX6_buy 58 = .ok (.if_icmp .ne 25, 3) := by decide +kernel
theorem dX6_buy_61 : decode cX6_buy 61 = .ok (.aload_n 0, 1) := by decide +kernel
theorem dX6_buy_62 : decode cX6_buy 62 = .ok (.iload_n 3, 1) := by decide +kernel
theorem dX6_buy_63 : decode cX6_buy 63 = .ok (.invokevirtual 66, 3) := by decide +kernel
theorem dX6_buy_66 : decode cX6_buy 66 = .ok (.ifCond .eq 36, 3) := by decide +kernel
theorem dX6_buy_69 : decode cX6_buy 69 = .ok (.iload_n 3, 1) := by decide +kernel
theorem dX6_buy_70 : decode cX6_buy 70 = .ok (.iload_n 2, 1) := by decide +kernel
theorem dX6_buy_71 : decode cX6_buy 71 = .ok (.if_icmp .eq 31, 3) := by decide +kernel
theorem dX6_buy_74 : decode cX6_buy 74 = .ok (.aload_n 0, 1) := by decide +kernel
theorem dX6_buy_75 : decode cX6_buy 75 = .ok (.iload_n 3, 1) := by decide +kernel
theorem dX6_buy_76 : decode cX6_buy 76 = .ok (.i2l, 1) := by decide +kernel
theorem dX6_buy_77 : decode cX6_buy 77 = .ok (.invokevirtual 75, 3) := by decide +kernel
theorem dX6_buy_80 : decode cX6_buy 80 = .ok (.ifCond .ne 22, 3) := by decide +kernel
theorem dX6_buy_83 : decode cX6_buy 83 = .ok (.iload 5, 2) := by decide +kernel
theorem dX6_buy_85 : decode cX6_buy 85 = .ok (.iconst 1, 1) := by decide +kernel
theorem dX6_buy_86 : decode cX6_buy 86 = .ok (.if_icmp .le 20, 3) := by decide +kernel
theorem dX6_buy_89 : decode cX6_buy 89 = .ok (.iload 6, 2) := by decide +kernel
theorem dX6_buy_91 : decode cX6_buy 91 = .ok (.i2l, 1) := by decide +kernel
theorem dX6_buy_92 : decode cX6_buy 92 = .ok (.lconst 1, 1) := by decide +kernel
theorem dX6_buy_93 : decode cX6_buy 93 = .ok (.ldc2_w 81, 3) := by decide +kernel
theorem dX6_buy_96 : decode cX6_buy 96 = .ok (.invokestatic 35, 3) := by decide +kernel
theorem dX6_buy_99 : decode cX6_buy 99 = .ok (.ifCond .ne 7, 3) := by decide +kernel
theorem dX6_buy_102 : decode cX6_buy 102 = .ok (.ldc2_w 41, 3) := by decide +kernel
theorem dX6_buy_105 : decode cX6_buy 105 = .ok (.lreturn, 1) := by decide +kernel
theorem dX6_buy_106 : decode cX6_buy 106 = .ok (.aload_n 0, 1) := by decide +kernel
theorem dX6_buy_107 : decode cX6_buy 107 = .ok (.getfield 7, 3) := by decide +kernel
theorem dX6_buy_110 : decode cX6_buy 110 = .ok (.iload_n 2, 1) := by decide +kernel
theorem dX6_buy_111 : decode cX6_buy 111 = .ok (.iconst 0, 1) := by decide +kernel
theorem dX6_buy_112 : decode cX6_buy 112 = .ok (.invokestatic 63, 3) := by decide +kernel
theorem dX6_buy_115 : decode cX6_buy 115 = .ok (.laload, 1) := by decide +kernel
theorem dX6_buy_116 : decode cX6_buy 116 = .ok (.lstore 7, 2) := by decide +kernel
theorem dX6_buy_118 : decode cX6_buy 118 = .ok (.iload 5, 2) := by decide +kernel
theorem dX6_buy_120 : decode cX6_buy 120 = .ok (.iconst 1, 1) := by decide +kernel
theorem dX6_buy_121 : decode cX6_buy 121 = .ok (.if_icmp .ne 31, 3) := by decide +kernel
theorem dX6_buy_124 : decode cX6_buy 124 = .ok (.aload_n 0, 1) := by decide +kernel
theorem dX6_buy_125 : decode cX6_buy 125 = .ok (.getfield 7, 3) := by decide +kernel
theorem dX6_buy_128 : decode cX6_buy 128 = .ok (.iload_n 3, 1) := by decide +kernel
theorem dX6_buy_129 : decode cX6_buy 129 = .ok (.iconst 0, 1) := by decide +kernel
theorem dX6_buy_130 : decode cX6_buy 130 = .ok (.invokestatic 63, 3) := by decide +kernel
theorem dX6_buy_133 : decode cX6_buy 133 = .ok (.laload, 1) := by decide +kernel
theorem dX6_buy_134 : decode cX6_buy 134 = .ok (.lload 7, 2) := by decide +kernel
theorem dX6_buy_136 : decode cX6_buy 136 = .ok (.lcmp, 1) := by decide +kernel
theorem dX6_buy_137 : decode cX6_buy 137 = .ok (.ifCond .le 15, 3) := by decide +kernel
theorem dX6_buy_140 : decode cX6_buy 140 = .ok (.aload_n 0, 1) := by decide +kernel
theorem dX6_buy_141 : decode cX6_buy 141 = .ok (.getfield 7, 3) := by decide +kernel
theorem dX6_buy_144 : decode cX6_buy 144 = .ok (.iload_n 3, 1) := by decide +kernel
theorem dX6_buy_145 : decode cX6_buy 145 = .ok (.iconst 0, 1) := by decide +kernel
theorem dX6_buy_146 : decode cX6_buy 146 = .ok (.invokestatic 63, 3) := by decide +kernel
theorem dX6_buy_149 : decode cX6_buy 149 = .ok (.laload, 1) := by decide +kernel
theorem dX6_buy_150 : decode cX6_buy 150 = .ok (.lstore 7, 2) := by decide +kernel
theorem dX6_buy_152 : decode cX6_buy 152 = .ok (.aload_n 0, 1) := by decide +kernel
theorem dX6_buy_153 : decode cX6_buy 153 = .ok (.aload_n 0, 1) := by decide +kernel
theorem dX6_buy_154 : decode cX6_buy 154 = .ok (.getfield 7, 3) := by decide +kernel
theorem dX6_buy_157 : decode cX6_buy 157 = .ok (.sipush 5663, 3) := by decide +kernel
theorem dX6_buy_160 : decode cX6_buy 160 = .ok (.laload, 1) := by decide +kernel
theorem dX6_buy_161 : decode cX6_buy 161 = .ok (.lload 7, 2) := by decide +kernel
theorem dX6_buy_163 : decode cX6_buy 163 = .ok (.lsub, 1) := by decide +kernel
theorem dX6_buy_164 : decode cX6_buy 164 = .ok (.invokevirtual 83, 3) := by decide +kernel
theorem dX6_buy_167 : decode cX6_buy 167 = .ok (.istore 9, 2) := by decide +kernel
theorem dX6_buy_169 : decode cX6_buy 169 = .ok (.iload 9, 2) := by decide +kernel
theorem dX6_buy_171 : decode cX6_buy 171 = .ok (.ifCond .lt 18, 3) := by decide +kernel
theorem dX6_buy_174 : decode cX6_buy 174 = .ok (.aload_n 0, 1) := by decide +kernel
theorem dX6_buy_175 : decode cX6_buy 175 = .ok (.getfield 7, 3) := by decide +kernel
theorem dX6_buy_178 : decode cX6_buy 178 = .ok (.sipush 5670, 3) := by decide +kernel
theorem dX6_buy_181 : decode cX6_buy 181 = .ok (.laload, 1) := by decide +kernel
theorem dX6_buy_182 : decode cX6_buy 182 = .ok (.ldc2_w 87, 3) := by decide +kernel
theorem dX6_buy_185 : decode cX6_buy 185 = .ok (.lcmp, 1) := by decide +kernel
theorem dX6_buy_186 : decode cX6_buy 186 = .ok (.ifCond .ne 7, 3) := by decide +kernel
theorem dX6_buy_189 : decode cX6_buy 189 = .ok (.ldc2_w 41, 3) := by decide +kernel
theorem dX6_buy_192 : decode cX6_buy 192 = .ok (.lreturn, 1) := by decide +kernel
theorem dX6_buy_193 : decode cX6_buy 193 = .ok (.aload_n 0, 1) := by decide +kernel
theorem dX6_buy_194 : decode cX6_buy 194 = .ok (.getfield 7, 3) := by decide +kernel
theorem dX6_buy_197 : decode cX6_buy 197 = .ok (.sipush 5670, 3) := by decide +kernel
theorem dX6_buy_200 : decode cX6_buy 200 = .ok (.laload, 1) := by decide +kernel
theorem dX6_buy_201 : decode cX6_buy 201 = .ok (.l2i, 1) := by decide +kernel
theorem dX6_buy_202 : decode cX6_buy 202 = .ok (.istore 10, 2) := by decide +kernel
theorem dX6_buy_204 : decode cX6_buy 204 = .ok (.iconst 0, 1) := by decide +kernel
theorem dX6_buy_205 : decode cX6_buy 205 = .ok (.istore 11, 2) := by decide +kernel
theorem dX6_buy_207 : decode cX6_buy 207 = .ok (.iload 11, 2) := by decide +kernel
theorem dX6_buy_209 : decode cX6_buy 209 = .ok (.bipush 14, 2) := by decide +kernel
theorem dX6_buy_211 : decode cX6_buy 211 = .ok (.if_icmp .ge 22, 3) := by decide +kernel
theorem dX6_buy_214 : decode cX6_buy 214 = .ok (.aload_n 0, 1) := by decide +kernel
theorem dX6_buy_215 : decode cX6_buy 215 = .ok (.getfield 7, 3) := by decide +kernel
theorem dX6_buy_218 : decode cX6_buy 218 = .ok (.iload 10, 2) := by decide +kernel
theorem dX6_buy_220 : decode cX6_buy 220 = .ok (.iload 11, 2) := by decide +kernel
theorem dX6_buy_222 : decode cX6_buy 222 = .ok (.invokestatic 89, 3) := by decide +kernel
theorem dX6_buy_225 : decode cX6_buy 225 = .ok (.lconst 0, 1) := by decide +kernel
theorem dX6_buy_226 : decode cX6_buy 226 = .ok (.lastore, 1) := by decide +kernel
theorem dX6_buy_227 : decode cX6_buy 227 = .ok (.iinc 11 1, 3) := by decide +kernel
theorem dX6_buy_230 : decode cX6_buy 230 = .ok (.goto (-23), 3) := by decide +kernel
theorem dX6_buy_233 : decode cX6_buy 233 = .ok (.iconst 0, 1) := by decide +kernel
theorem dX6_buy_234 : decode cX6_buy 234 = .ok (.istore 11, 2) := by decide +kernel
theorem dX6_buy_236 : decode cX6_buy 236 = .ok (.iload 11, 2) := by decide +kernel
theorem dX6_buy_238 : decode cX6_buy 238 = .ok (.bipush 60, 2) := by decide +kernel
theorem dX6_buy_240 : decode cX6_buy 240 = .ok (.if_icmp .ge 45, 3) := by decide +kernel
theorem dX6_buy_243 : decode cX6_buy 243 = .ok (.aload_n 0, 1) := by decide +kernel
theorem dX6_buy_244 : decode cX6_buy 244 = .ok (.getfield 7, 3) := by decide +kernel
theorem dX6_buy_247 : decode cX6_buy 247 = .ok (.sipush 863, 3) := by decide +kernel
theorem dX6_buy_250 : decode cX6_buy 250 = .ok (.bipush 60, 2) := by decide +kernel
theorem dX6_buy_252 : decode cX6_buy 252 = .ok (.iload 10, 2) := by decide +kernel
theorem dX6_buy_254 : decode cX6_buy 254 = .ok (.imul, 1) := by decide +kernel
theorem dX6_buy_255 : decode cX6_buy 255 = .ok (.iadd, 1) := by decide +kernel
theorem dX6_buy_256 : decode cX6_buy 256 = .ok (.iload 11, 2) := by decide +kernel
theorem dX6_buy_258 : decode cX6_buy 258 = .ok (.iadd, 1) := by decide +kernel
theorem dX6_buy_259 : decode cX6_buy 259 = .ok (.lconst 0, 1) := by decide +kernel
theorem dX6_buy_260 : decode cX6_buy 260 = .ok (.lastore, 1) := by decide +kernel
theorem dX6_buy_261 : decode cX6_buy 261 = .ok (.aload_n 0, 1) := by decide +kernel
theorem dX6_buy_262 : decode cX6_buy 262 = .ok (.getfield 7, 3) := by decide +kernel
theorem dX6_buy_265 : decode cX6_buy 265 = .ok (.sipush 3263, 3) := by decide +kernel
theorem dX6_buy_268 : decode cX6_buy 268 = .ok (.bipush 60, 2) := by decide +kernel
theorem dX6_buy_270 : decode cX6_buy 270 = .ok (.iload 10, 2) := by decide +kernel
theorem dX6_buy_272 : decode cX6_buy 272 = .ok (.imul, 1) := by decide +kernel
theorem dX6_buy_273 : decode cX6_buy 273 = .ok (.iadd, 1) := by decide +kernel
theorem dX6_buy_274 : decode cX6_buy 274 = .ok (.iload 11, 2) := by decide +kernel
theorem dX6_buy_276 : decode cX6_buy 276 = .ok (.iadd, 1) := by decide +kernel
theorem dX6_buy_277 : decode cX6_buy 277 = .ok (.lconst 0, 1) := by decide +kernel
theorem dX6_buy_278 : decode cX6_buy 278 = .ok (.lastore, 1) := by decide +kernel
theorem dX6_buy_279 : decode cX6_buy 279 = .ok (.iinc 11 1, 3) := by decide +kernel
theorem dX6_buy_282 : decode cX6_buy 282 = .ok (.goto (-46), 3) := by decide +kernel
theorem dX6_buy_285 : decode cX6_buy 285 = .ok (.iload 4, 2) := by decide +kernel
theorem dX6_buy_287 : decode cX6_buy 287 = .ok (.i2l, 1) := by decide +kernel
theorem dX6_buy_288 : decode cX6_buy 288 = .ok (.aload_n 0, 1) := by decide +kernel
theorem dX6_buy_289 : decode cX6_buy 289 = .ok (.getfield 7, 3) := by decide +kernel
theorem dX6_buy_292 : decode cX6_buy 292 = .ok (.iload 9, 2) := by decide +kernel
theorem dX6_buy_294 : decode cX6_buy 294 = .ok (.iconst 2, 1) := by decide +kernel
theorem dX6_buy_295 : decode cX6_buy 295 = .ok (.invokestatic 55, 3) := by decide +kernel
theorem dX6_buy_298 : decode cX6_buy 298 = .ok (.laload, 1) := by decide +kernel
theorem dX6_buy_299 : decode cX6_buy 299 = .ok (.lmul, 1) := by decide +kernel
theorem dX6_buy_300 : decode cX6_buy 300 = .ok (.lstore 11, 2) := by decide +kernel
theorem dX6_buy_302 : decode cX6_buy 302 = .ok (.aload_n 0, 1) := by decide +kernel
theorem dX6_buy_303 : decode cX6_buy 303 = .ok (.getfield 7, 3) := by decide +kernel
theorem dX6_buy_306 : decode cX6_buy 306 = .ok (.iload 10, 2) := by decide +kernel
theorem dX6_buy_308 : decode cX6_buy 308 = .ok (.iconst 0, 1) := by decide +kernel
theorem dX6_buy_309 : decode cX6_buy 309 = .ok (.invokestatic 89, 3) := by decide +kernel
theorem dX6_buy_312 : decode cX6_buy 312 = .ok (.iload_n 1, 1) := by decide +kernel
theorem dX6_buy_313 : decode cX6_buy 313 = .ok (.i2l, 1) := by decide +kernel
theorem dX6_buy_314 : decode cX6_buy 314 = .ok (.lastore, 1) := by decide +kernel
theorem dX6_buy_315 : decode cX6_buy 315 = .ok (.aload_n 0, 1) := by decide +kernel
theorem dX6_buy_316 : decode cX6_buy 316 = .ok (.getfield 7, 3) := by decide +kernel
theorem dX6_buy_319 : decode cX6_buy 319 = .ok (.iload 10, 2) := by decide +kernel
theorem dX6_buy_321 : decode cX6_buy 321 = .ok (.iconst 1, 1) := by decide +kernel
theorem dX6_buy_322 : decode cX6_buy 322 = .ok (.invokestatic 89, 3) := by decide +kernel
theorem dX6_buy_325 : decode cX6_buy 325 = .ok (.iload_n 2, 1) := by decide +kernel
theorem dX6_buy_326 : decode cX6_buy 326 = .ok (.i2l, 1) := by decide +kernel
theorem dX6_buy_327 : decode cX6_buy 327 = .ok (.lastore, 1) := by decide +kernel
theorem dX6_buy_328 : decode cX6_buy 328 = .ok (.aload_n 0, 1) := by decide +kernel
theorem dX6_buy_329 : decode cX6_buy 329 = .ok (.getfield 7, 3) := by decide +kernel
theorem dX6_buy_332 : decode cX6_buy 332 = .ok (.iload 10, 2) := by decide +kernel
theorem dX6_buy_334 : decode cX6_buy 334 = .ok (.iconst 2, 1) := by decide +kernel
theorem dX6_buy_335 : decode cX6_buy 335 = .ok (.invokestatic 89, 3) := by decide +kernel
theorem dX6_buy_338 : decode cX6_buy 338 = .ok (.iload 5, 2) := by decide +kernel
theorem dX6_buy_340 : decode cX6_buy 340 = .ok (.iconst 1, 1) := by decide +kernel
theorem dX6_buy_341 : decode cX6_buy 341 = .ok (.if_icmp .ne 8, 3) := by decide +kernel
theorem dX6_buy_344 : decode cX6_buy 344 = .ok (.iload_n 3, 1) := by decide +kernel
theorem dX6_buy_345 : decode cX6_buy 345 = .ok (.i2l, 1) := by decide +kernel
theorem dX6_buy_346 : decode cX6_buy 346 = .ok (.goto 6, 3) := by decide +kernel
theorem dX6_buy_349 : decode cX6_buy 349 = .ok (.ldc2_w 59, 3) := by decide +kernel
theorem dX6_buy_352 : decode cX6_buy 352 = .ok (.lastore, 1) := by decide +kernel
theorem dX6_buy_353 : decode cX6_buy 353 = .ok (.aload_n 0, 1) := by decide +kernel
theorem dX6_buy_354 : decode cX6_buy 354 = .ok (.getfield 7, 3) := by decide +kernel
theorem dX6_buy_357 : decode cX6_buy 357 = .ok (.iload 10, 2) := by decide +kernel
theorem dX6_buy_359 : decode cX6_buy 359 = .ok (.iconst 3, 1) := by decide +kernel
theorem dX6_buy_360 : decode cX6_buy 360 = .ok (.invokestatic 89, 3) := by decide +kernel
theorem dX6_buy_363 : decode cX6_buy 363 = .ok (.iload 4, 2) := by decide +kernel
theorem dX6_buy_365 : decode cX6_buy 365 = .ok (.i2l, 1) := by decide +kernel
theorem dX6_buy_366 : decode cX6_buy 366 = .ok (.lastore, 1) := by decide +kernel
theorem dX6_buy_367 : decode cX6_buy 367 = .ok (.aload_n 0, 1) := by decide +kernel
theorem dX6_buy_368 : decode cX6_buy 368 = .ok (.getfield 7, 3) := by decide +kernel
theorem dX6_buy_371 : decode cX6_buy 371 = .ok (.iload 10, 2) := by decide +kernel
theorem dX6_buy_373 : decode cX6_buy 373 = .ok (.iconst 4, 1) := by decide +kernel
theorem dX6_buy_374 : decode cX6_buy 374 = .ok (.invokestatic 89, 3) := by decide +kernel
theorem dX6_buy_377 : decode cX6_buy 377 = .ok (.iload 9, 2) := by decide +kernel
theorem dX6_buy_379 : decode cX6_buy 379 = .ok (.i2l, 1) := by decide +kernel
theorem dX6_buy_380 : decode cX6_buy 380 = .ok (.lastore, 1) := by decide +kernel
theorem dX6_buy_381 : decode cX6_buy 381 = .ok (.aload_n 0, 1) := by decide +kernel
theorem dX6_buy_382 : decode cX6_buy 382 = .ok (.getfield 7, 3) := by decide +kernel
theorem dX6_buy_385 : decode cX6_buy 385 = .ok (.iload 10, 2) := by decide +kernel
theorem dX6_buy_387 : decode cX6_buy 387 = .ok (.iconst 5, 1) := by decide +kernel
theorem dX6_buy_388 : decode cX6_buy 388 = .ok (.invokestatic 89, 3) := by decide +kernel
theorem dX6_buy_391 : decode cX6_buy 391 = .ok (.iload 5, 2) := by decide +kernel
theorem dX6_buy_393 : decode cX6_buy 393 = .ok (.i2l, 1) := by decide +kernel
theorem dX6_buy_394 : decode cX6_buy 394 = .ok (.lastore, 1) := by decide +kernel
theorem dX6_buy_395 : decode cX6_buy 395 = .ok (.aload_n 0, 1) := by decide +kernel
theorem dX6_buy_396 : decode cX6_buy 396 = .ok (.getfield 7, 3) := by decide +kernel
theorem dX6_buy_399 : decode cX6_buy 399 = .ok (.iload 10, 2) := by decide +kernel
theorem dX6_buy_401 : decode cX6_buy 401 = .ok (.bipush 6, 2) := by decide +kernel
theorem dX6_buy_403 : decode cX6_buy 403 = .ok (.invokestatic 89, 3) := by decide +kernel
theorem dX6_buy_406 : decode cX6_buy 406 = .ok (.lload 11, 2) := by decide +kernel
theorem dX6_buy_408 : decode cX6_buy 408 = .ok (.lastore, 1) := by decide +kernel
theorem dX6_buy_409 : decode cX6_buy 409 = .ok (.aload_n 0, 1) := by decide +kernel
theorem dX6_buy_410 : decode cX6_buy 410 = .ok (.getfield 7, 3) := by decide +kernel
theorem dX6_buy_413 : decode cX6_buy 413 = .ok (.iload 10, 2) := by decide +kernel
theorem dX6_buy_415 : decode cX6_buy 415 = .ok (.bipush 8, 2) := by decide +kernel
theorem dX6_buy_417 : decode cX6_buy 417 = .ok (.invokestatic 89, 3) := by decide +kernel
theorem dX6_buy_420 : decode cX6_buy 420 = .ok (.aload_n 0, 1) := by decide +kernel
theorem dX6_buy_421 : decode cX6_buy 421 = .ok (.getfield 7, 3) := by decide +kernel
theorem dX6_buy_424 : decode cX6_buy 424 = .ok (.sipush 5663, 3) := by decide +kernel
theorem dX6_buy_427 : decode cX6_buy 427 = .ok (.laload, 1) := by decide +kernel
theorem dX6_buy_428 : decode cX6_buy 428 = .ok (.lastore, 1) := by decide +kernel
theorem dX6_buy_429 : decode cX6_buy 429 = .ok (.aload_n 0, 1) := by decide +kernel
theorem dX6_buy_430 : decode cX6_buy 430 = .ok (.getfield 7, 3) := by decide +kernel
theorem dX6_buy_433 : decode cX6_buy 433 = .ok (.iload 10, 2) := by decide +kernel
theorem dX6_buy_435 : decode cX6_buy 435 = .ok (.bipush 9, 2) := by decide +kernel
theorem dX6_buy_437 : decode cX6_buy 437 = .ok (.invokestatic 89, 3) := by decide +kernel
theorem dX6_buy_440 : decode cX6_buy 440 = .ok (.iload 5, 2) := by decide +kernel
theorem dX6_buy_442 : decode cX6_buy 442 = .ok (.iconst 1, 1) := by decide +kernel
theorem dX6_buy_443 : decode cX6_buy 443 = .ok (.if_icmp .le 9, 3) := by decide +kernel
theorem dX6_buy_446 : decode cX6_buy 446 = .ok (.iload 6, 2) := by decide +kernel
theorem dX6_buy_448 : decode cX6_buy 448 = .ok (.i2l, 1) := by decide +kernel
theorem dX6_buy_449 : decode cX6_buy 449 = .ok (.goto 4, 3) := by decide +kernel
theorem dX6_buy_452 : decode cX6_buy 452 = .ok (.lconst 0, 1) := by decide +kernel
theorem dX6_buy_453 : decode cX6_buy 453 = .ok (.lastore, 1) := by decide +kernel
theorem dX6_buy_454 : decode cX6_buy 454 = .ok (.aload_n 0, 1) := by decide +kernel
theorem dX6_buy_455 : decode cX6_buy 455 = .ok (.getfield 7, 3) := by decide +kernel
theorem dX6_buy_458 : decode cX6_buy 458 = .ok (.iload 9, 2) := by decide +kernel
theorem dX6_buy_460 : decode cX6_buy 460 = .ok (.iconst 3, 1) := by decide +kernel
theorem dX6_buy_461 : decode cX6_buy 461 = .ok (.invokestatic 55, 3) := by decide +kernel
theorem dX6_buy_464 : decode cX6_buy 464 = .ok (.dup2, 1) := by decide +kernel
theorem dX6_buy_465 : decode cX6_buy 465 = .ok (.laload, 1) := by decide +kernel
theorem dX6_buy_466 : decode cX6_buy 466 = .ok (.lload 11, 2) := by decide +kernel
theorem dX6_buy_468 : decode cX6_buy 468 = .ok (.ladd, 1) := by decide +kernel
theorem dX6_buy_469 : decode cX6_buy 469 = .ok (.lastore, 1) := by decide +kernel
theorem dX6_buy_470 : decode cX6_buy 470 = .ok (.aload_n 0, 1) := by decide +kernel
theorem dX6_buy_471 : decode cX6_buy 471 = .ok (.getfield 7, 3) := by decide +kernel
theorem dX6_buy_474 : decode cX6_buy 474 = .ok (.sipush 5671, 3) := by decide +kernel
theorem dX6_buy_477 : decode cX6_buy 477 = .ok (.dup2, 1) := by decide +kernel
theorem dX6_buy_478 : decode cX6_buy 478 = .ok (.laload, 1) := by decide +kernel
theorem dX6_buy_479 : decode cX6_buy 479 = .ok (.lload 11, 2) := by decide +kernel
theorem dX6_buy_481 : decode cX6_buy 481 = .ok (.ladd, 1) := by decide +kernel
theorem dX6_buy_482 : decode cX6_buy 482 = .ok (.lastore, 1) := by decide +kernel
theorem dX6_buy_483 : decode cX6_buy 483 = .ok (.aload_n 0, 1) := by decide +kernel
theorem dX6_buy_484 : decode cX6_buy 484 = .ok (.getfield 7, 3) := by decide +kernel
theorem dX6_buy_487 : decode cX6_buy 487 = .ok (.sipush 5670, 3) := by decide +kernel
theorem dX6_buy_490 : decode cX6_buy 490 = .ok (.dup2, 1) := by decide +kernel
theorem dX6_buy_491 : decode cX6_buy 491 = .ok (.laload, 1) := by decide +kernel
theorem dX6_buy_492 : decode cX6_buy 492 = .ok (.lconst 1, 1) := by decide +kernel
theorem dX6_buy_493 : decode cX6_buy 493 = .ok (.ladd, 1) := by decide +kernel
theorem dX6_buy_494 : decode cX6_buy 494 = .ok (.lastore, 1) := by decide +kernel
theorem dX6_buy_495 : decode cX6_buy 495 = .ok (.iload 10, 2) := by decide +kernel
theorem dX6_buy_497 : decode cX6_buy 497 = .ok (.i2l, 1) := by decide +kernel
theorem dX6_buy_498 : decode cX6_buy 498 = .ok (.lreturn, 1) := by decide +kernel
theorem dX6_sell_0 : decode cX6_sell 0 = .ok (.aload_n 0, 1) := by decide +kernel
theorem dX6_sell_1 : decode cX6_sell 1 = .ok (.iload_n 1, 1) := by decide +kernel
theorem dX6_sell_2 : decode cX6_sell 2 = .ok (.invokevirtual 92, 3) := by decide +kernel
theorem dX6_sell_5 : decode cX6_sell 5 = .ok (.ifCond .eq 11, 3) := by decide +kernel
theorem dX6_sell_8 : decode cX6_sell 8 = .ok (.aload_n 0, 1) := by decide +kernel
theorem dX6_sell_9 : decode cX6_sell 9 = .ok (.iload_n 2, 1) := by decide +kernel
theorem dX6_sell_10 : decode cX6_sell 10 = .ok (.invokevirtual 66, 3) := by decide +kernel
theorem dX6_sell_13 : decode cX6_sell 13 = .ok (.ifCond .ne 7, 3) := by decide +kernel
theorem dX6_sell_16 : decode cX6_sell 16 = .ok (.ldc2_w 41, 3) := by decide +kernel
theorem dX6_sell_19 : decode cX6_sell 19 = .ok (.lreturn, 1) := by decide +kernel
theorem dX6_sell_20 : decode cX6_sell 20 = .ok (.aload_n 0, 1) := by decide +kernel
theorem dX6_sell_21 : decode cX6_sell 21 = .ok (.getfield 7, 3) := by decide +kernel
theorem dX6_sell_24 : decode cX6_sell 24 = .ok (.iload_n 1, 1) := by decide +kernel
theorem dX6_sell_25 : decode cX6_sell 25 = .ok (.iconst 0, 1) := by decide +kernel
theorem dX6_sell_26 : decode cX6_sell 26 = .ok (.invokestatic 89, 3) := by decide +kernel
theorem dX6_sell_29 : decode cX6_sell 29 = .ok (.laload, 1) := by decide +kernel
theorem dX6_sell_30 : decode cX6_sell 30 = .ok (.lstore_n 3, 1) := by decide +kernel
theorem dX6_sell_31 : decode cX6_sell 31 = .ok (.aload_n 0, 1) := by decide +kernel
theorem dX6_sell_32 : decode cX6_sell 32 = .ok (.getfield 7, 3) := by decide +kernel
theorem dX6_sell_35 : decode cX6_sell 35 = .ok (.iload_n 1, 1) := by decide +kernel
theorem dX6_sell_36 : decode cX6_sell 36 = .ok (.iconst 0, 1) := by decide +kernel
theorem dX6_sell_37 : decode cX6_sell 37 = .ok (.invokestatic 89, 3) := by decide +kernel
theorem dX6_sell_40 : decode cX6_sell 40 = .ok (.iload_n 2, 1) := by decide +kernel
theorem dX6_sell_41 : decode cX6_sell 41 = .ok (.i2l, 1) := by decide +kernel
theorem dX6_sell_42 : decode cX6_sell 42 = .ok (.lastore, 1) := by decide +kernel
theorem dX6_sell_43 : decode cX6_sell 43 = .ok (.lload_n 3, 1) := by decide +kernel
theorem dX6_sell_44 : decode cX6_sell 44 = .ok (.lreturn, 1) := by decide +kernel
theorem dX6_parts_0 : decode cX6_parts 0 = .ok (.aload_n 0, 1) := by decide +kernel
theorem dX6_parts_1 : decode cX6_parts 1 = .ok (.getfield 7, 3) := by decide +kernel
theorem dX6_parts_4 : decode cX6_parts 4 = .ok (.iload_n 1, 1) := by decide +kernel
theorem dX6_parts_5 : decode cX6_parts 5 = .ok (.laload, 1) := by decide +kernel
theorem dX6_parts_6 : decode cX6_parts 6 = .ok (.lload_n 3, 1) := by decide +kernel
theorem dX6_parts_7 : decode cX6_parts 7 = .ok (.lmul, 1) := by decide +kernel
theorem dX6_parts_8 : decode cX6_parts 8 = .ok (.lload 5, 2) := by decide +kernel
theorem dX6_parts_10 : decode cX6_parts 10 = .ok (.ldiv, 1) := by decide +kernel
theorem dX6_parts_11 : decode cX6_parts 11 = .ok (.lstore 7, 2) := by decide +kernel
theorem dX6_parts_13 : decode cX6_parts 13 = .ok (.aload_n 0, 1) := by decide +kernel
theorem dX6_parts_14 : decode cX6_parts 14 = .ok (.getfield 7, 3) := by decide +kernel
theorem dX6_parts_17 : decode cX6_parts 17 = .ok (.iload_n 2, 1) := by decide +kernel
theorem dX6_parts_18 : decode cX6_parts 18 = .ok (.lload 7, 2) := by decide +kernel
theorem dX6_parts_20 : decode cX6_parts 20 = .ok (.lastore, 1) := by decide +kernel
theorem dX6_parts_21 : decode cX6_parts 21 = .ok (.aload_n 0, 1) := by decide +kernel
theorem dX6_parts_22 : decode cX6_parts 22 = .ok (.getfield 7, 3) := by decide +kernel
theorem dX6_parts_25 : decode cX6_parts 25 = .ok (.iload_n 1, 1) := by decide +kernel
theorem dX6_parts_26 : decode cX6_parts 26 = .ok (.dup2, 1) := by decide +kernel
theorem dX6_parts_27 : decode cX6_parts 27 = .ok (.laload, 1) := by decide +kernel
theorem dX6_parts_28 : decode cX6_parts 28 = .ok (.lload 7, 2) := by decide +kernel
theorem dX6_parts_30 : decode cX6_parts 30 = .ok (.lsub, 1) := by decide +kernel
theorem dX6_parts_31 : decode cX6_parts 31 = .ok (.lastore, 1) := by decide +kernel
theorem dX6_parts_32 : decode cX6_parts 32 = .ok (.return_, 1) := by decide +kernel
theorem dX6_split_0 : decode cX6_split 0 = .ok (.aload_n 0, 1) := by decide +kernel
theorem dX6_split_1 : decode cX6_split 1 = .ok (.iload_n 1, 1) := by decide +kernel
theorem dX6_split_2 : decode cX6_split 2 = .ok (.invokevirtual 92, 3) := by decide +kernel
theorem dX6_split_5 : decode cX6_split 5 = .ok (.ifCond .eq 39, 3) := by decide +kernel
theorem dX6_split_8 : decode cX6_split 8 = .ok (.iload_n 2, 1) := by decide +kernel
theorem dX6_split_9 : decode cX6_split 9 = .ok (.i2l, 1) := by decide +kernel
theorem dX6_split_10 : decode cX6_split 10 = .ok (.lconst 1, 1) := by decide +kernel
theorem dX6_split_11 : decode cX6_split 11 = .ok (.aload_n 0, 1) := by decide +kernel
theorem dX6_split_12 : decode cX6_split 12 = .ok (.getfield 7, 3) := by decide +kernel
theorem dX6_split_15 : decode cX6_split 15 = .ok (.iload_n 1, 1) := by decide +kernel
theorem dX6_split_16 : decode cX6_split 16 = .ok (.iconst 3, 1) := by decide +kernel
theorem dX6_split_17 : decode cX6_split 17 = .ok (.invokestatic 89, 3) := by decide +kernel
theorem dX6_split_20 : decode cX6_split 20 = .ok (.laload, 1) := by decide +kernel
theorem dX6_split_21 : decode cX6_split 21 = .ok (.lconst 1, 1) := by decide +kernel
theorem dX6_split_22 : decode cX6_split 22 = .ok (.lsub, 1) := by decide +kernel
theorem dX6_split_23 : decode cX6_split 23 = .ok (.invokestatic 35, 3) := by decide +kernel
theorem dX6_split_26 : decode cX6_split 26 = .ok (.ifCond .eq 18, 3) := by decide +kernel
theorem dX6_split_29 : decode cX6_split 29 = .ok (.aload_n 0, 1) := by decide +kernel
theorem dX6_split_30 : decode cX6_split 30 = .ok (.getfield 7, 3) := by decide +kernel
theorem dX6_split_33 : decode cX6_split 33 = .ok (.sipush 5670, 3) := by decide +kernel
theorem dX6_split_36 : decode cX6_split 36 = .ok (.laload, 1) := by decide +kernel
theorem dX6_split_37 : decode cX6_split 37 = .ok (.ldc2_w 87, 3) := by decide +kernel
theorem dX6_split_40 : decode cX6_split 40 = .ok (.lcmp, 1) := by decide +kernel
theorem dX6_split_41 : decode cX6_split 41 = .ok (.ifCond .ne 7, 3) := by decide +kernel
theorem dX6_split_44 : decode cX6_split 44 = .ok (.ldc2_w 41, 3) := by decide +kernel
theorem dX6_split_47 : decode cX6_split 47 = .ok (.lreturn, 1) := by decide +kernel
theorem dX6_split_48 : decode cX6_split 48 = .ok (.aload_n 0, 1) := by decide +kernel
theorem dX6_split_49 : decode cX6_split 49 = .ok (.getfield 7, 3) := by decide +kernel
theorem dX6_split_52 : decode cX6_split 52 = .ok (.sipush 5670, 3) := by decide +kernel
theorem dX6_split_55 : decode cX6_split 55 = .ok (.laload, 1) := by decide +kernel
theorem dX6_split_56 : decode cX6_split 56 = .ok (.l2i, 1) := by decide +kernel
theorem dX6_split_57 : decode cX6_split 57 = .ok (.istore_n 3, 1) := by decide +kernel
theorem dX6_split_58 : decode cX6_split 58 = .ok (.aload_n 0, 1) := by decide +kernel
theorem dX6_split_59 : decode cX6_split 59 = .ok (.getfield 7, 3) := by decide +kernel
theorem dX6_split_62 : decode cX6_split 62 = .ok (.iload_n 1, 1) := by decide +kernel
theorem dX6_split_63 : decode cX6_split 63 = .ok (.iconst 3, 1) := by decide +kernel
theorem dX6_split_64 : decode cX6_split 64 = .ok (.invokestatic 89, 3) := by decide +kernel
theorem dX6_split_67 : decode cX6_split 67 = .ok (.laload, 1) := by decide +kernel
theorem dX6_split_68 : decode cX6_split 68 = .ok (.lstore 4, 2) := by decide +kernel
theorem dX6_split_70 : decode cX6_split 70 = .ok (.iconst 0, 1) := by decide +kernel
theorem dX6_split_71 : decode cX6_split 71 = .ok (.istore 6, 2) := by decide +kernel
theorem dX6_split_73 : decode cX6_split 73 = .ok (.iload 6, 2) := by decide +kernel
theorem dX6_split_75 : decode cX6_split 75 = .ok (.bipush 14, 2) := by decide +kernel
theorem dX6_split_77 : decode cX6_split 77 = .ok (.if_icmp .ge 31, 3) := by decide +kernel
theorem dX6_split_80 : decode cX6_split 80 = .ok (.aload_n 0, 1) := by decide +kernel
theorem dX6_split_81 : decode cX6_split 81 = .ok (.getfield 7, 3) := by decide +kernel
theorem dX6_split_84 : decode cX6_split 84 = .ok (.iload_n 3, 1) := by decide +kernel
theorem dX6_split_85 : decode cX6_split 85 = .ok (.iload 6, 2) := by decide +kernel
theorem dX6_split_87 : decode cX6_split 87 = .ok (.invokestatic 89, 3) := by decide +kernel
theorem dX6_split_90 : decode cX6_split 90 = .ok (.aload_n 0, 1) := by decide +kernel
theorem dX6_split_91 : decode cX6_split 91 = .ok (.getfield 7, 3) := by decide +kernel
theorem dX6_split_94 : decode cX6_split 94 = .ok (.iload_n 1, 1) := by decide +kernel
theorem dX6_split_95 : decode cX6_split 95 = .ok (.iload 6, 2) := by decide +kernel
theorem dX6_split_97 : decode cX6_split 97 = .ok (.invokestatic 89, 3) := by decide +kernel
theorem dX6_split_100 : decode cX6_split 100 = .ok (.laload, 1) := by decide +kernel
theorem dX6_split_101 : decode cX6_split 101 = .ok (.lastore, 1) := by decide +kernel
theorem dX6_split_102 : decode cX6_split 102 = .ok (.iinc 6 1, 3) := by decide +kernel
theorem dX6_split_105 : decode cX6_split 105 = .ok (.goto (-32), 3) := by decide +kernel
theorem dX6_split_108 : decode cX6_split 108 = .ok (.aload_n 0, 1) := by decide +kernel
theorem dX6_split_109 : decode cX6_split 109 = .ok (.iload_n 1, 1) := by decide +kernel
theorem dX6_split_110 : decode cX6_split 110 = .ok (.bipush 6, 2) := by decide +kernel
theorem dX6_split_112 : decode cX6_split 112 = .ok (.invokestatic 89, 3) := by decide +kernel
theorem dX6_split_115 : decode cX6_split 115 = .ok (.iload_n 3, 1) := by decide +kernel
theorem dX6_split_116 : decode cX6_split 116 = .ok (.bipush 6, 2) := by decide +kernel
theorem dX6_split_118 : decode cX6_split 118 = .ok (.invokestatic 89, 3) := by decide +kernel
theorem dX6_split_121 : decode cX6_split 121 = .ok (.iload_n 2, 1) := by decide +kernel
theorem dX6_split_122 : decode cX6_split 122 = .ok (.i2l, 1) := by decide +kernel
theorem dX6_split_123 : decode cX6_split 123 = .ok (.lload 4, 2) := by decide +kernel
theorem dX6_split_125 : decode cX6_split 125 = .ok (.invokevirtual 95, 3) := by decide +kernel
theorem dX6_split_128 : decode cX6_split 128 = .ok (.aload_n 0, 1) := by decide +kernel
theorem dX6_split_129 : decode cX6_split 129 = .ok (.iload_n 1, 1) := by decide +kernel
theorem dX6_split_130 : decode cX6_split 130 = .ok (.bipush 7, 2) := by decide +kernel
theorem dX6_split_132 : decode cX6_split 132 = .ok (.invokestatic 89, 3) := by decide +kernel
theorem dX6_split_135 : decode cX6_split 135 = .ok (.iload_n 3, 1) := by decide +kernel
theorem dX6_split_136 : decode cX6_split 136 = .ok (.bipush 7, 2) := by decide +kernel
theorem dX6_split_138 : decode cX6_split 138 = .ok (.invokestatic 89, 3) := by decide +kernel
theorem dX6_split_141 : decode cX6_split 141 = .ok (.iload_n 2, 1) := by decide +kernel
theorem dX6_split_142 : decode cX6_split 142 = .ok (.i2l, 1) := by decide +kernel
theorem dX6_split_143 : decode cX6_split 143 = .ok (.lload 4, 2) := by decide +kernel
theorem dX6_split_145 : decode cX6_split 145 = .ok (.invokevirtual 95, 3) := by decide +kernel
theorem dX6_split_148 : decode cX6_split 148 = .ok (.aload_n 0, 1) := by decide +kernel
theorem dX6_split_149 : decode cX6_split 149 = .ok (.iload_n 1, 1) := by decide +kernel
theorem dX6_split_150 : decode cX6_split 150 = .ok (.bipush 12, 2) := by decide +kernel
theorem dX6_split_152 : decode cX6_split 152 = .ok (.invokestatic 89, 3) := by decide +kernel
theorem dX6_split_155 : decode cX6_split 155 = .ok (.iload_n 3, 1) := by decide +kernel
theorem dX6_split_156 : decode cX6_split 156 = .ok (.bipush 12, 2) := by decide +kernel
theorem dX6_split_158 : decode cX6_split 158 = .ok (.invokestatic 89, 3) := by decide +kernel
theorem dX6_split_161 : decode cX6_split 161 = .ok (.iload_n 2, 1) := by decide +kernel
theorem dX6_split_162 : decode cX6_split 162 = .ok (.i2l, 1) := by decide +kernel
theorem dX6_split_163 : decode cX6_split 163 = .ok (.lload 4, 2) := by decide +kernel
theorem dX6_split_165 : decode cX6_split 165 = .ok (.invokevirtual 95, 3) := by decide +kernel
theorem dX6_split_168 : decode cX6_split 168 = .ok (.iconst 0, 1) := by decide +kernel
theorem dX6_split_169 : decode cX6_split 169 = .ok (.istore 6, 2) := by decide +kernel
theorem dX6_split_171 : decode cX6_split 171 = .ok (.iload 6, 2) := by decide +kernel
theorem dX6_split_173 : decode cX6_split 173 = .ok (.bipush 60, 2) := by decide +kernel
theorem dX6_split_175 : decode cX6_split 175 = .ok (.if_icmp .ge 69, 3) := by decide +kernel
theorem dX6_split_178 : decode cX6_split 178 = .ok (.aload_n 0, 1) := by decide +kernel
theorem dX6_split_179 : decode cX6_split 179 = .ok (.sipush 863, 3) := by decide +kernel
theorem dX6_split_182 : decode cX6_split 182 = .ok (.bipush 60, 2) := by decide +kernel
theorem dX6_split_184 : decode cX6_split 184 = .ok (.iload_n 1, 1) := by decide +kernel
theorem dX6_split_185 : decode cX6_split 185 = .ok (.imul, 1) := by decide +kernel
theorem dX6_split_186 : decode cX6_split 186 = .ok (.iadd, 1) := by decide +kernel
theorem dX6_split_187 : decode cX6_split 187 = .ok (.iload 6, 2) := by decide +kernel
theorem dX6_split_189 : decode cX6_split 189 = .ok (.iadd, 1) := by decide +kernel
theorem dX6_split_190 : decode cX6_split 190 = .ok (.sipush 863, 3) := by decide +kernel
theorem dX6_split_193 : decode cX6_split 193 = .ok (.bipush 60, 2) := by decide +kernel
theorem dX6_split_195 : decode cX6_split 195 = .ok (.iload_n 3, 1) := by decide +kernel
theorem dX6_split_196 : decode cX6_split 196 = .ok (.imul, 1) := by decide +kernel
theorem dX6_split_197 : decode cX6_split 197 = .ok (.iadd, 1) := by decide +kernel
theorem dX6_split_198 : decode cX6_split 198 = .ok (.iload 6, 2) := by decide +kernel
theorem dX6_split_200 : decode cX6_split 200 = .ok (.iadd, 1) := by decide +kernel
theorem dX6_split_201 : decode cX6_split 201 = .ok (.iload_n 2, 1) := by decide +kernel
theorem dX6_split_202 : decode cX6_split 202 = .ok (.i2l, 1) := by decide +kernel
theorem dX6_split_203 : decode cX6_split 203 = .ok (.lload 4, 2) := by decide +kernel
theorem dX6_split_205 : decode cX6_split 205 = .ok (.invokevirtual 95, 3) := by decide +kernel
theorem dX6_split_208 : decode cX6_split 208 = .ok (.aload_n 0, 1) := by decide +kernel
theorem dX6_split_209 : decode cX6_split 209 = .ok (.sipush 3263, 3) := by decide +kernel
theorem dX6_split_212 : decode cX6_split 212 = .ok (.bipush 60, 2) := by decide +kernel
theorem dX6_split_214 : decode cX6_split 214 = .ok (.iload_n 1, 1) := by decide +kernel
theorem dX6_split_215 : decode cX6_split 215 = .ok (.imul, 1) := by decide +kernel
theorem dX6_split_216 : decode cX6_split 216 = .ok (.iadd, 1) := by decide +kernel
theorem dX6_split_217 : decode cX6_split 217 = .ok (.iload 6, 2) := by decide +kernel
theorem dX6_split_219 : decode cX6_split 219 = .ok (.iadd, 1) := by decide +kernel
theorem dX6_split_220 : decode cX6_split 220 = .ok (.sipush 3263, 3) := by decide +kernel
theorem dX6_split_223 : decode cX6_split 223 = .ok (.bipush 60, 2) := by decide +kernel
theorem dX6_split_225 : decode cX6_split 225 = .ok (.iload_n 3, 1) := by decide +kernel
theorem dX6_split_226 : decode cX6_split 226 = .ok (.imul, 1) := by decide +kernel
theorem dX6_split_227 : decode cX6_split 227 = .ok (.iadd, 1) := by decide +kernel
theorem dX6_split_228 : decode cX6_split 228 = .ok (.iload 6, 2) := by decide +kernel
theorem dX6_split_230 : decode cX6_split 230 = .ok (.iadd, 1) := by decide +kernel
theorem dX6_split_231 : decode cX6_split 231 = .ok (.iload_n 2, 1) := by decide +kernel
theorem dX6_split_232 : decode cX6_split 232 = .ok (.i2l, 1) := by decide +kernel
theorem dX6_split_233 : decode cX6_split 233 = .ok (.lload 4, 2) := by decide +kernel
theorem dX6_split_235 : decode cX6_split 235 = .ok (.invokevirtual 95, 3) := by decide +kernel
theorem dX6_split_238 : decode cX6_split 238 = .ok (.iinc 6 1, 3) := by decide +kernel
theorem dX6_split_241 : decode cX6_split 241 = .ok (.goto (-70), 3) := by decide +kernel
theorem dX6_split_244 : decode cX6_split 244 = .ok (.aload_n 0, 1) := by decide +kernel
theorem dX6_split_245 : decode cX6_split 245 = .ok (.getfield 7, 3) := by decide +kernel
theorem dX6_split_248 : decode cX6_split 248 = .ok (.iload_n 3, 1) := by decide +kernel
theorem dX6_split_249 : decode cX6_split 249 = .ok (.iconst 3, 1) := by decide +kernel
theorem dX6_split_250 : decode cX6_split 250 = .ok (.invokestatic 89, 3) := by decide +kernel
theorem dX6_split_253 : decode cX6_split 253 = .ok (.iload_n 2, 1) := by decide +kernel
theorem dX6_split_254 : decode cX6_split 254 = .ok (.i2l, 1) := by decide +kernel
theorem dX6_split_255 : decode cX6_split 255 = .ok (.lastore, 1) := by decide +kernel
theorem dX6_split_256 : decode cX6_split 256 = .ok (.aload_n 0, 1) := by decide +kernel
theorem dX6_split_257 : decode cX6_split 257 = .ok (.getfield 7, 3) := by decide +kernel
theorem dX6_split_260 : decode cX6_split 260 = .ok (.iload_n 1, 1) := by decide +kernel
theorem dX6_split_261 : decode cX6_split 261 = .ok (.iconst 3, 1) := by decide +kernel
theorem dX6_split_262 : decode cX6_split 262 = .ok (.invokestatic 89, 3) := by decide +kernel
theorem dX6_split_265 : decode cX6_split 265 = .ok (.lload 4, 2) := by decide +kernel
theorem dX6_split_267 : decode cX6_split 267 = .ok (.iload_n 2, 1) := by decide +kernel
theorem dX6_split_268 : decode cX6_split 268 = .ok (.i2l, 1) := by decide +kernel
theorem dX6_split_269 : decode cX6_split 269 = .ok (.lsub, 1) := by decide +kernel
theorem dX6_split_270 : decode cX6_split 270 = .ok (.lastore, 1) := by decide +kernel
theorem dX6_split_271 : decode cX6_split 271 = .ok (.aload_n 0, 1) := by decide +kernel
theorem dX6_split_272 : decode cX6_split 272 = .ok (.getfield 7, 3) := by decide +kernel
theorem dX6_split_275 : decode cX6_split 275 = .ok (.sipush 5670, 3) := by decide +kernel
theorem dX6_split_278 : decode cX6_split 278 = .ok (.dup2, 1) := by decide +kernel
theorem dX6_split_279 : decode cX6_split 279 = .ok (.laload, 1) := by decide +kernel
theorem dX6_split_280 : decode cX6_split 280 = .ok (.lconst 1, 1) := by decide +kernel
theorem dX6_split_281 : decode cX6_split 281 = .ok (.ladd, 1) := by decide +kernel
theorem dX6_split_282 : decode cX6_split 282 = .ok (.lastore, 1) := by decide +kernel
theorem dX6_split_283 : decode cX6_split 283 = .ok (.iload_n 3, 1) := by decide +kernel
theorem dX6_split_284 : decode cX6_split 284 = .ok (.i2l, 1) := by decide +kernel
theorem dX6_split_285 : decode cX6_split 285 = .ok (.lreturn, 1) := by decide +kernel
theorem dX6_pledge_0 : decode cX6_pledge 0 = .ok (.aload_n 0, 1) := by decide +kernel
theorem dX6_pledge_1 : decode cX6_pledge 1 = .ok (.iload_n 1, 1) := by decide +kernel
theorem dX6_pledge_2 : decode cX6_pledge 2 = .ok (.invokevirtual 92, 3) := by decide +kernel
theorem dX6_pledge_5 : decode cX6_pledge 5 = .ok (.ifCond .eq 23, 3) := by decide +kernel
theorem dX6_pledge_8 : decode cX6_pledge 8 = .ok (.aload_n 0, 1) := by decide +kernel
theorem dX6_pledge_9 : decode cX6_pledge 9 = .ok (.iload_n 2, 1) := by decide +kernel
theorem dX6_pledge_10 : decode cX6_pledge 10 = .ok (.invokevirtual 66, 3) := by decide +kernel
theorem dX6_pledge_13 : decode cX6_pledge 13 = .ok (.ifCond .eq 15, 3) := by decide +kernel
theorem dX6_pledge_16 : decode cX6_pledge 16 = .ok (.iload_n 3, 1) := by decide +kernel
theorem dX6_pledge_17 : decode cX6_pledge 17 = .ok (.i2l, 1) := by decide +kernel
theorem dX6_pledge_18 : decode cX6_pledge 18 = .ok (.lconst 0, 1) := by decide +kernel
theorem dX6_pledge_19 : decode cX6_pledge 19 = .ok (.ldc2_w 99, 3) := by decide +kernel
theorem dX6_pledge_22 : decode cX6_pledge 22 = .ok (.invokestatic 35, 3) := by decide +kernel
theorem dX6_pledge_25 : decode cX6_pledge 25 = .ok (.ifCond .ne 7, 3) := by decide +kernel
theorem dX6_pledge_28 : decode cX6_pledge 28 = .ok (.ldc2_w 41, 3) := by decide +kernel
theorem dX6_pledge_31 : decode cX6_pledge 31 = .ok (.lreturn, 1) := by decide +kernel
theorem dX6_pledge_32 : decode cX6_pledge 32 = .ok (.aload_n 0, 1) := by decide +kernel
theorem dX6_pledge_33 : decode cX6_pledge 33 = .ok (.getfield 7, 3) := by decide +kernel
theorem dX6_pledge_36 : decode cX6_pledge 36 = .ok (.iload_n 1, 1) := by decide +kernel
theorem dX6_pledge_37 : decode cX6_pledge 37 = .ok (.bipush 12, 2) := by decide +kernel
theorem dX6_pledge_39 : decode cX6_pledge 39 = .ok (.invokestatic 89, 3) := by decide +kernel
theorem dX6_pledge_42 : decode cX6_pledge 42 = .ok (.laload, 1) := by decide +kernel
theorem dX6_pledge_43 : decode cX6_pledge 43 = .ok (.lstore 4, 2) := by decide +kernel
theorem dX6_pledge_45 : decode cX6_pledge 45 = .ok (.aload_n 0, 1) := by decide +kernel
theorem dX6_pledge_46 : decode cX6_pledge 46 = .ok (.getfield 7, 3) := by decide +kernel
theorem dX6_pledge_49 : decode cX6_pledge 49 = .ok (.iload_n 1, 1) := by decide +kernel
theorem dX6_pledge_50 : decode cX6_pledge 50 = .ok (.bipush 11, 2) := by decide +kernel
theorem dX6_pledge_52 : decode cX6_pledge 52 = .ok (.invokestatic 89, 3) := by decide +kernel
theorem dX6_pledge_55 : decode cX6_pledge 55 = .ok (.iload_n 2, 1) := by decide +kernel
theorem dX6_pledge_56 : decode cX6_pledge 56 = .ok (.i2l, 1) := by decide +kernel
theorem dX6_pledge_57 : decode cX6_pledge 57 = .ok (.lastore, 1) := by decide +kernel
theorem dX6_pledge_58 : decode cX6_pledge 58 = .ok (.aload_n 0, 1) := by decide +kernel
theorem dX6_pledge_59 : decode cX6_pledge 59 = .ok (.getfield 7, 3) := by decide +kernel
theorem dX6_pledge_62 : decode cX6_pledge 62 = .ok (.iload_n 1, 1) := by decide +kernel
theorem dX6_pledge_63 : decode cX6_pledge 63 = .ok (.bipush 12, 2) := by decide +kernel
theorem dX6_pledge_65 : decode cX6_pledge 65 = .ok (.invokestatic 89, 3) := by decide +kernel
theorem dX6_pledge_68 : decode cX6_pledge 68 = .ok (.iload_n 3, 1) := by decide +kernel
theorem dX6_pledge_69 : decode cX6_pledge 69 = .ok (.i2l, 1) := by decide +kernel
theorem dX6_pledge_70 : decode cX6_pledge 70 = .ok (.lastore, 1) := by decide +kernel
theorem dX6_pledge_71 : decode cX6_pledge 71 = .ok (.lload 4, 2) := by decide +kernel
theorem dX6_pledge_73 : decode cX6_pledge 73 = .ok (.lreturn, 1) := by decide +kernel
theorem dX6_hasLife_0 : decode cX6_hasLife 0 = .ok (.aload_n 0, 1) := by decide +kernel
theorem dX6_hasLife_1 : decode cX6_hasLife 1 = .ok (.getfield 7, 3) := by decide +kernel
theorem dX6_hasLife_4 : decode cX6_hasLife 4 = .ok (.iload_n 1, 1) := by decide +kernel
theorem dX6_hasLife_5 : decode cX6_hasLife 5 = .ok (.iconst 1, 1) := by decide +kernel
theorem dX6_hasLife_6 : decode cX6_hasLife 6 = .ok (.invokestatic 89, 3) := by decide +kernel
theorem dX6_hasLife_9 : decode cX6_hasLife 9 = .ok (.laload, 1) := by decide +kernel
theorem dX6_hasLife_10 : decode cX6_hasLife 10 = .ok (.iload_n 2, 1) := by decide +kernel
theorem dX6_hasLife_11 : decode cX6_hasLife 11 = .ok (.i2l, 1) := by decide +kernel
theorem dX6_hasLife_12 : decode cX6_hasLife 12 = .ok (.lcmp, 1) := by decide +kernel
theorem dX6_hasLife_13 : decode cX6_hasLife 13 = .ok (.ifCond .eq 19, 3) := by decide +kernel
theorem dX6_hasLife_16 : decode cX6_hasLife 16 = .ok (.aload_n 0, 1) := by decide +kernel
theorem dX6_hasLife_17 : decode cX6_hasLife 17 = .ok (.getfield 7, 3) := by decide +kernel
theorem dX6_hasLife_20 : decode cX6_hasLife 20 = .ok (.iload_n 1, 1) := by decide +kernel
theorem dX6_hasLife_21 : decode cX6_hasLife 21 = .ok (.iconst 2, 1) := by decide +kernel
theorem dX6_hasLife_22 : decode cX6_hasLife 22 = .ok (.invokestatic 89, 3) := by decide +kernel
theorem dX6_hasLife_25 : decode cX6_hasLife 25 = .ok (.laload, 1) := by decide +kernel
theorem dX6_hasLife_26 : decode cX6_hasLife 26 = .ok (.iload_n 2, 1) := by decide +kernel
theorem dX6_hasLife_27 : decode cX6_hasLife 27 = .ok (.i2l, 1) := by decide +kernel
theorem dX6_hasLife_28 : decode cX6_hasLife 28 = .ok (.lcmp, 1) := by decide +kernel
theorem dX6_hasLife_29 : decode cX6_hasLife 29 = .ok (.ifCond .ne 7, 3) := by decide +kernel
theorem dX6_hasLife_32 : decode cX6_hasLife 32 = .ok (.iconst 1, 1) := by decide +kernel
theorem dX6_hasLife_33 : decode cX6_hasLife 33 = .ok (.goto 4, 3) := by decide +kernel
theorem dX6_hasLife_36 : decode cX6_hasLife 36 = .ok (.iconst 0, 1) := by decide +kernel
theorem dX6_hasLife_37 : decode cX6_hasLife 37 = .ok (.ireturn, 1) := by decide +kernel
theorem dX6_areDead_0 : decode cX6_areDead 0 = .ok (.aload_n 0, 1) := by decide +kernel
theorem dX6_areDead_1 : decode cX6_areDead 1 = .ok (.getfield 7, 3) := by decide +kernel
theorem dX6_areDead_4 : decode cX6_areDead 4 = .ok (.iload_n 1, 1) := by decide +kernel
theorem dX6_areDead_5 : decode cX6_areDead 5 = .ok (.iconst 2, 1) := by decide +kernel
theorem dX6_areDead_6 : decode cX6_areDead 6 = .ok (.invokestatic 89, 3) := by decide +kernel
theorem dX6_areDead_9 : decode cX6_areDead 9 = .ok (.laload, 1) := by decide +kernel
theorem dX6_areDead_10 : decode cX6_areDead 10 = .ok (.lstore_n 2, 1) := by decide +kernel
theorem dX6_areDead_11 : decode cX6_areDead 11 = .ok (.aload_n 0, 1) := by decide +kernel
theorem dX6_areDead_12 : decode cX6_areDead 12 = .ok (.aload_n 0, 1) := by decide +kernel
theorem dX6_areDead_13 : decode cX6_areDead 13 = .ok (.getfield 7, 3) := by decide +kernel
theorem dX6_areDead_16 : decode cX6_areDead 16 = .ok (.iload_n 1, 1) := by decide +kernel
theorem dX6_areDead_17 : decode cX6_areDead 17 = .ok (.iconst 1, 1) := by decide +kernel
theorem dX6_areDead_18 : decode cX6_areDead 18 = .ok (.invokestatic 89, 3) := by decide +kernel
theorem dX6_areDead_21 : decode cX6_areDead 21 = .ok (.laload, 1) := by decide +kernel
theorem dX6_areDead_22 : decode cX6_areDead 22 = .ok (.invokevirtual 75, 3) := by decide +kernel
theorem dX6_areDead_25 : decode cX6_areDead 25 = .ok (.ifCond .eq 21, 3) := by decide +kernel
theorem dX6_areDead_28 : decode cX6_areDead 28 = .ok (.lload_n 2, 1) := by decide +kernel
theorem dX6_areDead_29 : decode cX6_areDead 29 = .ok (.lconst 0, 1) := by decide +kernel
theorem dX6_areDead_30 : decode cX6_areDead 30 = .ok (.lcmp, 1) := by decide +kernel
theorem dX6_areDead_31 : decode cX6_areDead 31 = .ok (.ifCond .lt 11, 3) := by decide +kernel
theorem dX6_areDead_34 : decode cX6_areDead 34 = .ok (.aload_n 0, 1) := by decide +kernel
theorem dX6_areDead_35 : decode cX6_areDead 35 = .ok (.lload_n 2, 1) := by decide +kernel
theorem dX6_areDead_36 : decode cX6_areDead 36 = .ok (.invokevirtual 75, 3) := by decide +kernel
theorem dX6_areDead_39 : decode cX6_areDead 39 = .ok (.ifCond .eq 7, 3) := by decide +kernel
theorem dX6_areDead_42 : decode cX6_areDead 42 = .ok (.iconst 1, 1) := by decide +kernel
theorem dX6_areDead_43 : decode cX6_areDead 43 = .ok (.goto 4, 3) := by decide +kernel
theorem dX6_areDead_46 : decode cX6_areDead 46 = .ok (.iconst 0, 1) := by decide +kernel
theorem dX6_areDead_47 : decode cX6_areDead 47 = .ok (.ireturn, 1) := by decide +kernel
theorem dX6_isSure_0 : decode cX6_isSure 0 = .ok (.aload_n 0, 1) := by decide +kernel
theorem dX6_isSure_1 : decode cX6_isSure 1 = .ok (.getfield 7, 3) := by decide +kernel
theorem dX6_isSure_4 : decode cX6_isSure 4 = .ok (.iload_n 1, 1) := by decide +kernel
theorem dX6_isSure_5 : decode cX6_isSure 5 = .ok (.iconst 5, 1) := by decide +kernel
theorem dX6_isSure_6 : decode cX6_isSure 6 = .ok (.invokestatic 89, 3) := by decide +kernel
theorem dX6_isSure_9 : decode cX6_isSure 9 = .ok (.laload, 1) := by decide +kernel
theorem dX6_isSure_10 : decode cX6_isSure 10 = .ok (.lconst 1, 1) := by decide +kernel
theorem dX6_isSure_11 : decode cX6_isSure 11 = .ok (.lcmp, 1) := by decide +kernel
theorem dX6_isSure_12 : decode cX6_isSure 12 = .ok (.ifCond .le 35, 3) := by decide +kernel
theorem dX6_isSure_15 : decode cX6_isSure 15 = .ok (.lload_n 2, 1) := by decide +kernel
theorem dX6_isSure_16 : decode cX6_isSure 16 = .ok (.aload_n 0, 1) := by decide +kernel
theorem dX6_isSure_17 : decode cX6_isSure 17 = .ok (.getfield 7, 3) := by decide +kernel
theorem dX6_isSure_20 : decode cX6_isSure 20 = .ok (.iload_n 1, 1) := by decide +kernel
theorem dX6_isSure_21 : decode cX6_isSure 21 = .ok (.bipush 8, 2) := by decide +kernel
theorem dX6_isSure_23 : decode cX6_isSure 23 = .ok (.invokestatic 89, 3) := by decide +kernel
theorem dX6_isSure_26 : decode cX6_isSure 26 = .ok (.laload, 1) := by decide +kernel
theorem dX6_isSure_27 : decode cX6_isSure 27 = .ok (.aload_n 0, 1) := by decide +kernel
theorem dX6_isSure_28 : decode cX6_isSure 28 = .ok (.getfield 7, 3) := by decide +kernel
theorem dX6_isSure_31 : decode cX6_isSure 31 = .ok (.iload_n 1, 1) := by decide +kernel
theorem dX6_isSure_32 : decode cX6_isSure 32 = .ok (.bipush 9, 2) := by decide +kernel
theorem dX6_isSure_34 : decode cX6_isSure 34 = .ok (.invokestatic 89, 3) := by decide +kernel
theorem dX6_isSure_37 : decode cX6_isSure 37 = .ok (.laload, 1) := by decide +kernel
theorem dX6_isSure_38 : decode cX6_isSure 38 = .ok (.ladd, 1) := by decide +kernel
theorem dX6_isSure_39 : decode cX6_isSure 39 = .ok (.lcmp, 1) := by decide +kernel
theorem dX6_isSure_40 : decode cX6_isSure 40 = .ok (.ifCond .ge 7, 3) := by decide +kernel
theorem dX6_isSure_43 : decode cX6_isSure 43 = .ok (.iconst 1, 1) := by decide +kernel
theorem dX6_isSure_44 : decode cX6_isSure 44 = .ok (.goto 4, 3) := by decide +kernel
theorem dX6_isSure_47 : decode cX6_isSure 47 = .ok (.iconst 0, 1) := by decide +kernel
theorem dX6_isSure_48 : decode cX6_isSure 48 = .ok (.ireturn, 1) := by decide +kernel
theorem dX6_stands_0 : decode cX6_stands 0 = .ok (.iconst 0, 1) := by decide +kernel
theorem dX6_stands_1 : decode cX6_stands 1 = .ok (.istore_n 2, 1) := by decide +kernel
theorem dX6_stands_2 : decode cX6_stands 2 = .ok (.iconst 0, 1) := by decide +kernel
theorem dX6_stands_3 : decode cX6_stands 3 = .ok (.istore_n 3, 1) := by decide +kernel
theorem dX6_stands_4 : decode cX6_stands 4 = .ok (.iload_n 3, 1) := by decide +kernel
theorem dX6_stands_5 : decode cX6_stands 5 = .ok (.i2l, 1) := by decide +kernel
theorem dX6_stands_6 : decode cX6_stands 6 = .ok (.aload_n 0, 1) := by decide +kernel
theorem dX6_stands_7 : decode cX6_stands 7 = .ok (.getfield 7, 3) := by decide +kernel
theorem dX6_stands_10 : decode cX6_stands 10 = .ok (.sipush 5668, 3) := by decide +kernel
theorem dX6_stands_13 : decode cX6_stands 13 = .ok (.laload, 1) := by decide +kernel
theorem dX6_stands_14 : decode cX6_stands 14 = .ok (.lcmp, 1) := by decide +kernel
theorem dX6_stands_15 : decode cX6_stands 15 = .ok (.ifCond .ge 43, 3) := by decide +kernel
theorem dX6_stands_18 : decode cX6_stands 18 = .ok (.iload_n 2, 1) := by decide +kernel
theorem dX6_stands_19 : decode cX6_stands 19 = .ok (.ifCond .ne 27, 3) := by decide +kernel
theorem dX6_stands_22 : decode cX6_stands 22 = .ok (.aload_n 0, 1) := by decide +kernel
theorem dX6_stands_23 : decode cX6_stands 23 = .ok (.iload_n 1, 1) := by decide +kernel
theorem dX6_stands_24 : decode cX6_stands 24 = .ok (.iload_n 3, 1) := by decide +kernel
theorem dX6_stands_25 : decode cX6_stands 25 = .ok (.invokevirtual 101, 3) := by decide +kernel
theorem dX6_stands_28 : decode cX6_stands 28 = .ok (.ifCond .eq 22, 3) := by decide +kernel
theorem dX6_stands_31 : decode cX6_stands 31 = .ok (.aload_n 0, 1) := by decide +kernel
theorem dX6_stands_32 : decode cX6_stands 32 = .ok (.getfield 7, 3) := by decide +kernel
theorem dX6_stands_35 : decode cX6_stands 35 = .ok (.iload_n 3, 1) := by decide +kernel
theorem dX6_stands_36 : decode cX6_stands 36 = .ok (.iconst 4, 1) := by decide +kernel
theorem dX6_stands_37 : decode cX6_stands 37 = .ok (.invokestatic 63, 3) := by decide +kernel
theorem dX6_stands_40 : decode cX6_stands 40 = .ok (.laload, 1) := by decide +kernel
theorem dX6_stands_41 : decode cX6_stands 41 = .ok (.lconst 1, 1) := by decide +kernel
theorem dX6_stands_42 : decode cX6_stands 42 = .ok (.lcmp, 1) := by decide +kernel
theorem dX6_stands_43 : decode cX6_stands 43 = .ok (.ifCond .ne 7, 3) := by decide +kernel
theorem dX6_stands_46 : decode cX6_stands 46 = .ok (.iconst 1, 1) := by decide +kernel
theorem dX6_stands_47 : decode cX6_stands 47 = .ok (.goto 4, 3) := by decide +kernel
theorem dX6_stands_50 : decode cX6_stands 50 = .ok (.iconst 0, 1) := by decide +kernel
theorem dX6_stands_51 : decode cX6_stands 51 = .ok (.istore_n 2, 1) := by decide +kernel
theorem dX6_stands_52 : decode cX6_stands 52 = .ok (.iinc 3 1, 3) := by decide +kernel
theorem dX6_stands_55 : decode cX6_stands 55 = .ok (.goto (-51), 3) := by decide +kernel
theorem dX6_stands_58 : decode cX6_stands 58 = .ok (.iload_n 2, 1) := by decide +kernel
theorem dX6_stands_59 : decode cX6_stands 59 = .ok (.ifCond .ne 19, 3) := by decide +kernel
theorem dX6_stands_62 : decode cX6_stands 62 = .ok (.aload_n 0, 1) := by decide +kernel
theorem dX6_stands_63 : decode cX6_stands 63 = .ok (.iload_n 1, 1) := by decide +kernel
theorem dX6_stands_64 : decode cX6_stands 64 = .ok (.aload_n 0, 1) := by decide +kernel
theorem dX6_stands_65 : decode cX6_stands 65 = .ok (.getfield 7, 3) := by decide +kernel
theorem dX6_stands_68 : decode cX6_stands 68 = .ok (.sipush 5663, 3) := by decide +kernel
theorem dX6_stands_71 : decode cX6_stands 71 = .ok (.laload, 1) := by decide +kernel
theorem dX6_stands_72 : decode cX6_stands 72 = .ok (.invokevirtual 105, 3) := by decide +kernel
theorem dX6_stands_75 : decode cX6_stands 75 = .ok (.ifCond .eq 5, 3) := by decide +kernel
theorem dX6_stands_78 : decode cX6_stands 78 = .ok (.iconst 0, 1) := by decide +kernel
theorem dX6_stands_79 : decode cX6_stands 79 = .ok (.ireturn, 1) := by decide +kernel
theorem dX6_stands_80 : decode cX6_stands 80 = .ok (.aload_n 0, 1) := by decide +kernel
theorem dX6_stands_81 : decode cX6_stands 81 = .ok (.iload_n 1, 1) := by decide +kernel
theorem dX6_stands_82 : decode cX6_stands 82 = .ok (.invokevirtual 109, 3) := by decide +kernel
theorem dX6_stands_85 : decode cX6_stands 85 = .ok (.ifCond .eq 5, 3) := by decide +kernel
theorem dX6_stands_88 : decode cX6_stands 88 = .ok (.iconst 3, 1) := by decide +kernel
theorem dX6_stands_89 : decode cX6_stands 89 = .ok (.ireturn, 1) := by decide +kernel
theorem dX6_stands_90 : decode cX6_stands 90 = .ok (.aload_n 0, 1) := by decide +kernel
theorem dX6_stands_91 : decode cX6_stands 91 = .ok (.getfield 7, 3) := by decide +kernel
theorem dX6_stands_94 : decode cX6_stands 94 = .ok (.iload_n 1, 1) := by decide +kernel
theorem dX6_stands_95 : decode cX6_stands 95 = .ok (.bipush 10, 2) := by decide +kernel
theorem dX6_stands_97 : decode cX6_stands 97 = .ok (.invokestatic 89, 3) := by decide +kernel
theorem dX6_stands_100 : decode cX6_stands 100 = .ok (.laload, 1) := by decide +kernel
theorem dX6_stands_101 : decode cX6_stands 101 = .ok (.aload_n 0, 1) := by decide +kernel
theorem dX6_stands_102 : decode cX6_stands 102 = .ok (.getfield 7, 3) := by decide +kernel
theorem dX6_stands_105 : decode cX6_stands 105 = .ok (.sipush 5666, 3) := by decide +kernel
theorem dX6_stands_108 : decode cX6_stands 108 = .ok (.laload, 1) := by decide +kernel
theorem dX6_stands_109 : decode cX6_stands 109 = .ok (.lcmp, 1) := by decide +kernel
theorem dX6_stands_110 : decode cX6_stands 110 = .ok (.ifCond .ge 7, 3) := by decide +kernel
theorem dX6_stands_113 : decode cX6_stands 113 = .ok (.iconst 1, 1) := by decide +kernel
theorem dX6_stands_114 : decode cX6_stands 114 = .ok (.goto 4, 3) := by decide +kernel
theorem dX6_stands_117 : decode cX6_stands 117 = .ok (.iconst 2, 1) := by decide +kernel
theorem dX6_stands_118 : decode cX6_stands 118 = .ok (.ireturn, 1) := by decide +kernel
theorem dX6_heldBy_0 : decode cX6_heldBy 0 = .ok (.lconst 0, 1) := by decide +kernel
theorem dX6_heldBy_1 : decode cX6_heldBy 1 = .ok (.lstore_n 2, 1) := by decide +kernel
theorem dX6_heldBy_2 : decode cX6_heldBy 2 = .ok (.iconst 0, 1) := by decide +kernel
theorem dX6_heldBy_3 : decode cX6_heldBy 3 = .ok (.istore 4, 2) := by decide +kernel
theorem dX6_heldBy_5 : decode cX6_heldBy 5 = .ok (.iload 4, 2) := by decide +kernel
theorem dX6_heldBy_7 : decode cX6_heldBy 7 = .ok (.bipush 60, 2) := by decide +kernel
theorem dX6_heldBy_9 : decode cX6_heldBy 9 = .ok (.if_icmp .ge 28, 3) := by decide +kernel
theorem dX6_heldBy_12 : decode cX6_heldBy 12 = .ok (.lload_n 2, 1) := by decide +kernel
theorem dX6_heldBy_13 : decode cX6_heldBy 13 = .ok (.aload_n 0, 1) := by decide +kernel
theorem dX6_heldBy_14 : decode cX6_heldBy 14 = .ok (.getfield 7, 3) := by decide +kernel
theorem dX6_heldBy_17 : decode cX6_heldBy 17 = .ok (.sipush 3263, 3) := by decide +kernel
theorem dX6_heldBy_20 : decode cX6_heldBy 20 = .ok (.bipush 60, 2) := by decide +kernel
theorem dX6_heldBy_22 : decode cX6_heldBy 22 = .ok (.iload_n 1, 1) := by decide +kernel
theorem dX6_heldBy_23 : decode cX6_heldBy 23 = .ok (.imul, 1) := by decide +kernel
theorem dX6_heldBy_24 : decode cX6_heldBy 24 = .ok (.iadd, 1) := by decide +kernel
theorem dX6_heldBy_25 : decode cX6_heldBy 25 = .ok (.iload 4, 2) := by decide +kernel
theorem dX6_heldBy_27 : decode cX6_heldBy 27 = .ok (.iadd, 1) := by decide +kernel
theorem dX6_heldBy_28 : decode cX6_heldBy 28 = .ok (.laload, 1) := by decide +kernel
theorem dX6_heldBy_29 : decode cX6_heldBy 29 = .ok (.ladd, 1) := by decide +kernel
theorem dX6_heldBy_30 : decode cX6_heldBy 30 = .ok (.lstore_n 2, 1) := by decide +kernel
theorem dX6_heldBy_31 : decode cX6_heldBy 31 = .ok (.iinc 4 1, 3) := by decide +kernel
theorem dX6_heldBy_34 : decode cX6_heldBy 34 = .ok (.goto (-29), 3) := by decide +kernel
theorem dX6_heldBy_37 : decode cX6_heldBy 37 = .ok (.lload_n 2, 1) := by decide +kernel
theorem dX6_heldBy_38 : decode cX6_heldBy 38 = .ok (.lreturn, 1) := by decide +kernel
theorem dX6_share_0 : decode cX6_share 0 = .ok (.aload_n 0, 1) := by decide +kernel
theorem dX6_share_1 : decode cX6_share 1 = .ok (.iload_n 1, 1) := by decide +kernel
theorem dX6_share_2 : decode cX6_share 2 = .ok (.invokevirtual 92, 3) := by decide +kernel
theorem dX6_share_5 : decode cX6_share 5 = .ok (.ifCond .eq 15, 3) := by decide +kernel
theorem dX6_share_8 : decode cX6_share 8 = .ok (.iload_n 2, 1) := by decide +kernel
theorem dX6_share_9 : decode cX6_share 9 = .ok (.i2l, 1) := by decide +kernel
theorem dX6_share_10 : decode cX6_share 10 = .ok (.lconst 0, 1) := by decide +kernel
theorem dX6_share_11 : decode cX6_share 11 = .ok (.ldc2_w 112, 3) := by decide +kernel
theorem dX6_share_14 : decode cX6_share 14 = .ok (.invokestatic 35, 3) := by decide +kernel
theorem dX6_share_17 : decode cX6_share 17 = .ok (.ifCond .ne 7, 3) := by decide +kernel
theorem dX6_share_20 : decode cX6_share 20 = .ok (.ldc2_w 41, 3) := by decide +kernel
theorem dX6_share_23 : decode cX6_share 23 = .ok (.lreturn, 1) := by decide +kernel
theorem dX6_share_24 : decode cX6_share 24 = .ok (.iload_n 2, 1) := by decide +kernel
theorem dX6_share_25 : decode cX6_share 25 = .ok (.tableswitch 84 8 12 #[35, 41, 53, 65, 72], 35) := by decide +kernel
theorem dX6_share_60 : decode cX6_share 60 = .ok (.aload_n 0, 1) := by decide +kernel
theorem dX6_share_61 : decode cX6_share 61 = .ok (.iload_n 1, 1) := by decide +kernel
theorem dX6_share_62 : decode cX6_share 62 = .ok (.invokevirtual 114, 3) := by decide +kernel
theorem dX6_share_65 : decode cX6_share 65 = .ok (.lreturn, 1) := by decide +kernel
theorem dX6_share_66 : decode cX6_share 66 = .ok (.aload_n 0, 1) := by decide +kernel
theorem dX6_share_67 : decode cX6_share 67 = .ok (.getfield 7, 3) := by decide +kernel
theorem dX6_share_70 : decode cX6_share 70 = .ok (.iload_n 1, 1) := by decide +kernel
theorem dX6_share_71 : decode cX6_share 71 = .ok (.bipush 8, 2) := by decide +kernel
theorem dX6_share_73 : decode cX6_share 73 = .ok (.invokestatic 89, 3) := by decide +kernel
theorem dX6_share_76 : decode cX6_share 76 = .ok (.laload, 1) := by decide +kernel
theorem dX6_share_77 : decode cX6_share 77 = .ok (.lreturn, 1) := by decide +kernel
theorem dX6_share_78 : decode cX6_share 78 = .ok (.aload_n 0, 1) := by decide +kernel
theorem dX6_share_79 : decode cX6_share 79 = .ok (.getfield 7, 3) := by decide +kernel
theorem dX6_share_82 : decode cX6_share 82 = .ok (.iload_n 1, 1) := by decide +kernel
theorem dX6_share_83 : decode cX6_share 83 = .ok (.bipush 10, 2) := by decide +kernel
theorem dX6_share_85 : decode cX6_share 85 = .ok (.invokestatic 89, 3) := by decide +kernel
theorem dX6_share_88 : decode cX6_share 88 = .ok (.laload, 1) := by decide +kernel
theorem dX6_share_89 : decode cX6_share 89 = .ok (.lreturn, 1) := by decide +kernel
theorem dX6_share_90 : decode cX6_share 90 = .ok (.aload_n 0, 1) := by decide +kernel
theorem dX6_share_91 : decode cX6_share 91 = .ok (.iload_n 1, 1) := by decide +kernel
theorem dX6_share_92 : decode cX6_share 92 = .ok (.invokevirtual 117, 3) := by decide +kernel
theorem dX6_share_95 : decode cX6_share 95 = .ok (.i2l, 1) := by decide +kernel
theorem dX6_share_96 : decode cX6_share 96 = .ok (.lreturn, 1) := by decide +kernel
theorem dX6_share_97 : decode cX6_share 97 = .ok (.aload_n 0, 1) := by decide +kernel
theorem dX6_share_98 : decode cX6_share 98 = .ok (.getfield 7, 3) := by decide +kernel
theorem dX6_share_101 : decode cX6_share 101 = .ok (.iload_n 1, 1) := by decide +kernel
theorem dX6_share_102 : decode cX6_share 102 = .ok (.bipush 12, 2) := by decide +kernel
theorem dX6_share_104 : decode cX6_share 104 = .ok (.invokestatic 89, 3) := by decide +kernel
theorem dX6_share_107 : decode cX6_share 107 = .ok (.laload, 1) := by decide +kernel
theorem dX6_share_108 : decode cX6_share 108 = .ok (.lreturn, 1) := by decide +kernel
theorem dX6_share_109 : decode cX6_share 109 = .ok (.aload_n 0, 1) := by decide +kernel
theorem dX6_share_110 : decode cX6_share 110 = .ok (.getfield 7, 3) := by decide +kernel
theorem dX6_share_113 : decode cX6_share 113 = .ok (.iload_n 1, 1) := by decide +kernel
theorem dX6_share_114 : decode cX6_share 114 = .ok (.iload_n 2, 1) := by decide +kernel
theorem dX6_share_115 : decode cX6_share 115 = .ok (.invokestatic 89, 3) := by decide +kernel
theorem dX6_share_118 : decode cX6_share 118 = .ok (.laload, 1) := by decide +kernel
theorem dX6_share_119 : decode cX6_share 119 = .ok (.lreturn, 1) := by decide +kernel
theorem dX6_drew_0 : decode cX6_drew 0 = .ok (.aload_n 0, 1) := by decide +kernel
theorem dX6_drew_1 : decode cX6_drew 1 = .ok (.iload_n 1, 1) := by decide +kernel
theorem dX6_drew_2 : decode cX6_drew 2 = .ok (.invokevirtual 92, 3) := by decide +kernel
theorem dX6_drew_5 : decode cX6_drew 5 = .ok (.ifCond .eq 40, 3) := by decide +kernel
theorem dX6_drew_8 : decode cX6_drew 8 = .ok (.iload_n 2, 1) := by decide +kernel
theorem dX6_drew_9 : decode cX6_drew 9 = .ok (.i2l, 1) := by decide +kernel
theorem dX6_drew_10 : decode cX6_drew 10 = .ok (.lconst 0, 1) := by decide +kernel
theorem dX6_drew_11 : decode cX6_drew 11 = .ok (.aload_n 0, 1) := by decide +kernel
theorem dX6_drew_12 : decode cX6_drew 12 = .ok (.getfield 7, 3) := by decide +kernel
theorem dX6_drew_15 : decode cX6_drew 15 = .ok (.sipush 5663, 3) := by decide +kernel
theorem dX6_drew_18 : decode cX6_drew 18 = .ok (.laload, 1) := by decide +kernel
theorem dX6_drew_19 : decode cX6_drew 19 = .ok (.lconst 1, 1) := by decide +kernel
theorem dX6_drew_20 : decode cX6_drew 20 = .ok (.lsub, 1) := by decide +kernel
theorem dX6_drew_21 : decode cX6_drew 21 = .ok (.invokestatic 35, 3) := by decide +kernel
theorem dX6_drew_24 : decode cX6_drew 24 = .ok (.ifCond .eq 21, 3) := by decide +kernel
theorem dX6_drew_27 : decode cX6_drew 27 = .ok (.aload_n 0, 1) := by decide +kernel
theorem dX6_drew_28 : decode cX6_drew 28 = .ok (.getfield 7, 3) := by decide +kernel
theorem dX6_drew_31 : decode cX6_drew 31 = .ok (.sipush 863, 3) := by decide +kernel
theorem dX6_drew_34 : decode cX6_drew 34 = .ok (.bipush 60, 2) := by decide +kernel
theorem dX6_drew_36 : decode cX6_drew 36 = .ok (.iload_n 1, 1) := by decide +kernel
theorem dX6_drew_37 : decode cX6_drew 37 = .ok (.imul, 1) := by decide +kernel
theorem dX6_drew_38 : decode cX6_drew 38 = .ok (.iadd, 1) := by decide +kernel
theorem dX6_drew_39 : decode cX6_drew 39 = .ok (.iload_n 2, 1) := by decide +kernel
theorem dX6_drew_40 : decode cX6_drew 40 = .ok (.iadd, 1) := by decide +kernel
theorem dX6_drew_41 : decode cX6_drew 41 = .ok (.laload, 1) := by decide +kernel
theorem dX6_drew_42 : decode cX6_drew 42 = .ok (.goto 6, 3) := by decide +kernel
theorem dX6_drew_45 : decode cX6_drew 45 = .ok (.ldc2_w 41, 3) := by decide +kernel
theorem dX6_drew_48 : decode cX6_drew 48 = .ok (.lreturn, 1) := by decide +kernel
theorem dX6_pays_0 : decode cX6_pays 0 = .ok (.lload_n 2, 1) := by decide +kernel
theorem dX6_pays_1 : decode cX6_pays 1 = .ok (.aload_n 0, 1) := by decide +kernel
theorem dX6_pays_2 : decode cX6_pays 2 = .ok (.getfield 7, 3) := by decide +kernel
theorem dX6_pays_5 : decode cX6_pays 5 = .ok (.sipush 5667, 3) := by decide +kernel
theorem dX6_pays_8 : decode cX6_pays 8 = .ok (.laload, 1) := by decide +kernel
theorem dX6_pays_9 : decode cX6_pays 9 = .ok (.lmul, 1) := by decide +kernel
theorem dX6_pays_10 : decode cX6_pays 10 = .ok (.ldc2_w 45, 3) := by decide +kernel
theorem dX6_pays_13 : decode cX6_pays 13 = .ok (.ldiv, 1) := by decide +kernel
theorem dX6_pays_14 : decode cX6_pays 14 = .ok (.lstore 4, 2) := by decide +kernel
theorem dX6_pays_16 : decode cX6_pays 16 = .ok (.aload_n 0, 1) := by decide +kernel
theorem dX6_pays_17 : decode cX6_pays 17 = .ok (.getfield 7, 3) := by decide +kernel
theorem dX6_pays_20 : decode cX6_pays 20 = .ok (.sipush 5665, 3) := by decide +kernel
theorem dX6_pays_23 : decode cX6_pays 23 = .ok (.dup2, 1) := by decide +kernel
theorem dX6_pays_24 : decode cX6_pays 24 = .ok (.laload, 1) := by decide +kernel
theorem dX6_pays_25 : decode cX6_pays 25 = .ok (.lload 4, 2) := by decide +kernel
theorem dX6_pays_27 : decode cX6_pays 27 = .ok (.ladd, 1) := by decide +kernel
theorem dX6_pays_28 : decode cX6_pays 28 = .ok (.lastore, 1) := by decide +kernel
theorem dX6_pays_29 : decode cX6_pays 29 = .ok (.lload_n 2, 1) := by decide +kernel
theorem dX6_pays_30 : decode cX6_pays 30 = .ok (.lload 4, 2) := by decide +kernel
theorem dX6_pays_32 : decode cX6_pays 32 = .ok (.lsub, 1) := by decide +kernel
theorem dX6_pays_33 : decode cX6_pays 33 = .ok (.lstore 6, 2) := by decide +kernel
theorem dX6_pays_35 : decode cX6_pays 35 = .ok (.aload_n 0, 1) := by decide +kernel
theorem dX6_pays_36 : decode cX6_pays 36 = .ok (.getfield 7, 3) := by decide +kernel
theorem dX6_pays_39 : decode cX6_pays 39 = .ok (.iload_n 1, 1) := by decide +kernel
theorem dX6_pays_40 : decode cX6_pays 40 = .ok (.iconst 0, 1) := by decide +kernel
theorem dX6_pays_41 : decode cX6_pays 41 = .ok (.invokestatic 89, 3) := by decide +kernel
theorem dX6_pays_44 : decode cX6_pays 44 = .ok (.laload, 1) := by decide +kernel
theorem dX6_pays_45 : decode cX6_pays 45 = .ok (.l2i, 1) := by decide +kernel
theorem dX6_pays_46 : decode cX6_pays 46 = .ok (.iconst 2, 1) := by decide +kernel
theorem dX6_pays_47 : decode cX6_pays 47 = .ok (.invokestatic 63, 3) := by decide +kernel
theorem dX6_pays_50 : decode cX6_pays 50 = .ok (.istore 8, 2) := by decide +kernel
theorem dX6_pays_52 : decode cX6_pays 52 = .ok (.aload_n 0, 1) := by decide +kernel
theorem dX6_pays_53 : decode cX6_pays 53 = .ok (.getfield 7, 3) := by decide +kernel
theorem dX6_pays_56 : decode cX6_pays 56 = .ok (.iload 8, 2) := by decide +kernel
theorem dX6_pays_58 : decode cX6_pays 58 = .ok (.laload, 1) := by decide +kernel
theorem dX6_pays_59 : decode cX6_pays 59 = .ok (.lload 6, 2) := by decide +kernel
theorem dX6_pays_61 : decode cX6_pays 61 = .ok (.lcmp, 1) := by decide +kernel
theorem dX6_pays_62 : decode cX6_pays 62 = .ok (.ifCond .ge 13, 3) := by decide +kernel
theorem dX6_pays_65 : decode cX6_pays 65 = .ok (.aload_n 0, 1) := by decide +kernel
theorem dX6_pays_66 : decode cX6_pays 66 = .ok (.getfield 7, 3) := by decide +kernel

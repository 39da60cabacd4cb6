theorem dX0_init_0 : decode cX0_init 0 = .ok (.aload_n 0, 1) := by decide +kernel
theorem dX0_init_1 : decode cX0_init 1 = .ok (.invokespecial 3, 3) := by decide +kernel
theorem dX0_init_4 : decode cX0_init 4 = .ok (.aload_n 0, 1) := by decide +kernel
theorem dX0_init_5 : decode cX0_init 5 = .ok (.new 9, 3) := by decide +kernel
theorem dX0_init_8 : decode cX0_init 8 = .ok (.dup, 1) := by decide +kernel
theorem dX0_init_9 : decode cX0_init 9 = .ok (.invokespecial 11, 3) := by decide +kernel
theorem dX0_init_12 : decode cX0_init 12 = .ok (.putfield 12, 3) := by decide +kernel
theorem dX0_init_15 : decode cX0_init 15 = .ok (.aload_n 0, 1) := by decide +kernel
theorem dX0_init_16 : decode cX0_init 16 = .ok (.bipush 24, 2) := by decide +kernel
theorem dX0_init_18 : decode cX0_init 18 = .ok (.anewarray 18, 3) := by decide +kernel
theorem dX0_init_21 : decode cX0_init 21 = .ok (.putfield 20, 3) := by decide +kernel
theorem dX0_init_24 : decode cX0_init 24 = .ok (.aload_n 0, 1) := by decide +kernel
theorem dX0_init_25 : decode cX0_init 25 = .ok (.bipush 6, 2) := by decide +kernel
theorem dX0_init_27 : decode cX0_init 27 = .ok (.anewarray 24, 3) := by decide +kernel
theorem dX0_init_30 : decode cX0_init 30 = .ok (.putfield 26, 3) := by decide +kernel
theorem dX0_init_33 : decode cX0_init 33 = .ok (.aload_n 0, 1) := by decide +kernel
theorem dX0_init_34 : decode cX0_init 34 = .ok (.bipush 40, 2) := by decide +kernel
theorem dX0_init_36 : decode cX0_init 36 = .ok (.anewarray 30, 3) := by decide +kernel
theorem dX0_init_39 : decode cX0_init 39 = .ok (.putfield 32, 3) := by decide +kernel
theorem dX0_init_42 : decode cX0_init 42 = .ok (.aload_n 0, 1) := by decide +kernel
theorem dX0_init_43 : decode cX0_init 43 = .ok (.iconst 2, 1) := by decide +kernel
theorem dX0_init_44 : decode cX0_init 44 = .ok (.putfield 36, 3) := by decide +kernel
theorem dX0_init_47 : decode cX0_init 47 = .ok (.iconst 0, 1) := by decide +kernel
theorem dX0_init_48 : decode cX0_init 48 = .ok (.istore_n 1, 1) := by decide +kernel
theorem dX0_init_49 : decode cX0_init 49 = .ok (.iload_n 1, 1) := by decide +kernel
theorem dX0_init_50 : decode cX0_init 50 = .ok (.bipush 24, 2) := by decide +kernel
theorem dX0_init_52 : decode cX0_init 52 = .ok (.if_icmp .ge 22, 3) := by decide +kernel
theorem dX0_init_55 : decode cX0_init 55 = .ok (.aload_n 0, 1) := by decide +kernel
theorem dX0_init_56 : decode cX0_init 56 = .ok (.getfield 20, 3) := by decide +kernel
theorem dX0_init_59 : decode cX0_init 59 = .ok (.iload_n 1, 1) := by decide +kernel
theorem dX0_init_60 : decode cX0_init 60 = .ok (.new 18, 3) := by decide +kernel
theorem dX0_init_63 : decode cX0_init 63 = .ok (.dup, 1) := by decide +kernel
theorem dX0_init_64 : decode cX0_init 64 = .ok (.invokespecial 40, 3) := by decide +kernel
theorem dX0_init_67 : decode cX0_init 67 = .ok (.aastore, 1) := by decide +kernel
theorem dX0_init_68 : decode cX0_init 68 = .ok (.iinc 1 1, 3) := by decide +kernel
theorem dX0_init_71 : decode cX0_init 71 = .ok (.goto (-22), 3) := by decide +kernel
theorem dX0_init_74 : decode cX0_init 74 = .ok (.iconst 0, 1) := by decide +kernel
theorem dX0_init_75 : decode cX0_init 75 = .ok (.istore_n 1, 1) := by decide +kernel
theorem dX0_init_76 : decode cX0_init 76 = .ok (.iload_n 1, 1) := by decide +kernel
theorem dX0_init_77 : decode cX0_init 77 = .ok (.bipush 6, 2) := by decide +kernel
theorem dX0_init_79 : decode cX0_init 79 = .ok (.if_icmp .ge 22, 3) := by decide +kernel
theorem dX0_init_82 : decode cX0_init 82 = .ok (.aload_n 0, 1) := by decide +kernel
theorem dX0_init_83 : decode cX0_init 83 = .ok (.getfield 26, 3) := by decide +kernel
theorem dX0_init_86 : decode cX0_init 86 = .ok (.iload_n 1, 1) := by decide +kernel
theorem dX0_init_87 : decode cX0_init 87 = .ok (.new 24, 3) := by decide +kernel
theorem dX0_init_90 : decode cX0_init 90 = .ok (.dup, 1) := by decide +kernel
theorem dX0_init_91 : decode cX0_init 91 = .ok (.invokespecial 41, 3) := by decide +kernel
theorem dX0_init_94 : decode cX0_init 94 = .ok (.aastore, 1) := by decide +kernel
theorem dX0_init_95 : decode cX0_init 95 = .ok (.iinc 1 1, 3) := by decide +kernel
theorem dX0_init_98 : decode cX0_init 98 = .ok (.goto (-22), 3) := by decide +kernel
theorem dX0_init_101 : decode cX0_init 101 = .ok (.iconst 0, 1) := by decide +kernel
theorem dX0_init_102 : decode cX0_init 102 = .ok (.istore_n 1, 1) := by decide +kernel
theorem dX0_init_103 : decode cX0_init 103 = .ok (.iload_n 1, 1) := by decide +kernel
theorem dX0_init_104 : decode cX0_init 104 = .ok (.bipush 40, 2) := by decide +kernel
theorem dX0_init_106 : decode cX0_init 106 = .ok (.if_icmp .ge 22, 3) := by decide +kernel
theorem dX0_init_109 : decode cX0_init 109 = .ok (.aload_n 0, 1) := by decide +kernel
theorem dX0_init_110 : decode cX0_init 110 = .ok (.getfield 32, 3) := by decide +kernel
theorem dX0_init_113 : decode cX0_init 113 = .ok (.iload_n 1, 1) := by decide +kernel
theorem dX0_init_114 : decode cX0_init 114 = .ok (.new 30, 3) := by decide +kernel
theorem dX0_init_117 : decode cX0_init 117 = .ok (.dup, 1) := by decide +kernel
theorem dX0_init_118 : decode cX0_init 118 = .ok (.invokespecial 42, 3) := by decide +kernel
theorem dX0_init_121 : decode cX0_init 121 = .ok (.aastore, 1) := by decide +kernel
theorem dX0_init_122 : decode cX0_init 122 = .ok (.iinc 1 1, 3) := by decide +kernel
theorem dX0_init_125 : decode cX0_init 125 = .ok (.goto (-22), 3) := by decide +kernel
theorem dX0_init_128 : decode cX0_init 128 = .ok (.return_, 1) := by decide +kernel
theorem dX0_copyFrom_0 : decode cX0_copyFrom 0 = .ok (.aload_n 0, 1) := by decide +kernel
theorem dX0_copyFrom_1 : decode cX0_copyFrom 1 = .ok (.getfield 12, 3) := by decide +kernel
theorem dX0_copyFrom_4 : decode cX0_copyFrom 4 = .ok (.aload_n 1, 1) := by decide +kernel
theorem dX0_copyFrom_5 : decode cX0_copyFrom 5 = .ok (.getfield 12, 3) := by decide +kernel
theorem dX0_copyFrom_8 : decode cX0_copyFrom 8 = .ok (.invokevirtual 43, 3) := by decide +kernel
theorem dX0_copyFrom_11 : decode cX0_copyFrom 11 = .ok (.aload_n 0, 1) := by decide +kernel
theorem dX0_copyFrom_12 : decode cX0_copyFrom 12 = .ok (.aload_n 1, 1) := by decide +kernel
theorem dX0_copyFrom_13 : decode cX0_copyFrom 13 = .ok (.getfield 47, 3) := by decide +kernel
theorem dX0_copyFrom_16 : decode cX0_copyFrom 16 = .ok (.putfield 47, 3) := by decide +kernel
theorem dX0_copyFrom_19 : decode cX0_copyFrom 19 = .ok (.aload_n 0, 1) := by decide +kernel
theorem dX0_copyFrom_20 : decode cX0_copyFrom 20 = .ok (.aload_n 1, 1) := by decide +kernel
theorem dX0_copyFrom_21 : decode cX0_copyFrom 21 = .ok (.getfield 50, 3) := by decide +kernel
theorem dX0_copyFrom_24 : decode cX0_copyFrom 24 = .ok (.putfield 50, 3) := by decide +kernel
theorem dX0_copyFrom_27 : decode cX0_copyFrom 27 = .ok (.aload_n 0, 1) := by decide +kernel
theorem dX0_copyFrom_28 : decode cX0_copyFrom 28 = .ok (.aload_n 1, 1) := by decide +kernel
theorem dX0_copyFrom_29 : decode cX0_copyFrom 29 = .ok (.getfield 53, 3) := by decide +kernel
theorem dX0_copyFrom_32 : decode cX0_copyFrom 32 = .ok (.putfield 53, 3) := by decide +kernel
theorem dX0_copyFrom_35 : decode cX0_copyFrom 35 = .ok (.aload_n 0, 1) := by decide +kernel
theorem dX0_copyFrom_36 : decode cX0_copyFrom 36 = .ok (.aload_n 1, 1) := by decide +kernel
theorem dX0_copyFrom_37 : decode cX0_copyFrom 37 = .ok (.getfield 56, 3) := by decide +kernel
theorem dX0_copyFrom_40 : decode cX0_copyFrom 40 = .ok (.putfield 56, 3) := by decide +kernel
theorem dX0_copyFrom_43 : decode cX0_copyFrom 43 = .ok (.aload_n 0, 1) := by decide +kernel
theorem dX0_copyFrom_44 : decode cX0_copyFrom 44 = .ok (.aload_n 1, 1) := by decide +kernel
theorem dX0_copyFrom_45 : decode cX0_copyFrom 45 = .ok (.getfield 36, 3) := by decide +kernel
theorem dX0_copyFrom_48 : decode cX0_copyFrom 48 = .ok (.putfield 36, 3) := by decide +kernel
theorem dX0_copyFrom_51 : decode cX0_copyFrom 51 = .ok (.aload_n 0, 1) := by decide +kernel
theorem dX0_copyFrom_52 : decode cX0_copyFrom 52 = .ok (.aload_n 1, 1) := by decide +kernel
theorem dX0_copyFrom_53 : decode cX0_copyFrom 53 = .ok (.getfield 59, 3) := by decide +kernel
theorem dX0_copyFrom_56 : decode cX0_copyFrom 56 = .ok (.putfield 59, 3) := by decide +kernel
theorem dX0_copyFrom_59 : decode cX0_copyFrom 59 = .ok (.aload_n 0, 1) := by decide +kernel
theorem dX0_copyFrom_60 : decode cX0_copyFrom 60 = .ok (.aload_n 1, 1) := by decide +kernel
theorem dX0_copyFrom_61 : decode cX0_copyFrom 61 = .ok (.getfield 62, 3) := by decide +kernel
theorem dX0_copyFrom_64 : decode cX0_copyFrom 64 = .ok (.putfield 62, 3) := by decide +kernel
theorem dX0_copyFrom_67 : decode cX0_copyFrom 67 = .ok (.aload_n 0, 1) := by decide +kernel
theorem dX0_copyFrom_68 : decode cX0_copyFrom 68 = .ok (.aload_n 1, 1) := by decide +kernel
theorem dX0_copyFrom_69 : decode cX0_copyFrom 69 = .ok (.getfield 66, 3) := by decide +kernel
theorem dX0_copyFrom_72 : decode cX0_copyFrom 72 = .ok (.putfield 66, 3) := by decide +kernel
theorem dX0_copyFrom_75 : decode cX0_copyFrom 75 = .ok (.aload_n 0, 1) := by decide +kernel
theorem dX0_copyFrom_76 : decode cX0_copyFrom 76 = .ok (.aload_n 1, 1) := by decide +kernel
theorem dX0_copyFrom_77 : decode cX0_copyFrom 77 = .ok (.getfield 69, 3) := by decide +kernel
theorem dX0_copyFrom_80 : decode cX0_copyFrom 80 = .ok (.putfield 69, 3) := by decide +kernel
theorem dX0_copyFrom_83 : decode cX0_copyFrom 83 = .ok (.iconst 0, 1) := by decide +kernel
theorem dX0_copyFrom_84 : decode cX0_copyFrom 84 = .ok (.istore_n 2, 1) := by decide +kernel
theorem dX0_copyFrom_85 : decode cX0_copyFrom 85 = .ok (.iload_n 2, 1) := by decide +kernel
theorem dX0_copyFrom_86 : decode cX0_copyFrom 86 = .ok (.aload_n 0, 1) := by decide +kernel
theorem dX0_copyFrom_87 : decode cX0_copyFrom 87 = .ok (.getfield 47, 3) := by decide +kernel
theorem dX0_copyFrom_90 : decode cX0_copyFrom 90 = .ok (.if_icmp .ge 24, 3) := by decide +kernel
theorem dX0_copyFrom_93 : decode cX0_copyFrom 93 = .ok (.aload_n 0, 1) := by decide +kernel
theorem dX0_copyFrom_94 : decode cX0_copyFrom 94 = .ok (.getfield 20, 3) := by decide +kernel
theorem dX0_copyFrom_97 : decode cX0_copyFrom 97 = .ok (.iload_n 2, 1) := by decide +kernel
theorem dX0_copyFrom_98 : decode cX0_copyFrom 98 = .ok (.aaload, 1) := by decide +kernel
theorem dX0_copyFrom_99 : decode cX0_copyFrom 99 = .ok (.aload_n 1, 1) := by decide +kernel
theorem dX0_copyFrom_100 : decode cX0_copyFrom 100 = .ok (.getfield 20, 3) := by decide +kernel
theorem dX0_copyFrom_103 : decode cX0_copyFrom 103 = .ok (.iload_n 2, 1) := by decide +kernel
theorem dX0_copyFrom_104 : decode cX0_copyFrom 104 = .ok (.aaload, 1) := by decide +kernel
theorem dX0_copyFrom_105 : decode cX0_copyFrom 105 = .ok (.invokevirtual 72, 3) := by decide +kernel
theorem dX0_copyFrom_108 : decode cX0_copyFrom 108 = .ok (.iinc 2 1, 3) := by decide +kernel
theorem dX0_copyFrom_111 : decode cX0_copyFrom 111 = .ok (.goto (-26), 3) := by decide +kernel
theorem dX0_copyFrom_114 : decode cX0_copyFrom 114 = .ok (.iconst 0, 1) := by decide +kernel
theorem dX0_copyFrom_115 : decode cX0_copyFrom 115 = .ok (.istore_n 2, 1) := by decide +kernel
theorem dX0_copyFrom_116 : decode cX0_copyFrom 116 = .ok (.iload_n 2, 1) := by decide +kernel
theorem dX0_copyFrom_117 : decode cX0_copyFrom 117 = .ok (.aload_n 0, 1) := by decide +kernel
theorem dX0_copyFrom_118 : decode cX0_copyFrom 118 = .ok (.getfield 50, 3) := by decide +kernel
theorem dX0_copyFrom_121 : decode cX0_copyFrom 121 = .ok (.if_icmp .ge 24, 3) := by decide +kernel
theorem dX0_copyFrom_124 : decode cX0_copyFrom 124 = .ok (.aload_n 0, 1) := by decide +kernel
theorem dX0_copyFrom_125 : decode cX0_copyFrom 125 = .ok (.getfield 26, 3) := by decide +kernel
theorem dX0_copyFrom_128 : decode cX0_copyFrom 128 = .ok (.iload_n 2, 1) := by decide +kernel
theorem dX0_copyFrom_129 : decode cX0_copyFrom 129 = .ok (.aaload, 1) := by decide +kernel
theorem dX0_copyFrom_130 : decode cX0_copyFrom 130 = .ok (.aload_n 1, 1) := by decide +kernel
theorem dX0_copyFrom_131 : decode cX0_copyFrom 131 = .ok (.getfield 26, 3) := by decide +kernel
theorem dX0_copyFrom_134 : decode cX0_copyFrom 134 = .ok (.iload_n 2, 1) := by decide +kernel
theorem dX0_copyFrom_135 : decode cX0_copyFrom 135 = .ok (.aaload, 1) := by decide +kernel
theorem dX0_copyFrom_136 : decode cX0_copyFrom 136 = .ok (.invokevirtual 75, 3) := by decide +kernel
theorem dX0_copyFrom_139 : decode cX0_copyFrom 139 = .ok (.iinc 2 1, 3) := by decide +kernel
theorem dX0_copyFrom_142 : decode cX0_copyFrom 142 = .ok (.goto (-26), 3) := by decide +kernel
theorem dX0_copyFrom_145 : decode cX0_copyFrom 145 = .ok (.iconst 0, 1) := by decide +kernel
theorem dX0_copyFrom_146 : decode cX0_copyFrom 146 = .ok (.istore_n 2, 1) := by decide +kernel
theorem dX0_copyFrom_147 : decode cX0_copyFrom 147 = .ok (.iload_n 2, 1) := by decide +kernel
theorem dX0_copyFrom_148 : decode cX0_copyFrom 148 = .ok (.aload_n 0, 1) := by decide +kernel
theorem dX0_copyFrom_149 : decode cX0_copyFrom 149 = .ok (.getfield 53, 3) := by decide +kernel
theorem dX0_copyFrom_152 : decode cX0_copyFrom 152 = .ok (.if_icmp .ge 24, 3) := by decide +kernel
theorem dX0_copyFrom_155 : decode cX0_copyFrom 155 = .ok (.aload_n 0, 1) := by decide +kernel
theorem dX0_copyFrom_156 : decode cX0_copyFrom 156 = .ok (.getfield 32, 3) := by decide +kernel
theorem dX0_copyFrom_159 : decode cX0_copyFrom 159 = .ok (.iload_n 2, 1) := by decide +kernel
theorem dX0_copyFrom_160 : decode cX0_copyFrom 160 = .ok (.aaload, 1) := by decide +kernel
theorem dX0_copyFrom_161 : decode cX0_copyFrom 161 = .ok (.aload_n 1, 1) := by decide +kernel
theorem dX0_copyFrom_162 : decode cX0_copyFrom 162 = .ok (.getfield 32, 3) := by decide +kernel
theorem dX0_copyFrom_165 : decode cX0_copyFrom 165 = .ok (.iload_n 2, 1) := by decide +kernel
theorem dX0_copyFrom_166 : decode cX0_copyFrom 166 = .ok (.aaload, 1) := by decide +kernel
theorem dX0_copyFrom_167 : decode cX0_copyFrom 167 = .ok (.invokevirtual 78, 3) := by decide +kernel
theorem dX0_copyFrom_170 : decode cX0_copyFrom 170 = .ok (.iinc 2 1, 3) := by decide +kernel
theorem dX0_copyFrom_173 : decode cX0_copyFrom 173 = .ok (.goto (-26), 3) := by decide +kernel
theorem dX0_copyFrom_176 : decode cX0_copyFrom 176 = .ok (.return_, 1) := by decide +kernel
theorem dX0_isMember_0 : decode cX0_isMember 0 = .ok (.iload_n 1, 1) := by decide +kernel
theorem dX0_isMember_1 : decode cX0_isMember 1 = .ok (.ifCond .lt 15, 3) := by decide +kernel
theorem dX0_isMember_4 : decode cX0_isMember 4 = .ok (.iload_n 1, 1) := by decide +kernel
theorem dX0_isMember_5 : decode cX0_isMember 5 = .ok (.aload_n 0, 1) := by decide +kernel
theorem dX0_isMember_6 : decode cX0_isMember 6 = .ok (.getfield 47, 3) := by decide +kernel
theorem dX0_isMember_9 : decode cX0_isMember 9 = .ok (.if_icmp .ge 7, 3) := by decide +kernel
theorem dX0_isMember_12 : decode cX0_isMember 12 = .ok (.iconst 1, 1) := by decide +kernel
theorem dX0_isMember_13 : decode cX0_isMember 13 = .ok (.goto 4, 3) := by decide +kernel
theorem dX0_isMember_16 : decode cX0_isMember 16 = .ok (.iconst 0, 1) := by decide +kernel
theorem dX0_isMember_17 : decode cX0_isMember 17 = .ok (.ireturn, 1) := by decide +kernel
theorem dX0_isRank_0 : decode cX0_isRank 0 = .ok (.iload_n 1, 1) := by decide +kernel
theorem dX0_isRank_1 : decode cX0_isRank 1 = .ok (.ifCond .lt 15, 3) := by decide +kernel
theorem dX0_isRank_4 : decode cX0_isRank 4 = .ok (.iload_n 1, 1) := by decide +kernel
theorem dX0_isRank_5 : decode cX0_isRank 5 = .ok (.aload_n 0, 1) := by decide +kernel
theorem dX0_isRank_6 : decode cX0_isRank 6 = .ok (.getfield 50, 3) := by decide +kernel
theorem dX0_isRank_9 : decode cX0_isRank 9 = .ok (.if_icmp .ge 7, 3) := by decide +kernel
theorem dX0_isRank_12 : decode cX0_isRank 12 = .ok (.iconst 1, 1) := by decide +kernel
theorem dX0_isRank_13 : decode cX0_isRank 13 = .ok (.goto 4, 3) := by decide +kernel
theorem dX0_isRank_16 : decode cX0_isRank 16 = .ok (.iconst 0, 1) := by decide +kernel
theorem dX0_isRank_17 : decode cX0_isRank 17 = .ok (.ireturn, 1) := by decide +kernel
theorem dX0_isShare_0 : decode cX0_isShare 0 = .ok (.iload_n 1, 1) := by decide +kernel
theorem dX0_isShare_1 : decode cX0_isShare 1 = .ok (.ifCond .lt 15, 3) := by decide +kernel
theorem dX0_isShare_4 : decode cX0_isShare 4 = .ok (.iload_n 1, 1) := by decide +kernel
theorem dX0_isShare_5 : decode cX0_isShare 5 = .ok (.aload_n 0, 1) := by decide +kernel
theorem dX0_isShare_6 : decode cX0_isShare 6 = .ok (.getfield 53, 3) := by decide +kernel
theorem dX0_isShare_9 : decode cX0_isShare 9 = .ok (.if_icmp .ge 7, 3) := by decide +kernel
theorem dX0_isShare_12 : decode cX0_isShare 12 = .ok (.iconst 1, 1) := by decide +kernel
theorem dX0_isShare_13 : decode cX0_isShare 13 = .ok (.goto 4, 3) := by decide +kernel
theorem dX0_isShare_16 : decode cX0_isShare 16 = .ok (.iconst 0, 1) := by decide +kernel
theorem dX0_isShare_17 : decode cX0_isShare 17 = .ok (.ireturn, 1) := by decide +kernel
theorem dX0_addMember_0 : decode cX0_addMember 0 = .ok (.aload_n 0, 1) := by decide +kernel
theorem dX0_addMember_1 : decode cX0_addMember 1 = .ok (.getfield 20, 3) := by decide +kernel
theorem dX0_addMember_4 : decode cX0_addMember 4 = .ok (.aload_n 0, 1) := by decide +kernel
theorem dX0_addMember_5 : decode cX0_addMember 5 = .ok (.getfield 47, 3) := by decide +kernel
theorem dX0_addMember_8 : decode cX0_addMember 8 = .ok (.aaload, 1) := by decide +kernel
theorem dX0_addMember_9 : decode cX0_addMember 9 = .ok (.iload_n 1, 1) := by decide +kernel
theorem dX0_addMember_10 : decode cX0_addMember 10 = .ok (.invokevirtual 81, 3) := by decide +kernel
theorem dX0_addMember_13 : decode cX0_addMember 13 = .ok (.aload_n 0, 1) := by decide +kernel
theorem dX0_addMember_14 : decode cX0_addMember 14 = .ok (.dup, 1) := by decide +kernel
theorem dX0_addMember_15 : decode cX0_addMember 15 = .ok (.getfield 47, 3) := by decide +kernel
theorem dX0_addMember_18 : decode cX0_addMember 18 = .ok (.iconst 1, 1) := by decide +kernel
theorem dX0_addMember_19 : decode cX0_addMember 19 = .ok (.iadd, 1) := by decide +kernel
theorem dX0_addMember_20 : decode cX0_addMember 20 = .ok (.putfield 47, 3) := by decide +kernel
theorem dX0_addMember_23 : decode cX0_addMember 23 = .ok (.aload_n 0, 1) := by decide +kernel
theorem dX0_addMember_24 : decode cX0_addMember 24 = .ok (.getfield 47, 3) := by decide +kernel
theorem dX0_addMember_27 : decode cX0_addMember 27 = .ok (.iconst 1, 1) := by decide +kernel
theorem dX0_addMember_28 : decode cX0_addMember 28 = .ok (.isub, 1) := by decide +kernel
theorem dX0_addMember_29 : decode cX0_addMember 29 = .ok (.ireturn, 1) := by decide +kernel
theorem dX0_addRank_0 : decode cX0_addRank 0 = .ok (.aload_n 0, 1) := by decide +kernel
theorem dX0_addRank_1 : decode cX0_addRank 1 = .ok (.getfield 26, 3) := by decide +kernel
theorem dX0_addRank_4 : decode cX0_addRank 4 = .ok (.aload_n 0, 1) := by decide +kernel
theorem dX0_addRank_5 : decode cX0_addRank 5 = .ok (.getfield 50, 3) := by decide +kernel
theorem dX0_addRank_8 : decode cX0_addRank 8 = .ok (.aaload, 1) := by decide +kernel
theorem dX0_addRank_9 : decode cX0_addRank 9 = .ok (.iload_n 1, 1) := by decide +kernel
theorem dX0_addRank_10 : decode cX0_addRank 10 = .ok (.iload_n 2, 1) := by decide +kernel
theorem dX0_addRank_11 : decode cX0_addRank 11 = .ok (.iload_n 3, 1) := by decide +kernel
theorem dX0_addRank_12 : decode cX0_addRank 12 = .ok (.invokevirtual 85, 3) := by decide +kernel
theorem dX0_addRank_15 : decode cX0_addRank 15 = .ok (.aload_n 0, 1) := by decide +kernel
theorem dX0_addRank_16 : decode cX0_addRank 16 = .ok (.dup, 1) := by decide +kernel
theorem dX0_addRank_17 : decode cX0_addRank 17 = .ok (.getfield 50, 3) := by decide +kernel
theorem dX0_addRank_20 : decode cX0_addRank 20 = .ok (.iconst 1, 1) := by decide +kernel
theorem dX0_addRank_21 : decode cX0_addRank 21 = .ok (.iadd, 1) := by decide +kernel
theorem dX0_addRank_22 : decode cX0_addRank 22 = .ok (.putfield 50, 3) := by decide +kernel
theorem dX0_addRank_25 : decode cX0_addRank 25 = .ok (.aload_n 0, 1) := by decide +kernel
theorem dX0_addRank_26 : decode cX0_addRank 26 = .ok (.getfield 50, 3) := by decide +kernel
theorem dX0_addRank_29 : decode cX0_addRank 29 = .ok (.iconst 1, 1) := by decide +kernel
theorem dX0_addRank_30 : decode cX0_addRank 30 = .ok (.isub, 1) := by decide +kernel
theorem dX0_addRank_31 : decode cX0_addRank 31 = .ok (.ireturn, 1) := by decide +kernel
theorem dX0_addShare_0 : decode cX0_addShare 0 = .ok (.aload_n 0, 1) := by decide +kernel
theorem dX0_addShare_1 : decode cX0_addShare 1 = .ok (.getfield 32, 3) := by decide +kernel
theorem dX0_addShare_4 : decode cX0_addShare 4 = .ok (.aload_n 0, 1) := by decide +kernel
theorem dX0_addShare_5 : decode cX0_addShare 5 = .ok (.getfield 53, 3) := by decide +kernel
theorem dX0_addShare_8 : decode cX0_addShare 8 = .ok (.aaload, 1) := by decide +kernel
theorem dX0_addShare_9 : decode cX0_addShare 9 = .ok (.astore 6, 2) := by decide +kernel
theorem dX0_addShare_11 : decode cX0_addShare 11 = .ok (.aload 6, 2) := by decide +kernel
theorem dX0_addShare_13 : decode cX0_addShare 13 = .ok (.aload_n 0, 1) := by decide +kernel
theorem dX0_addShare_14 : decode cX0_addShare 14 = .ok (.getfield 56, 3) := by decide +kernel
theorem dX0_addShare_17 : decode cX0_addShare 17 = .ok (.invokevirtual 88, 3) := by decide +kernel
theorem dX0_addShare_20 : decode cX0_addShare 20 = .ok (.aload 6, 2) := by decide +kernel
theorem dX0_addShare_22 : decode cX0_addShare 22 = .ok (.iload_n 1, 1) := by decide +kernel
theorem dX0_addShare_23 : decode cX0_addShare 23 = .ok (.putfield 89, 3) := by decide +kernel
theorem dX0_addShare_26 : decode cX0_addShare 26 = .ok (.aload 6, 2) := by decide +kernel
theorem dX0_addShare_28 : decode cX0_addShare 28 = .ok (.iload_n 2, 1) := by decide +kernel
theorem dX0_addShare_29 : decode cX0_addShare 29 = .ok (.putfield 92, 3) := by decide +kernel
theorem dX0_addShare_32 : decode cX0_addShare 32 = .ok (.aload 6, 2) := by decide +kernel
theorem dX0_addShare_34 : decode cX0_addShare 34 = .ok (.iload_n 3, 1) := by decide +kernel
theorem dX0_addShare_35 : decode cX0_addShare 35 = .ok (.putfield 95, 3) := by decide +kernel
theorem dX0_addShare_38 : decode cX0_addShare 38 = .ok (.aload 6, 2) := by decide +kernel
theorem dX0_addShare_40 : decode cX0_addShare 40 = .ok (.iload 4, 2) := by decide +kernel
theorem dX0_addShare_42 : decode cX0_addShare 42 = .ok (.putfield 98, 3) := by decide +kernel
theorem dX0_addShare_45 : decode cX0_addShare 45 = .ok (.aload 6, 2) := by decide +kernel
theorem dX0_addShare_47 : decode cX0_addShare 47 = .ok (.iload 5, 2) := by decide +kernel
theorem dX0_addShare_49 : decode cX0_addShare 49 = .ok (.putfield 101, 3) := by decide +kernel
theorem dX0_addShare_52 : decode cX0_addShare 52 = .ok (.aload 6, 2) := by decide +kernel
theorem dX0_addShare_54 : decode cX0_addShare 54 = .ok (.iload 4, 2) := by decide +kernel
theorem dX0_addShare_56 : decode cX0_addShare 56 = .ok (.i2l, 1) := by decide +kernel
theorem dX0_addShare_57 : decode cX0_addShare 57 = .ok (.aload_n 0, 1) := by decide +kernel
theorem dX0_addShare_58 : decode cX0_addShare 58 = .ok (.getfield 26, 3) := by decide +kernel
theorem dX0_addShare_61 : decode cX0_addShare 61 = .ok (.iload 5, 2) := by decide +kernel
theorem dX0_addShare_63 : decode cX0_addShare 63 = .ok (.aaload, 1) := by decide +kernel
theorem dX0_addShare_64 : decode cX0_addShare 64 = .ok (.getfield 104, 3) := by decide +kernel
theorem dX0_addShare_67 : decode cX0_addShare 67 = .ok (.i2l, 1) := by decide +kernel
theorem dX0_addShare_68 : decode cX0_addShare 68 = .ok (.lmul, 1) := by decide +kernel
theorem dX0_addShare_69 : decode cX0_addShare 69 = .ok (.putfield 107, 3) := by decide +kernel
theorem dX0_addShare_72 : decode cX0_addShare 72 = .ok (.aload_n 0, 1) := by decide +kernel
theorem dX0_addShare_73 : decode cX0_addShare 73 = .ok (.getfield 26, 3) := by decide +kernel
theorem dX0_addShare_76 : decode cX0_addShare 76 = .ok (.iload 5, 2) := by decide +kernel
theorem dX0_addShare_78 : decode cX0_addShare 78 = .ok (.aaload, 1) := by decide +kernel
theorem dX0_addShare_79 : decode cX0_addShare 79 = .ok (.dup, 1) := by decide +kernel
theorem dX0_addShare_80 : decode cX0_addShare 80 = .ok (.getfield 110, 3) := by decide +kernel
theorem dX0_addShare_83 : decode cX0_addShare 83 = .ok (.aload 6, 2) := by decide +kernel
theorem dX0_addShare_85 : decode cX0_addShare 85 = .ok (.getfield 107, 3) := by decide +kernel
theorem dX0_addShare_88 : decode cX0_addShare 88 = .ok (.ladd, 1) := by decide +kernel
theorem dX0_addShare_89 : decode cX0_addShare 89 = .ok (.putfield 110, 3) := by decide +kernel
theorem dX0_addShare_92 : decode cX0_addShare 92 = .ok (.aload_n 0, 1) := by decide +kernel
theorem dX0_addShare_93 : decode cX0_addShare 93 = .ok (.dup, 1) := by decide +kernel
theorem dX0_addShare_94 : decode cX0_addShare 94 = .ok (.getfield 69, 3) := by decide +kernel
theorem dX0_addShare_97 : decode cX0_addShare 97 = .ok (.aload 6, 2) := by decide +kernel
theorem dX0_addShare_99 : decode cX0_addShare 99 = .ok (.getfield 107, 3) := by decide +kernel
theorem dX0_addShare_102 : decode cX0_addShare 102 = .ok (.ladd, 1) := by decide +kernel
theorem dX0_addShare_103 : decode cX0_addShare 103 = .ok (.putfield 69, 3) := by decide +kernel
theorem dX0_addShare_106 : decode cX0_addShare 106 = .ok (.aload_n 0, 1) := by decide +kernel
theorem dX0_addShare_107 : decode cX0_addShare 107 = .ok (.dup, 1) := by decide +kernel
theorem dX0_addShare_108 : decode cX0_addShare 108 = .ok (.getfield 53, 3) := by decide +kernel
theorem dX0_addShare_111 : decode cX0_addShare 111 = .ok (.iconst 1, 1) := by decide +kernel
theorem dX0_addShare_112 : decode cX0_addShare 112 = .ok (.iadd, 1) := by decide +kernel
theorem dX0_addShare_113 : decode cX0_addShare 113 = .ok (.putfield 53, 3) := by decide +kernel
theorem dX0_addShare_116 : decode cX0_addShare 116 = .ok (.aload_n 0, 1) := by decide +kernel
theorem dX0_addShare_117 : decode cX0_addShare 117 = .ok (.getfield 53, 3) := by decide +kernel
theorem dX0_addShare_120 : decode cX0_addShare 120 = .ok (.iconst 1, 1) := by decide +kernel
theorem dX0_addShare_121 : decode cX0_addShare 121 = .ok (.isub, 1) := by decide +kernel
theorem dX0_addShare_122 : decode cX0_addShare 122 = .ok (.ireturn, 1) := by decide +kernel
theorem dX0_addPart_0 : decode cX0_addPart 0 = .ok (.aload_n 0, 1) := by decide +kernel
theorem dX0_addPart_1 : decode cX0_addPart 1 = .ok (.getfield 32, 3) := by decide +kernel
theorem dX0_addPart_4 : decode cX0_addPart 4 = .ok (.aload_n 0, 1) := by decide +kernel
theorem dX0_addPart_5 : decode cX0_addPart 5 = .ok (.getfield 53, 3) := by decide +kernel
theorem dX0_addPart_8 : decode cX0_addPart 8 = .ok (.aaload, 1) := by decide +kernel
theorem dX0_addPart_9 : decode cX0_addPart 9 = .ok (.astore_n 3, 1) := by decide +kernel
theorem dX0_addPart_10 : decode cX0_addPart 10 = .ok (.aload_n 3, 1) := by decide +kernel
theorem dX0_addPart_11 : decode cX0_addPart 11 = .ok (.aload_n 1, 1) := by decide +kernel
theorem dX0_addPart_12 : decode cX0_addPart 12 = .ok (.invokevirtual 78, 3) := by decide +kernel
theorem dX0_addPart_15 : decode cX0_addPart 15 = .ok (.aload_n 3, 1) := by decide +kernel
theorem dX0_addPart_16 : decode cX0_addPart 16 = .ok (.iload_n 2, 1) := by decide +kernel
theorem dX0_addPart_17 : decode cX0_addPart 17 = .ok (.invokevirtual 113, 3) := by decide +kernel
theorem dX0_addPart_20 : decode cX0_addPart 20 = .ok (.aload_n 1, 1) := by decide +kernel
theorem dX0_addPart_21 : decode cX0_addPart 21 = .ok (.aload_n 3, 1) := by decide +kernel
theorem dX0_addPart_22 : decode cX0_addPart 22 = .ok (.invokevirtual 116, 3) := by decide +kernel
theorem dX0_addPart_25 : decode cX0_addPart 25 = .ok (.aload_n 0, 1) := by decide +kernel
theorem dX0_addPart_26 : decode cX0_addPart 26 = .ok (.dup, 1) := by decide +kernel
theorem dX0_addPart_27 : decode cX0_addPart 27 = .ok (.getfield 53, 3) := by decide +kernel
theorem dX0_addPart_30 : decode cX0_addPart 30 = .ok (.iconst 1, 1) := by decide +kernel
theorem dX0_addPart_31 : decode cX0_addPart 31 = .ok (.iadd, 1) := by decide +kernel
theorem dX0_addPart_32 : decode cX0_addPart 32 = .ok (.putfield 53, 3) := by decide +kernel
theorem dX0_addPart_35 : decode cX0_addPart 35 = .ok (.aload_n 0, 1) := by decide +kernel
theorem dX0_addPart_36 : decode cX0_addPart 36 = .ok (.getfield 53, 3) := by decide +kernel
theorem dX0_addPart_39 : decode cX0_addPart 39 = .ok (.iconst 1, 1) := by decide +kernel
theorem dX0_addPart_40 : decode cX0_addPart 40 = .ok (.isub, 1) := by decide +kernel
theorem dX0_addPart_41 : decode cX0_addPart 41 = .ok (.ireturn, 1) := by decide +kernel
theorem dX0_canBeLives_0 : decode cX0_canBeLives 0 = .ok (.aload_n 0, 1) := by decide +kernel
theorem dX0_canBeLives_1 : decode cX0_canBeLives 1 = .ok (.iload_n 1, 1) := by decide +kernel
theorem dX0_canBeLives_2 : decode cX0_canBeLives 2 = .ok (.invokevirtual 119, 3) := by decide +kernel
theorem dX0_canBeLives_5 : decode cX0_canBeLives 5 = .ok (.ifCond .eq 15, 3) := by decide +kernel
theorem dX0_canBeLives_8 : decode cX0_canBeLives 8 = .ok (.aload_n 0, 1) := by decide +kernel
theorem dX0_canBeLives_9 : decode cX0_canBeLives 9 = .ok (.getfield 20, 3) := by decide +kernel
theorem dX0_canBeLives_12 : decode cX0_canBeLives 12 = .ok (.iload_n 1, 1) := by decide +kernel
theorem dX0_canBeLives_13 : decode cX0_canBeLives 13 = .ok (.aaload, 1) := by decide +kernel
theorem dX0_canBeLives_14 : decode cX0_canBeLives 14 = .ok (.getfield 123, 3) := by decide +kernel
theorem dX0_canBeLives_17 : decode cX0_canBeLives 17 = .ok (.ifCond .eq 5, 3) := by decide +kernel
theorem dX0_canBeLives_20 : decode cX0_canBeLives 20 = .ok (.iconst 0, 1) := by decide +kernel
theorem dX0_canBeLives_21 : decode cX0_canBeLives 21 = .ok (.ireturn, 1) := by decide +kernel
theorem dX0_canBeLives_22 : decode cX0_canBeLives 22 = .ok (.iload_n 3, 1) := by decide +kernel
theorem dX0_canBeLives_23 : decode cX0_canBeLives 23 = .ok (.ifCond .eq 28, 3) := by decide +kernel
theorem dX0_canBeLives_26 : decode cX0_canBeLives 26 = .ok (.aload_n 0, 1) := by decide +kernel
theorem dX0_canBeLives_27 : decode cX0_canBeLives 27 = .ok (.iload_n 2, 1) := by decide +kernel
theorem dX0_canBeLives_28 : decode cX0_canBeLives 28 = .ok (.invokevirtual 119, 3) := by decide +kernel
theorem dX0_canBeLives_31 : decode cX0_canBeLives 31 = .ok (.ifCond .eq 24, 3) := by decide +kernel
theorem dX0_canBeLives_34 : decode cX0_canBeLives 34 = .ok (.iload_n 2, 1) := by decide +kernel
theorem dX0_canBeLives_35 : decode cX0_canBeLives 35 = .ok (.iload_n 1, 1) := by decide +kernel
theorem dX0_canBeLives_36 : decode cX0_canBeLives 36 = .ok (.if_icmp .eq 19, 3) := by decide +kernel
theorem dX0_canBeLives_39 : decode cX0_canBeLives 39 = .ok (.aload_n 0, 1) := by decide +kernel
theorem dX0_canBeLives_40 : decode cX0_canBeLives 40 = .ok (.getfield 20, 3) := by decide +kernel
theorem dX0_canBeLives_43 : decode cX0_canBeLives 43 = .ok (.iload_n 2, 1) := by decide +kernel
theorem dX0_canBeLives_44 : decode cX0_canBeLives 44 = .ok (.aaload, 1) := by decide +kernel
theorem dX0_canBeLives_45 : decode cX0_canBeLives 45 = .ok (.getfield 123, 3) := by decide +kernel
theorem dX0_canBeLives_48 : decode cX0_canBeLives 48 = .ok (.ifCond .ne 7, 3) := by decide +kernel
theorem dX0_canBeLives_51 : decode cX0_canBeLives 51 = .ok (.iconst 1, 1) := by decide +kernel
theorem dX0_canBeLives_52 : decode cX0_canBeLives 52 = .ok (.goto 4, 3) := by decide +kernel
theorem dX0_canBeLives_55 : decode cX0_canBeLives 55 = .ok (.iconst 0, 1) := by decide +kernel
theorem dX0_canBeLives_56 : decode cX0_canBeLives 56 = .ok (.ireturn, 1) := by decide +kernel
theorem dX0_rankFor_0 : decode cX0_rankFor 0 = .ok (.aload_n 0, 1) := by decide +kernel
theorem dX0_rankFor_1 : decode cX0_rankFor 1 = .ok (.getfield 20, 3) := by decide +kernel
theorem dX0_rankFor_4 : decode cX0_rankFor 4 = .ok (.iload_n 1, 1) := by decide +kernel
theorem dX0_rankFor_5 : decode cX0_rankFor 5 = .ok (.aaload, 1) := by decide +kernel
theorem dX0_rankFor_6 : decode cX0_rankFor 6 = .ok (.getfield 127, 3) := by decide +kernel
theorem dX0_rankFor_9 : decode cX0_rankFor 9 = .ok (.istore_n 3, 1) := by decide +kernel
theorem dX0_rankFor_10 : decode cX0_rankFor 10 = .ok (.aload_n 0, 1) := by decide +kernel
theorem dX0_rankFor_11 : decode cX0_rankFor 11 = .ok (.iload_n 2, 1) := by decide +kernel
theorem dX0_rankFor_12 : decode cX0_rankFor 12 = .ok (.invokevirtual 119, 3) := by decide +kernel
theorem dX0_rankFor_15 : decode cX0_rankFor 15 = .ok (.ifCond .eq 17, 3) := by decide +kernel
theorem dX0_rankFor_18 : decode cX0_rankFor 18 = .ok (.iload_n 3, 1) := by decide +kernel
theorem dX0_rankFor_19 : decode cX0_rankFor 19 = .ok (.aload_n 0, 1) := by decide +kernel
theorem dX0_rankFor_20 : decode cX0_rankFor 20 = .ok (.getfield 20, 3) := by decide +kernel
theorem dX0_rankFor_23 : decode cX0_rankFor 23 = .ok (.iload_n 2, 1) := by decide +kernel
theorem dX0_rankFor_24 : decode cX0_rankFor 24 = .ok (.aaload, 1) := by decide +kernel
theorem dX0_rankFor_25 : decode cX0_rankFor 25 = .ok (.getfield 127, 3) := by decide +kernel
theorem dX0_rankFor_28 : decode cX0_rankFor 28 = .ok (.invokestatic 130, 3) := by decide +kernel
theorem dX0_rankFor_31 : decode cX0_rankFor 31 = .ok (.istore_n 3, 1) := by decide +kernel
theorem dX0_rankFor_32 : decode cX0_rankFor 32 = .ok (.iconst 0, 1) := by decide +kernel
theorem dX0_rankFor_33 : decode cX0_rankFor 33 = .ok (.istore 4, 2) := by decide +kernel
theorem dX0_rankFor_35 : decode cX0_rankFor 35 = .ok (.iload 4, 2) := by decide +kernel
theorem dX0_rankFor_37 : decode cX0_rankFor 37 = .ok (.aload_n 0, 1) := by decide +kernel
theorem dX0_rankFor_38 : decode cX0_rankFor 38 = .ok (.getfield 50, 3) := by decide +kernel
theorem dX0_rankFor_41 : decode cX0_rankFor 41 = .ok (.if_icmp .ge 44, 3) := by decide +kernel
theorem dX0_rankFor_44 : decode cX0_rankFor 44 = .ok (.aload_n 0, 1) := by decide +kernel
theorem dX0_rankFor_45 : decode cX0_rankFor 45 = .ok (.getfield 56, 3) := by decide +kernel
theorem dX0_rankFor_48 : decode cX0_rankFor 48 = .ok (.iload_n 3, 1) := by decide +kernel
theorem dX0_rankFor_49 : decode cX0_rankFor 49 = .ok (.isub, 1) := by decide +kernel
theorem dX0_rankFor_50 : decode cX0_rankFor 50 = .ok (.aload_n 0, 1) := by decide +kernel
theorem dX0_rankFor_51 : decode cX0_rankFor 51 = .ok (.getfield 26, 3) := by decide +kernel
theorem dX0_rankFor_54 : decode cX0_rankFor 54 = .ok (.iload 4, 2) := by decide +kernel
theorem dX0_rankFor_56 : decode cX0_rankFor 56 = .ok (.aaload, 1) := by decide +kernel
theorem dX0_rankFor_57 : decode cX0_rankFor 57 = .ok (.getfield 136, 3) := by decide +kernel
theorem dX0_rankFor_60 : decode cX0_rankFor 60 = .ok (.aload_n 0, 1) := by decide +kernel
theorem dX0_rankFor_61 : decode cX0_rankFor 61 = .ok (.getfield 26, 3) := by decide +kernel
theorem dX0_rankFor_64 : decode cX0_rankFor 64 = .ok (.iload 4, 2) := by decide +kernel
theorem dX0_rankFor_66 : decode cX0_rankFor 66 = .ok (.aaload, 1) := by decide +kernel
theorem dX0_rankFor_67 : decode cX0_rankFor 67 = .ok (.getfield 139, 3) := by decide +kernel
theorem dX0_rankFor_70 : decode cX0_rankFor 70 = .ok (.invokestatic 142, 3) := by decide +kernel
theorem dX0_rankFor_73 : decode cX0_rankFor 73 = .ok (.ifCond .eq 6, 3) := by decide +kernel
theorem dX0_rankFor_76 : decode cX0_rankFor 76 = .ok (.iload 4, 2) := by decide +kernel
theorem dX0_rankFor_78 : decode cX0_rankFor 78 = .ok (.ireturn, 1) := by decide +kernel
theorem dX0_rankFor_79 : decode cX0_rankFor 79 = .ok (.iinc 4 1, 3) := by decide +kernel
theorem dX0_rankFor_82 : decode cX0_rankFor 82 = .ok (.goto (-47), 3) := by decide +kernel
theorem dX0_rankFor_85 : decode cX0_rankFor 85 = .ok (.iconst (-1), 1) := by decide +kernel
theorem dX0_rankFor_86 : decode cX0_rankFor 86 = .ok (.ireturn, 1) := by decide +kernel
theorem dX0_isProved_0 : decode cX0_isProved 0 = .ok (.aload_n 0, 1) := by decide +kernel
theorem dX0_isProved_1 : decode cX0_isProved 1 = .ok (.iload_n 1, 1) := by decide +kernel
theorem dX0_isProved_2 : decode cX0_isProved 2 = .ok (.invokevirtual 119, 3) := by decide +kernel
theorem dX0_isProved_5 : decode cX0_isProved 5 = .ok (.ifCond .eq 19, 3) := by decide +kernel
theorem dX0_isProved_8 : decode cX0_isProved 8 = .ok (.aload_n 0, 1) := by decide +kernel
theorem dX0_isProved_9 : decode cX0_isProved 9 = .ok (.getfield 20, 3) := by decide +kernel
theorem dX0_isProved_12 : decode cX0_isProved 12 = .ok (.iload_n 1, 1) := by decide +kernel
theorem dX0_isProved_13 : decode cX0_isProved 13 = .ok (.aaload, 1) := by decide +kernel
theorem dX0_isProved_14 : decode cX0_isProved 14 = .ok (.getfield 146, 3) := by decide +kernel
theorem dX0_isProved_17 : decode cX0_isProved 17 = .ok (.ifCond .eq 7, 3) := by decide +kernel
theorem dX0_isProved_20 : decode cX0_isProved 20 = .ok (.iconst 1, 1) := by decide +kernel
theorem dX0_isProved_21 : decode cX0_isProved 21 = .ok (.goto 4, 3) := by decide +kernel
theorem dX0_isProved_24 : decode cX0_isProved 24 = .ok (.iconst 0, 1) := by decide +kernel
theorem dX0_isProved_25 : decode cX0_isProved 25 = .ok (.ireturn, 1) := by decide +kernel
theorem dX0_isDead_0 : decode cX0_isDead 0 = .ok (.aload_n 0, 1) := by decide +kernel
theorem dX0_isDead_1 : decode cX0_isDead 1 = .ok (.iload_n 1, 1) := by decide +kernel
theorem dX0_isDead_2 : decode cX0_isDead 2 = .ok (.invokevirtual 119, 3) := by decide +kernel
theorem dX0_isDead_5 : decode cX0_isDead 5 = .ok (.ifCond .eq 19, 3) := by decide +kernel
theorem dX0_isDead_8 : decode cX0_isDead 8 = .ok (.aload_n 0, 1) := by decide +kernel
theorem dX0_isDead_9 : decode cX0_isDead 9 = .ok (.getfield 20, 3) := by decide +kernel
theorem dX0_isDead_12 : decode cX0_isDead 12 = .ok (.iload_n 1, 1) := by decide +kernel
theorem dX0_isDead_13 : decode cX0_isDead 13 = .ok (.aaload, 1) := by decide +kernel
theorem dX0_isDead_14 : decode cX0_isDead 14 = .ok (.getfield 123, 3) := by decide +kernel
theorem dX0_isDead_17 : decode cX0_isDead 17 = .ok (.ifCond .eq 7, 3) := by decide +kernel
theorem dX0_isDead_20 : decode cX0_isDead 20 = .ok (.iconst 1, 1) := by decide +kernel
theorem dX0_isDead_21 : decode cX0_isDead 21 = .ok (.goto 4, 3) := by decide +kernel
theorem dX0_isDead_24 : decode cX0_isDead 24 = .ok (.iconst 0, 1) := by decide +kernel
theorem dX0_isDead_25 : decode cX0_isDead 25 = .ok (.ireturn, 1) := by decide +kernel
theorem dX0_isAllDead_0 : decode cX0_isAllDead 0 = .ok (.aload_n 0, 1) := by decide +kernel
theorem dX0_isAllDead_1 : decode cX0_isAllDead 1 = .ok (.aload_n 1, 1) := by decide +kernel
theorem dX0_isAllDead_2 : decode cX0_isAllDead 2 = .ok (.getfield 92, 3) := by decide +kernel
theorem dX0_isAllDead_5 : decode cX0_isAllDead 5 = .ok (.invokevirtual 149, 3) := by decide +kernel
theorem dX0_isAllDead_8 : decode cX0_isAllDead 8 = .ok (.ifCond .eq 26, 3) := by decide +kernel
theorem dX0_isAllDead_11 : decode cX0_isAllDead 11 = .ok (.aload_n 1, 1) := by decide +kernel
theorem dX0_isAllDead_12 : decode cX0_isAllDead 12 = .ok (.getfield 95, 3) := by decide +kernel
theorem dX0_isAllDead_15 : decode cX0_isAllDead 15 = .ok (.iconst (-1), 1) := by decide +kernel
theorem dX0_isAllDead_16 : decode cX0_isAllDead 16 = .ok (.if_icmp .eq 14, 3) := by decide +kernel
theorem dX0_isAllDead_19 : decode cX0_isAllDead 19 = .ok (.aload_n 0, 1) := by decide +kernel
theorem dX0_isAllDead_20 : decode cX0_isAllDead 20 = .ok (.aload_n 1, 1) := by decide +kernel
theorem dX0_isAllDead_21 : decode cX0_isAllDead 21 = .ok (.getfield 95, 3) := by decide +kernel
theorem dX0_isAllDead_24 : decode cX0_isAllDead 24 = .ok (.invokevirtual 149, 3) := by decide +kernel
theorem dX0_isAllDead_27 : decode cX0_isAllDead 27 = .ok (.ifCond .eq 7, 3) := by decide +kernel
theorem dX0_isAllDead_30 : decode cX0_isAllDead 30 = .ok (.iconst 1, 1) := by decide +kernel
theorem dX0_isAllDead_31 : decode cX0_isAllDead 31 = .ok (.goto 4, 3) := by decide +kernel
theorem dX0_isAllDead_34 : decode cX0_isAllDead 34 = .ok (.iconst 0, 1) := by decide +kernel
theorem dX0_isAllDead_35 : decode cX0_isAllDead 35 = .ok (.ireturn, 1) := by decide +kernel
theorem dX0_howItIs_0 : decode cX0_howItIs 0 = .ok (.aload_n 0, 1) := by decide +kernel
theorem dX0_howItIs_1 : decode cX0_howItIs 1 = .ok (.aload_n 1, 1) := by decide +kernel
theorem dX0_howItIs_2 : decode cX0_howItIs 2 = .ok (.getfield 92, 3) := by decide +kernel
theorem dX0_howItIs_5 : decode cX0_howItIs 5 = .ok (.invokevirtual 152, 3) := by decide +kernel
theorem dX0_howItIs_8 : decode cX0_howItIs 8 = .ok (.ifCond .ne 25, 3) := by decide +kernel
theorem dX0_howItIs_11 : decode cX0_howItIs 11 = .ok (.aload_n 0, 1) := by decide +kernel
theorem dX0_howItIs_12 : decode cX0_howItIs 12 = .ok (.aload_n 1, 1) := by decide +kernel
theorem dX0_howItIs_13 : decode cX0_howItIs 13 = .ok (.getfield 95, 3) := by decide +kernel
theorem dX0_howItIs_16 : decode cX0_howItIs 16 = .ok (.invokevirtual 152, 3) := by decide +kernel
theorem dX0_howItIs_19 : decode cX0_howItIs 19 = .ok (.ifCond .ne 14, 3) := by decide +kernel
theorem dX0_howItIs_22 : decode cX0_howItIs 22 = .ok (.aload_n 0, 1) := by decide +kernel
theorem dX0_howItIs_23 : decode cX0_howItIs 23 = .ok (.getfield 56, 3) := by decide +kernel
theorem dX0_howItIs_26 : decode cX0_howItIs 26 = .ok (.aload_n 1, 1) := by decide +kernel
theorem dX0_howItIs_27 : decode cX0_howItIs 27 = .ok (.getfield 155, 3) := by decide +kernel
theorem dX0_howItIs_30 : decode cX0_howItIs 30 = .ok (.if_icmp .ge 5, 3) := by decide +kernel
theorem dX0_howItIs_33 : decode cX0_howItIs 33 = .ok (.iconst 0, 1) := by decide +kernel
theorem dX0_howItIs_34 : decode cX0_howItIs 34 = .ok (.ireturn, 1) := by decide +kernel
theorem dX0_howItIs_35 : decode cX0_howItIs 35 = .ok (.aload_n 0, 1) := by decide +kernel
theorem dX0_howItIs_36 : decode cX0_howItIs 36 = .ok (.aload_n 1, 1) := by decide +kernel
theorem dX0_howItIs_37 : decode cX0_howItIs 37 = .ok (.invokevirtual 158, 3) := by decide +kernel
theorem dX0_howItIs_40 : decode cX0_howItIs 40 = .ok (.ifCond .eq 5, 3) := by decide +kernel
theorem dX0_howItIs_43 : decode cX0_howItIs 43 = .ok (.iconst 3, 1) := by decide +kernel
theorem dX0_howItIs_44 : decode cX0_howItIs 44 = .ok (.ireturn, 1) := by decide +kernel
theorem dX0_howItIs_45 : decode cX0_howItIs 45 = .ok (.aload_n 1, 1) := by decide +kernel
theorem dX0_howItIs_46 : decode cX0_howItIs 46 = .ok (.getfield 162, 3) := by decide +kernel
theorem dX0_howItIs_49 : decode cX0_howItIs 49 = .ok (.aload_n 0, 1) := by decide +kernel
theorem dX0_howItIs_50 : decode cX0_howItIs 50 = .ok (.getfield 36, 3) := by decide +kernel
theorem dX0_howItIs_53 : decode cX0_howItIs 53 = .ok (.if_icmp .ge 7, 3) := by decide +kernel
theorem dX0_howItIs_56 : decode cX0_howItIs 56 = .ok (.iconst 1, 1) := by decide +kernel
theorem dX0_howItIs_57 : decode cX0_howItIs 57 = .ok (.goto 4, 3) := by decide +kernel
theorem dX0_howItIs_60 : decode cX0_howItIs 60 = .ok (.iconst 2, 1) := by decide +kernel
theorem dX0_howItIs_61 : decode cX0_howItIs 61 = .ok (.ireturn, 1) := by decide +kernel
theorem dX0_isDrawing_0 : decode cX0_isDrawing 0 = .ok (.aload_n 0, 1) := by decide +kernel
theorem dX0_isDrawing_1 : decode cX0_isDrawing 1 = .ok (.aload_n 1, 1) := by decide +kernel
theorem dX0_isDrawing_2 : decode cX0_isDrawing 2 = .ok (.invokevirtual 165, 3) := by decide +kernel
theorem dX0_isDrawing_5 : decode cX0_isDrawing 5 = .ok (.istore_n 2, 1) := by decide +kernel
theorem dX0_isDrawing_6 : decode cX0_isDrawing 6 = .ok (.iload_n 2, 1) := by decide +kernel
theorem dX0_isDrawing_7 : decode cX0_isDrawing 7 = .ok (.ifCond .eq 8, 3) := by decide +kernel
theorem dX0_isDrawing_10 : decode cX0_isDrawing 10 = .ok (.iload_n 2, 1) := by decide +kernel
theorem dX0_isDrawing_11 : decode cX0_isDrawing 11 = .ok (.iconst 1, 1) := by decide +kernel
theorem dX0_isDrawing_12 : decode cX0_isDrawing 12 = .ok (.if_icmp .ne 7, 3) := by decide +kernel
theorem dX0_isDrawing_15 : decode cX0_isDrawing 15 = .ok (.iconst 1, 1) := by decide +kernel
theorem dX0_isDrawing_16 : decode cX0_isDrawing 16 = .ok (.goto 4, 3) := by decide +kernel
theorem dX0_isDrawing_19 : decode cX0_isDrawing 19 = .ok (.iconst 0, 1) := by decide +kernel
theorem dX0_isDrawing_20 : decode cX0_isDrawing 20 = .ok (.ireturn, 1) := by decide +kernel
theorem dX0_endOf_0 : decode cX0_endOf 0 = .ok (.aload_n 0, 1) := by decide +kernel
theorem dX0_endOf_1 : decode cX0_endOf 1 = .ok (.getfield 20, 3) := by decide +kernel
theorem dX0_endOf_4 : decode cX0_endOf 4 = .ok (.aload_n 1, 1) := by decide +kernel
theorem dX0_endOf_5 : decode cX0_endOf 5 = .ok (.getfield 92, 3) := by decide +kernel
theorem dX0_endOf_8 : decode cX0_endOf 8 = .ok (.aaload, 1) := by decide +kernel
theorem dX0_endOf_9 : decode cX0_endOf 9 = .ok (.getfield 169, 3) := by decide +kernel
theorem dX0_endOf_12 : decode cX0_endOf 12 = .ok (.istore_n 2, 1) := by decide +kernel
theorem dX0_endOf_13 : decode cX0_endOf 13 = .ok (.aload_n 0, 1) := by decide +kernel
theorem dX0_endOf_14 : decode cX0_endOf 14 = .ok (.aload_n 1, 1) := by decide +kernel
theorem dX0_endOf_15 : decode cX0_endOf 15 = .ok (.getfield 95, 3) := by decide +kernel
theorem dX0_endOf_18 : decode cX0_endOf 18 = .ok (.invokevirtual 119, 3) := by decide +kernel
theorem dX0_endOf_21 : decode cX0_endOf 21 = .ok (.ifCond .eq 22, 3) := by decide +kernel
theorem dX0_endOf_24 : decode cX0_endOf 24 = .ok (.iload_n 2, 1) := by decide +kernel
theorem dX0_endOf_25 : decode cX0_endOf 25 = .ok (.aload_n 0, 1) := by decide +kernel
theorem dX0_endOf_26 : decode cX0_endOf 26 = .ok (.getfield 20, 3) := by decide +kernel
theorem dX0_endOf_29 : decode cX0_endOf 29 = .ok (.aload_n 1, 1) := by decide +kernel
theorem dX0_endOf_30 : decode cX0_endOf 30 = .ok (.getfield 95, 3) := by decide +kernel
theorem dX0_endOf_33 : decode cX0_endOf 33 = .ok (.aaload, 1) := by decide +kernel
theorem dX0_endOf_34 : decode cX0_endOf 34 = .ok (.getfield 169, 3) := by decide +kernel
theorem dX0_endOf_37 : decode cX0_endOf 37 = .ok (.invokestatic 130, 3) := by decide +kernel
theorem dX0_endOf_40 : decode cX0_endOf 40 = .ok (.goto 4, 3) := by decide +kernel
theorem dX0_endOf_43 : decode cX0_endOf 43 = .ok (.iload_n 2, 1) := by decide +kernel
theorem dX0_endOf_44 : decode cX0_endOf 44 = .ok (.ireturn, 1) := by decide +kernel
theorem dX0_payOut_0 : decode cX0_payOut 0 = .ok (.aload_n 0, 1) := by decide +kernel
theorem dX0_payOut_1 : decode cX0_payOut 1 = .ok (.getfield 20, 3) := by decide +kernel
theorem dX0_payOut_4 : decode cX0_payOut 4 = .ok (.aload_n 1, 1) := by decide +kernel
theorem dX0_payOut_5 : decode cX0_payOut 5 = .ok (.getfield 89, 3) := by decide +kernel
theorem dX0_payOut_8 : decode cX0_payOut 8 = .ok (.aaload, 1) := by decide +kernel
theorem dX0_payOut_9 : decode cX0_payOut 9 = .ok (.astore 4, 2) := by decide +kernel
theorem dX0_payOut_11 : decode cX0_payOut 11 = .ok (.lload_n 2, 1) := by decide +kernel
theorem dX0_payOut_12 : decode cX0_payOut 12 = .ok (.aload_n 0, 1) := by decide +kernel
theorem dX0_payOut_13 : decode cX0_payOut 13 = .ok (.getfield 59, 3) := by decide +kernel
theorem dX0_payOut_16 : decode cX0_payOut 16 = .ok (.i2l, 1) := by decide +kernel
theorem dX0_payOut_17 : decode cX0_payOut 17 = .ok (.ldc2_w 172, 3) := by decide +kernel
theorem dX0_payOut_20 : decode cX0_payOut 20 = .ok (.invokestatic 174, 3) := by decide +kernel
theorem dX0_payOut_23 : decode cX0_payOut 23 = .ok (.lstore 5, 2) := by decide +kernel
theorem dX0_payOut_25 : decode cX0_payOut 25 = .ok (.lload_n 2, 1) := by decide +kernel
theorem dX0_payOut_26 : decode cX0_payOut 26 = .ok (.lload 5, 2) := by decide +kernel
theorem dX0_payOut_28 : decode cX0_payOut 28 = .ok (.lsub, 1) := by decide +kernel
theorem dX0_payOut_29 : decode cX0_payOut 29 = .ok (.lstore 7, 2) := by decide +kernel
theorem dX0_payOut_31 : decode cX0_payOut 31 = .ok (.lload 7, 2) := by decide +kernel
theorem dX0_payOut_33 : decode cX0_payOut 33 = .ok (.aload 4, 2) := by decide +kernel
theorem dX0_payOut_35 : decode cX0_payOut 35 = .ok (.getfield 178, 3) := by decide +kernel
theorem dX0_payOut_38 : decode cX0_payOut 38 = .ok (.invokestatic 181, 3) := by decide +kernel
theorem dX0_payOut_41 : decode cX0_payOut 41 = .ok (.lstore 9, 2) := by decide +kernel
theorem dX0_payOut_43 : decode cX0_payOut 43 = .ok (.lload 7, 2) := by decide +kernel
theorem dX0_payOut_45 : decode cX0_payOut 45 = .ok (.lload 9, 2) := by decide +kernel
theorem dX0_payOut_47 : decode cX0_payOut 47 = .ok (.lsub, 1) := by decide +kernel
theorem dX0_payOut_48 : decode cX0_payOut 48 = .ok (.lstore 7, 2) := by decide +kernel
theorem dX0_payOut_50 : decode cX0_payOut 50 = .ok (.aload_n 0, 1) := by decide +kernel
theorem dX0_payOut_51 : decode cX0_payOut 51 = .ok (.aload_n 1, 1) := by decide +kernel
theorem dX0_payOut_52 : decode cX0_payOut 52 = .ok (.getfield 185, 3) := by decide +kernel
theorem dX0_payOut_55 : decode cX0_payOut 55 = .ok (.invokevirtual 119, 3) := by decide +kernel
theorem dX0_payOut_58 : decode cX0_payOut 58 = .ok (.ifCond .eq 15, 3) := by decide +kernel
theorem dX0_payOut_61 : decode cX0_payOut 61 = .ok (.lload 7, 2) := by decide +kernel
theorem dX0_payOut_63 : decode cX0_payOut 63 = .ok (.aload_n 1, 1) := by decide +kernel
theorem dX0_payOut_64 : decode cX0_payOut 64 = .ok (.getfield 188, 3) := by decide +kernel
theorem dX0_payOut_67 : decode cX0_payOut 67 = .ok (.invokestatic 181, 3) := by decide +kernel
theorem dX0_payOut_70 : decode cX0_payOut 70 = .ok (.goto 4, 3) := by decide +kernel
theorem dX0_payOut_73 : decode cX0_payOut 73 = .ok (.lconst 0, 1) := by decide +kernel
theorem dX0_payOut_74 : decode cX0_payOut 74 = .ok (.lstore 11, 2) := by decide +kernel
theorem dX0_payOut_76 : decode cX0_payOut 76 = .ok (.lload 7, 2) := by decide +kernel
theorem dX0_payOut_78 : decode cX0_payOut 78 = .ok (.lload 11, 2) := by decide +kernel
theorem dX0_payOut_80 : decode cX0_payOut 80 = .ok (.lsub, 1) := by decide +kernel
theorem dX0_payOut_81 : decode cX0_payOut 81 = .ok (.lstore 7, 2) := by decide +kernel
theorem dX0_payOut_83 : decode cX0_payOut 83 = .ok (.aload_n 0, 1) := by decide +kernel
theorem dX0_payOut_84 : decode cX0_payOut 84 = .ok (.dup, 1) := by decide +kernel
theorem dX0_payOut_85 : decode cX0_payOut 85 = .ok (.getfield 66, 3) := by decide +kernel
theorem dX0_payOut_88 : decode cX0_payOut 88 = .ok (.lload 5, 2) := by decide +kernel
theorem dX0_payOut_90 : decode cX0_payOut 90 = .ok (.ladd, 1) := by decide +kernel
theorem dX0_payOut_91 : decode cX0_payOut 91 = .ok (.putfield 66, 3) := by decide +kernel
theorem dX0_payOut_94 : decode cX0_payOut 94 = .ok (.aload 4, 2) := by decide +kernel
theorem dX0_payOut_96 : decode cX0_payOut 96 = .ok (.dup, 1) := by decide +kernel
theorem dX0_payOut_97 : decode cX0_payOut 97 = .ok (.getfield 178, 3) := by decide +kernel
theorem dX0_payOut_100 : decode cX0_payOut 100 = .ok (.lload 9, 2) := by decide +kernel
theorem dX0_payOut_102 : decode cX0_payOut 102 = .ok (.lsub, 1) := by decide +kernel
theorem dX0_payOut_103 : decode cX0_payOut 103 = .ok (.putfield 178, 3) := by decide +kernel
theorem dX0_payOut_106 : decode cX0_payOut 106 = .ok (.aload_n 0, 1) := by decide +kernel
theorem dX0_payOut_107 : decode cX0_payOut 107 = .ok (.dup, 1) := by decide +kernel
theorem dX0_payOut_108 : decode cX0_payOut 108 = .ok (.getfield 62, 3) := by decide +kernel
theorem dX0_payOut_111 : decode cX0_payOut 111 = .ok (.lload 9, 2) := by decide +kernel
theorem dX0_payOut_113 : decode cX0_payOut 113 = .ok (.ladd, 1) := by decide +kernel
theorem dX0_payOut_114 : decode cX0_payOut 114 = .ok (.putfield 62, 3) := by decide +kernel
theorem dX0_payOut_117 : decode cX0_payOut 117 = .ok (.aload_n 0, 1) := by decide +kernel
theorem dX0_payOut_118 : decode cX0_payOut 118 = .ok (.aload_n 1, 1) := by decide +kernel
theorem dX0_payOut_119 : decode cX0_payOut 119 = .ok (.getfield 185, 3) := by decide +kernel
theorem dX0_payOut_122 : decode cX0_payOut 122 = .ok (.invokevirtual 119, 3) := by decide +kernel
theorem dX0_payOut_125 : decode cX0_payOut 125 = .ok (.ifCond .eq 33, 3) := by decide +kernel
theorem dX0_payOut_128 : decode cX0_payOut 128 = .ok (.aload_n 1, 1) := by decide +kernel
theorem dX0_payOut_129 : decode cX0_payOut 129 = .ok (.dup, 1) := by decide +kernel
theorem dX0_payOut_130 : decode cX0_payOut 130 = .ok (.getfield 188, 3) := by decide +kernel
theorem dX0_payOut_133 : decode cX0_payOut 133 = .ok (.lload 11, 2) := by decide +kernel
theorem dX0_payOut_135 : decode cX0_payOut 135 = .ok (.lsub, 1) := by decide +kernel
theorem dX0_payOut_136 : decode cX0_payOut 136 = .ok (.putfield 188, 3) := by decide +kernel
theorem dX0_payOut_139 : decode cX0_payOut 139 = .ok (.aload_n 0, 1) := by decide +kernel
theorem dX0_payOut_140 : decode cX0_payOut 140 = .ok (.getfield 20, 3) := by decide +kernel
theorem dX0_payOut_143 : decode cX0_payOut 143 = .ok (.aload_n 1, 1) := by decide +kernel
theorem dX0_payOut_144 : decode cX0_payOut 144 = .ok (.getfield 185, 3) := by decide +kernel
theorem dX0_payOut_147 : decode cX0_payOut 147 = .ok (.aaload, 1) := by decide +kernel
theorem dX0_payOut_148 : decode cX0_payOut 148 = .ok (.dup, 1) := by decide +kernel
theorem dX0_payOut_149 : decode cX0_payOut 149 = .ok (.getfield 191, 3) := by decide +kernel
theorem dX0_payOut_152 : decode cX0_payOut 152 = .ok (.lload 11, 2) := by decide +kernel
theorem dX0_payOut_154 : decode cX0_payOut 154 = .ok (.ladd, 1) := by decide +kernel
theorem dX0_payOut_155 : decode cX0_payOut 155 = .ok (.putfield 191, 3) := by decide +kernel
theorem dX0_payOut_158 : decode cX0_payOut 158 = .ok (.aload 4, 2) := by decide +kernel
theorem dX0_payOut_160 : decode cX0_payOut 160 = .ok (.dup, 1) := by decide +kernel
theorem dX0_payOut_161 : decode cX0_payOut 161 = .ok (.getfield 191, 3) := by decide +kernel
theorem dX0_payOut_164 : decode cX0_payOut 164 = .ok (.lload 7, 2) := by decide +kernel
theorem dX0_payOut_166 : decode cX0_payOut 166 = .ok (.ladd, 1) := by decide +kernel
theorem dX0_payOut_167 : decode cX0_payOut 167 = .ok (.putfield 191, 3) := by decide +kernel
theorem dX0_payOut_170 : decode cX0_payOut 170 = .ok (.aload_n 1, 1) := by decide +kernel
theorem dX0_payOut_171 : decode cX0_payOut 171 = .ok (.dup, 1) := by decide +kernel
theorem dX0_payOut_172 : decode cX0_payOut 172 = .ok (.getfield 194, 3) := by decide +kernel
theorem dX0_payOut_175 : decode cX0_payOut 175 = .ok (.lload_n 2, 1) := by decide +kernel
theorem dX0_payOut_176 : decode cX0_payOut 176 = .ok (.ladd, 1) := by decide +kernel
theorem dX0_payOut_177 : decode cX0_payOut 177 = .ok (.putfield 194, 3) := by decide +kernel
theorem dX0_payOut_180 : decode cX0_payOut 180 = .ok (.return_, 1) := by decide +kernel
theorem dX0_payHeld_0 : decode cX0_payHeld 0 = .ok (.aload_n 1, 1) := by decide +kernel
theorem dX0_payHeld_1 : decode cX0_payHeld 1 = .ok (.aload_n 0, 1) := by decide +kernel
theorem dX0_payHeld_2 : decode cX0_payHeld 2 = .ok (.getfield 56, 3) := by decide +kernel
theorem dX0_payHeld_5 : decode cX0_payHeld 5 = .ok (.invokevirtual 197, 3) := by decide +kernel
theorem dX0_payHeld_8 : decode cX0_payHeld 8 = .ok (.lstore_n 2, 1) := by decide +kernel
theorem dX0_payHeld_9 : decode cX0_payHeld 9 = .ok (.aload_n 0, 1) := by decide +kernel
theorem dX0_payHeld_10 : decode cX0_payHeld 10 = .ok (.aload_n 1, 1) := by decide +kernel
theorem dX0_payHeld_11 : decode cX0_payHeld 11 = .ok (.lload_n 2, 1) := by decide +kernel
theorem dX0_payHeld_12 : decode cX0_payHeld 12 = .ok (.invokevirtual 201, 3) := by decide +kernel
theorem dX0_payHeld_15 : decode cX0_payHeld 15 = .ok (.lload_n 2, 1) := by decide +kernel
theorem dX0_payHeld_16 : decode cX0_payHeld 16 = .ok (.lreturn, 1) := by decide +kernel
theorem dX0_prove_0 : decode cX0_prove 0 = .ok (.aload_n 0, 1) := by decide +kernel
theorem dX0_prove_1 : decode cX0_prove 1 = .ok (.getfield 20, 3) := by decide +kernel
theorem dX0_prove_4 : decode cX0_prove 4 = .ok (.iload_n 1, 1) := by decide +kernel
theorem dX0_prove_5 : decode cX0_prove 5 = .ok (.aaload, 1) := by decide +kernel
theorem dX0_prove_6 : decode cX0_prove 6 = .ok (.iconst 1, 1) := by decide +kernel
theorem dX0_prove_7 : decode cX0_prove 7 = .ok (.putfield 146, 3) := by decide +kernel
theorem dX0_prove_10 : decode cX0_prove 10 = .ok (.lconst 0, 1) := by decide +kernel
theorem dX0_prove_11 : decode cX0_prove 11 = .ok (.lstore_n 2, 1) := by decide +kernel
theorem dX0_prove_12 : decode cX0_prove 12 = .ok (.iconst 0, 1) := by decide +kernel
theorem dX0_prove_13 : decode cX0_prove 13 = .ok (.istore 4, 2) := by decide +kernel
theorem dX0_prove_15 : decode cX0_prove 15 = .ok (.iload 4, 2) := by decide +kernel
theorem dX0_prove_17 : decode cX0_prove 17 = .ok (.aload_n 0, 1) := by decide +kernel
theorem dX0_prove_18 : decode cX0_prove 18 = .ok (.getfield 53, 3) := by decide +kernel
theorem dX0_prove_21 : decode cX0_prove 21 = .ok (.if_icmp .ge 48, 3) := by decide +kernel
theorem dX0_prove_24 : decode cX0_prove 24 = .ok (.aload_n 0, 1) := by decide +kernel
theorem dX0_prove_25 : decode cX0_prove 25 = .ok (.getfield 32, 3) := by decide +kernel
theorem dX0_prove_28 : decode cX0_prove 28 = .ok (.iload 4, 2) := by decide +kernel
theorem dX0_prove_30 : decode cX0_prove 30 = .ok (.aaload, 1) := by decide +kernel
theorem dX0_prove_31 : decode cX0_prove 31 = .ok (.iload_n 1, 1) := by decide +kernel
theorem dX0_prove_32 : decode cX0_prove 32 = .ok (.invokevirtual 205, 3) := by decide +kernel
theorem dX0_prove_35 : decode cX0_prove 35 = .ok (.ifCond .eq 28, 3) := by decide +kernel
theorem dX0_prove_38 : decode cX0_prove 38 = .ok (.lload_n 2, 1) := by decide +kernel
theorem dX0_prove_39 : decode cX0_prove 39 = .ok (.aload_n 0, 1) := by decide +kernel
theorem dX0_prove_40 : decode cX0_prove 40 = .ok (.aload_n 0, 1) := by decide +kernel
theorem dX0_prove_41 : decode cX0_prove 41 = .ok (.getfield 32, 3) := by decide +kernel
theorem dX0_prove_44 : decode cX0_prove 44 = .ok (.iload 4, 2) := by decide +kernel
theorem dX0_prove_46 : decode cX0_prove 46 = .ok (.aaload, 1) := by decide +kernel
theorem dX0_prove_47 : decode cX0_prove 47 = .ok (.invokevirtual 208, 3) := by decide +kernel
theorem dX0_prove_50 : decode cX0_prove 50 = .ok (.ladd, 1) := by decide +kernel
theorem dX0_prove_51 : decode cX0_prove 51 = .ok (.lstore_n 2, 1) := by decide +kernel
theorem dX0_prove_52 : decode cX0_prove 52 = .ok (.aload_n 0, 1) := by decide +kernel
theorem dX0_prove_53 : decode cX0_prove 53 = .ok (.getfield 32, 3) := by decide +kernel
theorem dX0_prove_56 : decode cX0_prove 56 = .ok (.iload 4, 2) := by decide +kernel
theorem dX0_prove_58 : decode cX0_prove 58 = .ok (.aaload, 1) := by decide +kernel
theorem dX0_prove_59 : decode cX0_prove 59 = .ok (.iconst 0, 1) := by decide +kernel
theorem dX0_prove_60 : decode cX0_prove 60 = .ok (.putfield 162, 3) := by decide +kernel
theorem dX0_prove_63 : decode cX0_prove 63 = .ok (.iinc 4 1, 3) := by decide +kernel
theorem dX0_prove_66 : decode cX0_prove 66 = .ok (.goto (-51), 3) := by decide +kernel
theorem dX0_prove_69 : decode cX0_prove 69 = .ok (.lload_n 2, 1) := by decide +kernel
theorem dX0_prove_70 : decode cX0_prove 70 = .ok (.lreturn, 1) := by decide +kernel
theorem dX0_learnDeath_0 : decode cX0_learnDeath 0 = .ok (.aload_n 0, 1) := by decide +kernel
theorem dX0_learnDeath_1 : decode cX0_learnDeath 1 = .ok (.getfield 20, 3) := by decide +kernel
theorem dX0_learnDeath_4 : decode cX0_learnDeath 4 = .ok (.iload_n 1, 1) := by decide +kernel
theorem dX0_learnDeath_5 : decode cX0_learnDeath 5 = .ok (.aaload, 1) := by decide +kernel
theorem dX0_learnDeath_6 : decode cX0_learnDeath 6 = .ok (.iconst 1, 1) := by decide +kernel
theorem dX0_learnDeath_7 : decode cX0_learnDeath 7 = .ok (.putfield 123, 3) := by decide +kernel
theorem dX0_learnDeath_10 : decode cX0_learnDeath 10 = .ok (.aload_n 0, 1) := by decide +kernel
theorem dX0_learnDeath_11 : decode cX0_learnDeath 11 = .ok (.getfield 20, 3) := by decide +kernel
theorem dX0_learnDeath_14 : decode cX0_learnDeath 14 = .ok (.iload_n 1, 1) := by decide +kernel
theorem dX0_learnDeath_15 : decode cX0_learnDeath 15 = .ok (.aaload, 1) := by decide +kernel
theorem dX0_learnDeath_16 : decode cX0_learnDeath 16 = .ok (.iload_n 2, 1) := by decide +kernel
theorem dX0_learnDeath_17 : decode cX0_learnDeath 17 = .ok (.putfield 169, 3) := by decide +kernel
theorem dX0_learnDeath_20 : decode cX0_learnDeath 20 = .ok (.aload_n 0, 1) := by decide +kernel
theorem dX0_learnDeath_21 : decode cX0_learnDeath 21 = .ok (.getfield 20, 3) := by decide +kernel
theorem dX0_learnDeath_24 : decode cX0_learnDeath 24 = .ok (.iload_n 1, 1) := by decide +kernel
theorem dX0_learnDeath_25 : decode cX0_learnDeath 25 = .ok (.aaload, 1) := by decide +kernel
theorem dX0_learnDeath_26 : decode cX0_learnDeath 26 = .ok (.iconst 0, 1) := by decide +kernel
theorem dX0_learnDeath_27 : decode cX0_learnDeath 27 = .ok (.putfield 146, 3) := by decide +kernel
theorem dX0_learnDeath_30 : decode cX0_learnDeath 30 = .ok (.lconst 0, 1) := by decide +kernel
theorem dX0_learnDeath_31 : decode cX0_learnDeath 31 = .ok (.lstore_n 3, 1) := by decide +kernel
theorem dX0_learnDeath_32 : decode cX0_learnDeath 32 = .ok (.iconst 0, 1) := by decide +kernel
theorem dX0_learnDeath_33 : decode cX0_learnDeath 33 = .ok (.istore 5, 2) := by decide +kernel
theorem dX0_learnDeath_35 : decode cX0_learnDeath 35 = .ok (.iload 5, 2) := by decide +kernel
theorem dX0_learnDeath_37 : decode cX0_learnDeath 37 = .ok (.aload_n 0, 1) := by decide +kernel
theorem dX0_learnDeath_38 : decode cX0_learnDeath 38 = .ok (.getfield 53, 3) := by decide +kernel
theorem dX0_learnDeath_41 : decode cX0_learnDeath 41 = .ok (.if_icmp .ge 51, 3) := by decide +kernel
theorem dX0_learnDeath_44 : decode cX0_learnDeath 44 = .ok (.aload_n 0, 1) := by decide +kernel
theorem dX0_learnDeath_45 : decode cX0_learnDeath 45 = .ok (.getfield 32, 3) := by decide +kernel
theorem dX0_learnDeath_48 : decode cX0_learnDeath 48 = .ok (.iload 5, 2) := by decide +kernel
theorem dX0_learnDeath_50 : decode cX0_learnDeath 50 = .ok (.aaload, 1) := by decide +kernel
theorem dX0_learnDeath_51 : decode cX0_learnDeath 51 = .ok (.iload_n 1, 1) := by decide +kernel
theorem dX0_learnDeath_52 : decode cX0_learnDeath 52 = .ok (.invokevirtual 205, 3) := by decide +kernel
theorem dX0_learnDeath_55 : decode cX0_learnDeath 55 = .ok (.ifCond .eq 31, 3) := by decide +kernel
theorem dX0_learnDeath_58 : decode cX0_learnDeath 58 = .ok (.aload_n 0, 1) := by decide +kernel
theorem dX0_learnDeath_59 : decode cX0_learnDeath 59 = .ok (.aload_n 0, 1) := by decide +kernel
theorem dX0_learnDeath_60 : decode cX0_learnDeath 60 = .ok (.getfield 32, 3) := by decide +kernel
theorem dX0_learnDeath_63 : decode cX0_learnDeath 63 = .ok (.iload 5, 2) := by decide +kernel
theorem dX0_learnDeath_65 : decode cX0_learnDeath 65 = .ok (.aaload, 1) := by decide +kernel
theorem dX0_learnDeath_66 : decode cX0_learnDeath 66 = .ok (.invokevirtual 158, 3) := by decide +kernel
theorem dX0_learnDeath_69 : decode cX0_learnDeath 69 = .ok (.ifCond .eq 17, 3) := by decide +kernel
theorem dX0_learnDeath_72 : decode cX0_learnDeath 72 = .ok (.lload_n 3, 1) := by decide +kernel
theorem dX0_learnDeath_73 : decode cX0_learnDeath 73 = .ok (.aload_n 0, 1) := by decide +kernel
theorem dX0_learnDeath_74 : decode cX0_learnDeath 74 = .ok (.aload_n 0, 1) := by decide +kernel
theorem dX0_learnDeath_75 : decode cX0_learnDeath 75 = .ok (.getfield 32, 3) := by decide +kernel
theorem dX0_learnDeath_78 : decode cX0_learnDeath 78 = .ok (.iload 5, 2) := by decide +kernel
theorem dX0_learnDeath_80 : decode cX0_learnDeath 80 = .ok (.aaload, 1) := by decide +kernel
theorem dX0_learnDeath_81 : decode cX0_learnDeath 81 = .ok (.invokevirtual 212, 3) := by decide +kernel
theorem dX0_learnDeath_84 : decode cX0_learnDeath 84 = .ok (.ladd, 1) := by decide +kernel
theorem dX0_learnDeath_85 : decode cX0_learnDeath 85 = .ok (.lstore_n 3, 1) := by decide +kernel
theorem dX0_learnDeath_86 : decode cX0_learnDeath 86 = .ok (.iinc 5 1, 3) := by decide +kernel
theorem dX0_learnDeath_89 : decode cX0_learnDeath 89 = .ok (.goto (-54), 3) := by decide +kernel
theorem dX0_learnDeath_92 : decode cX0_learnDeath 92 = .ok (.lload_n 3, 1) := by decide +kernel
theorem dX0_learnDeath_93 : decode cX0_learnDeath 93 = .ok (.lreturn, 1) := by decide +kernel
theorem dX0_settle_0 : decode cX0_settle 0 = .ok (.aload_n 0, 1) := by decide +kernel
theorem dX0_settle_1 : decode cX0_settle 1 = .ok (.aload_n 1, 1) := by decide +kernel
theorem dX0_settle_2 : decode cX0_settle 2 = .ok (.invokevirtual 215, 3) := by decide +kernel
theorem dX0_settle_5 : decode cX0_settle 5 = .ok (.istore_n 2, 1) := by decide +kernel
theorem dX0_settle_6 : decode cX0_settle 6 = .ok (.aload_n 0, 1) := by decide +kernel
theorem dX0_settle_7 : decode cX0_settle 7 = .ok (.dup, 1) := by decide +kernel
theorem dX0_settle_8 : decode cX0_settle 8 = .ok (.getfield 62, 3) := by decide +kernel
theorem dX0_settle_11 : decode cX0_settle 11 = .ok (.aload_n 1, 1) := by decide +kernel
theorem dX0_settle_12 : decode cX0_settle 12 = .ok (.iload_n 2, 1) := by decide +kernel
theorem dX0_settle_13 : decode cX0_settle 13 = .ok (.aload_n 0, 1) := by decide +kernel
theorem dX0_settle_14 : decode cX0_settle 14 = .ok (.getfield 56, 3) := by decide +kernel
theorem dX0_settle_17 : decode cX0_settle 17 = .ok (.invokevirtual 218, 3) := by decide +kernel
theorem dX0_settle_20 : decode cX0_settle 20 = .ok (.ladd, 1) := by decide +kernel
theorem dX0_settle_21 : decode cX0_settle 21 = .ok (.putfield 62, 3) := by decide +kernel
theorem dX0_settle_24 : decode cX0_settle 24 = .ok (.aload_n 0, 1) := by decide +kernel
theorem dX0_settle_25 : decode cX0_settle 25 = .ok (.aload_n 1, 1) := by decide +kernel
theorem dX0_settle_26 : decode cX0_settle 26 = .ok (.invokevirtual 208, 3) := by decide +kernel
theorem dX0_settle_29 : decode cX0_settle 29 = .ok (.pop2, 1) := by decide +kernel
theorem dX0_settle_30 : decode cX0_settle 30 = .ok (.aload_n 1, 1) := by decide +kernel
theorem dX0_settle_31 : decode cX0_settle 31 = .ok (.iload_n 2, 1) := by decide +kernel
theorem dX0_settle_32 : decode cX0_settle 32 = .ok (.iconst 1, 1) := by decide +kernel
theorem dX0_settle_33 : decode cX0_settle 33 = .ok (.iadd, 1) := by decide +kernel
theorem dX0_settle_34 : decode cX0_settle 34 = .ok (.aload_n 1, 1) := by decide +kernel
theorem dX0_settle_35 : decode cX0_settle 35 = .ok (.getfield 155, 3) := by decide +kernel
theorem dX0_settle_38 : decode cX0_settle 38 = .ok (.invokestatic 130, 3) := by decide +kernel
theorem dX0_settle_41 : decode cX0_settle 41 = .ok (.aload_n 0, 1) := by decide +kernel
theorem dX0_settle_42 : decode cX0_settle 42 = .ok (.getfield 56, 3) := by decide +kernel
theorem dX0_settle_45 : decode cX0_settle 45 = .ok (.invokevirtual 222, 3) := by decide +kernel
theorem dX0_settle_48 : decode cX0_settle 48 = .ok (.lstore_n 3, 1) := by decide +kernel
theorem dX0_settle_49 : decode cX0_settle 49 = .ok (.aload_n 0, 1) := by decide +kernel
theorem dX0_settle_50 : decode cX0_settle 50 = .ok (.getfield 20, 3) := by decide +kernel
theorem dX0_settle_53 : decode cX0_settle 53 = .ok (.aload_n 1, 1) := by decide +kernel
theorem dX0_settle_54 : decode cX0_settle 54 = .ok (.getfield 89, 3) := by decide +kernel
theorem dX0_settle_57 : decode cX0_settle 57 = .ok (.aaload, 1) := by decide +kernel
theorem dX0_settle_58 : decode cX0_settle 58 = .ok (.dup, 1) := by decide +kernel
theorem dX0_settle_59 : decode cX0_settle 59 = .ok (.getfield 178, 3) := by decide +kernel
theorem dX0_settle_62 : decode cX0_settle 62 = .ok (.lload_n 3, 1) := by decide +kernel
theorem dX0_settle_63 : decode cX0_settle 63 = .ok (.ladd, 1) := by decide +kernel
theorem dX0_settle_64 : decode cX0_settle 64 = .ok (.putfield 178, 3) := by decide +kernel
theorem dX0_settle_67 : decode cX0_settle 67 = .ok (.lload_n 3, 1) := by decide +kernel
theorem dX0_settle_68 : decode cX0_settle 68 = .ok (.lreturn, 1) := by decide +kernel
theorem dX0_partPot_0 : decode cX0_partPot 0 = .ok (.aload_n 0, 1) := by decide +kernel
theorem dX0_partPot_1 : decode cX0_partPot 1 = .ok (.dup, 1) := by decide +kernel
theorem dX0_partPot_2 : decode cX0_partPot 2 = .ok (.getfield 62, 3) := by decide +kernel
theorem dX0_partPot_5 : decode cX0_partPot 5 = .ok (.iload_n 1, 1) := by decide +kernel
theorem dX0_partPot_6 : decode cX0_partPot 6 = .ok (.i2l, 1) := by decide +kernel
theorem dX0_partPot_7 : decode cX0_partPot 7 = .ok (.ladd, 1) := by decide +kernel
theorem dX0_partPot_8 : decode cX0_partPot 8 = .ok (.putfield 62, 3) := by decide +kernel
theorem dX0_partPot_11 : decode cX0_partPot 11 = .ok (.aload_n 0, 1) := by decide +kernel
theorem dX0_partPot_12 : decode cX0_partPot 12 = .ok (.dup, 1) := by decide +kernel
theorem dX0_partPot_13 : decode cX0_partPot 13 = .ok (.getfield 69, 3) := by decide +kernel
theorem dX0_partPot_16 : decode cX0_partPot 16 = .ok (.iload_n 1, 1) := by decide +kernel
theorem dX0_partPot_17 : decode cX0_partPot 17 = .ok (.i2l, 1) := by decide +kernel
theorem dX0_partPot_18 : decode cX0_partPot 18 = .ok (.ladd, 1) := by decide +kernel
theorem dX0_partPot_19 : decode cX0_partPot 19 = .ok (.putfield 69, 3) := by decide +kernel
theorem dX0_partPot_22 : decode cX0_partPot 22 = .ok (.aload_n 0, 1) := by decide +kernel
theorem dX0_partPot_23 : decode cX0_partPot 23 = .ok (.invokevirtual 225, 3) := by decide +kernel
theorem dX0_partPot_26 : decode cX0_partPot 26 = .ok (.lstore_n 2, 1) := by decide +kernel
theorem dX0_partPot_27 : decode cX0_partPot 27 = .ok (.lconst 0, 1) := by decide +kernel
theorem dX0_partPot_28 : decode cX0_partPot 28 = .ok (.lstore 4, 2) := by decide +kernel
theorem dX0_partPot_30 : decode cX0_partPot 30 = .ok (.iconst 0, 1) := by decide +kernel
theorem dX0_partPot_31 : decode cX0_partPot 31 = .ok (.istore 6, 2) := by decide +kernel
theorem dX0_partPot_33 : decode cX0_partPot 33 = .ok (.iload 6, 2) := by decide +kernel
theorem dX0_partPot_35 : decode cX0_partPot 35 = .ok (.aload_n 0, 1) := by decide +kernel
theorem dX0_partPot_36 : decode cX0_partPot 36 = .ok (.getfield 50, 3) := by decide +kernel
theorem dX0_partPot_39 : decode cX0_partPot 39 = .ok (.if_icmp .ge 71, 3) := by decide +kernel
theorem dX0_partPot_42 : decode cX0_partPot 42 = .ok (.aload_n 0, 1) := by decide +kernel
theorem dX0_partPot_43 : decode cX0_partPot 43 = .ok (.getfield 26, 3) := by decide +kernel
theorem dX0_partPot_46 : decode cX0_partPot 46 = .ok (.iload 6, 2) := by decide +kernel
theorem dX0_partPot_48 : decode cX0_partPot 48 = .ok (.aaload, 1) := by decide +kernel
theorem dX0_partPot_49 : decode cX0_partPot 49 = .ok (.astore 7, 2) := by decide +kernel
theorem dX0_partPot_51 : decode cX0_partPot 51 = .ok (.aload 7, 2) := by decide +kernel
theorem dX0_partPot_53 : decode cX0_partPot 53 = .ok (.aload_n 0, 1) := by decide +kernel
theorem dX0_partPot_54 : decode cX0_partPot 54 = .ok (.iload 6, 2) := by decide +kernel
theorem dX0_partPot_56 : decode cX0_partPot 56 = .ok (.invokevirtual 229, 3) := by decide +kernel
theorem dX0_partPot_59 : decode cX0_partPot 59 = .ok (.putfield 232, 3) := by decide +kernel
theorem dX0_partPot_62 : decode cX0_partPot 62 = .ok (.aload 7, 2) := by decide +kernel
theorem dX0_partPot_64 : decode cX0_partPot 64 = .ok (.lload 4, 2) := by decide +kernel
theorem dX0_partPot_66 : decode cX0_partPot 66 = .ok (.aload_n 0, 1) := by decide +kernel
theorem dX0_partPot_67 : decode cX0_partPot 67 = .ok (.getfield 62, 3) := by decide +kernel
theorem dX0_partPot_70 : decode cX0_partPot 70 = .ok (.aload 7, 2) := by decide +kernel
theorem dX0_partPot_72 : decode cX0_partPot 72 = .ok (.getfield 110, 3) := by decide +kernel
theorem dX0_partPot_75 : decode cX0_partPot 75 = .ok (.lload_n 2, 1) := by decide +kernel
theorem dX0_partPot_76 : decode cX0_partPot 76 = .ok (.invokestatic 174, 3) := by decide +kernel
theorem dX0_partPot_79 : decode cX0_partPot 79 = .ok (.ladd, 1) := by decide +kernel
theorem dX0_partPot_80 : decode cX0_partPot 80 = .ok (.putfield 235, 3) := by decide +kernel
theorem dX0_partPot_83 : decode cX0_partPot 83 = .ok (.aload 7, 2) := by decide +kernel
theorem dX0_partPot_85 : decode cX0_partPot 85 = .ok (.getfield 232, 3) := by decide +kernel
theorem dX0_partPot_88 : decode cX0_partPot 88 = .ok (.lconst 0, 1) := by decide +kernel
theorem dX0_partPot_89 : decode cX0_partPot 89 = .ok (.lcmp, 1) := by decide +kernel
theorem dX0_partPot_90 : decode cX0_partPot 90 = .ok (.ifCond .le 7, 3) := by decide +kernel
theorem dX0_partPot_93 : decode cX0_partPot 93 = .ok (.lconst 0, 1) := by decide +kernel
theorem dX0_partPot_94 : decode cX0_partPot 94 = .ok (.goto 8, 3) := by decide +kernel
theorem dX0_partPot_97 : decode cX0_partPot 97 = .ok (.aload 7, 2) := by decide +kernel
theorem dX0_partPot_99 : decode cX0_partPot 99 = .ok (.getfield 235, 3) := by decide +kernel
theorem dX0_partPot_102 : decode cX0_partPot 102 = .ok (.lstore 4, 2) := by decide +kernel
theorem dX0_partPot_104 : decode cX0_partPot 104 = .ok (.iinc 6 1, 3) := by decide +kernel
theorem dX0_partPot_107 : decode cX0_partPot 107 = .ok (.goto (-74), 3) := by decide +kernel
theorem dX0_partPot_110 : decode cX0_partPot 110 = .ok (.return_, 1) := by decide +kernel
theorem dX0_drawAll_0 : decode cX0_drawAll 0 = .ok (.lconst 0, 1) := by decide +kernel
theorem dX0_drawAll_1 : decode cX0_drawAll 1 = .ok (.lstore_n 1, 1) := by decide +kernel
theorem dX0_drawAll_2 : decode cX0_drawAll 2 = .ok (.iconst 0, 1) := by decide +kernel
theorem dX0_drawAll_3 : decode cX0_drawAll 3 = .ok (.istore_n 3, 1) := by decide +kernel
theorem dX0_drawAll_4 : decode cX0_drawAll 4 = .ok (.iload_n 3, 1) := by decide +kernel
theorem dX0_drawAll_5 : decode cX0_drawAll 5 = .ok (.aload_n 0, 1) := by decide +kernel
theorem dX0_drawAll_6 : decode cX0_drawAll 6 = .ok (.getfield 53, 3) := by decide +kernel
theorem dX0_drawAll_9 : decode cX0_drawAll 9 = .ok (.if_icmp .ge 82, 3) := by decide +kernel
theorem dX0_drawAll_12 : decode cX0_drawAll 12 = .ok (.aload_n 0, 1) := by decide +kernel
theorem dX0_drawAll_13 : decode cX0_drawAll 13 = .ok (.getfield 32, 3) := by decide +kernel
theorem dX0_drawAll_16 : decode cX0_drawAll 16 = .ok (.iload_n 3, 1) := by decide +kernel
theorem dX0_drawAll_17 : decode cX0_drawAll 17 = .ok (.aaload, 1) := by decide +kernel
theorem dX0_drawAll_18 : decode cX0_drawAll 18 = .ok (.astore 4, 2) := by decide +kernel
theorem dX0_drawAll_20 : decode cX0_drawAll 20 = .ok (.aload_n 0, 1) := by decide +kernel
theorem dX0_drawAll_21 : decode cX0_drawAll 21 = .ok (.aload 4, 2) := by decide +kernel
theorem dX0_drawAll_23 : decode cX0_drawAll 23 = .ok (.invokevirtual 165, 3) := by decide +kernel
theorem dX0_drawAll_26 : decode cX0_drawAll 26 = .ok (.istore 5, 2) := by decide +kernel
theorem dX0_drawAll_28 : decode cX0_drawAll 28 = .ok (.iload 5, 2) := by decide +kernel
theorem dX0_drawAll_30 : decode cX0_drawAll 30 = .ok (.ifCond .eq 9, 3) := by decide +kernel
theorem dX0_drawAll_33 : decode cX0_drawAll 33 = .ok (.iload 5, 2) := by decide +kernel
theorem dX0_drawAll_35 : decode cX0_drawAll 35 = .ok (.iconst 1, 1) := by decide +kernel
theorem dX0_drawAll_36 : decode cX0_drawAll 36 = .ok (.if_icmp .ne 22, 3) := by decide +kernel
theorem dX0_drawAll_39 : decode cX0_drawAll 39 = .ok (.lload_n 1, 1) := by decide +kernel
theorem dX0_drawAll_40 : decode cX0_drawAll 40 = .ok (.aload_n 0, 1) := by decide +kernel
theorem dX0_drawAll_41 : decode cX0_drawAll 41 = .ok (.aload 4, 2) := by decide +kernel
theorem dX0_drawAll_43 : decode cX0_drawAll 43 = .ok (.iload 5, 2) := by decide +kernel
theorem dX0_drawAll_45 : decode cX0_drawAll 45 = .ok (.ifCond .ne 7, 3) := by decide +kernel
theorem dX0_drawAll_48 : decode cX0_drawAll 48 = .ok (.iconst 1, 1) := by decide +kernel
theorem dX0_drawAll_49 : decode cX0_drawAll 49 = .ok (.goto 4, 3) := by decide +kernel
theorem dX0_drawAll_52 : decode cX0_drawAll 52 = .ok (.iconst 0, 1) := by decide +kernel
theorem dX0_drawAll_53 : decode cX0_drawAll 53 = .ok (.invokevirtual 238, 3) := by decide +kernel
theorem dX0_drawAll_56 : decode cX0_drawAll 56 = .ok (.ladd, 1) := by decide +kernel
theorem dX0_drawAll_57 : decode cX0_drawAll 57 = .ok (.lstore_n 1, 1) := by decide +kernel
theorem dX0_drawAll_58 : decode cX0_drawAll 58 = .ok (.aload 4, 2) := by decide +kernel
theorem dX0_drawAll_60 : decode cX0_drawAll 60 = .ok (.iload 5, 2) := by decide +kernel
theorem dX0_drawAll_62 : decode cX0_drawAll 62 = .ok (.ifCond .eq 9, 3) := by decide +kernel
theorem dX0_drawAll_65 : decode cX0_drawAll 65 = .ok (.iload 5, 2) := by decide +kernel
theorem dX0_drawAll_67 : decode cX0_drawAll 67 = .ok (.iconst 3, 1) := by decide +kernel
theorem dX0_drawAll_68 : decode cX0_drawAll 68 = .ok (.if_icmp .ne 7, 3) := by decide +kernel
theorem dX0_drawAll_71 : decode cX0_drawAll 71 = .ok (.iconst 0, 1) := by decide +kernel
theorem dX0_drawAll_72 : decode cX0_drawAll 72 = .ok (.goto 10, 3) := by decide +kernel
theorem dX0_drawAll_75 : decode cX0_drawAll 75 = .ok (.aload 4, 2) := by decide +kernel
theorem dX0_drawAll_77 : decode cX0_drawAll 77 = .ok (.getfield 162, 3) := by decide +kernel
theorem dX0_drawAll_80 : decode cX0_drawAll 80 = .ok (.iconst 1, 1) := by decide +kernel
theorem dX0_drawAll_81 : decode cX0_drawAll 81 = .ok (.iadd, 1) := by decide +kernel
theorem dX0_drawAll_82 : decode cX0_drawAll 82 = .ok (.putfield 162, 3) := by decide +kernel
theorem dX0_drawAll_85 : decode cX0_drawAll 85 = .ok (.iinc 3 1, 3) := by decide +kernel
theorem dX0_drawAll_88 : decode cX0_drawAll 88 = .ok (.goto (-84), 3) := by decide +kernel
theorem dX0_drawAll_91 : decode cX0_drawAll 91 = .ok (.lload_n 1, 1) := by decide +kernel
theorem dX0_drawAll_92 : decode cX0_drawAll 92 = .ok (.lreturn, 1) := by decide +kernel
theorem dX0_draw_0 : decode cX0_draw 0 = .ok (.aload_n 0, 1) := by decide +kernel
theorem dX0_draw_1 : decode cX0_draw 1 = .ok (.getfield 26, 3) := by decide +kernel
theorem dX0_draw_4 : decode cX0_draw 4 = .ok (.aload_n 1, 1) := by decide +kernel
theorem dX0_draw_5 : decode cX0_draw 5 = .ok (.getfield 101, 3) := by decide +kernel
theorem dX0_draw_8 : decode cX0_draw 8 = .ok (.aaload, 1) := by decide +kernel
theorem dX0_draw_9 : decode cX0_draw 9 = .ok (.astore_n 3, 1) := by decide +kernel
theorem dX0_draw_10 : decode cX0_draw 10 = .ok (.aload_n 3, 1) := by decide +kernel
theorem dX0_draw_11 : decode cX0_draw 11 = .ok (.getfield 235, 3) := by decide +kernel
theorem dX0_draw_14 : decode cX0_draw 14 = .ok (.aload_n 1, 1) := by decide +kernel
theorem dX0_draw_15 : decode cX0_draw 15 = .ok (.getfield 98, 3) := by decide +kernel
theorem dX0_draw_18 : decode cX0_draw 18 = .ok (.i2l, 1) := by decide +kernel
theorem dX0_draw_19 : decode cX0_draw 19 = .ok (.aload_n 3, 1) := by decide +kernel
theorem dX0_draw_20 : decode cX0_draw 20 = .ok (.getfield 232, 3) := by decide +kernel
theorem dX0_draw_23 : decode cX0_draw 23 = .ok (.invokestatic 174, 3) := by decide +kernel
theorem dX0_draw_26 : decode cX0_draw 26 = .ok (.lstore 4, 2) := by decide +kernel
theorem dX0_draw_28 : decode cX0_draw 28 = .ok (.aload_n 0, 1) := by decide +kernel
theorem dX0_draw_29 : decode cX0_draw 29 = .ok (.dup, 1) := by decide +kernel
theorem dX0_draw_30 : decode cX0_draw 30 = .ok (.getfield 62, 3) := by decide +kernel
theorem dX0_draw_33 : decode cX0_draw 33 = .ok (.lload 4, 2) := by decide +kernel
theorem dX0_draw_35 : decode cX0_draw 35 = .ok (.lsub, 1) := by decide +kernel
theorem dX0_draw_36 : decode cX0_draw 36 = .ok (.putfield 62, 3) := by decide +kernel
theorem dX0_draw_39 : decode cX0_draw 39 = .ok (.aload_n 1, 1) := by decide +kernel
theorem dX0_draw_40 : decode cX0_draw 40 = .ok (.aload_n 0, 1) := by decide +kernel
theorem dX0_draw_41 : decode cX0_draw 41 = .ok (.getfield 56, 3) := by decide +kernel
theorem dX0_draw_44 : decode cX0_draw 44 = .ok (.lload 4, 2) := by decide +kernel
theorem dX0_draw_46 : decode cX0_draw 46 = .ok (.invokevirtual 242, 3) := by decide +kernel
theorem dX0_draw_49 : decode cX0_draw 49 = .ok (.iload_n 2, 1) := by decide +kernel
theorem dX0_draw_50 : decode cX0_draw 50 = .ok (.ifCond .ne 5, 3) := by decide +kernel
theorem dX0_draw_53 : decode cX0_draw 53 = .ok (.lconst 0, 1) := by decide +kernel
theorem dX0_draw_54 : decode cX0_draw 54 = .ok (.lreturn, 1) := by decide +kernel
theorem dX0_draw_55 : decode cX0_draw 55 = .ok (.aload_n 1, 1) := by decide +kernel
theorem dX0_draw_56 : decode cX0_draw 56 = .ok (.aload_n 0, 1) := by decide +kernel
theorem dX0_draw_57 : decode cX0_draw 57 = .ok (.getfield 56, 3) := by decide +kernel
theorem dX0_draw_60 : decode cX0_draw 60 = .ok (.iconst 1, 1) := by decide +kernel
theorem dX0_draw_61 : decode cX0_draw 61 = .ok (.iadd, 1) := by decide +kernel
theorem dX0_draw_62 : decode cX0_draw 62 = .ok (.putfield 246, 3) := by decide +kernel
theorem dX0_draw_65 : decode cX0_draw 65 = .ok (.aload_n 0, 1) := by decide +kernel
theorem dX0_draw_66 : decode cX0_draw 66 = .ok (.aload_n 1, 1) := by decide +kernel
theorem dX0_draw_67 : decode cX0_draw 67 = .ok (.lload 4, 2) := by decide +kernel
theorem dX0_draw_69 : decode cX0_draw 69 = .ok (.invokevirtual 201, 3) := by decide +kernel
theorem dX0_draw_72 : decode cX0_draw 72 = .ok (.lload 4, 2) := by decide +kernel
theorem dX0_draw_74 : decode cX0_draw 74 = .ok (.lreturn, 1) := by decide +kernel
theorem dX0_beginNextYear_0 : decode cX0_beginNextYear 0 = .ok (.aload_n 0, 1) := by decide +kernel
theorem dX0_beginNextYear_1 : decode cX0_beginNextYear 1 = .ok (.dup, 1) := by decide +kernel
theorem dX0_beginNextYear_2 : decode cX0_beginNextYear 2 = .ok (.getfield 56, 3) := by decide +kernel
theorem dX0_beginNextYear_5 : decode cX0_beginNextYear 5 = .ok (.iconst 1, 1) := by decide +kernel
theorem dX0_beginNextYear_6 : decode cX0_beginNextYear 6 = .ok (.iadd, 1) := by decide +kernel
theorem dX0_beginNextYear_7 : decode cX0_beginNextYear 7 = .ok (.putfield 56, 3) := by decide +kernel
theorem dX0_beginNextYear_10 : decode cX0_beginNextYear 10 = .ok (.iconst 0, 1) := by decide +kernel
theorem dX0_beginNextYear_11 : decode cX0_beginNextYear 11 = .ok (.istore_n 1, 1) := by decide +kernel
theorem dX0_beginNextYear_12 : decode cX0_beginNextYear 12 = .ok (.iload_n 1, 1) := by decide +kernel
theorem dX0_beginNextYear_13 : decode cX0_beginNextYear 13 = .ok (.aload_n 0, 1) := by decide +kernel
theorem dX0_beginNextYear_14 : decode cX0_beginNextYear 14 = .ok (.getfield 47, 3) := by decide +kernel
theorem dX0_beginNextYear_17 : decode cX0_beginNextYear 17 = .ok (.if_icmp .ge 19, 3) := by decide +kernel
theorem dX0_beginNextYear_20 : decode cX0_beginNextYear 20 = .ok (.aload_n 0, 1) := by decide +kernel
theorem dX0_beginNextYear_21 : decode cX0_beginNextYear 21 = .ok (.getfield 20, 3) := by decide +kernel
theorem dX0_beginNextYear_24 : decode cX0_beginNextYear 24 = .ok (.iload_n 1, 1) := by decide +kernel
theorem dX0_beginNextYear_25 : decode cX0_beginNextYear 25 = .ok (.aaload, 1) := by decide +kernel
theorem dX0_beginNextYear_26 : decode cX0_beginNextYear 26 = .ok (.iconst 0, 1) := by decide +kernel
theorem dX0_beginNextYear_27 : decode cX0_beginNextYear 27 = .ok (.putfield 146, 3) := by decide +kernel
theorem dX0_beginNextYear_30 : decode cX0_beginNextYear 30 = .ok (.iinc 1 1, 3) := by decide +kernel
theorem dX0_beginNextYear_33 : decode cX0_beginNextYear 33 = .ok (.goto (-21), 3) := by decide +kernel
theorem dX0_beginNextYear_36 : decode cX0_beginNextYear 36 = .ok (.return_, 1) := by decide +kernel
theorem dX0_giveBack_0 : decode cX0_giveBack 0 = .ok (.iconst 0, 1) := by decide +kernel
theorem dX0_giveBack_1 : decode cX0_giveBack 1 = .ok (.istore_n 1, 1) := by decide +kernel
theorem dX0_giveBack_2 : decode cX0_giveBack 2 = .ok (.iload_n 1, 1) := by decide +kernel
theorem dX0_giveBack_3 : decode cX0_giveBack 3 = .ok (.aload_n 0, 1) := by decide +kernel
theorem dX0_giveBack_4 : decode cX0_giveBack 4 = .ok (.getfield 53, 3) := by decide +kernel
theorem dX0_giveBack_7 : decode cX0_giveBack 7 = .ok (.if_icmp .ge 50, 3) := by decide +kernel
theorem dX0_giveBack_10 : decode cX0_giveBack 10 = .ok (.aload_n 0, 1) := by decide +kernel
theorem dX0_giveBack_11 : decode cX0_giveBack 11 = .ok (.getfield 32, 3) := by decide +kernel
theorem dX0_giveBack_14 : decode cX0_giveBack 14 = .ok (.iload_n 1, 1) := by decide +kernel
theorem dX0_giveBack_15 : decode cX0_giveBack 15 = .ok (.aaload, 1) := by decide +kernel
theorem dX0_giveBack_16 : decode cX0_giveBack 16 = .ok (.astore_n 2, 1) := by decide +kernel
theorem dX0_giveBack_17 : decode cX0_giveBack 17 = .ok (.aload_n 2, 1) := by decide +kernel
theorem dX0_giveBack_18 : decode cX0_giveBack 18 = .ok (.getfield 249, 3) := by decide +kernel
theorem dX0_giveBack_21 : decode cX0_giveBack 21 = .ok (.iconst 3, 1) := by decide +kernel
theorem dX0_giveBack_22 : decode cX0_giveBack 22 = .ok (.if_icmp .ne 29, 3) := by decide +kernel
theorem dX0_giveBack_25 : decode cX0_giveBack 25 = .ok (.aload_n 2, 1) := by decide +kernel
theorem dX0_giveBack_26 : decode cX0_giveBack 26 = .ok (.getfield 252, 3) := by decide +kernel
theorem dX0_giveBack_29 : decode cX0_giveBack 29 = .ok (.ifCond .ne 22, 3) := by decide +kernel
theorem dX0_giveBack_32 : decode cX0_giveBack 32 = .ok (.aload_n 0, 1) := by decide +kernel
theorem dX0_giveBack_33 : decode cX0_giveBack 33 = .ok (.aload_n 2, 1) := by decide +kernel
theorem dX0_giveBack_34 : decode cX0_giveBack 34 = .ok (.invokevirtual 165, 3) := by decide +kernel
theorem dX0_giveBack_37 : decode cX0_giveBack 37 = .ok (.iconst 3, 1) := by decide +kernel
theorem dX0_giveBack_38 : decode cX0_giveBack 38 = .ok (.if_icmp .ne 13, 3) := by decide +kernel
theorem dX0_giveBack_41 : decode cX0_giveBack 41 = .ok (.aload_n 2, 1) := by decide +kernel
theorem dX0_giveBack_42 : decode cX0_giveBack 42 = .ok (.iconst 1, 1) := by decide +kernel
theorem dX0_giveBack_43 : decode cX0_giveBack 43 = .ok (.putfield 252, 3) := by decide +kernel
theorem dX0_giveBack_46 : decode cX0_giveBack 46 = .ok (.aload_n 0, 1) := by decide +kernel
theorem dX0_giveBack_47 : decode cX0_giveBack 47 = .ok (.aload_n 2, 1) := by decide +kernel
theorem dX0_giveBack_48 : decode cX0_giveBack 48 = .ok (.invokevirtual 255, 3) := by decide +kernel
theorem dX0_giveBack_51 : decode cX0_giveBack 51 = .ok (.iinc 1 1, 3) := by decide +kernel
theorem dX0_giveBack_54 : decode cX0_giveBack 54 = .ok (.goto (-52), 3) := by decide +kernel
theorem dX0_giveBack_57 : decode cX0_giveBack 57 = .ok (.return_, 1) := by decide +kernel
theorem dX0_giveBackOf_0 : decode cX0_giveBackOf 0 = .ok (.aload_n 0, 1) := by decide +kernel
theorem dX0_giveBackOf_1 : decode cX0_giveBackOf 1 = .ok (.getfield 26, 3) := by decide +kernel
theorem dX0_giveBackOf_4 : decode cX0_giveBackOf 4 = .ok (.aload_n 1, 1) := by decide +kernel
theorem dX0_giveBackOf_5 : decode cX0_giveBackOf 5 = .ok (.getfield 101, 3) := by decide +kernel
theorem dX0_giveBackOf_8 : decode cX0_giveBackOf 8 = .ok (.aaload, 1) := by decide +kernel
theorem dX0_giveBackOf_9 : decode cX0_giveBackOf 9 = .ok (.astore_n 2, 1) := by decide +kernel
theorem dX0_giveBackOf_10 : decode cX0_giveBackOf 10 = .ok (.aload_n 1, 1) := by decide +kernel
theorem dX0_giveBackOf_11 : decode cX0_giveBackOf 11 = .ok (.getfield 107, 3) := by decide +kernel
theorem dX0_giveBackOf_14 : decode cX0_giveBackOf 14 = .ok (.aload_n 1, 1) := by decide +kernel
theorem dX0_giveBackOf_15 : decode cX0_giveBackOf 15 = .ok (.getfield 194, 3) := by decide +kernel
theorem dX0_giveBackOf_18 : decode cX0_giveBackOf 18 = .ok (.lsub, 1) := by decide +kernel
theorem dX0_giveBackOf_19 : decode cX0_giveBackOf 19 = .ok (.lconst 0, 1) := by decide +kernel
theorem dX0_giveBackOf_20 : decode cX0_giveBackOf 20 = .ok (.invokestatic 258, 3) := by decide +kernel
theorem dX0_giveBackOf_23 : decode cX0_giveBackOf 23 = .ok (.aload_n 2, 1) := by decide +kernel
theorem dX0_giveBackOf_24 : decode cX0_giveBackOf 24 = .ok (.getfield 110, 3) := by decide +kernel
theorem dX0_giveBackOf_27 : decode cX0_giveBackOf 27 = .ok (.invokestatic 181, 3) := by decide +kernel
theorem dX0_giveBackOf_30 : decode cX0_giveBackOf 30 = .ok (.lstore_n 3, 1) := by decide +kernel
theorem dX0_giveBackOf_31 : decode cX0_giveBackOf 31 = .ok (.aload_n 0, 1) := by decide +kernel
theorem dX0_giveBackOf_32 : decode cX0_giveBackOf 32 = .ok (.getfield 20, 3) := by decide +kernel
theorem dX0_giveBackOf_35 : decode cX0_giveBackOf 35 = .ok (.aload_n 1, 1) := by decide +kernel
theorem dX0_giveBackOf_36 : decode cX0_giveBackOf 36 = .ok (.getfield 92, 3) := by decide +kernel
theorem dX0_giveBackOf_39 : decode cX0_giveBackOf 39 = .ok (.aaload, 1) := by decide +kernel
theorem dX0_giveBackOf_40 : decode cX0_giveBackOf 40 = .ok (.getfield 260, 3) := by decide +kernel
theorem dX0_giveBackOf_43 : decode cX0_giveBackOf 43 = .ok (.istore 5, 2) := by decide +kernel
theorem dX0_giveBackOf_45 : decode cX0_giveBackOf 45 = .ok (.aload_n 2, 1) := by decide +kernel
theorem dX0_giveBackOf_46 : decode cX0_giveBackOf 46 = .ok (.dup, 1) := by decide +kernel
theorem dX0_giveBackOf_47 : decode cX0_giveBackOf 47 = .ok (.getfield 110, 3) := by decide +kernel
theorem dX0_giveBackOf_50 : decode cX0_giveBackOf 50 = .ok (.lload_n 3, 1) := by decide +kernel
theorem dX0_giveBackOf_51 : decode cX0_giveBackOf 51 = .ok (.lsub, 1) := by decide +kernel
theorem dX0_giveBackOf_52 : decode cX0_giveBackOf 52 = .ok (.putfield 110, 3) := by decide +kernel
theorem dX0_giveBackOf_55 : decode cX0_giveBackOf 55 = .ok (.aload_n 0, 1) := by decide +kernel
theorem dX0_giveBackOf_56 : decode cX0_giveBackOf 56 = .ok (.getfield 20, 3) := by decide +kernel
theorem dX0_giveBackOf_59 : decode cX0_giveBackOf 59 = .ok (.aload_n 0, 1) := by decide +kernel
theorem dX0_giveBackOf_60 : decode cX0_giveBackOf 60 = .ok (.iload 5, 2) := by decide +kernel
theorem dX0_giveBackOf_62 : decode cX0_giveBackOf 62 = .ok (.invokevirtual 119, 3) := by decide +kernel
theorem dX0_giveBackOf_65 : decode cX0_giveBackOf 65 = .ok (.ifCond .eq 8, 3) := by decide +kernel
theorem dX0_giveBackOf_68 : decode cX0_giveBackOf 68 = .ok (.iload 5, 2) := by decide +kernel
theorem dX0_giveBackOf_70 : decode cX0_giveBackOf 70 = .ok (.goto 7, 3) := by decide +kernel
theorem dX0_giveBackOf_73 : decode cX0_giveBackOf 73 = .ok (.aload_n 1, 1) := by decide +kernel
theorem dX0_giveBackOf_74 : decode cX0_giveBackOf 74 = .ok (.getfield 89, 3) := by decide +kernel
theorem dX0_giveBackOf_77 : decode cX0_giveBackOf 77 = .ok (.aaload, 1) := by decide +kernel
theorem dX0_giveBackOf_78 : decode cX0_giveBackOf 78 = .ok (.dup, 1) := by decide +kernel
theorem dX0_giveBackOf_79 : decode cX0_giveBackOf 79 = .ok (.getfield 191, 3) := by decide +kernel
theorem dX0_giveBackOf_82 : decode cX0_giveBackOf 82 = .ok (.lload_n 3, 1) := by decide +kernel
theorem dX0_giveBackOf_83 : decode cX0_giveBackOf 83 = .ok (.ladd, 1) := by decide +kernel
theorem dX0_giveBackOf_84 : decode cX0_giveBackOf 84 = .ok (.putfield 191, 3) := by decide +kernel
theorem dX0_giveBackOf_87 : decode cX0_giveBackOf 87 = .ok (.return_, 1) := by decide +kernel
theorem dX0_drawingUnits_0 : decode cX0_drawingUnits 0 = .ok (.lconst 0, 1) := by decide +kernel
theorem dX0_drawingUnits_1 : decode cX0_drawingUnits 1 = .ok (.lstore_n 2, 1) := by decide +kernel
theorem dX0_drawingUnits_2 : decode cX0_drawingUnits 2 = .ok (.iconst 0, 1) := by decide +kernel
theorem dX0_drawingUnits_3 : decode cX0_drawingUnits 3 = .ok (.istore 4, 2) := by decide +kernel
theorem dX0_drawingUnits_5 : decode cX0_drawingUnits 5 = .ok (.iload 4, 2) := by decide +kernel
theorem dX0_drawingUnits_7 : decode cX0_drawingUnits 7 = .ok (.aload_n 0, 1) := by decide +kernel
theorem dX0_drawingUnits_8 : decode cX0_drawingUnits 8 = .ok (.getfield 53, 3) := by decide +kernel
theorem dX0_drawingUnits_11 : decode cX0_drawingUnits 11 = .ok (.if_icmp .ge 51, 3) := by decide +kernel
theorem dX0_drawingUnits_14 : decode cX0_drawingUnits 14 = .ok (.aload_n 0, 1) := by decide +kernel
theorem dX0_drawingUnits_15 : decode cX0_drawingUnits 15 = .ok (.getfield 32, 3) := by decide +kernel
theorem dX0_drawingUnits_18 : decode cX0_drawingUnits 18 = .ok (.iload 4, 2) := by decide +kernel
theorem dX0_drawingUnits_20 : decode cX0_drawingUnits 20 = .ok (.aaload, 1) := by decide +kernel
theorem dX0_drawingUnits_21 : decode cX0_drawingUnits 21 = .ok (.getfield 101, 3) := by decide +kernel
theorem dX0_drawingUnits_24 : decode cX0_drawingUnits 24 = .ok (.iload_n 1, 1) := by decide +kernel
theorem dX0_drawingUnits_25 : decode cX0_drawingUnits 25 = .ok (.if_icmp .ne 31, 3) := by decide +kernel
theorem dX0_drawingUnits_28 : decode cX0_drawingUnits 28 = .ok (.aload_n 0, 1) := by decide +kernel
theorem dX0_drawingUnits_29 : decode cX0_drawingUnits 29 = .ok (.aload_n 0, 1) := by decide +kernel
theorem dX0_drawingUnits_30 : decode cX0_drawingUnits 30 = .ok (.getfield 32, 3) := by decide +kernel
theorem dX0_drawingUnits_33 : decode cX0_drawingUnits 33 = .ok (.iload 4, 2) := by decide +kernel
theorem dX0_drawingUnits_35 : decode cX0_drawingUnits 35 = .ok (.aaload, 1) := by decide +kernel
theorem dX0_drawingUnits_36 : decode cX0_drawingUnits 36 = .ok (.invokevirtual 263, 3) := by decide +kernel
theorem dX0_drawingUnits_39 : decode cX0_drawingUnits 39 = .ok (.ifCond .eq 17, 3) := by decide +kernel
theorem dX0_drawingUnits_42 : decode cX0_drawingUnits 42 = .ok (.lload_n 2, 1) := by decide +kernel
theorem dX0_drawingUnits_43 : decode cX0_drawingUnits 43 = .ok (.aload_n 0, 1) := by decide +kernel
theorem dX0_drawingUnits_44 : decode cX0_drawingUnits 44 = .ok (.getfield 32, 3) := by decide +kernel
theorem dX0_drawingUnits_47 : decode cX0_drawingUnits 47 = .ok (.iload 4, 2) := by decide +kernel
theorem dX0_drawingUnits_49 : decode cX0_drawingUnits 49 = .ok (.aaload, 1) := by decide +kernel
theorem dX0_drawingUnits_50 : decode cX0_drawingUnits 50 = .ok (.getfield 98, 3) := by decide +kernel
theorem dX0_drawingUnits_53 : decode cX0_drawingUnits 53 = .ok (.i2l, 1) := by decide +kernel
theorem dX0_drawingUnits_54 : decode cX0_drawingUnits 54 = .ok (.ladd, 1) := by decide +kernel
theorem dX0_drawingUnits_55 : decode cX0_drawingUnits 55 = .ok (.lstore_n 2, 1) := by decide +kernel
theorem dX0_drawingUnits_56 : decode cX0_drawingUnits 56 = .ok (.iinc 4 1, 3) := by decide +kernel
theorem dX0_drawingUnits_59 : decode cX0_drawingUnits 59 = .ok (.goto (-54), 3) := by decide +kernel
theorem dX0_drawingUnits_62 : decode cX0_drawingUnits 62 = .ok (.lload_n 2, 1) := by decide +kernel
theorem dX0_drawingUnits_63 : decode cX0_drawingUnits 63 = .ok (.lreturn, 1) := by decide +kernel
theorem dX0_sharesIn_0 : decode cX0_sharesIn 0 = .ok (.lconst 0, 1) := by decide +kernel
theorem dX0_sharesIn_1 : decode cX0_sharesIn 1 = .ok (.lstore_n 2, 1) := by decide +kernel
theorem dX0_sharesIn_2 : decode cX0_sharesIn 2 = .ok (.iconst 0, 1) := by decide +kernel
theorem dX0_sharesIn_3 : decode cX0_sharesIn 3 = .ok (.istore 4, 2) := by decide +kernel
theorem dX0_sharesIn_5 : decode cX0_sharesIn 5 = .ok (.iload 4, 2) := by decide +kernel
theorem dX0_sharesIn_7 : decode cX0_sharesIn 7 = .ok (.aload_n 0, 1) := by decide +kernel
theorem dX0_sharesIn_8 : decode cX0_sharesIn 8 = .ok (.getfield 53, 3) := by decide +kernel
theorem dX0_sharesIn_11 : decode cX0_sharesIn 11 = .ok (.if_icmp .ge 27, 3) := by decide +kernel
theorem dX0_sharesIn_14 : decode cX0_sharesIn 14 = .ok (.aload_n 0, 1) := by decide +kernel
theorem dX0_sharesIn_15 : decode cX0_sharesIn 15 = .ok (.getfield 32, 3) := by decide +kernel
theorem dX0_sharesIn_18 : decode cX0_sharesIn 18 = .ok (.iload 4, 2) := by decide +kernel
theorem dX0_sharesIn_20 : decode cX0_sharesIn 20 = .ok (.aaload, 1) := by decide +kernel
theorem dX0_sharesIn_21 : decode cX0_sharesIn 21 = .ok (.getfield 101, 3) := by decide +kernel
theorem dX0_sharesIn_24 : decode cX0_sharesIn 24 = .ok (.iload_n 1, 1) := by decide +kernel
theorem dX0_sharesIn_25 : decode cX0_sharesIn 25 = .ok (.if_icmp .ne 7, 3) := by decide +kernel
theorem dX0_sharesIn_28 : decode cX0_sharesIn 28 = .ok (.lload_n 2, 1) := by decide +kernel
theorem dX0_sharesIn_29 : decode cX0_sharesIn 29 = .ok (.lconst 1, 1) := by decide +kernel
theorem dX0_sharesIn_30 : decode cX0_sharesIn 30 = .ok (.ladd, 1) := by decide +kernel
theorem dX0_sharesIn_31 : decode cX0_sharesIn 31 = .ok (.lstore_n 2, 1) := by decide +kernel
theorem dX0_sharesIn_32 : decode cX0_sharesIn 32 = .ok (.iinc 4 1, 3) := by decide +kernel
theorem dX0_sharesIn_35 : decode cX0_sharesIn 35 = .ok (.goto (-30), 3) := by decide +kernel
theorem dX0_sharesIn_38 : decode cX0_sharesIn 38 = .ok (.lload_n 2, 1) := by decide +kernel
theorem dX0_sharesIn_39 : decode cX0_sharesIn 39 = .ok (.lreturn, 1) := by decide +kernel
theorem dX0_allHeld_0 : decode cX0_allHeld 0 = .ok (.lconst 0, 1) := by decide +kernel
theorem dX0_allHeld_1 : decode cX0_allHeld 1 = .ok (.lstore_n 1, 1) := by decide +kernel
theorem dX0_allHeld_2 : decode cX0_allHeld 2 = .ok (.iconst 0, 1) := by decide +kernel
theorem dX0_allHeld_3 : decode cX0_allHeld 3 = .ok (.istore_n 3, 1) := by decide +kernel
theorem dX0_allHeld_4 : decode cX0_allHeld 4 = .ok (.iload_n 3, 1) := by decide +kernel
theorem dX0_allHeld_5 : decode cX0_allHeld 5 = .ok (.aload_n 0, 1) := by decide +kernel
theorem dX0_allHeld_6 : decode cX0_allHeld 6 = .ok (.getfield 53, 3) := by decide +kernel
theorem dX0_allHeld_9 : decode cX0_allHeld 9 = .ok (.if_icmp .ge 25, 3) := by decide +kernel
theorem dX0_allHeld_12 : decode cX0_allHeld 12 = .ok (.lload_n 1, 1) := by decide +kernel
theorem dX0_allHeld_13 : decode cX0_allHeld 13 = .ok (.aload_n 0, 1) := by decide +kernel
theorem dX0_allHeld_14 : decode cX0_allHeld 14 = .ok (.getfield 32, 3) := by decide +kernel
theorem dX0_allHeld_17 : decode cX0_allHeld 17 = .ok (.iload_n 3, 1) := by decide +kernel
theorem dX0_allHeld_18 : decode cX0_allHeld 18 = .ok (.aaload, 1) := by decide +kernel
theorem dX0_allHeld_19 : decode cX0_allHeld 19 = .ok (.aload_n 0, 1) := by decide +kernel
theorem dX0_allHeld_20 : decode cX0_allHeld 20 = .ok (.getfield 56, 3) := by decide +kernel
theorem dX0_allHeld_23 : decode cX0_allHeld 23 = .ok (.invokevirtual 266, 3) := by decide +kernel
theorem dX0_allHeld_26 : decode cX0_allHeld 26 = .ok (.ladd, 1) := by decide +kernel
theorem dX0_allHeld_27 : decode cX0_allHeld 27 = .ok (.lstore_n 1, 1) := by decide +kernel
theorem dX0_allHeld_28 : decode cX0_allHeld 28 = .ok (.iinc 3 1, 3) := by decide +kernel
theorem dX0_allHeld_31 : decode cX0_allHeld 31 = .ok (.goto (-27), 3) := by decide +kernel
theorem dX0_allHeld_34 : decode cX0_allHeld 34 = .ok (.lload_n 1, 1) := by decide +kernel
theorem dX0_allHeld_35 : decode cX0_allHeld 35 = .ok (.lreturn, 1) := by decide +kernel
theorem dX0_allPurses_0 : decode cX0_allPurses 0 = .ok (.lconst 0, 1) := by decide +kernel
theorem dX0_allPurses_1 : decode cX0_allPurses 1 = .ok (.lstore_n 1, 1) := by decide +kernel
theorem dX0_allPurses_2 : decode cX0_allPurses 2 = .ok (.iconst 0, 1) := by decide +kernel
theorem dX0_allPurses_3 : decode cX0_allPurses 3 = .ok (.istore_n 3, 1) := by decide +kernel
theorem dX0_allPurses_4 : decode cX0_allPurses 4 = .ok (.iload_n 3, 1) := by decide +kernel
theorem dX0_allPurses_5 : decode cX0_allPurses 5 = .ok (.aload_n 0, 1) := by decide +kernel
theorem dX0_allPurses_6 : decode cX0_allPurses 6 = .ok (.getfield 47, 3) := by decide +kernel
theorem dX0_allPurses_9 : decode cX0_allPurses 9 = .ok (.if_icmp .ge 21, 3) := by decide +kernel
theorem dX0_allPurses_12 : decode cX0_allPurses 12 = .ok (.lload_n 1, 1) := by decide +kernel
theorem dX0_allPurses_13 : decode cX0_allPurses 13 = .ok (.aload_n 0, 1) := by decide +kernel
theorem dX0_allPurses_14 : decode cX0_allPurses 14 = .ok (.getfield 20, 3) := by decide +kernel
theorem dX0_allPurses_17 : decode cX0_allPurses 17 = .ok (.iload_n 3, 1) := by decide +kernel
theorem dX0_allPurses_18 : decode cX0_allPurses 18 = .ok (.aaload, 1) := by decide +kernel
theorem dX0_allPurses_19 : decode cX0_allPurses 19 = .ok (.getfield 191, 3) := by decide +kernel
theorem dX0_allPurses_22 : decode cX0_allPurses 22 = .ok (.ladd, 1) := by decide +kernel
theorem dX0_allPurses_23 : decode cX0_allPurses 23 = .ok (.lstore_n 1, 1) := by decide +kernel
theorem dX0_allPurses_24 : decode cX0_allPurses 24 = .ok (.iinc 3 1, 3) := by decide +kernel
theorem dX0_allPurses_27 : decode cX0_allPurses 27 = .ok (.goto (-23), 3) := by decide +kernel
theorem dX0_allPurses_30 : decode cX0_allPurses 30 = .ok (.lload_n 1, 1) := by decide +kernel
theorem dX0_allPurses_31 : decode cX0_allPurses 31 = .ok (.lreturn, 1) := by decide +kernel
theorem dX0_allStocks_0 : decode cX0_allStocks 0 = .ok (.lconst 0, 1) := by decide +kernel
theorem dX0_allStocks_1 : decode cX0_allStocks 1 = .ok (.lstore_n 1, 1) := by decide +kernel
theorem dX0_allStocks_2 : decode cX0_allStocks 2 = .ok (.iconst 0, 1) := by decide +kernel
theorem dX0_allStocks_3 : decode cX0_allStocks 3 = .ok (.istore_n 3, 1) := by decide +kernel
theorem dX0_allStocks_4 : decode cX0_allStocks 4 = .ok (.iload_n 3, 1) := by decide +kernel
theorem dX0_allStocks_5 : decode cX0_allStocks 5 = .ok (.aload_n 0, 1) := by decide +kernel
theorem dX0_allStocks_6 : decode cX0_allStocks 6 = .ok (.getfield 50, 3) := by decide +kernel
theorem dX0_allStocks_9 : decode cX0_allStocks 9 = .ok (.if_icmp .ge 21, 3) := by decide +kernel
theorem dX0_allStocks_12 : decode cX0_allStocks 12 = .ok (.lload_n 1, 1) := by decide +kernel
theorem dX0_allStocks_13 : decode cX0_allStocks 13 = .ok (.aload_n 0, 1) := by decide +kernel
theorem dX0_allStocks_14 : decode cX0_allStocks 14 = .ok (.getfield 26, 3) := by decide +kernel
theorem dX0_allStocks_17 : decode cX0_allStocks 17 = .ok (.iload_n 3, 1) := by decide +kernel
theorem dX0_allStocks_18 : decode cX0_allStocks 18 = .ok (.aaload, 1) := by decide +kernel
theorem dX0_allStocks_19 : decode cX0_allStocks 19 = .ok (.getfield 110, 3) := by decide +kernel
theorem dX0_allStocks_22 : decode cX0_allStocks 22 = .ok (.ladd, 1) := by decide +kernel
theorem dX0_allStocks_23 : decode cX0_allStocks 23 = .ok (.lstore_n 1, 1) := by decide +kernel
theorem dX0_allStocks_24 : decode cX0_allStocks 24 = .ok (.iinc 3 1, 3) := by decide +kernel
theorem dX0_allStocks_27 : decode cX0_allStocks 27 = .ok (.goto (-23), 3) := by decide +kernel
theorem dX0_allStocks_30 : decode cX0_allStocks 30 = .ok (.lload_n 1, 1) := by decide +kernel
theorem dX0_allStocks_31 : decode cX0_allStocks 31 = .ok (.lreturn, 1) := by decide +kernel
theorem dX0_allDebts_0 : decode cX0_allDebts 0 = .ok (.lconst 0, 1) := by decide +kernel
theorem dX0_allDebts_1 : decode cX0_allDebts 1 = .ok (.lstore_n 1, 1) := by decide +kernel
theorem dX0_allDebts_2 : decode cX0_allDebts 2 = .ok (.iconst 0, 1) := by decide +kernel
theorem dX0_allDebts_3 : decode cX0_allDebts 3 = .ok (.istore_n 3, 1) := by decide +kernel
theorem dX0_allDebts_4 : decode cX0_allDebts 4 = .ok (.iload_n 3, 1) := by decide +kernel
theorem dX0_allDebts_5 : decode cX0_allDebts 5 = .ok (.aload_n 0, 1) := by decide +kernel
theorem dX0_allDebts_6 : decode cX0_allDebts 6 = .ok (.getfield 47, 3) := by decide +kernel
theorem dX0_allDebts_9 : decode cX0_allDebts 9 = .ok (.if_icmp .ge 21, 3) := by decide +kernel
theorem dX0_allDebts_12 : decode cX0_allDebts 12 = .ok (.lload_n 1, 1) := by decide +kernel
theorem dX0_allDebts_13 : decode cX0_allDebts 13 = .ok (.aload_n 0, 1) := by decide +kernel
theorem dX0_allDebts_14 : decode cX0_allDebts 14 = .ok (.getfield 20, 3) := by decide +kernel
theorem dX0_allDebts_17 : decode cX0_allDebts 17 = .ok (.iload_n 3, 1) := by decide +kernel
theorem dX0_allDebts_18 : decode cX0_allDebts 18 = .ok (.aaload, 1) := by decide +kernel
theorem dX0_allDebts_19 : decode cX0_allDebts 19 = .ok (.getfield 178, 3) := by decide +kernel
theorem dX0_allDebts_22 : decode cX0_allDebts 22 = .ok (.ladd, 1) := by decide +kernel
theorem dX0_allDebts_23 : decode cX0_allDebts 23 = .ok (.lstore_n 1, 1) := by decide +kernel
theorem dX0_allDebts_24 : decode cX0_allDebts 24 = .ok (.iinc 3 1, 3) := by decide +kernel
theorem dX0_allDebts_27 : decode cX0_allDebts 27 = .ok (.goto (-23), 3) := by decide +kernel
theorem dX0_allDebts_30 : decode cX0_allDebts 30 = .ok (.lload_n 1, 1) := by decide +kernel
theorem dX0_allDebts_31 : decode cX0_allDebts 31 = .ok (.lreturn, 1) := by decide +kernel
theorem dX1_init_0 : decode cX1_init 0 = .ok (.aload_n 0, 1) := by decide +kernel
theorem dX1_init_1 : decode cX1_init 1 = .ok (.invokespecial 3, 3) := by decide +kernel
theorem dX1_init_4 : decode cX1_init 4 = .ok (.return_, 1) := by decide +kernel
theorem dX1_begin_0 : decode cX1_begin 0 = .ok (.aload_n 0, 1) := by decide +kernel
theorem dX1_begin_1 : decode cX1_begin 1 = .ok (.iload_n 1, 1) := by decide +kernel
theorem dX1_begin_2 : decode cX1_begin 2 = .ok (.putfield 9, 3) := by decide +kernel
theorem dX1_begin_5 : decode cX1_begin 5 = .ok (.aload_n 0, 1) := by decide +kernel
theorem dX1_begin_6 : decode cX1_begin 6 = .ok (.lconst 0, 1) := by decide +kernel
theorem dX1_begin_7 : decode cX1_begin 7 = .ok (.putfield 15, 3) := by decide +kernel
theorem dX1_begin_10 : decode cX1_begin 10 = .ok (.aload_n 0, 1) := by decide +kernel
theorem dX1_begin_11 : decode cX1_begin 11 = .ok (.lconst 0, 1) := by decide +kernel
theorem dX1_begin_12 : decode cX1_begin 12 = .ok (.putfield 19, 3) := by decide +kernel
theorem dX1_begin_15 : decode cX1_begin 15 = .ok (.aload_n 0, 1) := by decide +kernel
theorem dX1_begin_16 : decode cX1_begin 16 = .ok (.iconst (-1), 1) := by decide +kernel
theorem dX1_begin_17 : decode cX1_begin 17 = .ok (.putfield 22, 3) := by decide +kernel
theorem dX1_begin_20 : decode cX1_begin 20 = .ok (.aload_n 0, 1) := by decide +kernel
theorem dX1_begin_21 : decode cX1_begin 21 = .ok (.iconst 0, 1) := by decide +kernel
theorem dX1_begin_22 : decode cX1_begin 22 = .ok (.putfield 25, 3) := by decide +kernel
theorem dX1_begin_25 : decode cX1_begin 25 = .ok (.aload_n 0, 1) := by decide +kernel
theorem dX1_begin_26 : decode cX1_begin 26 = .ok (.iconst 0, 1) := by decide +kernel
theorem dX1_begin_27 : decode cX1_begin 27 = .ok (.putfield 29, 3) := by decide +kernel
theorem dX1_begin_30 : decode cX1_begin 30 = .ok (.aload_n 0, 1) := by decide +kernel
theorem dX1_begin_31 : decode cX1_begin 31 = .ok (.iconst 0, 1) := by decide +kernel
theorem dX1_begin_32 : decode cX1_begin 32 = .ok (.putfield 32, 3) := by decide +kernel
theorem dX1_begin_35 : decode cX1_begin 35 = .ok (.return_, 1) := by decide +kernel
theorem dX1_copyFrom_0 : decode cX1_copyFrom 0 = .ok (.aload_n 0, 1) := by decide +kernel
theorem dX1_copyFrom_1 : decode cX1_copyFrom 1 = .ok (.aload_n 1, 1) := by decide +kernel
theorem dX1_copyFrom_2 : decode cX1_copyFrom 2 = .ok (.getfield 9, 3) := by decide +kernel
theorem dX1_copyFrom_5 : decode cX1_copyFrom 5 = .ok (.putfield 9, 3) := by decide +kernel
theorem dX1_copyFrom_8 : decode cX1_copyFrom 8 = .ok (.aload_n 0, 1) := by decide +kernel
theorem dX1_copyFrom_9 : decode cX1_copyFrom 9 = .ok (.aload_n 1, 1) := by decide +kernel
theorem dX1_copyFrom_10 : decode cX1_copyFrom 10 = .ok (.getfield 15, 3) := by decide +kernel
theorem dX1_copyFrom_13 : decode cX1_copyFrom 13 = .ok (.putfield 15, 3) := by decide +kernel
theorem dX1_copyFrom_16 : decode cX1_copyFrom 16 = .ok (.aload_n 0, 1) := by decide +kernel
theorem dX1_copyFrom_17 : decode cX1_copyFrom 17 = .ok (.aload_n 1, 1) := by decide +kernel
theorem dX1_copyFrom_18 : decode cX1_copyFrom 18 = .ok (.getfield 19, 3) := by decide +kernel
theorem dX1_copyFrom_21 : decode cX1_copyFrom 21 = .ok (.putfield 19, 3) := by decide +kernel
theorem dX1_copyFrom_24 : decode cX1_copyFrom 24 = .ok (.aload_n 0, 1) := by decide +kernel
theorem dX1_copyFrom_25 : decode cX1_copyFrom 25 = .ok (.aload_n 1, 1) := by decide +kernel
theorem dX1_copyFrom_26 : decode cX1_copyFrom 26 = .ok (.getfield 22, 3) := by decide +kernel
theorem dX1_copyFrom_29 : decode cX1_copyFrom 29 = .ok (.putfield 22, 3) := by decide +kernel
theorem dX1_copyFrom_32 : decode cX1_copyFrom 32 = .ok (.aload_n 0, 1) := by decide +kernel
theorem dX1_copyFrom_33 : decode cX1_copyFrom 33 = .ok (.aload_n 1, 1) := by decide +kernel
theorem dX1_copyFrom_34 : decode cX1_copyFrom 34 = .ok (.getfield 25, 3) := by decide +kernel
theorem dX1_copyFrom_37 : decode cX1_copyFrom 37 = .ok (.putfield 25, 3) := by decide +kernel
theorem dX1_copyFrom_40 : decode cX1_copyFrom 40 = .ok (.aload_n 0, 1) := by decide +kernel
theorem dX1_copyFrom_41 : decode cX1_copyFrom 41 = .ok (.aload_n 1, 1) := by decide +kernel
theorem dX1_copyFrom_42 : decode cX1_copyFrom 42 = .ok (.getfield 29, 3) := by decide +kernel
theorem dX1_copyFrom_45 : decode cX1_copyFrom 45 = .ok (.putfield 29, 3) := by decide +kernel
theorem dX1_copyFrom_48 : decode cX1_copyFrom 48 = .ok (.aload_n 0, 1) := by decide +kernel
theorem dX1_copyFrom_49 : decode cX1_copyFrom 49 = .ok (.aload_n 1, 1) := by decide +kernel
theorem dX1_copyFrom_50 : decode cX1_copyFrom 50 = .ok (.getfield 32, 3) := by decide +kernel
theorem dX1_copyFrom_53 : decode cX1_copyFrom 53 = .ok (.putfield 32, 3) := by decide +kernel
theorem dX1_copyFrom_56 : decode cX1_copyFrom 56 = .ok (.return_, 1) := by decide +kernel
theorem dX2_init_0 : decode cX2_init 0 = .ok (.aload_n 0, 1) := by decide +kernel
theorem dX2_init_1 : decode cX2_init 1 = .ok (.invokespecial 1, 3) := by decide +kernel
theorem dX2_init_4 : decode cX2_init 4 = .ok (.return_, 1) := by decide +kernel
theorem dX2_begin_0 : decode cX2_begin 0 = .ok (.aload_n 0, 1) := by decide +kernel
theorem dX2_begin_1 : decode cX2_begin 1 = .ok (.iload_n 1, 1) := by decide +kernel
theorem dX2_begin_2 : decode cX2_begin 2 = .ok (.putfield 7, 3) := by decide +kernel
theorem dX2_begin_5 : decode cX2_begin 5 = .ok (.aload_n 0, 1) := by decide +kernel
theorem dX2_begin_6 : decode cX2_begin 6 = .ok (.iload_n 2, 1) := by decide +kernel
theorem dX2_begin_7 : decode cX2_begin 7 = .ok (.putfield 13, 3) := by decide +kernel
theorem dX2_begin_10 : decode cX2_begin 10 = .ok (.aload_n 0, 1) := by decide +kernel
theorem dX2_begin_11 : decode cX2_begin 11 = .ok (.iload_n 3, 1) := by decide +kernel
theorem dX2_begin_12 : decode cX2_begin 12 = .ok (.putfield 16, 3) := by decide +kernel
theorem dX2_begin_15 : decode cX2_begin 15 = .ok (.aload_n 0, 1) := by decide +kernel
theorem dX2_begin_16 : decode cX2_begin 16 = .ok (.lconst 0, 1) := by decide +kernel
theorem dX2_begin_17 : decode cX2_begin 17 = .ok (.putfield 19, 3) := by decide +kernel
theorem dX2_begin_20 : decode cX2_begin 20 = .ok (.aload_n 0, 1) := by decide +kernel
theorem dX2_begin_21 : decode cX2_begin 21 = .ok (.lconst 0, 1) := by decide +kernel
theorem dX2_begin_22 : decode cX2_begin 22 = .ok (.putfield 23, 3) := by decide +kernel
theorem dX2_begin_25 : decode cX2_begin 25 = .ok (.aload_n 0, 1) := by decide +kernel
theorem dX2_begin_26 : decode cX2_begin 26 = .ok (.lconst 0, 1) := by decide +kernel
theorem dX2_begin_27 : decode cX2_begin 27 = .ok (.putfield 26, 3) := by decide +kernel
theorem dX2_begin_30 : decode cX2_begin 30 = .ok (.return_, 1) := by decide +kernel
theorem dX2_copyFrom_0 : decode cX2_copyFrom 0 = .ok (.aload_n 0, 1) := by decide +kernel
theorem dX2_copyFrom_1 : decode cX2_copyFrom 1 = .ok (.aload_n 1, 1) := by decide +kernel
theorem dX2_copyFrom_2 : decode cX2_copyFrom 2 = .ok (.getfield 7, 3) := by decide +kernel
theorem dX2_copyFrom_5 : decode cX2_copyFrom 5 = .ok (.putfield 7, 3) := by decide +kernel
theorem dX2_copyFrom_8 : decode cX2_copyFrom 8 = .ok (.aload_n 0, 1) := by decide +kernel
theorem dX2_copyFrom_9 : decode cX2_copyFrom 9 = .ok (.aload_n 1, 1) := by decide +kernel
theorem dX2_copyFrom_10 : decode cX2_copyFrom 10 = .ok (.getfield 13, 3) := by decide +kernel
theorem dX2_copyFrom_13 : decode cX2_copyFrom 13 = .ok (.putfield 13, 3) := by decide +kernel
theorem dX2_copyFrom_16 : decode cX2_copyFrom 16 = .ok (.aload_n 0, 1) := by decide +kernel
theorem dX2_copyFrom_17 : decode cX2_copyFrom 17 = .ok (.aload_n 1, 1) := by decide +kernel
theorem dX2_copyFrom_18 : decode cX2_copyFrom 18 = .ok (.getfield 16, 3) := by decide +kernel
theorem dX2_copyFrom_21 : decode cX2_copyFrom 21 = .ok (.putfield 16, 3) := by decide +kernel
theorem dX2_copyFrom_24 : decode cX2_copyFrom 24 = .ok (.aload_n 0, 1) := by decide +kernel
theorem dX2_copyFrom_25 : decode cX2_copyFrom 25 = .ok (.aload_n 1, 1) := by decide +kernel
theorem dX2_copyFrom_26 : decode cX2_copyFrom 26 = .ok (.getfield 19, 3) := by decide +kernel
theorem dX2_copyFrom_29 : decode cX2_copyFrom 29 = .ok (.putfield 19, 3) := by decide +kernel
theorem dX2_copyFrom_32 : decode cX2_copyFrom 32 = .ok (.aload_n 0, 1) := by decide +kernel
theorem dX2_copyFrom_33 : decode cX2_copyFrom 33 = .ok (.aload_n 1, 1) := by decide +kernel
theorem dX2_copyFrom_34 : decode cX2_copyFrom 34 = .ok (.getfield 23, 3) := by decide +kernel
theorem dX2_copyFrom_37 : decode cX2_copyFrom 37 = .ok (.putfield 23, 3) := by decide +kernel
theorem dX2_copyFrom_40 : decode cX2_copyFrom 40 = .ok (.aload_n 0, 1) := by decide +kernel
theorem dX2_copyFrom_41 : decode cX2_copyFrom 41 = .ok (.aload_n 1, 1) := by decide +kernel
theorem dX2_copyFrom_42 : decode cX2_copyFrom 42 = .ok (.getfield 26, 3) := by decide +kernel
theorem dX2_copyFrom_45 : decode cX2_copyFrom 45 = .ok (.putfield 26, 3) := by decide +kernel
theorem dX2_copyFrom_48 : decode cX2_copyFrom 48 = .ok (.return_, 1) := by decide +kernel
theorem dX3_init_0 : decode cX3_init 0 = .ok (.aload_n 0, 1) := by decide +kernel
theorem dX3_init_1 : decode cX3_init 1 = .ok (.invokespecial 3, 3) := by decide +kernel
theorem dX3_init_4 : decode cX3_init 4 = .ok (.aload_n 0, 1) := by decide +kernel
theorem dX3_init_5 : decode cX3_init 5 = .ok (.bipush 60, 2) := by decide +kernel
theorem dX3_init_7 : decode cX3_init 7 = .ok (.newarray .long, 2) := by decide +kernel
theorem dX3_init_9 : decode cX3_init 9 = .ok (.putfield 9, 3) := by decide +kernel
theorem dX3_init_12 : decode cX3_init 12 = .ok (.return_, 1) := by decide +kernel
theorem dX3_begin_0 : decode cX3_begin 0 = .ok (.aload_n 0, 1) := by decide +kernel
theorem dX3_begin_1 : decode cX3_begin 1 = .ok (.iconst 0, 1) := by decide +kernel
theorem dX3_begin_2 : decode cX3_begin 2 = .ok (.putfield 15, 3) := by decide +kernel
theorem dX3_begin_5 : decode cX3_begin 5 = .ok (.aload_n 0, 1) := by decide +kernel
theorem dX3_begin_6 : decode cX3_begin 6 = .ok (.lconst 0, 1) := by decide +kernel
theorem dX3_begin_7 : decode cX3_begin 7 = .ok (.putfield 19, 3) := by decide +kernel
theorem dX3_begin_10 : decode cX3_begin 10 = .ok (.aload_n 0, 1) := by decide +kernel
theorem dX3_begin_11 : decode cX3_begin 11 = .ok (.iload_n 1, 1) := by decide +kernel
theorem dX3_begin_12 : decode cX3_begin 12 = .ok (.putfield 23, 3) := by decide +kernel
theorem dX3_begin_15 : decode cX3_begin 15 = .ok (.aload_n 0, 1) := by decide +kernel
theorem dX3_begin_16 : decode cX3_begin 16 = .ok (.iload_n 1, 1) := by decide +kernel
theorem dX3_begin_17 : decode cX3_begin 17 = .ok (.putfield 26, 3) := by decide +kernel
theorem dX3_begin_20 : decode cX3_begin 20 = .ok (.aload_n 0, 1) := by decide +kernel
theorem dX3_begin_21 : decode cX3_begin 21 = .ok (.iconst 0, 1) := by decide +kernel
theorem dX3_begin_22 : decode cX3_begin 22 = .ok (.putfield 29, 3) := by decide +kernel
theorem dX3_begin_25 : decode cX3_begin 25 = .ok (.aload_n 0, 1) := by decide +kernel
theorem dX3_begin_26 : decode cX3_begin 26 = .ok (.lconst 0, 1) := by decide +kernel
theorem dX3_begin_27 : decode cX3_begin 27 = .ok (.putfield 32, 3) := by decide +kernel
theorem dX3_begin_30 : decode cX3_begin 30 = .ok (.aload_n 0, 1) := by decide +kernel
theorem dX3_begin_31 : decode cX3_begin 31 = .ok (.iconst (-1), 1) := by decide +kernel
theorem dX3_begin_32 : decode cX3_begin 32 = .ok (.putfield 35, 3) := by decide +kernel
theorem dX3_begin_35 : decode cX3_begin 35 = .ok (.aload_n 0, 1) := by decide +kernel
theorem dX3_begin_36 : decode cX3_begin 36 = .ok (.iconst 0, 1) := by decide +kernel
theorem dX3_begin_37 : decode cX3_begin 37 = .ok (.putfield 38, 3) := by decide +kernel
theorem dX3_begin_40 : decode cX3_begin 40 = .ok (.aload_n 0, 1) := by decide +kernel
theorem dX3_begin_41 : decode cX3_begin 41 = .ok (.iload_n 1, 1) := by decide +kernel
theorem dX3_begin_42 : decode cX3_begin 42 = .ok (.putfield 42, 3) := by decide +kernel
theorem dX3_begin_45 : decode cX3_begin 45 = .ok (.aload_n 0, 1) := by decide +kernel
theorem dX3_begin_46 : decode cX3_begin 46 = .ok (.getfield 9, 3) := by decide +kernel
theorem dX3_begin_49 : decode cX3_begin 49 = .ok (.lconst 0, 1) := by decide +kernel
theorem dX3_begin_50 : decode cX3_begin 50 = .ok (.invokestatic 45, 3) := by decide +kernel
theorem dX3_begin_53 : decode cX3_begin 53 = .ok (.return_, 1) := by decide +kernel
theorem dX3_hasLife_0 : decode cX3_hasLife 0 = .ok (.aload_n 0, 1) := by decide +kernel
theorem dX3_hasLife_1 : decode cX3_hasLife 1 = .ok (.getfield 51, 3) := by decide +kernel
theorem dX3_hasLife_4 : decode cX3_hasLife 4 = .ok (.iload_n 1, 1) := by decide +kernel
theorem dX3_hasLife_5 : decode cX3_hasLife 5 = .ok (.if_icmp .eq 11, 3) := by decide +kernel
theorem dX3_hasLife_8 : decode cX3_hasLife 8 = .ok (.aload_n 0, 1) := by decide +kernel
theorem dX3_hasLife_9 : decode cX3_hasLife 9 = .ok (.getfield 54, 3) := by decide +kernel
theorem dX3_hasLife_12 : decode cX3_hasLife 12 = .ok (.iload_n 1, 1) := by decide +kernel
theorem dX3_hasLife_13 : decode cX3_hasLife 13 = .ok (.if_icmp .ne 7, 3) := by decide +kernel
theorem dX3_hasLife_16 : decode cX3_hasLife 16 = .ok (.iconst 1, 1) := by decide +kernel
theorem dX3_hasLife_17 : decode cX3_hasLife 17 = .ok (.goto 4, 3) := by decide +kernel
theorem dX3_hasLife_20 : decode cX3_hasLife 20 = .ok (.iconst 0, 1) := by decide +kernel
theorem dX3_hasLife_21 : decode cX3_hasLife 21 = .ok (.ireturn, 1) := by decide +kernel
theorem dX3_drewIn_0 : decode cX3_drewIn 0 = .ok (.lconst 0, 1) := by decide +kernel
theorem dX3_drewIn_1 : decode cX3_drewIn 1 = .ok (.lstore_n 3, 1) := by decide +kernel
theorem dX3_drewIn_2 : decode cX3_drewIn 2 = .ok (.iload_n 1, 1) := by decide +kernel
theorem dX3_drewIn_3 : decode cX3_drewIn 3 = .ok (.iconst 0, 1) := by decide +kernel
theorem dX3_drewIn_4 : decode cX3_drewIn 4 = .ok (.invokestatic 57, 3) := by decide +kernel
theorem dX3_drewIn_7 : decode cX3_drewIn 7 = .ok (.istore 5, 2) := by decide +kernel
theorem dX3_drewIn_9 : decode cX3_drewIn 9 = .ok (.iload 5, 2) := by decide +kernel
theorem dX3_drewIn_11 : decode cX3_drewIn 11 = .ok (.iload_n 2, 1) := by decide +kernel
theorem dX3_drewIn_12 : decode cX3_drewIn 12 = .ok (.if_icmp .ge 26, 3) := by decide +kernel
theorem dX3_drewIn_15 : decode cX3_drewIn 15 = .ok (.iload 5, 2) := by decide +kernel
theorem dX3_drewIn_17 : decode cX3_drewIn 17 = .ok (.bipush 60, 2) := by decide +kernel
theorem dX3_drewIn_19 : decode cX3_drewIn 19 = .ok (.if_icmp .ge 19, 3) := by decide +kernel
theorem dX3_drewIn_22 : decode cX3_drewIn 22 = .ok (.lload_n 3, 1) := by decide +kernel
theorem dX3_drewIn_23 : decode cX3_drewIn 23 = .ok (.aload_n 0, 1) := by decide +kernel
theorem dX3_drewIn_24 : decode cX3_drewIn 24 = .ok (.getfield 9, 3) := by decide +kernel
theorem dX3_drewIn_27 : decode cX3_drewIn 27 = .ok (.iload 5, 2) := by decide +kernel
theorem dX3_drewIn_29 : decode cX3_drewIn 29 = .ok (.laload, 1) := by decide +kernel
theorem dX3_drewIn_30 : decode cX3_drewIn 30 = .ok (.ladd, 1) := by decide +kernel
theorem dX3_drewIn_31 : decode cX3_drewIn 31 = .ok (.lstore_n 3, 1) := by decide +kernel
theorem dX3_drewIn_32 : decode cX3_drewIn 32 = .ok (.iinc 5 1, 3) := by decide +kernel
theorem dX3_drewIn_35 : decode cX3_drewIn 35 = .ok (.goto (-26), 3) := by decide +kernel
theorem dX3_drewIn_38 : decode cX3_drewIn 38 = .ok (.lload_n 3, 1) := by decide +kernel
theorem dX3_drewIn_39 : decode cX3_drewIn 39 = .ok (.lreturn, 1) := by decide +kernel
theorem dX3_heldAt_0 : decode cX3_heldAt 0 = .ok (.aload_n 0, 1) := by decide +kernel
theorem dX3_heldAt_1 : decode cX3_heldAt 1 = .ok (.aload_n 0, 1) := by decide +kernel
theorem dX3_heldAt_2 : decode cX3_heldAt 2 = .ok (.getfield 42, 3) := by decide +kernel
theorem dX3_heldAt_5 : decode cX3_heldAt 5 = .ok (.iload_n 1, 1) := by decide +kernel
theorem dX3_heldAt_6 : decode cX3_heldAt 6 = .ok (.invokevirtual 63, 3) := by decide +kernel
theorem dX3_heldAt_9 : decode cX3_heldAt 9 = .ok (.lreturn, 1) := by decide +kernel
theorem dX3_note_0 : decode cX3_note 0 = .ok (.iload_n 1, 1) := by decide +kernel
theorem dX3_note_1 : decode cX3_note 1 = .ok (.iconst 0, 1) := by decide +kernel
theorem dX3_note_2 : decode cX3_note 2 = .ok (.bipush 59, 2) := by decide +kernel
theorem dX3_note_4 : decode cX3_note 4 = .ok (.invokestatic 67, 3) := by decide +kernel
theorem dX3_note_7 : decode cX3_note 7 = .ok (.ifCond .eq 10, 3) := by decide +kernel
theorem dX3_note_10 : decode cX3_note 10 = .ok (.aload_n 0, 1) := by decide +kernel
theorem dX3_note_11 : decode cX3_note 11 = .ok (.getfield 9, 3) := by decide +kernel
theorem dX3_note_14 : decode cX3_note 14 = .ok (.iload_n 1, 1) := by decide +kernel
theorem dX3_note_15 : decode cX3_note 15 = .ok (.lload_n 2, 1) := by decide +kernel
theorem dX3_note_16 : decode cX3_note 16 = .ok (.lastore, 1) := by decide +kernel
theorem dX3_note_17 : decode cX3_note 17 = .ok (.return_, 1) := by decide +kernel
theorem dX3_release_0 : decode cX3_release 0 = .ok (.aload_n 0, 1) := by decide +kernel
theorem dX3_release_1 : decode cX3_release 1 = .ok (.iload_n 1, 1) := by decide +kernel
theorem dX3_release_2 : decode cX3_release 2 = .ok (.invokevirtual 71, 3) := by decide +kernel
theorem dX3_release_5 : decode cX3_release 5 = .ok (.lstore_n 2, 1) := by decide +kernel
theorem dX3_release_6 : decode cX3_release 6 = .ok (.aload_n 0, 1) := by decide +kernel
theorem dX3_release_7 : decode cX3_release 7 = .ok (.iload_n 1, 1) := by decide +kernel
theorem dX3_release_8 : decode cX3_release 8 = .ok (.putfield 42, 3) := by decide +kernel
theorem dX3_release_11 : decode cX3_release 11 = .ok (.lload_n 2, 1) := by decide +kernel
theorem dX3_release_12 : decode cX3_release 12 = .ok (.lreturn, 1) := by decide +kernel
theorem dX3_forgetHeldAbove_0 : decode cX3_forgetHeldAbove 0 = .ok (.aload_n 0, 1) := by decide +kernel
theorem dX3_forgetHeldAbove_1 : decode cX3_forgetHeldAbove 1 = .ok (.getfield 42, 3) := by decide +kernel
theorem dX3_forgetHeldAbove_4 : decode cX3_forgetHeldAbove 4 = .ok (.iload_n 1, 1) := by decide +kernel
theorem dX3_forgetHeldAbove_5 : decode cX3_forgetHeldAbove 5 = .ok (.iconst 1, 1) := by decide +kernel
theorem dX3_forgetHeldAbove_6 : decode cX3_forgetHeldAbove 6 = .ok (.iadd, 1) := by decide +kernel
theorem dX3_forgetHeldAbove_7 : decode cX3_forgetHeldAbove 7 = .ok (.invokestatic 57, 3) := by decide +kernel
theorem dX3_forgetHeldAbove_10 : decode cX3_forgetHeldAbove 10 = .ok (.istore_n 3, 1) := by decide +kernel
theorem dX3_forgetHeldAbove_11 : decode cX3_forgetHeldAbove 11 = .ok (.aload_n 0, 1) := by decide +kernel
theorem dX3_forgetHeldAbove_12 : decode cX3_forgetHeldAbove 12 = .ok (.iload_n 3, 1) := by decide +kernel
theorem dX3_forgetHeldAbove_13 : decode cX3_forgetHeldAbove 13 = .ok (.iload_n 2, 1) := by decide +kernel
theorem dX3_forgetHeldAbove_14 : decode cX3_forgetHeldAbove 14 = .ok (.invokevirtual 63, 3) := by decide +kernel
theorem dX3_forgetHeldAbove_17 : decode cX3_forgetHeldAbove 17 = .ok (.lstore 4, 2) := by decide +kernel
theorem dX3_forgetHeldAbove_19 : decode cX3_forgetHeldAbove 19 = .ok (.iload_n 3, 1) := by decide +kernel
theorem dX3_forgetHeldAbove_20 : decode cX3_forgetHeldAbove 20 = .ok (.istore 6, 2) := by decide +kernel
theorem dX3_forgetHeldAbove_22 : decode cX3_forgetHeldAbove 22 = .ok (.iload 6, 2) := by decide +kernel
theorem dX3_forgetHeldAbove_24 : decode cX3_forgetHeldAbove 24 = .ok (.iload_n 2, 1) := by decide +kernel
theorem dX3_forgetHeldAbove_25 : decode cX3_forgetHeldAbove 25 = .ok (.if_icmp .ge 16, 3) := by decide +kernel
theorem dX3_forgetHeldAbove_28 : decode cX3_forgetHeldAbove 28 = .ok (.aload_n 0, 1) := by decide +kernel
theorem dX3_forgetHeldAbove_29 : decode cX3_forgetHeldAbove 29 = .ok (.iload 6, 2) := by decide +kernel
theorem dX3_forgetHeldAbove_31 : decode cX3_forgetHeldAbove 31 = .ok (.lconst 0, 1) := by decide +kernel
theorem dX3_forgetHeldAbove_32 : decode cX3_forgetHeldAbove 32 = .ok (.invokevirtual 75, 3) := by decide +kernel
theorem dX3_forgetHeldAbove_35 : decode cX3_forgetHeldAbove 35 = .ok (.iinc 6 1, 3) := by decide +kernel
theorem dX3_forgetHeldAbove_38 : decode cX3_forgetHeldAbove 38 = .ok (.goto (-16), 3) := by decide +kernel
theorem dX3_forgetHeldAbove_41 : decode cX3_forgetHeldAbove 41 = .ok (.lload 4, 2) := by decide +kernel
theorem dX3_forgetHeldAbove_43 : decode cX3_forgetHeldAbove 43 = .ok (.lreturn, 1) := by decide +kernel
theorem dX3_copyFrom_0 : decode cX3_copyFrom 0 = .ok (.aload_n 0, 1) := by decide +kernel
theorem dX3_copyFrom_1 : decode cX3_copyFrom 1 = .ok (.aload_n 1, 1) := by decide +kernel
theorem dX3_copyFrom_2 : decode cX3_copyFrom 2 = .ok (.getfield 79, 3) := by decide +kernel
theorem dX3_copyFrom_5 : decode cX3_copyFrom 5 = .ok (.putfield 79, 3) := by decide +kernel
theorem dX3_copyFrom_8 : decode cX3_copyFrom 8 = .ok (.aload_n 0, 1) := by decide +kernel
theorem dX3_copyFrom_9 : decode cX3_copyFrom 9 = .ok (.aload_n 1, 1) := by decide +kernel
theorem dX3_copyFrom_10 : decode cX3_copyFrom 10 = .ok (.getfield 51, 3) := by decide +kernel
theorem dX3_copyFrom_13 : decode cX3_copyFrom 13 = .ok (.putfield 51, 3) := by decide +kernel
theorem dX3_copyFrom_16 : decode cX3_copyFrom 16 = .ok (.aload_n 0, 1) := by decide +kernel
theorem dX3_copyFrom_17 : decode cX3_copyFrom 17 = .ok (.aload_n 1, 1) := by decide +kernel
theorem dX3_copyFrom_18 : decode cX3_copyFrom 18 = .ok (.getfield 54, 3) := by decide +kernel
theorem dX3_copyFrom_21 : decode cX3_copyFrom 21 = .ok (.putfield 54, 3) := by decide +kernel
theorem dX3_copyFrom_24 : decode cX3_copyFrom 24 = .ok (.aload_n 0, 1) := by decide +kernel
theorem dX3_copyFrom_25 : decode cX3_copyFrom 25 = .ok (.aload_n 1, 1) := by decide +kernel
theorem dX3_copyFrom_26 : decode cX3_copyFrom 26 = .ok (.getfield 82, 3) := by decide +kernel
theorem dX3_copyFrom_29 : decode cX3_copyFrom 29 = .ok (.putfield 82, 3) := by decide +kernel
theorem dX3_copyFrom_32 : decode cX3_copyFrom 32 = .ok (.aload_n 0, 1) := by decide +kernel
theorem dX3_copyFrom_33 : decode cX3_copyFrom 33 = .ok (.aload_n 1, 1) := by decide +kernel
theorem dX3_copyFrom_34 : decode cX3_copyFrom 34 = .ok (.getfield 85, 3) := by decide +kernel
theorem dX3_copyFrom_37 : decode cX3_copyFrom 37 = .ok (.putfield 85, 3) := by decide +kernel
theorem dX3_copyFrom_40 : decode cX3_copyFrom 40 = .ok (.aload_n 0, 1) := by decide +kernel
theorem dX3_copyFrom_41 : decode cX3_copyFrom 41 = .ok (.aload_n 1, 1) := by decide +kernel
theorem dX3_copyFrom_42 : decode cX3_copyFrom 42 = .ok (.getfield 15, 3) := by decide +kernel
theorem dX3_copyFrom_45 : decode cX3_copyFrom 45 = .ok (.putfield 15, 3) := by decide +kernel
theorem dX3_copyFrom_48 : decode cX3_copyFrom 48 = .ok (.aload_n 0, 1) := by decide +kernel
theorem dX3_copyFrom_49 : decode cX3_copyFrom 49 = .ok (.aload_n 1, 1) := by decide +kernel
theorem dX3_copyFrom_50 : decode cX3_copyFrom 50 = .ok (.getfield 88, 3) := by decide +kernel
theorem dX3_copyFrom_53 : decode cX3_copyFrom 53 = .ok (.putfield 88, 3) := by decide +kernel
theorem dX3_copyFrom_56 : decode cX3_copyFrom 56 = .ok (.aload_n 0, 1) := by decide +kernel
theorem dX3_copyFrom_57 : decode cX3_copyFrom 57 = .ok (.aload_n 1, 1) := by decide +kernel
theorem dX3_copyFrom_58 : decode cX3_copyFrom 58 = .ok (.getfield 19, 3) := by decide +kernel
theorem dX3_copyFrom_61 : decode cX3_copyFrom 61 = .ok (.putfield 19, 3) := by decide +kernel
theorem dX3_copyFrom_64 : decode cX3_copyFrom 64 = .ok (.aload_n 0, 1) := by decide +kernel
theorem dX3_copyFrom_65 : decode cX3_copyFrom 65 = .ok (.aload_n 1, 1) := by decide +kernel
theorem dX3_copyFrom_66 : decode cX3_copyFrom 66 = .ok (.getfield 23, 3) := by decide +kernel
theorem dX3_copyFrom_69 : decode cX3_copyFrom 69 = .ok (.putfield 23, 3) := by decide +kernel
theorem dX3_copyFrom_72 : decode cX3_copyFrom 72 = .ok (.aload_n 0, 1) := by decide +kernel
theorem dX3_copyFrom_73 : decode cX3_copyFrom 73 = .ok (.aload_n 1, 1) := by decide +kernel
theorem dX3_copyFrom_74 : decode cX3_copyFrom 74 = .ok (.getfield 26, 3) := by decide +kernel
theorem dX3_copyFrom_77 : decode cX3_copyFrom 77 = .ok (.putfield 26, 3) := by decide +kernel
theorem dX3_copyFrom_80 : decode cX3_copyFrom 80 = .ok (.aload_n 0, 1) := by decide +kernel
theorem dX3_copyFrom_81 : decode cX3_copyFrom 81 = .ok (.aload_n 1, 1) := by decide +kernel
theorem dX3_copyFrom_82 : decode cX3_copyFrom 82 = .ok (.getfield 29, 3) := by decide +kernel
theorem dX3_copyFrom_85 : decode cX3_copyFrom 85 = .ok (.putfield 29, 3) := by decide +kernel
theorem dX3_copyFrom_88 : decode cX3_copyFrom 88 = .ok (.aload_n 0, 1) := by decide +kernel
theorem dX3_copyFrom_89 : decode cX3_copyFrom 89 = .ok (.aload_n 1, 1) := by decide +kernel
theorem dX3_copyFrom_90 : decode cX3_copyFrom 90 = .ok (.getfield 32, 3) := by decide +kernel
theorem dX3_copyFrom_93 : decode cX3_copyFrom 93 = .ok (.putfield 32, 3) := by decide +kernel
theorem dX3_copyFrom_96 : decode cX3_copyFrom 96 = .ok (.aload_n 0, 1) := by decide +kernel
theorem dX3_copyFrom_97 : decode cX3_copyFrom 97 = .ok (.aload_n 1, 1) := by decide +kernel
theorem dX3_copyFrom_98 : decode cX3_copyFrom 98 = .ok (.getfield 35, 3) := by decide +kernel
theorem dX3_copyFrom_101 : decode cX3_copyFrom 101 = .ok (.putfield 35, 3) := by decide +kernel
theorem dX3_copyFrom_104 : decode cX3_copyFrom 104 = .ok (.aload_n 0, 1) := by decide +kernel
theorem dX3_copyFrom_105 : decode cX3_copyFrom 105 = .ok (.aload_n 1, 1) := by decide +kernel
theorem dX3_copyFrom_106 : decode cX3_copyFrom 106 = .ok (.getfield 38, 3) := by decide +kernel
theorem dX3_copyFrom_109 : decode cX3_copyFrom 109 = .ok (.putfield 38, 3) := by decide +kernel
theorem dX3_copyFrom_112 : decode cX3_copyFrom 112 = .ok (.aload_n 0, 1) := by decide +kernel
theorem dX3_copyFrom_113 : decode cX3_copyFrom 113 = .ok (.aload_n 1, 1) := by decide +kernel
theorem dX3_copyFrom_114 : decode cX3_copyFrom 114 = .ok (.getfield 42, 3) := by decide +kernel
theorem dX3_copyFrom_117 : decode cX3_copyFrom 117 = .ok (.putfield 42, 3) := by decide +kernel
theorem dX3_copyFrom_120 : decode cX3_copyFrom 120 = .ok (.aload_n 1, 1) := by decide +kernel
theorem dX3_copyFrom_121 : decode cX3_copyFrom 121 = .ok (.getfield 9, 3) := by decide +kernel
theorem dX3_copyFrom_124 : decode cX3_copyFrom 124 = .ok (.iconst 0, 1) := by decide +kernel
theorem dX3_copyFrom_125 : decode cX3_copyFrom 125 = .ok (.aload_n 0, 1) := by decide +kernel
theorem dX3_copyFrom_126 : decode cX3_copyFrom 126 = .ok (.getfield 9, 3) := by decide +kernel
theorem dX3_copyFrom_129 : decode cX3_copyFrom 129 = .ok (.iconst 0, 1) := by decide +kernel
theorem dX3_copyFrom_130 : decode cX3_copyFrom 130 = .ok (.bipush 60, 2) := by decide +kernel
theorem dX3_copyFrom_132 : decode cX3_copyFrom 132 = .ok (.invokestatic 91, 3) := by decide +kernel
theorem dX3_copyFrom_135 : decode cX3_copyFrom 135 = .ok (.return_, 1) := by decide +kernel
theorem dX3_shrinkTo_0 : decode cX3_shrinkTo 0 = .ok (.aload_n 0, 1) := by decide +kernel
theorem dX3_shrinkTo_1 : decode cX3_shrinkTo 1 = .ok (.aload_n 0, 1) := by decide +kernel
theorem dX3_shrinkTo_2 : decode cX3_shrinkTo 2 = .ok (.getfield 88, 3) := by decide +kernel
theorem dX3_shrinkTo_5 : decode cX3_shrinkTo 5 = .ok (.iload_n 1, 1) := by decide +kernel
theorem dX3_shrinkTo_6 : decode cX3_shrinkTo 6 = .ok (.i2l, 1) := by decide +kernel
theorem dX3_shrinkTo_7 : decode cX3_shrinkTo 7 = .ok (.aload_n 0, 1) := by decide +kernel
theorem dX3_shrinkTo_8 : decode cX3_shrinkTo 8 = .ok (.getfield 82, 3) := by decide +kernel
theorem dX3_shrinkTo_11 : decode cX3_shrinkTo 11 = .ok (.i2l, 1) := by decide +kernel
theorem dX3_shrinkTo_12 : decode cX3_shrinkTo 12 = .ok (.invokestatic 97, 3) := by decide +kernel
theorem dX3_shrinkTo_15 : decode cX3_shrinkTo 15 = .ok (.putfield 88, 3) := by decide +kernel
theorem dX3_shrinkTo_18 : decode cX3_shrinkTo 18 = .ok (.aload_n 0, 1) := by decide +kernel
theorem dX3_shrinkTo_19 : decode cX3_shrinkTo 19 = .ok (.aload_n 0, 1) := by decide +kernel
theorem dX3_shrinkTo_20 : decode cX3_shrinkTo 20 = .ok (.getfield 19, 3) := by decide +kernel
theorem dX3_shrinkTo_23 : decode cX3_shrinkTo 23 = .ok (.iload_n 1, 1) := by decide +kernel
theorem dX3_shrinkTo_24 : decode cX3_shrinkTo 24 = .ok (.i2l, 1) := by decide +kernel
theorem dX3_shrinkTo_25 : decode cX3_shrinkTo 25 = .ok (.aload_n 0, 1) := by decide +kernel
theorem dX3_shrinkTo_26 : decode cX3_shrinkTo 26 = .ok (.getfield 82, 3) := by decide +kernel
theorem dX3_shrinkTo_29 : decode cX3_shrinkTo 29 = .ok (.i2l, 1) := by decide +kernel
theorem dX3_shrinkTo_30 : decode cX3_shrinkTo 30 = .ok (.invokestatic 97, 3) := by decide +kernel
theorem dX3_shrinkTo_33 : decode cX3_shrinkTo 33 = .ok (.putfield 19, 3) := by decide +kernel
theorem dX3_shrinkTo_36 : decode cX3_shrinkTo 36 = .ok (.aload_n 0, 1) := by decide +kernel
theorem dX3_shrinkTo_37 : decode cX3_shrinkTo 37 = .ok (.aload_n 0, 1) := by decide +kernel
theorem dX3_shrinkTo_38 : decode cX3_shrinkTo 38 = .ok (.getfield 32, 3) := by decide +kernel
theorem dX3_shrinkTo_41 : decode cX3_shrinkTo 41 = .ok (.iload_n 1, 1) := by decide +kernel
theorem dX3_shrinkTo_42 : decode cX3_shrinkTo 42 = .ok (.i2l, 1) := by decide +kernel
theorem dX3_shrinkTo_43 : decode cX3_shrinkTo 43 = .ok (.aload_n 0, 1) := by decide +kernel
theorem dX3_shrinkTo_44 : decode cX3_shrinkTo 44 = .ok (.getfield 82, 3) := by decide +kernel
theorem dX3_shrinkTo_47 : decode cX3_shrinkTo 47 = .ok (.i2l, 1) := by decide +kernel
theorem dX3_shrinkTo_48 : decode cX3_shrinkTo 48 = .ok (.invokestatic 97, 3) := by decide +kernel
theorem dX3_shrinkTo_51 : decode cX3_shrinkTo 51 = .ok (.putfield 32, 3) := by decide +kernel
theorem dX3_shrinkTo_54 : decode cX3_shrinkTo 54 = .ok (.iconst 0, 1) := by decide +kernel
theorem dX3_shrinkTo_55 : decode cX3_shrinkTo 55 = .ok (.istore_n 2, 1) := by decide +kernel
theorem dX3_shrinkTo_56 : decode cX3_shrinkTo 56 = .ok (.iload_n 2, 1) := by decide +kernel
theorem dX3_shrinkTo_57 : decode cX3_shrinkTo 57 = .ok (.bipush 60, 2) := by decide +kernel
theorem dX3_shrinkTo_59 : decode cX3_shrinkTo 59 = .ok (.if_icmp .ge 31, 3) := by decide +kernel
theorem dX3_shrinkTo_62 : decode cX3_shrinkTo 62 = .ok (.aload_n 0, 1) := by decide +kernel
theorem dX3_shrinkTo_63 : decode cX3_shrinkTo 63 = .ok (.getfield 9, 3) := by decide +kernel
theorem dX3_shrinkTo_66 : decode cX3_shrinkTo 66 = .ok (.iload_n 2, 1) := by decide +kernel
theorem dX3_shrinkTo_67 : decode cX3_shrinkTo 67 = .ok (.aload_n 0, 1) := by decide +kernel
theorem dX3_shrinkTo_68 : decode cX3_shrinkTo 68 = .ok (.getfield 9, 3) := by decide +kernel
theorem dX3_shrinkTo_71 : decode cX3_shrinkTo 71 = .ok (.iload_n 2, 1) := by decide +kernel
theorem dX3_shrinkTo_72 : decode cX3_shrinkTo 72 = .ok (.laload, 1) := by decide +kernel
theorem dX3_shrinkTo_73 : decode cX3_shrinkTo 73 = .ok (.iload_n 1, 1) := by decide +kernel
theorem dX3_shrinkTo_74 : decode cX3_shrinkTo 74 = .ok (.i2l, 1) := by decide +kernel
theorem dX3_shrinkTo_75 : decode cX3_shrinkTo 75 = .ok (.aload_n 0, 1) := by decide +kernel
theorem dX3_shrinkTo_76 : decode cX3_shrinkTo 76 = .ok (.getfield 82, 3) := by decide +kernel
theorem dX3_shrinkTo_79 : decode cX3_shrinkTo 79 = .ok (.i2l, 1) := by decide +kernel
theorem dX3_shrinkTo_80 : decode cX3_shrinkTo 80 = .ok (.invokestatic 97, 3) := by decide +kernel
theorem dX3_shrinkTo_83 : decode cX3_shrinkTo 83 = .ok (.lastore, 1) := by decide +kernel
theorem dX3_shrinkTo_84 : decode cX3_shrinkTo 84 = .ok (.iinc 2 1, 3) := by decide +kernel
theorem dX3_shrinkTo_87 : decode cX3_shrinkTo 87 = .ok (.goto (-31), 3) := by decide +kernel
theorem dX3_shrinkTo_90 : decode cX3_shrinkTo 90 = .ok (.aload_n 0, 1) := by decide +kernel
theorem dX3_shrinkTo_91 : decode cX3_shrinkTo 91 = .ok (.iload_n 1, 1) := by decide +kernel
theorem dX3_shrinkTo_92 : decode cX3_shrinkTo 92 = .ok (.putfield 82, 3) := by decide +kernel
theorem dX3_shrinkTo_95 : decode cX3_shrinkTo 95 = .ok (.return_, 1) := by decide +kernel
theorem dX3_loseTo_0 : decode cX3_loseTo 0 = .ok (.aload_n 0, 1) := by decide +kernel
theorem dX3_loseTo_1 : decode cX3_loseTo 1 = .ok (.dup, 1) := by decide +kernel
theorem dX3_loseTo_2 : decode cX3_loseTo 2 = .ok (.getfield 82, 3) := by decide +kernel
theorem dX3_loseTo_5 : decode cX3_loseTo 5 = .ok (.aload_n 1, 1) := by decide +kernel
theorem dX3_loseTo_6 : decode cX3_loseTo 6 = .ok (.getfield 82, 3) := by decide +kernel
theorem dX3_loseTo_9 : decode cX3_loseTo 9 = .ok (.isub, 1) := by decide +kernel
theorem dX3_loseTo_10 : decode cX3_loseTo 10 = .ok (.putfield 82, 3) := by decide +kernel
theorem dX3_loseTo_13 : decode cX3_loseTo 13 = .ok (.aload_n 0, 1) := by decide +kernel
theorem dX3_loseTo_14 : decode cX3_loseTo 14 = .ok (.dup, 1) := by decide +kernel
theorem dX3_loseTo_15 : decode cX3_loseTo 15 = .ok (.getfield 88, 3) := by decide +kernel
theorem dX3_loseTo_18 : decode cX3_loseTo 18 = .ok (.aload_n 1, 1) := by decide +kernel
theorem dX3_loseTo_19 : decode cX3_loseTo 19 = .ok (.getfield 88, 3) := by decide +kernel
theorem dX3_loseTo_22 : decode cX3_loseTo 22 = .ok (.lsub, 1) := by decide +kernel
theorem dX3_loseTo_23 : decode cX3_loseTo 23 = .ok (.putfield 88, 3) := by decide +kernel
theorem dX3_loseTo_26 : decode cX3_loseTo 26 = .ok (.aload_n 0, 1) := by decide +kernel
theorem dX3_loseTo_27 : decode cX3_loseTo 27 = .ok (.dup, 1) := by decide +kernel
theorem dX3_loseTo_28 : decode cX3_loseTo 28 = .ok (.getfield 19, 3) := by decide +kernel
theorem dX3_loseTo_31 : decode cX3_loseTo 31 = .ok (.aload_n 1, 1) := by decide +kernel
theorem dX3_loseTo_32 : decode cX3_loseTo 32 = .ok (.getfield 19, 3) := by decide +kernel
theorem dX3_loseTo_35 : decode cX3_loseTo 35 = .ok (.lsub, 1) := by decide +kernel
theorem dX3_loseTo_36 : decode cX3_loseTo 36 = .ok (.putfield 19, 3) := by decide +kernel
theorem dX3_loseTo_39 : decode cX3_loseTo 39 = .ok (.aload_n 0, 1) := by decide +kernel
theorem dX3_loseTo_40 : decode cX3_loseTo 40 = .ok (.dup, 1) := by decide +kernel
theorem dX3_loseTo_41 : decode cX3_loseTo 41 = .ok (.getfield 32, 3) := by decide +kernel
theorem dX3_loseTo_44 : decode cX3_loseTo 44 = .ok (.aload_n 1, 1) := by decide +kernel
theorem dX3_loseTo_45 : decode cX3_loseTo 45 = .ok (.getfield 32, 3) := by decide +kernel
theorem dX3_loseTo_48 : decode cX3_loseTo 48 = .ok (.lsub, 1) := by decide +kernel
theorem dX3_loseTo_49 : decode cX3_loseTo 49 = .ok (.putfield 32, 3) := by decide +kernel
theorem dX3_loseTo_52 : decode cX3_loseTo 52 = .ok (.iconst 0, 1) := by decide +kernel
theorem dX3_loseTo_53 : decode cX3_loseTo 53 = .ok (.istore_n 2, 1) := by decide +kernel
theorem dX3_loseTo_54 : decode cX3_loseTo 54 = .ok (.iload_n 2, 1) := by decide +kernel
theorem dX3_loseTo_55 : decode cX3_loseTo 55 = .ok (.bipush 60, 2) := by decide +kernel
theorem dX3_loseTo_57 : decode cX3_loseTo 57 = .ok (.if_icmp .ge 24, 3) := by decide +kernel
theorem dX3_loseTo_60 : decode cX3_loseTo 60 = .ok (.aload_n 0, 1) := by decide +kernel
theorem dX3_loseTo_61 : decode cX3_loseTo 61 = .ok (.getfield 9, 3) := by decide +kernel
theorem dX3_loseTo_64 : decode cX3_loseTo 64 = .ok (.iload_n 2, 1) := by decide +kernel
theorem dX3_loseTo_65 : decode cX3_loseTo 65 = .ok (.dup2, 1) := by decide +kernel
theorem dX3_loseTo_66 : decode cX3_loseTo 66 = .ok (.laload, 1) := by decide +kernel
theorem dX3_loseTo_67 : decode cX3_loseTo 67 = .ok (.aload_n 1, 1) := by decide +kernel
theorem dX3_loseTo_68 : decode cX3_loseTo 68 = .ok (.getfield 9, 3) := by decide +kernel
theorem dX3_loseTo_71 : decode cX3_loseTo 71 = .ok (.iload_n 2, 1) := by decide +kernel
theorem dX3_loseTo_72 : decode cX3_loseTo 72 = .ok (.laload, 1) := by decide +kernel
theorem dX3_loseTo_73 : decode cX3_loseTo 73 = .ok (.lsub, 1) := by decide +kernel
theorem dX3_loseTo_74 : decode cX3_loseTo 74 = .ok (.lastore, 1) := by decide +kernel
theorem dX3_loseTo_75 : decode cX3_loseTo 75 = .ok (.iinc 2 1, 3) := by decide +kernel
theorem dX3_loseTo_78 : decode cX3_loseTo 78 = .ok (.goto (-24), 3) := by decide +kernel
theorem dX3_loseTo_81 : decode cX3_loseTo 81 = .ok (.return_, 1) := by decide +kernel
theorem dX4_init_0 : decode cX4_init 0 = .ok (.aload_n 0, 1) := by decide +kernel
theorem dX4_init_1 : decode cX4_init 1 = .ok (.invokespecial 3, 3) := by decide +kernel
theorem dX4_init_4 : decode cX4_init 4 = .ok (.aload_n 0, 1) := by decide +kernel
theorem dX4_init_5 : decode cX4_init 5 = .ok (.bipush 111, 2) := by decide +kernel
theorem dX4_init_7 : decode cX4_init 7 = .ok (.newarray .int, 2) := by decide +kernel
theorem dX4_init_9 : decode cX4_init 9 = .ok (.putfield 9, 3) := by decide +kernel
theorem dX4_init_12 : decode cX4_init 12 = .ok (.iconst 0, 1) := by decide +kernel
theorem dX4_init_13 : decode cX4_init 13 = .ok (.istore_n 1, 1) := by decide +kernel
theorem dX4_init_14 : decode cX4_init 14 = .ok (.iload_n 1, 1) := by decide +kernel
theorem dX4_init_15 : decode cX4_init 15 = .ok (.bipush 110, 2) := by decide +kernel
theorem dX4_init_17 : decode cX4_init 17 = .ok (.if_icmp .gt 23, 3) := by decide +kernel
theorem dX4_init_20 : decode cX4_init 20 = .ok (.aload_n 0, 1) := by decide +kernel
theorem dX4_init_21 : decode cX4_init 21 = .ok (.getfield 9, 3) := by decide +kernel
theorem dX4_init_24 : decode cX4_init 24 = .ok (.iload_n 1, 1) := by decide +kernel
theorem dX4_init_25 : decode cX4_init 25 = .ok (.ldc 15, 2) := by decide +kernel
theorem dX4_init_27 : decode cX4_init 27 = .ok (.sipush 900, 3) := by decide +kernel
theorem dX4_init_30 : decode cX4_init 30 = .ok (.iload_n 1, 1) := by decide +kernel
theorem dX4_init_31 : decode cX4_init 31 = .ok (.imul, 1) := by decide +kernel
theorem dX4_init_32 : decode cX4_init 32 = .ok (.isub, 1) := by decide +kernel
theorem dX4_init_33 : decode cX4_init 33 = .ok (.iastore, 1) := by decide +kernel
theorem dX4_init_34 : decode cX4_init 34 = .ok (.iinc 1 1, 3) := by decide +kernel
theorem dX4_init_37 : decode cX4_init 37 = .ok (.goto (-23), 3) := by decide +kernel
theorem dX4_init_40 : decode cX4_init 40 = .ok (.return_, 1) := by decide +kernel
theorem dX4_at_0 : decode cX4_at 0 = .ok (.iload_n 1, 1) := by decide +kernel
theorem dX4_at_1 : decode cX4_at 1 = .ok (.invokestatic 16, 3) := by decide +kernel
theorem dX4_at_4 : decode cX4_at 4 = .ok (.ifCond .eq 13, 3) := by decide +kernel
theorem dX4_at_7 : decode cX4_at 7 = .ok (.aload_n 0, 1) := by decide +kernel
theorem dX4_at_8 : decode cX4_at 8 = .ok (.getfield 9, 3) := by decide +kernel
theorem dX4_at_11 : decode cX4_at 11 = .ok (.iload_n 1, 1) := by decide +kernel
theorem dX4_at_12 : decode cX4_at 12 = .ok (.iaload, 1) := by decide +kernel
theorem dX4_at_13 : decode cX4_at 13 = .ok (.i2l, 1) := by decide +kernel
theorem dX4_at_14 : decode cX4_at 14 = .ok (.goto 4, 3) := by decide +kernel
theorem dX4_at_17 : decode cX4_at 17 = .ok (.lconst 0, 1) := by decide +kernel
theorem dX4_at_18 : decode cX4_at 18 = .ok (.lreturn, 1) := by decide +kernel
theorem dX4_fits_0 : decode cX4_fits 0 = .ok (.iload_n 1, 1) := by decide +kernel
theorem dX4_fits_1 : decode cX4_fits 1 = .ok (.ifCond .le 16, 3) := by decide +kernel
theorem dX4_fits_4 : decode cX4_fits 4 = .ok (.iload_n 2, 1) := by decide +kernel
theorem dX4_fits_5 : decode cX4_fits 5 = .ok (.i2l, 1) := by decide +kernel
theorem dX4_fits_6 : decode cX4_fits 6 = .ok (.aload_n 0, 1) := by decide +kernel
theorem dX4_fits_7 : decode cX4_fits 7 = .ok (.iload_n 1, 1) := by decide +kernel
theorem dX4_fits_8 : decode cX4_fits 8 = .ok (.iconst 1, 1) := by decide +kernel
theorem dX4_fits_9 : decode cX4_fits 9 = .ok (.isub, 1) := by decide +kernel
theorem dX4_fits_10 : decode cX4_fits 10 = .ok (.invokevirtual 20, 3) := by decide +kernel
theorem dX4_fits_13 : decode cX4_fits 13 = .ok (.lcmp, 1) := by decide +kernel
theorem dX4_fits_14 : decode cX4_fits 14 = .ok (.ifCond .gt 7, 3) := by decide +kernel
theorem dX4_fits_17 : decode cX4_fits 17 = .ok (.iconst 1, 1) := by decide +kernel
theorem dX4_fits_18 : decode cX4_fits 18 = .ok (.goto 4, 3) := by decide +kernel
theorem dX4_fits_21 : decode cX4_fits 21 = .ok (.iconst 0, 1) := by decide +kernel
theorem dX4_fits_22 : decode cX4_fits 22 = .ok (.istore_n 3, 1) := by decide +kernel
theorem dX4_fits_23 : decode cX4_fits 23 = .ok (.iload_n 1, 1) := by decide +kernel
theorem dX4_fits_24 : decode cX4_fits 24 = .ok (.bipush 110, 2) := by decide +kernel
theorem dX4_fits_26 : decode cX4_fits 26 = .ok (.if_icmp .ge 16, 3) := by decide +kernel
theorem dX4_fits_29 : decode cX4_fits 29 = .ok (.iload_n 2, 1) := by decide +kernel
theorem dX4_fits_30 : decode cX4_fits 30 = .ok (.i2l, 1) := by decide +kernel
theorem dX4_fits_31 : decode cX4_fits 31 = .ok (.aload_n 0, 1) := by decide +kernel
theorem dX4_fits_32 : decode cX4_fits 32 = .ok (.iload_n 1, 1) := by decide +kernel
theorem dX4_fits_33 : decode cX4_fits 33 = .ok (.iconst 1, 1) := by decide +kernel
theorem dX4_fits_34 : decode cX4_fits 34 = .ok (.iadd, 1) := by decide +kernel
theorem dX4_fits_35 : decode cX4_fits 35 = .ok (.invokevirtual 20, 3) := by decide +kernel
theorem dX4_fits_38 : decode cX4_fits 38 = .ok (.lcmp, 1) := by decide +kernel
theorem dX4_fits_39 : decode cX4_fits 39 = .ok (.ifCond .lt 7, 3) := by decide +kernel
theorem dX4_fits_42 : decode cX4_fits 42 = .ok (.iconst 1, 1) := by decide +kernel
theorem dX4_fits_43 : decode cX4_fits 43 = .ok (.goto 4, 3) := by decide +kernel
theorem dX4_fits_46 : decode cX4_fits 46 = .ok (.iconst 0, 1) := by decide +kernel
theorem dX4_fits_47 : decode cX4_fits 47 = .ok (.istore 4, 2) := by decide +kernel
theorem dX4_fits_49 : decode cX4_fits 49 = .ok (.iload_n 3, 1) := by decide +kernel
theorem dX4_fits_50 : decode cX4_fits 50 = .ok (.ifCond .eq 12, 3) := by decide +kernel
theorem dX4_fits_53 : decode cX4_fits 53 = .ok (.iload 4, 2) := by decide +kernel
theorem dX4_fits_55 : decode cX4_fits 55 = .ok (.ifCond .eq 7, 3) := by decide +kernel
theorem dX4_fits_58 : decode cX4_fits 58 = .ok (.iconst 1, 1) := by decide +kernel
theorem dX4_fits_59 : decode cX4_fits 59 = .ok (.goto 4, 3) := by decide +kernel
theorem dX4_fits_62 : decode cX4_fits 62 = .ok (.iconst 0, 1) := by decide +kernel
theorem dX4_fits_63 : decode cX4_fits 63 = .ok (.ireturn, 1) := by decide +kernel
theorem dX4_replace_0 : decode cX4_replace 0 = .ok (.aload_n 0, 1) := by decide +kernel
theorem dX4_replace_1 : decode cX4_replace 1 = .ok (.iload_n 1, 1) := by decide +kernel
theorem dX4_replace_2 : decode cX4_replace 2 = .ok (.invokevirtual 20, 3) := by decide +kernel
theorem dX4_replace_5 : decode cX4_replace 5 = .ok (.lstore_n 3, 1) := by decide +kernel
theorem dX4_replace_6 : decode cX4_replace 6 = .ok (.iload_n 1, 1) := by decide +kernel
theorem dX4_replace_7 : decode cX4_replace 7 = .ok (.invokestatic 16, 3) := by decide +kernel
theorem dX4_replace_10 : decode cX4_replace 10 = .ok (.ifCond .eq 10, 3) := by decide +kernel
theorem dX4_replace_13 : decode cX4_replace 13 = .ok (.aload_n 0, 1) := by decide +kernel
theorem dX4_replace_14 : decode cX4_replace 14 = .ok (.getfield 9, 3) := by decide +kernel
theorem dX4_replace_17 : decode cX4_replace 17 = .ok (.iload_n 1, 1) := by decide +kernel
theorem dX4_replace_18 : decode cX4_replace 18 = .ok (.iload_n 2, 1) := by decide +kernel
theorem dX4_replace_19 : decode cX4_replace 19 = .ok (.iastore, 1) := by decide +kernel
theorem dX4_replace_20 : decode cX4_replace 20 = .ok (.lload_n 3, 1) := by decide +kernel
theorem dX4_replace_21 : decode cX4_replace 21 = .ok (.lreturn, 1) := by decide +kernel
theorem dX4_sumAbove_0 : decode cX4_sumAbove 0 = .ok (.lconst 0, 1) := by decide +kernel
theorem dX4_sumAbove_1 : decode cX4_sumAbove 1 = .ok (.lstore_n 2, 1) := by decide +kernel
theorem dX4_sumAbove_2 : decode cX4_sumAbove 2 = .ok (.iload_n 1, 1) := by decide +kernel
theorem dX4_sumAbove_3 : decode cX4_sumAbove 3 = .ok (.iconst 1, 1) := by decide +kernel
theorem dX4_sumAbove_4 : decode cX4_sumAbove 4 = .ok (.iadd, 1) := by decide +kernel
theorem dX4_sumAbove_5 : decode cX4_sumAbove 5 = .ok (.istore 4, 2) := by decide +kernel
theorem dX4_sumAbove_7 : decode cX4_sumAbove 7 = .ok (.iload 4, 2) := by decide +kernel
theorem dX4_sumAbove_9 : decode cX4_sumAbove 9 = .ok (.bipush 110, 2) := by decide +kernel
theorem dX4_sumAbove_11 : decode cX4_sumAbove 11 = .ok (.if_icmp .gt 18, 3) := by decide +kernel
theorem dX4_sumAbove_14 : decode cX4_sumAbove 14 = .ok (.lload_n 2, 1) := by decide +kernel
theorem dX4_sumAbove_15 : decode cX4_sumAbove 15 = .ok (.aload_n 0, 1) := by decide +kernel
theorem dX4_sumAbove_16 : decode cX4_sumAbove 16 = .ok (.iload 4, 2) := by decide +kernel
theorem dX4_sumAbove_18 : decode cX4_sumAbove 18 = .ok (.invokevirtual 20, 3) := by decide +kernel
theorem dX4_sumAbove_21 : decode cX4_sumAbove 21 = .ok (.ladd, 1) := by decide +kernel
theorem dX4_sumAbove_22 : decode cX4_sumAbove 22 = .ok (.lstore_n 2, 1) := by decide +kernel
theorem dX4_sumAbove_23 : decode cX4_sumAbove 23 = .ok (.iinc 4 1, 3) := by decide +kernel
theorem dX4_sumAbove_26 : decode cX4_sumAbove 26 = .ok (.goto (-19), 3) := by decide +kernel
theorem dX4_sumAbove_29 : decode cX4_sumAbove 29 = .ok (.lload_n 2, 1) := by decide +kernel
theorem dX4_sumAbove_30 : decode cX4_sumAbove 30 = .ok (.lreturn, 1) := by decide +kernel
theorem dX4_copyFrom_0 : decode cX4_copyFrom 0 = .ok (.aload_n 1, 1) := by decide +kernel
theorem dX4_copyFrom_1 : decode cX4_copyFrom 1 = .ok (.getfield 9, 3) := by decide +kernel
theorem dX4_copyFrom_4 : decode cX4_copyFrom 4 = .ok (.iconst 0, 1) := by decide +kernel
theorem dX4_copyFrom_5 : decode cX4_copyFrom 5 = .ok (.aload_n 0, 1) := by decide +kernel
theorem dX4_copyFrom_6 : decode cX4_copyFrom 6 = .ok (.getfield 9, 3) := by decide +kernel
theorem dX4_copyFrom_9 : decode cX4_copyFrom 9 = .ok (.iconst 0, 1) := by decide +kernel
theorem dX4_copyFrom_10 : decode cX4_copyFrom 10 = .ok (.bipush 111, 2) := by decide +kernel
theorem dX4_copyFrom_12 : decode cX4_copyFrom 12 = .ok (.invokestatic 24, 3) := by decide +kernel
theorem dX4_copyFrom_15 : decode cX4_copyFrom 15 = .ok (.return_, 1) := by decide +kernel
theorem dX5_init_0 : decode cX5_init 0 = .ok (.aload_n 0, 1) := by decide +kernel
theorem dX5_init_1 : decode cX5_init 1 = .ok (.invokespecial 1, 3) := by decide +kernel
theorem dX5_init_4 : decode cX5_init 4 = .ok (.aload_n 0, 1) := by decide +kernel
theorem dX5_init_5 : decode cX5_init 5 = .ok (.new 7, 3) := by decide +kernel
theorem dX5_init_8 : decode cX5_init 8 = .ok (.dup, 1) := by decide +kernel
theorem dX5_init_9 : decode cX5_init 9 = .ok (.invokespecial 9, 3) := by decide +kernel
theorem dX5_init_12 : decode cX5_init 12 = .ok (.putfield 10, 3) := by decide +kernel
theorem dX5_init_15 : decode cX5_init 15 = .ok (.aload_n 0, 1) := by decide +kernel
theorem dX5_init_16 : decode cX5_init 16 = .ok (.aconst_null, 1) := by decide +kernel
theorem dX5_init_17 : decode cX5_init 17 = .ok (.putfield 16, 3) := by decide +kernel
theorem dX5_init_20 : decode cX5_init 20 = .ok (.return_, 1) := by decide +kernel
theorem dX5_living_0 : decode cX5_living 0 = .ok (.iload_n 1, 1) := by decide +kernel
theorem dX5_living_1 : decode cX5_living 1 = .ok (.invokestatic 19, 3) := by decide +kernel
theorem dX5_living_4 : decode cX5_living 4 = .ok (.ifCond .eq 28, 3) := by decide +kernel
theorem dX5_living_7 : decode cX5_living 7 = .ok (.iload_n 2, 1) := by decide +kernel
theorem dX5_living_8 : decode cX5_living 8 = .ok (.ifCond .lt 24, 3) := by decide +kernel
theorem dX5_living_11 : decode cX5_living 11 = .ok (.iload_n 2, 1) := by decide +kernel
theorem dX5_living_12 : decode cX5_living 12 = .ok (.ldc 23, 2) := by decide +kernel
theorem dX5_living_14 : decode cX5_living 14 = .ok (.if_icmp .gt 18, 3) := by decide +kernel
theorem dX5_living_17 : decode cX5_living 17 = .ok (.aload_n 0, 1) := by decide +kernel
theorem dX5_living_18 : decode cX5_living 18 = .ok (.getfield 10, 3) := by decide +kernel
theorem dX5_living_21 : decode cX5_living 21 = .ok (.getfield 24, 3) := by decide +kernel
theorem dX5_living_24 : decode cX5_living 24 = .ok (.iload_n 1, 1) := by decide +kernel
theorem dX5_living_25 : decode cX5_living 25 = .ok (.iload_n 2, 1) := by decide +kernel
theorem dX5_living_26 : decode cX5_living 26 = .ok (.invokevirtual 28, 3) := by decide +kernel
theorem dX5_living_29 : decode cX5_living 29 = .ok (.ifCond .ne 7, 3) := by decide +kernel
theorem dX5_living_32 : decode cX5_living 32 = .ok (.ldc2_w 34, 3) := by decide +kernel
theorem dX5_living_35 : decode cX5_living 35 = .ok (.lreturn, 1) := by decide +kernel
theorem dX5_living_36 : decode cX5_living 36 = .ok (.aload_n 0, 1) := by decide +kernel
theorem dX5_living_37 : decode cX5_living 37 = .ok (.getfield 10, 3) := by decide +kernel
theorem dX5_living_40 : decode cX5_living 40 = .ok (.getfield 24, 3) := by decide +kernel
theorem dX5_living_43 : decode cX5_living 43 = .ok (.iload_n 1, 1) := by decide +kernel
theorem dX5_living_44 : decode cX5_living 44 = .ok (.iload_n 2, 1) := by decide +kernel
theorem dX5_living_45 : decode cX5_living 45 = .ok (.invokevirtual 36, 3) := by decide +kernel
theorem dX5_living_48 : decode cX5_living 48 = .ok (.lreturn, 1) := by decide +kernel
theorem dX5_foretell_0 : decode cX5_foretell 0 = .ok (.iload_n 1, 1) := by decide +kernel
theorem dX5_foretell_1 : decode cX5_foretell 1 = .ok (.invokestatic 19, 3) := by decide +kernel
theorem dX5_foretell_4 : decode cX5_foretell 4 = .ok (.ifCond .eq 7, 3) := by decide +kernel
theorem dX5_foretell_7 : decode cX5_foretell 7 = .ok (.iload_n 2, 1) := by decide +kernel
theorem dX5_foretell_8 : decode cX5_foretell 8 = .ok (.ifCond .ge 7, 3) := by decide +kernel
theorem dX5_foretell_11 : decode cX5_foretell 11 = .ok (.ldc2_w 34, 3) := by decide +kernel
theorem dX5_foretell_14 : decode cX5_foretell 14 = .ok (.lreturn, 1) := by decide +kernel
theorem dX5_foretell_15 : decode cX5_foretell 15 = .ok (.iload_n 2, 1) := by decide +kernel
theorem dX5_foretell_16 : decode cX5_foretell 16 = .ok (.bipush 110, 2) := by decide +kernel
theorem dX5_foretell_18 : decode cX5_foretell 18 = .ok (.iload_n 1, 1) := by decide +kernel
theorem dX5_foretell_19 : decode cX5_foretell 19 = .ok (.isub, 1) := by decide +kernel
theorem dX5_foretell_20 : decode cX5_foretell 20 = .ok (.if_icmp .le 7, 3) := by decide +kernel
theorem dX5_foretell_23 : decode cX5_foretell 23 = .ok (.lconst 0, 1) := by decide +kernel
theorem dX5_foretell_24 : decode cX5_foretell 24 = .ok (.goto 33, 3) := by decide +kernel
theorem dX5_foretell_27 : decode cX5_foretell 27 = .ok (.ldc2_w 40, 3) := by decide +kernel
theorem dX5_foretell_30 : decode cX5_foretell 30 = .ok (.aload_n 0, 1) := by decide +kernel
theorem dX5_foretell_31 : decode cX5_foretell 31 = .ok (.getfield 10, 3) := by decide +kernel
theorem dX5_foretell_34 : decode cX5_foretell 34 = .ok (.getfield 24, 3) := by decide +kernel
theorem dX5_foretell_37 : decode cX5_foretell 37 = .ok (.iload_n 1, 1) := by decide +kernel
theorem dX5_foretell_38 : decode cX5_foretell 38 = .ok (.iload_n 2, 1) := by decide +kernel
theorem dX5_foretell_39 : decode cX5_foretell 39 = .ok (.iadd, 1) := by decide +kernel
theorem dX5_foretell_40 : decode cX5_foretell 40 = .ok (.invokevirtual 42, 3) := by decide +kernel
theorem dX5_foretell_43 : decode cX5_foretell 43 = .ok (.aload_n 0, 1) := by decide +kernel
theorem dX5_foretell_44 : decode cX5_foretell 44 = .ok (.getfield 10, 3) := by decide +kernel
theorem dX5_foretell_47 : decode cX5_foretell 47 = .ok (.getfield 24, 3) := by decide +kernel
theorem dX5_foretell_50 : decode cX5_foretell 50 = .ok (.iload_n 1, 1) := by decide +kernel
theorem dX5_foretell_51 : decode cX5_foretell 51 = .ok (.invokevirtual 42, 3) := by decide +kernel
theorem dX5_foretell_54 : decode cX5_foretell 54 = .ok (.invokestatic 46, 3) := by decide +kernel
theorem dX5_foretell_57 : decode cX5_foretell 57 = .ok (.lreturn, 1) := by decide +kernel
theorem dX5_mean_0 : decode cX5_mean 0 = .ok (.iload_n 1, 1) := by decide +kernel
theorem dX5_mean_1 : decode cX5_mean 1 = .ok (.invokestatic 19, 3) := by decide +kernel
theorem dX5_mean_4 : decode cX5_mean 4 = .ok (.ifCond .ne 7, 3) := by decide +kernel
theorem dX5_mean_7 : decode cX5_mean 7 = .ok (.ldc2_w 34, 3) := by decide +kernel
theorem dX5_mean_10 : decode cX5_mean 10 = .ok (.lreturn, 1) := by decide +kernel
theorem dX5_mean_11 : decode cX5_mean 11 = .ok (.ldc2_w 50, 3) := by decide +kernel
theorem dX5_mean_14 : decode cX5_mean 14 = .ok (.aload_n 0, 1) := by decide +kernel
theorem dX5_mean_15 : decode cX5_mean 15 = .ok (.getfield 10, 3) := by decide +kernel
theorem dX5_mean_18 : decode cX5_mean 18 = .ok (.getfield 24, 3) := by decide +kernel
theorem dX5_mean_21 : decode cX5_mean 21 = .ok (.iload_n 1, 1) := by decide +kernel
theorem dX5_mean_22 : decode cX5_mean 22 = .ok (.invokevirtual 52, 3) := by decide +kernel
theorem dX5_mean_25 : decode cX5_mean 25 = .ok (.aload_n 0, 1) := by decide +kernel
theorem dX5_mean_26 : decode cX5_mean 26 = .ok (.getfield 10, 3) := by decide +kernel
theorem dX5_mean_29 : decode cX5_mean 29 = .ok (.getfield 24, 3) := by decide +kernel
theorem dX5_mean_32 : decode cX5_mean 32 = .ok (.iload_n 1, 1) := by decide +kernel
theorem dX5_mean_33 : decode cX5_mean 33 = .ok (.invokevirtual 42, 3) := by decide +kernel
theorem dX5_mean_36 : decode cX5_mean 36 = .ok (.invokestatic 46, 3) := by decide +kernel
theorem dX5_mean_39 : decode cX5_mean 39 = .ok (.lreturn, 1) := by decide +kernel
theorem dX5_dearer_0 : decode cX5_dearer 0 = .ok (.aload_n 0, 1) := by decide +kernel
theorem dX5_dearer_1 : decode cX5_dearer 1 = .ok (.getfield 10, 3) := by decide +kernel
theorem dX5_dearer_4 : decode cX5_dearer 4 = .ok (.iload_n 1, 1) := by decide +kernel
theorem dX5_dearer_5 : decode cX5_dearer 5 = .ok (.invokevirtual 55, 3) := by decide +kernel
theorem dX5_dearer_8 : decode cX5_dearer 8 = .ok (.ifCond .eq 14, 3) := by decide +kernel
theorem dX5_dearer_11 : decode cX5_dearer 11 = .ok (.aload_n 0, 1) := by decide +kernel
theorem dX5_dearer_12 : decode cX5_dearer 12 = .ok (.getfield 10, 3) := by decide +kernel
theorem dX5_dearer_15 : decode cX5_dearer 15 = .ok (.iload_n 2, 1) := by decide +kernel
theorem dX5_dearer_16 : decode cX5_dearer 16 = .ok (.invokevirtual 55, 3) := by decide +kernel
theorem dX5_dearer_19 : decode cX5_dearer 19 = .ok (.ifCond .ne 7, 3) := by decide +kernel
theorem dX5_dearer_22 : decode cX5_dearer 22 = .ok (.ldc2_w 34, 3) := by decide +kernel
theorem dX5_dearer_25 : decode cX5_dearer 25 = .ok (.lreturn, 1) := by decide +kernel
theorem dX5_dearer_26 : decode cX5_dearer 26 = .ok (.aload_n 0, 1) := by decide +kernel
theorem dX5_dearer_27 : decode cX5_dearer 27 = .ok (.getfield 10, 3) := by decide +kernel
theorem dX5_dearer_30 : decode cX5_dearer 30 = .ok (.getfield 58, 3) := by decide +kernel
theorem dX5_dearer_33 : decode cX5_dearer 33 = .ok (.iload_n 1, 1) := by decide +kernel
theorem dX5_dearer_34 : decode cX5_dearer 34 = .ok (.aaload, 1) := by decide +kernel
theorem dX5_dearer_35 : decode cX5_dearer 35 = .ok (.astore_n 3, 1) := by decide +kernel
theorem dX5_dearer_36 : decode cX5_dearer 36 = .ok (.aload_n 0, 1) := by decide +kernel
theorem dX5_dearer_37 : decode cX5_dearer 37 = .ok (.getfield 10, 3) := by decide +kernel
theorem dX5_dearer_40 : decode cX5_dearer 40 = .ok (.getfield 58, 3) := by decide +kernel
theorem dX5_dearer_43 : decode cX5_dearer 43 = .ok (.iload_n 2, 1) := by decide +kernel
theorem dX5_dearer_44 : decode cX5_dearer 44 = .ok (.aaload, 1) := by decide +kernel
theorem dX5_dearer_45 : decode cX5_dearer 45 = .ok (.astore 4, 2) := by decide +kernel
theorem dX5_dearer_47 : decode cX5_dearer 47 = .ok (.aload_n 0, 1) := by decide +kernel
theorem dX5_dearer_48 : decode cX5_dearer 48 = .ok (.getfield 10, 3) := by decide +kernel
theorem dX5_dearer_51 : decode cX5_dearer 51 = .ok (.getfield 24, 3) := by decide +kernel
theorem dX5_dearer_54 : decode cX5_dearer 54 = .ok (.aload_n 3, 1) := by decide +kernel
theorem dX5_dearer_55 : decode cX5_dearer 55 = .ok (.getfield 62, 3) := by decide +kernel
theorem dX5_dearer_58 : decode cX5_dearer 58 = .ok (.invokevirtual 52, 3) := by decide +kernel
theorem dX5_dearer_61 : decode cX5_dearer 61 = .ok (.lstore 5, 2) := by decide +kernel
theorem dX5_dearer_63 : decode cX5_dearer 63 = .ok (.aload_n 0, 1) := by decide +kernel
theorem dX5_dearer_64 : decode cX5_dearer 64 = .ok (.getfield 10, 3) := by decide +kernel
theorem dX5_dearer_67 : decode cX5_dearer 67 = .ok (.getfield 24, 3) := by decide +kernel
theorem dX5_dearer_70 : decode cX5_dearer 70 = .ok (.aload 4, 2) := by decide +kernel
theorem dX5_dearer_72 : decode cX5_dearer 72 = .ok (.getfield 62, 3) := by decide +kernel
theorem dX5_dearer_75 : decode cX5_dearer 75 = .ok (.invokevirtual 52, 3) := by decide +kernel
theorem dX5_dearer_78 : decode cX5_dearer 78 = .ok (.lstore 7, 2) := by decide +kernel
theorem dX5_dearer_80 : decode cX5_dearer 80 = .ok (.lload 5, 2) := by decide +kernel
theorem dX5_dearer_82 : decode cX5_dearer 82 = .ok (.lconst 0, 1) := by decide +kernel
theorem dX5_dearer_83 : decode cX5_dearer 83 = .ok (.lcmp, 1) := by decide +kernel
theorem dX5_dearer_84 : decode cX5_dearer 84 = .ok (.ifCond .eq 10, 3) := by decide +kernel
theorem dX5_dearer_87 : decode cX5_dearer 87 = .ok (.lload 7, 2) := by decide +kernel
theorem dX5_dearer_89 : decode cX5_dearer 89 = .ok (.lconst 0, 1) := by decide +kernel
theorem dX5_dearer_90 : decode cX5_dearer 90 = .ok (.lcmp, 1) := by decide +kernel
theorem dX5_dearer_91 : decode cX5_dearer 91 = .ok (.ifCond .ne 11, 3) := by decide +kernel
theorem dX5_dearer_94 : decode cX5_dearer 94 = .ok (.lload 7, 2) := by decide +kernel
theorem dX5_dearer_96 : decode cX5_dearer 96 = .ok (.lload 5, 2) := by decide +kernel
theorem dX5_dearer_98 : decode cX5_dearer 98 = .ok (.invokestatic 68, 3) := by decide +kernel
theorem dX5_dearer_101 : decode cX5_dearer 101 = .ok (.lreturn, 1) := by decide +kernel
theorem dX5_dearer_102 : decode cX5_dearer 102 = .ok (.aload_n 3, 1) := by decide +kernel
theorem dX5_dearer_103 : decode cX5_dearer 103 = .ok (.getfield 72, 3) := by decide +kernel
theorem dX5_dearer_106 : decode cX5_dearer 106 = .ok (.i2l, 1) := by decide +kernel
theorem dX5_dearer_107 : decode cX5_dearer 107 = .ok (.aload_n 0, 1) := by decide +kernel
theorem dX5_dearer_108 : decode cX5_dearer 108 = .ok (.getfield 10, 3) := by decide +kernel
theorem dX5_dearer_111 : decode cX5_dearer 111 = .ok (.getfield 24, 3) := by decide +kernel
theorem dX5_dearer_114 : decode cX5_dearer 114 = .ok (.aload_n 3, 1) := by decide +kernel
theorem dX5_dearer_115 : decode cX5_dearer 115 = .ok (.getfield 62, 3) := by decide +kernel
theorem dX5_dearer_118 : decode cX5_dearer 118 = .ok (.invokevirtual 42, 3) := by decide +kernel
theorem dX5_dearer_121 : decode cX5_dearer 121 = .ok (.lmul, 1) := by decide +kernel
theorem dX5_dearer_122 : decode cX5_dearer 122 = .ok (.lload 7, 2) := by decide +kernel
theorem dX5_dearer_124 : decode cX5_dearer 124 = .ok (.lmul, 1) := by decide +kernel
theorem dX5_dearer_125 : decode cX5_dearer 125 = .ok (.aload 4, 2) := by decide +kernel
theorem dX5_dearer_127 : decode cX5_dearer 127 = .ok (.getfield 72, 3) := by decide +kernel
theorem dX5_dearer_130 : decode cX5_dearer 130 = .ok (.i2l, 1) := by decide +kernel
theorem dX5_dearer_131 : decode cX5_dearer 131 = .ok (.aload_n 0, 1) := by decide +kernel
theorem dX5_dearer_132 : decode cX5_dearer 132 = .ok (.getfield 10, 3) := by decide +kernel
theorem dX5_dearer_135 : decode cX5_dearer 135 = .ok (.getfield 24, 3) := by decide +kernel
theorem dX5_dearer_138 : decode cX5_dearer 138 = .ok (.aload 4, 2) := by decide +kernel
theorem dX5_dearer_140 : decode cX5_dearer 140 = .ok (.getfield 62, 3) := by decide +kernel
theorem dX5_dearer_143 : decode cX5_dearer 143 = .ok (.invokevirtual 42, 3) := by decide +kernel
theorem dX5_dearer_146 : decode cX5_dearer 146 = .ok (.lmul, 1) := by decide +kernel
theorem dX5_dearer_147 : decode cX5_dearer 147 = .ok (.lload 5, 2) := by decide +kernel
theorem dX5_dearer_149 : decode cX5_dearer 149 = .ok (.lmul, 1) := by decide +kernel
theorem dX5_dearer_150 : decode cX5_dearer 150 = .ok (.invokestatic 68, 3) := by decide +kernel
theorem dX5_dearer_153 : decode cX5_dearer 153 = .ok (.lreturn, 1) := by decide +kernel
theorem dX5_member_0 : decode cX5_member 0 = .ok (.iload_n 1, 1) := by decide +kernel
theorem dX5_member_1 : decode cX5_member 1 = .ok (.aload_n 0, 1) := by decide +kernel
theorem dX5_member_2 : decode cX5_member 2 = .ok (.getfield 10, 3) := by decide +kernel
theorem dX5_member_5 : decode cX5_member 5 = .ok (.getfield 75, 3) := by decide +kernel
theorem dX5_member_8 : decode cX5_member 8 = .ok (.if_icmp .gt 29, 3) := by decide +kernel
theorem dX5_member_11 : decode cX5_member 11 = .ok (.iload_n 1, 1) := by decide +kernel
theorem dX5_member_12 : decode cX5_member 12 = .ok (.aload_n 0, 1) := by decide +kernel
theorem dX5_member_13 : decode cX5_member 13 = .ok (.getfield 10, 3) := by decide +kernel
theorem dX5_member_16 : decode cX5_member 16 = .ok (.getfield 75, 3) := by decide +kernel
theorem dX5_member_19 : decode cX5_member 19 = .ok (.bipush 110, 2) := by decide +kernel
theorem dX5_member_21 : decode cX5_member 21 = .ok (.isub, 1) := by decide +kernel
theorem dX5_member_22 : decode cX5_member 22 = .ok (.if_icmp .lt 15, 3) := by decide +kernel
theorem dX5_member_25 : decode cX5_member 25 = .ok (.aload_n 0, 1) := by decide +kernel
theorem dX5_member_26 : decode cX5_member 26 = .ok (.getfield 10, 3) := by decide +kernel
theorem dX5_member_29 : decode cX5_member 29 = .ok (.getfield 78, 3) := by decide +kernel
theorem dX5_member_32 : decode cX5_member 32 = .ok (.bipush 24, 2) := by decide +kernel
theorem dX5_member_34 : decode cX5_member 34 = .ok (.if_icmp .lt 7, 3) := by decide +kernel
theorem dX5_member_37 : decode cX5_member 37 = .ok (.ldc2_w 34, 3) := by decide +kernel
theorem dX5_member_40 : decode cX5_member 40 = .ok (.lreturn, 1) := by decide +kernel
theorem dX5_member_41 : decode cX5_member 41 = .ok (.aload_n 0, 1) := by decide +kernel
theorem dX5_member_42 : decode cX5_member 42 = .ok (.getfield 10, 3) := by decide +kernel
theorem dX5_member_45 : decode cX5_member 45 = .ok (.iload_n 1, 1) := by decide +kernel
theorem dX5_member_46 : decode cX5_member 46 = .ok (.invokevirtual 81, 3) := by decide +kernel
theorem dX5_member_49 : decode cX5_member 49 = .ok (.i2l, 1) := by decide +kernel
theorem dX5_member_50 : decode cX5_member 50 = .ok (.lreturn, 1) := by decide +kernel
theorem dX5_heir_0 : decode cX5_heir 0 = .ok (.aload_n 0, 1) := by decide +kernel
theorem dX5_heir_1 : decode cX5_heir 1 = .ok (.getfield 10, 3) := by decide +kernel
theorem dX5_heir_4 : decode cX5_heir 4 = .ok (.iload_n 1, 1) := by decide +kernel
theorem dX5_heir_5 : decode cX5_heir 5 = .ok (.invokevirtual 85, 3) := by decide +kernel
theorem dX5_heir_8 : decode cX5_heir 8 = .ok (.ifCond .eq 24, 3) := by decide +kernel
theorem dX5_heir_11 : decode cX5_heir 11 = .ok (.iload_n 2, 1) := by decide +kernel
theorem dX5_heir_12 : decode cX5_heir 12 = .ok (.iload_n 1, 1) := by decide +kernel
theorem dX5_heir_13 : decode cX5_heir 13 = .ok (.if_icmp .eq 19, 3) := by decide +kernel
theorem dX5_heir_16 : decode cX5_heir 16 = .ok (.iload_n 2, 1) := by decide +kernel
theorem dX5_heir_17 : decode cX5_heir 17 = .ok (.iconst (-1), 1) := by decide +kernel
theorem dX5_heir_18 : decode cX5_heir 18 = .ok (.if_icmp .eq 18, 3) := by decide +kernel
theorem dX5_heir_21 : decode cX5_heir 21 = .ok (.aload_n 0, 1) := by decide +kernel
theorem dX5_heir_22 : decode cX5_heir 22 = .ok (.getfield 10, 3) := by decide +kernel
theorem dX5_heir_25 : decode cX5_heir 25 = .ok (.iload_n 2, 1) := by decide +kernel
theorem dX5_heir_26 : decode cX5_heir 26 = .ok (.invokevirtual 85, 3) := by decide +kernel
theorem dX5_heir_29 : decode cX5_heir 29 = .ok (.ifCond .ne 7, 3) := by decide +kernel
theorem dX5_heir_32 : decode cX5_heir 32 = .ok (.ldc2_w 34, 3) := by decide +kernel
theorem dX5_heir_35 : decode cX5_heir 35 = .ok (.lreturn, 1) := by decide +kernel
theorem dX5_heir_36 : decode cX5_heir 36 = .ok (.aload_n 0, 1) := by decide +kernel
theorem dX5_heir_37 : decode cX5_heir 37 = .ok (.getfield 10, 3) := by decide +kernel
theorem dX5_heir_40 : decode cX5_heir 40 = .ok (.getfield 88, 3) := by decide +kernel
theorem dX5_heir_43 : decode cX5_heir 43 = .ok (.iload_n 1, 1) := by decide +kernel
theorem dX5_heir_44 : decode cX5_heir 44 = .ok (.aaload, 1) := by decide +kernel
theorem dX5_heir_45 : decode cX5_heir 45 = .ok (.getfield 92, 3) := by decide +kernel
theorem dX5_heir_48 : decode cX5_heir 48 = .ok (.istore_n 3, 1) := by decide +kernel
theorem dX5_heir_49 : decode cX5_heir 49 = .ok (.aload_n 0, 1) := by decide +kernel
theorem dX5_heir_50 : decode cX5_heir 50 = .ok (.getfield 10, 3) := by decide +kernel
theorem dX5_heir_53 : decode cX5_heir 53 = .ok (.getfield 88, 3) := by decide +kernel
theorem dX5_heir_56 : decode cX5_heir 56 = .ok (.iload_n 1, 1) := by decide +kernel
theorem dX5_heir_57 : decode cX5_heir 57 = .ok (.aaload, 1) := by decide +kernel
theorem dX5_heir_58 : decode cX5_heir 58 = .ok (.iload_n 2, 1) := by decide +kernel
theorem dX5_heir_59 : decode cX5_heir 59 = .ok (.putfield 92, 3) := by decide +kernel
theorem dX5_heir_62 : decode cX5_heir 62 = .ok (.iload_n 3, 1) := by decide +kernel
theorem dX5_heir_63 : decode cX5_heir 63 = .ok (.i2l, 1) := by decide +kernel
theorem dX5_heir_64 : decode cX5_heir 64 = .ok (.lreturn, 1) := by decide +kernel
theorem dX5_group_0 : decode cX5_group 0 = .ok (.iload_n 1, 1) := by decide +kernel
theorem dX5_group_1 : decode cX5_group 1 = .ok (.invokestatic 19, 3) := by decide +kernel
theorem dX5_group_4 : decode cX5_group 4 = .ok (.ifCond .eq 15, 3) := by decide +kernel
theorem dX5_group_7 : decode cX5_group 7 = .ok (.iload_n 2, 1) := by decide +kernel
theorem dX5_group_8 : decode cX5_group 8 = .ok (.invokestatic 19, 3) := by decide +kernel
theorem dX5_group_11 : decode cX5_group 11 = .ok (.ifCond .eq 8, 3) := by decide +kernel
theorem dX5_group_14 : decode cX5_group 14 = .ok (.iload_n 1, 1) := by decide +kernel
theorem dX5_group_15 : decode cX5_group 15 = .ok (.iload_n 2, 1) := by decide +kernel
theorem dX5_group_16 : decode cX5_group 16 = .ok (.if_icmp .le 7, 3) := by decide +kernel
theorem dX5_group_19 : decode cX5_group 19 = .ok (.ldc2_w 34, 3) := by decide +kernel
theorem dX5_group_22 : decode cX5_group 22 = .ok (.lreturn, 1) := by decide +kernel
theorem dX5_group_23 : decode cX5_group 23 = .ok (.iload_n 3, 1) := by decide +kernel
theorem dX5_group_24 : decode cX5_group 24 = .ok (.iconst 1, 1) := by decide +kernel
theorem dX5_group_25 : decode cX5_group 25 = .ok (.sipush 10000, 3) := by decide +kernel
theorem dX5_group_28 : decode cX5_group 28 = .ok (.invokestatic 97, 3) := by decide +kernel
theorem dX5_group_31 : decode cX5_group 31 = .ok (.ifCond .eq 15, 3) := by decide +kernel
theorem dX5_group_34 : decode cX5_group 34 = .ok (.aload_n 0, 1) := by decide +kernel
theorem dX5_group_35 : decode cX5_group 35 = .ok (.getfield 10, 3) := by decide +kernel
theorem dX5_group_38 : decode cX5_group 38 = .ok (.getfield 101, 3) := by decide +kernel
theorem dX5_group_41 : decode cX5_group 41 = .ok (.bipush 6, 2) := by decide +kernel
theorem dX5_group_43 : decode cX5_group 43 = .ok (.if_icmp .lt 7, 3) := by decide +kernel
theorem dX5_group_46 : decode cX5_group 46 = .ok (.ldc2_w 34, 3) := by decide +kernel
theorem dX5_group_49 : decode cX5_group 49 = .ok (.lreturn, 1) := by decide +kernel
theorem dX5_group_50 : decode cX5_group 50 = .ok (.aload_n 0, 1) := by decide +kernel
theorem dX5_group_51 : decode cX5_group 51 = .ok (.getfield 10, 3) := by decide +kernel
theorem dX5_group_54 : decode cX5_group 54 = .ok (.iload_n 1, 1) := by decide +kernel
theorem dX5_group_55 : decode cX5_group 55 = .ok (.iload_n 2, 1) := by decide +kernel
theorem dX5_group_56 : decode cX5_group 56 = .ok (.iload_n 3, 1) := by decide +kernel
theorem dX5_group_57 : decode cX5_group 57 = .ok (.invokevirtual 104, 3) := by decide +kernel
theorem dX5_group_60 : decode cX5_group 60 = .ok (.i2l, 1) := by decide +kernel
theorem dX5_group_61 : decode cX5_group 61 = .ok (.lreturn, 1) := by decide +kernel
theorem dX5_set_0 : decode cX5_set 0 = .ok (.iload_n 1, 1) := by decide +kernel
theorem dX5_set_1 : decode cX5_set 1 = .ok (.ifCond .ne 31, 3) := by decide +kernel
theorem dX5_set_4 : decode cX5_set 4 = .ok (.iload_n 2, 1) := by decide +kernel
theorem dX5_set_5 : decode cX5_set 5 = .ok (.iconst 1, 1) := by decide +kernel
theorem dX5_set_6 : decode cX5_set 6 = .ok (.iconst 5, 1) := by decide +kernel
theorem dX5_set_7 : decode cX5_set 7 = .ok (.invokestatic 97, 3) := by decide +kernel
theorem dX5_set_10 : decode cX5_set 10 = .ok (.ifCond .eq 22, 3) := by decide +kernel
theorem dX5_set_13 : decode cX5_set 13 = .ok (.aload_n 0, 1) := by decide +kernel
theorem dX5_set_14 : decode cX5_set 14 = .ok (.getfield 10, 3) := by decide +kernel
theorem dX5_set_17 : decode cX5_set 17 = .ok (.getfield 108, 3) := by decide +kernel
theorem dX5_set_20 : decode cX5_set 20 = .ok (.istore_n 3, 1) := by decide +kernel
theorem dX5_set_21 : decode cX5_set 21 = .ok (.aload_n 0, 1) := by decide +kernel
theorem dX5_set_22 : decode cX5_set 22 = .ok (.getfield 10, 3) := by decide +kernel
theorem dX5_set_25 : decode cX5_set 25 = .ok (.iload_n 2, 1) := by decide +kernel
theorem dX5_set_26 : decode cX5_set 26 = .ok (.putfield 108, 3) := by decide +kernel
theorem dX5_set_29 : decode cX5_set 29 = .ok (.iload_n 3, 1) := by decide +kernel
theorem dX5_set_30 : decode cX5_set 30 = .ok (.i2l, 1) := by decide +kernel
theorem dX5_set_31 : decode cX5_set 31 = .ok (.lreturn, 1) := by decide +kernel
theorem dX5_set_32 : decode cX5_set 32 = .ok (.iload_n 1, 1) := by decide +kernel
theorem dX5_set_33 : decode cX5_set 33 = .ok (.iconst 1, 1) := by decide +kernel
theorem dX5_set_34 : decode cX5_set 34 = .ok (.if_icmp .ne 33, 3) := by decide +kernel
theorem dX5_set_37 : decode cX5_set 37 = .ok (.iload_n 2, 1) := by decide +kernel
theorem dX5_set_38 : decode cX5_set 38 = .ok (.iconst 0, 1) := by decide +kernel
theorem dX5_set_39 : decode cX5_set 39 = .ok (.sipush 1000, 3) := by decide +kernel
theorem dX5_set_42 : decode cX5_set 42 = .ok (.invokestatic 97, 3) := by decide +kernel
theorem dX5_set_45 : decode cX5_set 45 = .ok (.ifCond .eq 22, 3) := by decide +kernel
theorem dX5_set_48 : decode cX5_set 48 = .ok (.aload_n 0, 1) := by decide +kernel
theorem dX5_set_49 : decode cX5_set 49 = .ok (.getfield 10, 3) := by decide +kernel
theorem dX5_set_52 : decode cX5_set 52 = .ok (.getfield 111, 3) := by decide +kernel
theorem dX5_set_55 : decode cX5_set 55 = .ok (.istore_n 3, 1) := by decide +kernel
theorem dX5_set_56 : decode cX5_set 56 = .ok (.aload_n 0, 1) := by decide +kernel
theorem dX5_set_57 : decode cX5_set 57 = .ok (.getfield 10, 3) := by decide +kernel
theorem dX5_set_60 : decode cX5_set 60 = .ok (.iload_n 2, 1) := by decide +kernel
theorem dX5_set_61 : decode cX5_set 61 = .ok (.putfield 111, 3) := by decide +kernel
theorem dX5_set_64 : decode cX5_set 64 = .ok (.iload_n 3, 1) := by decide +kernel
theorem dX5_set_65 : decode cX5_set 65 = .ok (.i2l, 1) := by decide +kernel
theorem dX5_set_66 : decode cX5_set 66 = .ok (.lreturn, 1) := by decide +kernel
theorem dX5_set_67 : decode cX5_set 67 = .ok (.ldc2_w 34, 3) := by decide +kernel
theorem dX5_set_70 : decode cX5_set 70 = .ok (.lreturn, 1) := by decide +kernel
theorem dX5_buy_0 : decode cX5_buy 0 = .ok (.iload 5, 2) := by decide +kernel
theorem dX5_buy_2 : decode cX5_buy 2 = .ok (.iconst 0, 1) := by decide +kernel
theorem dX5_buy_3 : decode cX5_buy 3 = .ok (.iconst 3, 1) := by decide +kernel
theorem dX5_buy_4 : decode cX5_buy 4 = .ok (.invokestatic 97, 3) := by decide +kernel
theorem dX5_buy_7 : decode cX5_buy 7 = .ok (.ifCond .eq 15, 3) := by decide +kernel
theorem dX5_buy_10 : decode cX5_buy 10 = .ok (.iload 4, 2) := by decide +kernel
theorem dX5_buy_12 : decode cX5_buy 12 = .ok (.iconst 1, 1) := by decide +kernel
theorem dX5_buy_13 : decode cX5_buy 13 = .ok (.sipush 1000, 3) := by decide +kernel
theorem dX5_buy_16 : decode cX5_buy 16 = .ok (.invokestatic 97, 3) := by decide +kernel
theorem dX5_buy_19 : decode cX5_buy 19 = .ok (.ifCond .ne 7, 3) := by decide +kernel
theorem dX5_buy_22 : decode cX5_buy 22 = .ok (.ldc2_w 34, 3) := by decide +kernel
theorem dX5_buy_25 : decode cX5_buy 25 = .ok (.lreturn, 1) := by decide +kernel
theorem dX5_buy_26 : decode cX5_buy 26 = .ok (.iload 5, 2) := by decide +kernel
theorem dX5_buy_28 : decode cX5_buy 28 = .ok (.iconst 2, 1) := by decide +kernel
theorem dX5_buy_29 : decode cX5_buy 29 = .ok (.if_icmp .eq 9, 3) := by decide +kernel
theorem dX5_buy_32 : decode cX5_buy 32 = .ok (.iload 5, 2) := by decide +kernel
theorem dX5_buy_34 : decode cX5_buy 34 = .ok (.iconst 3, 1) := by decide +kernel
theorem dX5_buy_35 : decode cX5_buy 35 = .ok (.if_icmp .ne 18, 3) := by decide +kernel
theorem dX5_buy_38 : decode cX5_buy 38 = .ok (.iload 6, 2) := by decide +kernel
theorem dX5_buy_40 : decode cX5_buy 40 = .ok (.iconst 1, 1) := by decide +kernel
theorem dX5_buy_41 : decode cX5_buy 41 = .ok (.bipush 30, 2) := by decide +kernel
theorem dX5_buy_43 : decode cX5_buy 43 = .ok (.invokestatic 97, 3) := by decide +kernel
theorem dX5_buy_46 : decode cX5_buy 46 = .ok (.ifCond .ne 7, 3) := by decide +kernel
theorem dX5_buy_49 : decode cX5_buy 49 = .ok (.ldc2_w 34, 3) := by decide +kernel
theorem dX5_buy_52 : decode cX5_buy 52 = .ok (.lreturn, 1) := by decide +kernel
theorem dX5_buy_53 : decode cX5_buy 53 = .ok (.iload 5, 2) := by decide +kernel
theorem dX5_buy_55 : decode cX5_buy 55 = .ok (.iconst 1, 1) := by decide +kernel
theorem dX5_buy_56 : decode cX5_buy 56 = .ok (.if_icmp .ne 7, 3) := by decide +kernel
theorem dX5_buy_59 : decode cX5_buy 59 = .ok (.iload_n 3, 1) := by decide +kernel
theorem dX5_buy_60 : decode cX5_buy 60 = .ok (.goto 4, 3) := by decide +kernel
theorem dX5_buy_63 : decode cX5_buy 63 = .ok (.iconst (-1), 1) := by decide +kernel
theorem dX5_buy_64 : decode cX5_buy 64 = .ok (.istore 7, 2) := by decide +kernel
theorem dX5_buy_66 : decode cX5_buy 66 = .ok (.aload_n 0, 1) := by decide +kernel
theorem dX5_buy_67 : decode cX5_buy 67 = .ok (.getfield 10, 3) := by decide +kernel
theorem dX5_buy_70 : decode cX5_buy 70 = .ok (.iload_n 1, 1) := by decide +kernel
theorem dX5_buy_71 : decode cX5_buy 71 = .ok (.invokevirtual 85, 3) := by decide +kernel
theorem dX5_buy_74 : decode cX5_buy 74 = .ok (.ifCond .eq 27, 3) := by decide +kernel
theorem dX5_buy_77 : decode cX5_buy 77 = .ok (.aload_n 0, 1) := by decide +kernel
theorem dX5_buy_78 : decode cX5_buy 78 = .ok (.getfield 10, 3) := by decide +kernel
theorem dX5_buy_81 : decode cX5_buy 81 = .ok (.iload_n 2, 1) := by decide +kernel
theorem dX5_buy_82 : decode cX5_buy 82 = .ok (.iload 7, 2) := by decide +kernel
theorem dX5_buy_84 : decode cX5_buy 84 = .ok (.iload 5, 2) := by decide +kernel
theorem dX5_buy_86 : decode cX5_buy 86 = .ok (.iconst 1, 1) := by decide +kernel
theorem dX5_buy_87 : decode cX5_buy 87 = .ok (.if_icmp .ne 7, 3) := by decide +kernel
theorem dX5_buy_90 : decode cX5_buy 90 = .ok (.iconst 1, 1) := by decide +kernel
theorem dX5_buy_91 : decode cX5_buy 91 = .ok (.goto 4, 3) := by decide +kernel
theorem dX5_buy_94 : decode cX5_buy 94 = .ok (.iconst 0, 1) := by decide +kernel
theorem dX5_buy_95 : decode cX5_buy 95 = .ok (.invokevirtual 114, 3) := by decide +kernel
theorem dX5_buy_98 : decode cX5_buy 98 = .ok (.ifCond .ne 7, 3) := by decide +kernel
theorem dX5_buy_101 : decode cX5_buy 101 = .ok (.ldc2_w 34, 3) := by decide +kernel
theorem dX5_buy_104 : decode cX5_buy 104 = .ok (.lreturn, 1) := by decide +kernel
theorem dX5_buy_105 : decode cX5_buy 105 = .ok (.aload_n 0, 1) := by decide +kernel
theorem dX5_buy_106 : decode cX5_buy 106 = .ok (.getfield 10, 3) := by decide +kernel
theorem dX5_buy_109 : decode cX5_buy 109 = .ok (.iload_n 2, 1) := by decide +kernel
theorem dX5_buy_110 : decode cX5_buy 110 = .ok (.iload 7, 2) := by decide +kernel
theorem dX5_buy_112 : decode cX5_buy 112 = .ok (.invokevirtual 118, 3) := by decide +kernel
theorem dX5_buy_115 : decode cX5_buy 115 = .ok (.istore 8, 2) := by decide +kernel
theorem dX5_buy_117 : decode cX5_buy 117 = .ok (.iload 8, 2) := by decide +kernel
theorem dX5_buy_119 : decode cX5_buy 119 = .ok (.iconst (-1), 1) := by decide +kernel
theorem dX5_buy_120 : decode cX5_buy 120 = .ok (.if_icmp .eq 15, 3) := by decide +kernel
theorem dX5_buy_123 : decode cX5_buy 123 = .ok (.aload_n 0, 1) := by decide +kernel
theorem dX5_buy_124 : decode cX5_buy 124 = .ok (.getfield 10, 3) := by decide +kernel
theorem dX5_buy_127 : decode cX5_buy 127 = .ok (.getfield 122, 3) := by decide +kernel
theorem dX5_buy_130 : decode cX5_buy 130 = .ok (.bipush 40, 2) := by decide +kernel

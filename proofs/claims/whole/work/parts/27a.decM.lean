theorem d_M_init_0 : decode b_M_init 0 = .ok (.aload_n 0, 1) := by decide +kernel
theorem d_M_init_1 : decode b_M_init 1 = .ok (.invokespecial 1, 3) := by decide +kernel
theorem d_M_init_4 : decode b_M_init 4 = .ok (.aload_n 0, 1) := by decide +kernel
theorem d_M_init_5 : decode b_M_init 5 = .ok (.bipush 64, 2) := by decide +kernel
theorem d_M_init_7 : decode b_M_init 7 = .ok (.newarray .int, 2) := by decide +kernel
theorem d_M_init_9 : decode b_M_init 9 = .ok (.putfield 7, 3) := by decide +kernel
theorem d_M_init_12 : decode b_M_init 12 = .ok (.aload_n 0, 1) := by decide +kernel
theorem d_M_init_13 : decode b_M_init 13 = .ok (.bipush 68, 2) := by decide +kernel
theorem d_M_init_15 : decode b_M_init 15 = .ok (.newarray .int, 2) := by decide +kernel
theorem d_M_init_17 : decode b_M_init 17 = .ok (.putfield 13, 3) := by decide +kernel
theorem d_M_init_20 : decode b_M_init 20 = .ok (.aload_n 0, 1) := by decide +kernel
theorem d_M_init_21 : decode b_M_init 21 = .ok (.bipush 68, 2) := by decide +kernel
theorem d_M_init_23 : decode b_M_init 23 = .ok (.newarray .int, 2) := by decide +kernel
theorem d_M_init_25 : decode b_M_init 25 = .ok (.putfield 16, 3) := by decide +kernel
theorem d_M_init_28 : decode b_M_init 28 = .ok (.aload_n 0, 1) := by decide +kernel
theorem d_M_init_29 : decode b_M_init 29 = .ok (.bipush 68, 2) := by decide +kernel
theorem d_M_init_31 : decode b_M_init 31 = .ok (.newarray .int, 2) := by decide +kernel
theorem d_M_init_33 : decode b_M_init 33 = .ok (.putfield 19, 3) := by decide +kernel
theorem d_M_init_36 : decode b_M_init 36 = .ok (.aload_n 0, 1) := by decide +kernel
theorem d_M_init_37 : decode b_M_init 37 = .ok (.bipush 68, 2) := by decide +kernel
theorem d_M_init_39 : decode b_M_init 39 = .ok (.newarray .int, 2) := by decide +kernel
theorem d_M_init_41 : decode b_M_init 41 = .ok (.putfield 22, 3) := by decide +kernel
theorem d_M_init_44 : decode b_M_init 44 = .ok (.aload_n 0, 1) := by decide +kernel
theorem d_M_init_45 : decode b_M_init 45 = .ok (.bipush 12, 2) := by decide +kernel
theorem d_M_init_47 : decode b_M_init 47 = .ok (.newarray .int, 2) := by decide +kernel
theorem d_M_init_49 : decode b_M_init 49 = .ok (.putfield 25, 3) := by decide +kernel
theorem d_M_init_52 : decode b_M_init 52 = .ok (.aload_n 0, 1) := by decide +kernel
theorem d_M_init_53 : decode b_M_init 53 = .ok (.bipush 12, 2) := by decide +kernel
theorem d_M_init_55 : decode b_M_init 55 = .ok (.newarray .int, 2) := by decide +kernel
theorem d_M_init_57 : decode b_M_init 57 = .ok (.putfield 28, 3) := by decide +kernel
theorem d_M_init_60 : decode b_M_init 60 = .ok (.aload_n 0, 1) := by decide +kernel
theorem d_M_init_61 : decode b_M_init 61 = .ok (.bipush 16, 2) := by decide +kernel
theorem d_M_init_63 : decode b_M_init 63 = .ok (.newarray .int, 2) := by decide +kernel
theorem d_M_init_65 : decode b_M_init 65 = .ok (.putfield 31, 3) := by decide +kernel
theorem d_M_init_68 : decode b_M_init 68 = .ok (.aload_n 0, 1) := by decide +kernel
theorem d_M_init_69 : decode b_M_init 69 = .ok (.iconst 4, 1) := by decide +kernel
theorem d_M_init_70 : decode b_M_init 70 = .ok (.newarray .int, 2) := by decide +kernel
theorem d_M_init_72 : decode b_M_init 72 = .ok (.putfield 34, 3) := by decide +kernel
theorem d_M_init_75 : decode b_M_init 75 = .ok (.aload_n 0, 1) := by decide +kernel
theorem d_M_init_76 : decode b_M_init 76 = .ok (.iconst 4, 1) := by decide +kernel
theorem d_M_init_77 : decode b_M_init 77 = .ok (.newarray .int, 2) := by decide +kernel
theorem d_M_init_79 : decode b_M_init 79 = .ok (.putfield 37, 3) := by decide +kernel
theorem d_M_init_82 : decode b_M_init 82 = .ok (.aload_n 0, 1) := by decide +kernel
theorem d_M_init_83 : decode b_M_init 83 = .ok (.iconst 4, 1) := by decide +kernel
theorem d_M_init_84 : decode b_M_init 84 = .ok (.newarray .int, 2) := by decide +kernel
theorem d_M_init_86 : decode b_M_init 86 = .ok (.putfield 40, 3) := by decide +kernel
theorem d_M_init_89 : decode b_M_init 89 = .ok (.aload_n 0, 1) := by decide +kernel
theorem d_M_init_90 : decode b_M_init 90 = .ok (.bipush 8, 2) := by decide +kernel
theorem d_M_init_92 : decode b_M_init 92 = .ok (.newarray .int, 2) := by decide +kernel
theorem d_M_init_94 : decode b_M_init 94 = .ok (.putfield 43, 3) := by decide +kernel
theorem d_M_init_97 : decode b_M_init 97 = .ok (.aload_n 0, 1) := by decide +kernel
theorem d_M_init_98 : decode b_M_init 98 = .ok (.bipush 8, 2) := by decide +kernel
theorem d_M_init_100 : decode b_M_init 100 = .ok (.newarray .int, 2) := by decide +kernel
theorem d_M_init_102 : decode b_M_init 102 = .ok (.putfield 46, 3) := by decide +kernel
theorem d_M_init_105 : decode b_M_init 105 = .ok (.aload_n 0, 1) := by decide +kernel
theorem d_M_init_106 : decode b_M_init 106 = .ok (.bipush 8, 2) := by decide +kernel
theorem d_M_init_108 : decode b_M_init 108 = .ok (.newarray .int, 2) := by decide +kernel
theorem d_M_init_110 : decode b_M_init 110 = .ok (.putfield 49, 3) := by decide +kernel
theorem d_M_init_113 : decode b_M_init 113 = .ok (.aload_n 0, 1) := by decide +kernel
theorem d_M_init_114 : decode b_M_init 114 = .ok (.bipush 8, 2) := by decide +kernel
theorem d_M_init_116 : decode b_M_init 116 = .ok (.newarray .int, 2) := by decide +kernel
theorem d_M_init_118 : decode b_M_init 118 = .ok (.putfield 52, 3) := by decide +kernel
theorem d_M_init_121 : decode b_M_init 121 = .ok (.aload_n 0, 1) := by decide +kernel
theorem d_M_init_122 : decode b_M_init 122 = .ok (.bipush 8, 2) := by decide +kernel
theorem d_M_init_124 : decode b_M_init 124 = .ok (.newarray .long, 2) := by decide +kernel
theorem d_M_init_126 : decode b_M_init 126 = .ok (.putfield 55, 3) := by decide +kernel
theorem d_M_init_129 : decode b_M_init 129 = .ok (.aload_n 0, 1) := by decide +kernel
theorem d_M_init_130 : decode b_M_init 130 = .ok (.bipush 8, 2) := by decide +kernel
theorem d_M_init_132 : decode b_M_init 132 = .ok (.newarray .long, 2) := by decide +kernel
theorem d_M_init_134 : decode b_M_init 134 = .ok (.putfield 59, 3) := by decide +kernel
theorem d_M_init_137 : decode b_M_init 137 = .ok (.aload_n 0, 1) := by decide +kernel
theorem d_M_init_138 : decode b_M_init 138 = .ok (.iconst 4, 1) := by decide +kernel
theorem d_M_init_139 : decode b_M_init 139 = .ok (.newarray .int, 2) := by decide +kernel
theorem d_M_init_141 : decode b_M_init 141 = .ok (.putfield 62, 3) := by decide +kernel
theorem d_M_init_144 : decode b_M_init 144 = .ok (.aload_n 0, 1) := by decide +kernel
theorem d_M_init_145 : decode b_M_init 145 = .ok (.iconst 4, 1) := by decide +kernel
theorem d_M_init_146 : decode b_M_init 146 = .ok (.newarray .int, 2) := by decide +kernel
theorem d_M_init_148 : decode b_M_init 148 = .ok (.putfield 65, 3) := by decide +kernel
theorem d_M_init_151 : decode b_M_init 151 = .ok (.aload_n 0, 1) := by decide +kernel
theorem d_M_init_152 : decode b_M_init 152 = .ok (.iconst 4, 1) := by decide +kernel
theorem d_M_init_153 : decode b_M_init 153 = .ok (.newarray .int, 2) := by decide +kernel
theorem d_M_init_155 : decode b_M_init 155 = .ok (.putfield 68, 3) := by decide +kernel
theorem d_M_init_158 : decode b_M_init 158 = .ok (.aload_n 0, 1) := by decide +kernel
theorem d_M_init_159 : decode b_M_init 159 = .ok (.iconst 4, 1) := by decide +kernel
theorem d_M_init_160 : decode b_M_init 160 = .ok (.newarray .int, 2) := by decide +kernel
theorem d_M_init_162 : decode b_M_init 162 = .ok (.putfield 71, 3) := by decide +kernel
theorem d_M_init_165 : decode b_M_init 165 = .ok (.aload_n 0, 1) := by decide +kernel
theorem d_M_init_166 : decode b_M_init 166 = .ok (.bipush 80, 2) := by decide +kernel
theorem d_M_init_168 : decode b_M_init 168 = .ok (.newarray .int, 2) := by decide +kernel
theorem d_M_init_170 : decode b_M_init 170 = .ok (.putfield 74, 3) := by decide +kernel
theorem d_M_init_173 : decode b_M_init 173 = .ok (.aload_n 0, 1) := by decide +kernel
theorem d_M_init_174 : decode b_M_init 174 = .ok (.iload_n 1, 1) := by decide +kernel
theorem d_M_init_175 : decode b_M_init 175 = .ok (.iconst 1, 1) := by decide +kernel
theorem d_M_init_176 : decode b_M_init 176 = .ok (.if_icmp .ge 7, 3) := by decide +kernel
theorem d_M_init_179 : decode b_M_init 179 = .ok (.iconst 1, 1) := by decide +kernel
theorem d_M_init_180 : decode b_M_init 180 = .ok (.goto 15, 3) := by decide +kernel
theorem d_M_init_183 : decode b_M_init 183 = .ok (.iload_n 1, 1) := by decide +kernel
theorem d_M_init_184 : decode b_M_init 184 = .ok (.bipush 8, 2) := by decide +kernel
theorem d_M_init_186 : decode b_M_init 186 = .ok (.if_icmp .le 8, 3) := by decide +kernel
theorem d_M_init_189 : decode b_M_init 189 = .ok (.bipush 8, 2) := by decide +kernel
theorem d_M_init_191 : decode b_M_init 191 = .ok (.goto 4, 3) := by decide +kernel
theorem d_M_init_194 : decode b_M_init 194 = .ok (.iload_n 1, 1) := by decide +kernel
theorem d_M_init_195 : decode b_M_init 195 = .ok (.putfield 77, 3) := by decide +kernel
theorem d_M_init_198 : decode b_M_init 198 = .ok (.aload_n 0, 1) := by decide +kernel
theorem d_M_init_199 : decode b_M_init 199 = .ok (.invokevirtual 81, 3) := by decide +kernel
theorem d_M_init_202 : decode b_M_init 202 = .ok (.return_, 1) := by decide +kernel
theorem d_M_thrown_0 : decode b_M_thrown 0 = .ok (.aload_n 0, 1) := by decide +kernel
theorem d_M_thrown_1 : decode b_M_thrown 1 = .ok (.getfield 84, 3) := by decide +kernel
theorem d_M_thrown_4 : decode b_M_thrown 4 = .ok (.ireturn, 1) := by decide +kernel
theorem d_M_forgetSnapshots_0 : decode b_M_forgetSnapshots 0 = .ok (.iconst 0, 1) := by decide +kernel
theorem d_M_forgetSnapshots_1 : decode b_M_forgetSnapshots 1 = .ok (.istore_n 1, 1) := by decide +kernel
theorem d_M_forgetSnapshots_2 : decode b_M_forgetSnapshots 2 = .ok (.iload_n 1, 1) := by decide +kernel
theorem d_M_forgetSnapshots_3 : decode b_M_forgetSnapshots 3 = .ok (.bipush 16, 2) := by decide +kernel
theorem d_M_forgetSnapshots_5 : decode b_M_forgetSnapshots 5 = .ok (.if_icmp .ge 16, 3) := by decide +kernel
theorem d_M_forgetSnapshots_8 : decode b_M_forgetSnapshots 8 = .ok (.aload_n 0, 1) := by decide +kernel
theorem d_M_forgetSnapshots_9 : decode b_M_forgetSnapshots 9 = .ok (.getfield 31, 3) := by decide +kernel
theorem d_M_forgetSnapshots_12 : decode b_M_forgetSnapshots 12 = .ok (.iload_n 1, 1) := by decide +kernel
theorem d_M_forgetSnapshots_13 : decode b_M_forgetSnapshots 13 = .ok (.iconst (-1), 1) := by decide +kernel
theorem d_M_forgetSnapshots_14 : decode b_M_forgetSnapshots 14 = .ok (.iastore, 1) := by decide +kernel
theorem d_M_forgetSnapshots_15 : decode b_M_forgetSnapshots 15 = .ok (.iinc 1 1, 3) := by decide +kernel
theorem d_M_forgetSnapshots_18 : decode b_M_forgetSnapshots 18 = .ok (.goto (-16), 3) := by decide +kernel
theorem d_M_forgetSnapshots_21 : decode b_M_forgetSnapshots 21 = .ok (.return_, 1) := by decide +kernel
theorem d_M_isStream_0 : decode b_M_isStream 0 = .ok (.iload_n 0, 1) := by decide +kernel
theorem d_M_isStream_1 : decode b_M_isStream 1 = .ok (.ifCond .lt 13, 3) := by decide +kernel
theorem d_M_isStream_4 : decode b_M_isStream 4 = .ok (.iload_n 0, 1) := by decide +kernel
theorem d_M_isStream_5 : decode b_M_isStream 5 = .ok (.bipush 8, 2) := by decide +kernel
theorem d_M_isStream_7 : decode b_M_isStream 7 = .ok (.if_icmp .ge 7, 3) := by decide +kernel
theorem d_M_isStream_10 : decode b_M_isStream 10 = .ok (.iconst 1, 1) := by decide +kernel
theorem d_M_isStream_11 : decode b_M_isStream 11 = .ok (.goto 4, 3) := by decide +kernel
theorem d_M_isStream_14 : decode b_M_isStream 14 = .ok (.iconst 0, 1) := by decide +kernel
theorem d_M_isStream_15 : decode b_M_isStream 15 = .ok (.ireturn, 1) := by decide +kernel
theorem d_M_isType_0 : decode b_M_isType 0 = .ok (.iload_n 0, 1) := by decide +kernel
theorem d_M_isType_1 : decode b_M_isType 1 = .ok (.ifCond .lt 13, 3) := by decide +kernel
theorem d_M_isType_4 : decode b_M_isType 4 = .ok (.iload_n 0, 1) := by decide +kernel
theorem d_M_isType_5 : decode b_M_isType 5 = .ok (.bipush 6, 2) := by decide +kernel
theorem d_M_isType_7 : decode b_M_isType 7 = .ok (.if_icmp .ge 7, 3) := by decide +kernel
theorem d_M_isType_10 : decode b_M_isType 10 = .ok (.iconst 1, 1) := by decide +kernel
theorem d_M_isType_11 : decode b_M_isType 11 = .ok (.goto 4, 3) := by decide +kernel
theorem d_M_isType_14 : decode b_M_isType 14 = .ok (.iconst 0, 1) := by decide +kernel
theorem d_M_isType_15 : decode b_M_isType 15 = .ok (.ireturn, 1) := by decide +kernel
theorem d_M_push_0 : decode b_M_push 0 = .ok (.aload_n 0, 1) := by decide +kernel
theorem d_M_push_1 : decode b_M_push 1 = .ok (.getfield 43, 3) := by decide +kernel
theorem d_M_push_4 : decode b_M_push 4 = .ok (.aload_n 0, 1) := by decide +kernel
theorem d_M_push_5 : decode b_M_push 5 = .ok (.getfield 87, 3) := by decide +kernel
theorem d_M_push_8 : decode b_M_push 8 = .ok (.iload_n 1, 1) := by decide +kernel
theorem d_M_push_9 : decode b_M_push 9 = .ok (.iastore, 1) := by decide +kernel
theorem d_M_push_10 : decode b_M_push 10 = .ok (.aload_n 0, 1) := by decide +kernel
theorem d_M_push_11 : decode b_M_push 11 = .ok (.getfield 46, 3) := by decide +kernel
theorem d_M_push_14 : decode b_M_push 14 = .ok (.aload_n 0, 1) := by decide +kernel
theorem d_M_push_15 : decode b_M_push 15 = .ok (.getfield 87, 3) := by decide +kernel
theorem d_M_push_18 : decode b_M_push 18 = .ok (.iload_n 2, 1) := by decide +kernel
theorem d_M_push_19 : decode b_M_push 19 = .ok (.iastore, 1) := by decide +kernel
theorem d_M_push_20 : decode b_M_push 20 = .ok (.aload_n 0, 1) := by decide +kernel
theorem d_M_push_21 : decode b_M_push 21 = .ok (.getfield 49, 3) := by decide +kernel
theorem d_M_push_24 : decode b_M_push 24 = .ok (.aload_n 0, 1) := by decide +kernel
theorem d_M_push_25 : decode b_M_push 25 = .ok (.getfield 87, 3) := by decide +kernel
theorem d_M_push_28 : decode b_M_push 28 = .ok (.iload_n 3, 1) := by decide +kernel
theorem d_M_push_29 : decode b_M_push 29 = .ok (.iastore, 1) := by decide +kernel
theorem d_M_push_30 : decode b_M_push 30 = .ok (.aload_n 0, 1) := by decide +kernel
theorem d_M_push_31 : decode b_M_push 31 = .ok (.getfield 52, 3) := by decide +kernel
theorem d_M_push_34 : decode b_M_push 34 = .ok (.aload_n 0, 1) := by decide +kernel
theorem d_M_push_35 : decode b_M_push 35 = .ok (.getfield 87, 3) := by decide +kernel
theorem d_M_push_38 : decode b_M_push 38 = .ok (.iload 4, 2) := by decide +kernel
theorem d_M_push_40 : decode b_M_push 40 = .ok (.iastore, 1) := by decide +kernel
theorem d_M_push_41 : decode b_M_push 41 = .ok (.aload_n 0, 1) := by decide +kernel
theorem d_M_push_42 : decode b_M_push 42 = .ok (.aload_n 0, 1) := by decide +kernel
theorem d_M_push_43 : decode b_M_push 43 = .ok (.getfield 87, 3) := by decide +kernel
theorem d_M_push_46 : decode b_M_push 46 = .ok (.iconst 1, 1) := by decide +kernel
theorem d_M_push_47 : decode b_M_push 47 = .ok (.iadd, 1) := by decide +kernel
theorem d_M_push_48 : decode b_M_push 48 = .ok (.putfield 87, 3) := by decide +kernel
theorem d_M_push_51 : decode b_M_push 51 = .ok (.return_, 1) := by decide +kernel
theorem d_M_split_0 : decode b_M_split 0 = .ok (.iload_n 3, 1) := by decide +kernel
theorem d_M_split_1 : decode b_M_split 1 = .ok (.iconst 1, 1) := by decide +kernel
theorem d_M_split_2 : decode b_M_split 2 = .ok (.ishr, 1) := by decide +kernel
theorem d_M_split_3 : decode b_M_split 3 = .ok (.istore 5, 2) := by decide +kernel
theorem d_M_split_5 : decode b_M_split 5 = .ok (.aload_n 0, 1) := by decide +kernel
theorem d_M_split_6 : decode b_M_split 6 = .ok (.iload_n 1, 1) := by decide +kernel
theorem d_M_split_7 : decode b_M_split 7 = .ok (.iload_n 2, 1) := by decide +kernel
theorem d_M_split_8 : decode b_M_split 8 = .ok (.iload_n 3, 1) := by decide +kernel
theorem d_M_split_9 : decode b_M_split 9 = .ok (.iload 5, 2) := by decide +kernel
theorem d_M_split_11 : decode b_M_split 11 = .ok (.isub, 1) := by decide +kernel
theorem d_M_split_12 : decode b_M_split 12 = .ok (.iload 4, 2) := by decide +kernel
theorem d_M_split_14 : decode b_M_split 14 = .ok (.invokevirtual 90, 3) := by decide +kernel
theorem d_M_split_17 : decode b_M_split 17 = .ok (.aload_n 0, 1) := by decide +kernel
theorem d_M_split_18 : decode b_M_split 18 = .ok (.iload_n 1, 1) := by decide +kernel
theorem d_M_split_19 : decode b_M_split 19 = .ok (.iload_n 2, 1) := by decide +kernel
theorem d_M_split_20 : decode b_M_split 20 = .ok (.iload 5, 2) := by decide +kernel
theorem d_M_split_22 : decode b_M_split 22 = .ok (.iload 4, 2) := by decide +kernel
theorem d_M_split_24 : decode b_M_split 24 = .ok (.invokevirtual 90, 3) := by decide +kernel
theorem d_M_split_27 : decode b_M_split 27 = .ok (.return_, 1) := by decide +kernel
theorem d_M_oneUp_0 : decode b_M_oneUp 0 = .ok (.iconst 2, 1) := by decide +kernel
theorem d_M_oneUp_1 : decode b_M_oneUp 1 = .ok (.iload_n 1, 1) := by decide +kernel
theorem d_M_oneUp_2 : decode b_M_oneUp 2 = .ok (.imul, 1) := by decide +kernel
theorem d_M_oneUp_3 : decode b_M_oneUp 3 = .ok (.iload_n 2, 1) := by decide +kernel
theorem d_M_oneUp_4 : decode b_M_oneUp 4 = .ok (.iadd, 1) := by decide +kernel
theorem d_M_oneUp_5 : decode b_M_oneUp 5 = .ok (.iconst 1, 1) := by decide +kernel
theorem d_M_oneUp_6 : decode b_M_oneUp 6 = .ok (.isub, 1) := by decide +kernel
theorem d_M_oneUp_7 : decode b_M_oneUp 7 = .ok (.istore 5, 2) := by decide +kernel
theorem d_M_oneUp_9 : decode b_M_oneUp 9 = .ok (.aload_n 0, 1) := by decide +kernel
theorem d_M_oneUp_10 : decode b_M_oneUp 10 = .ok (.getfield 28, 3) := by decide +kernel
theorem d_M_oneUp_13 : decode b_M_oneUp 13 = .ok (.iload 5, 2) := by decide +kernel
theorem d_M_oneUp_15 : decode b_M_oneUp 15 = .ok (.iaload, 1) := by decide +kernel
theorem d_M_oneUp_16 : decode b_M_oneUp 16 = .ok (.istore 6, 2) := by decide +kernel
theorem d_M_oneUp_18 : decode b_M_oneUp 18 = .ok (.aload_n 0, 1) := by decide +kernel
theorem d_M_oneUp_19 : decode b_M_oneUp 19 = .ok (.getfield 25, 3) := by decide +kernel
theorem d_M_oneUp_22 : decode b_M_oneUp 22 = .ok (.iload 5, 2) := by decide +kernel
theorem d_M_oneUp_24 : decode b_M_oneUp 24 = .ok (.iaload, 1) := by decide +kernel
theorem d_M_oneUp_25 : decode b_M_oneUp 25 = .ok (.tableswitch 127 0 5 #[39, 53, 67, 84, 98, 112], 39) := by decide +kernel
theorem d_M_oneUp_64 : decode b_M_oneUp 64 = .ok (.aload_n 0, 1) := by decide +kernel
theorem d_M_oneUp_65 : decode b_M_oneUp 65 = .ok (.iload_n 1, 1) := by decide +kernel
theorem d_M_oneUp_66 : decode b_M_oneUp 66 = .ok (.iload_n 2, 1) := by decide +kernel
theorem d_M_oneUp_67 : decode b_M_oneUp 67 = .ok (.iconst 1, 1) := by decide +kernel
theorem d_M_oneUp_68 : decode b_M_oneUp 68 = .ok (.iadd, 1) := by decide +kernel
theorem d_M_oneUp_69 : decode b_M_oneUp 69 = .ok (.iload_n 3, 1) := by decide +kernel
theorem d_M_oneUp_70 : decode b_M_oneUp 70 = .ok (.iload 4, 2) := by decide +kernel
theorem d_M_oneUp_72 : decode b_M_oneUp 72 = .ok (.invokevirtual 90, 3) := by decide +kernel
theorem d_M_oneUp_75 : decode b_M_oneUp 75 = .ok (.goto 77, 3) := by decide +kernel
theorem d_M_oneUp_78 : decode b_M_oneUp 78 = .ok (.aload_n 0, 1) := by decide +kernel
theorem d_M_oneUp_79 : decode b_M_oneUp 79 = .ok (.iload_n 1, 1) := by decide +kernel
theorem d_M_oneUp_80 : decode b_M_oneUp 80 = .ok (.iload_n 2, 1) := by decide +kernel
theorem d_M_oneUp_81 : decode b_M_oneUp 81 = .ok (.iconst 1, 1) := by decide +kernel
theorem d_M_oneUp_82 : decode b_M_oneUp 82 = .ok (.iadd, 1) := by decide +kernel
theorem d_M_oneUp_83 : decode b_M_oneUp 83 = .ok (.iload 4, 2) := by decide +kernel
theorem d_M_oneUp_85 : decode b_M_oneUp 85 = .ok (.iload_n 3, 1) := by decide +kernel
theorem d_M_oneUp_86 : decode b_M_oneUp 86 = .ok (.invokevirtual 90, 3) := by decide +kernel
theorem d_M_oneUp_89 : decode b_M_oneUp 89 = .ok (.goto 63, 3) := by decide +kernel
theorem d_M_oneUp_92 : decode b_M_oneUp 92 = .ok (.aload_n 0, 1) := by decide +kernel
theorem d_M_oneUp_93 : decode b_M_oneUp 93 = .ok (.iload_n 1, 1) := by decide +kernel
theorem d_M_oneUp_94 : decode b_M_oneUp 94 = .ok (.iload_n 2, 1) := by decide +kernel
theorem d_M_oneUp_95 : decode b_M_oneUp 95 = .ok (.iconst 1, 1) := by decide +kernel
theorem d_M_oneUp_96 : decode b_M_oneUp 96 = .ok (.iadd, 1) := by decide +kernel
theorem d_M_oneUp_97 : decode b_M_oneUp 97 = .ok (.iload_n 3, 1) := by decide +kernel
theorem d_M_oneUp_98 : decode b_M_oneUp 98 = .ok (.iload 6, 2) := by decide +kernel
theorem d_M_oneUp_100 : decode b_M_oneUp 100 = .ok (.imul, 1) := by decide +kernel
theorem d_M_oneUp_101 : decode b_M_oneUp 101 = .ok (.iload 4, 2) := by decide +kernel
theorem d_M_oneUp_103 : decode b_M_oneUp 103 = .ok (.invokevirtual 90, 3) := by decide +kernel
theorem d_M_oneUp_106 : decode b_M_oneUp 106 = .ok (.goto 46, 3) := by decide +kernel
theorem d_M_oneUp_109 : decode b_M_oneUp 109 = .ok (.aload_n 0, 1) := by decide +kernel
theorem d_M_oneUp_110 : decode b_M_oneUp 110 = .ok (.iload_n 1, 1) := by decide +kernel
theorem d_M_oneUp_111 : decode b_M_oneUp 111 = .ok (.iload_n 2, 1) := by decide +kernel
theorem d_M_oneUp_112 : decode b_M_oneUp 112 = .ok (.iconst 1, 1) := by decide +kernel
theorem d_M_oneUp_113 : decode b_M_oneUp 113 = .ok (.iadd, 1) := by decide +kernel
theorem d_M_oneUp_114 : decode b_M_oneUp 114 = .ok (.iload_n 3, 1) := by decide +kernel
theorem d_M_oneUp_115 : decode b_M_oneUp 115 = .ok (.iload 6, 2) := by decide +kernel
theorem d_M_oneUp_117 : decode b_M_oneUp 117 = .ok (.invokevirtual 90, 3) := by decide +kernel
theorem d_M_oneUp_120 : decode b_M_oneUp 120 = .ok (.goto 32, 3) := by decide +kernel
theorem d_M_oneUp_123 : decode b_M_oneUp 123 = .ok (.aload_n 0, 1) := by decide +kernel
theorem d_M_oneUp_124 : decode b_M_oneUp 124 = .ok (.iload_n 1, 1) := by decide +kernel
theorem d_M_oneUp_125 : decode b_M_oneUp 125 = .ok (.iload_n 2, 1) := by decide +kernel
theorem d_M_oneUp_126 : decode b_M_oneUp 126 = .ok (.iconst 1, 1) := by decide +kernel
theorem d_M_oneUp_127 : decode b_M_oneUp 127 = .ok (.iadd, 1) := by decide +kernel
theorem d_M_oneUp_128 : decode b_M_oneUp 128 = .ok (.iload_n 3, 1) := by decide +kernel
theorem d_M_oneUp_129 : decode b_M_oneUp 129 = .ok (.iload 4, 2) := by decide +kernel
theorem d_M_oneUp_131 : decode b_M_oneUp 131 = .ok (.invokevirtual 94, 3) := by decide +kernel
theorem d_M_oneUp_134 : decode b_M_oneUp 134 = .ok (.goto 18, 3) := by decide +kernel
theorem d_M_oneUp_137 : decode b_M_oneUp 137 = .ok (.aload_n 0, 1) := by decide +kernel
theorem d_M_oneUp_138 : decode b_M_oneUp 138 = .ok (.iload 6, 2) := by decide +kernel
theorem d_M_oneUp_140 : decode b_M_oneUp 140 = .ok (.iload_n 2, 1) := by decide +kernel
theorem d_M_oneUp_141 : decode b_M_oneUp 141 = .ok (.iconst 1, 1) := by decide +kernel
theorem d_M_oneUp_142 : decode b_M_oneUp 142 = .ok (.iadd, 1) := by decide +kernel
theorem d_M_oneUp_143 : decode b_M_oneUp 143 = .ok (.iload_n 3, 1) := by decide +kernel
theorem d_M_oneUp_144 : decode b_M_oneUp 144 = .ok (.iload 4, 2) := by decide +kernel
theorem d_M_oneUp_146 : decode b_M_oneUp 146 = .ok (.invokevirtual 90, 3) := by decide +kernel
theorem d_M_oneUp_149 : decode b_M_oneUp 149 = .ok (.goto 3, 3) := by decide +kernel
theorem d_M_oneUp_152 : decode b_M_oneUp 152 = .ok (.return_, 1) := by decide +kernel
theorem d_M_bringUp_0 : decode b_M_bringUp 0 = .ok (.aload_n 0, 1) := by decide +kernel
theorem d_M_bringUp_1 : decode b_M_bringUp 1 = .ok (.iconst 0, 1) := by decide +kernel
theorem d_M_bringUp_2 : decode b_M_bringUp 2 = .ok (.putfield 97, 3) := by decide +kernel
theorem d_M_bringUp_5 : decode b_M_bringUp 5 = .ok (.aload_n 0, 1) := by decide +kernel
theorem d_M_bringUp_6 : decode b_M_bringUp 6 = .ok (.iconst 0, 1) := by decide +kernel
theorem d_M_bringUp_7 : decode b_M_bringUp 7 = .ok (.putfield 87, 3) := by decide +kernel
theorem d_M_bringUp_10 : decode b_M_bringUp 10 = .ok (.aload_n 0, 1) := by decide +kernel
theorem d_M_bringUp_11 : decode b_M_bringUp 11 = .ok (.aload_n 0, 1) := by decide +kernel
theorem d_M_bringUp_12 : decode b_M_bringUp 12 = .ok (.getfield 13, 3) := by decide +kernel
theorem d_M_bringUp_15 : decode b_M_bringUp 15 = .ok (.iload_n 1, 1) := by decide +kernel
theorem d_M_bringUp_16 : decode b_M_bringUp 16 = .ok (.iaload, 1) := by decide +kernel
theorem d_M_bringUp_17 : decode b_M_bringUp 17 = .ok (.aload_n 0, 1) := by decide +kernel
theorem d_M_bringUp_18 : decode b_M_bringUp 18 = .ok (.getfield 16, 3) := by decide +kernel
theorem d_M_bringUp_21 : decode b_M_bringUp 21 = .ok (.iload_n 1, 1) := by decide +kernel
theorem d_M_bringUp_22 : decode b_M_bringUp 22 = .ok (.iaload, 1) := by decide +kernel
theorem d_M_bringUp_23 : decode b_M_bringUp 23 = .ok (.aload_n 0, 1) := by decide +kernel
theorem d_M_bringUp_24 : decode b_M_bringUp 24 = .ok (.getfield 19, 3) := by decide +kernel
theorem d_M_bringUp_27 : decode b_M_bringUp 27 = .ok (.iload_n 1, 1) := by decide +kernel
theorem d_M_bringUp_28 : decode b_M_bringUp 28 = .ok (.iaload, 1) := by decide +kernel
theorem d_M_bringUp_29 : decode b_M_bringUp 29 = .ok (.aload_n 0, 1) := by decide +kernel
theorem d_M_bringUp_30 : decode b_M_bringUp 30 = .ok (.getfield 22, 3) := by decide +kernel
theorem d_M_bringUp_33 : decode b_M_bringUp 33 = .ok (.iload_n 1, 1) := by decide +kernel
theorem d_M_bringUp_34 : decode b_M_bringUp 34 = .ok (.iaload, 1) := by decide +kernel
theorem d_M_bringUp_35 : decode b_M_bringUp 35 = .ok (.invokevirtual 90, 3) := by decide +kernel
theorem d_M_bringUp_38 : decode b_M_bringUp 38 = .ok (.aload_n 0, 1) := by decide +kernel
theorem d_M_bringUp_39 : decode b_M_bringUp 39 = .ok (.getfield 87, 3) := by decide +kernel
theorem d_M_bringUp_42 : decode b_M_bringUp 42 = .ok (.ifCond .le 136, 3) := by decide +kernel
theorem d_M_bringUp_45 : decode b_M_bringUp 45 = .ok (.aload_n 0, 1) := by decide +kernel
theorem d_M_bringUp_46 : decode b_M_bringUp 46 = .ok (.aload_n 0, 1) := by decide +kernel
theorem d_M_bringUp_47 : decode b_M_bringUp 47 = .ok (.getfield 87, 3) := by decide +kernel
theorem d_M_bringUp_50 : decode b_M_bringUp 50 = .ok (.iconst 1, 1) := by decide +kernel
theorem d_M_bringUp_51 : decode b_M_bringUp 51 = .ok (.isub, 1) := by decide +kernel
theorem d_M_bringUp_52 : decode b_M_bringUp 52 = .ok (.putfield 87, 3) := by decide +kernel
theorem d_M_bringUp_55 : decode b_M_bringUp 55 = .ok (.aload_n 0, 1) := by decide +kernel
theorem d_M_bringUp_56 : decode b_M_bringUp 56 = .ok (.getfield 46, 3) := by decide +kernel
theorem d_M_bringUp_59 : decode b_M_bringUp 59 = .ok (.aload_n 0, 1) := by decide +kernel
theorem d_M_bringUp_60 : decode b_M_bringUp 60 = .ok (.getfield 87, 3) := by decide +kernel
theorem d_M_bringUp_63 : decode b_M_bringUp 63 = .ok (.iaload, 1) := by decide +kernel
theorem d_M_bringUp_64 : decode b_M_bringUp 64 = .ok (.iconst 3, 1) := by decide +kernel
theorem d_M_bringUp_65 : decode b_M_bringUp 65 = .ok (.if_icmp .ne 70, 3) := by decide +kernel
theorem d_M_bringUp_68 : decode b_M_bringUp 68 = .ok (.aload_n 0, 1) := by decide +kernel
theorem d_M_bringUp_69 : decode b_M_bringUp 69 = .ok (.getfield 34, 3) := by decide +kernel
theorem d_M_bringUp_72 : decode b_M_bringUp 72 = .ok (.aload_n 0, 1) := by decide +kernel
theorem d_M_bringUp_73 : decode b_M_bringUp 73 = .ok (.getfield 97, 3) := by decide +kernel
theorem d_M_bringUp_76 : decode b_M_bringUp 76 = .ok (.aload_n 0, 1) := by decide +kernel
theorem d_M_bringUp_77 : decode b_M_bringUp 77 = .ok (.getfield 43, 3) := by decide +kernel
theorem d_M_bringUp_80 : decode b_M_bringUp 80 = .ok (.aload_n 0, 1) := by decide +kernel
theorem d_M_bringUp_81 : decode b_M_bringUp 81 = .ok (.getfield 87, 3) := by decide +kernel
theorem d_M_bringUp_84 : decode b_M_bringUp 84 = .ok (.iaload, 1) := by decide +kernel
theorem d_M_bringUp_85 : decode b_M_bringUp 85 = .ok (.iastore, 1) := by decide +kernel
theorem d_M_bringUp_86 : decode b_M_bringUp 86 = .ok (.aload_n 0, 1) := by decide +kernel
theorem d_M_bringUp_87 : decode b_M_bringUp 87 = .ok (.getfield 37, 3) := by decide +kernel
theorem d_M_bringUp_90 : decode b_M_bringUp 90 = .ok (.aload_n 0, 1) := by decide +kernel
theorem d_M_bringUp_91 : decode b_M_bringUp 91 = .ok (.getfield 97, 3) := by decide +kernel
theorem d_M_bringUp_94 : decode b_M_bringUp 94 = .ok (.aload_n 0, 1) := by decide +kernel
theorem d_M_bringUp_95 : decode b_M_bringUp 95 = .ok (.getfield 49, 3) := by decide +kernel
theorem d_M_bringUp_98 : decode b_M_bringUp 98 = .ok (.aload_n 0, 1) := by decide +kernel
theorem d_M_bringUp_99 : decode b_M_bringUp 99 = .ok (.getfield 87, 3) := by decide +kernel
theorem d_M_bringUp_102 : decode b_M_bringUp 102 = .ok (.iaload, 1) := by decide +kernel
theorem d_M_bringUp_103 : decode b_M_bringUp 103 = .ok (.iastore, 1) := by decide +kernel
theorem d_M_bringUp_104 : decode b_M_bringUp 104 = .ok (.aload_n 0, 1) := by decide +kernel
theorem d_M_bringUp_105 : decode b_M_bringUp 105 = .ok (.getfield 40, 3) := by decide +kernel
theorem d_M_bringUp_108 : decode b_M_bringUp 108 = .ok (.aload_n 0, 1) := by decide +kernel
theorem d_M_bringUp_109 : decode b_M_bringUp 109 = .ok (.getfield 97, 3) := by decide +kernel
theorem d_M_bringUp_112 : decode b_M_bringUp 112 = .ok (.aload_n 0, 1) := by decide +kernel
theorem d_M_bringUp_113 : decode b_M_bringUp 113 = .ok (.getfield 52, 3) := by decide +kernel
theorem d_M_bringUp_116 : decode b_M_bringUp 116 = .ok (.aload_n 0, 1) := by decide +kernel
theorem d_M_bringUp_117 : decode b_M_bringUp 117 = .ok (.getfield 87, 3) := by decide +kernel
theorem d_M_bringUp_120 : decode b_M_bringUp 120 = .ok (.iaload, 1) := by decide +kernel
theorem d_M_bringUp_121 : decode b_M_bringUp 121 = .ok (.iastore, 1) := by decide +kernel
theorem d_M_bringUp_122 : decode b_M_bringUp 122 = .ok (.aload_n 0, 1) := by decide +kernel
theorem d_M_bringUp_123 : decode b_M_bringUp 123 = .ok (.aload_n 0, 1) := by decide +kernel
theorem d_M_bringUp_124 : decode b_M_bringUp 124 = .ok (.getfield 97, 3) := by decide +kernel
theorem d_M_bringUp_127 : decode b_M_bringUp 127 = .ok (.iconst 1, 1) := by decide +kernel
theorem d_M_bringUp_128 : decode b_M_bringUp 128 = .ok (.iadd, 1) := by decide +kernel
theorem d_M_bringUp_129 : decode b_M_bringUp 129 = .ok (.putfield 97, 3) := by decide +kernel
theorem d_M_bringUp_132 : decode b_M_bringUp 132 = .ok (.goto (-94), 3) := by decide +kernel
theorem d_M_bringUp_135 : decode b_M_bringUp 135 = .ok (.aload_n 0, 1) := by decide +kernel
theorem d_M_bringUp_136 : decode b_M_bringUp 136 = .ok (.aload_n 0, 1) := by decide +kernel
theorem d_M_bringUp_137 : decode b_M_bringUp 137 = .ok (.getfield 43, 3) := by decide +kernel
theorem d_M_bringUp_140 : decode b_M_bringUp 140 = .ok (.aload_n 0, 1) := by decide +kernel
theorem d_M_bringUp_141 : decode b_M_bringUp 141 = .ok (.getfield 87, 3) := by decide +kernel
theorem d_M_bringUp_144 : decode b_M_bringUp 144 = .ok (.iaload, 1) := by decide +kernel
theorem d_M_bringUp_145 : decode b_M_bringUp 145 = .ok (.aload_n 0, 1) := by decide +kernel
theorem d_M_bringUp_146 : decode b_M_bringUp 146 = .ok (.getfield 46, 3) := by decide +kernel
theorem d_M_bringUp_149 : decode b_M_bringUp 149 = .ok (.aload_n 0, 1) := by decide +kernel
theorem d_M_bringUp_150 : decode b_M_bringUp 150 = .ok (.getfield 87, 3) := by decide +kernel
theorem d_M_bringUp_153 : decode b_M_bringUp 153 = .ok (.iaload, 1) := by decide +kernel
theorem d_M_bringUp_154 : decode b_M_bringUp 154 = .ok (.aload_n 0, 1) := by decide +kernel
theorem d_M_bringUp_155 : decode b_M_bringUp 155 = .ok (.getfield 49, 3) := by decide +kernel
theorem d_M_bringUp_158 : decode b_M_bringUp 158 = .ok (.aload_n 0, 1) := by decide +kernel
theorem d_M_bringUp_159 : decode b_M_bringUp 159 = .ok (.getfield 87, 3) := by decide +kernel
theorem d_M_bringUp_162 : decode b_M_bringUp 162 = .ok (.iaload, 1) := by decide +kernel
theorem d_M_bringUp_163 : decode b_M_bringUp 163 = .ok (.aload_n 0, 1) := by decide +kernel
theorem d_M_bringUp_164 : decode b_M_bringUp 164 = .ok (.getfield 52, 3) := by decide +kernel
theorem d_M_bringUp_167 : decode b_M_bringUp 167 = .ok (.aload_n 0, 1) := by decide +kernel
theorem d_M_bringUp_168 : decode b_M_bringUp 168 = .ok (.getfield 87, 3) := by decide +kernel
theorem d_M_bringUp_171 : decode b_M_bringUp 171 = .ok (.iaload, 1) := by decide +kernel
theorem d_M_bringUp_172 : decode b_M_bringUp 172 = .ok (.invokevirtual 100, 3) := by decide +kernel
theorem d_M_bringUp_175 : decode b_M_bringUp 175 = .ok (.goto (-137), 3) := by decide +kernel
theorem d_M_bringUp_178 : decode b_M_bringUp 178 = .ok (.return_, 1) := by decide +kernel
theorem d_M_fits_0 : decode b_M_fits 0 = .ok (.aload_n 0, 1) := by decide +kernel
theorem d_M_fits_1 : decode b_M_fits 1 = .ok (.getfield 55, 3) := by decide +kernel
theorem d_M_fits_4 : decode b_M_fits 4 = .ok (.iconst 0, 1) := by decide +kernel
theorem d_M_fits_5 : decode b_M_fits 5 = .ok (.laload, 1) := by decide +kernel
theorem d_M_fits_6 : decode b_M_fits 6 = .ok (.lconst 1, 1) := by decide +kernel
theorem d_M_fits_7 : decode b_M_fits 7 = .ok (.lcmp, 1) := by decide +kernel
theorem d_M_fits_8 : decode b_M_fits 8 = .ok (.ifCond .ne 18, 3) := by decide +kernel
theorem d_M_fits_11 : decode b_M_fits 11 = .ok (.aload_n 0, 1) := by decide +kernel
theorem d_M_fits_12 : decode b_M_fits 12 = .ok (.getfield 55, 3) := by decide +kernel
theorem d_M_fits_15 : decode b_M_fits 15 = .ok (.iconst 1, 1) := by decide +kernel
theorem d_M_fits_16 : decode b_M_fits 16 = .ok (.laload, 1) := by decide +kernel
theorem d_M_fits_17 : decode b_M_fits 17 = .ok (.lconst 0, 1) := by decide +kernel
theorem d_M_fits_18 : decode b_M_fits 18 = .ok (.lcmp, 1) := by decide +kernel
theorem d_M_fits_19 : decode b_M_fits 19 = .ok (.ifCond .ne 7, 3) := by decide +kernel
theorem d_M_fits_22 : decode b_M_fits 22 = .ok (.iconst 1, 1) := by decide +kernel
theorem d_M_fits_23 : decode b_M_fits 23 = .ok (.goto 4, 3) := by decide +kernel
theorem d_M_fits_26 : decode b_M_fits 26 = .ok (.iconst 0, 1) := by decide +kernel
theorem d_M_fits_27 : decode b_M_fits 27 = .ok (.istore_n 3, 1) := by decide +kernel
theorem d_M_fits_28 : decode b_M_fits 28 = .ok (.iload_n 1, 1) := by decide +kernel
theorem d_M_fits_29 : decode b_M_fits 29 = .ok (.tableswitch 118 0 4 #[35, 52, 66, 99, 101], 35) := by decide +kernel
theorem d_M_fits_64 : decode b_M_fits 64 = .ok (.aload_n 0, 1) := by decide +kernel
theorem d_M_fits_65 : decode b_M_fits 65 = .ok (.getfield 55, 3) := by decide +kernel
theorem d_M_fits_68 : decode b_M_fits 68 = .ok (.iconst 0, 1) := by decide +kernel
theorem d_M_fits_69 : decode b_M_fits 69 = .ok (.laload, 1) := by decide +kernel
theorem d_M_fits_70 : decode b_M_fits 70 = .ok (.lconst 0, 1) := by decide +kernel
theorem d_M_fits_71 : decode b_M_fits 71 = .ok (.lcmp, 1) := by decide +kernel
theorem d_M_fits_72 : decode b_M_fits 72 = .ok (.ifCond .ne 7, 3) := by decide +kernel
theorem d_M_fits_75 : decode b_M_fits 75 = .ok (.iconst 1, 1) := by decide +kernel
theorem d_M_fits_76 : decode b_M_fits 76 = .ok (.goto 4, 3) := by decide +kernel
theorem d_M_fits_79 : decode b_M_fits 79 = .ok (.iconst 0, 1) := by decide +kernel
theorem d_M_fits_80 : decode b_M_fits 80 = .ok (.ireturn, 1) := by decide +kernel
theorem d_M_fits_81 : decode b_M_fits 81 = .ok (.iload_n 3, 1) := by decide +kernel
theorem d_M_fits_82 : decode b_M_fits 82 = .ok (.ifCond .eq 11, 3) := by decide +kernel
theorem d_M_fits_85 : decode b_M_fits 85 = .ok (.iload_n 2, 1) := by decide +kernel
theorem d_M_fits_86 : decode b_M_fits 86 = .ok (.ifCond .lt 7, 3) := by decide +kernel
theorem d_M_fits_89 : decode b_M_fits 89 = .ok (.iconst 1, 1) := by decide +kernel
theorem d_M_fits_90 : decode b_M_fits 90 = .ok (.goto 4, 3) := by decide +kernel
theorem d_M_fits_93 : decode b_M_fits 93 = .ok (.iconst 0, 1) := by decide +kernel
theorem d_M_fits_94 : decode b_M_fits 94 = .ok (.ireturn, 1) := by decide +kernel
theorem d_M_fits_95 : decode b_M_fits 95 = .ok (.iload_n 3, 1) := by decide +kernel
theorem d_M_fits_96 : decode b_M_fits 96 = .ok (.ifCond .eq 30, 3) := by decide +kernel
theorem d_M_fits_99 : decode b_M_fits 99 = .ok (.iload_n 2, 1) := by decide +kernel
theorem d_M_fits_100 : decode b_M_fits 100 = .ok (.ifCond .lt 26, 3) := by decide +kernel
theorem d_M_fits_103 : decode b_M_fits 103 = .ok (.aload_n 0, 1) := by decide +kernel
theorem d_M_fits_104 : decode b_M_fits 104 = .ok (.getfield 55, 3) := by decide +kernel
theorem d_M_fits_107 : decode b_M_fits 107 = .ok (.iconst 3, 1) := by decide +kernel
theorem d_M_fits_108 : decode b_M_fits 108 = .ok (.laload, 1) := by decide +kernel
theorem d_M_fits_109 : decode b_M_fits 109 = .ok (.aload_n 0, 1) := by decide +kernel
theorem d_M_fits_110 : decode b_M_fits 110 = .ok (.getfield 55, 3) := by decide +kernel
theorem d_M_fits_113 : decode b_M_fits 113 = .ok (.iconst 2, 1) := by decide +kernel
theorem d_M_fits_114 : decode b_M_fits 114 = .ok (.laload, 1) := by decide +kernel
theorem d_M_fits_115 : decode b_M_fits 115 = .ok (.ladd, 1) := by decide +kernel
theorem d_M_fits_116 : decode b_M_fits 116 = .ok (.iload_n 2, 1) := by decide +kernel
theorem d_M_fits_117 : decode b_M_fits 117 = .ok (.i2l, 1) := by decide +kernel
theorem d_M_fits_118 : decode b_M_fits 118 = .ok (.lcmp, 1) := by decide +kernel
theorem d_M_fits_119 : decode b_M_fits 119 = .ok (.ifCond .lt 7, 3) := by decide +kernel
theorem d_M_fits_122 : decode b_M_fits 122 = .ok (.iconst 1, 1) := by decide +kernel
theorem d_M_fits_123 : decode b_M_fits 123 = .ok (.goto 4, 3) := by decide +kernel
theorem d_M_fits_126 : decode b_M_fits 126 = .ok (.iconst 0, 1) := by decide +kernel
theorem d_M_fits_127 : decode b_M_fits 127 = .ok (.ireturn, 1) := by decide +kernel
theorem d_M_fits_128 : decode b_M_fits 128 = .ok (.iload_n 3, 1) := by decide +kernel
theorem d_M_fits_129 : decode b_M_fits 129 = .ok (.ireturn, 1) := by decide +kernel
theorem d_M_fits_130 : decode b_M_fits 130 = .ok (.aload_n 0, 1) := by decide +kernel
theorem d_M_fits_131 : decode b_M_fits 131 = .ok (.getfield 55, 3) := by decide +kernel
theorem d_M_fits_134 : decode b_M_fits 134 = .ok (.iconst 1, 1) := by decide +kernel
theorem d_M_fits_135 : decode b_M_fits 135 = .ok (.laload, 1) := by decide +kernel
theorem d_M_fits_136 : decode b_M_fits 136 = .ok (.lconst 1, 1) := by decide +kernel
theorem d_M_fits_137 : decode b_M_fits 137 = .ok (.lcmp, 1) := by decide +kernel
theorem d_M_fits_138 : decode b_M_fits 138 = .ok (.ifCond .ne 7, 3) := by decide +kernel
theorem d_M_fits_141 : decode b_M_fits 141 = .ok (.iconst 1, 1) := by decide +kernel
theorem d_M_fits_142 : decode b_M_fits 142 = .ok (.goto 4, 3) := by decide +kernel
theorem d_M_fits_145 : decode b_M_fits 145 = .ok (.iconst 0, 1) := by decide +kernel
theorem d_M_fits_146 : decode b_M_fits 146 = .ok (.ireturn, 1) := by decide +kernel
theorem d_M_fits_147 : decode b_M_fits 147 = .ok (.iload_n 3, 1) := by decide +kernel
theorem d_M_fits_148 : decode b_M_fits 148 = .ok (.ifCond .eq 18, 3) := by decide +kernel
theorem d_M_fits_151 : decode b_M_fits 151 = .ok (.aload_n 0, 1) := by decide +kernel
theorem d_M_fits_152 : decode b_M_fits 152 = .ok (.getfield 55, 3) := by decide +kernel
theorem d_M_fits_155 : decode b_M_fits 155 = .ok (.iconst 3, 1) := by decide +kernel
theorem d_M_fits_156 : decode b_M_fits 156 = .ok (.laload, 1) := by decide +kernel
theorem d_M_fits_157 : decode b_M_fits 157 = .ok (.lconst 0, 1) := by decide +kernel
theorem d_M_fits_158 : decode b_M_fits 158 = .ok (.lcmp, 1) := by decide +kernel
theorem d_M_fits_159 : decode b_M_fits 159 = .ok (.ifCond .ne 7, 3) := by decide +kernel
theorem d_M_fits_162 : decode b_M_fits 162 = .ok (.iconst 1, 1) := by decide +kernel
theorem d_M_fits_163 : decode b_M_fits 163 = .ok (.goto 4, 3) := by decide +kernel
theorem d_M_fits_166 : decode b_M_fits 166 = .ok (.iconst 0, 1) := by decide +kernel
theorem d_M_fits_167 : decode b_M_fits 167 = .ok (.ireturn, 1) := by decide +kernel
theorem d_M_change_0 : decode b_M_change 0 = .ok (.aload_n 0, 1) := by decide +kernel
theorem d_M_change_1 : decode b_M_change 1 = .ok (.getfield 55, 3) := by decide +kernel
theorem d_M_change_4 : decode b_M_change 4 = .ok (.iconst 3, 1) := by decide +kernel
theorem d_M_change_5 : decode b_M_change 5 = .ok (.laload, 1) := by decide +kernel
theorem d_M_change_6 : decode b_M_change 6 = .ok (.lstore 4, 2) := by decide +kernel
theorem d_M_change_8 : decode b_M_change 8 = .ok (.aload_n 0, 1) := by decide +kernel
theorem d_M_change_9 : decode b_M_change 9 = .ok (.getfield 55, 3) := by decide +kernel
theorem d_M_change_12 : decode b_M_change 12 = .ok (.iconst 2, 1) := by decide +kernel
theorem d_M_change_13 : decode b_M_change 13 = .ok (.iload_n 1, 1) := by decide +kernel
theorem d_M_change_14 : decode b_M_change 14 = .ok (.ifCond .ne 8, 3) := by decide +kernel
theorem d_M_change_17 : decode b_M_change 17 = .ok (.iload_n 2, 1) := by decide +kernel
theorem d_M_change_18 : decode b_M_change 18 = .ok (.i2l, 1) := by decide +kernel
theorem d_M_change_19 : decode b_M_change 19 = .ok (.goto 9, 3) := by decide +kernel
theorem d_M_change_22 : decode b_M_change 22 = .ok (.aload_n 0, 1) := by decide +kernel
theorem d_M_change_23 : decode b_M_change 23 = .ok (.getfield 55, 3) := by decide +kernel
theorem d_M_change_26 : decode b_M_change 26 = .ok (.iconst 2, 1) := by decide +kernel
theorem d_M_change_27 : decode b_M_change 27 = .ok (.laload, 1) := by decide +kernel
theorem d_M_change_28 : decode b_M_change 28 = .ok (.lastore, 1) := by decide +kernel
theorem d_M_change_29 : decode b_M_change 29 = .ok (.aload_n 0, 1) := by decide +kernel
theorem d_M_change_30 : decode b_M_change 30 = .ok (.getfield 55, 3) := by decide +kernel
theorem d_M_change_33 : decode b_M_change 33 = .ok (.iconst 3, 1) := by decide +kernel
theorem d_M_change_34 : decode b_M_change 34 = .ok (.iload_n 1, 1) := by decide +kernel
theorem d_M_change_35 : decode b_M_change 35 = .ok (.ifCond .ne 7, 3) := by decide +kernel
theorem d_M_change_38 : decode b_M_change 38 = .ok (.lconst 0, 1) := by decide +kernel
theorem d_M_change_39 : decode b_M_change 39 = .ok (.goto 31, 3) := by decide +kernel
theorem d_M_change_42 : decode b_M_change 42 = .ok (.iload_n 1, 1) := by decide +kernel
theorem d_M_change_43 : decode b_M_change 43 = .ok (.iconst 1, 1) := by decide +kernel
theorem d_M_change_44 : decode b_M_change 44 = .ok (.if_icmp .ne 11, 3) := by decide +kernel
theorem d_M_change_47 : decode b_M_change 47 = .ok (.lload 4, 2) := by decide +kernel
theorem d_M_change_49 : decode b_M_change 49 = .ok (.iload_n 2, 1) := by decide +kernel
theorem d_M_change_50 : decode b_M_change 50 = .ok (.i2l, 1) := by decide +kernel
theorem d_M_change_51 : decode b_M_change 51 = .ok (.ladd, 1) := by decide +kernel
theorem d_M_change_52 : decode b_M_change 52 = .ok (.goto 18, 3) := by decide +kernel
theorem d_M_change_55 : decode b_M_change 55 = .ok (.iload_n 1, 1) := by decide +kernel
theorem d_M_change_56 : decode b_M_change 56 = .ok (.iconst 2, 1) := by decide +kernel
theorem d_M_change_57 : decode b_M_change 57 = .ok (.if_icmp .ne 11, 3) := by decide +kernel
theorem d_M_change_60 : decode b_M_change 60 = .ok (.lload 4, 2) := by decide +kernel
theorem d_M_change_62 : decode b_M_change 62 = .ok (.iload_n 2, 1) := by decide +kernel
theorem d_M_change_63 : decode b_M_change 63 = .ok (.i2l, 1) := by decide +kernel
theorem d_M_change_64 : decode b_M_change 64 = .ok (.lsub, 1) := by decide +kernel
theorem d_M_change_65 : decode b_M_change 65 = .ok (.goto 5, 3) := by decide +kernel
theorem d_M_change_68 : decode b_M_change 68 = .ok (.lload 4, 2) := by decide +kernel
theorem d_M_change_70 : decode b_M_change 70 = .ok (.lastore, 1) := by decide +kernel
theorem d_M_change_71 : decode b_M_change 71 = .ok (.aload_n 0, 1) := by decide +kernel
theorem d_M_change_72 : decode b_M_change 72 = .ok (.getfield 55, 3) := by decide +kernel
theorem d_M_change_75 : decode b_M_change 75 = .ok (.iconst 0, 1) := by decide +kernel
theorem d_M_change_76 : decode b_M_change 76 = .ok (.iload_n 1, 1) := by decide +kernel
theorem d_M_change_77 : decode b_M_change 77 = .ok (.ifCond .ne 7, 3) := by decide +kernel
theorem d_M_change_80 : decode b_M_change 80 = .ok (.lconst 1, 1) := by decide +kernel
theorem d_M_change_81 : decode b_M_change 81 = .ok (.goto 18, 3) := by decide +kernel
theorem d_M_change_84 : decode b_M_change 84 = .ok (.iload_n 1, 1) := by decide +kernel
theorem d_M_change_85 : decode b_M_change 85 = .ok (.iconst 5, 1) := by decide +kernel
theorem d_M_change_86 : decode b_M_change 86 = .ok (.if_icmp .ne 7, 3) := by decide +kernel
theorem d_M_change_89 : decode b_M_change 89 = .ok (.lconst 0, 1) := by decide +kernel
theorem d_M_change_90 : decode b_M_change 90 = .ok (.goto 9, 3) := by decide +kernel
theorem d_M_change_93 : decode b_M_change 93 = .ok (.aload_n 0, 1) := by decide +kernel
theorem d_M_change_94 : decode b_M_change 94 = .ok (.getfield 55, 3) := by decide +kernel
theorem d_M_change_97 : decode b_M_change 97 = .ok (.iconst 0, 1) := by decide +kernel
theorem d_M_change_98 : decode b_M_change 98 = .ok (.laload, 1) := by decide +kernel
theorem d_M_change_99 : decode b_M_change 99 = .ok (.lastore, 1) := by decide +kernel
theorem d_M_change_100 : decode b_M_change 100 = .ok (.aload_n 0, 1) := by decide +kernel
theorem d_M_change_101 : decode b_M_change 101 = .ok (.getfield 55, 3) := by decide +kernel
theorem d_M_change_104 : decode b_M_change 104 = .ok (.iconst 1, 1) := by decide +kernel
theorem d_M_change_105 : decode b_M_change 105 = .ok (.iload_n 1, 1) := by decide +kernel
theorem d_M_change_106 : decode b_M_change 106 = .ok (.iconst 3, 1) := by decide +kernel
theorem d_M_change_107 : decode b_M_change 107 = .ok (.if_icmp .ne 7, 3) := by decide +kernel
theorem d_M_change_110 : decode b_M_change 110 = .ok (.lconst 1, 1) := by decide +kernel
theorem d_M_change_111 : decode b_M_change 111 = .ok (.goto 18, 3) := by decide +kernel
theorem d_M_change_114 : decode b_M_change 114 = .ok (.iload_n 1, 1) := by decide +kernel
theorem d_M_change_115 : decode b_M_change 115 = .ok (.iconst 4, 1) := by decide +kernel
theorem d_M_change_116 : decode b_M_change 116 = .ok (.if_icmp .ne 7, 3) := by decide +kernel
theorem d_M_change_119 : decode b_M_change 119 = .ok (.lconst 0, 1) := by decide +kernel
theorem d_M_change_120 : decode b_M_change 120 = .ok (.goto 9, 3) := by decide +kernel
theorem d_M_change_123 : decode b_M_change 123 = .ok (.aload_n 0, 1) := by decide +kernel
theorem d_M_change_124 : decode b_M_change 124 = .ok (.getfield 55, 3) := by decide +kernel
theorem d_M_change_127 : decode b_M_change 127 = .ok (.iconst 1, 1) := by decide +kernel
theorem d_M_change_128 : decode b_M_change 128 = .ok (.laload, 1) := by decide +kernel
theorem d_M_change_129 : decode b_M_change 129 = .ok (.lastore, 1) := by decide +kernel
theorem d_M_change_130 : decode b_M_change 130 = .ok (.aload_n 0, 1) := by decide +kernel
theorem d_M_change_131 : decode b_M_change 131 = .ok (.getfield 55, 3) := by decide +kernel
theorem d_M_change_134 : decode b_M_change 134 = .ok (.iconst 4, 1) := by decide +kernel
theorem d_M_change_135 : decode b_M_change 135 = .ok (.aload_n 0, 1) := by decide +kernel
theorem d_M_change_136 : decode b_M_change 136 = .ok (.getfield 55, 3) := by decide +kernel
theorem d_M_change_139 : decode b_M_change 139 = .ok (.iconst 3, 1) := by decide +kernel
theorem d_M_change_140 : decode b_M_change 140 = .ok (.laload, 1) := by decide +kernel
theorem d_M_change_141 : decode b_M_change 141 = .ok (.aload_n 0, 1) := by decide +kernel
theorem d_M_change_142 : decode b_M_change 142 = .ok (.getfield 55, 3) := by decide +kernel
theorem d_M_change_145 : decode b_M_change 145 = .ok (.iconst 4, 1) := by decide +kernel
theorem d_M_change_146 : decode b_M_change 146 = .ok (.laload, 1) := by decide +kernel
theorem d_M_change_147 : decode b_M_change 147 = .ok (.lcmp, 1) := by decide +kernel
theorem d_M_change_148 : decode b_M_change 148 = .ok (.ifCond .le 12, 3) := by decide +kernel
theorem d_M_change_151 : decode b_M_change 151 = .ok (.aload_n 0, 1) := by decide +kernel
theorem d_M_change_152 : decode b_M_change 152 = .ok (.getfield 55, 3) := by decide +kernel
theorem d_M_change_155 : decode b_M_change 155 = .ok (.iconst 3, 1) := by decide +kernel
theorem d_M_change_156 : decode b_M_change 156 = .ok (.laload, 1) := by decide +kernel
theorem d_M_change_157 : decode b_M_change 157 = .ok (.goto 9, 3) := by decide +kernel
theorem d_M_change_160 : decode b_M_change 160 = .ok (.aload_n 0, 1) := by decide +kernel
theorem d_M_change_161 : decode b_M_change 161 = .ok (.getfield 55, 3) := by decide +kernel
theorem d_M_change_164 : decode b_M_change 164 = .ok (.iconst 4, 1) := by decide +kernel
theorem d_M_change_165 : decode b_M_change 165 = .ok (.laload, 1) := by decide +kernel
theorem d_M_change_166 : decode b_M_change 166 = .ok (.lastore, 1) := by decide +kernel
theorem d_M_change_167 : decode b_M_change 167 = .ok (.aload_n 0, 1) := by decide +kernel
theorem d_M_change_168 : decode b_M_change 168 = .ok (.getfield 55, 3) := by decide +kernel
theorem d_M_change_171 : decode b_M_change 171 = .ok (.iconst 5, 1) := by decide +kernel
theorem d_M_change_172 : decode b_M_change 172 = .ok (.aload_n 0, 1) := by decide +kernel
theorem d_M_change_173 : decode b_M_change 173 = .ok (.getfield 55, 3) := by decide +kernel
theorem d_M_change_176 : decode b_M_change 176 = .ok (.iconst 5, 1) := by decide +kernel
theorem d_M_change_177 : decode b_M_change 177 = .ok (.laload, 1) := by decide +kernel
theorem d_M_change_178 : decode b_M_change 178 = .ok (.lconst 1, 1) := by decide +kernel
theorem d_M_change_179 : decode b_M_change 179 = .ok (.ladd, 1) := by decide +kernel
theorem d_M_change_180 : decode b_M_change 180 = .ok (.lastore, 1) := by decide +kernel
theorem d_M_change_181 : decode b_M_change 181 = .ok (.aload_n 0, 1) := by decide +kernel
theorem d_M_change_182 : decode b_M_change 182 = .ok (.getfield 55, 3) := by decide +kernel
theorem d_M_change_185 : decode b_M_change 185 = .ok (.bipush 7, 2) := by decide +kernel
theorem d_M_change_187 : decode b_M_change 187 = .ok (.aload_n 0, 1) := by decide +kernel
theorem d_M_change_188 : decode b_M_change 188 = .ok (.getfield 55, 3) := by decide +kernel
theorem d_M_change_191 : decode b_M_change 191 = .ok (.bipush 7, 2) := by decide +kernel
theorem d_M_change_193 : decode b_M_change 193 = .ok (.laload, 1) := by decide +kernel
theorem d_M_change_194 : decode b_M_change 194 = .ok (.ldc2_w 103, 3) := by decide +kernel
theorem d_M_change_197 : decode b_M_change 197 = .ok (.lmul, 1) := by decide +kernel
theorem d_M_change_198 : decode b_M_change 198 = .ok (.iload_n 1, 1) := by decide +kernel
theorem d_M_change_199 : decode b_M_change 199 = .ok (.i2l, 1) := by decide +kernel
theorem d_M_change_200 : decode b_M_change 200 = .ok (.ladd, 1) := by decide +kernel
theorem d_M_change_201 : decode b_M_change 201 = .ok (.ldc2_w 105, 3) := by decide +kernel
theorem d_M_change_204 : decode b_M_change 204 = .ok (.iload_n 2, 1) := by decide +kernel
theorem d_M_change_205 : decode b_M_change 205 = .ok (.i2l, 1) := by decide +kernel
theorem d_M_change_206 : decode b_M_change 206 = .ok (.lmul, 1) := by decide +kernel
theorem d_M_change_207 : decode b_M_change 207 = .ok (.ladd, 1) := by decide +kernel
theorem d_M_change_208 : decode b_M_change 208 = .ok (.iload_n 3, 1) := by decide +kernel
theorem d_M_change_209 : decode b_M_change 209 = .ok (.i2l, 1) := by decide +kernel
theorem d_M_change_210 : decode b_M_change 210 = .ok (.lxor, 1) := by decide +kernel
theorem d_M_change_211 : decode b_M_change 211 = .ok (.lastore, 1) := by decide +kernel
theorem d_M_change_212 : decode b_M_change 212 = .ok (.return_, 1) := by decide +kernel
theorem d_M_fold_0 : decode b_M_fold 0 = .ok (.iconst 1, 1) := by decide +kernel
theorem d_M_fold_1 : decode b_M_fold 1 = .ok (.istore_n 2, 1) := by decide +kernel
theorem d_M_fold_2 : decode b_M_fold 2 = .ok (.aload_n 0, 1) := by decide +kernel
theorem d_M_fold_3 : decode b_M_fold 3 = .ok (.iload_n 1, 1) := by decide +kernel
theorem d_M_fold_4 : decode b_M_fold 4 = .ok (.invokevirtual 107, 3) := by decide +kernel
theorem d_M_fold_7 : decode b_M_fold 7 = .ok (.iconst 0, 1) := by decide +kernel
theorem d_M_fold_8 : decode b_M_fold 8 = .ok (.istore_n 3, 1) := by decide +kernel
theorem d_M_fold_9 : decode b_M_fold 9 = .ok (.iload_n 3, 1) := by decide +kernel
theorem d_M_fold_10 : decode b_M_fold 10 = .ok (.aload_n 0, 1) := by decide +kernel
theorem d_M_fold_11 : decode b_M_fold 11 = .ok (.getfield 97, 3) := by decide +kernel
theorem d_M_fold_14 : decode b_M_fold 14 = .ok (.if_icmp .ge 71, 3) := by decide +kernel
theorem d_M_fold_17 : decode b_M_fold 17 = .ok (.aload_n 0, 1) := by decide +kernel
theorem d_M_fold_18 : decode b_M_fold 18 = .ok (.aload_n 0, 1) := by decide +kernel
theorem d_M_fold_19 : decode b_M_fold 19 = .ok (.getfield 34, 3) := by decide +kernel
theorem d_M_fold_22 : decode b_M_fold 22 = .ok (.iload_n 3, 1) := by decide +kernel
theorem d_M_fold_23 : decode b_M_fold 23 = .ok (.iaload, 1) := by decide +kernel
theorem d_M_fold_24 : decode b_M_fold 24 = .ok (.aload_n 0, 1) := by decide +kernel
theorem d_M_fold_25 : decode b_M_fold 25 = .ok (.getfield 37, 3) := by decide +kernel
theorem d_M_fold_28 : decode b_M_fold 28 = .ok (.iload_n 3, 1) := by decide +kernel
theorem d_M_fold_29 : decode b_M_fold 29 = .ok (.iaload, 1) := by decide +kernel
theorem d_M_fold_30 : decode b_M_fold 30 = .ok (.invokevirtual 111, 3) := by decide +kernel
theorem d_M_fold_33 : decode b_M_fold 33 = .ok (.ifCond .eq 28, 3) := by decide +kernel
theorem d_M_fold_36 : decode b_M_fold 36 = .ok (.aload_n 0, 1) := by decide +kernel
theorem d_M_fold_37 : decode b_M_fold 37 = .ok (.aload_n 0, 1) := by decide +kernel
theorem d_M_fold_38 : decode b_M_fold 38 = .ok (.getfield 34, 3) := by decide +kernel
theorem d_M_fold_41 : decode b_M_fold 41 = .ok (.iload_n 3, 1) := by decide +kernel
theorem d_M_fold_42 : decode b_M_fold 42 = .ok (.iaload, 1) := by decide +kernel
theorem d_M_fold_43 : decode b_M_fold 43 = .ok (.aload_n 0, 1) := by decide +kernel
theorem d_M_fold_44 : decode b_M_fold 44 = .ok (.getfield 37, 3) := by decide +kernel
theorem d_M_fold_47 : decode b_M_fold 47 = .ok (.iload_n 3, 1) := by decide +kernel
theorem d_M_fold_48 : decode b_M_fold 48 = .ok (.iaload, 1) := by decide +kernel
theorem d_M_fold_49 : decode b_M_fold 49 = .ok (.aload_n 0, 1) := by decide +kernel
theorem d_M_fold_50 : decode b_M_fold 50 = .ok (.getfield 40, 3) := by decide +kernel
theorem d_M_fold_53 : decode b_M_fold 53 = .ok (.iload_n 3, 1) := by decide +kernel
theorem d_M_fold_54 : decode b_M_fold 54 = .ok (.iaload, 1) := by decide +kernel
theorem d_M_fold_55 : decode b_M_fold 55 = .ok (.invokevirtual 115, 3) := by decide +kernel
theorem d_M_fold_58 : decode b_M_fold 58 = .ok (.goto 21, 3) := by decide +kernel
theorem d_M_fold_61 : decode b_M_fold 61 = .ok (.aload_n 0, 1) := by decide +kernel
theorem d_M_fold_62 : decode b_M_fold 62 = .ok (.getfield 55, 3) := by decide +kernel
theorem d_M_fold_65 : decode b_M_fold 65 = .ok (.bipush 6, 2) := by decide +kernel
theorem d_M_fold_67 : decode b_M_fold 67 = .ok (.aload_n 0, 1) := by decide +kernel
theorem d_M_fold_68 : decode b_M_fold 68 = .ok (.getfield 55, 3) := by decide +kernel
theorem d_M_fold_71 : decode b_M_fold 71 = .ok (.bipush 6, 2) := by decide +kernel
theorem d_M_fold_73 : decode b_M_fold 73 = .ok (.laload, 1) := by decide +kernel
theorem d_M_fold_74 : decode b_M_fold 74 = .ok (.lconst 1, 1) := by decide +kernel
theorem d_M_fold_75 : decode b_M_fold 75 = .ok (.ladd, 1) := by decide +kernel
theorem d_M_fold_76 : decode b_M_fold 76 = .ok (.lastore, 1) := by decide +kernel
theorem d_M_fold_77 : decode b_M_fold 77 = .ok (.iconst 0, 1) := by decide +kernel
theorem d_M_fold_78 : decode b_M_fold 78 = .ok (.istore_n 2, 1) := by decide +kernel
theorem d_M_fold_79 : decode b_M_fold 79 = .ok (.iinc 3 1, 3) := by decide +kernel
theorem d_M_fold_82 : decode b_M_fold 82 = .ok (.goto (-73), 3) := by decide +kernel
theorem d_M_fold_85 : decode b_M_fold 85 = .ok (.iload_n 2, 1) := by decide +kernel
theorem d_M_fold_86 : decode b_M_fold 86 = .ok (.ireturn, 1) := by decide +kernel
theorem d_M_foldStream_0 : decode b_M_foldStream 0 = .ok (.iconst 0, 1) := by decide +kernel
theorem d_M_foldStream_1 : decode b_M_foldStream 1 = .ok (.istore_n 3, 1) := by decide +kernel
theorem d_M_foldStream_2 : decode b_M_foldStream 2 = .ok (.iload_n 3, 1) := by decide +kernel
theorem d_M_foldStream_3 : decode b_M_foldStream 3 = .ok (.bipush 8, 2) := by decide +kernel
theorem d_M_foldStream_5 : decode b_M_foldStream 5 = .ok (.if_icmp .ge 16, 3) := by decide +kernel
theorem d_M_foldStream_8 : decode b_M_foldStream 8 = .ok (.aload_n 0, 1) := by decide +kernel
theorem d_M_foldStream_9 : decode b_M_foldStream 9 = .ok (.getfield 55, 3) := by decide +kernel
theorem d_M_foldStream_12 : decode b_M_foldStream 12 = .ok (.iload_n 3, 1) := by decide +kernel
theorem d_M_foldStream_13 : decode b_M_foldStream 13 = .ok (.lconst 0, 1) := by decide +kernel
theorem d_M_foldStream_14 : decode b_M_foldStream 14 = .ok (.lastore, 1) := by decide +kernel
theorem d_M_foldStream_15 : decode b_M_foldStream 15 = .ok (.iinc 3 1, 3) := by decide +kernel
theorem d_M_foldStream_18 : decode b_M_foldStream 18 = .ok (.goto (-16), 3) := by decide +kernel
theorem d_M_foldStream_21 : decode b_M_foldStream 21 = .ok (.iconst 0, 1) := by decide +kernel
theorem d_M_foldStream_22 : decode b_M_foldStream 22 = .ok (.istore_n 3, 1) := by decide +kernel
theorem d_M_foldStream_23 : decode b_M_foldStream 23 = .ok (.iconst 0, 1) := by decide +kernel
theorem d_M_foldStream_24 : decode b_M_foldStream 24 = .ok (.istore 4, 2) := by decide +kernel
theorem d_M_foldStream_26 : decode b_M_foldStream 26 = .ok (.iload 4, 2) := by decide +kernel
theorem d_M_foldStream_28 : decode b_M_foldStream 28 = .ok (.aload_n 0, 1) := by decide +kernel
theorem d_M_foldStream_29 : decode b_M_foldStream 29 = .ok (.getfield 119, 3) := by decide +kernel
theorem d_M_foldStream_32 : decode b_M_foldStream 32 = .ok (.if_icmp .ge 36, 3) := by decide +kernel
theorem d_M_foldStream_35 : decode b_M_foldStream 35 = .ok (.aload_n 0, 1) := by decide +kernel
theorem d_M_foldStream_36 : decode b_M_foldStream 36 = .ok (.getfield 7, 3) := by decide +kernel
theorem d_M_foldStream_39 : decode b_M_foldStream 39 = .ok (.iload 4, 2) := by decide +kernel
theorem d_M_foldStream_41 : decode b_M_foldStream 41 = .ok (.iaload, 1) := by decide +kernel
theorem d_M_foldStream_42 : decode b_M_foldStream 42 = .ok (.iload_n 1, 1) := by decide +kernel
theorem d_M_foldStream_43 : decode b_M_foldStream 43 = .ok (.if_icmp .ne 19, 3) := by decide +kernel
theorem d_M_foldStream_46 : decode b_M_foldStream 46 = .ok (.iload_n 3, 1) := by decide +kernel
theorem d_M_foldStream_47 : decode b_M_foldStream 47 = .ok (.iload_n 2, 1) := by decide +kernel
theorem d_M_foldStream_48 : decode b_M_foldStream 48 = .ok (.if_icmp .ge 10, 3) := by decide +kernel
theorem d_M_foldStream_51 : decode b_M_foldStream 51 = .ok (.aload_n 0, 1) := by decide +kernel
theorem d_M_foldStream_52 : decode b_M_foldStream 52 = .ok (.iload 4, 2) := by decide +kernel
theorem d_M_foldStream_54 : decode b_M_foldStream 54 = .ok (.invokevirtual 122, 3) := by decide +kernel
theorem d_M_foldStream_57 : decode b_M_foldStream 57 = .ok (.pop, 1) := by decide +kernel
theorem d_M_foldStream_58 : decode b_M_foldStream 58 = .ok (.iload_n 3, 1) := by decide +kernel
theorem d_M_foldStream_59 : decode b_M_foldStream 59 = .ok (.iconst 1, 1) := by decide +kernel
theorem d_M_foldStream_60 : decode b_M_foldStream 60 = .ok (.iadd, 1) := by decide +kernel
theorem d_M_foldStream_61 : decode b_M_foldStream 61 = .ok (.istore_n 3, 1) := by decide +kernel
theorem d_M_foldStream_62 : decode b_M_foldStream 62 = .ok (.iinc 4 1, 3) := by decide +kernel
theorem d_M_foldStream_65 : decode b_M_foldStream 65 = .ok (.goto (-39), 3) := by decide +kernel
theorem d_M_foldStream_68 : decode b_M_foldStream 68 = .ok (.return_, 1) := by decide +kernel
theorem d_M_versionOf_0 : decode b_M_versionOf 0 = .ok (.iconst 0, 1) := by decide +kernel
theorem d_M_versionOf_1 : decode b_M_versionOf 1 = .ok (.istore_n 2, 1) := by decide +kernel
theorem d_M_versionOf_2 : decode b_M_versionOf 2 = .ok (.iconst 0, 1) := by decide +kernel
theorem d_M_versionOf_3 : decode b_M_versionOf 3 = .ok (.istore_n 3, 1) := by decide +kernel
theorem d_M_versionOf_4 : decode b_M_versionOf 4 = .ok (.iload_n 3, 1) := by decide +kernel
theorem d_M_versionOf_5 : decode b_M_versionOf 5 = .ok (.aload_n 0, 1) := by decide +kernel
theorem d_M_versionOf_6 : decode b_M_versionOf 6 = .ok (.getfield 119, 3) := by decide +kernel
theorem d_M_versionOf_9 : decode b_M_versionOf 9 = .ok (.if_icmp .ge 27, 3) := by decide +kernel
theorem d_M_versionOf_12 : decode b_M_versionOf 12 = .ok (.aload_n 0, 1) := by decide +kernel
theorem d_M_versionOf_13 : decode b_M_versionOf 13 = .ok (.getfield 7, 3) := by decide +kernel
theorem d_M_versionOf_16 : decode b_M_versionOf 16 = .ok (.iload_n 3, 1) := by decide +kernel
theorem d_M_versionOf_17 : decode b_M_versionOf 17 = .ok (.iaload, 1) := by decide +kernel
theorem d_M_versionOf_18 : decode b_M_versionOf 18 = .ok (.iload_n 1, 1) := by decide +kernel
theorem d_M_versionOf_19 : decode b_M_versionOf 19 = .ok (.if_icmp .ne 9, 3) := by decide +kernel
theorem d_M_versionOf_22 : decode b_M_versionOf 22 = .ok (.iload_n 2, 1) := by decide +kernel
theorem d_M_versionOf_23 : decode b_M_versionOf 23 = .ok (.iconst 1, 1) := by decide +kernel
theorem d_M_versionOf_24 : decode b_M_versionOf 24 = .ok (.iadd, 1) := by decide +kernel
theorem d_M_versionOf_25 : decode b_M_versionOf 25 = .ok (.goto 4, 3) := by decide +kernel
theorem d_M_versionOf_28 : decode b_M_versionOf 28 = .ok (.iload_n 2, 1) := by decide +kernel
theorem d_M_versionOf_29 : decode b_M_versionOf 29 = .ok (.istore_n 2, 1) := by decide +kernel
theorem d_M_versionOf_30 : decode b_M_versionOf 30 = .ok (.iinc 3 1, 3) := by decide +kernel
theorem d_M_versionOf_33 : decode b_M_versionOf 33 = .ok (.goto (-29), 3) := by decide +kernel
theorem d_M_versionOf_36 : decode b_M_versionOf 36 = .ok (.iload_n 2, 1) := by decide +kernel
theorem d_M_versionOf_37 : decode b_M_versionOf 37 = .ok (.ireturn, 1) := by decide +kernel
theorem d_M_stage_0 : decode b_M_stage 0 = .ok (.aload_n 0, 1) := by decide +kernel
theorem d_M_stage_1 : decode b_M_stage 1 = .ok (.iconst 0, 1) := by decide +kernel
theorem d_M_stage_2 : decode b_M_stage 2 = .ok (.putfield 84, 3) := by decide +kernel
theorem d_M_stage_5 : decode b_M_stage 5 = .ok (.aload_n 0, 1) := by decide +kernel
theorem d_M_stage_6 : decode b_M_stage 6 = .ok (.getfield 126, 3) := by decide +kernel
theorem d_M_stage_9 : decode b_M_stage 9 = .ok (.iconst 4, 1) := by decide +kernel
theorem d_M_stage_10 : decode b_M_stage 10 = .ok (.if_icmp .eq 20, 3) := by decide +kernel
theorem d_M_stage_13 : decode b_M_stage 13 = .ok (.iload_n 1, 1) := by decide +kernel
theorem d_M_stage_14 : decode b_M_stage 14 = .ok (.invokestatic 129, 3) := by decide +kernel
theorem d_M_stage_17 : decode b_M_stage 17 = .ok (.ifCond .eq 13, 3) := by decide +kernel
theorem d_M_stage_20 : decode b_M_stage 20 = .ok (.iload_n 2, 1) := by decide +kernel
theorem d_M_stage_21 : decode b_M_stage 21 = .ok (.iconst 1, 1) := by decide +kernel
theorem d_M_stage_22 : decode b_M_stage 22 = .ok (.if_icmp .lt 8, 3) := by decide +kernel
theorem d_M_stage_25 : decode b_M_stage 25 = .ok (.iload_n 2, 1) := by decide +kernel
theorem d_M_stage_26 : decode b_M_stage 26 = .ok (.iconst 3, 1) := by decide +kernel
theorem d_M_stage_27 : decode b_M_stage 27 = .ok (.if_icmp .le 5, 3) := by decide +kernel
theorem d_M_stage_30 : decode b_M_stage 30 = .ok (.iconst 0, 1) := by decide +kernel
theorem d_M_stage_31 : decode b_M_stage 31 = .ok (.ireturn, 1) := by decide +kernel
theorem d_M_stage_32 : decode b_M_stage 32 = .ok (.aload_n 0, 1) := by decide +kernel
theorem d_M_stage_33 : decode b_M_stage 33 = .ok (.getfield 13, 3) := by decide +kernel
theorem d_M_stage_36 : decode b_M_stage 36 = .ok (.bipush 64, 2) := by decide +kernel
theorem d_M_stage_38 : decode b_M_stage 38 = .ok (.aload_n 0, 1) := by decide +kernel
theorem d_M_stage_39 : decode b_M_stage 39 = .ok (.getfield 126, 3) := by decide +kernel
theorem d_M_stage_42 : decode b_M_stage 42 = .ok (.iadd, 1) := by decide +kernel
theorem d_M_stage_43 : decode b_M_stage 43 = .ok (.iload_n 1, 1) := by decide +kernel
theorem d_M_stage_44 : decode b_M_stage 44 = .ok (.iastore, 1) := by decide +kernel
theorem d_M_stage_45 : decode b_M_stage 45 = .ok (.aload_n 0, 1) := by decide +kernel
theorem d_M_stage_46 : decode b_M_stage 46 = .ok (.getfield 16, 3) := by decide +kernel
theorem d_M_stage_49 : decode b_M_stage 49 = .ok (.bipush 64, 2) := by decide +kernel
theorem d_M_stage_51 : decode b_M_stage 51 = .ok (.aload_n 0, 1) := by decide +kernel
theorem d_M_stage_52 : decode b_M_stage 52 = .ok (.getfield 126, 3) := by decide +kernel
theorem d_M_stage_55 : decode b_M_stage 55 = .ok (.iadd, 1) := by decide +kernel
theorem d_M_stage_56 : decode b_M_stage 56 = .ok (.iload_n 2, 1) := by decide +kernel
theorem d_M_stage_57 : decode b_M_stage 57 = .ok (.iastore, 1) := by decide +kernel
theorem d_M_stage_58 : decode b_M_stage 58 = .ok (.aload_n 0, 1) := by decide +kernel
theorem d_M_stage_59 : decode b_M_stage 59 = .ok (.getfield 19, 3) := by decide +kernel
theorem d_M_stage_62 : decode b_M_stage 62 = .ok (.bipush 64, 2) := by decide +kernel
theorem d_M_stage_64 : decode b_M_stage 64 = .ok (.aload_n 0, 1) := by decide +kernel
theorem d_M_stage_65 : decode b_M_stage 65 = .ok (.getfield 126, 3) := by decide +kernel
theorem d_M_stage_68 : decode b_M_stage 68 = .ok (.iadd, 1) := by decide +kernel
theorem d_M_stage_69 : decode b_M_stage 69 = .ok (.iload_n 3, 1) := by decide +kernel
theorem d_M_stage_70 : decode b_M_stage 70 = .ok (.iastore, 1) := by decide +kernel
theorem d_M_stage_71 : decode b_M_stage 71 = .ok (.aload_n 0, 1) := by decide +kernel
theorem d_M_stage_72 : decode b_M_stage 72 = .ok (.getfield 22, 3) := by decide +kernel
theorem d_M_stage_75 : decode b_M_stage 75 = .ok (.bipush 64, 2) := by decide +kernel
theorem d_M_stage_77 : decode b_M_stage 77 = .ok (.aload_n 0, 1) := by decide +kernel
theorem d_M_stage_78 : decode b_M_stage 78 = .ok (.getfield 126, 3) := by decide +kernel
theorem d_M_stage_81 : decode b_M_stage 81 = .ok (.iadd, 1) := by decide +kernel
theorem d_M_stage_82 : decode b_M_stage 82 = .ok (.iload 4, 2) := by decide +kernel
theorem d_M_stage_84 : decode b_M_stage 84 = .ok (.iastore, 1) := by decide +kernel
theorem d_M_stage_85 : decode b_M_stage 85 = .ok (.aload_n 0, 1) := by decide +kernel
theorem d_M_stage_86 : decode b_M_stage 86 = .ok (.aload_n 0, 1) := by decide +kernel
theorem d_M_stage_87 : decode b_M_stage 87 = .ok (.getfield 126, 3) := by decide +kernel
theorem d_M_stage_90 : decode b_M_stage 90 = .ok (.iconst 1, 1) := by decide +kernel
theorem d_M_stage_91 : decode b_M_stage 91 = .ok (.iadd, 1) := by decide +kernel
theorem d_M_stage_92 : decode b_M_stage 92 = .ok (.putfield 126, 3) := by decide +kernel
theorem d_M_stage_95 : decode b_M_stage 95 = .ok (.iconst 1, 1) := by decide +kernel
theorem d_M_stage_96 : decode b_M_stage 96 = .ok (.ireturn, 1) := by decide +kernel
theorem d_M_unstage_0 : decode b_M_unstage 0 = .ok (.aload_n 0, 1) := by decide +kernel
theorem d_M_unstage_1 : decode b_M_unstage 1 = .ok (.iconst 0, 1) := by decide +kernel
theorem d_M_unstage_2 : decode b_M_unstage 2 = .ok (.putfield 84, 3) := by decide +kernel
theorem d_M_unstage_5 : decode b_M_unstage 5 = .ok (.aload_n 0, 1) := by decide +kernel
theorem d_M_unstage_6 : decode b_M_unstage 6 = .ok (.getfield 126, 3) := by decide +kernel
theorem d_M_unstage_9 : decode b_M_unstage 9 = .ok (.istore_n 1, 1) := by decide +kernel
theorem d_M_unstage_10 : decode b_M_unstage 10 = .ok (.aload_n 0, 1) := by decide +kernel
theorem d_M_unstage_11 : decode b_M_unstage 11 = .ok (.iconst 0, 1) := by decide +kernel
theorem d_M_unstage_12 : decode b_M_unstage 12 = .ok (.putfield 126, 3) := by decide +kernel
theorem d_M_unstage_15 : decode b_M_unstage 15 = .ok (.iload_n 1, 1) := by decide +kernel
theorem d_M_unstage_16 : decode b_M_unstage 16 = .ok (.ireturn, 1) := by decide +kernel
theorem d_M_storeBatch_0 : decode b_M_storeBatch 0 = .ok (.iconst 0, 1) := by decide +kernel
theorem d_M_storeBatch_1 : decode b_M_storeBatch 1 = .ok (.istore_n 2, 1) := by decide +kernel
theorem d_M_storeBatch_2 : decode b_M_storeBatch 2 = .ok (.iload_n 2, 1) := by decide +kernel
theorem d_M_storeBatch_3 : decode b_M_storeBatch 3 = .ok (.aload_n 0, 1) := by decide +kernel
theorem d_M_storeBatch_4 : decode b_M_storeBatch 4 = .ok (.getfield 126, 3) := by decide +kernel
theorem d_M_storeBatch_7 : decode b_M_storeBatch 7 = .ok (.if_icmp .ge 101, 3) := by decide +kernel
theorem d_M_storeBatch_10 : decode b_M_storeBatch 10 = .ok (.aload_n 0, 1) := by decide +kernel
theorem d_M_storeBatch_11 : decode b_M_storeBatch 11 = .ok (.getfield 7, 3) := by decide +kernel
theorem d_M_storeBatch_14 : decode b_M_storeBatch 14 = .ok (.aload_n 0, 1) := by decide +kernel
theorem d_M_storeBatch_15 : decode b_M_storeBatch 15 = .ok (.getfield 119, 3) := by decide +kernel
theorem d_M_storeBatch_18 : decode b_M_storeBatch 18 = .ok (.iload_n 1, 1) := by decide +kernel
theorem d_M_storeBatch_19 : decode b_M_storeBatch 19 = .ok (.iastore, 1) := by decide +kernel
theorem d_M_storeBatch_20 : decode b_M_storeBatch 20 = .ok (.aload_n 0, 1) := by decide +kernel
theorem d_M_storeBatch_21 : decode b_M_storeBatch 21 = .ok (.getfield 13, 3) := by decide +kernel
theorem d_M_storeBatch_24 : decode b_M_storeBatch 24 = .ok (.aload_n 0, 1) := by decide +kernel
theorem d_M_storeBatch_25 : decode b_M_storeBatch 25 = .ok (.getfield 119, 3) := by decide +kernel
theorem d_M_storeBatch_28 : decode b_M_storeBatch 28 = .ok (.aload_n 0, 1) := by decide +kernel
theorem d_M_storeBatch_29 : decode b_M_storeBatch 29 = .ok (.getfield 13, 3) := by decide +kernel
theorem d_M_storeBatch_32 : decode b_M_storeBatch 32 = .ok (.bipush 64, 2) := by decide +kernel
theorem d_M_storeBatch_34 : decode b_M_storeBatch 34 = .ok (.iload_n 2, 1) := by decide +kernel
theorem d_M_storeBatch_35 : decode b_M_storeBatch 35 = .ok (.iadd, 1) := by decide +kernel
theorem d_M_storeBatch_36 : decode b_M_storeBatch 36 = .ok (.iaload, 1) := by decide +kernel
theorem d_M_storeBatch_37 : decode b_M_storeBatch 37 = .ok (.iastore, 1) := by decide +kernel
theorem d_M_storeBatch_38 : decode b_M_storeBatch 38 = .ok (.aload_n 0, 1) := by decide +kernel
theorem d_M_storeBatch_39 : decode b_M_storeBatch 39 = .ok (.getfield 16, 3) := by decide +kernel
theorem d_M_storeBatch_42 : decode b_M_storeBatch 42 = .ok (.aload_n 0, 1) := by decide +kernel
theorem d_M_storeBatch_43 : decode b_M_storeBatch 43 = .ok (.getfield 119, 3) := by decide +kernel
theorem d_M_storeBatch_46 : decode b_M_storeBatch 46 = .ok (.aload_n 0, 1) := by decide +kernel
theorem d_M_storeBatch_47 : decode b_M_storeBatch 47 = .ok (.getfield 16, 3) := by decide +kernel
theorem d_M_storeBatch_50 : decode b_M_storeBatch 50 = .ok (.bipush 64, 2) := by decide +kernel
theorem d_M_storeBatch_52 : decode b_M_storeBatch 52 = .ok (.iload_n 2, 1) := by decide +kernel
theorem d_M_storeBatch_53 : decode b_M_storeBatch 53 = .ok (.iadd, 1) := by decide +kernel
theorem d_M_storeBatch_54 : decode b_M_storeBatch 54 = .ok (.iaload, 1) := by decide +kernel
theorem d_M_storeBatch_55 : decode b_M_storeBatch 55 = .ok (.iastore, 1) := by decide +kernel
theorem d_M_storeBatch_56 : decode b_M_storeBatch 56 = .ok (.aload_n 0, 1) := by decide +kernel
theorem d_M_storeBatch_57 : decode b_M_storeBatch 57 = .ok (.getfield 19, 3) := by decide +kernel
theorem d_M_storeBatch_60 : decode b_M_storeBatch 60 = .ok (.aload_n 0, 1) := by decide +kernel
theorem d_M_storeBatch_61 : decode b_M_storeBatch 61 = .ok (.getfield 119, 3) := by decide +kernel
theorem d_M_storeBatch_64 : decode b_M_storeBatch 64 = .ok (.aload_n 0, 1) := by decide +kernel
theorem d_M_storeBatch_65 : decode b_M_storeBatch 65 = .ok (.getfield 19, 3) := by decide +kernel
theorem d_M_storeBatch_68 : decode b_M_storeBatch 68 = .ok (.bipush 64, 2) := by decide +kernel
theorem d_M_storeBatch_70 : decode b_M_storeBatch 70 = .ok (.iload_n 2, 1) := by decide +kernel
theorem d_M_storeBatch_71 : decode b_M_storeBatch 71 = .ok (.iadd, 1) := by decide +kernel
theorem d_M_storeBatch_72 : decode b_M_storeBatch 72 = .ok (.iaload, 1) := by decide +kernel
theorem d_M_storeBatch_73 : decode b_M_storeBatch 73 = .ok (.iastore, 1) := by decide +kernel
theorem d_M_storeBatch_74 : decode b_M_storeBatch 74 = .ok (.aload_n 0, 1) := by decide +kernel
theorem d_M_storeBatch_75 : decode b_M_storeBatch 75 = .ok (.getfield 22, 3) := by decide +kernel
theorem d_M_storeBatch_78 : decode b_M_storeBatch 78 = .ok (.aload_n 0, 1) := by decide +kernel
theorem d_M_storeBatch_79 : decode b_M_storeBatch 79 = .ok (.getfield 119, 3) := by decide +kernel
theorem d_M_storeBatch_82 : decode b_M_storeBatch 82 = .ok (.aload_n 0, 1) := by decide +kernel
theorem d_M_storeBatch_83 : decode b_M_storeBatch 83 = .ok (.getfield 22, 3) := by decide +kernel
theorem d_M_storeBatch_86 : decode b_M_storeBatch 86 = .ok (.bipush 64, 2) := by decide +kernel
theorem d_M_storeBatch_88 : decode b_M_storeBatch 88 = .ok (.iload_n 2, 1) := by decide +kernel
theorem d_M_storeBatch_89 : decode b_M_storeBatch 89 = .ok (.iadd, 1) := by decide +kernel
theorem d_M_storeBatch_90 : decode b_M_storeBatch 90 = .ok (.iaload, 1) := by decide +kernel
theorem d_M_storeBatch_91 : decode b_M_storeBatch 91 = .ok (.iastore, 1) := by decide +kernel
theorem d_M_storeBatch_92 : decode b_M_storeBatch 92 = .ok (.aload_n 0, 1) := by decide +kernel
theorem d_M_storeBatch_93 : decode b_M_storeBatch 93 = .ok (.aload_n 0, 1) := by decide +kernel
theorem d_M_storeBatch_94 : decode b_M_storeBatch 94 = .ok (.getfield 119, 3) := by decide +kernel
theorem d_M_storeBatch_97 : decode b_M_storeBatch 97 = .ok (.iconst 1, 1) := by decide +kernel
theorem d_M_storeBatch_98 : decode b_M_storeBatch 98 = .ok (.iadd, 1) := by decide +kernel
theorem d_M_storeBatch_99 : decode b_M_storeBatch 99 = .ok (.putfield 119, 3) := by decide +kernel
theorem d_M_storeBatch_102 : decode b_M_storeBatch 102 = .ok (.iinc 2 1, 3) := by decide +kernel
theorem d_M_storeBatch_105 : decode b_M_storeBatch 105 = .ok (.goto (-103), 3) := by decide +kernel
theorem d_M_storeBatch_108 : decode b_M_storeBatch 108 = .ok (.return_, 1) := by decide +kernel
theorem d_M_commit_0 : decode b_M_commit 0 = .ok (.iload_n 1, 1) := by decide +kernel
theorem d_M_commit_1 : decode b_M_commit 1 = .ok (.invokestatic 132, 3) := by decide +kernel
theorem d_M_commit_4 : decode b_M_commit 4 = .ok (.ifCond .eq 14, 3) := by decide +kernel
theorem d_M_commit_7 : decode b_M_commit 7 = .ok (.aload_n 0, 1) := by decide +kernel
theorem d_M_commit_8 : decode b_M_commit 8 = .ok (.getfield 126, 3) := by decide +kernel
theorem d_M_commit_11 : decode b_M_commit 11 = .ok (.ifCond .le 7, 3) := by decide +kernel
theorem d_M_commit_14 : decode b_M_commit 14 = .ok (.iconst 1, 1) := by decide +kernel
theorem d_M_commit_15 : decode b_M_commit 15 = .ok (.goto 4, 3) := by decide +kernel
theorem d_M_commit_18 : decode b_M_commit 18 = .ok (.iconst 0, 1) := by decide +kernel
theorem d_M_commit_19 : decode b_M_commit 19 = .ok (.istore_n 3, 1) := by decide +kernel
theorem d_M_commit_20 : decode b_M_commit 20 = .ok (.aload_n 0, 1) := by decide +kernel
theorem d_M_commit_21 : decode b_M_commit 21 = .ok (.iload_n 1, 1) := by decide +kernel
theorem d_M_commit_22 : decode b_M_commit 22 = .ok (.invokevirtual 135, 3) := by decide +kernel
theorem d_M_commit_25 : decode b_M_commit 25 = .ok (.istore 4, 2) := by decide +kernel
theorem d_M_commit_27 : decode b_M_commit 27 = .ok (.aload_n 0, 1) := by decide +kernel
theorem d_M_commit_28 : decode b_M_commit 28 = .ok (.iload_n 3, 1) := by decide +kernel
theorem d_M_commit_29 : decode b_M_commit 29 = .ok (.ifCond .ne 7, 3) := by decide +kernel
theorem d_M_commit_32 : decode b_M_commit 32 = .ok (.iconst 1, 1) := by decide +kernel
theorem d_M_commit_33 : decode b_M_commit 33 = .ok (.goto 37, 3) := by decide +kernel
theorem d_M_commit_36 : decode b_M_commit 36 = .ok (.iload_n 2, 1) := by decide +kernel
theorem d_M_commit_37 : decode b_M_commit 37 = .ok (.iconst (-1), 1) := by decide +kernel
theorem d_M_commit_38 : decode b_M_commit 38 = .ok (.if_icmp .eq 13, 3) := by decide +kernel
theorem d_M_commit_41 : decode b_M_commit 41 = .ok (.iload_n 2, 1) := by decide +kernel
theorem d_M_commit_42 : decode b_M_commit 42 = .ok (.iload 4, 2) := by decide +kernel
theorem d_M_commit_44 : decode b_M_commit 44 = .ok (.if_icmp .eq 7, 3) := by decide +kernel
theorem d_M_commit_47 : decode b_M_commit 47 = .ok (.iconst 2, 1) := by decide +kernel
theorem d_M_commit_48 : decode b_M_commit 48 = .ok (.goto 22, 3) := by decide +kernel
theorem d_M_commit_51 : decode b_M_commit 51 = .ok (.aload_n 0, 1) := by decide +kernel
theorem d_M_commit_52 : decode b_M_commit 52 = .ok (.getfield 119, 3) := by decide +kernel
theorem d_M_commit_55 : decode b_M_commit 55 = .ok (.aload_n 0, 1) := by decide +kernel
theorem d_M_commit_56 : decode b_M_commit 56 = .ok (.getfield 126, 3) := by decide +kernel
theorem d_M_commit_59 : decode b_M_commit 59 = .ok (.iadd, 1) := by decide +kernel
theorem d_M_commit_60 : decode b_M_commit 60 = .ok (.bipush 64, 2) := by decide +kernel
theorem d_M_commit_62 : decode b_M_commit 62 = .ok (.if_icmp .le 7, 3) := by decide +kernel
theorem d_M_commit_65 : decode b_M_commit 65 = .ok (.iconst 3, 1) := by decide +kernel
theorem d_M_commit_66 : decode b_M_commit 66 = .ok (.goto 4, 3) := by decide +kernel
theorem d_M_commit_69 : decode b_M_commit 69 = .ok (.iconst 0, 1) := by decide +kernel
theorem d_M_commit_70 : decode b_M_commit 70 = .ok (.putfield 84, 3) := by decide +kernel
theorem d_M_commit_73 : decode b_M_commit 73 = .ok (.aload_n 0, 1) := by decide +kernel
theorem d_M_commit_74 : decode b_M_commit 74 = .ok (.getfield 84, 3) := by decide +kernel
theorem d_M_commit_77 : decode b_M_commit 77 = .ok (.ifCond .le 5, 3) := by decide +kernel
theorem d_M_commit_80 : decode b_M_commit 80 = .ok (.iconst 0, 1) := by decide +kernel
theorem d_M_commit_81 : decode b_M_commit 81 = .ok (.ireturn, 1) := by decide +kernel
theorem d_M_commit_82 : decode b_M_commit 82 = .ok (.aload_n 0, 1) := by decide +kernel
theorem d_M_commit_83 : decode b_M_commit 83 = .ok (.iload_n 1, 1) := by decide +kernel
theorem d_M_commit_84 : decode b_M_commit 84 = .ok (.iload 4, 2) := by decide +kernel
theorem d_M_commit_86 : decode b_M_commit 86 = .ok (.invokevirtual 139, 3) := by decide +kernel
theorem d_M_commit_89 : decode b_M_commit 89 = .ok (.iconst 0, 1) := by decide +kernel
theorem d_M_commit_90 : decode b_M_commit 90 = .ok (.istore 5, 2) := by decide +kernel
theorem d_M_commit_92 : decode b_M_commit 92 = .ok (.iload 5, 2) := by decide +kernel
theorem d_M_commit_94 : decode b_M_commit 94 = .ok (.aload_n 0, 1) := by decide +kernel
theorem d_M_commit_95 : decode b_M_commit 95 = .ok (.getfield 126, 3) := by decide +kernel
theorem d_M_commit_98 : decode b_M_commit 98 = .ok (.if_icmp .ge 26, 3) := by decide +kernel
theorem d_M_commit_101 : decode b_M_commit 101 = .ok (.aload_n 0, 1) := by decide +kernel
theorem d_M_commit_102 : decode b_M_commit 102 = .ok (.bipush 64, 2) := by decide +kernel
theorem d_M_commit_104 : decode b_M_commit 104 = .ok (.iload 5, 2) := by decide +kernel
theorem d_M_commit_106 : decode b_M_commit 106 = .ok (.iadd, 1) := by decide +kernel
theorem d_M_commit_107 : decode b_M_commit 107 = .ok (.invokevirtual 122, 3) := by decide +kernel
theorem d_M_commit_110 : decode b_M_commit 110 = .ok (.ifCond .ne 8, 3) := by decide +kernel
theorem d_M_commit_113 : decode b_M_commit 113 = .ok (.iconst (-1), 1) := by decide +kernel
theorem d_M_commit_114 : decode b_M_commit 114 = .ok (.iload 5, 2) := by decide +kernel
theorem d_M_commit_116 : decode b_M_commit 116 = .ok (.isub, 1) := by decide +kernel
theorem d_M_commit_117 : decode b_M_commit 117 = .ok (.ireturn, 1) := by decide +kernel
theorem d_M_commit_118 : decode b_M_commit 118 = .ok (.iinc 5 1, 3) := by decide +kernel
theorem d_M_commit_121 : decode b_M_commit 121 = .ok (.goto (-29), 3) := by decide +kernel
theorem d_M_commit_124 : decode b_M_commit 124 = .ok (.aload_n 0, 1) := by decide +kernel
theorem d_M_commit_125 : decode b_M_commit 125 = .ok (.iload_n 1, 1) := by decide +kernel
theorem d_M_commit_126 : decode b_M_commit 126 = .ok (.invokevirtual 143, 3) := by decide +kernel
theorem d_M_commit_129 : decode b_M_commit 129 = .ok (.iload 4, 2) := by decide +kernel
theorem d_M_commit_131 : decode b_M_commit 131 = .ok (.aload_n 0, 1) := by decide +kernel
theorem d_M_commit_132 : decode b_M_commit 132 = .ok (.getfield 126, 3) := by decide +kernel
theorem d_M_commit_135 : decode b_M_commit 135 = .ok (.iadd, 1) := by decide +kernel
theorem d_M_commit_136 : decode b_M_commit 136 = .ok (.istore 5, 2) := by decide +kernel
theorem d_M_commit_138 : decode b_M_commit 138 = .ok (.aload_n 0, 1) := by decide +kernel
theorem d_M_commit_139 : decode b_M_commit 139 = .ok (.iconst 0, 1) := by decide +kernel
theorem d_M_commit_140 : decode b_M_commit 140 = .ok (.putfield 126, 3) := by decide +kernel
theorem d_M_commit_143 : decode b_M_commit 143 = .ok (.iload 5, 2) := by decide +kernel
theorem d_M_commit_145 : decode b_M_commit 145 = .ok (.aload_n 0, 1) := by decide +kernel
theorem d_M_commit_146 : decode b_M_commit 146 = .ok (.getfield 77, 3) := by decide +kernel
theorem d_M_commit_149 : decode b_M_commit 149 = .ok (.idiv, 1) := by decide +kernel
theorem d_M_commit_150 : decode b_M_commit 150 = .ok (.iload 4, 2) := by decide +kernel
theorem d_M_commit_152 : decode b_M_commit 152 = .ok (.aload_n 0, 1) := by decide +kernel
theorem d_M_commit_153 : decode b_M_commit 153 = .ok (.getfield 77, 3) := by decide +kernel
theorem d_M_commit_156 : decode b_M_commit 156 = .ok (.idiv, 1) := by decide +kernel
theorem d_M_commit_157 : decode b_M_commit 157 = .ok (.if_icmp .le 31, 3) := by decide +kernel
theorem d_M_commit_160 : decode b_M_commit 160 = .ok (.aload_n 0, 1) := by decide +kernel
theorem d_M_commit_161 : decode b_M_commit 161 = .ok (.getfield 31, 3) := by decide +kernel
theorem d_M_commit_164 : decode b_M_commit 164 = .ok (.iconst 2, 1) := by decide +kernel
theorem d_M_commit_165 : decode b_M_commit 165 = .ok (.iload_n 1, 1) := by decide +kernel
theorem d_M_commit_166 : decode b_M_commit 166 = .ok (.imul, 1) := by decide +kernel
theorem d_M_commit_167 : decode b_M_commit 167 = .ok (.iconst 1, 1) := by decide +kernel
theorem d_M_commit_168 : decode b_M_commit 168 = .ok (.iadd, 1) := by decide +kernel
theorem d_M_commit_169 : decode b_M_commit 169 = .ok (.aload_n 0, 1) := by decide +kernel
theorem d_M_commit_170 : decode b_M_commit 170 = .ok (.getfield 31, 3) := by decide +kernel
theorem d_M_commit_173 : decode b_M_commit 173 = .ok (.iconst 2, 1) := by decide +kernel
theorem d_M_commit_174 : decode b_M_commit 174 = .ok (.iload_n 1, 1) := by decide +kernel
theorem d_M_commit_175 : decode b_M_commit 175 = .ok (.imul, 1) := by decide +kernel
theorem d_M_commit_176 : decode b_M_commit 176 = .ok (.iaload, 1) := by decide +kernel
theorem d_M_commit_177 : decode b_M_commit 177 = .ok (.iastore, 1) := by decide +kernel
theorem d_M_commit_178 : decode b_M_commit 178 = .ok (.aload_n 0, 1) := by decide +kernel
theorem d_M_commit_179 : decode b_M_commit 179 = .ok (.getfield 31, 3) := by decide +kernel
theorem d_M_commit_182 : decode b_M_commit 182 = .ok (.iconst 2, 1) := by decide +kernel
theorem d_M_commit_183 : decode b_M_commit 183 = .ok (.iload_n 1, 1) := by decide +kernel
theorem d_M_commit_184 : decode b_M_commit 184 = .ok (.imul, 1) := by decide +kernel
theorem d_M_commit_185 : decode b_M_commit 185 = .ok (.iload 5, 2) := by decide +kernel
theorem d_M_commit_187 : decode b_M_commit 187 = .ok (.iastore, 1) := by decide +kernel
theorem d_M_commit_188 : decode b_M_commit 188 = .ok (.iload 5, 2) := by decide +kernel
theorem d_M_commit_190 : decode b_M_commit 190 = .ok (.ireturn, 1) := by decide +kernel
theorem d_M_version_0 : decode b_M_version 0 = .ok (.aload_n 0, 1) := by decide +kernel
theorem d_M_version_1 : decode b_M_version 1 = .ok (.iconst 0, 1) := by decide +kernel
theorem d_M_version_2 : decode b_M_version 2 = .ok (.putfield 84, 3) := by decide +kernel
theorem d_M_version_5 : decode b_M_version 5 = .ok (.iload_n 1, 1) := by decide +kernel
theorem d_M_version_6 : decode b_M_version 6 = .ok (.invokestatic 132, 3) := by decide +kernel
theorem d_M_version_9 : decode b_M_version 9 = .ok (.ifCond .eq 11, 3) := by decide +kernel
theorem d_M_version_12 : decode b_M_version 12 = .ok (.aload_n 0, 1) := by decide +kernel
theorem d_M_version_13 : decode b_M_version 13 = .ok (.iload_n 1, 1) := by decide +kernel
theorem d_M_version_14 : decode b_M_version 14 = .ok (.invokevirtual 135, 3) := by decide +kernel
theorem d_M_version_17 : decode b_M_version 17 = .ok (.goto 4, 3) := by decide +kernel
theorem d_M_version_20 : decode b_M_version 20 = .ok (.iconst (-1), 1) := by decide +kernel
theorem d_M_version_21 : decode b_M_version 21 = .ok (.ireturn, 1) := by decide +kernel
theorem d_M_total_0 : decode b_M_total 0 = .ok (.aload_n 0, 1) := by decide +kernel
theorem d_M_total_1 : decode b_M_total 1 = .ok (.iconst 0, 1) := by decide +kernel
theorem d_M_total_2 : decode b_M_total 2 = .ok (.putfield 84, 3) := by decide +kernel
theorem d_M_total_5 : decode b_M_total 5 = .ok (.aload_n 0, 1) := by decide +kernel
theorem d_M_total_6 : decode b_M_total 6 = .ok (.getfield 119, 3) := by decide +kernel
theorem d_M_total_9 : decode b_M_total 9 = .ok (.ireturn, 1) := by decide +kernel
theorem d_M_numberOf_0 : decode b_M_numberOf 0 = .ok (.iconst 0, 1) := by decide +kernel
theorem d_M_numberOf_1 : decode b_M_numberOf 1 = .ok (.istore_n 2, 1) := by decide +kernel
theorem d_M_numberOf_2 : decode b_M_numberOf 2 = .ok (.iconst 0, 1) := by decide +kernel
theorem d_M_numberOf_3 : decode b_M_numberOf 3 = .ok (.istore_n 3, 1) := by decide +kernel
theorem d_M_numberOf_4 : decode b_M_numberOf 4 = .ok (.iload_n 3, 1) := by decide +kernel
theorem d_M_numberOf_5 : decode b_M_numberOf 5 = .ok (.iload_n 1, 1) := by decide +kernel
theorem d_M_numberOf_6 : decode b_M_numberOf 6 = .ok (.if_icmp .ge 32, 3) := by decide +kernel
theorem d_M_numberOf_9 : decode b_M_numberOf 9 = .ok (.aload_n 0, 1) := by decide +kernel
theorem d_M_numberOf_10 : decode b_M_numberOf 10 = .ok (.getfield 7, 3) := by decide +kernel
theorem d_M_numberOf_13 : decode b_M_numberOf 13 = .ok (.iload_n 3, 1) := by decide +kernel
theorem d_M_numberOf_14 : decode b_M_numberOf 14 = .ok (.iaload, 1) := by decide +kernel
theorem d_M_numberOf_15 : decode b_M_numberOf 15 = .ok (.aload_n 0, 1) := by decide +kernel
theorem d_M_numberOf_16 : decode b_M_numberOf 16 = .ok (.getfield 7, 3) := by decide +kernel
theorem d_M_numberOf_19 : decode b_M_numberOf 19 = .ok (.iload_n 1, 1) := by decide +kernel
theorem d_M_numberOf_20 : decode b_M_numberOf 20 = .ok (.iaload, 1) := by decide +kernel
theorem d_M_numberOf_21 : decode b_M_numberOf 21 = .ok (.if_icmp .ne 9, 3) := by decide +kernel
theorem d_M_numberOf_24 : decode b_M_numberOf 24 = .ok (.iload_n 2, 1) := by decide +kernel
theorem d_M_numberOf_25 : decode b_M_numberOf 25 = .ok (.iconst 1, 1) := by decide +kernel
theorem d_M_numberOf_26 : decode b_M_numberOf 26 = .ok (.iadd, 1) := by decide +kernel
theorem d_M_numberOf_27 : decode b_M_numberOf 27 = .ok (.goto 4, 3) := by decide +kernel
theorem d_M_numberOf_30 : decode b_M_numberOf 30 = .ok (.iload_n 2, 1) := by decide +kernel
theorem d_M_numberOf_31 : decode b_M_numberOf 31 = .ok (.istore_n 2, 1) := by decide +kernel
theorem d_M_numberOf_32 : decode b_M_numberOf 32 = .ok (.iinc 3 1, 3) := by decide +kernel
theorem d_M_numberOf_35 : decode b_M_numberOf 35 = .ok (.goto (-31), 3) := by decide +kernel
theorem d_M_numberOf_38 : decode b_M_numberOf 38 = .ok (.iload_n 2, 1) := by decide +kernel
theorem d_M_numberOf_39 : decode b_M_numberOf 39 = .ok (.ireturn, 1) := by decide +kernel
theorem d_M_stored_0 : decode b_M_stored 0 = .ok (.aload_n 0, 1) := by decide +kernel
theorem d_M_stored_1 : decode b_M_stored 1 = .ok (.iload_n 1, 1) := by decide +kernel
theorem d_M_stored_2 : decode b_M_stored 2 = .ok (.ifCond .lt 20, 3) := by decide +kernel
theorem d_M_stored_5 : decode b_M_stored 5 = .ok (.iload_n 1, 1) := by decide +kernel
theorem d_M_stored_6 : decode b_M_stored 6 = .ok (.aload_n 0, 1) := by decide +kernel
theorem d_M_stored_7 : decode b_M_stored 7 = .ok (.getfield 119, 3) := by decide +kernel
theorem d_M_stored_10 : decode b_M_stored 10 = .ok (.if_icmp .ge 12, 3) := by decide +kernel
theorem d_M_stored_13 : decode b_M_stored 13 = .ok (.iload_n 2, 1) := by decide +kernel
theorem d_M_stored_14 : decode b_M_stored 14 = .ok (.ifCond .lt 8, 3) := by decide +kernel
theorem d_M_stored_17 : decode b_M_stored 17 = .ok (.iload_n 2, 1) := by decide +kernel
theorem d_M_stored_18 : decode b_M_stored 18 = .ok (.iconst 5, 1) := by decide +kernel
theorem d_M_stored_19 : decode b_M_stored 19 = .ok (.if_icmp .le 7, 3) := by decide +kernel
theorem d_M_stored_22 : decode b_M_stored 22 = .ok (.iconst 1, 1) := by decide +kernel
theorem d_M_stored_23 : decode b_M_stored 23 = .ok (.goto 4, 3) := by decide +kernel
theorem d_M_stored_26 : decode b_M_stored 26 = .ok (.iconst 0, 1) := by decide +kernel
theorem d_M_stored_27 : decode b_M_stored 27 = .ok (.putfield 84, 3) := by decide +kernel
theorem d_M_stored_30 : decode b_M_stored 30 = .ok (.aload_n 0, 1) := by decide +kernel
theorem d_M_stored_31 : decode b_M_stored 31 = .ok (.getfield 84, 3) := by decide +kernel
theorem d_M_stored_34 : decode b_M_stored 34 = .ok (.ifCond .le 5, 3) := by decide +kernel
theorem d_M_stored_37 : decode b_M_stored 37 = .ok (.iconst 0, 1) := by decide +kernel
theorem d_M_stored_38 : decode b_M_stored 38 = .ok (.ireturn, 1) := by decide +kernel
theorem d_M_stored_39 : decode b_M_stored 39 = .ok (.iload_n 2, 1) := by decide +kernel
theorem d_M_stored_40 : decode b_M_stored 40 = .ok (.ifCond .ne 12, 3) := by decide +kernel
theorem d_M_stored_43 : decode b_M_stored 43 = .ok (.aload_n 0, 1) := by decide +kernel
theorem d_M_stored_44 : decode b_M_stored 44 = .ok (.getfield 7, 3) := by decide +kernel
theorem d_M_stored_47 : decode b_M_stored 47 = .ok (.iload_n 1, 1) := by decide +kernel
theorem d_M_stored_48 : decode b_M_stored 48 = .ok (.iaload, 1) := by decide +kernel
theorem d_M_stored_49 : decode b_M_stored 49 = .ok (.goto 64, 3) := by decide +kernel
theorem d_M_stored_52 : decode b_M_stored 52 = .ok (.iload_n 2, 1) := by decide +kernel
theorem d_M_stored_53 : decode b_M_stored 53 = .ok (.iconst 1, 1) := by decide +kernel
theorem d_M_stored_54 : decode b_M_stored 54 = .ok (.if_icmp .ne 11, 3) := by decide +kernel
theorem d_M_stored_57 : decode b_M_stored 57 = .ok (.aload_n 0, 1) := by decide +kernel
theorem d_M_stored_58 : decode b_M_stored 58 = .ok (.iload_n 1, 1) := by decide +kernel
theorem d_M_stored_59 : decode b_M_stored 59 = .ok (.invokevirtual 146, 3) := by decide +kernel
theorem d_M_stored_62 : decode b_M_stored 62 = .ok (.goto 51, 3) := by decide +kernel
theorem d_M_stored_65 : decode b_M_stored 65 = .ok (.iload_n 2, 1) := by decide +kernel
theorem d_M_stored_66 : decode b_M_stored 66 = .ok (.iconst 2, 1) := by decide +kernel
theorem d_M_stored_67 : decode b_M_stored 67 = .ok (.if_icmp .ne 12, 3) := by decide +kernel
theorem d_M_stored_70 : decode b_M_stored 70 = .ok (.aload_n 0, 1) := by decide +kernel
theorem d_M_stored_71 : decode b_M_stored 71 = .ok (.getfield 13, 3) := by decide +kernel
theorem d_M_stored_74 : decode b_M_stored 74 = .ok (.iload_n 1, 1) := by decide +kernel
theorem d_M_stored_75 : decode b_M_stored 75 = .ok (.iaload, 1) := by decide +kernel
theorem d_M_stored_76 : decode b_M_stored 76 = .ok (.goto 37, 3) := by decide +kernel
theorem d_M_stored_79 : decode b_M_stored 79 = .ok (.iload_n 2, 1) := by decide +kernel
theorem d_M_stored_80 : decode b_M_stored 80 = .ok (.iconst 3, 1) := by decide +kernel
theorem d_M_stored_81 : decode b_M_stored 81 = .ok (.if_icmp .ne 12, 3) := by decide +kernel
theorem d_M_stored_84 : decode b_M_stored 84 = .ok (.aload_n 0, 1) := by decide +kernel
theorem d_M_stored_85 : decode b_M_stored 85 = .ok (.getfield 16, 3) := by decide +kernel
theorem d_M_stored_88 : decode b_M_stored 88 = .ok (.iload_n 1, 1) := by decide +kernel
theorem d_M_stored_89 : decode b_M_stored 89 = .ok (.iaload, 1) := by decide +kernel
theorem d_M_stored_90 : decode b_M_stored 90 = .ok (.goto 23, 3) := by decide +kernel
theorem d_M_stored_93 : decode b_M_stored 93 = .ok (.iload_n 2, 1) := by decide +kernel
theorem d_M_stored_94 : decode b_M_stored 94 = .ok (.iconst 4, 1) := by decide +kernel
theorem d_M_stored_95 : decode b_M_stored 95 = .ok (.if_icmp .ne 12, 3) := by decide +kernel
theorem d_M_stored_98 : decode b_M_stored 98 = .ok (.aload_n 0, 1) := by decide +kernel
theorem d_M_stored_99 : decode b_M_stored 99 = .ok (.getfield 19, 3) := by decide +kernel
theorem d_M_stored_102 : decode b_M_stored 102 = .ok (.iload_n 1, 1) := by decide +kernel
theorem d_M_stored_103 : decode b_M_stored 103 = .ok (.iaload, 1) := by decide +kernel
theorem d_M_stored_104 : decode b_M_stored 104 = .ok (.goto 9, 3) := by decide +kernel
theorem d_M_stored_107 : decode b_M_stored 107 = .ok (.aload_n 0, 1) := by decide +kernel
theorem d_M_stored_108 : decode b_M_stored 108 = .ok (.getfield 22, 3) := by decide +kernel
theorem d_M_stored_111 : decode b_M_stored 111 = .ok (.iload_n 1, 1) := by decide +kernel
theorem d_M_stored_112 : decode b_M_stored 112 = .ok (.iaload, 1) := by decide +kernel
theorem d_M_stored_113 : decode b_M_stored 113 = .ok (.ireturn, 1) := by decide +kernel
theorem d_M_learn_0 : decode b_M_learn 0 = .ok (.aload_n 0, 1) := by decide +kernel
theorem d_M_learn_1 : decode b_M_learn 1 = .ok (.iload_n 1, 1) := by decide +kernel
theorem d_M_learn_2 : decode b_M_learn 2 = .ok (.invokestatic 129, 3) := by decide +kernel
theorem d_M_learn_5 : decode b_M_learn 5 = .ok (.ifCond .eq 36, 3) := by decide +kernel
theorem d_M_learn_8 : decode b_M_learn 8 = .ok (.iload_n 2, 1) := by decide +kernel
theorem d_M_learn_9 : decode b_M_learn 9 = .ok (.iconst 1, 1) := by decide +kernel
theorem d_M_learn_10 : decode b_M_learn 10 = .ok (.if_icmp .lt 31, 3) := by decide +kernel
theorem d_M_learn_13 : decode b_M_learn 13 = .ok (.iload_n 2, 1) := by decide +kernel
theorem d_M_learn_14 : decode b_M_learn 14 = .ok (.iconst 2, 1) := by decide +kernel
theorem d_M_learn_15 : decode b_M_learn 15 = .ok (.if_icmp .gt 26, 3) := by decide +kernel
theorem d_M_learn_18 : decode b_M_learn 18 = .ok (.iload_n 3, 1) := by decide +kernel
theorem d_M_learn_19 : decode b_M_learn 19 = .ok (.ifCond .lt 22, 3) := by decide +kernel
theorem d_M_learn_22 : decode b_M_learn 22 = .ok (.iload_n 3, 1) := by decide +kernel
theorem d_M_learn_23 : decode b_M_learn 23 = .ok (.bipush 6, 2) := by decide +kernel
theorem d_M_learn_25 : decode b_M_learn 25 = .ok (.if_icmp .gt 16, 3) := by decide +kernel
theorem d_M_learn_28 : decode b_M_learn 28 = .ok (.iload_n 3, 1) := by decide +kernel
theorem d_M_learn_29 : decode b_M_learn 29 = .ok (.iconst 5, 1) := by decide +kernel
theorem d_M_learn_30 : decode b_M_learn 30 = .ok (.if_icmp .ne 15, 3) := by decide +kernel
theorem d_M_learn_33 : decode b_M_learn 33 = .ok (.iload 4, 2) := by decide +kernel
theorem d_M_learn_35 : decode b_M_learn 35 = .ok (.invokestatic 129, 3) := by decide +kernel
theorem d_M_learn_38 : decode b_M_learn 38 = .ok (.ifCond .ne 7, 3) := by decide +kernel
theorem d_M_learn_41 : decode b_M_learn 41 = .ok (.iconst 1, 1) := by decide +kernel
theorem d_M_learn_42 : decode b_M_learn 42 = .ok (.goto 4, 3) := by decide +kernel
theorem d_M_learn_45 : decode b_M_learn 45 = .ok (.iconst 0, 1) := by decide +kernel
theorem d_M_learn_46 : decode b_M_learn 46 = .ok (.putfield 84, 3) := by decide +kernel
theorem d_M_learn_49 : decode b_M_learn 49 = .ok (.aload_n 0, 1) := by decide +kernel
theorem d_M_learn_50 : decode b_M_learn 50 = .ok (.getfield 84, 3) := by decide +kernel
theorem d_M_learn_53 : decode b_M_learn 53 = .ok (.ifCond .le 4, 3) := by decide +kernel
theorem d_M_learn_56 : decode b_M_learn 56 = .ok (.return_, 1) := by decide +kernel
theorem d_M_learn_57 : decode b_M_learn 57 = .ok (.aload_n 0, 1) := by decide +kernel
theorem d_M_learn_58 : decode b_M_learn 58 = .ok (.getfield 25, 3) := by decide +kernel
theorem d_M_learn_61 : decode b_M_learn 61 = .ok (.iconst 2, 1) := by decide +kernel
theorem d_M_learn_62 : decode b_M_learn 62 = .ok (.iload_n 1, 1) := by decide +kernel
theorem d_M_learn_63 : decode b_M_learn 63 = .ok (.imul, 1) := by decide +kernel
theorem d_M_learn_64 : decode b_M_learn 64 = .ok (.iload_n 2, 1) := by decide +kernel
theorem d_M_learn_65 : decode b_M_learn 65 = .ok (.iadd, 1) := by decide +kernel
theorem d_M_learn_66 : decode b_M_learn 66 = .ok (.iconst 1, 1) := by decide +kernel
theorem d_M_learn_67 : decode b_M_learn 67 = .ok (.isub, 1) := by decide +kernel
theorem d_M_learn_68 : decode b_M_learn 68 = .ok (.iload_n 3, 1) := by decide +kernel
theorem d_M_learn_69 : decode b_M_learn 69 = .ok (.iastore, 1) := by decide +kernel
theorem d_M_learn_70 : decode b_M_learn 70 = .ok (.aload_n 0, 1) := by decide +kernel
theorem d_M_learn_71 : decode b_M_learn 71 = .ok (.getfield 28, 3) := by decide +kernel
theorem d_M_learn_74 : decode b_M_learn 74 = .ok (.iconst 2, 1) := by decide +kernel
theorem d_M_learn_75 : decode b_M_learn 75 = .ok (.iload_n 1, 1) := by decide +kernel
theorem d_M_learn_76 : decode b_M_learn 76 = .ok (.imul, 1) := by decide +kernel
theorem d_M_learn_77 : decode b_M_learn 77 = .ok (.iload_n 2, 1) := by decide +kernel
theorem d_M_learn_78 : decode b_M_learn 78 = .ok (.iadd, 1) := by decide +kernel
theorem d_M_learn_79 : decode b_M_learn 79 = .ok (.iconst 1, 1) := by decide +kernel
theorem d_M_learn_80 : decode b_M_learn 80 = .ok (.isub, 1) := by decide +kernel
theorem d_M_learn_81 : decode b_M_learn 81 = .ok (.iload 4, 2) := by decide +kernel
theorem d_M_learn_83 : decode b_M_learn 83 = .ok (.iastore, 1) := by decide +kernel
theorem d_M_learn_84 : decode b_M_learn 84 = .ok (.aload_n 0, 1) := by decide +kernel
theorem d_M_learn_85 : decode b_M_learn 85 = .ok (.invokevirtual 81, 3) := by decide +kernel
theorem d_M_learn_88 : decode b_M_learn 88 = .ok (.aload_n 0, 1) := by decide +kernel
theorem d_M_learn_89 : decode b_M_learn 89 = .ok (.iconst 0, 1) := by decide +kernel
theorem d_M_learn_90 : decode b_M_learn 90 = .ok (.putfield 126, 3) := by decide +kernel
theorem d_M_learn_93 : decode b_M_learn 93 = .ok (.aload_n 0, 1) := by decide +kernel
theorem d_M_learn_94 : decode b_M_learn 94 = .ok (.iconst 0, 1) := by decide +kernel
theorem d_M_learn_95 : decode b_M_learn 95 = .ok (.putfield 149, 3) := by decide +kernel
theorem d_M_learn_98 : decode b_M_learn 98 = .ok (.return_, 1) := by decide +kernel
theorem d_M_comes_0 : decode b_M_comes 0 = .ok (.aload_n 0, 1) := by decide +kernel
theorem d_M_comes_1 : decode b_M_comes 1 = .ok (.iload_n 1, 1) := by decide +kernel
theorem d_M_comes_2 : decode b_M_comes 2 = .ok (.ifCond .lt 11, 3) := by decide +kernel
theorem d_M_comes_5 : decode b_M_comes 5 = .ok (.iload_n 1, 1) := by decide +kernel
theorem d_M_comes_6 : decode b_M_comes 6 = .ok (.aload_n 0, 1) := by decide +kernel
theorem d_M_comes_7 : decode b_M_comes 7 = .ok (.getfield 119, 3) := by decide +kernel
theorem d_M_comes_10 : decode b_M_comes 10 = .ok (.if_icmp .lt 7, 3) := by decide +kernel
theorem d_M_comes_13 : decode b_M_comes 13 = .ok (.iconst 1, 1) := by decide +kernel
theorem d_M_comes_14 : decode b_M_comes 14 = .ok (.goto 4, 3) := by decide +kernel
theorem d_M_comes_17 : decode b_M_comes 17 = .ok (.iconst 0, 1) := by decide +kernel
theorem d_M_comes_18 : decode b_M_comes 18 = .ok (.putfield 84, 3) := by decide +kernel
theorem d_M_comes_21 : decode b_M_comes 21 = .ok (.aload_n 0, 1) := by decide +kernel
theorem d_M_comes_22 : decode b_M_comes 22 = .ok (.getfield 84, 3) := by decide +kernel
theorem d_M_comes_25 : decode b_M_comes 25 = .ok (.ifCond .le 5, 3) := by decide +kernel
theorem d_M_comes_28 : decode b_M_comes 28 = .ok (.iconst 0, 1) := by decide +kernel
theorem d_M_comes_29 : decode b_M_comes 29 = .ok (.ireturn, 1) := by decide +kernel
theorem d_M_comes_30 : decode b_M_comes 30 = .ok (.aload_n 0, 1) := by decide +kernel
theorem d_M_comes_31 : decode b_M_comes 31 = .ok (.iload_n 1, 1) := by decide +kernel
theorem d_M_comes_32 : decode b_M_comes 32 = .ok (.invokevirtual 107, 3) := by decide +kernel
theorem d_M_comes_35 : decode b_M_comes 35 = .ok (.aload_n 0, 1) := by decide +kernel
theorem d_M_comes_36 : decode b_M_comes 36 = .ok (.getfield 97, 3) := by decide +kernel
theorem d_M_comes_39 : decode b_M_comes 39 = .ok (.ireturn, 1) := by decide +kernel
theorem d_M_load_0 : decode b_M_load 0 = .ok (.aload_n 0, 1) := by decide +kernel
theorem d_M_load_1 : decode b_M_load 1 = .ok (.iload_n 1, 1) := by decide +kernel
theorem d_M_load_2 : decode b_M_load 2 = .ok (.invokestatic 132, 3) := by decide +kernel
theorem d_M_load_5 : decode b_M_load 5 = .ok (.ifCond .eq 16, 3) := by decide +kernel
theorem d_M_load_8 : decode b_M_load 8 = .ok (.iload_n 2, 1) := by decide +kernel
theorem d_M_load_9 : decode b_M_load 9 = .ok (.ifCond .lt 12, 3) := by decide +kernel
theorem d_M_load_12 : decode b_M_load 12 = .ok (.iload_n 2, 1) := by decide +kernel
theorem d_M_load_13 : decode b_M_load 13 = .ok (.aload_n 0, 1) := by decide +kernel
theorem d_M_load_14 : decode b_M_load 14 = .ok (.iload_n 1, 1) := by decide +kernel
theorem d_M_load_15 : decode b_M_load 15 = .ok (.invokevirtual 135, 3) := by decide +kernel
theorem d_M_load_18 : decode b_M_load 18 = .ok (.if_icmp .le 7, 3) := by decide +kernel
theorem d_M_load_21 : decode b_M_load 21 = .ok (.iconst 1, 1) := by decide +kernel
theorem d_M_load_22 : decode b_M_load 22 = .ok (.goto 4, 3) := by decide +kernel
theorem d_M_load_25 : decode b_M_load 25 = .ok (.iconst 0, 1) := by decide +kernel
theorem d_M_load_26 : decode b_M_load 26 = .ok (.putfield 84, 3) := by decide +kernel
theorem d_M_load_29 : decode b_M_load 29 = .ok (.aload_n 0, 1) := by decide +kernel
theorem d_M_load_30 : decode b_M_load 30 = .ok (.getfield 84, 3) := by decide +kernel
theorem d_M_load_33 : decode b_M_load 33 = .ok (.ifCond .le 5, 3) := by decide +kernel
theorem d_M_load_36 : decode b_M_load 36 = .ok (.iconst 0, 1) := by decide +kernel
theorem d_M_load_37 : decode b_M_load 37 = .ok (.ireturn, 1) := by decide +kernel
theorem d_M_load_38 : decode b_M_load 38 = .ok (.aload_n 0, 1) := by decide +kernel
theorem d_M_load_39 : decode b_M_load 39 = .ok (.iload_n 1, 1) := by decide +kernel
theorem d_M_load_40 : decode b_M_load 40 = .ok (.iload_n 2, 1) := by decide +kernel
theorem d_M_load_41 : decode b_M_load 41 = .ok (.invokevirtual 139, 3) := by decide +kernel
theorem d_M_load_44 : decode b_M_load 44 = .ok (.iconst 0, 1) := by decide +kernel
theorem d_M_load_45 : decode b_M_load 45 = .ok (.istore_n 3, 1) := by decide +kernel
theorem d_M_load_46 : decode b_M_load 46 = .ok (.iload_n 3, 1) := by decide +kernel
theorem d_M_load_47 : decode b_M_load 47 = .ok (.bipush 8, 2) := by decide +kernel
theorem d_M_load_49 : decode b_M_load 49 = .ok (.if_icmp .ge 21, 3) := by decide +kernel
theorem d_M_load_52 : decode b_M_load 52 = .ok (.aload_n 0, 1) := by decide +kernel
theorem d_M_load_53 : decode b_M_load 53 = .ok (.getfield 59, 3) := by decide +kernel
theorem d_M_load_56 : decode b_M_load 56 = .ok (.iload_n 3, 1) := by decide +kernel
theorem d_M_load_57 : decode b_M_load 57 = .ok (.aload_n 0, 1) := by decide +kernel
theorem d_M_load_58 : decode b_M_load 58 = .ok (.getfield 55, 3) := by decide +kernel
theorem d_M_load_61 : decode b_M_load 61 = .ok (.iload_n 3, 1) := by decide +kernel
theorem d_M_load_62 : decode b_M_load 62 = .ok (.laload, 1) := by decide +kernel
theorem d_M_load_63 : decode b_M_load 63 = .ok (.lastore, 1) := by decide +kernel
theorem d_M_load_64 : decode b_M_load 64 = .ok (.iinc 3 1, 3) := by decide +kernel
theorem d_M_load_67 : decode b_M_load 67 = .ok (.goto (-21), 3) := by decide +kernel
theorem d_M_load_70 : decode b_M_load 70 = .ok (.aload_n 0, 1) := by decide +kernel
theorem d_M_load_71 : decode b_M_load 71 = .ok (.getfield 31, 3) := by decide +kernel
theorem d_M_load_74 : decode b_M_load 74 = .ok (.iconst 2, 1) := by decide +kernel
theorem d_M_load_75 : decode b_M_load 75 = .ok (.iload_n 1, 1) := by decide +kernel
theorem d_M_load_76 : decode b_M_load 76 = .ok (.imul, 1) := by decide +kernel
theorem d_M_load_77 : decode b_M_load 77 = .ok (.iaload, 1) := by decide +kernel
theorem d_M_load_78 : decode b_M_load 78 = .ok (.istore_n 3, 1) := by decide +kernel
theorem d_M_load_79 : decode b_M_load 79 = .ok (.aload_n 0, 1) := by decide +kernel
theorem d_M_load_80 : decode b_M_load 80 = .ok (.getfield 31, 3) := by decide +kernel
theorem d_M_load_83 : decode b_M_load 83 = .ok (.iconst 2, 1) := by decide +kernel
theorem d_M_load_84 : decode b_M_load 84 = .ok (.iload_n 1, 1) := by decide +kernel
theorem d_M_load_85 : decode b_M_load 85 = .ok (.imul, 1) := by decide +kernel
theorem d_M_load_86 : decode b_M_load 86 = .ok (.iconst 1, 1) := by decide +kernel
theorem d_M_load_87 : decode b_M_load 87 = .ok (.iadd, 1) := by decide +kernel
theorem d_M_load_88 : decode b_M_load 88 = .ok (.iaload, 1) := by decide +kernel
theorem d_M_load_89 : decode b_M_load 89 = .ok (.istore 4, 2) := by decide +kernel
theorem d_M_load_91 : decode b_M_load 91 = .ok (.iload_n 3, 1) := by decide +kernel
theorem d_M_load_92 : decode b_M_load 92 = .ok (.ifCond .lt 12, 3) := by decide +kernel
theorem d_M_load_95 : decode b_M_load 95 = .ok (.iload_n 3, 1) := by decide +kernel
theorem d_M_load_96 : decode b_M_load 96 = .ok (.iload_n 2, 1) := by decide +kernel
theorem d_M_load_97 : decode b_M_load 97 = .ok (.if_icmp .gt 7, 3) := by decide +kernel
theorem d_M_load_100 : decode b_M_load 100 = .ok (.iload_n 3, 1) := by decide +kernel
theorem d_M_load_101 : decode b_M_load 101 = .ok (.goto 20, 3) := by decide +kernel
theorem d_M_load_104 : decode b_M_load 104 = .ok (.iload 4, 2) := by decide +kernel
theorem d_M_load_106 : decode b_M_load 106 = .ok (.ifCond .lt 14, 3) := by decide +kernel
theorem d_M_load_109 : decode b_M_load 109 = .ok (.iload 4, 2) := by decide +kernel
theorem d_M_load_111 : decode b_M_load 111 = .ok (.iload_n 2, 1) := by decide +kernel
theorem d_M_load_112 : decode b_M_load 112 = .ok (.if_icmp .gt 8, 3) := by decide +kernel
theorem d_M_load_115 : decode b_M_load 115 = .ok (.iload 4, 2) := by decide +kernel
theorem d_M_load_117 : decode b_M_load 117 = .ok (.goto 4, 3) := by decide +kernel
theorem d_M_load_120 : decode b_M_load 120 = .ok (.iconst 0, 1) := by decide +kernel
theorem d_M_load_121 : decode b_M_load 121 = .ok (.istore 5, 2) := by decide +kernel
theorem d_M_load_123 : decode b_M_load 123 = .ok (.iload_n 2, 1) := by decide +kernel
theorem d_M_load_124 : decode b_M_load 124 = .ok (.iload 5, 2) := by decide +kernel
theorem d_M_load_126 : decode b_M_load 126 = .ok (.isub, 1) := by decide +kernel
theorem d_M_load_127 : decode b_M_load 127 = .ok (.ireturn, 1) := by decide +kernel
theorem d_M_field_0 : decode b_M_field 0 = .ok (.aload_n 0, 1) := by decide +kernel
theorem d_M_field_1 : decode b_M_field 1 = .ok (.iconst 0, 1) := by decide +kernel
theorem d_M_field_2 : decode b_M_field 2 = .ok (.putfield 84, 3) := by decide +kernel
theorem d_M_field_5 : decode b_M_field 5 = .ok (.iload_n 1, 1) := by decide +kernel
theorem d_M_field_6 : decode b_M_field 6 = .ok (.ifCond .lt 9, 3) := by decide +kernel
theorem d_M_field_9 : decode b_M_field 9 = .ok (.iload_n 1, 1) := by decide +kernel
theorem d_M_field_10 : decode b_M_field 10 = .ok (.bipush 7, 2) := by decide +kernel
theorem d_M_field_12 : decode b_M_field 12 = .ok (.if_icmp .le 9, 3) := by decide +kernel
theorem d_M_field_15 : decode b_M_field 15 = .ok (.ldc2_w 152, 3) := by decide +kernel
theorem d_M_field_18 : decode b_M_field 18 = .ok (.goto 9, 3) := by decide +kernel
theorem d_M_field_21 : decode b_M_field 21 = .ok (.aload_n 0, 1) := by decide +kernel
theorem d_M_field_22 : decode b_M_field 22 = .ok (.getfield 59, 3) := by decide +kernel
theorem d_M_field_25 : decode b_M_field 25 = .ok (.iload_n 1, 1) := by decide +kernel
theorem d_M_field_26 : decode b_M_field 26 = .ok (.laload, 1) := by decide +kernel
theorem d_M_field_27 : decode b_M_field 27 = .ok (.lreturn, 1) := by decide +kernel
theorem d_M_snapshot_0 : decode b_M_snapshot 0 = .ok (.aload_n 0, 1) := by decide +kernel
theorem d_M_snapshot_1 : decode b_M_snapshot 1 = .ok (.iconst 0, 1) := by decide +kernel
theorem d_M_snapshot_2 : decode b_M_snapshot 2 = .ok (.putfield 84, 3) := by decide +kernel
theorem d_M_snapshot_5 : decode b_M_snapshot 5 = .ok (.iload_n 1, 1) := by decide +kernel
theorem d_M_snapshot_6 : decode b_M_snapshot 6 = .ok (.invokestatic 132, 3) := by decide +kernel
theorem d_M_snapshot_9 : decode b_M_snapshot 9 = .ok (.ifCond .eq 12, 3) := by decide +kernel
theorem d_M_snapshot_12 : decode b_M_snapshot 12 = .ok (.iload_n 2, 1) := by decide +kernel
theorem d_M_snapshot_13 : decode b_M_snapshot 13 = .ok (.ifCond .lt 8, 3) := by decide +kernel
theorem d_M_snapshot_16 : decode b_M_snapshot 16 = .ok (.iload_n 2, 1) := by decide +kernel
theorem d_M_snapshot_17 : decode b_M_snapshot 17 = .ok (.iconst 1, 1) := by decide +kernel
theorem d_M_snapshot_18 : decode b_M_snapshot 18 = .ok (.if_icmp .le 7, 3) := by decide +kernel
theorem d_M_snapshot_21 : decode b_M_snapshot 21 = .ok (.iconst (-1), 1) := by decide +kernel
theorem d_M_snapshot_22 : decode b_M_snapshot 22 = .ok (.goto 13, 3) := by decide +kernel
theorem d_M_snapshot_25 : decode b_M_snapshot 25 = .ok (.aload_n 0, 1) := by decide +kernel
theorem d_M_snapshot_26 : decode b_M_snapshot 26 = .ok (.getfield 31, 3) := by decide +kernel
theorem d_M_snapshot_29 : decode b_M_snapshot 29 = .ok (.iconst 2, 1) := by decide +kernel
theorem d_M_snapshot_30 : decode b_M_snapshot 30 = .ok (.iload_n 1, 1) := by decide +kernel
theorem d_M_snapshot_31 : decode b_M_snapshot 31 = .ok (.imul, 1) := by decide +kernel
theorem d_M_snapshot_32 : decode b_M_snapshot 32 = .ok (.iload_n 2, 1) := by decide +kernel
theorem d_M_snapshot_33 : decode b_M_snapshot 33 = .ok (.iadd, 1) := by decide +kernel
theorem d_M_snapshot_34 : decode b_M_snapshot 34 = .ok (.iaload, 1) := by decide +kernel
theorem d_M_snapshot_35 : decode b_M_snapshot 35 = .ok (.ireturn, 1) := by decide +kernel
theorem d_M_isReader_0 : decode b_M_isReader 0 = .ok (.iload_n 0, 1) := by decide +kernel
theorem d_M_isReader_1 : decode b_M_isReader 1 = .ok (.ifCond .lt 12, 3) := by decide +kernel
theorem d_M_isReader_4 : decode b_M_isReader 4 = .ok (.iload_n 0, 1) := by decide +kernel
theorem d_M_isReader_5 : decode b_M_isReader 5 = .ok (.iconst 4, 1) := by decide +kernel
theorem d_M_isReader_6 : decode b_M_isReader 6 = .ok (.if_icmp .ge 7, 3) := by decide +kernel
theorem d_M_isReader_9 : decode b_M_isReader 9 = .ok (.iconst 1, 1) := by decide +kernel
theorem d_M_isReader_10 : decode b_M_isReader 10 = .ok (.goto 4, 3) := by decide +kernel
theorem d_M_isReader_13 : decode b_M_isReader 13 = .ok (.iconst 0, 1) := by decide +kernel
theorem d_M_isReader_14 : decode b_M_isReader 14 = .ok (.ireturn, 1) := by decide +kernel
theorem d_M_follow_0 : decode b_M_follow 0 = .ok (.aload_n 0, 1) := by decide +kernel
theorem d_M_follow_1 : decode b_M_follow 1 = .ok (.iload_n 1, 1) := by decide +kernel
theorem d_M_follow_2 : decode b_M_follow 2 = .ok (.invokestatic 154, 3) := by decide +kernel
theorem d_M_follow_5 : decode b_M_follow 5 = .ok (.ifCond .eq 17, 3) := by decide +kernel
theorem d_M_follow_8 : decode b_M_follow 8 = .ok (.iload 4, 2) := by decide +kernel
theorem d_M_follow_10 : decode b_M_follow 10 = .ok (.ifCond .lt 12, 3) := by decide +kernel
theorem d_M_follow_13 : decode b_M_follow 13 = .ok (.iload 4, 2) := by decide +kernel
theorem d_M_follow_15 : decode b_M_follow 15 = .ok (.aload_n 0, 1) := by decide +kernel
theorem d_M_follow_16 : decode b_M_follow 16 = .ok (.getfield 119, 3) := by decide +kernel
theorem d_M_follow_19 : decode b_M_follow 19 = .ok (.if_icmp .le 7, 3) := by decide +kernel
theorem d_M_follow_22 : decode b_M_follow 22 = .ok (.iconst 1, 1) := by decide +kernel
theorem d_M_follow_23 : decode b_M_follow 23 = .ok (.goto 4, 3) := by decide +kernel
theorem d_M_follow_26 : decode b_M_follow 26 = .ok (.iconst 0, 1) := by decide +kernel
theorem d_M_follow_27 : decode b_M_follow 27 = .ok (.putfield 84, 3) := by decide +kernel
theorem d_M_follow_30 : decode b_M_follow 30 = .ok (.aload_n 0, 1) := by decide +kernel
theorem d_M_follow_31 : decode b_M_follow 31 = .ok (.getfield 84, 3) := by decide +kernel
theorem d_M_follow_34 : decode b_M_follow 34 = .ok (.ifCond .le 4, 3) := by decide +kernel
theorem d_M_follow_37 : decode b_M_follow 37 = .ok (.return_, 1) := by decide +kernel
theorem d_M_follow_38 : decode b_M_follow 38 = .ok (.aload_n 0, 1) := by decide +kernel
theorem d_M_follow_39 : decode b_M_follow 39 = .ok (.getfield 68, 3) := by decide +kernel
theorem d_M_follow_42 : decode b_M_follow 42 = .ok (.iload_n 1, 1) := by decide +kernel
theorem d_M_follow_43 : decode b_M_follow 43 = .ok (.iload_n 2, 1) := by decide +kernel
theorem d_M_follow_44 : decode b_M_follow 44 = .ok (.sipush 255, 3) := by decide +kernel
theorem d_M_follow_47 : decode b_M_follow 47 = .ok (.iand, 1) := by decide +kernel
theorem d_M_follow_48 : decode b_M_follow 48 = .ok (.iastore, 1) := by decide +kernel
theorem d_M_follow_49 : decode b_M_follow 49 = .ok (.aload_n 0, 1) := by decide +kernel
theorem d_M_follow_50 : decode b_M_follow 50 = .ok (.getfield 71, 3) := by decide +kernel
theorem d_M_follow_53 : decode b_M_follow 53 = .ok (.iload_n 1, 1) := by decide +kernel
theorem d_M_follow_54 : decode b_M_follow 54 = .ok (.iload_n 3, 1) := by decide +kernel
theorem d_M_follow_55 : decode b_M_follow 55 = .ok (.bipush 63, 2) := by decide +kernel
theorem d_M_follow_57 : decode b_M_follow 57 = .ok (.iand, 1) := by decide +kernel
theorem d_M_follow_58 : decode b_M_follow 58 = .ok (.iastore, 1) := by decide +kernel
theorem d_M_follow_59 : decode b_M_follow 59 = .ok (.aload_n 0, 1) := by decide +kernel
theorem d_M_follow_60 : decode b_M_follow 60 = .ok (.getfield 62, 3) := by decide +kernel
theorem d_M_follow_63 : decode b_M_follow 63 = .ok (.iload_n 1, 1) := by decide +kernel
theorem d_M_follow_64 : decode b_M_follow 64 = .ok (.iload 4, 2) := by decide +kernel
theorem d_M_follow_66 : decode b_M_follow 66 = .ok (.iastore, 1) := by decide +kernel
theorem d_M_follow_67 : decode b_M_follow 67 = .ok (.aload_n 0, 1) := by decide +kernel
theorem d_M_follow_68 : decode b_M_follow 68 = .ok (.getfield 65, 3) := by decide +kernel
theorem d_M_follow_71 : decode b_M_follow 71 = .ok (.iload_n 1, 1) := by decide +kernel
theorem d_M_follow_72 : decode b_M_follow 72 = .ok (.iload 4, 2) := by decide +kernel
theorem d_M_follow_74 : decode b_M_follow 74 = .ok (.iastore, 1) := by decide +kernel
theorem d_M_follow_75 : decode b_M_follow 75 = .ok (.return_, 1) := by decide +kernel
theorem d_M_take_0 : decode b_M_take 0 = .ok (.aload_n 0, 1) := by decide +kernel
theorem d_M_take_1 : decode b_M_take 1 = .ok (.getfield 149, 3) := by decide +kernel
theorem d_M_take_4 : decode b_M_take 4 = .ok (.istore_n 3, 1) := by decide +kernel
theorem d_M_take_5 : decode b_M_take 5 = .ok (.aload_n 0, 1) := by decide +kernel
theorem d_M_take_6 : decode b_M_take 6 = .ok (.iload_n 1, 1) := by decide +kernel
theorem d_M_take_7 : decode b_M_take 7 = .ok (.invokevirtual 107, 3) := by decide +kernel
theorem d_M_take_10 : decode b_M_take 10 = .ok (.iconst 0, 1) := by decide +kernel
theorem d_M_take_11 : decode b_M_take 11 = .ok (.istore 4, 2) := by decide +kernel
theorem d_M_take_13 : decode b_M_take 13 = .ok (.iload 4, 2) := by decide +kernel
theorem d_M_take_15 : decode b_M_take 15 = .ok (.aload_n 0, 1) := by decide +kernel
theorem d_M_take_16 : decode b_M_take 16 = .ok (.getfield 97, 3) := by decide +kernel
theorem d_M_take_19 : decode b_M_take 19 = .ok (.if_icmp .ge 125, 3) := by decide +kernel
theorem d_M_take_22 : decode b_M_take 22 = .ok (.iload_n 2, 1) := by decide +kernel
theorem d_M_take_23 : decode b_M_take 23 = .ok (.aload_n 0, 1) := by decide +kernel
theorem d_M_take_24 : decode b_M_take 24 = .ok (.getfield 34, 3) := by decide +kernel
theorem d_M_take_27 : decode b_M_take 27 = .ok (.iload 4, 2) := by decide +kernel
theorem d_M_take_29 : decode b_M_take 29 = .ok (.iaload, 1) := by decide +kernel
theorem d_M_take_30 : decode b_M_take 30 = .ok (.ishr, 1) := by decide +kernel
theorem d_M_take_31 : decode b_M_take 31 = .ok (.iconst 1, 1) := by decide +kernel
theorem d_M_take_32 : decode b_M_take 32 = .ok (.iand, 1) := by decide +kernel
theorem d_M_take_33 : decode b_M_take 33 = .ok (.iconst 1, 1) := by decide +kernel
theorem d_M_take_34 : decode b_M_take 34 = .ok (.if_icmp .ne 104, 3) := by decide +kernel
theorem d_M_take_37 : decode b_M_take 37 = .ok (.aload_n 0, 1) := by decide +kernel
theorem d_M_take_38 : decode b_M_take 38 = .ok (.getfield 74, 3) := by decide +kernel
theorem d_M_take_41 : decode b_M_take 41 = .ok (.iconst 5, 1) := by decide +kernel
theorem d_M_take_42 : decode b_M_take 42 = .ok (.aload_n 0, 1) := by decide +kernel
theorem d_M_take_43 : decode b_M_take 43 = .ok (.getfield 149, 3) := by decide +kernel
theorem d_M_take_46 : decode b_M_take 46 = .ok (.imul, 1) := by decide +kernel
theorem d_M_take_47 : decode b_M_take 47 = .ok (.iload_n 1, 1) := by decide +kernel
theorem d_M_take_48 : decode b_M_take 48 = .ok (.iastore, 1) := by decide +kernel
theorem d_M_take_49 : decode b_M_take 49 = .ok (.aload_n 0, 1) := by decide +kernel
theorem d_M_take_50 : decode b_M_take 50 = .ok (.getfield 74, 3) := by decide +kernel
theorem d_M_take_53 : decode b_M_take 53 = .ok (.iconst 5, 1) := by decide +kernel
theorem d_M_take_54 : decode b_M_take 54 = .ok (.aload_n 0, 1) := by decide +kernel
theorem d_M_take_55 : decode b_M_take 55 = .ok (.getfield 149, 3) := by decide +kernel
theorem d_M_take_58 : decode b_M_take 58 = .ok (.imul, 1) := by decide +kernel
theorem d_M_take_59 : decode b_M_take 59 = .ok (.iconst 1, 1) := by decide +kernel
theorem d_M_take_60 : decode b_M_take 60 = .ok (.iadd, 1) := by decide +kernel
theorem d_M_take_61 : decode b_M_take 61 = .ok (.aload_n 0, 1) := by decide +kernel
theorem d_M_take_62 : decode b_M_take 62 = .ok (.getfield 7, 3) := by decide +kernel
theorem d_M_take_65 : decode b_M_take 65 = .ok (.iload_n 1, 1) := by decide +kernel
theorem d_M_take_66 : decode b_M_take 66 = .ok (.iaload, 1) := by decide +kernel
theorem d_M_take_67 : decode b_M_take 67 = .ok (.iastore, 1) := by decide +kernel
theorem d_M_take_68 : decode b_M_take 68 = .ok (.aload_n 0, 1) := by decide +kernel
theorem d_M_take_69 : decode b_M_take 69 = .ok (.getfield 74, 3) := by decide +kernel
theorem d_M_take_72 : decode b_M_take 72 = .ok (.iconst 5, 1) := by decide +kernel
theorem d_M_take_73 : decode b_M_take 73 = .ok (.aload_n 0, 1) := by decide +kernel
theorem d_M_take_74 : decode b_M_take 74 = .ok (.getfield 149, 3) := by decide +kernel
theorem d_M_take_77 : decode b_M_take 77 = .ok (.imul, 1) := by decide +kernel
theorem d_M_take_78 : decode b_M_take 78 = .ok (.iconst 2, 1) := by decide +kernel
theorem d_M_take_79 : decode b_M_take 79 = .ok (.iadd, 1) := by decide +kernel
theorem d_M_take_80 : decode b_M_take 80 = .ok (.aload_n 0, 1) := by decide +kernel
theorem d_M_take_81 : decode b_M_take 81 = .ok (.getfield 34, 3) := by decide +kernel
theorem d_M_take_84 : decode b_M_take 84 = .ok (.iload 4, 2) := by decide +kernel
theorem d_M_take_86 : decode b_M_take 86 = .ok (.iaload, 1) := by decide +kernel
theorem d_M_take_87 : decode b_M_take 87 = .ok (.iastore, 1) := by decide +kernel
theorem d_M_take_88 : decode b_M_take 88 = .ok (.aload_n 0, 1) := by decide +kernel
theorem d_M_take_89 : decode b_M_take 89 = .ok (.getfield 74, 3) := by decide +kernel
theorem d_M_take_92 : decode b_M_take 92 = .ok (.iconst 5, 1) := by decide +kernel
theorem d_M_take_93 : decode b_M_take 93 = .ok (.aload_n 0, 1) := by decide +kernel
theorem d_M_take_94 : decode b_M_take 94 = .ok (.getfield 149, 3) := by decide +kernel
theorem d_M_take_97 : decode b_M_take 97 = .ok (.imul, 1) := by decide +kernel
theorem d_M_take_98 : decode b_M_take 98 = .ok (.iconst 3, 1) := by decide +kernel
theorem d_M_take_99 : decode b_M_take 99 = .ok (.iadd, 1) := by decide +kernel
theorem d_M_take_100 : decode b_M_take 100 = .ok (.aload_n 0, 1) := by decide +kernel
theorem d_M_take_101 : decode b_M_take 101 = .ok (.getfield 37, 3) := by decide +kernel
theorem d_M_take_104 : decode b_M_take 104 = .ok (.iload 4, 2) := by decide +kernel
theorem d_M_take_106 : decode b_M_take 106 = .ok (.iaload, 1) := by decide +kernel
theorem d_M_take_107 : decode b_M_take 107 = .ok (.iastore, 1) := by decide +kernel
theorem d_M_take_108 : decode b_M_take 108 = .ok (.aload_n 0, 1) := by decide +kernel
theorem d_M_take_109 : decode b_M_take 109 = .ok (.getfield 74, 3) := by decide +kernel
theorem d_M_take_112 : decode b_M_take 112 = .ok (.iconst 5, 1) := by decide +kernel
theorem d_M_take_113 : decode b_M_take 113 = .ok (.aload_n 0, 1) := by decide +kernel
theorem d_M_take_114 : decode b_M_take 114 = .ok (.getfield 149, 3) := by decide +kernel
theorem d_M_take_117 : decode b_M_take 117 = .ok (.imul, 1) := by decide +kernel
theorem d_M_take_118 : decode b_M_take 118 = .ok (.iconst 4, 1) := by decide +kernel
theorem d_M_take_119 : decode b_M_take 119 = .ok (.iadd, 1) := by decide +kernel
theorem d_M_take_120 : decode b_M_take 120 = .ok (.aload_n 0, 1) := by decide +kernel
theorem d_M_take_121 : decode b_M_take 121 = .ok (.getfield 40, 3) := by decide +kernel
theorem d_M_take_124 : decode b_M_take 124 = .ok (.iload 4, 2) := by decide +kernel
theorem d_M_take_126 : decode b_M_take 126 = .ok (.iaload, 1) := by decide +kernel
theorem d_M_take_127 : decode b_M_take 127 = .ok (.iastore, 1) := by decide +kernel
theorem d_M_take_128 : decode b_M_take 128 = .ok (.aload_n 0, 1) := by decide +kernel
theorem d_M_take_129 : decode b_M_take 129 = .ok (.aload_n 0, 1) := by decide +kernel
theorem d_M_take_130 : decode b_M_take 130 = .ok (.getfield 149, 3) := by decide +kernel
theorem d_M_take_133 : decode b_M_take 133 = .ok (.iconst 1, 1) := by decide +kernel
theorem d_M_take_134 : decode b_M_take 134 = .ok (.iadd, 1) := by decide +kernel
theorem d_M_take_135 : decode b_M_take 135 = .ok (.putfield 149, 3) := by decide +kernel
theorem d_M_take_138 : decode b_M_take 138 = .ok (.iinc 4 1, 3) := by decide +kernel
theorem d_M_take_141 : decode b_M_take 141 = .ok (.goto (-128), 3) := by decide +kernel
theorem d_M_take_144 : decode b_M_take 144 = .ok (.aload_n 0, 1) := by decide +kernel
theorem d_M_take_145 : decode b_M_take 145 = .ok (.getfield 149, 3) := by decide +kernel
theorem d_M_take_148 : decode b_M_take 148 = .ok (.iload_n 3, 1) := by decide +kernel
theorem d_M_take_149 : decode b_M_take 149 = .ok (.if_icmp .le 7, 3) := by decide +kernel
theorem d_M_take_152 : decode b_M_take 152 = .ok (.iconst 1, 1) := by decide +kernel
theorem d_M_take_153 : decode b_M_take 153 = .ok (.goto 4, 3) := by decide +kernel
theorem d_M_take_156 : decode b_M_take 156 = .ok (.iconst 0, 1) := by decide +kernel
theorem d_M_take_157 : decode b_M_take 157 = .ok (.ireturn, 1) := by decide +kernel
theorem d_M_poll_0 : decode b_M_poll 0 = .ok (.aload_n 0, 1) := by decide +kernel
theorem d_M_poll_1 : decode b_M_poll 1 = .ok (.iload_n 1, 1) := by decide +kernel
theorem d_M_poll_2 : decode b_M_poll 2 = .ok (.invokestatic 154, 3) := by decide +kernel
theorem d_M_poll_5 : decode b_M_poll 5 = .ok (.ifCond .eq 13, 3) := by decide +kernel
theorem d_M_poll_8 : decode b_M_poll 8 = .ok (.iload_n 2, 1) := by decide +kernel
theorem d_M_poll_9 : decode b_M_poll 9 = .ok (.iconst 1, 1) := by decide +kernel
theorem d_M_poll_10 : decode b_M_poll 10 = .ok (.if_icmp .lt 8, 3) := by decide +kernel
theorem d_M_poll_13 : decode b_M_poll 13 = .ok (.iload_n 2, 1) := by decide +kernel
theorem d_M_poll_14 : decode b_M_poll 14 = .ok (.iconst 4, 1) := by decide +kernel
theorem d_M_poll_15 : decode b_M_poll 15 = .ok (.if_icmp .le 7, 3) := by decide +kernel
theorem d_M_poll_18 : decode b_M_poll 18 = .ok (.iconst 1, 1) := by decide +kernel
theorem d_M_poll_19 : decode b_M_poll 19 = .ok (.goto 4, 3) := by decide +kernel
theorem d_M_poll_22 : decode b_M_poll 22 = .ok (.iconst 0, 1) := by decide +kernel
theorem d_M_poll_23 : decode b_M_poll 23 = .ok (.putfield 84, 3) := by decide +kernel
theorem d_M_poll_26 : decode b_M_poll 26 = .ok (.aload_n 0, 1) := by decide +kernel
theorem d_M_poll_27 : decode b_M_poll 27 = .ok (.getfield 84, 3) := by decide +kernel
theorem d_M_poll_30 : decode b_M_poll 30 = .ok (.ifCond .le 5, 3) := by decide +kernel
theorem d_M_poll_33 : decode b_M_poll 33 = .ok (.iconst 0, 1) := by decide +kernel
theorem d_M_poll_34 : decode b_M_poll 34 = .ok (.ireturn, 1) := by decide +kernel
theorem d_M_poll_35 : decode b_M_poll 35 = .ok (.aload_n 0, 1) := by decide +kernel
theorem d_M_poll_36 : decode b_M_poll 36 = .ok (.iconst 0, 1) := by decide +kernel
theorem d_M_poll_37 : decode b_M_poll 37 = .ok (.putfield 149, 3) := by decide +kernel
theorem d_M_poll_40 : decode b_M_poll 40 = .ok (.iconst 0, 1) := by decide +kernel
theorem d_M_poll_41 : decode b_M_poll 41 = .ok (.istore_n 3, 1) := by decide +kernel
theorem d_M_poll_42 : decode b_M_poll 42 = .ok (.aload_n 0, 1) := by decide +kernel
theorem d_M_poll_43 : decode b_M_poll 43 = .ok (.getfield 62, 3) := by decide +kernel
theorem d_M_poll_46 : decode b_M_poll 46 = .ok (.iload_n 1, 1) := by decide +kernel
theorem d_M_poll_47 : decode b_M_poll 47 = .ok (.iaload, 1) := by decide +kernel
theorem d_M_poll_48 : decode b_M_poll 48 = .ok (.istore 4, 2) := by decide +kernel
theorem d_M_poll_50 : decode b_M_poll 50 = .ok (.iload 4, 2) := by decide +kernel
theorem d_M_poll_52 : decode b_M_poll 52 = .ok (.aload_n 0, 1) := by decide +kernel
theorem d_M_poll_53 : decode b_M_poll 53 = .ok (.getfield 119, 3) := by decide +kernel
theorem d_M_poll_56 : decode b_M_poll 56 = .ok (.if_icmp .ge 68, 3) := by decide +kernel
theorem d_M_poll_59 : decode b_M_poll 59 = .ok (.iload_n 3, 1) := by decide +kernel
theorem d_M_poll_60 : decode b_M_poll 60 = .ok (.iload_n 2, 1) := by decide +kernel
theorem d_M_poll_61 : decode b_M_poll 61 = .ok (.if_icmp .ge 63, 3) := by decide +kernel
theorem d_M_poll_64 : decode b_M_poll 64 = .ok (.aload_n 0, 1) := by decide +kernel
theorem d_M_poll_65 : decode b_M_poll 65 = .ok (.getfield 68, 3) := by decide +kernel
theorem d_M_poll_68 : decode b_M_poll 68 = .ok (.iload_n 1, 1) := by decide +kernel
theorem d_M_poll_69 : decode b_M_poll 69 = .ok (.iaload, 1) := by decide +kernel
theorem d_M_poll_70 : decode b_M_poll 70 = .ok (.aload_n 0, 1) := by decide +kernel
theorem d_M_poll_71 : decode b_M_poll 71 = .ok (.getfield 7, 3) := by decide +kernel
theorem d_M_poll_74 : decode b_M_poll 74 = .ok (.iload 4, 2) := by decide +kernel
theorem d_M_poll_76 : decode b_M_poll 76 = .ok (.iaload, 1) := by decide +kernel
theorem d_M_poll_77 : decode b_M_poll 77 = .ok (.ishr, 1) := by decide +kernel
theorem d_M_poll_78 : decode b_M_poll 78 = .ok (.iconst 1, 1) := by decide +kernel
theorem d_M_poll_79 : decode b_M_poll 79 = .ok (.iand, 1) := by decide +kernel
theorem d_M_poll_80 : decode b_M_poll 80 = .ok (.iconst 1, 1) := by decide +kernel
theorem d_M_poll_81 : decode b_M_poll 81 = .ok (.if_icmp .ne 7, 3) := by decide +kernel
theorem d_M_poll_84 : decode b_M_poll 84 = .ok (.iconst 1, 1) := by decide +kernel
theorem d_M_poll_85 : decode b_M_poll 85 = .ok (.goto 4, 3) := by decide +kernel
theorem d_M_poll_88 : decode b_M_poll 88 = .ok (.iconst 0, 1) := by decide +kernel
theorem d_M_poll_89 : decode b_M_poll 89 = .ok (.istore 5, 2) := by decide +kernel
theorem d_M_poll_91 : decode b_M_poll 91 = .ok (.iload 5, 2) := by decide +kernel
theorem d_M_poll_93 : decode b_M_poll 93 = .ok (.ifCond .eq 22, 3) := by decide +kernel
theorem d_M_poll_96 : decode b_M_poll 96 = .ok (.aload_n 0, 1) := by decide +kernel
theorem d_M_poll_97 : decode b_M_poll 97 = .ok (.iload 4, 2) := by decide +kernel
theorem d_M_poll_99 : decode b_M_poll 99 = .ok (.aload_n 0, 1) := by decide +kernel
theorem d_M_poll_100 : decode b_M_poll 100 = .ok (.getfield 71, 3) := by decide +kernel
theorem d_M_poll_103 : decode b_M_poll 103 = .ok (.iload_n 1, 1) := by decide +kernel
theorem d_M_poll_104 : decode b_M_poll 104 = .ok (.iaload, 1) := by decide +kernel
theorem d_M_poll_105 : decode b_M_poll 105 = .ok (.invokevirtual 157, 3) := by decide +kernel
theorem d_M_poll_108 : decode b_M_poll 108 = .ok (.ifCond .eq 7, 3) := by decide +kernel
theorem d_M_poll_111 : decode b_M_poll 111 = .ok (.iload_n 3, 1) := by decide +kernel
theorem d_M_poll_112 : decode b_M_poll 112 = .ok (.iconst 1, 1) := by decide +kernel
theorem d_M_poll_113 : decode b_M_poll 113 = .ok (.iadd, 1) := by decide +kernel
theorem d_M_poll_114 : decode b_M_poll 114 = .ok (.istore_n 3, 1) := by decide +kernel
theorem d_M_poll_115 : decode b_M_poll 115 = .ok (.iload 4, 2) := by decide +kernel
theorem d_M_poll_117 : decode b_M_poll 117 = .ok (.iconst 1, 1) := by decide +kernel
theorem d_M_poll_118 : decode b_M_poll 118 = .ok (.iadd, 1) := by decide +kernel
theorem d_M_poll_119 : decode b_M_poll 119 = .ok (.istore 4, 2) := by decide +kernel
theorem d_M_poll_121 : decode b_M_poll 121 = .ok (.goto (-71), 3) := by decide +kernel
theorem d_M_poll_124 : decode b_M_poll 124 = .ok (.aload_n 0, 1) := by decide +kernel
theorem d_M_poll_125 : decode b_M_poll 125 = .ok (.getfield 65, 3) := by decide +kernel
theorem d_M_poll_128 : decode b_M_poll 128 = .ok (.iload_n 1, 1) := by decide +kernel
theorem d_M_poll_129 : decode b_M_poll 129 = .ok (.iload_n 3, 1) := by decide +kernel
theorem d_M_poll_130 : decode b_M_poll 130 = .ok (.iload_n 2, 1) := by decide +kernel
theorem d_M_poll_131 : decode b_M_poll 131 = .ok (.if_icmp .ge 10, 3) := by decide +kernel
theorem d_M_poll_134 : decode b_M_poll 134 = .ok (.aload_n 0, 1) := by decide +kernel
theorem d_M_poll_135 : decode b_M_poll 135 = .ok (.getfield 119, 3) := by decide +kernel
theorem d_M_poll_138 : decode b_M_poll 138 = .ok (.goto 5, 3) := by decide +kernel
theorem d_M_poll_141 : decode b_M_poll 141 = .ok (.iload 4, 2) := by decide +kernel
theorem d_M_poll_143 : decode b_M_poll 143 = .ok (.iastore, 1) := by decide +kernel
theorem d_M_poll_144 : decode b_M_poll 144 = .ok (.aload_n 0, 1) := by decide +kernel
theorem d_M_poll_145 : decode b_M_poll 145 = .ok (.getfield 149, 3) := by decide +kernel
theorem d_M_poll_148 : decode b_M_poll 148 = .ok (.ireturn, 1) := by decide +kernel
theorem d_M_done_0 : decode b_M_done 0 = .ok (.aload_n 0, 1) := by decide +kernel
theorem d_M_done_1 : decode b_M_done 1 = .ok (.iload_n 1, 1) := by decide +kernel
theorem d_M_done_2 : decode b_M_done 2 = .ok (.invokestatic 154, 3) := by decide +kernel
theorem d_M_done_5 : decode b_M_done 5 = .ok (.ifCond .eq 7, 3) := by decide +kernel
theorem d_M_done_8 : decode b_M_done 8 = .ok (.iconst 0, 1) := by decide +kernel
theorem d_M_done_9 : decode b_M_done 9 = .ok (.goto 4, 3) := by decide +kernel
theorem d_M_done_12 : decode b_M_done 12 = .ok (.iconst 1, 1) := by decide +kernel
theorem d_M_done_13 : decode b_M_done 13 = .ok (.putfield 84, 3) := by decide +kernel
theorem d_M_done_16 : decode b_M_done 16 = .ok (.aload_n 0, 1) := by decide +kernel
theorem d_M_done_17 : decode b_M_done 17 = .ok (.getfield 84, 3) := by decide +kernel
theorem d_M_done_20 : decode b_M_done 20 = .ok (.ifCond .le 5, 3) := by decide +kernel
theorem d_M_done_23 : decode b_M_done 23 = .ok (.iconst 0, 1) := by decide +kernel
theorem d_M_done_24 : decode b_M_done 24 = .ok (.ireturn, 1) := by decide +kernel
theorem d_M_done_25 : decode b_M_done 25 = .ok (.aload_n 0, 1) := by decide +kernel
theorem d_M_done_26 : decode b_M_done 26 = .ok (.getfield 65, 3) := by decide +kernel
theorem d_M_done_29 : decode b_M_done 29 = .ok (.iload_n 1, 1) := by decide +kernel
theorem d_M_done_30 : decode b_M_done 30 = .ok (.iaload, 1) := by decide +kernel
theorem d_M_done_31 : decode b_M_done 31 = .ok (.aload_n 0, 1) := by decide +kernel
theorem d_M_done_32 : decode b_M_done 32 = .ok (.getfield 62, 3) := by decide +kernel
theorem d_M_done_35 : decode b_M_done 35 = .ok (.iload_n 1, 1) := by decide +kernel
theorem d_M_done_36 : decode b_M_done 36 = .ok (.iaload, 1) := by decide +kernel
theorem d_M_done_37 : decode b_M_done 37 = .ok (.isub, 1) := by decide +kernel
theorem d_M_done_38 : decode b_M_done 38 = .ok (.istore_n 2, 1) := by decide +kernel
theorem d_M_done_39 : decode b_M_done 39 = .ok (.aload_n 0, 1) := by decide +kernel
theorem d_M_done_40 : decode b_M_done 40 = .ok (.getfield 62, 3) := by decide +kernel
theorem d_M_done_43 : decode b_M_done 43 = .ok (.iload_n 1, 1) := by decide +kernel
theorem d_M_done_44 : decode b_M_done 44 = .ok (.aload_n 0, 1) := by decide +kernel
theorem d_M_done_45 : decode b_M_done 45 = .ok (.getfield 65, 3) := by decide +kernel
theorem d_M_done_48 : decode b_M_done 48 = .ok (.iload_n 1, 1) := by decide +kernel
theorem d_M_done_49 : decode b_M_done 49 = .ok (.iaload, 1) := by decide +kernel
theorem d_M_done_50 : decode b_M_done 50 = .ok (.iastore, 1) := by decide +kernel
theorem d_M_done_51 : decode b_M_done 51 = .ok (.iload_n 2, 1) := by decide +kernel
theorem d_M_done_52 : decode b_M_done 52 = .ok (.ireturn, 1) := by decide +kernel
theorem d_M_cursor_0 : decode b_M_cursor 0 = .ok (.aload_n 0, 1) := by decide +kernel
theorem d_M_cursor_1 : decode b_M_cursor 1 = .ok (.iconst 0, 1) := by decide +kernel
theorem d_M_cursor_2 : decode b_M_cursor 2 = .ok (.putfield 84, 3) := by decide +kernel
theorem d_M_cursor_5 : decode b_M_cursor 5 = .ok (.iload_n 1, 1) := by decide +kernel
theorem d_M_cursor_6 : decode b_M_cursor 6 = .ok (.invokestatic 154, 3) := by decide +kernel
theorem d_M_cursor_9 : decode b_M_cursor 9 = .ok (.ifCond .eq 12, 3) := by decide +kernel
theorem d_M_cursor_12 : decode b_M_cursor 12 = .ok (.aload_n 0, 1) := by decide +kernel
theorem d_M_cursor_13 : decode b_M_cursor 13 = .ok (.getfield 62, 3) := by decide +kernel
theorem d_M_cursor_16 : decode b_M_cursor 16 = .ok (.iload_n 1, 1) := by decide +kernel
theorem d_M_cursor_17 : decode b_M_cursor 17 = .ok (.iaload, 1) := by decide +kernel
theorem d_M_cursor_18 : decode b_M_cursor 18 = .ok (.goto 4, 3) := by decide +kernel
theorem d_M_cursor_21 : decode b_M_cursor 21 = .ok (.iconst (-1), 1) := by decide +kernel
theorem d_M_cursor_22 : decode b_M_cursor 22 = .ok (.ireturn, 1) := by decide +kernel
theorem d_M_hand_0 : decode b_M_hand 0 = .ok (.aload_n 0, 1) := by decide +kernel
theorem d_M_hand_1 : decode b_M_hand 1 = .ok (.iload_n 1, 1) := by decide +kernel
theorem d_M_hand_2 : decode b_M_hand 2 = .ok (.ifCond .lt 20, 3) := by decide +kernel
theorem d_M_hand_5 : decode b_M_hand 5 = .ok (.iload_n 1, 1) := by decide +kernel
theorem d_M_hand_6 : decode b_M_hand 6 = .ok (.aload_n 0, 1) := by decide +kernel
theorem d_M_hand_7 : decode b_M_hand 7 = .ok (.getfield 149, 3) := by decide +kernel
theorem d_M_hand_10 : decode b_M_hand 10 = .ok (.if_icmp .ge 12, 3) := by decide +kernel
theorem d_M_hand_13 : decode b_M_hand 13 = .ok (.iload_n 2, 1) := by decide +kernel
theorem d_M_hand_14 : decode b_M_hand 14 = .ok (.ifCond .lt 8, 3) := by decide +kernel
theorem d_M_hand_17 : decode b_M_hand 17 = .ok (.iload_n 2, 1) := by decide +kernel
theorem d_M_hand_18 : decode b_M_hand 18 = .ok (.iconst 4, 1) := by decide +kernel
theorem d_M_hand_19 : decode b_M_hand 19 = .ok (.if_icmp .le 7, 3) := by decide +kernel
theorem d_M_hand_22 : decode b_M_hand 22 = .ok (.iconst 1, 1) := by decide +kernel
theorem d_M_hand_23 : decode b_M_hand 23 = .ok (.goto 4, 3) := by decide +kernel
theorem d_M_hand_26 : decode b_M_hand 26 = .ok (.iconst 0, 1) := by decide +kernel
theorem d_M_hand_27 : decode b_M_hand 27 = .ok (.putfield 84, 3) := by decide +kernel
theorem d_M_hand_30 : decode b_M_hand 30 = .ok (.aload_n 0, 1) := by decide +kernel
theorem d_M_hand_31 : decode b_M_hand 31 = .ok (.getfield 84, 3) := by decide +kernel
theorem d_M_hand_34 : decode b_M_hand 34 = .ok (.ifCond .le 7, 3) := by decide +kernel
theorem d_M_hand_37 : decode b_M_hand 37 = .ok (.iconst 0, 1) := by decide +kernel
theorem d_M_hand_38 : decode b_M_hand 38 = .ok (.goto 13, 3) := by decide +kernel
theorem d_M_hand_41 : decode b_M_hand 41 = .ok (.aload_n 0, 1) := by decide +kernel
theorem d_M_hand_42 : decode b_M_hand 42 = .ok (.getfield 74, 3) := by decide +kernel
theorem d_M_hand_45 : decode b_M_hand 45 = .ok (.iconst 5, 1) := by decide +kernel
theorem d_M_hand_46 : decode b_M_hand 46 = .ok (.iload_n 1, 1) := by decide +kernel
theorem d_M_hand_47 : decode b_M_hand 47 = .ok (.imul, 1) := by decide +kernel
theorem d_M_hand_48 : decode b_M_hand 48 = .ok (.iload_n 2, 1) := by decide +kernel
theorem d_M_hand_49 : decode b_M_hand 49 = .ok (.iadd, 1) := by decide +kernel
theorem d_M_hand_50 : decode b_M_hand 50 = .ok (.iaload, 1) := by decide +kernel
theorem d_M_hand_51 : decode b_M_hand 51 = .ok (.ireturn, 1) := by decide +kernel

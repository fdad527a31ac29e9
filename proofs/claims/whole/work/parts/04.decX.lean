theorem d_X_init_0 : decode b_X_init 0 = .ok (.aload_n 0, 1) := by decide +kernel
theorem d_X_init_1 : decode b_X_init 1 = .ok (.invokespecial 3, 3) := by decide +kernel
theorem d_X_init_4 : decode b_X_init 4 = .ok (.aload_n 0, 1) := by decide +kernel
theorem d_X_init_5 : decode b_X_init 5 = .ok (.iconst 1, 1) := by decide +kernel
theorem d_X_init_6 : decode b_X_init 6 = .ok (.bipush 8, 2) := by decide +kernel
theorem d_X_init_8 : decode b_X_init 8 = .ok (.iload_n 1, 1) := by decide +kernel
theorem d_X_init_9 : decode b_X_init 9 = .ok (.invokestatic 9, 3) := by decide +kernel
theorem d_X_init_12 : decode b_X_init 12 = .ok (.invokestatic 15, 3) := by decide +kernel
theorem d_X_init_15 : decode b_X_init 15 = .ok (.putfield 18, 3) := by decide +kernel
theorem d_X_init_18 : decode b_X_init 18 = .ok (.aload_n 0, 1) := by decide +kernel
theorem d_X_init_19 : decode b_X_init 19 = .ok (.new 22, 3) := by decide +kernel
theorem d_X_init_22 : decode b_X_init 22 = .ok (.dup, 1) := by decide +kernel
theorem d_X_init_23 : decode b_X_init 23 = .ok (.iconst 4, 1) := by decide +kernel
theorem d_X_init_24 : decode b_X_init 24 = .ok (.invokespecial 24, 3) := by decide +kernel
theorem d_X_init_27 : decode b_X_init 27 = .ok (.putfield 27, 3) := by decide +kernel
theorem d_X_init_30 : decode b_X_init 30 = .ok (.aload_n 0, 1) := by decide +kernel
theorem d_X_init_31 : decode b_X_init 31 = .ok (.new 31, 3) := by decide +kernel
theorem d_X_init_34 : decode b_X_init 34 = .ok (.dup, 1) := by decide +kernel
theorem d_X_init_35 : decode b_X_init 35 = .ok (.invokespecial 33, 3) := by decide +kernel
theorem d_X_init_38 : decode b_X_init 38 = .ok (.putfield 34, 3) := by decide +kernel
theorem d_X_init_41 : decode b_X_init 41 = .ok (.aload_n 0, 1) := by decide +kernel
theorem d_X_init_42 : decode b_X_init 42 = .ok (.new 38, 3) := by decide +kernel
theorem d_X_init_45 : decode b_X_init 45 = .ok (.dup, 1) := by decide +kernel
theorem d_X_init_46 : decode b_X_init 46 = .ok (.invokespecial 40, 3) := by decide +kernel
theorem d_X_init_49 : decode b_X_init 49 = .ok (.putfield 41, 3) := by decide +kernel
theorem d_X_init_52 : decode b_X_init 52 = .ok (.aload_n 0, 1) := by decide +kernel
theorem d_X_init_53 : decode b_X_init 53 = .ok (.bipush 8, 2) := by decide +kernel
theorem d_X_init_55 : decode b_X_init 55 = .ok (.anewarray 45, 3) := by decide +kernel
theorem d_X_init_58 : decode b_X_init 58 = .ok (.putfield 47, 3) := by decide +kernel
theorem d_X_init_61 : decode b_X_init 61 = .ok (.iconst 0, 1) := by decide +kernel
theorem d_X_init_62 : decode b_X_init 62 = .ok (.istore_n 2, 1) := by decide +kernel
theorem d_X_init_63 : decode b_X_init 63 = .ok (.iload_n 2, 1) := by decide +kernel
theorem d_X_init_64 : decode b_X_init 64 = .ok (.bipush 8, 2) := by decide +kernel
theorem d_X_init_66 : decode b_X_init 66 = .ok (.if_icmp .ge 22, 3) := by decide +kernel
theorem d_X_init_69 : decode b_X_init 69 = .ok (.aload_n 0, 1) := by decide +kernel
theorem d_X_init_70 : decode b_X_init 70 = .ok (.getfield 47, 3) := by decide +kernel
theorem d_X_init_73 : decode b_X_init 73 = .ok (.iload_n 2, 1) := by decide +kernel
theorem d_X_init_74 : decode b_X_init 74 = .ok (.new 45, 3) := by decide +kernel
theorem d_X_init_77 : decode b_X_init 77 = .ok (.dup, 1) := by decide +kernel
theorem d_X_init_78 : decode b_X_init 78 = .ok (.invokespecial 51, 3) := by decide +kernel
theorem d_X_init_81 : decode b_X_init 81 = .ok (.aastore, 1) := by decide +kernel
theorem d_X_init_82 : decode b_X_init 82 = .ok (.iinc 2 1, 3) := by decide +kernel
theorem d_X_init_85 : decode b_X_init 85 = .ok (.goto (-22), 3) := by decide +kernel
theorem d_X_init_88 : decode b_X_init 88 = .ok (.aload_n 0, 1) := by decide +kernel
theorem d_X_init_89 : decode b_X_init 89 = .ok (.iconst 4, 1) := by decide +kernel
theorem d_X_init_90 : decode b_X_init 90 = .ok (.anewarray 52, 3) := by decide +kernel
theorem d_X_init_93 : decode b_X_init 93 = .ok (.putfield 54, 3) := by decide +kernel
theorem d_X_init_96 : decode b_X_init 96 = .ok (.iconst 0, 1) := by decide +kernel
theorem d_X_init_97 : decode b_X_init 97 = .ok (.istore_n 2, 1) := by decide +kernel
theorem d_X_init_98 : decode b_X_init 98 = .ok (.iload_n 2, 1) := by decide +kernel
theorem d_X_init_99 : decode b_X_init 99 = .ok (.iconst 4, 1) := by decide +kernel
theorem d_X_init_100 : decode b_X_init 100 = .ok (.if_icmp .ge 22, 3) := by decide +kernel
theorem d_X_init_103 : decode b_X_init 103 = .ok (.aload_n 0, 1) := by decide +kernel
theorem d_X_init_104 : decode b_X_init 104 = .ok (.getfield 54, 3) := by decide +kernel
theorem d_X_init_107 : decode b_X_init 107 = .ok (.iload_n 2, 1) := by decide +kernel
theorem d_X_init_108 : decode b_X_init 108 = .ok (.new 52, 3) := by decide +kernel
theorem d_X_init_111 : decode b_X_init 111 = .ok (.dup, 1) := by decide +kernel
theorem d_X_init_112 : decode b_X_init 112 = .ok (.invokespecial 58, 3) := by decide +kernel
theorem d_X_init_115 : decode b_X_init 115 = .ok (.aastore, 1) := by decide +kernel
theorem d_X_init_116 : decode b_X_init 116 = .ok (.iinc 2 1, 3) := by decide +kernel
theorem d_X_init_119 : decode b_X_init 119 = .ok (.goto (-21), 3) := by decide +kernel
theorem d_X_init_122 : decode b_X_init 122 = .ok (.aload_n 0, 1) := by decide +kernel
theorem d_X_init_123 : decode b_X_init 123 = .ok (.new 59, 3) := by decide +kernel
theorem d_X_init_126 : decode b_X_init 126 = .ok (.dup, 1) := by decide +kernel
theorem d_X_init_127 : decode b_X_init 127 = .ok (.invokespecial 61, 3) := by decide +kernel
theorem d_X_init_130 : decode b_X_init 130 = .ok (.putfield 62, 3) := by decide +kernel
theorem d_X_init_133 : decode b_X_init 133 = .ok (.aload_n 0, 1) := by decide +kernel
theorem d_X_init_134 : decode b_X_init 134 = .ok (.new 66, 3) := by decide +kernel
theorem d_X_init_137 : decode b_X_init 137 = .ok (.dup, 1) := by decide +kernel
theorem d_X_init_138 : decode b_X_init 138 = .ok (.invokespecial 68, 3) := by decide +kernel
theorem d_X_init_141 : decode b_X_init 141 = .ok (.putfield 69, 3) := by decide +kernel
theorem d_X_init_144 : decode b_X_init 144 = .ok (.aload_n 0, 1) := by decide +kernel
theorem d_X_init_145 : decode b_X_init 145 = .ok (.new 66, 3) := by decide +kernel
theorem d_X_init_148 : decode b_X_init 148 = .ok (.dup, 1) := by decide +kernel
theorem d_X_init_149 : decode b_X_init 149 = .ok (.invokespecial 68, 3) := by decide +kernel
theorem d_X_init_152 : decode b_X_init 152 = .ok (.putfield 73, 3) := by decide +kernel
theorem d_X_init_155 : decode b_X_init 155 = .ok (.return_, 1) := by decide +kernel
theorem d_X_comes_0 : decode b_X_comes 0 = .ok (.aload_n 0, 1) := by decide +kernel
theorem d_X_comes_1 : decode b_X_comes 1 = .ok (.iload_n 1, 1) := by decide +kernel
theorem d_X_comes_2 : decode b_X_comes 2 = .ok (.invokevirtual 120, 3) := by decide +kernel
theorem d_X_comes_5 : decode b_X_comes 5 = .ok (.ifCond .ne 11, 3) := by decide +kernel
theorem d_X_comes_8 : decode b_X_comes 8 = .ok (.new 123, 3) := by decide +kernel
theorem d_X_comes_11 : decode b_X_comes 11 = .ok (.dup, 1) := by decide +kernel
theorem d_X_comes_12 : decode b_X_comes 12 = .ok (.invokespecial 125, 3) := by decide +kernel
theorem d_X_comes_15 : decode b_X_comes 15 = .ok (.athrow, 1) := by decide +kernel
theorem d_X_comes_16 : decode b_X_comes 16 = .ok (.aload_n 0, 1) := by decide +kernel
theorem d_X_comes_17 : decode b_X_comes 17 = .ok (.getfield 41, 3) := by decide +kernel
theorem d_X_comes_20 : decode b_X_comes 20 = .ok (.aload_n 0, 1) := by decide +kernel
theorem d_X_comes_21 : decode b_X_comes 21 = .ok (.getfield 34, 3) := by decide +kernel
theorem d_X_comes_24 : decode b_X_comes 24 = .ok (.getfield 103, 3) := by decide +kernel
theorem d_X_comes_27 : decode b_X_comes 27 = .ok (.iload_n 1, 1) := by decide +kernel
theorem d_X_comes_28 : decode b_X_comes 28 = .ok (.invokevirtual 134, 3) := by decide +kernel
theorem d_X_comes_31 : decode b_X_comes 31 = .ok (.getfield 76, 3) := by decide +kernel
theorem d_X_comes_34 : decode b_X_comes 34 = .ok (.ireturn, 1) := by decide +kernel
theorem d_X_commit_0 : decode b_X_commit 0 = .ok (.iload_n 1, 1) := by decide +kernel
theorem d_X_commit_1 : decode b_X_commit 1 = .ok (.invokestatic 90, 3) := by decide +kernel
theorem d_X_commit_4 : decode b_X_commit 4 = .ok (.ifCond .eq 13, 3) := by decide +kernel
theorem d_X_commit_7 : decode b_X_commit 7 = .ok (.aload_n 0, 1) := by decide +kernel
theorem d_X_commit_8 : decode b_X_commit 8 = .ok (.getfield 27, 3) := by decide +kernel
theorem d_X_commit_11 : decode b_X_commit 11 = .ok (.getfield 76, 3) := by decide +kernel
theorem d_X_commit_14 : decode b_X_commit 14 = .ok (.ifCond .ne 11, 3) := by decide +kernel
theorem d_X_commit_17 : decode b_X_commit 17 = .ok (.new 93, 3) := by decide +kernel
theorem d_X_commit_20 : decode b_X_commit 20 = .ok (.dup, 1) := by decide +kernel
theorem d_X_commit_21 : decode b_X_commit 21 = .ok (.invokespecial 95, 3) := by decide +kernel
theorem d_X_commit_24 : decode b_X_commit 24 = .ok (.athrow, 1) := by decide +kernel
theorem d_X_commit_25 : decode b_X_commit 25 = .ok (.aload_n 0, 1) := by decide +kernel
theorem d_X_commit_26 : decode b_X_commit 26 = .ok (.getfield 34, 3) := by decide +kernel
theorem d_X_commit_29 : decode b_X_commit 29 = .ok (.getfield 96, 3) := by decide +kernel
theorem d_X_commit_32 : decode b_X_commit 32 = .ok (.iload_n 1, 1) := by decide +kernel
theorem d_X_commit_33 : decode b_X_commit 33 = .ok (.iaload, 1) := by decide +kernel
theorem d_X_commit_34 : decode b_X_commit 34 = .ok (.istore_n 3, 1) := by decide +kernel
theorem d_X_commit_35 : decode b_X_commit 35 = .ok (.iload_n 2, 1) := by decide +kernel
theorem d_X_commit_36 : decode b_X_commit 36 = .ok (.iconst (-1), 1) := by decide +kernel
theorem d_X_commit_37 : decode b_X_commit 37 = .ok (.if_icmp .eq 16, 3) := by decide +kernel
theorem d_X_commit_40 : decode b_X_commit 40 = .ok (.iload_n 2, 1) := by decide +kernel
theorem d_X_commit_41 : decode b_X_commit 41 = .ok (.iload_n 3, 1) := by decide +kernel
theorem d_X_commit_42 : decode b_X_commit 42 = .ok (.if_icmp .eq 11, 3) := by decide +kernel
theorem d_X_commit_45 : decode b_X_commit 45 = .ok (.new 100, 3) := by decide +kernel
theorem d_X_commit_48 : decode b_X_commit 48 = .ok (.dup, 1) := by decide +kernel
theorem d_X_commit_49 : decode b_X_commit 49 = .ok (.invokespecial 102, 3) := by decide +kernel
theorem d_X_commit_52 : decode b_X_commit 52 = .ok (.athrow, 1) := by decide +kernel
theorem d_X_commit_53 : decode b_X_commit 53 = .ok (.aload_n 0, 1) := by decide +kernel
theorem d_X_commit_54 : decode b_X_commit 54 = .ok (.getfield 34, 3) := by decide +kernel
theorem d_X_commit_57 : decode b_X_commit 57 = .ok (.getfield 103, 3) := by decide +kernel
theorem d_X_commit_60 : decode b_X_commit 60 = .ok (.getfield 76, 3) := by decide +kernel
theorem d_X_commit_63 : decode b_X_commit 63 = .ok (.aload_n 0, 1) := by decide +kernel
theorem d_X_commit_64 : decode b_X_commit 64 = .ok (.getfield 27, 3) := by decide +kernel
theorem d_X_commit_67 : decode b_X_commit 67 = .ok (.getfield 76, 3) := by decide +kernel
theorem d_X_commit_70 : decode b_X_commit 70 = .ok (.iadd, 1) := by decide +kernel
theorem d_X_commit_71 : decode b_X_commit 71 = .ok (.bipush 64, 2) := by decide +kernel
theorem d_X_commit_73 : decode b_X_commit 73 = .ok (.if_icmp .le 11, 3) := by decide +kernel
theorem d_X_commit_76 : decode b_X_commit 76 = .ok (.new 106, 3) := by decide +kernel
theorem d_X_commit_79 : decode b_X_commit 79 = .ok (.dup, 1) := by decide +kernel
theorem d_X_commit_80 : decode b_X_commit 80 = .ok (.invokespecial 108, 3) := by decide +kernel
theorem d_X_commit_83 : decode b_X_commit 83 = .ok (.athrow, 1) := by decide +kernel
theorem d_X_commit_84 : decode b_X_commit 84 = .ok (.aload_n 0, 1) := by decide +kernel
theorem d_X_commit_85 : decode b_X_commit 85 = .ok (.iload_n 1, 1) := by decide +kernel
theorem d_X_commit_86 : decode b_X_commit 86 = .ok (.invokevirtual 109, 3) := by decide +kernel
theorem d_X_commit_89 : decode b_X_commit 89 = .ok (.istore 4, 2) := by decide +kernel
theorem d_X_commit_91 : decode b_X_commit 91 = .ok (.iload 4, 2) := by decide +kernel
theorem d_X_commit_93 : decode b_X_commit 93 = .ok (.iconst (-1), 1) := by decide +kernel
theorem d_X_commit_94 : decode b_X_commit 94 = .ok (.if_icmp .eq 8, 3) := by decide +kernel
theorem d_X_commit_97 : decode b_X_commit 97 = .ok (.iconst (-1), 1) := by decide +kernel
theorem d_X_commit_98 : decode b_X_commit 98 = .ok (.iload 4, 2) := by decide +kernel
theorem d_X_commit_100 : decode b_X_commit 100 = .ok (.isub, 1) := by decide +kernel
theorem d_X_commit_101 : decode b_X_commit 101 = .ok (.ireturn, 1) := by decide +kernel
theorem d_X_commit_102 : decode b_X_commit 102 = .ok (.aload_n 0, 1) := by decide +kernel
theorem d_X_commit_103 : decode b_X_commit 103 = .ok (.iload_n 1, 1) := by decide +kernel
theorem d_X_commit_104 : decode b_X_commit 104 = .ok (.invokevirtual 113, 3) := by decide +kernel
theorem d_X_commit_107 : decode b_X_commit 107 = .ok (.aload_n 0, 1) := by decide +kernel
theorem d_X_commit_108 : decode b_X_commit 108 = .ok (.getfield 34, 3) := by decide +kernel
theorem d_X_commit_111 : decode b_X_commit 111 = .ok (.getfield 96, 3) := by decide +kernel
theorem d_X_commit_114 : decode b_X_commit 114 = .ok (.iload_n 1, 1) := by decide +kernel
theorem d_X_commit_115 : decode b_X_commit 115 = .ok (.iaload, 1) := by decide +kernel
theorem d_X_commit_116 : decode b_X_commit 116 = .ok (.istore 5, 2) := by decide +kernel
theorem d_X_commit_118 : decode b_X_commit 118 = .ok (.iload 5, 2) := by decide +kernel
theorem d_X_commit_120 : decode b_X_commit 120 = .ok (.aload_n 0, 1) := by decide +kernel
theorem d_X_commit_121 : decode b_X_commit 121 = .ok (.getfield 18, 3) := by decide +kernel
theorem d_X_commit_124 : decode b_X_commit 124 = .ok (.idiv, 1) := by decide +kernel
theorem d_X_commit_125 : decode b_X_commit 125 = .ok (.iload_n 3, 1) := by decide +kernel
theorem d_X_commit_126 : decode b_X_commit 126 = .ok (.aload_n 0, 1) := by decide +kernel
theorem d_X_commit_127 : decode b_X_commit 127 = .ok (.getfield 18, 3) := by decide +kernel
theorem d_X_commit_130 : decode b_X_commit 130 = .ok (.idiv, 1) := by decide +kernel
theorem d_X_commit_131 : decode b_X_commit 131 = .ok (.if_icmp .le 18, 3) := by decide +kernel
theorem d_X_commit_134 : decode b_X_commit 134 = .ok (.aload_n 0, 1) := by decide +kernel
theorem d_X_commit_135 : decode b_X_commit 135 = .ok (.getfield 47, 3) := by decide +kernel
theorem d_X_commit_138 : decode b_X_commit 138 = .ok (.iload_n 1, 1) := by decide +kernel
theorem d_X_commit_139 : decode b_X_commit 139 = .ok (.aaload, 1) := by decide +kernel
theorem d_X_commit_140 : decode b_X_commit 140 = .ok (.iload 5, 2) := by decide +kernel
theorem d_X_commit_142 : decode b_X_commit 142 = .ok (.aload_n 0, 1) := by decide +kernel
theorem d_X_commit_143 : decode b_X_commit 143 = .ok (.getfield 73, 3) := by decide +kernel
theorem d_X_commit_146 : decode b_X_commit 146 = .ok (.invokevirtual 116, 3) := by decide +kernel
theorem d_X_commit_149 : decode b_X_commit 149 = .ok (.iload 5, 2) := by decide +kernel
theorem d_X_commit_151 : decode b_X_commit 151 = .ok (.ireturn, 1) := by decide +kernel
theorem d_X_cursor_0 : decode b_X_cursor 0 = .ok (.iload_n 1, 1) := by decide +kernel
theorem d_X_cursor_1 : decode b_X_cursor 1 = .ok (.invokestatic 148, 3) := by decide +kernel
theorem d_X_cursor_4 : decode b_X_cursor 4 = .ok (.ifCond .eq 15, 3) := by decide +kernel
theorem d_X_cursor_7 : decode b_X_cursor 7 = .ok (.aload_n 0, 1) := by decide +kernel
theorem d_X_cursor_8 : decode b_X_cursor 8 = .ok (.getfield 54, 3) := by decide +kernel
theorem d_X_cursor_11 : decode b_X_cursor 11 = .ok (.iload_n 1, 1) := by decide +kernel
theorem d_X_cursor_12 : decode b_X_cursor 12 = .ok (.aaload, 1) := by decide +kernel
theorem d_X_cursor_13 : decode b_X_cursor 13 = .ok (.getfield 155, 3) := by decide +kernel
theorem d_X_cursor_16 : decode b_X_cursor 16 = .ok (.goto 4, 3) := by decide +kernel
theorem d_X_cursor_19 : decode b_X_cursor 19 = .ok (.iconst (-1), 1) := by decide +kernel
theorem d_X_cursor_20 : decode b_X_cursor 20 = .ok (.ireturn, 1) := by decide +kernel
theorem d_X_done_0 : decode b_X_done 0 = .ok (.iload_n 1, 1) := by decide +kernel
theorem d_X_done_1 : decode b_X_done 1 = .ok (.invokestatic 148, 3) := by decide +kernel
theorem d_X_done_4 : decode b_X_done 4 = .ok (.ifCond .ne 11, 3) := by decide +kernel
theorem d_X_done_7 : decode b_X_done 7 = .ok (.new 93, 3) := by decide +kernel
theorem d_X_done_10 : decode b_X_done 10 = .ok (.dup, 1) := by decide +kernel
theorem d_X_done_11 : decode b_X_done 11 = .ok (.invokespecial 95, 3) := by decide +kernel
theorem d_X_done_14 : decode b_X_done 14 = .ok (.athrow, 1) := by decide +kernel
theorem d_X_done_15 : decode b_X_done 15 = .ok (.aload_n 0, 1) := by decide +kernel
theorem d_X_done_16 : decode b_X_done 16 = .ok (.getfield 54, 3) := by decide +kernel
theorem d_X_done_19 : decode b_X_done 19 = .ok (.iload_n 1, 1) := by decide +kernel
theorem d_X_done_20 : decode b_X_done 20 = .ok (.aaload, 1) := by decide +kernel
theorem d_X_done_21 : decode b_X_done 21 = .ok (.invokevirtual 171, 3) := by decide +kernel
theorem d_X_done_24 : decode b_X_done 24 = .ok (.ireturn, 1) := by decide +kernel
theorem d_X_field_0 : decode b_X_field 0 = .ok (.aload_n 0, 1) := by decide +kernel
theorem d_X_field_1 : decode b_X_field 1 = .ok (.getfield 69, 3) := by decide +kernel
theorem d_X_field_4 : decode b_X_field 4 = .ok (.iload_n 1, 1) := by decide +kernel
theorem d_X_field_5 : decode b_X_field 5 = .ok (.invokevirtual 142, 3) := by decide +kernel
theorem d_X_field_8 : decode b_X_field 8 = .ok (.lreturn, 1) := by decide +kernel
theorem d_X_follow_0 : decode b_X_follow 0 = .ok (.iload_n 1, 1) := by decide +kernel
theorem d_X_follow_1 : decode b_X_follow 1 = .ok (.invokestatic 148, 3) := by decide +kernel
theorem d_X_follow_4 : decode b_X_follow 4 = .ok (.ifCond .eq 23, 3) := by decide +kernel
theorem d_X_follow_7 : decode b_X_follow 7 = .ok (.iload 4, 2) := by decide +kernel
theorem d_X_follow_9 : decode b_X_follow 9 = .ok (.ifCond .lt 18, 3) := by decide +kernel
theorem d_X_follow_12 : decode b_X_follow 12 = .ok (.iload 4, 2) := by decide +kernel
theorem d_X_follow_14 : decode b_X_follow 14 = .ok (.aload_n 0, 1) := by decide +kernel
theorem d_X_follow_15 : decode b_X_follow 15 = .ok (.getfield 34, 3) := by decide +kernel
theorem d_X_follow_18 : decode b_X_follow 18 = .ok (.getfield 103, 3) := by decide +kernel
theorem d_X_follow_21 : decode b_X_follow 21 = .ok (.getfield 76, 3) := by decide +kernel
theorem d_X_follow_24 : decode b_X_follow 24 = .ok (.if_icmp .le 11, 3) := by decide +kernel
theorem d_X_follow_27 : decode b_X_follow 27 = .ok (.new 93, 3) := by decide +kernel
theorem d_X_follow_30 : decode b_X_follow 30 = .ok (.dup, 1) := by decide +kernel
theorem d_X_follow_31 : decode b_X_follow 31 = .ok (.invokespecial 95, 3) := by decide +kernel
theorem d_X_follow_34 : decode b_X_follow 34 = .ok (.athrow, 1) := by decide +kernel
theorem d_X_follow_35 : decode b_X_follow 35 = .ok (.aload_n 0, 1) := by decide +kernel
theorem d_X_follow_36 : decode b_X_follow 36 = .ok (.getfield 54, 3) := by decide +kernel
theorem d_X_follow_39 : decode b_X_follow 39 = .ok (.iload_n 1, 1) := by decide +kernel
theorem d_X_follow_40 : decode b_X_follow 40 = .ok (.aaload, 1) := by decide +kernel
theorem d_X_follow_41 : decode b_X_follow 41 = .ok (.iload_n 2, 1) := by decide +kernel
theorem d_X_follow_42 : decode b_X_follow 42 = .ok (.iload_n 3, 1) := by decide +kernel
theorem d_X_follow_43 : decode b_X_follow 43 = .ok (.iload 4, 2) := by decide +kernel
theorem d_X_follow_45 : decode b_X_follow 45 = .ok (.invokevirtual 151, 3) := by decide +kernel
theorem d_X_follow_48 : decode b_X_follow 48 = .ok (.return_, 1) := by decide +kernel
theorem d_X_hand_0 : decode b_X_hand 0 = .ok (.iload_n 1, 1) := by decide +kernel
theorem d_X_hand_1 : decode b_X_hand 1 = .ok (.ifCond .lt 26, 3) := by decide +kernel
theorem d_X_hand_4 : decode b_X_hand 4 = .ok (.iload_n 1, 1) := by decide +kernel
theorem d_X_hand_5 : decode b_X_hand 5 = .ok (.aload_n 0, 1) := by decide +kernel
theorem d_X_hand_6 : decode b_X_hand 6 = .ok (.getfield 62, 3) := by decide +kernel
theorem d_X_hand_9 : decode b_X_hand 9 = .ok (.getfield 133, 3) := by decide +kernel
theorem d_X_hand_12 : decode b_X_hand 12 = .ok (.getfield 76, 3) := by decide +kernel
theorem d_X_hand_15 : decode b_X_hand 15 = .ok (.if_icmp .ge 12, 3) := by decide +kernel
theorem d_X_hand_18 : decode b_X_hand 18 = .ok (.iload_n 2, 1) := by decide +kernel
theorem d_X_hand_19 : decode b_X_hand 19 = .ok (.ifCond .lt 8, 3) := by decide +kernel
theorem d_X_hand_22 : decode b_X_hand 22 = .ok (.iload_n 2, 1) := by decide +kernel
theorem d_X_hand_23 : decode b_X_hand 23 = .ok (.iconst 5, 1) := by decide +kernel
theorem d_X_hand_24 : decode b_X_hand 24 = .ok (.if_icmp .lt 11, 3) := by decide +kernel
theorem d_X_hand_27 : decode b_X_hand 27 = .ok (.new 123, 3) := by decide +kernel
theorem d_X_hand_30 : decode b_X_hand 30 = .ok (.dup, 1) := by decide +kernel
theorem d_X_hand_31 : decode b_X_hand 31 = .ok (.invokespecial 125, 3) := by decide +kernel
theorem d_X_hand_34 : decode b_X_hand 34 = .ok (.athrow, 1) := by decide +kernel
theorem d_X_hand_35 : decode b_X_hand 35 = .ok (.aload_n 0, 1) := by decide +kernel
theorem d_X_hand_36 : decode b_X_hand 36 = .ok (.getfield 62, 3) := by decide +kernel
theorem d_X_hand_39 : decode b_X_hand 39 = .ok (.iload_n 1, 1) := by decide +kernel
theorem d_X_hand_40 : decode b_X_hand 40 = .ok (.iload_n 2, 1) := by decide +kernel
theorem d_X_hand_41 : decode b_X_hand 41 = .ok (.invokevirtual 175, 3) := by decide +kernel
theorem d_X_hand_44 : decode b_X_hand 44 = .ok (.ireturn, 1) := by decide +kernel
theorem d_X_isReader_0 : decode b_X_isReader 0 = .ok (.iload_n 0, 1) := by decide +kernel
theorem d_X_isReader_1 : decode b_X_isReader 1 = .ok (.ifCond .lt 12, 3) := by decide +kernel
theorem d_X_isReader_4 : decode b_X_isReader 4 = .ok (.iload_n 0, 1) := by decide +kernel
theorem d_X_isReader_5 : decode b_X_isReader 5 = .ok (.iconst 4, 1) := by decide +kernel
theorem d_X_isReader_6 : decode b_X_isReader 6 = .ok (.if_icmp .ge 7, 3) := by decide +kernel
theorem d_X_isReader_9 : decode b_X_isReader 9 = .ok (.iconst 1, 1) := by decide +kernel
theorem d_X_isReader_10 : decode b_X_isReader 10 = .ok (.goto 4, 3) := by decide +kernel
theorem d_X_isReader_13 : decode b_X_isReader 13 = .ok (.iconst 0, 1) := by decide +kernel
theorem d_X_isReader_14 : decode b_X_isReader 14 = .ok (.ireturn, 1) := by decide +kernel
theorem d_X_isStored_0 : decode b_X_isStored 0 = .ok (.iload_n 1, 1) := by decide +kernel
theorem d_X_isStored_1 : decode b_X_isStored 1 = .ok (.ifCond .lt 21, 3) := by decide +kernel
theorem d_X_isStored_4 : decode b_X_isStored 4 = .ok (.iload_n 1, 1) := by decide +kernel
theorem d_X_isStored_5 : decode b_X_isStored 5 = .ok (.aload_n 0, 1) := by decide +kernel
theorem d_X_isStored_6 : decode b_X_isStored 6 = .ok (.getfield 34, 3) := by decide +kernel
theorem d_X_isStored_9 : decode b_X_isStored 9 = .ok (.getfield 103, 3) := by decide +kernel
theorem d_X_isStored_12 : decode b_X_isStored 12 = .ok (.getfield 76, 3) := by decide +kernel
theorem d_X_isStored_15 : decode b_X_isStored 15 = .ok (.if_icmp .ge 7, 3) := by decide +kernel
theorem d_X_isStored_18 : decode b_X_isStored 18 = .ok (.iconst 1, 1) := by decide +kernel
theorem d_X_isStored_19 : decode b_X_isStored 19 = .ok (.goto 4, 3) := by decide +kernel
theorem d_X_isStored_22 : decode b_X_isStored 22 = .ok (.iconst 0, 1) := by decide +kernel
theorem d_X_isStored_23 : decode b_X_isStored 23 = .ok (.ireturn, 1) := by decide +kernel
theorem d_X_isStream_0 : decode b_X_isStream 0 = .ok (.iload_n 0, 1) := by decide +kernel
theorem d_X_isStream_1 : decode b_X_isStream 1 = .ok (.ifCond .lt 13, 3) := by decide +kernel
theorem d_X_isStream_4 : decode b_X_isStream 4 = .ok (.iload_n 0, 1) := by decide +kernel
theorem d_X_isStream_5 : decode b_X_isStream 5 = .ok (.bipush 8, 2) := by decide +kernel
theorem d_X_isStream_7 : decode b_X_isStream 7 = .ok (.if_icmp .ge 7, 3) := by decide +kernel
theorem d_X_isStream_10 : decode b_X_isStream 10 = .ok (.iconst 1, 1) := by decide +kernel
theorem d_X_isStream_11 : decode b_X_isStream 11 = .ok (.goto 4, 3) := by decide +kernel
theorem d_X_isStream_14 : decode b_X_isStream 14 = .ok (.iconst 0, 1) := by decide +kernel
theorem d_X_isStream_15 : decode b_X_isStream 15 = .ok (.ireturn, 1) := by decide +kernel
theorem d_X_isType_0 : decode b_X_isType 0 = .ok (.iload_n 0, 1) := by decide +kernel
theorem d_X_isType_1 : decode b_X_isType 1 = .ok (.ifCond .lt 13, 3) := by decide +kernel
theorem d_X_isType_4 : decode b_X_isType 4 = .ok (.iload_n 0, 1) := by decide +kernel
theorem d_X_isType_5 : decode b_X_isType 5 = .ok (.bipush 6, 2) := by decide +kernel
theorem d_X_isType_7 : decode b_X_isType 7 = .ok (.if_icmp .ge 7, 3) := by decide +kernel
theorem d_X_isType_10 : decode b_X_isType 10 = .ok (.iconst 1, 1) := by decide +kernel
theorem d_X_isType_11 : decode b_X_isType 11 = .ok (.goto 4, 3) := by decide +kernel
theorem d_X_isType_14 : decode b_X_isType 14 = .ok (.iconst 0, 1) := by decide +kernel
theorem d_X_isType_15 : decode b_X_isType 15 = .ok (.ireturn, 1) := by decide +kernel
theorem d_X_learn_0 : decode b_X_learn 0 = .ok (.iload_n 1, 1) := by decide +kernel
theorem d_X_learn_1 : decode b_X_learn 1 = .ok (.invokestatic 79, 3) := by decide +kernel
theorem d_X_learn_4 : decode b_X_learn 4 = .ok (.ifCond .eq 13, 3) := by decide +kernel
theorem d_X_learn_7 : decode b_X_learn 7 = .ok (.iload_n 2, 1) := by decide +kernel
theorem d_X_learn_8 : decode b_X_learn 8 = .ok (.iconst 1, 1) := by decide +kernel
theorem d_X_learn_9 : decode b_X_learn 9 = .ok (.if_icmp .lt 8, 3) := by decide +kernel
theorem d_X_learn_12 : decode b_X_learn 12 = .ok (.iload_n 2, 1) := by decide +kernel
theorem d_X_learn_13 : decode b_X_learn 13 = .ok (.iconst 3, 1) := by decide +kernel
theorem d_X_learn_14 : decode b_X_learn 14 = .ok (.if_icmp .lt 11, 3) := by decide +kernel
theorem d_X_learn_17 : decode b_X_learn 17 = .ok (.new 93, 3) := by decide +kernel
theorem d_X_learn_20 : decode b_X_learn 20 = .ok (.dup, 1) := by decide +kernel
theorem d_X_learn_21 : decode b_X_learn 21 = .ok (.invokespecial 95, 3) := by decide +kernel
theorem d_X_learn_24 : decode b_X_learn 24 = .ok (.athrow, 1) := by decide +kernel
theorem d_X_learn_25 : decode b_X_learn 25 = .ok (.iload_n 3, 1) := by decide +kernel
theorem d_X_learn_26 : decode b_X_learn 26 = .ok (.ifCond .lt 22, 3) := by decide +kernel
theorem d_X_learn_29 : decode b_X_learn 29 = .ok (.iload_n 3, 1) := by decide +kernel
theorem d_X_learn_30 : decode b_X_learn 30 = .ok (.bipush 6, 2) := by decide +kernel
theorem d_X_learn_32 : decode b_X_learn 32 = .ok (.if_icmp .gt 16, 3) := by decide +kernel
theorem d_X_learn_35 : decode b_X_learn 35 = .ok (.iload_n 3, 1) := by decide +kernel
theorem d_X_learn_36 : decode b_X_learn 36 = .ok (.iconst 5, 1) := by decide +kernel
theorem d_X_learn_37 : decode b_X_learn 37 = .ok (.if_icmp .ne 19, 3) := by decide +kernel
theorem d_X_learn_40 : decode b_X_learn 40 = .ok (.iload 4, 2) := by decide +kernel
theorem d_X_learn_42 : decode b_X_learn 42 = .ok (.invokestatic 79, 3) := by decide +kernel
theorem d_X_learn_45 : decode b_X_learn 45 = .ok (.ifCond .ne 11, 3) := by decide +kernel
theorem d_X_learn_48 : decode b_X_learn 48 = .ok (.new 93, 3) := by decide +kernel
theorem d_X_learn_51 : decode b_X_learn 51 = .ok (.dup, 1) := by decide +kernel
theorem d_X_learn_52 : decode b_X_learn 52 = .ok (.invokespecial 95, 3) := by decide +kernel
theorem d_X_learn_55 : decode b_X_learn 55 = .ok (.athrow, 1) := by decide +kernel
theorem d_X_learn_56 : decode b_X_learn 56 = .ok (.aload_n 0, 1) := by decide +kernel
theorem d_X_learn_57 : decode b_X_learn 57 = .ok (.getfield 41, 3) := by decide +kernel
theorem d_X_learn_60 : decode b_X_learn 60 = .ok (.iload_n 1, 1) := by decide +kernel
theorem d_X_learn_61 : decode b_X_learn 61 = .ok (.iload_n 2, 1) := by decide +kernel
theorem d_X_learn_62 : decode b_X_learn 62 = .ok (.iload_n 3, 1) := by decide +kernel
theorem d_X_learn_63 : decode b_X_learn 63 = .ok (.iload 4, 2) := by decide +kernel
theorem d_X_learn_65 : decode b_X_learn 65 = .ok (.invokevirtual 129, 3) := by decide +kernel
theorem d_X_learn_68 : decode b_X_learn 68 = .ok (.iconst 0, 1) := by decide +kernel
theorem d_X_learn_69 : decode b_X_learn 69 = .ok (.istore 5, 2) := by decide +kernel
theorem d_X_learn_71 : decode b_X_learn 71 = .ok (.iload 5, 2) := by decide +kernel
theorem d_X_learn_73 : decode b_X_learn 73 = .ok (.bipush 8, 2) := by decide +kernel
theorem d_X_learn_75 : decode b_X_learn 75 = .ok (.if_icmp .ge 19, 3) := by decide +kernel
theorem d_X_learn_78 : decode b_X_learn 78 = .ok (.aload_n 0, 1) := by decide +kernel
theorem d_X_learn_79 : decode b_X_learn 79 = .ok (.getfield 47, 3) := by decide +kernel
theorem d_X_learn_82 : decode b_X_learn 82 = .ok (.iload 5, 2) := by decide +kernel
theorem d_X_learn_84 : decode b_X_learn 84 = .ok (.aaload, 1) := by decide +kernel
theorem d_X_learn_85 : decode b_X_learn 85 = .ok (.invokevirtual 132, 3) := by decide +kernel
theorem d_X_learn_88 : decode b_X_learn 88 = .ok (.iinc 5 1, 3) := by decide +kernel
theorem d_X_learn_91 : decode b_X_learn 91 = .ok (.goto (-20), 3) := by decide +kernel
theorem d_X_learn_94 : decode b_X_learn 94 = .ok (.aload_n 0, 1) := by decide +kernel
theorem d_X_learn_95 : decode b_X_learn 95 = .ok (.getfield 27, 3) := by decide +kernel
theorem d_X_learn_98 : decode b_X_learn 98 = .ok (.invokevirtual 87, 3) := by decide +kernel
theorem d_X_learn_101 : decode b_X_learn 101 = .ok (.aload_n 0, 1) := by decide +kernel
theorem d_X_learn_102 : decode b_X_learn 102 = .ok (.getfield 62, 3) := by decide +kernel
theorem d_X_learn_105 : decode b_X_learn 105 = .ok (.getfield 133, 3) := by decide +kernel
theorem d_X_learn_108 : decode b_X_learn 108 = .ok (.invokevirtual 87, 3) := by decide +kernel
theorem d_X_learn_111 : decode b_X_learn 111 = .ok (.return_, 1) := by decide +kernel
theorem d_X_load_0 : decode b_X_load 0 = .ok (.iload_n 1, 1) := by decide +kernel
theorem d_X_load_1 : decode b_X_load 1 = .ok (.invokestatic 90, 3) := by decide +kernel
theorem d_X_load_4 : decode b_X_load 4 = .ok (.ifCond .eq 20, 3) := by decide +kernel
theorem d_X_load_7 : decode b_X_load 7 = .ok (.iload_n 2, 1) := by decide +kernel
theorem d_X_load_8 : decode b_X_load 8 = .ok (.ifCond .lt 16, 3) := by decide +kernel
theorem d_X_load_11 : decode b_X_load 11 = .ok (.iload_n 2, 1) := by decide +kernel
theorem d_X_load_12 : decode b_X_load 12 = .ok (.aload_n 0, 1) := by decide +kernel
theorem d_X_load_13 : decode b_X_load 13 = .ok (.getfield 34, 3) := by decide +kernel
theorem d_X_load_16 : decode b_X_load 16 = .ok (.getfield 96, 3) := by decide +kernel
theorem d_X_load_19 : decode b_X_load 19 = .ok (.iload_n 1, 1) := by decide +kernel
theorem d_X_load_20 : decode b_X_load 20 = .ok (.iaload, 1) := by decide +kernel
theorem d_X_load_21 : decode b_X_load 21 = .ok (.if_icmp .le 11, 3) := by decide +kernel
theorem d_X_load_24 : decode b_X_load 24 = .ok (.new 93, 3) := by decide +kernel
theorem d_X_load_27 : decode b_X_load 27 = .ok (.dup, 1) := by decide +kernel
theorem d_X_load_28 : decode b_X_load 28 = .ok (.invokespecial 95, 3) := by decide +kernel
theorem d_X_load_31 : decode b_X_load 31 = .ok (.athrow, 1) := by decide +kernel
theorem d_X_load_32 : decode b_X_load 32 = .ok (.aload_n 0, 1) := by decide +kernel
theorem d_X_load_33 : decode b_X_load 33 = .ok (.aload_n 0, 1) := by decide +kernel
theorem d_X_load_34 : decode b_X_load 34 = .ok (.getfield 69, 3) := by decide +kernel
theorem d_X_load_37 : decode b_X_load 37 = .ok (.iload_n 1, 1) := by decide +kernel
theorem d_X_load_38 : decode b_X_load 38 = .ok (.iload_n 2, 1) := by decide +kernel
theorem d_X_load_39 : decode b_X_load 39 = .ok (.invokevirtual 138, 3) := by decide +kernel
theorem d_X_load_42 : decode b_X_load 42 = .ok (.ireturn, 1) := by decide +kernel
theorem d_X_loadInto_0 : decode b_X_loadInto 0 = .ok (.aload_n 0, 1) := by decide +kernel
theorem d_X_loadInto_1 : decode b_X_loadInto 1 = .ok (.getfield 47, 3) := by decide +kernel
theorem d_X_loadInto_4 : decode b_X_loadInto 4 = .ok (.iload_n 2, 1) := by decide +kernel
theorem d_X_loadInto_5 : decode b_X_loadInto 5 = .ok (.aaload, 1) := by decide +kernel
theorem d_X_loadInto_6 : decode b_X_loadInto 6 = .ok (.aload_n 1, 1) := by decide +kernel
theorem d_X_loadInto_7 : decode b_X_loadInto 7 = .ok (.iload_n 3, 1) := by decide +kernel
theorem d_X_loadInto_8 : decode b_X_loadInto 8 = .ok (.invokevirtual 188, 3) := by decide +kernel
theorem d_X_loadInto_11 : decode b_X_loadInto 11 = .ok (.istore 4, 2) := by decide +kernel
theorem d_X_loadInto_13 : decode b_X_loadInto 13 = .ok (.iconst 0, 1) := by decide +kernel
theorem d_X_loadInto_14 : decode b_X_loadInto 14 = .ok (.istore 5, 2) := by decide +kernel
theorem d_X_loadInto_16 : decode b_X_loadInto 16 = .ok (.iload 5, 2) := by decide +kernel
theorem d_X_loadInto_18 : decode b_X_loadInto 18 = .ok (.aload_n 0, 1) := by decide +kernel
theorem d_X_loadInto_19 : decode b_X_loadInto 19 = .ok (.getfield 34, 3) := by decide +kernel
theorem d_X_loadInto_22 : decode b_X_loadInto 22 = .ok (.getfield 103, 3) := by decide +kernel
theorem d_X_loadInto_25 : decode b_X_loadInto 25 = .ok (.getfield 76, 3) := by decide +kernel
theorem d_X_loadInto_28 : decode b_X_loadInto 28 = .ok (.if_icmp .ge 72, 3) := by decide +kernel
theorem d_X_loadInto_31 : decode b_X_loadInto 31 = .ok (.aload_n 0, 1) := by decide +kernel
theorem d_X_loadInto_32 : decode b_X_loadInto 32 = .ok (.getfield 34, 3) := by decide +kernel
theorem d_X_loadInto_35 : decode b_X_loadInto 35 = .ok (.getfield 158, 3) := by decide +kernel
theorem d_X_loadInto_38 : decode b_X_loadInto 38 = .ok (.iload 5, 2) := by decide +kernel
theorem d_X_loadInto_40 : decode b_X_loadInto 40 = .ok (.iaload, 1) := by decide +kernel
theorem d_X_loadInto_41 : decode b_X_loadInto 41 = .ok (.iload_n 2, 1) := by decide +kernel
theorem d_X_loadInto_42 : decode b_X_loadInto 42 = .ok (.if_icmp .ne 52, 3) := by decide +kernel
theorem d_X_loadInto_45 : decode b_X_loadInto 45 = .ok (.aload_n 0, 1) := by decide +kernel
theorem d_X_loadInto_46 : decode b_X_loadInto 46 = .ok (.getfield 34, 3) := by decide +kernel
theorem d_X_loadInto_49 : decode b_X_loadInto 49 = .ok (.getfield 192, 3) := by decide +kernel
theorem d_X_loadInto_52 : decode b_X_loadInto 52 = .ok (.iload 5, 2) := by decide +kernel
theorem d_X_loadInto_54 : decode b_X_loadInto 54 = .ok (.iaload, 1) := by decide +kernel
theorem d_X_loadInto_55 : decode b_X_loadInto 55 = .ok (.iload 4, 2) := by decide +kernel
theorem d_X_loadInto_57 : decode b_X_loadInto 57 = .ok (.if_icmp .lt 37, 3) := by decide +kernel
theorem d_X_loadInto_60 : decode b_X_loadInto 60 = .ok (.aload_n 0, 1) := by decide +kernel
theorem d_X_loadInto_61 : decode b_X_loadInto 61 = .ok (.getfield 34, 3) := by decide +kernel
theorem d_X_loadInto_64 : decode b_X_loadInto 64 = .ok (.getfield 192, 3) := by decide +kernel
theorem d_X_loadInto_67 : decode b_X_loadInto 67 = .ok (.iload 5, 2) := by decide +kernel
theorem d_X_loadInto_69 : decode b_X_loadInto 69 = .ok (.iaload, 1) := by decide +kernel
theorem d_X_loadInto_70 : decode b_X_loadInto 70 = .ok (.iload_n 3, 1) := by decide +kernel
theorem d_X_loadInto_71 : decode b_X_loadInto 71 = .ok (.if_icmp .ge 23, 3) := by decide +kernel
theorem d_X_loadInto_74 : decode b_X_loadInto 74 = .ok (.aload_n 1, 1) := by decide +kernel
theorem d_X_loadInto_75 : decode b_X_loadInto 75 = .ok (.aload_n 0, 1) := by decide +kernel
theorem d_X_loadInto_76 : decode b_X_loadInto 76 = .ok (.getfield 41, 3) := by decide +kernel
theorem d_X_loadInto_79 : decode b_X_loadInto 79 = .ok (.aload_n 0, 1) := by decide +kernel
theorem d_X_loadInto_80 : decode b_X_loadInto 80 = .ok (.getfield 34, 3) := by decide +kernel
theorem d_X_loadInto_83 : decode b_X_loadInto 83 = .ok (.getfield 103, 3) := by decide +kernel
theorem d_X_loadInto_86 : decode b_X_loadInto 86 = .ok (.iload 5, 2) := by decide +kernel
theorem d_X_loadInto_88 : decode b_X_loadInto 88 = .ok (.invokevirtual 134, 3) := by decide +kernel
theorem d_X_loadInto_91 : decode b_X_loadInto 91 = .ok (.invokevirtual 180, 3) := by decide +kernel
theorem d_X_loadInto_94 : decode b_X_loadInto 94 = .ok (.iinc 5 1, 3) := by decide +kernel
theorem d_X_loadInto_97 : decode b_X_loadInto 97 = .ok (.goto (-81), 3) := by decide +kernel
theorem d_X_loadInto_100 : decode b_X_loadInto 100 = .ok (.iload_n 3, 1) := by decide +kernel
theorem d_X_loadInto_101 : decode b_X_loadInto 101 = .ok (.iload 4, 2) := by decide +kernel
theorem d_X_loadInto_103 : decode b_X_loadInto 103 = .ok (.isub, 1) := by decide +kernel
theorem d_X_loadInto_104 : decode b_X_loadInto 104 = .ok (.ireturn, 1) := by decide +kernel
theorem d_X_poll_0 : decode b_X_poll 0 = .ok (.iload_n 1, 1) := by decide +kernel
theorem d_X_poll_1 : decode b_X_poll 1 = .ok (.invokestatic 148, 3) := by decide +kernel
theorem d_X_poll_4 : decode b_X_poll 4 = .ok (.ifCond .eq 13, 3) := by decide +kernel
theorem d_X_poll_7 : decode b_X_poll 7 = .ok (.iload_n 2, 1) := by decide +kernel
theorem d_X_poll_8 : decode b_X_poll 8 = .ok (.iconst 1, 1) := by decide +kernel
theorem d_X_poll_9 : decode b_X_poll 9 = .ok (.if_icmp .lt 8, 3) := by decide +kernel
theorem d_X_poll_12 : decode b_X_poll 12 = .ok (.iload_n 2, 1) := by decide +kernel
theorem d_X_poll_13 : decode b_X_poll 13 = .ok (.iconst 4, 1) := by decide +kernel
theorem d_X_poll_14 : decode b_X_poll 14 = .ok (.if_icmp .le 11, 3) := by decide +kernel
theorem d_X_poll_17 : decode b_X_poll 17 = .ok (.new 93, 3) := by decide +kernel
theorem d_X_poll_20 : decode b_X_poll 20 = .ok (.dup, 1) := by decide +kernel
theorem d_X_poll_21 : decode b_X_poll 21 = .ok (.invokespecial 95, 3) := by decide +kernel
theorem d_X_poll_24 : decode b_X_poll 24 = .ok (.athrow, 1) := by decide +kernel
theorem d_X_poll_25 : decode b_X_poll 25 = .ok (.aload_n 0, 1) := by decide +kernel
theorem d_X_poll_26 : decode b_X_poll 26 = .ok (.getfield 54, 3) := by decide +kernel
theorem d_X_poll_29 : decode b_X_poll 29 = .ok (.iload_n 1, 1) := by decide +kernel
theorem d_X_poll_30 : decode b_X_poll 30 = .ok (.aaload, 1) := by decide +kernel
theorem d_X_poll_31 : decode b_X_poll 31 = .ok (.astore_n 3, 1) := by decide +kernel
theorem d_X_poll_32 : decode b_X_poll 32 = .ok (.aload_n 0, 1) := by decide +kernel
theorem d_X_poll_33 : decode b_X_poll 33 = .ok (.getfield 62, 3) := by decide +kernel
theorem d_X_poll_36 : decode b_X_poll 36 = .ok (.getfield 133, 3) := by decide +kernel
theorem d_X_poll_39 : decode b_X_poll 39 = .ok (.invokevirtual 87, 3) := by decide +kernel
theorem d_X_poll_42 : decode b_X_poll 42 = .ok (.iconst 0, 1) := by decide +kernel
theorem d_X_poll_43 : decode b_X_poll 43 = .ok (.istore 4, 2) := by decide +kernel
theorem d_X_poll_45 : decode b_X_poll 45 = .ok (.aload_n 3, 1) := by decide +kernel
theorem d_X_poll_46 : decode b_X_poll 46 = .ok (.getfield 155, 3) := by decide +kernel
theorem d_X_poll_49 : decode b_X_poll 49 = .ok (.istore 5, 2) := by decide +kernel
theorem d_X_poll_51 : decode b_X_poll 51 = .ok (.iload 5, 2) := by decide +kernel
theorem d_X_poll_53 : decode b_X_poll 53 = .ok (.aload_n 0, 1) := by decide +kernel
theorem d_X_poll_54 : decode b_X_poll 54 = .ok (.getfield 34, 3) := by decide +kernel
theorem d_X_poll_57 : decode b_X_poll 57 = .ok (.getfield 103, 3) := by decide +kernel
theorem d_X_poll_60 : decode b_X_poll 60 = .ok (.getfield 76, 3) := by decide +kernel
theorem d_X_poll_63 : decode b_X_poll 63 = .ok (.if_icmp .ge 45, 3) := by decide +kernel
theorem d_X_poll_66 : decode b_X_poll 66 = .ok (.iload 4, 2) := by decide +kernel
theorem d_X_poll_68 : decode b_X_poll 68 = .ok (.iload_n 2, 1) := by decide +kernel
theorem d_X_poll_69 : decode b_X_poll 69 = .ok (.if_icmp .ge 39, 3) := by decide +kernel
theorem d_X_poll_72 : decode b_X_poll 72 = .ok (.aload_n 3, 1) := by decide +kernel
theorem d_X_poll_73 : decode b_X_poll 73 = .ok (.aload_n 0, 1) := by decide +kernel
theorem d_X_poll_74 : decode b_X_poll 74 = .ok (.getfield 34, 3) := by decide +kernel
theorem d_X_poll_77 : decode b_X_poll 77 = .ok (.getfield 158, 3) := by decide +kernel
theorem d_X_poll_80 : decode b_X_poll 80 = .ok (.iload 5, 2) := by decide +kernel
theorem d_X_poll_82 : decode b_X_poll 82 = .ok (.iaload, 1) := by decide +kernel
theorem d_X_poll_83 : decode b_X_poll 83 = .ok (.invokevirtual 161, 3) := by decide +kernel
theorem d_X_poll_86 : decode b_X_poll 86 = .ok (.ifCond .eq 16, 3) := by decide +kernel
theorem d_X_poll_89 : decode b_X_poll 89 = .ok (.aload_n 0, 1) := by decide +kernel
theorem d_X_poll_90 : decode b_X_poll 90 = .ok (.iload 5, 2) := by decide +kernel
theorem d_X_poll_92 : decode b_X_poll 92 = .ok (.aload_n 3, 1) := by decide +kernel
theorem d_X_poll_93 : decode b_X_poll 93 = .ok (.invokevirtual 164, 3) := by decide +kernel
theorem d_X_poll_96 : decode b_X_poll 96 = .ok (.ifCond .le 6, 3) := by decide +kernel
theorem d_X_poll_99 : decode b_X_poll 99 = .ok (.iinc 4 1, 3) := by decide +kernel
theorem d_X_poll_102 : decode b_X_poll 102 = .ok (.iinc 5 1, 3) := by decide +kernel
theorem d_X_poll_105 : decode b_X_poll 105 = .ok (.goto (-54), 3) := by decide +kernel
theorem d_X_poll_108 : decode b_X_poll 108 = .ok (.aload_n 3, 1) := by decide +kernel
theorem d_X_poll_109 : decode b_X_poll 109 = .ok (.iload 5, 2) := by decide +kernel
theorem d_X_poll_111 : decode b_X_poll 111 = .ok (.putfield 168, 3) := by decide +kernel
theorem d_X_poll_114 : decode b_X_poll 114 = .ok (.aload_n 0, 1) := by decide +kernel
theorem d_X_poll_115 : decode b_X_poll 115 = .ok (.getfield 62, 3) := by decide +kernel
theorem d_X_poll_118 : decode b_X_poll 118 = .ok (.getfield 133, 3) := by decide +kernel
theorem d_X_poll_121 : decode b_X_poll 121 = .ok (.getfield 76, 3) := by decide +kernel
theorem d_X_poll_124 : decode b_X_poll 124 = .ok (.ireturn, 1) := by decide +kernel
theorem d_X_snapshot_0 : decode b_X_snapshot 0 = .ok (.iload_n 1, 1) := by decide +kernel
theorem d_X_snapshot_1 : decode b_X_snapshot 1 = .ok (.invokestatic 90, 3) := by decide +kernel
theorem d_X_snapshot_4 : decode b_X_snapshot 4 = .ok (.ifCond .eq 16, 3) := by decide +kernel
theorem d_X_snapshot_7 : decode b_X_snapshot 7 = .ok (.aload_n 0, 1) := by decide +kernel
theorem d_X_snapshot_8 : decode b_X_snapshot 8 = .ok (.getfield 47, 3) := by decide +kernel
theorem d_X_snapshot_11 : decode b_X_snapshot 11 = .ok (.iload_n 1, 1) := by decide +kernel
theorem d_X_snapshot_12 : decode b_X_snapshot 12 = .ok (.aaload, 1) := by decide +kernel
theorem d_X_snapshot_13 : decode b_X_snapshot 13 = .ok (.iload_n 2, 1) := by decide +kernel
theorem d_X_snapshot_14 : decode b_X_snapshot 14 = .ok (.invokevirtual 145, 3) := by decide +kernel
theorem d_X_snapshot_17 : decode b_X_snapshot 17 = .ok (.goto 4, 3) := by decide +kernel
theorem d_X_snapshot_20 : decode b_X_snapshot 20 = .ok (.iconst (-1), 1) := by decide +kernel
theorem d_X_snapshot_21 : decode b_X_snapshot 21 = .ok (.ireturn, 1) := by decide +kernel
theorem d_X_stage_0 : decode b_X_stage 0 = .ok (.aload_n 0, 1) := by decide +kernel
theorem d_X_stage_1 : decode b_X_stage 1 = .ok (.getfield 27, 3) := by decide +kernel
theorem d_X_stage_4 : decode b_X_stage 4 = .ok (.getfield 76, 3) := by decide +kernel
theorem d_X_stage_7 : decode b_X_stage 7 = .ok (.iconst 4, 1) := by decide +kernel
theorem d_X_stage_8 : decode b_X_stage 8 = .ok (.if_icmp .ge 20, 3) := by decide +kernel
theorem d_X_stage_11 : decode b_X_stage 11 = .ok (.iload_n 1, 1) := by decide +kernel
theorem d_X_stage_12 : decode b_X_stage 12 = .ok (.invokestatic 79, 3) := by decide +kernel
theorem d_X_stage_15 : decode b_X_stage 15 = .ok (.ifCond .eq 13, 3) := by decide +kernel
theorem d_X_stage_18 : decode b_X_stage 18 = .ok (.iload_n 2, 1) := by decide +kernel
theorem d_X_stage_19 : decode b_X_stage 19 = .ok (.iconst 1, 1) := by decide +kernel
theorem d_X_stage_20 : decode b_X_stage 20 = .ok (.if_icmp .lt 8, 3) := by decide +kernel
theorem d_X_stage_23 : decode b_X_stage 23 = .ok (.iload_n 2, 1) := by decide +kernel
theorem d_X_stage_24 : decode b_X_stage 24 = .ok (.iconst 3, 1) := by decide +kernel
theorem d_X_stage_25 : decode b_X_stage 25 = .ok (.if_icmp .le 5, 3) := by decide +kernel
theorem d_X_stage_28 : decode b_X_stage 28 = .ok (.iconst 0, 1) := by decide +kernel
theorem d_X_stage_29 : decode b_X_stage 29 = .ok (.ireturn, 1) := by decide +kernel
theorem d_X_stage_30 : decode b_X_stage 30 = .ok (.aload_n 0, 1) := by decide +kernel
theorem d_X_stage_31 : decode b_X_stage 31 = .ok (.getfield 27, 3) := by decide +kernel
theorem d_X_stage_34 : decode b_X_stage 34 = .ok (.iload_n 1, 1) := by decide +kernel
theorem d_X_stage_35 : decode b_X_stage 35 = .ok (.iload_n 2, 1) := by decide +kernel
theorem d_X_stage_36 : decode b_X_stage 36 = .ok (.iload_n 3, 1) := by decide +kernel
theorem d_X_stage_37 : decode b_X_stage 37 = .ok (.iload 4, 2) := by decide +kernel
theorem d_X_stage_39 : decode b_X_stage 39 = .ok (.invokevirtual 83, 3) := by decide +kernel
theorem d_X_stage_42 : decode b_X_stage 42 = .ok (.iconst 1, 1) := by decide +kernel
theorem d_X_stage_43 : decode b_X_stage 43 = .ok (.ireturn, 1) := by decide +kernel
theorem d_X_storeBatch_0 : decode b_X_storeBatch 0 = .ok (.iconst 0, 1) := by decide +kernel
theorem d_X_storeBatch_1 : decode b_X_storeBatch 1 = .ok (.istore_n 2, 1) := by decide +kernel
theorem d_X_storeBatch_2 : decode b_X_storeBatch 2 = .ok (.iload_n 2, 1) := by decide +kernel
theorem d_X_storeBatch_3 : decode b_X_storeBatch 3 = .ok (.aload_n 0, 1) := by decide +kernel
theorem d_X_storeBatch_4 : decode b_X_storeBatch 4 = .ok (.getfield 27, 3) := by decide +kernel
theorem d_X_storeBatch_7 : decode b_X_storeBatch 7 = .ok (.getfield 76, 3) := by decide +kernel
theorem d_X_storeBatch_10 : decode b_X_storeBatch 10 = .ok (.if_icmp .ge 22, 3) := by decide +kernel
theorem d_X_storeBatch_13 : decode b_X_storeBatch 13 = .ok (.aload_n 0, 1) := by decide +kernel
theorem d_X_storeBatch_14 : decode b_X_storeBatch 14 = .ok (.getfield 34, 3) := by decide +kernel
theorem d_X_storeBatch_17 : decode b_X_storeBatch 17 = .ok (.iload_n 1, 1) := by decide +kernel
theorem d_X_storeBatch_18 : decode b_X_storeBatch 18 = .ok (.aload_n 0, 1) := by decide +kernel
theorem d_X_storeBatch_19 : decode b_X_storeBatch 19 = .ok (.getfield 27, 3) := by decide +kernel
theorem d_X_storeBatch_22 : decode b_X_storeBatch 22 = .ok (.iload_n 2, 1) := by decide +kernel
theorem d_X_storeBatch_23 : decode b_X_storeBatch 23 = .ok (.invokevirtual 184, 3) := by decide +kernel
theorem d_X_storeBatch_26 : decode b_X_storeBatch 26 = .ok (.iinc 2 1, 3) := by decide +kernel
theorem d_X_storeBatch_29 : decode b_X_storeBatch 29 = .ok (.goto (-27), 3) := by decide +kernel
theorem d_X_storeBatch_32 : decode b_X_storeBatch 32 = .ok (.aload_n 0, 1) := by decide +kernel
theorem d_X_storeBatch_33 : decode b_X_storeBatch 33 = .ok (.getfield 27, 3) := by decide +kernel
theorem d_X_storeBatch_36 : decode b_X_storeBatch 36 = .ok (.invokevirtual 87, 3) := by decide +kernel
theorem d_X_storeBatch_39 : decode b_X_storeBatch 39 = .ok (.return_, 1) := by decide +kernel
theorem d_X_stored_0 : decode b_X_stored 0 = .ok (.aload_n 0, 1) := by decide +kernel
theorem d_X_stored_1 : decode b_X_stored 1 = .ok (.iload_n 1, 1) := by decide +kernel
theorem d_X_stored_2 : decode b_X_stored 2 = .ok (.invokevirtual 120, 3) := by decide +kernel
theorem d_X_stored_5 : decode b_X_stored 5 = .ok (.ifCond .eq 13, 3) := by decide +kernel
theorem d_X_stored_8 : decode b_X_stored 8 = .ok (.iload_n 2, 1) := by decide +kernel
theorem d_X_stored_9 : decode b_X_stored 9 = .ok (.ifCond .lt 9, 3) := by decide +kernel
theorem d_X_stored_12 : decode b_X_stored 12 = .ok (.iload_n 2, 1) := by decide +kernel
theorem d_X_stored_13 : decode b_X_stored 13 = .ok (.bipush 6, 2) := by decide +kernel
theorem d_X_stored_15 : decode b_X_stored 15 = .ok (.if_icmp .lt 11, 3) := by decide +kernel
theorem d_X_stored_18 : decode b_X_stored 18 = .ok (.new 123, 3) := by decide +kernel
theorem d_X_stored_21 : decode b_X_stored 21 = .ok (.dup, 1) := by decide +kernel
theorem d_X_stored_22 : decode b_X_stored 22 = .ok (.invokespecial 125, 3) := by decide +kernel
theorem d_X_stored_25 : decode b_X_stored 25 = .ok (.athrow, 1) := by decide +kernel
theorem d_X_stored_26 : decode b_X_stored 26 = .ok (.aload_n 0, 1) := by decide +kernel
theorem d_X_stored_27 : decode b_X_stored 27 = .ok (.getfield 34, 3) := by decide +kernel
theorem d_X_stored_30 : decode b_X_stored 30 = .ok (.iload_n 1, 1) := by decide +kernel
theorem d_X_stored_31 : decode b_X_stored 31 = .ok (.iload_n 2, 1) := by decide +kernel
theorem d_X_stored_32 : decode b_X_stored 32 = .ok (.invokevirtual 126, 3) := by decide +kernel
theorem d_X_stored_35 : decode b_X_stored 35 = .ok (.ireturn, 1) := by decide +kernel
theorem d_X_takeFrom_0 : decode b_X_takeFrom 0 = .ok (.aload_n 0, 1) := by decide +kernel
theorem d_X_takeFrom_1 : decode b_X_takeFrom 1 = .ok (.getfield 62, 3) := by decide +kernel
theorem d_X_takeFrom_4 : decode b_X_takeFrom 4 = .ok (.getfield 133, 3) := by decide +kernel
theorem d_X_takeFrom_7 : decode b_X_takeFrom 7 = .ok (.getfield 76, 3) := by decide +kernel
theorem d_X_takeFrom_10 : decode b_X_takeFrom 10 = .ok (.istore_n 3, 1) := by decide +kernel
theorem d_X_takeFrom_11 : decode b_X_takeFrom 11 = .ok (.aload_n 0, 1) := by decide +kernel
theorem d_X_takeFrom_12 : decode b_X_takeFrom 12 = .ok (.getfield 41, 3) := by decide +kernel
theorem d_X_takeFrom_15 : decode b_X_takeFrom 15 = .ok (.aload_n 0, 1) := by decide +kernel
theorem d_X_takeFrom_16 : decode b_X_takeFrom 16 = .ok (.getfield 34, 3) := by decide +kernel
theorem d_X_takeFrom_19 : decode b_X_takeFrom 19 = .ok (.getfield 103, 3) := by decide +kernel
theorem d_X_takeFrom_22 : decode b_X_takeFrom 22 = .ok (.iload_n 1, 1) := by decide +kernel
theorem d_X_takeFrom_23 : decode b_X_takeFrom 23 = .ok (.invokevirtual 134, 3) := by decide +kernel
theorem d_X_takeFrom_26 : decode b_X_takeFrom 26 = .ok (.astore 4, 2) := by decide +kernel
theorem d_X_takeFrom_28 : decode b_X_takeFrom 28 = .ok (.iconst 0, 1) := by decide +kernel
theorem d_X_takeFrom_29 : decode b_X_takeFrom 29 = .ok (.istore 5, 2) := by decide +kernel
theorem d_X_takeFrom_31 : decode b_X_takeFrom 31 = .ok (.iload 5, 2) := by decide +kernel
theorem d_X_takeFrom_33 : decode b_X_takeFrom 33 = .ok (.aload 4, 2) := by decide +kernel
theorem d_X_takeFrom_35 : decode b_X_takeFrom 35 = .ok (.getfield 76, 3) := by decide +kernel
theorem d_X_takeFrom_38 : decode b_X_takeFrom 38 = .ok (.if_icmp .ge 45, 3) := by decide +kernel
theorem d_X_takeFrom_41 : decode b_X_takeFrom 41 = .ok (.aload_n 2, 1) := by decide +kernel
theorem d_X_takeFrom_42 : decode b_X_takeFrom 42 = .ok (.aload 4, 2) := by decide +kernel
theorem d_X_takeFrom_44 : decode b_X_takeFrom 44 = .ok (.getfield 195, 3) := by decide +kernel
theorem d_X_takeFrom_47 : decode b_X_takeFrom 47 = .ok (.iload 5, 2) := by decide +kernel
theorem d_X_takeFrom_49 : decode b_X_takeFrom 49 = .ok (.iaload, 1) := by decide +kernel
theorem d_X_takeFrom_50 : decode b_X_takeFrom 50 = .ok (.invokevirtual 198, 3) := by decide +kernel
theorem d_X_takeFrom_53 : decode b_X_takeFrom 53 = .ok (.ifCond .eq 24, 3) := by decide +kernel
theorem d_X_takeFrom_56 : decode b_X_takeFrom 56 = .ok (.aload_n 0, 1) := by decide +kernel
theorem d_X_takeFrom_57 : decode b_X_takeFrom 57 = .ok (.getfield 62, 3) := by decide +kernel
theorem d_X_takeFrom_60 : decode b_X_takeFrom 60 = .ok (.iload_n 1, 1) := by decide +kernel
theorem d_X_takeFrom_61 : decode b_X_takeFrom 61 = .ok (.aload_n 0, 1) := by decide +kernel
theorem d_X_takeFrom_62 : decode b_X_takeFrom 62 = .ok (.getfield 34, 3) := by decide +kernel
theorem d_X_takeFrom_65 : decode b_X_takeFrom 65 = .ok (.getfield 158, 3) := by decide +kernel
theorem d_X_takeFrom_68 : decode b_X_takeFrom 68 = .ok (.iload_n 1, 1) := by decide +kernel
theorem d_X_takeFrom_69 : decode b_X_takeFrom 69 = .ok (.iaload, 1) := by decide +kernel
theorem d_X_takeFrom_70 : decode b_X_takeFrom 70 = .ok (.aload 4, 2) := by decide +kernel
theorem d_X_takeFrom_72 : decode b_X_takeFrom 72 = .ok (.iload 5, 2) := by decide +kernel
theorem d_X_takeFrom_74 : decode b_X_takeFrom 74 = .ok (.invokevirtual 201, 3) := by decide +kernel
theorem d_X_takeFrom_77 : decode b_X_takeFrom 77 = .ok (.iinc 5 1, 3) := by decide +kernel
theorem d_X_takeFrom_80 : decode b_X_takeFrom 80 = .ok (.goto (-49), 3) := by decide +kernel
theorem d_X_takeFrom_83 : decode b_X_takeFrom 83 = .ok (.aload_n 0, 1) := by decide +kernel
theorem d_X_takeFrom_84 : decode b_X_takeFrom 84 = .ok (.getfield 62, 3) := by decide +kernel
theorem d_X_takeFrom_87 : decode b_X_takeFrom 87 = .ok (.getfield 133, 3) := by decide +kernel
theorem d_X_takeFrom_90 : decode b_X_takeFrom 90 = .ok (.getfield 76, 3) := by decide +kernel
theorem d_X_takeFrom_93 : decode b_X_takeFrom 93 = .ok (.iload_n 3, 1) := by decide +kernel
theorem d_X_takeFrom_94 : decode b_X_takeFrom 94 = .ok (.isub, 1) := by decide +kernel
theorem d_X_takeFrom_95 : decode b_X_takeFrom 95 = .ok (.ireturn, 1) := by decide +kernel
theorem d_X_total_0 : decode b_X_total 0 = .ok (.aload_n 0, 1) := by decide +kernel
theorem d_X_total_1 : decode b_X_total 1 = .ok (.getfield 34, 3) := by decide +kernel
theorem d_X_total_4 : decode b_X_total 4 = .ok (.getfield 103, 3) := by decide +kernel
theorem d_X_total_7 : decode b_X_total 7 = .ok (.getfield 76, 3) := by decide +kernel
theorem d_X_total_10 : decode b_X_total 10 = .ok (.ireturn, 1) := by decide +kernel
theorem d_X_tryBatch_0 : decode b_X_tryBatch 0 = .ok (.aload_n 0, 1) := by decide +kernel
theorem d_X_tryBatch_1 : decode b_X_tryBatch 1 = .ok (.aload_n 0, 1) := by decide +kernel
theorem d_X_tryBatch_2 : decode b_X_tryBatch 2 = .ok (.getfield 73, 3) := by decide +kernel
theorem d_X_tryBatch_5 : decode b_X_tryBatch 5 = .ok (.iload_n 1, 1) := by decide +kernel
theorem d_X_tryBatch_6 : decode b_X_tryBatch 6 = .ok (.aload_n 0, 1) := by decide +kernel
theorem d_X_tryBatch_7 : decode b_X_tryBatch 7 = .ok (.getfield 34, 3) := by decide +kernel
theorem d_X_tryBatch_10 : decode b_X_tryBatch 10 = .ok (.getfield 96, 3) := by decide +kernel
theorem d_X_tryBatch_13 : decode b_X_tryBatch 13 = .ok (.iload_n 1, 1) := by decide +kernel
theorem d_X_tryBatch_14 : decode b_X_tryBatch 14 = .ok (.iaload, 1) := by decide +kernel
theorem d_X_tryBatch_15 : decode b_X_tryBatch 15 = .ok (.invokevirtual 138, 3) := by decide +kernel
theorem d_X_tryBatch_18 : decode b_X_tryBatch 18 = .ok (.pop, 1) := by decide +kernel
theorem d_X_tryBatch_19 : decode b_X_tryBatch 19 = .ok (.aload_n 0, 1) := by decide +kernel
theorem d_X_tryBatch_20 : decode b_X_tryBatch 20 = .ok (.getfield 73, 3) := by decide +kernel
theorem d_X_tryBatch_23 : decode b_X_tryBatch 23 = .ok (.getfield 176, 3) := by decide +kernel
theorem d_X_tryBatch_26 : decode b_X_tryBatch 26 = .ok (.lstore_n 2, 1) := by decide +kernel
theorem d_X_tryBatch_27 : decode b_X_tryBatch 27 = .ok (.iconst 0, 1) := by decide +kernel
theorem d_X_tryBatch_28 : decode b_X_tryBatch 28 = .ok (.istore 4, 2) := by decide +kernel
theorem d_X_tryBatch_30 : decode b_X_tryBatch 30 = .ok (.iload 4, 2) := by decide +kernel
theorem d_X_tryBatch_32 : decode b_X_tryBatch 32 = .ok (.aload_n 0, 1) := by decide +kernel
theorem d_X_tryBatch_33 : decode b_X_tryBatch 33 = .ok (.getfield 27, 3) := by decide +kernel
theorem d_X_tryBatch_36 : decode b_X_tryBatch 36 = .ok (.getfield 76, 3) := by decide +kernel
theorem d_X_tryBatch_39 : decode b_X_tryBatch 39 = .ok (.if_icmp .ge 44, 3) := by decide +kernel
theorem d_X_tryBatch_42 : decode b_X_tryBatch 42 = .ok (.aload_n 0, 1) := by decide +kernel
theorem d_X_tryBatch_43 : decode b_X_tryBatch 43 = .ok (.getfield 73, 3) := by decide +kernel
theorem d_X_tryBatch_46 : decode b_X_tryBatch 46 = .ok (.aload_n 0, 1) := by decide +kernel
theorem d_X_tryBatch_47 : decode b_X_tryBatch 47 = .ok (.getfield 41, 3) := by decide +kernel
theorem d_X_tryBatch_50 : decode b_X_tryBatch 50 = .ok (.aload_n 0, 1) := by decide +kernel
theorem d_X_tryBatch_51 : decode b_X_tryBatch 51 = .ok (.getfield 27, 3) := by decide +kernel
theorem d_X_tryBatch_54 : decode b_X_tryBatch 54 = .ok (.iload 4, 2) := by decide +kernel
theorem d_X_tryBatch_56 : decode b_X_tryBatch 56 = .ok (.invokevirtual 134, 3) := by decide +kernel
theorem d_X_tryBatch_59 : decode b_X_tryBatch 59 = .ok (.invokevirtual 180, 3) := by decide +kernel
theorem d_X_tryBatch_62 : decode b_X_tryBatch 62 = .ok (.aload_n 0, 1) := by decide +kernel
theorem d_X_tryBatch_63 : decode b_X_tryBatch 63 = .ok (.getfield 73, 3) := by decide +kernel
theorem d_X_tryBatch_66 : decode b_X_tryBatch 66 = .ok (.getfield 176, 3) := by decide +kernel
theorem d_X_tryBatch_69 : decode b_X_tryBatch 69 = .ok (.lload_n 2, 1) := by decide +kernel
theorem d_X_tryBatch_70 : decode b_X_tryBatch 70 = .ok (.lcmp, 1) := by decide +kernel
theorem d_X_tryBatch_71 : decode b_X_tryBatch 71 = .ok (.ifCond .eq 6, 3) := by decide +kernel
theorem d_X_tryBatch_74 : decode b_X_tryBatch 74 = .ok (.iload 4, 2) := by decide +kernel
theorem d_X_tryBatch_76 : decode b_X_tryBatch 76 = .ok (.ireturn, 1) := by decide +kernel
theorem d_X_tryBatch_77 : decode b_X_tryBatch 77 = .ok (.iinc 4 1, 3) := by decide +kernel
theorem d_X_tryBatch_80 : decode b_X_tryBatch 80 = .ok (.goto (-50), 3) := by decide +kernel
theorem d_X_tryBatch_83 : decode b_X_tryBatch 83 = .ok (.iconst (-1), 1) := by decide +kernel
theorem d_X_tryBatch_84 : decode b_X_tryBatch 84 = .ok (.ireturn, 1) := by decide +kernel
theorem d_X_unstage_0 : decode b_X_unstage 0 = .ok (.aload_n 0, 1) := by decide +kernel
theorem d_X_unstage_1 : decode b_X_unstage 1 = .ok (.getfield 27, 3) := by decide +kernel
theorem d_X_unstage_4 : decode b_X_unstage 4 = .ok (.getfield 76, 3) := by decide +kernel
theorem d_X_unstage_7 : decode b_X_unstage 7 = .ok (.istore_n 1, 1) := by decide +kernel
theorem d_X_unstage_8 : decode b_X_unstage 8 = .ok (.aload_n 0, 1) := by decide +kernel
theorem d_X_unstage_9 : decode b_X_unstage 9 = .ok (.getfield 27, 3) := by decide +kernel
theorem d_X_unstage_12 : decode b_X_unstage 12 = .ok (.invokevirtual 87, 3) := by decide +kernel
theorem d_X_unstage_15 : decode b_X_unstage 15 = .ok (.iload_n 1, 1) := by decide +kernel
theorem d_X_unstage_16 : decode b_X_unstage 16 = .ok (.ireturn, 1) := by decide +kernel
theorem d_X_version_0 : decode b_X_version 0 = .ok (.iload_n 1, 1) := by decide +kernel
theorem d_X_version_1 : decode b_X_version 1 = .ok (.invokestatic 90, 3) := by decide +kernel
theorem d_X_version_4 : decode b_X_version 4 = .ok (.ifCond .eq 15, 3) := by decide +kernel
theorem d_X_version_7 : decode b_X_version 7 = .ok (.aload_n 0, 1) := by decide +kernel
theorem d_X_version_8 : decode b_X_version 8 = .ok (.getfield 34, 3) := by decide +kernel
theorem d_X_version_11 : decode b_X_version 11 = .ok (.getfield 96, 3) := by decide +kernel
theorem d_X_version_14 : decode b_X_version 14 = .ok (.iload_n 1, 1) := by decide +kernel
theorem d_X_version_15 : decode b_X_version 15 = .ok (.iaload, 1) := by decide +kernel
theorem d_X_version_16 : decode b_X_version 16 = .ok (.goto 4, 3) := by decide +kernel
theorem d_X_version_19 : decode b_X_version 19 = .ok (.iconst (-1), 1) := by decide +kernel
theorem d_X_version_20 : decode b_X_version 20 = .ok (.ireturn, 1) := by decide +kernel

theorem d_Hand_init_0 : decode b_Hand_init 0 = .ok (.aload_n 0, 1) := by decide +kernel
theorem d_Hand_init_1 : decode b_Hand_init 1 = .ok (.invokespecial 3, 3) := by decide +kernel
theorem d_Hand_init_4 : decode b_Hand_init 4 = .ok (.aload_n 0, 1) := by decide +kernel
theorem d_Hand_init_5 : decode b_Hand_init 5 = .ok (.new 9, 3) := by decide +kernel
theorem d_Hand_init_8 : decode b_Hand_init 8 = .ok (.dup, 1) := by decide +kernel
theorem d_Hand_init_9 : decode b_Hand_init 9 = .ok (.bipush 16, 2) := by decide +kernel
theorem d_Hand_init_11 : decode b_Hand_init 11 = .ok (.invokespecial 11, 3) := by decide +kernel
theorem d_Hand_init_14 : decode b_Hand_init 14 = .ok (.putfield 14, 3) := by decide +kernel
theorem d_Hand_init_17 : decode b_Hand_init 17 = .ok (.aload_n 0, 1) := by decide +kernel
theorem d_Hand_init_18 : decode b_Hand_init 18 = .ok (.bipush 16, 2) := by decide +kernel
theorem d_Hand_init_20 : decode b_Hand_init 20 = .ok (.newarray .int, 2) := by decide +kernel
theorem d_Hand_init_22 : decode b_Hand_init 22 = .ok (.putfield 20, 3) := by decide +kernel
theorem d_Hand_init_25 : decode b_Hand_init 25 = .ok (.aload_n 0, 1) := by decide +kernel
theorem d_Hand_init_26 : decode b_Hand_init 26 = .ok (.bipush 16, 2) := by decide +kernel
theorem d_Hand_init_28 : decode b_Hand_init 28 = .ok (.newarray .int, 2) := by decide +kernel
theorem d_Hand_init_30 : decode b_Hand_init 30 = .ok (.putfield 24, 3) := by decide +kernel
theorem d_Hand_init_33 : decode b_Hand_init 33 = .ok (.return_, 1) := by decide +kernel
theorem d_Hand_partOf_0 : decode b_Hand_partOf 0 = .ok (.iload_n 2, 1) := by decide +kernel
theorem d_Hand_partOf_1 : decode b_Hand_partOf 1 = .ok (.tableswitch 65 0 3 #[31, 38, 45, 55], 31) := by decide +kernel
theorem d_Hand_partOf_32 : decode b_Hand_partOf 32 = .ok (.aload_n 0, 1) := by decide +kernel
theorem d_Hand_partOf_33 : decode b_Hand_partOf 33 = .ok (.getfield 20, 3) := by decide +kernel
theorem d_Hand_partOf_36 : decode b_Hand_partOf 36 = .ok (.iload_n 1, 1) := by decide +kernel
theorem d_Hand_partOf_37 : decode b_Hand_partOf 37 = .ok (.iaload, 1) := by decide +kernel
theorem d_Hand_partOf_38 : decode b_Hand_partOf 38 = .ok (.ireturn, 1) := by decide +kernel
theorem d_Hand_partOf_39 : decode b_Hand_partOf 39 = .ok (.aload_n 0, 1) := by decide +kernel
theorem d_Hand_partOf_40 : decode b_Hand_partOf 40 = .ok (.getfield 24, 3) := by decide +kernel
theorem d_Hand_partOf_43 : decode b_Hand_partOf 43 = .ok (.iload_n 1, 1) := by decide +kernel
theorem d_Hand_partOf_44 : decode b_Hand_partOf 44 = .ok (.iaload, 1) := by decide +kernel
theorem d_Hand_partOf_45 : decode b_Hand_partOf 45 = .ok (.ireturn, 1) := by decide +kernel
theorem d_Hand_partOf_46 : decode b_Hand_partOf 46 = .ok (.aload_n 0, 1) := by decide +kernel
theorem d_Hand_partOf_47 : decode b_Hand_partOf 47 = .ok (.getfield 14, 3) := by decide +kernel
theorem d_Hand_partOf_50 : decode b_Hand_partOf 50 = .ok (.getfield 35, 3) := by decide +kernel
theorem d_Hand_partOf_53 : decode b_Hand_partOf 53 = .ok (.iload_n 1, 1) := by decide +kernel
theorem d_Hand_partOf_54 : decode b_Hand_partOf 54 = .ok (.iaload, 1) := by decide +kernel
theorem d_Hand_partOf_55 : decode b_Hand_partOf 55 = .ok (.ireturn, 1) := by decide +kernel
theorem d_Hand_partOf_56 : decode b_Hand_partOf 56 = .ok (.aload_n 0, 1) := by decide +kernel
theorem d_Hand_partOf_57 : decode b_Hand_partOf 57 = .ok (.getfield 14, 3) := by decide +kernel
theorem d_Hand_partOf_60 : decode b_Hand_partOf 60 = .ok (.getfield 38, 3) := by decide +kernel
theorem d_Hand_partOf_63 : decode b_Hand_partOf 63 = .ok (.iload_n 1, 1) := by decide +kernel
theorem d_Hand_partOf_64 : decode b_Hand_partOf 64 = .ok (.iaload, 1) := by decide +kernel
theorem d_Hand_partOf_65 : decode b_Hand_partOf 65 = .ok (.ireturn, 1) := by decide +kernel
theorem d_Hand_partOf_66 : decode b_Hand_partOf 66 = .ok (.aload_n 0, 1) := by decide +kernel
theorem d_Hand_partOf_67 : decode b_Hand_partOf 67 = .ok (.getfield 14, 3) := by decide +kernel
theorem d_Hand_partOf_70 : decode b_Hand_partOf 70 = .ok (.getfield 41, 3) := by decide +kernel
theorem d_Hand_partOf_73 : decode b_Hand_partOf 73 = .ok (.iload_n 1, 1) := by decide +kernel
theorem d_Hand_partOf_74 : decode b_Hand_partOf 74 = .ok (.iaload, 1) := by decide +kernel
theorem d_Hand_partOf_75 : decode b_Hand_partOf 75 = .ok (.ireturn, 1) := by decide +kernel
theorem d_Hand_take_0 : decode b_Hand_take 0 = .ok (.aload_n 0, 1) := by decide +kernel
theorem d_Hand_take_1 : decode b_Hand_take 1 = .ok (.getfield 14, 3) := by decide +kernel
theorem d_Hand_take_4 : decode b_Hand_take 4 = .ok (.getfield 27, 3) := by decide +kernel
theorem d_Hand_take_7 : decode b_Hand_take 7 = .ok (.istore 5, 2) := by decide +kernel
theorem d_Hand_take_9 : decode b_Hand_take 9 = .ok (.iload 5, 2) := by decide +kernel
theorem d_Hand_take_11 : decode b_Hand_take 11 = .ok (.bipush 16, 2) := by decide +kernel
theorem d_Hand_take_13 : decode b_Hand_take 13 = .ok (.if_icmp .lt 4, 3) := by decide +kernel
theorem d_Hand_take_16 : decode b_Hand_take 16 = .ok (.return_, 1) := by decide +kernel
theorem d_Hand_take_17 : decode b_Hand_take 17 = .ok (.aload_n 0, 1) := by decide +kernel
theorem d_Hand_take_18 : decode b_Hand_take 18 = .ok (.getfield 14, 3) := by decide +kernel
theorem d_Hand_take_21 : decode b_Hand_take 21 = .ok (.aload_n 3, 1) := by decide +kernel
theorem d_Hand_take_22 : decode b_Hand_take 22 = .ok (.iload 4, 2) := by decide +kernel
theorem d_Hand_take_24 : decode b_Hand_take 24 = .ok (.invokevirtual 31, 3) := by decide +kernel
theorem d_Hand_take_27 : decode b_Hand_take 27 = .ok (.aload_n 0, 1) := by decide +kernel
theorem d_Hand_take_28 : decode b_Hand_take 28 = .ok (.getfield 20, 3) := by decide +kernel
theorem d_Hand_take_31 : decode b_Hand_take 31 = .ok (.iload 5, 2) := by decide +kernel
theorem d_Hand_take_33 : decode b_Hand_take 33 = .ok (.iload_n 1, 1) := by decide +kernel
theorem d_Hand_take_34 : decode b_Hand_take 34 = .ok (.iastore, 1) := by decide +kernel
theorem d_Hand_take_35 : decode b_Hand_take 35 = .ok (.aload_n 0, 1) := by decide +kernel
theorem d_Hand_take_36 : decode b_Hand_take 36 = .ok (.getfield 24, 3) := by decide +kernel
theorem d_Hand_take_39 : decode b_Hand_take 39 = .ok (.iload 5, 2) := by decide +kernel
theorem d_Hand_take_41 : decode b_Hand_take 41 = .ok (.iload_n 2, 1) := by decide +kernel
theorem d_Hand_take_42 : decode b_Hand_take 42 = .ok (.iastore, 1) := by decide +kernel
theorem d_Hand_take_43 : decode b_Hand_take 43 = .ok (.return_, 1) := by decide +kernel
theorem d_Log_init_0 : decode b_Log_init 0 = .ok (.aload_n 0, 1) := by decide +kernel
theorem d_Log_init_1 : decode b_Log_init 1 = .ok (.invokespecial 3, 3) := by decide +kernel
theorem d_Log_init_4 : decode b_Log_init 4 = .ok (.aload_n 0, 1) := by decide +kernel
theorem d_Log_init_5 : decode b_Log_init 5 = .ok (.new 9, 3) := by decide +kernel
theorem d_Log_init_8 : decode b_Log_init 8 = .ok (.dup, 1) := by decide +kernel
theorem d_Log_init_9 : decode b_Log_init 9 = .ok (.bipush 64, 2) := by decide +kernel
theorem d_Log_init_11 : decode b_Log_init 11 = .ok (.invokespecial 11, 3) := by decide +kernel
theorem d_Log_init_14 : decode b_Log_init 14 = .ok (.putfield 14, 3) := by decide +kernel
theorem d_Log_init_17 : decode b_Log_init 17 = .ok (.aload_n 0, 1) := by decide +kernel
theorem d_Log_init_18 : decode b_Log_init 18 = .ok (.bipush 64, 2) := by decide +kernel
theorem d_Log_init_20 : decode b_Log_init 20 = .ok (.newarray .int, 2) := by decide +kernel
theorem d_Log_init_22 : decode b_Log_init 22 = .ok (.putfield 20, 3) := by decide +kernel
theorem d_Log_init_25 : decode b_Log_init 25 = .ok (.aload_n 0, 1) := by decide +kernel
theorem d_Log_init_26 : decode b_Log_init 26 = .ok (.bipush 64, 2) := by decide +kernel
theorem d_Log_init_28 : decode b_Log_init 28 = .ok (.newarray .int, 2) := by decide +kernel
theorem d_Log_init_30 : decode b_Log_init 30 = .ok (.putfield 24, 3) := by decide +kernel
theorem d_Log_init_33 : decode b_Log_init 33 = .ok (.aload_n 0, 1) := by decide +kernel
theorem d_Log_init_34 : decode b_Log_init 34 = .ok (.bipush 8, 2) := by decide +kernel
theorem d_Log_init_36 : decode b_Log_init 36 = .ok (.newarray .int, 2) := by decide +kernel
theorem d_Log_init_38 : decode b_Log_init 38 = .ok (.putfield 27, 3) := by decide +kernel
theorem d_Log_init_41 : decode b_Log_init 41 = .ok (.return_, 1) := by decide +kernel
theorem d_Log_append_0 : decode b_Log_append 0 = .ok (.aload_n 0, 1) := by decide +kernel
theorem d_Log_append_1 : decode b_Log_append 1 = .ok (.getfield 14, 3) := by decide +kernel
theorem d_Log_append_4 : decode b_Log_append 4 = .ok (.getfield 30, 3) := by decide +kernel
theorem d_Log_append_7 : decode b_Log_append 7 = .ok (.istore 4, 2) := by decide +kernel
theorem d_Log_append_9 : decode b_Log_append 9 = .ok (.iload 4, 2) := by decide +kernel
theorem d_Log_append_11 : decode b_Log_append 11 = .ok (.bipush 64, 2) := by decide +kernel
theorem d_Log_append_13 : decode b_Log_append 13 = .ok (.if_icmp .lt 4, 3) := by decide +kernel
theorem d_Log_append_16 : decode b_Log_append 16 = .ok (.return_, 1) := by decide +kernel
theorem d_Log_append_17 : decode b_Log_append 17 = .ok (.aload_n 0, 1) := by decide +kernel
theorem d_Log_append_18 : decode b_Log_append 18 = .ok (.getfield 14, 3) := by decide +kernel
theorem d_Log_append_21 : decode b_Log_append 21 = .ok (.aload_n 2, 1) := by decide +kernel
theorem d_Log_append_22 : decode b_Log_append 22 = .ok (.iload_n 3, 1) := by decide +kernel
theorem d_Log_append_23 : decode b_Log_append 23 = .ok (.invokevirtual 34, 3) := by decide +kernel
theorem d_Log_append_26 : decode b_Log_append 26 = .ok (.aload_n 0, 1) := by decide +kernel
theorem d_Log_append_27 : decode b_Log_append 27 = .ok (.getfield 20, 3) := by decide +kernel
theorem d_Log_append_30 : decode b_Log_append 30 = .ok (.iload 4, 2) := by decide +kernel
theorem d_Log_append_32 : decode b_Log_append 32 = .ok (.iload_n 1, 1) := by decide +kernel
theorem d_Log_append_33 : decode b_Log_append 33 = .ok (.iastore, 1) := by decide +kernel
theorem d_Log_append_34 : decode b_Log_append 34 = .ok (.aload_n 0, 1) := by decide +kernel
theorem d_Log_append_35 : decode b_Log_append 35 = .ok (.getfield 24, 3) := by decide +kernel
theorem d_Log_append_38 : decode b_Log_append 38 = .ok (.iload 4, 2) := by decide +kernel
theorem d_Log_append_40 : decode b_Log_append 40 = .ok (.aload_n 0, 1) := by decide +kernel
theorem d_Log_append_41 : decode b_Log_append 41 = .ok (.getfield 27, 3) := by decide +kernel
theorem d_Log_append_44 : decode b_Log_append 44 = .ok (.iload_n 1, 1) := by decide +kernel
theorem d_Log_append_45 : decode b_Log_append 45 = .ok (.iaload, 1) := by decide +kernel
theorem d_Log_append_46 : decode b_Log_append 46 = .ok (.iastore, 1) := by decide +kernel
theorem d_Log_append_47 : decode b_Log_append 47 = .ok (.aload_n 0, 1) := by decide +kernel
theorem d_Log_append_48 : decode b_Log_append 48 = .ok (.getfield 27, 3) := by decide +kernel
theorem d_Log_append_51 : decode b_Log_append 51 = .ok (.iload_n 1, 1) := by decide +kernel
theorem d_Log_append_52 : decode b_Log_append 52 = .ok (.dup2, 1) := by decide +kernel
theorem d_Log_append_53 : decode b_Log_append 53 = .ok (.iaload, 1) := by decide +kernel
theorem d_Log_append_54 : decode b_Log_append 54 = .ok (.iconst 1, 1) := by decide +kernel
theorem d_Log_append_55 : decode b_Log_append 55 = .ok (.iadd, 1) := by decide +kernel
theorem d_Log_append_56 : decode b_Log_append 56 = .ok (.iastore, 1) := by decide +kernel
theorem d_Log_append_57 : decode b_Log_append 57 = .ok (.return_, 1) := by decide +kernel
theorem d_Log_partOf_0 : decode b_Log_partOf 0 = .ok (.iload_n 2, 1) := by decide +kernel
theorem d_Log_partOf_1 : decode b_Log_partOf 1 = .ok (.tableswitch 79 0 4 #[35, 42, 49, 59, 69], 35) := by decide +kernel
theorem d_Log_partOf_36 : decode b_Log_partOf 36 = .ok (.aload_n 0, 1) := by decide +kernel
theorem d_Log_partOf_37 : decode b_Log_partOf 37 = .ok (.getfield 20, 3) := by decide +kernel
theorem d_Log_partOf_40 : decode b_Log_partOf 40 = .ok (.iload_n 1, 1) := by decide +kernel
theorem d_Log_partOf_41 : decode b_Log_partOf 41 = .ok (.iaload, 1) := by decide +kernel
theorem d_Log_partOf_42 : decode b_Log_partOf 42 = .ok (.ireturn, 1) := by decide +kernel
theorem d_Log_partOf_43 : decode b_Log_partOf 43 = .ok (.aload_n 0, 1) := by decide +kernel
theorem d_Log_partOf_44 : decode b_Log_partOf 44 = .ok (.getfield 24, 3) := by decide +kernel
theorem d_Log_partOf_47 : decode b_Log_partOf 47 = .ok (.iload_n 1, 1) := by decide +kernel
theorem d_Log_partOf_48 : decode b_Log_partOf 48 = .ok (.iaload, 1) := by decide +kernel
theorem d_Log_partOf_49 : decode b_Log_partOf 49 = .ok (.ireturn, 1) := by decide +kernel
theorem d_Log_partOf_50 : decode b_Log_partOf 50 = .ok (.aload_n 0, 1) := by decide +kernel
theorem d_Log_partOf_51 : decode b_Log_partOf 51 = .ok (.getfield 14, 3) := by decide +kernel
theorem d_Log_partOf_54 : decode b_Log_partOf 54 = .ok (.getfield 38, 3) := by decide +kernel
theorem d_Log_partOf_57 : decode b_Log_partOf 57 = .ok (.iload_n 1, 1) := by decide +kernel
theorem d_Log_partOf_58 : decode b_Log_partOf 58 = .ok (.iaload, 1) := by decide +kernel
theorem d_Log_partOf_59 : decode b_Log_partOf 59 = .ok (.ireturn, 1) := by decide +kernel
theorem d_Log_partOf_60 : decode b_Log_partOf 60 = .ok (.aload_n 0, 1) := by decide +kernel
theorem d_Log_partOf_61 : decode b_Log_partOf 61 = .ok (.getfield 14, 3) := by decide +kernel
theorem d_Log_partOf_64 : decode b_Log_partOf 64 = .ok (.getfield 41, 3) := by decide +kernel
theorem d_Log_partOf_67 : decode b_Log_partOf 67 = .ok (.iload_n 1, 1) := by decide +kernel
theorem d_Log_partOf_68 : decode b_Log_partOf 68 = .ok (.iaload, 1) := by decide +kernel
theorem d_Log_partOf_69 : decode b_Log_partOf 69 = .ok (.ireturn, 1) := by decide +kernel
theorem d_Log_partOf_70 : decode b_Log_partOf 70 = .ok (.aload_n 0, 1) := by decide +kernel
theorem d_Log_partOf_71 : decode b_Log_partOf 71 = .ok (.getfield 14, 3) := by decide +kernel
theorem d_Log_partOf_74 : decode b_Log_partOf 74 = .ok (.getfield 44, 3) := by decide +kernel
theorem d_Log_partOf_77 : decode b_Log_partOf 77 = .ok (.iload_n 1, 1) := by decide +kernel
theorem d_Log_partOf_78 : decode b_Log_partOf 78 = .ok (.iaload, 1) := by decide +kernel
theorem d_Log_partOf_79 : decode b_Log_partOf 79 = .ok (.ireturn, 1) := by decide +kernel
theorem d_Log_partOf_80 : decode b_Log_partOf 80 = .ok (.aload_n 0, 1) := by decide +kernel
theorem d_Log_partOf_81 : decode b_Log_partOf 81 = .ok (.getfield 14, 3) := by decide +kernel
theorem d_Log_partOf_84 : decode b_Log_partOf 84 = .ok (.getfield 47, 3) := by decide +kernel
theorem d_Log_partOf_87 : decode b_Log_partOf 87 = .ok (.iload_n 1, 1) := by decide +kernel
theorem d_Log_partOf_88 : decode b_Log_partOf 88 = .ok (.iaload, 1) := by decide +kernel
theorem d_Log_partOf_89 : decode b_Log_partOf 89 = .ok (.ireturn, 1) := by decide +kernel
theorem d_Math_floorDiv_0 : decode b_Math_floorDiv 0 = .ok (.iload_n 0, 1) := by decide +kernel
theorem d_Math_floorDiv_1 : decode b_Math_floorDiv 1 = .ok (.iload_n 1, 1) := by decide +kernel
theorem d_Math_floorDiv_2 : decode b_Math_floorDiv 2 = .ok (.idiv, 1) := by decide +kernel
theorem d_Math_floorDiv_3 : decode b_Math_floorDiv 3 = .ok (.istore_n 2, 1) := by decide +kernel
theorem d_Math_floorDiv_4 : decode b_Math_floorDiv 4 = .ok (.iload_n 0, 1) := by decide +kernel
theorem d_Math_floorDiv_5 : decode b_Math_floorDiv 5 = .ok (.iload_n 1, 1) := by decide +kernel
theorem d_Math_floorDiv_6 : decode b_Math_floorDiv 6 = .ok (.ixor, 1) := by decide +kernel
theorem d_Math_floorDiv_7 : decode b_Math_floorDiv 7 = .ok (.ifCond .ge 14, 3) := by decide +kernel
theorem d_Math_floorDiv_10 : decode b_Math_floorDiv 10 = .ok (.iload_n 2, 1) := by decide +kernel
theorem d_Math_floorDiv_11 : decode b_Math_floorDiv 11 = .ok (.iload_n 1, 1) := by decide +kernel
theorem d_Math_floorDiv_12 : decode b_Math_floorDiv 12 = .ok (.imul, 1) := by decide +kernel
theorem d_Math_floorDiv_13 : decode b_Math_floorDiv 13 = .ok (.iload_n 0, 1) := by decide +kernel
theorem d_Math_floorDiv_14 : decode b_Math_floorDiv 14 = .ok (.if_icmp .eq 7, 3) := by decide +kernel
theorem d_Math_floorDiv_17 : decode b_Math_floorDiv 17 = .ok (.iload_n 2, 1) := by decide +kernel
theorem d_Math_floorDiv_18 : decode b_Math_floorDiv 18 = .ok (.iconst 1, 1) := by decide +kernel
theorem d_Math_floorDiv_19 : decode b_Math_floorDiv 19 = .ok (.isub, 1) := by decide +kernel
theorem d_Math_floorDiv_20 : decode b_Math_floorDiv 20 = .ok (.ireturn, 1) := by decide +kernel
theorem d_Math_floorDiv_21 : decode b_Math_floorDiv 21 = .ok (.iload_n 2, 1) := by decide +kernel
theorem d_Math_floorDiv_22 : decode b_Math_floorDiv 22 = .ok (.ireturn, 1) := by decide +kernel
theorem d_Reader_init_0 : decode b_Reader_init 0 = .ok (.aload_n 0, 1) := by decide +kernel
theorem d_Reader_init_1 : decode b_Reader_init 1 = .ok (.invokespecial 3, 3) := by decide +kernel
theorem d_Reader_init_4 : decode b_Reader_init 4 = .ok (.return_, 1) := by decide +kernel
theorem d_Reader_begin_0 : decode b_Reader_begin 0 = .ok (.aload_n 0, 1) := by decide +kernel
theorem d_Reader_begin_1 : decode b_Reader_begin 1 = .ok (.iload_n 1, 1) := by decide +kernel
theorem d_Reader_begin_2 : decode b_Reader_begin 2 = .ok (.sipush 255, 3) := by decide +kernel
theorem d_Reader_begin_5 : decode b_Reader_begin 5 = .ok (.iand, 1) := by decide +kernel
theorem d_Reader_begin_6 : decode b_Reader_begin 6 = .ok (.putfield 9, 3) := by decide +kernel
theorem d_Reader_begin_9 : decode b_Reader_begin 9 = .ok (.aload_n 0, 1) := by decide +kernel
theorem d_Reader_begin_10 : decode b_Reader_begin 10 = .ok (.iload_n 2, 1) := by decide +kernel
theorem d_Reader_begin_11 : decode b_Reader_begin 11 = .ok (.bipush 63, 2) := by decide +kernel
theorem d_Reader_begin_13 : decode b_Reader_begin 13 = .ok (.iand, 1) := by decide +kernel
theorem d_Reader_begin_14 : decode b_Reader_begin 14 = .ok (.putfield 15, 3) := by decide +kernel
theorem d_Reader_begin_17 : decode b_Reader_begin 17 = .ok (.aload_n 0, 1) := by decide +kernel
theorem d_Reader_begin_18 : decode b_Reader_begin 18 = .ok (.iload_n 3, 1) := by decide +kernel
theorem d_Reader_begin_19 : decode b_Reader_begin 19 = .ok (.putfield 18, 3) := by decide +kernel
theorem d_Reader_begin_22 : decode b_Reader_begin 22 = .ok (.aload_n 0, 1) := by decide +kernel
theorem d_Reader_begin_23 : decode b_Reader_begin 23 = .ok (.iload_n 3, 1) := by decide +kernel
theorem d_Reader_begin_24 : decode b_Reader_begin 24 = .ok (.putfield 21, 3) := by decide +kernel
theorem d_Reader_begin_27 : decode b_Reader_begin 27 = .ok (.return_, 1) := by decide +kernel
theorem d_Reader_moveToMark_0 : decode b_Reader_moveToMark 0 = .ok (.aload_n 0, 1) := by decide +kernel
theorem d_Reader_moveToMark_1 : decode b_Reader_moveToMark 1 = .ok (.getfield 21, 3) := by decide +kernel
theorem d_Reader_moveToMark_4 : decode b_Reader_moveToMark 4 = .ok (.aload_n 0, 1) := by decide +kernel
theorem d_Reader_moveToMark_5 : decode b_Reader_moveToMark 5 = .ok (.getfield 18, 3) := by decide +kernel
theorem d_Reader_moveToMark_8 : decode b_Reader_moveToMark 8 = .ok (.isub, 1) := by decide +kernel
theorem d_Reader_moveToMark_9 : decode b_Reader_moveToMark 9 = .ok (.istore_n 1, 1) := by decide +kernel
theorem d_Reader_moveToMark_10 : decode b_Reader_moveToMark 10 = .ok (.aload_n 0, 1) := by decide +kernel
theorem d_Reader_moveToMark_11 : decode b_Reader_moveToMark 11 = .ok (.aload_n 0, 1) := by decide +kernel
theorem d_Reader_moveToMark_12 : decode b_Reader_moveToMark 12 = .ok (.getfield 21, 3) := by decide +kernel
theorem d_Reader_moveToMark_15 : decode b_Reader_moveToMark 15 = .ok (.putfield 18, 3) := by decide +kernel
theorem d_Reader_moveToMark_18 : decode b_Reader_moveToMark 18 = .ok (.iload_n 1, 1) := by decide +kernel
theorem d_Reader_moveToMark_19 : decode b_Reader_moveToMark 19 = .ok (.ireturn, 1) := by decide +kernel
theorem d_Reader_wantsStream_0 : decode b_Reader_wantsStream 0 = .ok (.aload_n 0, 1) := by decide +kernel
theorem d_Reader_wantsStream_1 : decode b_Reader_wantsStream 1 = .ok (.getfield 9, 3) := by decide +kernel
theorem d_Reader_wantsStream_4 : decode b_Reader_wantsStream 4 = .ok (.iload_n 1, 1) := by decide +kernel
theorem d_Reader_wantsStream_5 : decode b_Reader_wantsStream 5 = .ok (.ishr, 1) := by decide +kernel
theorem d_Reader_wantsStream_6 : decode b_Reader_wantsStream 6 = .ok (.iconst 1, 1) := by decide +kernel
theorem d_Reader_wantsStream_7 : decode b_Reader_wantsStream 7 = .ok (.iand, 1) := by decide +kernel
theorem d_Reader_wantsStream_8 : decode b_Reader_wantsStream 8 = .ok (.iconst 1, 1) := by decide +kernel
theorem d_Reader_wantsStream_9 : decode b_Reader_wantsStream 9 = .ok (.if_icmp .ne 7, 3) := by decide +kernel
theorem d_Reader_wantsStream_12 : decode b_Reader_wantsStream 12 = .ok (.iconst 1, 1) := by decide +kernel
theorem d_Reader_wantsStream_13 : decode b_Reader_wantsStream 13 = .ok (.goto 4, 3) := by decide +kernel
theorem d_Reader_wantsStream_16 : decode b_Reader_wantsStream 16 = .ok (.iconst 0, 1) := by decide +kernel
theorem d_Reader_wantsStream_17 : decode b_Reader_wantsStream 17 = .ok (.ireturn, 1) := by decide +kernel
theorem d_Reader_wantsType_0 : decode b_Reader_wantsType 0 = .ok (.aload_n 0, 1) := by decide +kernel
theorem d_Reader_wantsType_1 : decode b_Reader_wantsType 1 = .ok (.getfield 15, 3) := by decide +kernel
theorem d_Reader_wantsType_4 : decode b_Reader_wantsType 4 = .ok (.iload_n 1, 1) := by decide +kernel
theorem d_Reader_wantsType_5 : decode b_Reader_wantsType 5 = .ok (.ishr, 1) := by decide +kernel
theorem d_Reader_wantsType_6 : decode b_Reader_wantsType 6 = .ok (.iconst 1, 1) := by decide +kernel
theorem d_Reader_wantsType_7 : decode b_Reader_wantsType 7 = .ok (.iand, 1) := by decide +kernel
theorem d_Reader_wantsType_8 : decode b_Reader_wantsType 8 = .ok (.iconst 1, 1) := by decide +kernel
theorem d_Reader_wantsType_9 : decode b_Reader_wantsType 9 = .ok (.if_icmp .ne 7, 3) := by decide +kernel
theorem d_Reader_wantsType_12 : decode b_Reader_wantsType 12 = .ok (.iconst 1, 1) := by decide +kernel
theorem d_Reader_wantsType_13 : decode b_Reader_wantsType 13 = .ok (.goto 4, 3) := by decide +kernel
theorem d_Reader_wantsType_16 : decode b_Reader_wantsType 16 = .ok (.iconst 0, 1) := by decide +kernel
theorem d_Reader_wantsType_17 : decode b_Reader_wantsType 17 = .ok (.ireturn, 1) := by decide +kernel
theorem d_Row_init_0 : decode b_Row_init 0 = .ok (.aload_n 0, 1) := by decide +kernel
theorem d_Row_init_1 : decode b_Row_init 1 = .ok (.invokespecial 1, 3) := by decide +kernel
theorem d_Row_init_4 : decode b_Row_init 4 = .ok (.aload_n 0, 1) := by decide +kernel
theorem d_Row_init_5 : decode b_Row_init 5 = .ok (.iload_n 1, 1) := by decide +kernel
theorem d_Row_init_6 : decode b_Row_init 6 = .ok (.newarray .int, 2) := by decide +kernel
theorem d_Row_init_8 : decode b_Row_init 8 = .ok (.putfield 7, 3) := by decide +kernel
theorem d_Row_init_11 : decode b_Row_init 11 = .ok (.aload_n 0, 1) := by decide +kernel
theorem d_Row_init_12 : decode b_Row_init 12 = .ok (.iload_n 1, 1) := by decide +kernel
theorem d_Row_init_13 : decode b_Row_init 13 = .ok (.newarray .int, 2) := by decide +kernel
theorem d_Row_init_15 : decode b_Row_init 15 = .ok (.putfield 13, 3) := by decide +kernel
theorem d_Row_init_18 : decode b_Row_init 18 = .ok (.aload_n 0, 1) := by decide +kernel
theorem d_Row_init_19 : decode b_Row_init 19 = .ok (.iload_n 1, 1) := by decide +kernel
theorem d_Row_init_20 : decode b_Row_init 20 = .ok (.newarray .int, 2) := by decide +kernel
theorem d_Row_init_22 : decode b_Row_init 22 = .ok (.putfield 16, 3) := by decide +kernel
theorem d_Row_init_25 : decode b_Row_init 25 = .ok (.aload_n 0, 1) := by decide +kernel
theorem d_Row_init_26 : decode b_Row_init 26 = .ok (.iload_n 1, 1) := by decide +kernel
theorem d_Row_init_27 : decode b_Row_init 27 = .ok (.newarray .int, 2) := by decide +kernel
theorem d_Row_init_29 : decode b_Row_init 29 = .ok (.putfield 19, 3) := by decide +kernel
theorem d_Row_init_32 : decode b_Row_init 32 = .ok (.return_, 1) := by decide +kernel
theorem d_Row_clear_0 : decode b_Row_clear 0 = .ok (.aload_n 0, 1) := by decide +kernel
theorem d_Row_clear_1 : decode b_Row_clear 1 = .ok (.iconst 0, 1) := by decide +kernel
theorem d_Row_clear_2 : decode b_Row_clear 2 = .ok (.putfield 22, 3) := by decide +kernel
theorem d_Row_clear_5 : decode b_Row_clear 5 = .ok (.return_, 1) := by decide +kernel
theorem d_Row_put_0 : decode b_Row_put 0 = .ok (.aload_n 0, 1) := by decide +kernel
theorem d_Row_put_1 : decode b_Row_put 1 = .ok (.getfield 22, 3) := by decide +kernel
theorem d_Row_put_4 : decode b_Row_put 4 = .ok (.aload_n 0, 1) := by decide +kernel
theorem d_Row_put_5 : decode b_Row_put 5 = .ok (.getfield 7, 3) := by decide +kernel
theorem d_Row_put_8 : decode b_Row_put 8 = .ok (.arraylength, 1) := by decide +kernel
theorem d_Row_put_9 : decode b_Row_put 9 = .ok (.if_icmp .lt 4, 3) := by decide +kernel
theorem d_Row_put_12 : decode b_Row_put 12 = .ok (.return_, 1) := by decide +kernel
theorem d_Row_put_13 : decode b_Row_put 13 = .ok (.aload_n 0, 1) := by decide +kernel
theorem d_Row_put_14 : decode b_Row_put 14 = .ok (.getfield 7, 3) := by decide +kernel
theorem d_Row_put_17 : decode b_Row_put 17 = .ok (.aload_n 0, 1) := by decide +kernel
theorem d_Row_put_18 : decode b_Row_put 18 = .ok (.getfield 22, 3) := by decide +kernel
theorem d_Row_put_21 : decode b_Row_put 21 = .ok (.iload_n 1, 1) := by decide +kernel
theorem d_Row_put_22 : decode b_Row_put 22 = .ok (.iastore, 1) := by decide +kernel
theorem d_Row_put_23 : decode b_Row_put 23 = .ok (.aload_n 0, 1) := by decide +kernel
theorem d_Row_put_24 : decode b_Row_put 24 = .ok (.getfield 13, 3) := by decide +kernel
theorem d_Row_put_27 : decode b_Row_put 27 = .ok (.aload_n 0, 1) := by decide +kernel
theorem d_Row_put_28 : decode b_Row_put 28 = .ok (.getfield 22, 3) := by decide +kernel
theorem d_Row_put_31 : decode b_Row_put 31 = .ok (.iload_n 2, 1) := by decide +kernel
theorem d_Row_put_32 : decode b_Row_put 32 = .ok (.iastore, 1) := by decide +kernel
theorem d_Row_put_33 : decode b_Row_put 33 = .ok (.aload_n 0, 1) := by decide +kernel
theorem d_Row_put_34 : decode b_Row_put 34 = .ok (.getfield 16, 3) := by decide +kernel
theorem d_Row_put_37 : decode b_Row_put 37 = .ok (.aload_n 0, 1) := by decide +kernel
theorem d_Row_put_38 : decode b_Row_put 38 = .ok (.getfield 22, 3) := by decide +kernel
theorem d_Row_put_41 : decode b_Row_put 41 = .ok (.iload_n 3, 1) := by decide +kernel
theorem d_Row_put_42 : decode b_Row_put 42 = .ok (.iastore, 1) := by decide +kernel
theorem d_Row_put_43 : decode b_Row_put 43 = .ok (.aload_n 0, 1) := by decide +kernel
theorem d_Row_put_44 : decode b_Row_put 44 = .ok (.getfield 19, 3) := by decide +kernel
theorem d_Row_put_47 : decode b_Row_put 47 = .ok (.aload_n 0, 1) := by decide +kernel
theorem d_Row_put_48 : decode b_Row_put 48 = .ok (.getfield 22, 3) := by decide +kernel
theorem d_Row_put_51 : decode b_Row_put 51 = .ok (.iload 4, 2) := by decide +kernel
theorem d_Row_put_53 : decode b_Row_put 53 = .ok (.iastore, 1) := by decide +kernel
theorem d_Row_put_54 : decode b_Row_put 54 = .ok (.aload_n 0, 1) := by decide +kernel
theorem d_Row_put_55 : decode b_Row_put 55 = .ok (.dup, 1) := by decide +kernel
theorem d_Row_put_56 : decode b_Row_put 56 = .ok (.getfield 22, 3) := by decide +kernel
theorem d_Row_put_59 : decode b_Row_put 59 = .ok (.iconst 1, 1) := by decide +kernel
theorem d_Row_put_60 : decode b_Row_put 60 = .ok (.iadd, 1) := by decide +kernel
theorem d_Row_put_61 : decode b_Row_put 61 = .ok (.putfield 22, 3) := by decide +kernel
theorem d_Row_put_64 : decode b_Row_put 64 = .ok (.return_, 1) := by decide +kernel
theorem d_Row_putFrom_0 : decode b_Row_putFrom 0 = .ok (.aload_n 0, 1) := by decide +kernel
theorem d_Row_putFrom_1 : decode b_Row_putFrom 1 = .ok (.aload_n 1, 1) := by decide +kernel
theorem d_Row_putFrom_2 : decode b_Row_putFrom 2 = .ok (.getfield 7, 3) := by decide +kernel
theorem d_Row_putFrom_5 : decode b_Row_putFrom 5 = .ok (.iload_n 2, 1) := by decide +kernel
theorem d_Row_putFrom_6 : decode b_Row_putFrom 6 = .ok (.iaload, 1) := by decide +kernel
theorem d_Row_putFrom_7 : decode b_Row_putFrom 7 = .ok (.aload_n 1, 1) := by decide +kernel
theorem d_Row_putFrom_8 : decode b_Row_putFrom 8 = .ok (.getfield 13, 3) := by decide +kernel
theorem d_Row_putFrom_11 : decode b_Row_putFrom 11 = .ok (.iload_n 2, 1) := by decide +kernel
theorem d_Row_putFrom_12 : decode b_Row_putFrom 12 = .ok (.iaload, 1) := by decide +kernel
theorem d_Row_putFrom_13 : decode b_Row_putFrom 13 = .ok (.aload_n 1, 1) := by decide +kernel
theorem d_Row_putFrom_14 : decode b_Row_putFrom 14 = .ok (.getfield 16, 3) := by decide +kernel
theorem d_Row_putFrom_17 : decode b_Row_putFrom 17 = .ok (.iload_n 2, 1) := by decide +kernel
theorem d_Row_putFrom_18 : decode b_Row_putFrom 18 = .ok (.iaload, 1) := by decide +kernel
theorem d_Row_putFrom_19 : decode b_Row_putFrom 19 = .ok (.aload_n 1, 1) := by decide +kernel
theorem d_Row_putFrom_20 : decode b_Row_putFrom 20 = .ok (.getfield 19, 3) := by decide +kernel
theorem d_Row_putFrom_23 : decode b_Row_putFrom 23 = .ok (.iload_n 2, 1) := by decide +kernel
theorem d_Row_putFrom_24 : decode b_Row_putFrom 24 = .ok (.iaload, 1) := by decide +kernel
theorem d_Row_putFrom_25 : decode b_Row_putFrom 25 = .ok (.invokevirtual 26, 3) := by decide +kernel
theorem d_Row_putFrom_28 : decode b_Row_putFrom 28 = .ok (.return_, 1) := by decide +kernel
theorem d_Rules_init_0 : decode b_Rules_init 0 = .ok (.aload_n 0, 1) := by decide +kernel
theorem d_Rules_init_1 : decode b_Rules_init 1 = .ok (.invokespecial 3, 3) := by decide +kernel
theorem d_Rules_init_4 : decode b_Rules_init 4 = .ok (.aload_n 0, 1) := by decide +kernel
theorem d_Rules_init_5 : decode b_Rules_init 5 = .ok (.bipush 12, 2) := by decide +kernel
theorem d_Rules_init_7 : decode b_Rules_init 7 = .ok (.newarray .int, 2) := by decide +kernel
theorem d_Rules_init_9 : decode b_Rules_init 9 = .ok (.putfield 9, 3) := by decide +kernel
theorem d_Rules_init_12 : decode b_Rules_init 12 = .ok (.aload_n 0, 1) := by decide +kernel
theorem d_Rules_init_13 : decode b_Rules_init 13 = .ok (.bipush 12, 2) := by decide +kernel
theorem d_Rules_init_15 : decode b_Rules_init 15 = .ok (.newarray .int, 2) := by decide +kernel
theorem d_Rules_init_17 : decode b_Rules_init 17 = .ok (.putfield 15, 3) := by decide +kernel
theorem d_Rules_init_20 : decode b_Rules_init 20 = .ok (.aload_n 0, 1) := by decide +kernel
theorem d_Rules_init_21 : decode b_Rules_init 21 = .ok (.new 18, 3) := by decide +kernel
theorem d_Rules_init_24 : decode b_Rules_init 24 = .ok (.dup, 1) := by decide +kernel
theorem d_Rules_init_25 : decode b_Rules_init 25 = .ok (.iconst 4, 1) := by decide +kernel
theorem d_Rules_init_26 : decode b_Rules_init 26 = .ok (.invokespecial 20, 3) := by decide +kernel
theorem d_Rules_init_29 : decode b_Rules_init 29 = .ok (.putfield 23, 3) := by decide +kernel
theorem d_Rules_init_32 : decode b_Rules_init 32 = .ok (.aload_n 0, 1) := by decide +kernel
theorem d_Rules_init_33 : decode b_Rules_init 33 = .ok (.new 18, 3) := by decide +kernel
theorem d_Rules_init_36 : decode b_Rules_init 36 = .ok (.dup, 1) := by decide +kernel
theorem d_Rules_init_37 : decode b_Rules_init 37 = .ok (.iconst 4, 1) := by decide +kernel
theorem d_Rules_init_38 : decode b_Rules_init 38 = .ok (.invokespecial 20, 3) := by decide +kernel
theorem d_Rules_init_41 : decode b_Rules_init 41 = .ok (.putfield 27, 3) := by decide +kernel
theorem d_Rules_init_44 : decode b_Rules_init 44 = .ok (.return_, 1) := by decide +kernel
theorem d_Rules_bringUp_0 : decode b_Rules_bringUp 0 = .ok (.aload_n 0, 1) := by decide +kernel
theorem d_Rules_bringUp_1 : decode b_Rules_bringUp 1 = .ok (.getfield 23, 3) := by decide +kernel
theorem d_Rules_bringUp_4 : decode b_Rules_bringUp 4 = .ok (.invokevirtual 34, 3) := by decide +kernel
theorem d_Rules_bringUp_7 : decode b_Rules_bringUp 7 = .ok (.aload_n 0, 1) := by decide +kernel
theorem d_Rules_bringUp_8 : decode b_Rules_bringUp 8 = .ok (.getfield 23, 3) := by decide +kernel
theorem d_Rules_bringUp_11 : decode b_Rules_bringUp 11 = .ok (.aload_n 1, 1) := by decide +kernel
theorem d_Rules_bringUp_12 : decode b_Rules_bringUp 12 = .ok (.iload_n 2, 1) := by decide +kernel
theorem d_Rules_bringUp_13 : decode b_Rules_bringUp 13 = .ok (.invokevirtual 37, 3) := by decide +kernel
theorem d_Rules_bringUp_16 : decode b_Rules_bringUp 16 = .ok (.aload_n 1, 1) := by decide +kernel
theorem d_Rules_bringUp_17 : decode b_Rules_bringUp 17 = .ok (.getfield 41, 3) := by decide +kernel
theorem d_Rules_bringUp_20 : decode b_Rules_bringUp 20 = .ok (.iload_n 2, 1) := by decide +kernel
theorem d_Rules_bringUp_21 : decode b_Rules_bringUp 21 = .ok (.iaload, 1) := by decide +kernel
theorem d_Rules_bringUp_22 : decode b_Rules_bringUp 22 = .ok (.istore_n 3, 1) := by decide +kernel
theorem d_Rules_bringUp_23 : decode b_Rules_bringUp 23 = .ok (.iload_n 3, 1) := by decide +kernel
theorem d_Rules_bringUp_24 : decode b_Rules_bringUp 24 = .ok (.iconst 3, 1) := by decide +kernel
theorem d_Rules_bringUp_25 : decode b_Rules_bringUp 25 = .ok (.if_icmp .ge 13, 3) := by decide +kernel
theorem d_Rules_bringUp_28 : decode b_Rules_bringUp 28 = .ok (.aload_n 0, 1) := by decide +kernel
theorem d_Rules_bringUp_29 : decode b_Rules_bringUp 29 = .ok (.invokevirtual 44, 3) := by decide +kernel
theorem d_Rules_bringUp_32 : decode b_Rules_bringUp 32 = .ok (.iinc 3 1, 3) := by decide +kernel
theorem d_Rules_bringUp_35 : decode b_Rules_bringUp 35 = .ok (.goto (-12), 3) := by decide +kernel
theorem d_Rules_bringUp_38 : decode b_Rules_bringUp 38 = .ok (.aload_n 0, 1) := by decide +kernel
theorem d_Rules_bringUp_39 : decode b_Rules_bringUp 39 = .ok (.getfield 23, 3) := by decide +kernel
theorem d_Rules_bringUp_42 : decode b_Rules_bringUp 42 = .ok (.areturn, 1) := by decide +kernel
theorem d_Rules_change_0 : decode b_Rules_change 0 = .ok (.iload_n 1, 1) := by decide +kernel
theorem d_Rules_change_1 : decode b_Rules_change 1 = .ok (.iload_n 2, 1) := by decide +kernel
theorem d_Rules_change_2 : decode b_Rules_change 2 = .ok (.invokestatic 30, 3) := by decide +kernel
theorem d_Rules_change_5 : decode b_Rules_change 5 = .ok (.istore 5, 2) := by decide +kernel
theorem d_Rules_change_7 : decode b_Rules_change 7 = .ok (.aload_n 0, 1) := by decide +kernel
theorem d_Rules_change_8 : decode b_Rules_change 8 = .ok (.getfield 9, 3) := by decide +kernel
theorem d_Rules_change_11 : decode b_Rules_change 11 = .ok (.iload 5, 2) := by decide +kernel
theorem d_Rules_change_13 : decode b_Rules_change 13 = .ok (.iload_n 3, 1) := by decide +kernel
theorem d_Rules_change_14 : decode b_Rules_change 14 = .ok (.iastore, 1) := by decide +kernel
theorem d_Rules_change_15 : decode b_Rules_change 15 = .ok (.aload_n 0, 1) := by decide +kernel
theorem d_Rules_change_16 : decode b_Rules_change 16 = .ok (.getfield 15, 3) := by decide +kernel
theorem d_Rules_change_19 : decode b_Rules_change 19 = .ok (.iload 5, 2) := by decide +kernel
theorem d_Rules_change_21 : decode b_Rules_change 21 = .ok (.iload 4, 2) := by decide +kernel
theorem d_Rules_change_23 : decode b_Rules_change 23 = .ok (.iastore, 1) := by decide +kernel
theorem d_Rules_change_24 : decode b_Rules_change 24 = .ok (.return_, 1) := by decide +kernel
theorem d_Rules_ruleOf_0 : decode b_Rules_ruleOf 0 = .ok (.iload_n 0, 1) := by decide +kernel
theorem d_Rules_ruleOf_1 : decode b_Rules_ruleOf 1 = .ok (.iconst 2, 1) := by decide +kernel
theorem d_Rules_ruleOf_2 : decode b_Rules_ruleOf 2 = .ok (.imul, 1) := by decide +kernel
theorem d_Rules_ruleOf_3 : decode b_Rules_ruleOf 3 = .ok (.iload_n 1, 1) := by decide +kernel
theorem d_Rules_ruleOf_4 : decode b_Rules_ruleOf 4 = .ok (.iadd, 1) := by decide +kernel
theorem d_Rules_ruleOf_5 : decode b_Rules_ruleOf 5 = .ok (.iconst 1, 1) := by decide +kernel
theorem d_Rules_ruleOf_6 : decode b_Rules_ruleOf 6 = .ok (.isub, 1) := by decide +kernel
theorem d_Rules_ruleOf_7 : decode b_Rules_ruleOf 7 = .ok (.ireturn, 1) := by decide +kernel
theorem d_Rules_step_0 : decode b_Rules_step 0 = .ok (.iload_n 1, 1) := by decide +kernel
theorem d_Rules_step_1 : decode b_Rules_step 1 = .ok (.iload_n 2, 1) := by decide +kernel
theorem d_Rules_step_2 : decode b_Rules_step 2 = .ok (.invokestatic 30, 3) := by decide +kernel
theorem d_Rules_step_5 : decode b_Rules_step 5 = .ok (.istore 5, 2) := by decide +kernel
theorem d_Rules_step_7 : decode b_Rules_step 7 = .ok (.aload_n 0, 1) := by decide +kernel
theorem d_Rules_step_8 : decode b_Rules_step 8 = .ok (.getfield 15, 3) := by decide +kernel
theorem d_Rules_step_11 : decode b_Rules_step 11 = .ok (.iload 5, 2) := by decide +kernel
theorem d_Rules_step_13 : decode b_Rules_step 13 = .ok (.iaload, 1) := by decide +kernel
theorem d_Rules_step_14 : decode b_Rules_step 14 = .ok (.istore 6, 2) := by decide +kernel
theorem d_Rules_step_16 : decode b_Rules_step 16 = .ok (.iload_n 2, 1) := by decide +kernel
theorem d_Rules_step_17 : decode b_Rules_step 17 = .ok (.iconst 1, 1) := by decide +kernel
theorem d_Rules_step_18 : decode b_Rules_step 18 = .ok (.iadd, 1) := by decide +kernel
theorem d_Rules_step_19 : decode b_Rules_step 19 = .ok (.istore 7, 2) := by decide +kernel
theorem d_Rules_step_21 : decode b_Rules_step 21 = .ok (.aload_n 0, 1) := by decide +kernel
theorem d_Rules_step_22 : decode b_Rules_step 22 = .ok (.getfield 9, 3) := by decide +kernel
theorem d_Rules_step_25 : decode b_Rules_step 25 = .ok (.iload 5, 2) := by decide +kernel
theorem d_Rules_step_27 : decode b_Rules_step 27 = .ok (.iaload, 1) := by decide +kernel
theorem d_Rules_step_28 : decode b_Rules_step 28 = .ok (.tableswitch 167 0 6 #[44, 60, 76, 95, 111, 150, 167], 44) := by decide +kernel
theorem d_Rules_step_72 : decode b_Rules_step 72 = .ok (.aload_n 0, 1) := by decide +kernel
theorem d_Rules_step_73 : decode b_Rules_step 73 = .ok (.getfield 23, 3) := by decide +kernel
theorem d_Rules_step_76 : decode b_Rules_step 76 = .ok (.iload_n 1, 1) := by decide +kernel
theorem d_Rules_step_77 : decode b_Rules_step 77 = .ok (.iload 7, 2) := by decide +kernel
theorem d_Rules_step_79 : decode b_Rules_step 79 = .ok (.iload_n 3, 1) := by decide +kernel
theorem d_Rules_step_80 : decode b_Rules_step 80 = .ok (.iload 4, 2) := by decide +kernel
theorem d_Rules_step_82 : decode b_Rules_step 82 = .ok (.invokevirtual 64, 3) := by decide +kernel
theorem d_Rules_step_85 : decode b_Rules_step 85 = .ok (.goto 110, 3) := by decide +kernel
theorem d_Rules_step_88 : decode b_Rules_step 88 = .ok (.aload_n 0, 1) := by decide +kernel
theorem d_Rules_step_89 : decode b_Rules_step 89 = .ok (.getfield 23, 3) := by decide +kernel
theorem d_Rules_step_92 : decode b_Rules_step 92 = .ok (.iload_n 1, 1) := by decide +kernel
theorem d_Rules_step_93 : decode b_Rules_step 93 = .ok (.iload 7, 2) := by decide +kernel
theorem d_Rules_step_95 : decode b_Rules_step 95 = .ok (.iload 4, 2) := by decide +kernel
theorem d_Rules_step_97 : decode b_Rules_step 97 = .ok (.iload_n 3, 1) := by decide +kernel
theorem d_Rules_step_98 : decode b_Rules_step 98 = .ok (.invokevirtual 64, 3) := by decide +kernel
theorem d_Rules_step_101 : decode b_Rules_step 101 = .ok (.goto 94, 3) := by decide +kernel
theorem d_Rules_step_104 : decode b_Rules_step 104 = .ok (.aload_n 0, 1) := by decide +kernel
theorem d_Rules_step_105 : decode b_Rules_step 105 = .ok (.getfield 23, 3) := by decide +kernel
theorem d_Rules_step_108 : decode b_Rules_step 108 = .ok (.iload_n 1, 1) := by decide +kernel
theorem d_Rules_step_109 : decode b_Rules_step 109 = .ok (.iload 7, 2) := by decide +kernel
theorem d_Rules_step_111 : decode b_Rules_step 111 = .ok (.iload_n 3, 1) := by decide +kernel
theorem d_Rules_step_112 : decode b_Rules_step 112 = .ok (.iload 6, 2) := by decide +kernel
theorem d_Rules_step_114 : decode b_Rules_step 114 = .ok (.imul, 1) := by decide +kernel
theorem d_Rules_step_115 : decode b_Rules_step 115 = .ok (.iload 4, 2) := by decide +kernel
theorem d_Rules_step_117 : decode b_Rules_step 117 = .ok (.invokevirtual 64, 3) := by decide +kernel
theorem d_Rules_step_120 : decode b_Rules_step 120 = .ok (.goto 75, 3) := by decide +kernel
theorem d_Rules_step_123 : decode b_Rules_step 123 = .ok (.aload_n 0, 1) := by decide +kernel
theorem d_Rules_step_124 : decode b_Rules_step 124 = .ok (.getfield 23, 3) := by decide +kernel
theorem d_Rules_step_127 : decode b_Rules_step 127 = .ok (.iload_n 1, 1) := by decide +kernel
theorem d_Rules_step_128 : decode b_Rules_step 128 = .ok (.iload 7, 2) := by decide +kernel
theorem d_Rules_step_130 : decode b_Rules_step 130 = .ok (.iload_n 3, 1) := by decide +kernel
theorem d_Rules_step_131 : decode b_Rules_step 131 = .ok (.iload 6, 2) := by decide +kernel
theorem d_Rules_step_133 : decode b_Rules_step 133 = .ok (.invokevirtual 64, 3) := by decide +kernel
theorem d_Rules_step_136 : decode b_Rules_step 136 = .ok (.goto 59, 3) := by decide +kernel
theorem d_Rules_step_139 : decode b_Rules_step 139 = .ok (.aload_n 0, 1) := by decide +kernel
theorem d_Rules_step_140 : decode b_Rules_step 140 = .ok (.getfield 23, 3) := by decide +kernel
theorem d_Rules_step_143 : decode b_Rules_step 143 = .ok (.iload_n 1, 1) := by decide +kernel
theorem d_Rules_step_144 : decode b_Rules_step 144 = .ok (.iload 7, 2) := by decide +kernel
theorem d_Rules_step_146 : decode b_Rules_step 146 = .ok (.iload_n 3, 1) := by decide +kernel
theorem d_Rules_step_147 : decode b_Rules_step 147 = .ok (.iconst 2, 1) := by decide +kernel
theorem d_Rules_step_148 : decode b_Rules_step 148 = .ok (.invokestatic 67, 3) := by decide +kernel
theorem d_Rules_step_151 : decode b_Rules_step 151 = .ok (.iload 4, 2) := by decide +kernel
theorem d_Rules_step_153 : decode b_Rules_step 153 = .ok (.invokevirtual 64, 3) := by decide +kernel
theorem d_Rules_step_156 : decode b_Rules_step 156 = .ok (.aload_n 0, 1) := by decide +kernel
theorem d_Rules_step_157 : decode b_Rules_step 157 = .ok (.getfield 23, 3) := by decide +kernel
theorem d_Rules_step_160 : decode b_Rules_step 160 = .ok (.iload_n 1, 1) := by decide +kernel
theorem d_Rules_step_161 : decode b_Rules_step 161 = .ok (.iload 7, 2) := by decide +kernel
theorem d_Rules_step_163 : decode b_Rules_step 163 = .ok (.iload_n 3, 1) := by decide +kernel
theorem d_Rules_step_164 : decode b_Rules_step 164 = .ok (.iload_n 3, 1) := by decide +kernel
theorem d_Rules_step_165 : decode b_Rules_step 165 = .ok (.iconst 2, 1) := by decide +kernel
theorem d_Rules_step_166 : decode b_Rules_step 166 = .ok (.invokestatic 67, 3) := by decide +kernel
theorem d_Rules_step_169 : decode b_Rules_step 169 = .ok (.isub, 1) := by decide +kernel
theorem d_Rules_step_170 : decode b_Rules_step 170 = .ok (.iload 4, 2) := by decide +kernel
theorem d_Rules_step_172 : decode b_Rules_step 172 = .ok (.invokevirtual 64, 3) := by decide +kernel
theorem d_Rules_step_175 : decode b_Rules_step 175 = .ok (.goto 20, 3) := by decide +kernel
theorem d_Rules_step_178 : decode b_Rules_step 178 = .ok (.aload_n 0, 1) := by decide +kernel
theorem d_Rules_step_179 : decode b_Rules_step 179 = .ok (.getfield 23, 3) := by decide +kernel
theorem d_Rules_step_182 : decode b_Rules_step 182 = .ok (.iload 6, 2) := by decide +kernel
theorem d_Rules_step_184 : decode b_Rules_step 184 = .ok (.iload 7, 2) := by decide +kernel
theorem d_Rules_step_186 : decode b_Rules_step 186 = .ok (.iload_n 3, 1) := by decide +kernel
theorem d_Rules_step_187 : decode b_Rules_step 187 = .ok (.iload 4, 2) := by decide +kernel
theorem d_Rules_step_189 : decode b_Rules_step 189 = .ok (.invokevirtual 64, 3) := by decide +kernel
theorem d_Rules_step_192 : decode b_Rules_step 192 = .ok (.goto 3, 3) := by decide +kernel
theorem d_Rules_step_195 : decode b_Rules_step 195 = .ok (.return_, 1) := by decide +kernel
theorem d_Rules_stepAll_0 : decode b_Rules_stepAll 0 = .ok (.aload_n 0, 1) := by decide +kernel
theorem d_Rules_stepAll_1 : decode b_Rules_stepAll 1 = .ok (.getfield 27, 3) := by decide +kernel
theorem d_Rules_stepAll_4 : decode b_Rules_stepAll 4 = .ok (.astore_n 1, 1) := by decide +kernel
theorem d_Rules_stepAll_5 : decode b_Rules_stepAll 5 = .ok (.aload_n 0, 1) := by decide +kernel
theorem d_Rules_stepAll_6 : decode b_Rules_stepAll 6 = .ok (.aload_n 0, 1) := by decide +kernel
theorem d_Rules_stepAll_7 : decode b_Rules_stepAll 7 = .ok (.getfield 23, 3) := by decide +kernel
theorem d_Rules_stepAll_10 : decode b_Rules_stepAll 10 = .ok (.putfield 27, 3) := by decide +kernel
theorem d_Rules_stepAll_13 : decode b_Rules_stepAll 13 = .ok (.aload_n 0, 1) := by decide +kernel
theorem d_Rules_stepAll_14 : decode b_Rules_stepAll 14 = .ok (.aload_n 1, 1) := by decide +kernel
theorem d_Rules_stepAll_15 : decode b_Rules_stepAll 15 = .ok (.putfield 23, 3) := by decide +kernel
theorem d_Rules_stepAll_18 : decode b_Rules_stepAll 18 = .ok (.aload_n 0, 1) := by decide +kernel
theorem d_Rules_stepAll_19 : decode b_Rules_stepAll 19 = .ok (.getfield 23, 3) := by decide +kernel
theorem d_Rules_stepAll_22 : decode b_Rules_stepAll 22 = .ok (.invokevirtual 34, 3) := by decide +kernel
theorem d_Rules_stepAll_25 : decode b_Rules_stepAll 25 = .ok (.iconst 0, 1) := by decide +kernel
theorem d_Rules_stepAll_26 : decode b_Rules_stepAll 26 = .ok (.istore_n 2, 1) := by decide +kernel
theorem d_Rules_stepAll_27 : decode b_Rules_stepAll 27 = .ok (.iload_n 2, 1) := by decide +kernel
theorem d_Rules_stepAll_28 : decode b_Rules_stepAll 28 = .ok (.aload_n 0, 1) := by decide +kernel
theorem d_Rules_stepAll_29 : decode b_Rules_stepAll 29 = .ok (.getfield 27, 3) := by decide +kernel
theorem d_Rules_stepAll_32 : decode b_Rules_stepAll 32 = .ok (.getfield 47, 3) := by decide +kernel
theorem d_Rules_stepAll_35 : decode b_Rules_stepAll 35 = .ok (.if_icmp .ge 49, 3) := by decide +kernel
theorem d_Rules_stepAll_38 : decode b_Rules_stepAll 38 = .ok (.aload_n 0, 1) := by decide +kernel
theorem d_Rules_stepAll_39 : decode b_Rules_stepAll 39 = .ok (.aload_n 0, 1) := by decide +kernel
theorem d_Rules_stepAll_40 : decode b_Rules_stepAll 40 = .ok (.getfield 27, 3) := by decide +kernel
theorem d_Rules_stepAll_43 : decode b_Rules_stepAll 43 = .ok (.getfield 51, 3) := by decide +kernel
theorem d_Rules_stepAll_46 : decode b_Rules_stepAll 46 = .ok (.iload_n 2, 1) := by decide +kernel
theorem d_Rules_stepAll_47 : decode b_Rules_stepAll 47 = .ok (.iaload, 1) := by decide +kernel
theorem d_Rules_stepAll_48 : decode b_Rules_stepAll 48 = .ok (.aload_n 0, 1) := by decide +kernel
theorem d_Rules_stepAll_49 : decode b_Rules_stepAll 49 = .ok (.getfield 27, 3) := by decide +kernel
theorem d_Rules_stepAll_52 : decode b_Rules_stepAll 52 = .ok (.getfield 41, 3) := by decide +kernel
theorem d_Rules_stepAll_55 : decode b_Rules_stepAll 55 = .ok (.iload_n 2, 1) := by decide +kernel
theorem d_Rules_stepAll_56 : decode b_Rules_stepAll 56 = .ok (.iaload, 1) := by decide +kernel
theorem d_Rules_stepAll_57 : decode b_Rules_stepAll 57 = .ok (.aload_n 0, 1) := by decide +kernel
theorem d_Rules_stepAll_58 : decode b_Rules_stepAll 58 = .ok (.getfield 27, 3) := by decide +kernel
theorem d_Rules_stepAll_61 : decode b_Rules_stepAll 61 = .ok (.getfield 54, 3) := by decide +kernel
theorem d_Rules_stepAll_64 : decode b_Rules_stepAll 64 = .ok (.iload_n 2, 1) := by decide +kernel
theorem d_Rules_stepAll_65 : decode b_Rules_stepAll 65 = .ok (.iaload, 1) := by decide +kernel
theorem d_Rules_stepAll_66 : decode b_Rules_stepAll 66 = .ok (.aload_n 0, 1) := by decide +kernel
theorem d_Rules_stepAll_67 : decode b_Rules_stepAll 67 = .ok (.getfield 27, 3) := by decide +kernel
theorem d_Rules_stepAll_70 : decode b_Rules_stepAll 70 = .ok (.getfield 57, 3) := by decide +kernel
theorem d_Rules_stepAll_73 : decode b_Rules_stepAll 73 = .ok (.iload_n 2, 1) := by decide +kernel
theorem d_Rules_stepAll_74 : decode b_Rules_stepAll 74 = .ok (.iaload, 1) := by decide +kernel
theorem d_Rules_stepAll_75 : decode b_Rules_stepAll 75 = .ok (.invokevirtual 60, 3) := by decide +kernel
theorem d_Rules_stepAll_78 : decode b_Rules_stepAll 78 = .ok (.iinc 2 1, 3) := by decide +kernel
theorem d_Rules_stepAll_81 : decode b_Rules_stepAll 81 = .ok (.goto (-54), 3) := by decide +kernel
theorem d_Rules_stepAll_84 : decode b_Rules_stepAll 84 = .ok (.return_, 1) := by decide +kernel
theorem d_Shelf_init_0 : decode b_Shelf_init 0 = .ok (.aload_n 0, 1) := by decide +kernel
theorem d_Shelf_init_1 : decode b_Shelf_init 1 = .ok (.invokespecial 3, 3) := by decide +kernel
theorem d_Shelf_init_4 : decode b_Shelf_init 4 = .ok (.aload_n 0, 1) := by decide +kernel
theorem d_Shelf_init_5 : decode b_Shelf_init 5 = .ok (.new 9, 3) := by decide +kernel
theorem d_Shelf_init_8 : decode b_Shelf_init 8 = .ok (.dup, 1) := by decide +kernel
theorem d_Shelf_init_9 : decode b_Shelf_init 9 = .ok (.invokespecial 11, 3) := by decide +kernel
theorem d_Shelf_init_12 : decode b_Shelf_init 12 = .ok (.putfield 12, 3) := by decide +kernel
theorem d_Shelf_init_15 : decode b_Shelf_init 15 = .ok (.aload_n 0, 1) := by decide +kernel
theorem d_Shelf_init_16 : decode b_Shelf_init 16 = .ok (.new 9, 3) := by decide +kernel
theorem d_Shelf_init_19 : decode b_Shelf_init 19 = .ok (.dup, 1) := by decide +kernel
theorem d_Shelf_init_20 : decode b_Shelf_init 20 = .ok (.invokespecial 11, 3) := by decide +kernel
theorem d_Shelf_init_23 : decode b_Shelf_init 23 = .ok (.putfield 18, 3) := by decide +kernel
theorem d_Shelf_init_26 : decode b_Shelf_init 26 = .ok (.aload_n 0, 1) := by decide +kernel
theorem d_Shelf_init_27 : decode b_Shelf_init 27 = .ok (.iconst (-1), 1) := by decide +kernel
theorem d_Shelf_init_28 : decode b_Shelf_init 28 = .ok (.putfield 21, 3) := by decide +kernel
theorem d_Shelf_init_31 : decode b_Shelf_init 31 = .ok (.aload_n 0, 1) := by decide +kernel
theorem d_Shelf_init_32 : decode b_Shelf_init 32 = .ok (.iconst (-1), 1) := by decide +kernel
theorem d_Shelf_init_33 : decode b_Shelf_init 33 = .ok (.putfield 25, 3) := by decide +kernel
theorem d_Shelf_init_36 : decode b_Shelf_init 36 = .ok (.return_, 1) := by decide +kernel
theorem d_Shelf_clear_0 : decode b_Shelf_clear 0 = .ok (.aload_n 0, 1) := by decide +kernel
theorem d_Shelf_clear_1 : decode b_Shelf_clear 1 = .ok (.iconst (-1), 1) := by decide +kernel
theorem d_Shelf_clear_2 : decode b_Shelf_clear 2 = .ok (.putfield 21, 3) := by decide +kernel
theorem d_Shelf_clear_5 : decode b_Shelf_clear 5 = .ok (.aload_n 0, 1) := by decide +kernel
theorem d_Shelf_clear_6 : decode b_Shelf_clear 6 = .ok (.iconst (-1), 1) := by decide +kernel
theorem d_Shelf_clear_7 : decode b_Shelf_clear 7 = .ok (.putfield 25, 3) := by decide +kernel
theorem d_Shelf_clear_10 : decode b_Shelf_clear 10 = .ok (.return_, 1) := by decide +kernel
theorem d_Shelf_keep_0 : decode b_Shelf_keep 0 = .ok (.aload_n 0, 1) := by decide +kernel
theorem d_Shelf_keep_1 : decode b_Shelf_keep 1 = .ok (.getfield 18, 3) := by decide +kernel
theorem d_Shelf_keep_4 : decode b_Shelf_keep 4 = .ok (.astore_n 3, 1) := by decide +kernel
theorem d_Shelf_keep_5 : decode b_Shelf_keep 5 = .ok (.aload_n 0, 1) := by decide +kernel
theorem d_Shelf_keep_6 : decode b_Shelf_keep 6 = .ok (.aload_n 0, 1) := by decide +kernel
theorem d_Shelf_keep_7 : decode b_Shelf_keep 7 = .ok (.getfield 12, 3) := by decide +kernel
theorem d_Shelf_keep_10 : decode b_Shelf_keep 10 = .ok (.putfield 18, 3) := by decide +kernel
theorem d_Shelf_keep_13 : decode b_Shelf_keep 13 = .ok (.aload_n 0, 1) := by decide +kernel
theorem d_Shelf_keep_14 : decode b_Shelf_keep 14 = .ok (.aload_n 0, 1) := by decide +kernel
theorem d_Shelf_keep_15 : decode b_Shelf_keep 15 = .ok (.getfield 21, 3) := by decide +kernel
theorem d_Shelf_keep_18 : decode b_Shelf_keep 18 = .ok (.putfield 25, 3) := by decide +kernel
theorem d_Shelf_keep_21 : decode b_Shelf_keep 21 = .ok (.aload_n 0, 1) := by decide +kernel
theorem d_Shelf_keep_22 : decode b_Shelf_keep 22 = .ok (.aload_n 3, 1) := by decide +kernel
theorem d_Shelf_keep_23 : decode b_Shelf_keep 23 = .ok (.putfield 12, 3) := by decide +kernel
theorem d_Shelf_keep_26 : decode b_Shelf_keep 26 = .ok (.aload_n 0, 1) := by decide +kernel
theorem d_Shelf_keep_27 : decode b_Shelf_keep 27 = .ok (.getfield 12, 3) := by decide +kernel
theorem d_Shelf_keep_30 : decode b_Shelf_keep 30 = .ok (.aload_n 2, 1) := by decide +kernel
theorem d_Shelf_keep_31 : decode b_Shelf_keep 31 = .ok (.invokevirtual 28, 3) := by decide +kernel
theorem d_Shelf_keep_34 : decode b_Shelf_keep 34 = .ok (.aload_n 0, 1) := by decide +kernel
theorem d_Shelf_keep_35 : decode b_Shelf_keep 35 = .ok (.iload_n 1, 1) := by decide +kernel
theorem d_Shelf_keep_36 : decode b_Shelf_keep 36 = .ok (.putfield 21, 3) := by decide +kernel
theorem d_Shelf_keep_39 : decode b_Shelf_keep 39 = .ok (.return_, 1) := by decide +kernel
theorem d_Shelf_restore_0 : decode b_Shelf_restore 0 = .ok (.aload_n 0, 1) := by decide +kernel
theorem d_Shelf_restore_1 : decode b_Shelf_restore 1 = .ok (.getfield 21, 3) := by decide +kernel
theorem d_Shelf_restore_4 : decode b_Shelf_restore 4 = .ok (.iconst (-1), 1) := by decide +kernel
theorem d_Shelf_restore_5 : decode b_Shelf_restore 5 = .ok (.if_icmp .eq 24, 3) := by decide +kernel
theorem d_Shelf_restore_8 : decode b_Shelf_restore 8 = .ok (.aload_n 0, 1) := by decide +kernel
theorem d_Shelf_restore_9 : decode b_Shelf_restore 9 = .ok (.getfield 21, 3) := by decide +kernel
theorem d_Shelf_restore_12 : decode b_Shelf_restore 12 = .ok (.iload_n 2, 1) := by decide +kernel
theorem d_Shelf_restore_13 : decode b_Shelf_restore 13 = .ok (.if_icmp .gt 16, 3) := by decide +kernel
theorem d_Shelf_restore_16 : decode b_Shelf_restore 16 = .ok (.aload_n 1, 1) := by decide +kernel
theorem d_Shelf_restore_17 : decode b_Shelf_restore 17 = .ok (.aload_n 0, 1) := by decide +kernel
theorem d_Shelf_restore_18 : decode b_Shelf_restore 18 = .ok (.getfield 12, 3) := by decide +kernel
theorem d_Shelf_restore_21 : decode b_Shelf_restore 21 = .ok (.invokevirtual 28, 3) := by decide +kernel
theorem d_Shelf_restore_24 : decode b_Shelf_restore 24 = .ok (.aload_n 0, 1) := by decide +kernel
theorem d_Shelf_restore_25 : decode b_Shelf_restore 25 = .ok (.getfield 21, 3) := by decide +kernel
theorem d_Shelf_restore_28 : decode b_Shelf_restore 28 = .ok (.ireturn, 1) := by decide +kernel
theorem d_Shelf_restore_29 : decode b_Shelf_restore 29 = .ok (.aload_n 0, 1) := by decide +kernel
theorem d_Shelf_restore_30 : decode b_Shelf_restore 30 = .ok (.getfield 25, 3) := by decide +kernel
theorem d_Shelf_restore_33 : decode b_Shelf_restore 33 = .ok (.iconst (-1), 1) := by decide +kernel
theorem d_Shelf_restore_34 : decode b_Shelf_restore 34 = .ok (.if_icmp .eq 24, 3) := by decide +kernel
theorem d_Shelf_restore_37 : decode b_Shelf_restore 37 = .ok (.aload_n 0, 1) := by decide +kernel
theorem d_Shelf_restore_38 : decode b_Shelf_restore 38 = .ok (.getfield 25, 3) := by decide +kernel
theorem d_Shelf_restore_41 : decode b_Shelf_restore 41 = .ok (.iload_n 2, 1) := by decide +kernel
theorem d_Shelf_restore_42 : decode b_Shelf_restore 42 = .ok (.if_icmp .gt 16, 3) := by decide +kernel
theorem d_Shelf_restore_45 : decode b_Shelf_restore 45 = .ok (.aload_n 1, 1) := by decide +kernel
theorem d_Shelf_restore_46 : decode b_Shelf_restore 46 = .ok (.aload_n 0, 1) := by decide +kernel
theorem d_Shelf_restore_47 : decode b_Shelf_restore 47 = .ok (.getfield 18, 3) := by decide +kernel
theorem d_Shelf_restore_50 : decode b_Shelf_restore 50 = .ok (.invokevirtual 28, 3) := by decide +kernel
theorem d_Shelf_restore_53 : decode b_Shelf_restore 53 = .ok (.aload_n 0, 1) := by decide +kernel
theorem d_Shelf_restore_54 : decode b_Shelf_restore 54 = .ok (.getfield 25, 3) := by decide +kernel
theorem d_Shelf_restore_57 : decode b_Shelf_restore 57 = .ok (.ireturn, 1) := by decide +kernel
theorem d_Shelf_restore_58 : decode b_Shelf_restore 58 = .ok (.aload_n 1, 1) := by decide +kernel
theorem d_Shelf_restore_59 : decode b_Shelf_restore 59 = .ok (.invokevirtual 32, 3) := by decide +kernel
theorem d_Shelf_restore_62 : decode b_Shelf_restore 62 = .ok (.iconst 0, 1) := by decide +kernel
theorem d_Shelf_restore_63 : decode b_Shelf_restore 63 = .ok (.ireturn, 1) := by decide +kernel
theorem d_Shelf_versionOf_0 : decode b_Shelf_versionOf 0 = .ok (.iload_n 1, 1) := by decide +kernel
theorem d_Shelf_versionOf_1 : decode b_Shelf_versionOf 1 = .ok (.ifCond .ne 8, 3) := by decide +kernel
theorem d_Shelf_versionOf_4 : decode b_Shelf_versionOf 4 = .ok (.aload_n 0, 1) := by decide +kernel
theorem d_Shelf_versionOf_5 : decode b_Shelf_versionOf 5 = .ok (.getfield 21, 3) := by decide +kernel
theorem d_Shelf_versionOf_8 : decode b_Shelf_versionOf 8 = .ok (.ireturn, 1) := by decide +kernel
theorem d_Shelf_versionOf_9 : decode b_Shelf_versionOf 9 = .ok (.iload_n 1, 1) := by decide +kernel
theorem d_Shelf_versionOf_10 : decode b_Shelf_versionOf 10 = .ok (.iconst 1, 1) := by decide +kernel
theorem d_Shelf_versionOf_11 : decode b_Shelf_versionOf 11 = .ok (.if_icmp .ne 10, 3) := by decide +kernel
theorem d_Shelf_versionOf_14 : decode b_Shelf_versionOf 14 = .ok (.aload_n 0, 1) := by decide +kernel
theorem d_Shelf_versionOf_15 : decode b_Shelf_versionOf 15 = .ok (.getfield 25, 3) := by decide +kernel
theorem d_Shelf_versionOf_18 : decode b_Shelf_versionOf 18 = .ok (.goto 4, 3) := by decide +kernel
theorem d_Shelf_versionOf_21 : decode b_Shelf_versionOf 21 = .ok (.iconst (-1), 1) := by decide +kernel
theorem d_Shelf_versionOf_22 : decode b_Shelf_versionOf 22 = .ok (.ireturn, 1) := by decide +kernel
theorem d_State_init_0 : decode b_State_init 0 = .ok (.aload_n 0, 1) := by decide +kernel
theorem d_State_init_1 : decode b_State_init 1 = .ok (.invokespecial 3, 3) := by decide +kernel
theorem d_State_init_4 : decode b_State_init 4 = .ok (.return_, 1) := by decide +kernel
theorem d_State_become_0 : decode b_State_become 0 = .ok (.aload_n 0, 1) := by decide +kernel
theorem d_State_become_1 : decode b_State_become 1 = .ok (.aload_n 1, 1) := by decide +kernel
theorem d_State_become_2 : decode b_State_become 2 = .ok (.getfield 9, 3) := by decide +kernel
theorem d_State_become_5 : decode b_State_become 5 = .ok (.putfield 9, 3) := by decide +kernel
theorem d_State_become_8 : decode b_State_become 8 = .ok (.aload_n 0, 1) := by decide +kernel
theorem d_State_become_9 : decode b_State_become 9 = .ok (.aload_n 1, 1) := by decide +kernel
theorem d_State_become_10 : decode b_State_become 10 = .ok (.getfield 15, 3) := by decide +kernel
theorem d_State_become_13 : decode b_State_become 13 = .ok (.putfield 15, 3) := by decide +kernel
theorem d_State_become_16 : decode b_State_become 16 = .ok (.aload_n 0, 1) := by decide +kernel
theorem d_State_become_17 : decode b_State_become 17 = .ok (.aload_n 1, 1) := by decide +kernel
theorem d_State_become_18 : decode b_State_become 18 = .ok (.getfield 18, 3) := by decide +kernel
theorem d_State_become_21 : decode b_State_become 21 = .ok (.putfield 18, 3) := by decide +kernel
theorem d_State_become_24 : decode b_State_become 24 = .ok (.aload_n 0, 1) := by decide +kernel
theorem d_State_become_25 : decode b_State_become 25 = .ok (.aload_n 1, 1) := by decide +kernel
theorem d_State_become_26 : decode b_State_become 26 = .ok (.getfield 22, 3) := by decide +kernel
theorem d_State_become_29 : decode b_State_become 29 = .ok (.putfield 22, 3) := by decide +kernel
theorem d_State_become_32 : decode b_State_become 32 = .ok (.aload_n 0, 1) := by decide +kernel
theorem d_State_become_33 : decode b_State_become 33 = .ok (.aload_n 1, 1) := by decide +kernel
theorem d_State_become_34 : decode b_State_become 34 = .ok (.getfield 25, 3) := by decide +kernel
theorem d_State_become_37 : decode b_State_become 37 = .ok (.putfield 25, 3) := by decide +kernel
theorem d_State_become_40 : decode b_State_become 40 = .ok (.aload_n 0, 1) := by decide +kernel
theorem d_State_become_41 : decode b_State_become 41 = .ok (.aload_n 1, 1) := by decide +kernel
theorem d_State_become_42 : decode b_State_become 42 = .ok (.getfield 28, 3) := by decide +kernel
theorem d_State_become_45 : decode b_State_become 45 = .ok (.putfield 28, 3) := by decide +kernel
theorem d_State_become_48 : decode b_State_become 48 = .ok (.aload_n 0, 1) := by decide +kernel
theorem d_State_become_49 : decode b_State_become 49 = .ok (.aload_n 1, 1) := by decide +kernel
theorem d_State_become_50 : decode b_State_become 50 = .ok (.getfield 31, 3) := by decide +kernel
theorem d_State_become_53 : decode b_State_become 53 = .ok (.putfield 31, 3) := by decide +kernel
theorem d_State_become_56 : decode b_State_become 56 = .ok (.aload_n 0, 1) := by decide +kernel
theorem d_State_become_57 : decode b_State_become 57 = .ok (.aload_n 1, 1) := by decide +kernel
theorem d_State_become_58 : decode b_State_become 58 = .ok (.getfield 34, 3) := by decide +kernel
theorem d_State_become_61 : decode b_State_become 61 = .ok (.putfield 34, 3) := by decide +kernel
theorem d_State_become_64 : decode b_State_become 64 = .ok (.return_, 1) := by decide +kernel
theorem d_State_change_0 : decode b_State_change 0 = .ok (.iload_n 1, 1) := by decide +kernel
theorem d_State_change_1 : decode b_State_change 1 = .ok (.tableswitch 110 0 5 #[39, 58, 72, 86, 94, 102], 39) := by decide +kernel
theorem d_State_change_40 : decode b_State_change 40 = .ok (.aload_n 0, 1) := by decide +kernel
theorem d_State_change_41 : decode b_State_change 41 = .ok (.iconst 1, 1) := by decide +kernel
theorem d_State_change_42 : decode b_State_change 42 = .ok (.putfield 9, 3) := by decide +kernel
theorem d_State_change_45 : decode b_State_change 45 = .ok (.aload_n 0, 1) := by decide +kernel
theorem d_State_change_46 : decode b_State_change 46 = .ok (.iload_n 2, 1) := by decide +kernel
theorem d_State_change_47 : decode b_State_change 47 = .ok (.i2l, 1) := by decide +kernel
theorem d_State_change_48 : decode b_State_change 48 = .ok (.putfield 18, 3) := by decide +kernel
theorem d_State_change_51 : decode b_State_change 51 = .ok (.aload_n 0, 1) := by decide +kernel
theorem d_State_change_52 : decode b_State_change 52 = .ok (.lconst 0, 1) := by decide +kernel
theorem d_State_change_53 : decode b_State_change 53 = .ok (.putfield 22, 3) := by decide +kernel
theorem d_State_change_56 : decode b_State_change 56 = .ok (.goto 55, 3) := by decide +kernel
theorem d_State_change_59 : decode b_State_change 59 = .ok (.aload_n 0, 1) := by decide +kernel
theorem d_State_change_60 : decode b_State_change 60 = .ok (.dup, 1) := by decide +kernel
theorem d_State_change_61 : decode b_State_change 61 = .ok (.getfield 22, 3) := by decide +kernel
theorem d_State_change_64 : decode b_State_change 64 = .ok (.iload_n 2, 1) := by decide +kernel
theorem d_State_change_65 : decode b_State_change 65 = .ok (.i2l, 1) := by decide +kernel
theorem d_State_change_66 : decode b_State_change 66 = .ok (.ladd, 1) := by decide +kernel
theorem d_State_change_67 : decode b_State_change 67 = .ok (.putfield 22, 3) := by decide +kernel
theorem d_State_change_70 : decode b_State_change 70 = .ok (.goto 41, 3) := by decide +kernel
theorem d_State_change_73 : decode b_State_change 73 = .ok (.aload_n 0, 1) := by decide +kernel
theorem d_State_change_74 : decode b_State_change 74 = .ok (.dup, 1) := by decide +kernel
theorem d_State_change_75 : decode b_State_change 75 = .ok (.getfield 22, 3) := by decide +kernel
theorem d_State_change_78 : decode b_State_change 78 = .ok (.iload_n 2, 1) := by decide +kernel
theorem d_State_change_79 : decode b_State_change 79 = .ok (.i2l, 1) := by decide +kernel
theorem d_State_change_80 : decode b_State_change 80 = .ok (.lsub, 1) := by decide +kernel
theorem d_State_change_81 : decode b_State_change 81 = .ok (.putfield 22, 3) := by decide +kernel
theorem d_State_change_84 : decode b_State_change 84 = .ok (.goto 27, 3) := by decide +kernel
theorem d_State_change_87 : decode b_State_change 87 = .ok (.aload_n 0, 1) := by decide +kernel
theorem d_State_change_88 : decode b_State_change 88 = .ok (.iconst 1, 1) := by decide +kernel
theorem d_State_change_89 : decode b_State_change 89 = .ok (.putfield 15, 3) := by decide +kernel
theorem d_State_change_92 : decode b_State_change 92 = .ok (.goto 19, 3) := by decide +kernel
theorem d_State_change_95 : decode b_State_change 95 = .ok (.aload_n 0, 1) := by decide +kernel
theorem d_State_change_96 : decode b_State_change 96 = .ok (.iconst 0, 1) := by decide +kernel
theorem d_State_change_97 : decode b_State_change 97 = .ok (.putfield 15, 3) := by decide +kernel
theorem d_State_change_100 : decode b_State_change 100 = .ok (.goto 11, 3) := by decide +kernel
theorem d_State_change_103 : decode b_State_change 103 = .ok (.aload_n 0, 1) := by decide +kernel
theorem d_State_change_104 : decode b_State_change 104 = .ok (.iconst 0, 1) := by decide +kernel
theorem d_State_change_105 : decode b_State_change 105 = .ok (.putfield 9, 3) := by decide +kernel
theorem d_State_change_108 : decode b_State_change 108 = .ok (.goto 3, 3) := by decide +kernel
theorem d_State_change_111 : decode b_State_change 111 = .ok (.return_, 1) := by decide +kernel
theorem d_State_clear_0 : decode b_State_clear 0 = .ok (.aload_n 0, 1) := by decide +kernel
theorem d_State_clear_1 : decode b_State_clear 1 = .ok (.iconst 0, 1) := by decide +kernel
theorem d_State_clear_2 : decode b_State_clear 2 = .ok (.putfield 9, 3) := by decide +kernel
theorem d_State_clear_5 : decode b_State_clear 5 = .ok (.aload_n 0, 1) := by decide +kernel
theorem d_State_clear_6 : decode b_State_clear 6 = .ok (.iconst 0, 1) := by decide +kernel
theorem d_State_clear_7 : decode b_State_clear 7 = .ok (.putfield 15, 3) := by decide +kernel
theorem d_State_clear_10 : decode b_State_clear 10 = .ok (.aload_n 0, 1) := by decide +kernel
theorem d_State_clear_11 : decode b_State_clear 11 = .ok (.lconst 0, 1) := by decide +kernel
theorem d_State_clear_12 : decode b_State_clear 12 = .ok (.putfield 18, 3) := by decide +kernel
theorem d_State_clear_15 : decode b_State_clear 15 = .ok (.aload_n 0, 1) := by decide +kernel
theorem d_State_clear_16 : decode b_State_clear 16 = .ok (.lconst 0, 1) := by decide +kernel
theorem d_State_clear_17 : decode b_State_clear 17 = .ok (.putfield 22, 3) := by decide +kernel
theorem d_State_clear_20 : decode b_State_clear 20 = .ok (.aload_n 0, 1) := by decide +kernel
theorem d_State_clear_21 : decode b_State_clear 21 = .ok (.lconst 0, 1) := by decide +kernel
theorem d_State_clear_22 : decode b_State_clear 22 = .ok (.putfield 25, 3) := by decide +kernel
theorem d_State_clear_25 : decode b_State_clear 25 = .ok (.aload_n 0, 1) := by decide +kernel
theorem d_State_clear_26 : decode b_State_clear 26 = .ok (.lconst 0, 1) := by decide +kernel
theorem d_State_clear_27 : decode b_State_clear 27 = .ok (.putfield 28, 3) := by decide +kernel
theorem d_State_clear_30 : decode b_State_clear 30 = .ok (.aload_n 0, 1) := by decide +kernel
theorem d_State_clear_31 : decode b_State_clear 31 = .ok (.lconst 0, 1) := by decide +kernel
theorem d_State_clear_32 : decode b_State_clear 32 = .ok (.putfield 31, 3) := by decide +kernel
theorem d_State_clear_35 : decode b_State_clear 35 = .ok (.aload_n 0, 1) := by decide +kernel
theorem d_State_clear_36 : decode b_State_clear 36 = .ok (.lconst 0, 1) := by decide +kernel
theorem d_State_clear_37 : decode b_State_clear 37 = .ok (.putfield 34, 3) := by decide +kernel
theorem d_State_clear_40 : decode b_State_clear 40 = .ok (.return_, 1) := by decide +kernel
theorem d_State_count_0 : decode b_State_count 0 = .ok (.aload_n 0, 1) := by decide +kernel
theorem d_State_count_1 : decode b_State_count 1 = .ok (.aload_n 0, 1) := by decide +kernel
theorem d_State_count_2 : decode b_State_count 2 = .ok (.getfield 25, 3) := by decide +kernel
theorem d_State_count_5 : decode b_State_count 5 = .ok (.aload_n 0, 1) := by decide +kernel
theorem d_State_count_6 : decode b_State_count 6 = .ok (.getfield 22, 3) := by decide +kernel
theorem d_State_count_9 : decode b_State_count 9 = .ok (.invokestatic 65, 3) := by decide +kernel
theorem d_State_count_12 : decode b_State_count 12 = .ok (.putfield 25, 3) := by decide +kernel
theorem d_State_count_15 : decode b_State_count 15 = .ok (.aload_n 0, 1) := by decide +kernel
theorem d_State_count_16 : decode b_State_count 16 = .ok (.dup, 1) := by decide +kernel
theorem d_State_count_17 : decode b_State_count 17 = .ok (.getfield 28, 3) := by decide +kernel
theorem d_State_count_20 : decode b_State_count 20 = .ok (.lconst 1, 1) := by decide +kernel
theorem d_State_count_21 : decode b_State_count 21 = .ok (.ladd, 1) := by decide +kernel
theorem d_State_count_22 : decode b_State_count 22 = .ok (.putfield 28, 3) := by decide +kernel
theorem d_State_count_25 : decode b_State_count 25 = .ok (.aload_n 0, 1) := by decide +kernel
theorem d_State_count_26 : decode b_State_count 26 = .ok (.aload_n 0, 1) := by decide +kernel
theorem d_State_count_27 : decode b_State_count 27 = .ok (.getfield 34, 3) := by decide +kernel
theorem d_State_count_30 : decode b_State_count 30 = .ok (.ldc2_w 71, 3) := by decide +kernel
theorem d_State_count_33 : decode b_State_count 33 = .ok (.lmul, 1) := by decide +kernel
theorem d_State_count_34 : decode b_State_count 34 = .ok (.iload_n 1, 1) := by decide +kernel
theorem d_State_count_35 : decode b_State_count 35 = .ok (.i2l, 1) := by decide +kernel
theorem d_State_count_36 : decode b_State_count 36 = .ok (.ladd, 1) := by decide +kernel
theorem d_State_count_37 : decode b_State_count 37 = .ok (.ldc2_w 73, 3) := by decide +kernel
theorem d_State_count_40 : decode b_State_count 40 = .ok (.iload_n 2, 1) := by decide +kernel
theorem d_State_count_41 : decode b_State_count 41 = .ok (.i2l, 1) := by decide +kernel
theorem d_State_count_42 : decode b_State_count 42 = .ok (.lmul, 1) := by decide +kernel
theorem d_State_count_43 : decode b_State_count 43 = .ok (.ladd, 1) := by decide +kernel
theorem d_State_count_44 : decode b_State_count 44 = .ok (.iload_n 3, 1) := by decide +kernel
theorem d_State_count_45 : decode b_State_count 45 = .ok (.i2l, 1) := by decide +kernel
theorem d_State_count_46 : decode b_State_count 46 = .ok (.lxor, 1) := by decide +kernel
theorem d_State_count_47 : decode b_State_count 47 = .ok (.putfield 34, 3) := by decide +kernel
theorem d_State_count_50 : decode b_State_count 50 = .ok (.return_, 1) := by decide +kernel
theorem d_State_fits_0 : decode b_State_fits 0 = .ok (.iload_n 1, 1) := by decide +kernel
theorem d_State_fits_1 : decode b_State_fits 1 = .ok (.tableswitch 169 0 5 #[39, 52, 76, 115, 135, 140], 39) := by decide +kernel
theorem d_State_fits_40 : decode b_State_fits 40 = .ok (.aload_n 0, 1) := by decide +kernel
theorem d_State_fits_41 : decode b_State_fits 41 = .ok (.getfield 9, 3) := by decide +kernel
theorem d_State_fits_44 : decode b_State_fits 44 = .ok (.ifCond .ne 7, 3) := by decide +kernel
theorem d_State_fits_47 : decode b_State_fits 47 = .ok (.iconst 1, 1) := by decide +kernel
theorem d_State_fits_48 : decode b_State_fits 48 = .ok (.goto 4, 3) := by decide +kernel
theorem d_State_fits_51 : decode b_State_fits 51 = .ok (.iconst 0, 1) := by decide +kernel
theorem d_State_fits_52 : decode b_State_fits 52 = .ok (.ireturn, 1) := by decide +kernel
theorem d_State_fits_53 : decode b_State_fits 53 = .ok (.aload_n 0, 1) := by decide +kernel
theorem d_State_fits_54 : decode b_State_fits 54 = .ok (.getfield 9, 3) := by decide +kernel
theorem d_State_fits_57 : decode b_State_fits 57 = .ok (.ifCond .eq 18, 3) := by decide +kernel
theorem d_State_fits_60 : decode b_State_fits 60 = .ok (.aload_n 0, 1) := by decide +kernel
theorem d_State_fits_61 : decode b_State_fits 61 = .ok (.getfield 15, 3) := by decide +kernel
theorem d_State_fits_64 : decode b_State_fits 64 = .ok (.ifCond .ne 11, 3) := by decide +kernel
theorem d_State_fits_67 : decode b_State_fits 67 = .ok (.iload_n 2, 1) := by decide +kernel
theorem d_State_fits_68 : decode b_State_fits 68 = .ok (.ifCond .lt 7, 3) := by decide +kernel
theorem d_State_fits_71 : decode b_State_fits 71 = .ok (.iconst 1, 1) := by decide +kernel
theorem d_State_fits_72 : decode b_State_fits 72 = .ok (.goto 4, 3) := by decide +kernel
theorem d_State_fits_75 : decode b_State_fits 75 = .ok (.iconst 0, 1) := by decide +kernel
theorem d_State_fits_76 : decode b_State_fits 76 = .ok (.ireturn, 1) := by decide +kernel
theorem d_State_fits_77 : decode b_State_fits 77 = .ok (.aload_n 0, 1) := by decide +kernel
theorem d_State_fits_78 : decode b_State_fits 78 = .ok (.getfield 9, 3) := by decide +kernel
theorem d_State_fits_81 : decode b_State_fits 81 = .ok (.ifCond .eq 33, 3) := by decide +kernel
theorem d_State_fits_84 : decode b_State_fits 84 = .ok (.aload_n 0, 1) := by decide +kernel
theorem d_State_fits_85 : decode b_State_fits 85 = .ok (.getfield 15, 3) := by decide +kernel
theorem d_State_fits_88 : decode b_State_fits 88 = .ok (.ifCond .ne 26, 3) := by decide +kernel
theorem d_State_fits_91 : decode b_State_fits 91 = .ok (.iload_n 2, 1) := by decide +kernel
theorem d_State_fits_92 : decode b_State_fits 92 = .ok (.ifCond .lt 22, 3) := by decide +kernel
theorem d_State_fits_95 : decode b_State_fits 95 = .ok (.aload_n 0, 1) := by decide +kernel
theorem d_State_fits_96 : decode b_State_fits 96 = .ok (.getfield 22, 3) := by decide +kernel
theorem d_State_fits_99 : decode b_State_fits 99 = .ok (.aload_n 0, 1) := by decide +kernel
theorem d_State_fits_100 : decode b_State_fits 100 = .ok (.getfield 18, 3) := by decide +kernel
theorem d_State_fits_103 : decode b_State_fits 103 = .ok (.ladd, 1) := by decide +kernel
theorem d_State_fits_104 : decode b_State_fits 104 = .ok (.iload_n 2, 1) := by decide +kernel
theorem d_State_fits_105 : decode b_State_fits 105 = .ok (.i2l, 1) := by decide +kernel
theorem d_State_fits_106 : decode b_State_fits 106 = .ok (.lcmp, 1) := by decide +kernel
theorem d_State_fits_107 : decode b_State_fits 107 = .ok (.ifCond .lt 7, 3) := by decide +kernel
theorem d_State_fits_110 : decode b_State_fits 110 = .ok (.iconst 1, 1) := by decide +kernel
theorem d_State_fits_111 : decode b_State_fits 111 = .ok (.goto 4, 3) := by decide +kernel
theorem d_State_fits_114 : decode b_State_fits 114 = .ok (.iconst 0, 1) := by decide +kernel
theorem d_State_fits_115 : decode b_State_fits 115 = .ok (.ireturn, 1) := by decide +kernel
theorem d_State_fits_116 : decode b_State_fits 116 = .ok (.aload_n 0, 1) := by decide +kernel
theorem d_State_fits_117 : decode b_State_fits 117 = .ok (.getfield 9, 3) := by decide +kernel
theorem d_State_fits_120 : decode b_State_fits 120 = .ok (.ifCond .eq 14, 3) := by decide +kernel
theorem d_State_fits_123 : decode b_State_fits 123 = .ok (.aload_n 0, 1) := by decide +kernel
theorem d_State_fits_124 : decode b_State_fits 124 = .ok (.getfield 15, 3) := by decide +kernel
theorem d_State_fits_127 : decode b_State_fits 127 = .ok (.ifCond .ne 7, 3) := by decide +kernel
theorem d_State_fits_130 : decode b_State_fits 130 = .ok (.iconst 1, 1) := by decide +kernel
theorem d_State_fits_131 : decode b_State_fits 131 = .ok (.goto 4, 3) := by decide +kernel
theorem d_State_fits_134 : decode b_State_fits 134 = .ok (.iconst 0, 1) := by decide +kernel
theorem d_State_fits_135 : decode b_State_fits 135 = .ok (.ireturn, 1) := by decide +kernel
theorem d_State_fits_136 : decode b_State_fits 136 = .ok (.aload_n 0, 1) := by decide +kernel
theorem d_State_fits_137 : decode b_State_fits 137 = .ok (.getfield 15, 3) := by decide +kernel
theorem d_State_fits_140 : decode b_State_fits 140 = .ok (.ireturn, 1) := by decide +kernel
theorem d_State_fits_141 : decode b_State_fits 141 = .ok (.aload_n 0, 1) := by decide +kernel
theorem d_State_fits_142 : decode b_State_fits 142 = .ok (.getfield 9, 3) := by decide +kernel
theorem d_State_fits_145 : decode b_State_fits 145 = .ok (.ifCond .eq 23, 3) := by decide +kernel
theorem d_State_fits_148 : decode b_State_fits 148 = .ok (.aload_n 0, 1) := by decide +kernel
theorem d_State_fits_149 : decode b_State_fits 149 = .ok (.getfield 15, 3) := by decide +kernel
theorem d_State_fits_152 : decode b_State_fits 152 = .ok (.ifCond .ne 16, 3) := by decide +kernel
theorem d_State_fits_155 : decode b_State_fits 155 = .ok (.aload_n 0, 1) := by decide +kernel
theorem d_State_fits_156 : decode b_State_fits 156 = .ok (.getfield 22, 3) := by decide +kernel
theorem d_State_fits_159 : decode b_State_fits 159 = .ok (.lconst 0, 1) := by decide +kernel
theorem d_State_fits_160 : decode b_State_fits 160 = .ok (.lcmp, 1) := by decide +kernel
theorem d_State_fits_161 : decode b_State_fits 161 = .ok (.ifCond .ne 7, 3) := by decide +kernel
theorem d_State_fits_164 : decode b_State_fits 164 = .ok (.iconst 1, 1) := by decide +kernel
theorem d_State_fits_165 : decode b_State_fits 165 = .ok (.goto 4, 3) := by decide +kernel
theorem d_State_fits_168 : decode b_State_fits 168 = .ok (.iconst 0, 1) := by decide +kernel
theorem d_State_fits_169 : decode b_State_fits 169 = .ok (.ireturn, 1) := by decide +kernel
theorem d_State_fits_170 : decode b_State_fits 170 = .ok (.iconst 0, 1) := by decide +kernel
theorem d_State_fits_171 : decode b_State_fits 171 = .ok (.ireturn, 1) := by decide +kernel
theorem d_State_fold_0 : decode b_State_fold 0 = .ok (.iconst 0, 1) := by decide +kernel
theorem d_State_fold_1 : decode b_State_fold 1 = .ok (.istore_n 2, 1) := by decide +kernel
theorem d_State_fold_2 : decode b_State_fold 2 = .ok (.iload_n 2, 1) := by decide +kernel
theorem d_State_fold_3 : decode b_State_fold 3 = .ok (.aload_n 1, 1) := by decide +kernel
theorem d_State_fold_4 : decode b_State_fold 4 = .ok (.getfield 37, 3) := by decide +kernel
theorem d_State_fold_7 : decode b_State_fold 7 = .ok (.if_icmp .ge 79, 3) := by decide +kernel
theorem d_State_fold_10 : decode b_State_fold 10 = .ok (.aload_n 0, 1) := by decide +kernel
theorem d_State_fold_11 : decode b_State_fold 11 = .ok (.aload_n 1, 1) := by decide +kernel
theorem d_State_fold_12 : decode b_State_fold 12 = .ok (.getfield 43, 3) := by decide +kernel
theorem d_State_fold_15 : decode b_State_fold 15 = .ok (.iload_n 2, 1) := by decide +kernel
theorem d_State_fold_16 : decode b_State_fold 16 = .ok (.iaload, 1) := by decide +kernel
theorem d_State_fold_17 : decode b_State_fold 17 = .ok (.aload_n 1, 1) := by decide +kernel
theorem d_State_fold_18 : decode b_State_fold 18 = .ok (.getfield 47, 3) := by decide +kernel
theorem d_State_fold_21 : decode b_State_fold 21 = .ok (.iload_n 2, 1) := by decide +kernel
theorem d_State_fold_22 : decode b_State_fold 22 = .ok (.iaload, 1) := by decide +kernel
theorem d_State_fold_23 : decode b_State_fold 23 = .ok (.invokevirtual 50, 3) := by decide +kernel
theorem d_State_fold_26 : decode b_State_fold 26 = .ok (.ifCond .eq 44, 3) := by decide +kernel
theorem d_State_fold_29 : decode b_State_fold 29 = .ok (.aload_n 0, 1) := by decide +kernel
theorem d_State_fold_30 : decode b_State_fold 30 = .ok (.aload_n 1, 1) := by decide +kernel
theorem d_State_fold_31 : decode b_State_fold 31 = .ok (.getfield 43, 3) := by decide +kernel
theorem d_State_fold_34 : decode b_State_fold 34 = .ok (.iload_n 2, 1) := by decide +kernel
theorem d_State_fold_35 : decode b_State_fold 35 = .ok (.iaload, 1) := by decide +kernel
theorem d_State_fold_36 : decode b_State_fold 36 = .ok (.aload_n 1, 1) := by decide +kernel
theorem d_State_fold_37 : decode b_State_fold 37 = .ok (.getfield 47, 3) := by decide +kernel
theorem d_State_fold_40 : decode b_State_fold 40 = .ok (.iload_n 2, 1) := by decide +kernel
theorem d_State_fold_41 : decode b_State_fold 41 = .ok (.iaload, 1) := by decide +kernel
theorem d_State_fold_42 : decode b_State_fold 42 = .ok (.invokevirtual 54, 3) := by decide +kernel
theorem d_State_fold_45 : decode b_State_fold 45 = .ok (.aload_n 0, 1) := by decide +kernel
theorem d_State_fold_46 : decode b_State_fold 46 = .ok (.aload_n 1, 1) := by decide +kernel
theorem d_State_fold_47 : decode b_State_fold 47 = .ok (.getfield 43, 3) := by decide +kernel
theorem d_State_fold_50 : decode b_State_fold 50 = .ok (.iload_n 2, 1) := by decide +kernel
theorem d_State_fold_51 : decode b_State_fold 51 = .ok (.iaload, 1) := by decide +kernel
theorem d_State_fold_52 : decode b_State_fold 52 = .ok (.aload_n 1, 1) := by decide +kernel
theorem d_State_fold_53 : decode b_State_fold 53 = .ok (.getfield 47, 3) := by decide +kernel
theorem d_State_fold_56 : decode b_State_fold 56 = .ok (.iload_n 2, 1) := by decide +kernel
theorem d_State_fold_57 : decode b_State_fold 57 = .ok (.iaload, 1) := by decide +kernel
theorem d_State_fold_58 : decode b_State_fold 58 = .ok (.aload_n 1, 1) := by decide +kernel
theorem d_State_fold_59 : decode b_State_fold 59 = .ok (.getfield 58, 3) := by decide +kernel
theorem d_State_fold_62 : decode b_State_fold 62 = .ok (.iload_n 2, 1) := by decide +kernel
theorem d_State_fold_63 : decode b_State_fold 63 = .ok (.iaload, 1) := by decide +kernel
theorem d_State_fold_64 : decode b_State_fold 64 = .ok (.invokevirtual 61, 3) := by decide +kernel
theorem d_State_fold_67 : decode b_State_fold 67 = .ok (.goto 13, 3) := by decide +kernel
theorem d_State_fold_70 : decode b_State_fold 70 = .ok (.aload_n 0, 1) := by decide +kernel
theorem d_State_fold_71 : decode b_State_fold 71 = .ok (.dup, 1) := by decide +kernel
theorem d_State_fold_72 : decode b_State_fold 72 = .ok (.getfield 31, 3) := by decide +kernel
theorem d_State_fold_75 : decode b_State_fold 75 = .ok (.lconst 1, 1) := by decide +kernel
theorem d_State_fold_76 : decode b_State_fold 76 = .ok (.ladd, 1) := by decide +kernel
theorem d_State_fold_77 : decode b_State_fold 77 = .ok (.putfield 31, 3) := by decide +kernel
theorem d_State_fold_80 : decode b_State_fold 80 = .ok (.iinc 2 1, 3) := by decide +kernel
theorem d_State_fold_83 : decode b_State_fold 83 = .ok (.goto (-81), 3) := by decide +kernel
theorem d_State_fold_86 : decode b_State_fold 86 = .ok (.return_, 1) := by decide +kernel
theorem d_State_partOf_0 : decode b_State_partOf 0 = .ok (.iload_n 1, 1) := by decide +kernel
theorem d_State_partOf_1 : decode b_State_partOf 1 = .ok (.tableswitch 103 0 7 #[47, 60, 73, 78, 83, 88, 93, 98], 47) := by decide +kernel
theorem d_State_partOf_48 : decode b_State_partOf 48 = .ok (.aload_n 0, 1) := by decide +kernel
theorem d_State_partOf_49 : decode b_State_partOf 49 = .ok (.getfield 9, 3) := by decide +kernel
theorem d_State_partOf_52 : decode b_State_partOf 52 = .ok (.ifCond .eq 7, 3) := by decide +kernel
theorem d_State_partOf_55 : decode b_State_partOf 55 = .ok (.lconst 1, 1) := by decide +kernel
theorem d_State_partOf_56 : decode b_State_partOf 56 = .ok (.goto 4, 3) := by decide +kernel
theorem d_State_partOf_59 : decode b_State_partOf 59 = .ok (.lconst 0, 1) := by decide +kernel
theorem d_State_partOf_60 : decode b_State_partOf 60 = .ok (.lreturn, 1) := by decide +kernel
theorem d_State_partOf_61 : decode b_State_partOf 61 = .ok (.aload_n 0, 1) := by decide +kernel
theorem d_State_partOf_62 : decode b_State_partOf 62 = .ok (.getfield 15, 3) := by decide +kernel
theorem d_State_partOf_65 : decode b_State_partOf 65 = .ok (.ifCond .eq 7, 3) := by decide +kernel
theorem d_State_partOf_68 : decode b_State_partOf 68 = .ok (.lconst 1, 1) := by decide +kernel
theorem d_State_partOf_69 : decode b_State_partOf 69 = .ok (.goto 4, 3) := by decide +kernel
theorem d_State_partOf_72 : decode b_State_partOf 72 = .ok (.lconst 0, 1) := by decide +kernel
theorem d_State_partOf_73 : decode b_State_partOf 73 = .ok (.lreturn, 1) := by decide +kernel
theorem d_State_partOf_74 : decode b_State_partOf 74 = .ok (.aload_n 0, 1) := by decide +kernel
theorem d_State_partOf_75 : decode b_State_partOf 75 = .ok (.getfield 18, 3) := by decide +kernel
theorem d_State_partOf_78 : decode b_State_partOf 78 = .ok (.lreturn, 1) := by decide +kernel
theorem d_State_partOf_79 : decode b_State_partOf 79 = .ok (.aload_n 0, 1) := by decide +kernel
theorem d_State_partOf_80 : decode b_State_partOf 80 = .ok (.getfield 22, 3) := by decide +kernel
theorem d_State_partOf_83 : decode b_State_partOf 83 = .ok (.lreturn, 1) := by decide +kernel
theorem d_State_partOf_84 : decode b_State_partOf 84 = .ok (.aload_n 0, 1) := by decide +kernel
theorem d_State_partOf_85 : decode b_State_partOf 85 = .ok (.getfield 25, 3) := by decide +kernel
theorem d_State_partOf_88 : decode b_State_partOf 88 = .ok (.lreturn, 1) := by decide +kernel
theorem d_State_partOf_89 : decode b_State_partOf 89 = .ok (.aload_n 0, 1) := by decide +kernel
theorem d_State_partOf_90 : decode b_State_partOf 90 = .ok (.getfield 28, 3) := by decide +kernel
theorem d_State_partOf_93 : decode b_State_partOf 93 = .ok (.lreturn, 1) := by decide +kernel
theorem d_State_partOf_94 : decode b_State_partOf 94 = .ok (.aload_n 0, 1) := by decide +kernel
theorem d_State_partOf_95 : decode b_State_partOf 95 = .ok (.getfield 31, 3) := by decide +kernel
theorem d_State_partOf_98 : decode b_State_partOf 98 = .ok (.lreturn, 1) := by decide +kernel
theorem d_State_partOf_99 : decode b_State_partOf 99 = .ok (.aload_n 0, 1) := by decide +kernel
theorem d_State_partOf_100 : decode b_State_partOf 100 = .ok (.getfield 34, 3) := by decide +kernel
theorem d_State_partOf_103 : decode b_State_partOf 103 = .ok (.lreturn, 1) := by decide +kernel
theorem d_State_partOf_104 : decode b_State_partOf 104 = .ok (.ldc2_w 75, 3) := by decide +kernel
theorem d_State_partOf_107 : decode b_State_partOf 107 = .ok (.lreturn, 1) := by decide +kernel

theorem dX9_init_0 : decode cX9_init 0 = .ok (.aload_n 0, 1) := by decide +kernel
theorem dX9_init_1 : decode cX9_init 1 = .ok (.invokespecial 1, 3) := by decide +kernel
theorem dX9_init_4 : decode cX9_init 4 = .ok (.aload_n 0, 1) := by decide +kernel
theorem dX9_init_5 : decode cX9_init 5 = .ok (.new 7, 3) := by decide +kernel
theorem dX9_init_8 : decode cX9_init 8 = .ok (.dup, 1) := by decide +kernel
theorem dX9_init_9 : decode cX9_init 9 = .ok (.invokespecial 9, 3) := by decide +kernel
theorem dX9_init_12 : decode cX9_init 12 = .ok (.putfield 10, 3) := by decide +kernel
theorem dX9_init_15 : decode cX9_init 15 = .ok (.aload_n 0, 1) := by decide +kernel
theorem dX9_init_16 : decode cX9_init 16 = .ok (.new 16, 3) := by decide +kernel
theorem dX9_init_19 : decode cX9_init 19 = .ok (.dup, 1) := by decide +kernel
theorem dX9_init_20 : decode cX9_init 20 = .ok (.invokespecial 18, 3) := by decide +kernel
theorem dX9_init_23 : decode cX9_init 23 = .ok (.putfield 19, 3) := by decide +kernel
theorem dX9_init_26 : decode cX9_init 26 = .ok (.aload_n 0, 1) := by decide +kernel
theorem dX9_init_27 : decode cX9_init 27 = .ok (.new 23, 3) := by decide +kernel
theorem dX9_init_30 : decode cX9_init 30 = .ok (.dup, 1) := by decide +kernel
theorem dX9_init_31 : decode cX9_init 31 = .ok (.aload_n 0, 1) := by decide +kernel
theorem dX9_init_32 : decode cX9_init 32 = .ok (.getfield 10, 3) := by decide +kernel
theorem dX9_init_35 : decode cX9_init 35 = .ok (.aload_n 0, 1) := by decide +kernel
theorem dX9_init_36 : decode cX9_init 36 = .ok (.getfield 19, 3) := by decide +kernel
theorem dX9_init_39 : decode cX9_init 39 = .ok (.invokespecial 25, 3) := by decide +kernel
theorem dX9_init_42 : decode cX9_init 42 = .ok (.putfield 28, 3) := by decide +kernel
theorem dX9_init_45 : decode cX9_init 45 = .ok (.aload_n 0, 1) := by decide +kernel
theorem dX9_init_46 : decode cX9_init 46 = .ok (.new 16, 3) := by decide +kernel
theorem dX9_init_49 : decode cX9_init 49 = .ok (.dup, 1) := by decide +kernel
theorem dX9_init_50 : decode cX9_init 50 = .ok (.invokespecial 18, 3) := by decide +kernel
theorem dX9_init_53 : decode cX9_init 53 = .ok (.putfield 32, 3) := by decide +kernel
theorem dX9_init_56 : decode cX9_init 56 = .ok (.aload_n 0, 1) := by decide +kernel
theorem dX9_init_57 : decode cX9_init 57 = .ok (.new 35, 3) := by decide +kernel
theorem dX9_init_60 : decode cX9_init 60 = .ok (.dup, 1) := by decide +kernel
theorem dX9_init_61 : decode cX9_init 61 = .ok (.invokespecial 37, 3) := by decide +kernel
theorem dX9_init_64 : decode cX9_init 64 = .ok (.putfield 38, 3) := by decide +kernel
theorem dX9_init_67 : decode cX9_init 67 = .ok (.aload_n 0, 1) := by decide +kernel
theorem dX9_init_68 : decode cX9_init 68 = .ok (.new 35, 3) := by decide +kernel
theorem dX9_init_71 : decode cX9_init 71 = .ok (.dup, 1) := by decide +kernel
theorem dX9_init_72 : decode cX9_init 72 = .ok (.invokespecial 37, 3) := by decide +kernel
theorem dX9_init_75 : decode cX9_init 75 = .ok (.putfield 42, 3) := by decide +kernel
theorem dX9_init_78 : decode cX9_init 78 = .ok (.aload_n 0, 1) := by decide +kernel
theorem dX9_init_79 : decode cX9_init 79 = .ok (.new 45, 3) := by decide +kernel
theorem dX9_init_82 : decode cX9_init 82 = .ok (.dup, 1) := by decide +kernel
theorem dX9_init_83 : decode cX9_init 83 = .ok (.aload_n 0, 1) := by decide +kernel
theorem dX9_init_84 : decode cX9_init 84 = .ok (.getfield 32, 3) := by decide +kernel
theorem dX9_init_87 : decode cX9_init 87 = .ok (.invokespecial 47, 3) := by decide +kernel
theorem dX9_init_90 : decode cX9_init 90 = .ok (.putfield 50, 3) := by decide +kernel
theorem dX9_init_93 : decode cX9_init 93 = .ok (.aload_n 0, 1) := by decide +kernel
theorem dX9_init_94 : decode cX9_init 94 = .ok (.new 54, 3) := by decide +kernel
theorem dX9_init_97 : decode cX9_init 97 = .ok (.dup, 1) := by decide +kernel
theorem dX9_init_98 : decode cX9_init 98 = .ok (.aload_n 0, 1) := by decide +kernel
theorem dX9_init_99 : decode cX9_init 99 = .ok (.getfield 32, 3) := by decide +kernel
theorem dX9_init_102 : decode cX9_init 102 = .ok (.aload_n 0, 1) := by decide +kernel
theorem dX9_init_103 : decode cX9_init 103 = .ok (.getfield 50, 3) := by decide +kernel
theorem dX9_init_106 : decode cX9_init 106 = .ok (.invokespecial 56, 3) := by decide +kernel
theorem dX9_init_109 : decode cX9_init 109 = .ok (.putfield 59, 3) := by decide +kernel
theorem dX9_init_112 : decode cX9_init 112 = .ok (.aload_n 0, 1) := by decide +kernel
theorem dX9_init_113 : decode cX9_init 113 = .ok (.new 63, 3) := by decide +kernel
theorem dX9_init_116 : decode cX9_init 116 = .ok (.dup, 1) := by decide +kernel
theorem dX9_init_117 : decode cX9_init 117 = .ok (.invokespecial 65, 3) := by decide +kernel
theorem dX9_init_120 : decode cX9_init 120 = .ok (.putfield 66, 3) := by decide +kernel
theorem dX9_init_123 : decode cX9_init 123 = .ok (.aload_n 0, 1) := by decide +kernel
theorem dX9_init_124 : decode cX9_init 124 = .ok (.new 70, 3) := by decide +kernel
theorem dX9_init_127 : decode cX9_init 127 = .ok (.dup, 1) := by decide +kernel
theorem dX9_init_128 : decode cX9_init 128 = .ok (.invokespecial 72, 3) := by decide +kernel
theorem dX9_init_131 : decode cX9_init 131 = .ok (.putfield 73, 3) := by decide +kernel
theorem dX9_init_134 : decode cX9_init 134 = .ok (.aload_n 0, 1) := by decide +kernel
theorem dX9_init_135 : decode cX9_init 135 = .ok (.new 77, 3) := by decide +kernel
theorem dX9_init_138 : decode cX9_init 138 = .ok (.dup, 1) := by decide +kernel
theorem dX9_init_139 : decode cX9_init 139 = .ok (.invokespecial 79, 3) := by decide +kernel
theorem dX9_init_142 : decode cX9_init 142 = .ok (.putfield 80, 3) := by decide +kernel
theorem dX9_init_145 : decode cX9_init 145 = .ok (.iconst 0, 1) := by decide +kernel
theorem dX9_init_146 : decode cX9_init 146 = .ok (.istore_n 1, 1) := by decide +kernel
theorem dX9_init_147 : decode cX9_init 147 = .ok (.iload_n 1, 1) := by decide +kernel
theorem dX9_init_148 : decode cX9_init 148 = .ok (.ldc 84, 2) := by decide +kernel
theorem dX9_init_150 : decode cX9_init 150 = .ok (.invokevirtual 86, 3) := by decide +kernel
theorem dX9_init_153 : decode cX9_init 153 = .ok (.if_icmp .ge 23, 3) := by decide +kernel
theorem dX9_init_156 : decode cX9_init 156 = .ok (.aload_n 0, 1) := by decide +kernel
theorem dX9_init_157 : decode cX9_init 157 = .ok (.getfield 10, 3) := by decide +kernel
theorem dX9_init_160 : decode cX9_init 160 = .ok (.ldc 84, 2) := by decide +kernel
theorem dX9_init_162 : decode cX9_init 162 = .ok (.iload_n 1, 1) := by decide +kernel
theorem dX9_init_163 : decode cX9_init 163 = .ok (.invokevirtual 92, 3) := by decide +kernel
theorem dX9_init_166 : decode cX9_init 166 = .ok (.invokevirtual 96, 3) := by decide +kernel
theorem dX9_init_169 : decode cX9_init 169 = .ok (.pop, 1) := by decide +kernel
theorem dX9_init_170 : decode cX9_init 170 = .ok (.iinc 1 1, 3) := by decide +kernel
theorem dX9_init_173 : decode cX9_init 173 = .ok (.goto (-26), 3) := by decide +kernel
theorem dX9_init_176 : decode cX9_init 176 = .ok (.aload_n 0, 1) := by decide +kernel
theorem dX9_init_177 : decode cX9_init 177 = .ok (.invokevirtual 100, 3) := by decide +kernel
theorem dX9_init_180 : decode cX9_init 180 = .ok (.pop, 1) := by decide +kernel
theorem dX9_init_181 : decode cX9_init 181 = .ok (.aload_n 0, 1) := by decide +kernel
theorem dX9_init_182 : decode cX9_init 182 = .ok (.getfield 10, 3) := by decide +kernel
theorem dX9_init_185 : decode cX9_init 185 = .ok (.invokevirtual 104, 3) := by decide +kernel
theorem dX9_init_188 : decode cX9_init 188 = .ok (.pop, 1) := by decide +kernel
theorem dX9_init_189 : decode cX9_init 189 = .ok (.return_, 1) := by decide +kernel
theorem dX9_write_0 : decode cX9_write 0 = .ok (.iload_n 1, 1) := by decide +kernel
theorem dX9_write_1 : decode cX9_write 1 = .ok (.bipush 32, 2) := by decide +kernel
theorem dX9_write_3 : decode cX9_write 3 = .ok (.bipush 126, 2) := by decide +kernel
theorem dX9_write_5 : decode cX9_write 5 = .ok (.invokestatic 107, 3) := by decide +kernel
theorem dX9_write_8 : decode cX9_write 8 = .ok (.ifCond .ne 5, 3) := by decide +kernel
theorem dX9_write_11 : decode cX9_write 11 = .ok (.iconst (-1), 1) := by decide +kernel
theorem dX9_write_12 : decode cX9_write 12 = .ok (.ireturn, 1) := by decide +kernel
theorem dX9_write_13 : decode cX9_write 13 = .ok (.aload_n 0, 1) := by decide +kernel
theorem dX9_write_14 : decode cX9_write 14 = .ok (.getfield 10, 3) := by decide +kernel
theorem dX9_write_17 : decode cX9_write 17 = .ok (.iload_n 1, 1) := by decide +kernel
theorem dX9_write_18 : decode cX9_write 18 = .ok (.invokevirtual 96, 3) := by decide +kernel
theorem dX9_write_21 : decode cX9_write 21 = .ok (.ifCond .eq 13, 3) := by decide +kernel
theorem dX9_write_24 : decode cX9_write 24 = .ok (.aload_n 0, 1) := by decide +kernel
theorem dX9_write_25 : decode cX9_write 25 = .ok (.getfield 10, 3) := by decide +kernel
theorem dX9_write_28 : decode cX9_write 28 = .ok (.getfield 111, 3) := by decide +kernel
theorem dX9_write_31 : decode cX9_write 31 = .ok (.goto 5, 3) := by decide +kernel
theorem dX9_write_34 : decode cX9_write 34 = .ok (.bipush (-3), 2) := by decide +kernel
theorem dX9_write_36 : decode cX9_write 36 = .ok (.ireturn, 1) := by decide +kernel
theorem dX9_wipe_0 : decode cX9_wipe 0 = .ok (.aload_n 0, 1) := by decide +kernel
theorem dX9_wipe_1 : decode cX9_wipe 1 = .ok (.getfield 10, 3) := by decide +kernel
theorem dX9_wipe_4 : decode cX9_wipe 4 = .ok (.invokevirtual 104, 3) := by decide +kernel
theorem dX9_wipe_7 : decode cX9_wipe 7 = .ok (.ireturn, 1) := by decide +kernel
theorem dX9_fault_0 : decode cX9_fault 0 = .ok (.aload_n 0, 1) := by decide +kernel
theorem dX9_fault_1 : decode cX9_fault 1 = .ok (.getfield 28, 3) := by decide +kernel
theorem dX9_fault_4 : decode cX9_fault 4 = .ok (.invokevirtual 114, 3) := by decide +kernel
theorem dX9_fault_7 : decode cX9_fault 7 = .ok (.ireturn, 1) := by decide +kernel
theorem dX9_lay_0 : decode cX9_lay 0 = .ok (.aload_n 0, 1) := by decide +kernel
theorem dX9_lay_1 : decode cX9_lay 1 = .ok (.invokevirtual 100, 3) := by decide +kernel
theorem dX9_lay_4 : decode cX9_lay 4 = .ok (.ifCond .eq 13, 3) := by decide +kernel
theorem dX9_lay_7 : decode cX9_lay 7 = .ok (.aload_n 0, 1) := by decide +kernel
theorem dX9_lay_8 : decode cX9_lay 8 = .ok (.getfield 32, 3) := by decide +kernel
theorem dX9_lay_11 : decode cX9_lay 11 = .ok (.getfield 117, 3) := by decide +kernel
theorem dX9_lay_14 : decode cX9_lay 14 = .ok (.goto 5, 3) := by decide +kernel
theorem dX9_lay_17 : decode cX9_lay 17 = .ok (.bipush (-2), 2) := by decide +kernel
theorem dX9_lay_19 : decode cX9_lay 19 = .ok (.ireturn, 1) := by decide +kernel
theorem dX9_boat_0 : decode cX9_boat 0 = .ok (.aload_n 0, 1) := by decide +kernel
theorem dX9_boat_1 : decode cX9_boat 1 = .ok (.iload_n 1, 1) := by decide +kernel
theorem dX9_boat_2 : decode cX9_boat 2 = .ok (.invokevirtual 120, 3) := by decide +kernel
theorem dX9_boat_5 : decode cX9_boat 5 = .ok (.ifCond .ne 5, 3) := by decide +kernel
theorem dX9_boat_8 : decode cX9_boat 8 = .ok (.iconst (-1), 1) := by decide +kernel
theorem dX9_boat_9 : decode cX9_boat 9 = .ok (.ireturn, 1) := by decide +kernel
theorem dX9_boat_10 : decode cX9_boat 10 = .ok (.iload_n 2, 1) := by decide +kernel
theorem dX9_boat_11 : decode cX9_boat 11 = .ok (.tableswitch 97 0 5 #[37, 47, 57, 67, 77, 87], 37) := by decide +kernel
theorem dX9_boat_48 : decode cX9_boat 48 = .ok (.aload_n 0, 1) := by decide +kernel
theorem dX9_boat_49 : decode cX9_boat 49 = .ok (.getfield 32, 3) := by decide +kernel
theorem dX9_boat_52 : decode cX9_boat 52 = .ok (.getfield 123, 3) := by decide +kernel
theorem dX9_boat_55 : decode cX9_boat 55 = .ok (.iload_n 1, 1) := by decide +kernel
theorem dX9_boat_56 : decode cX9_boat 56 = .ok (.iaload, 1) := by decide +kernel
theorem dX9_boat_57 : decode cX9_boat 57 = .ok (.ireturn, 1) := by decide +kernel
theorem dX9_boat_58 : decode cX9_boat 58 = .ok (.aload_n 0, 1) := by decide +kernel
theorem dX9_boat_59 : decode cX9_boat 59 = .ok (.getfield 32, 3) := by decide +kernel
theorem dX9_boat_62 : decode cX9_boat 62 = .ok (.getfield 127, 3) := by decide +kernel
theorem dX9_boat_65 : decode cX9_boat 65 = .ok (.iload_n 1, 1) := by decide +kernel
theorem dX9_boat_66 : decode cX9_boat 66 = .ok (.iaload, 1) := by decide +kernel
theorem dX9_boat_67 : decode cX9_boat 67 = .ok (.ireturn, 1) := by decide +kernel
theorem dX9_boat_68 : decode cX9_boat 68 = .ok (.aload_n 0, 1) := by decide +kernel
theorem dX9_boat_69 : decode cX9_boat 69 = .ok (.getfield 32, 3) := by decide +kernel
theorem dX9_boat_72 : decode cX9_boat 72 = .ok (.getfield 130, 3) := by decide +kernel
theorem dX9_boat_75 : decode cX9_boat 75 = .ok (.iload_n 1, 1) := by decide +kernel
theorem dX9_boat_76 : decode cX9_boat 76 = .ok (.iaload, 1) := by decide +kernel
theorem dX9_boat_77 : decode cX9_boat 77 = .ok (.ireturn, 1) := by decide +kernel
theorem dX9_boat_78 : decode cX9_boat 78 = .ok (.aload_n 0, 1) := by decide +kernel
theorem dX9_boat_79 : decode cX9_boat 79 = .ok (.getfield 38, 3) := by decide +kernel
theorem dX9_boat_82 : decode cX9_boat 82 = .ok (.getfield 133, 3) := by decide +kernel
theorem dX9_boat_85 : decode cX9_boat 85 = .ok (.iload_n 1, 1) := by decide +kernel
theorem dX9_boat_86 : decode cX9_boat 86 = .ok (.iaload, 1) := by decide +kernel
theorem dX9_boat_87 : decode cX9_boat 87 = .ok (.ireturn, 1) := by decide +kernel
theorem dX9_boat_88 : decode cX9_boat 88 = .ok (.aload_n 0, 1) := by decide +kernel
theorem dX9_boat_89 : decode cX9_boat 89 = .ok (.getfield 32, 3) := by decide +kernel
theorem dX9_boat_92 : decode cX9_boat 92 = .ok (.getfield 136, 3) := by decide +kernel
theorem dX9_boat_95 : decode cX9_boat 95 = .ok (.iload_n 1, 1) := by decide +kernel
theorem dX9_boat_96 : decode cX9_boat 96 = .ok (.iaload, 1) := by decide +kernel
theorem dX9_boat_97 : decode cX9_boat 97 = .ok (.ireturn, 1) := by decide +kernel
theorem dX9_boat_98 : decode cX9_boat 98 = .ok (.aload_n 0, 1) := by decide +kernel
theorem dX9_boat_99 : decode cX9_boat 99 = .ok (.getfield 38, 3) := by decide +kernel
theorem dX9_boat_102 : decode cX9_boat 102 = .ok (.getfield 139, 3) := by decide +kernel
theorem dX9_boat_105 : decode cX9_boat 105 = .ok (.iload_n 1, 1) := by decide +kernel
theorem dX9_boat_106 : decode cX9_boat 106 = .ok (.iaload, 1) := by decide +kernel
theorem dX9_boat_107 : decode cX9_boat 107 = .ok (.ireturn, 1) := by decide +kernel
theorem dX9_boat_108 : decode cX9_boat 108 = .ok (.iconst (-1), 1) := by decide +kernel
theorem dX9_boat_109 : decode cX9_boat 109 = .ok (.ireturn, 1) := by decide +kernel
theorem dX9_where_0 : decode cX9_where 0 = .ok (.iload_n 1, 1) := by decide +kernel
theorem dX9_where_1 : decode cX9_where 1 = .ok (.invokestatic 142, 3) := by decide +kernel
theorem dX9_where_4 : decode cX9_where 4 = .ok (.ifCond .eq 21, 3) := by decide +kernel
theorem dX9_where_7 : decode cX9_where 7 = .ok (.aload_n 0, 1) := by decide +kernel
theorem dX9_where_8 : decode cX9_where 8 = .ok (.iload_n 2, 1) := by decide +kernel
theorem dX9_where_9 : decode cX9_where 9 = .ok (.invokevirtual 120, 3) := by decide +kernel
theorem dX9_where_12 : decode cX9_where 12 = .ok (.ifCond .eq 13, 3) := by decide +kernel
theorem dX9_where_15 : decode cX9_where 15 = .ok (.iload_n 3, 1) := by decide +kernel
theorem dX9_where_16 : decode cX9_where 16 = .ok (.iconst 0, 1) := by decide +kernel
theorem dX9_where_17 : decode cX9_where 17 = .ok (.bipush 120, 2) := by decide +kernel
theorem dX9_where_19 : decode cX9_where 19 = .ok (.invokestatic 107, 3) := by decide +kernel
theorem dX9_where_22 : decode cX9_where 22 = .ok (.ifCond .ne 5, 3) := by decide +kernel
theorem dX9_where_25 : decode cX9_where 25 = .ok (.iconst (-1), 1) := by decide +kernel
theorem dX9_where_26 : decode cX9_where 26 = .ok (.ireturn, 1) := by decide +kernel
theorem dX9_where_27 : decode cX9_where 27 = .ok (.aload_n 0, 1) := by decide +kernel
theorem dX9_where_28 : decode cX9_where 28 = .ok (.getfield 59, 3) := by decide +kernel
theorem dX9_where_31 : decode cX9_where 31 = .ok (.aload_n 0, 1) := by decide +kernel
theorem dX9_where_32 : decode cX9_where 32 = .ok (.getfield 38, 3) := by decide +kernel
theorem dX9_where_35 : decode cX9_where 35 = .ok (.iload_n 1, 1) := by decide +kernel
theorem dX9_where_36 : decode cX9_where 36 = .ok (.iload_n 3, 1) := by decide +kernel
theorem dX9_where_37 : decode cX9_where 37 = .ok (.invokevirtual 145, 3) := by decide +kernel
theorem dX9_where_40 : decode cX9_where 40 = .ok (.pop, 1) := by decide +kernel
theorem dX9_where_41 : decode cX9_where 41 = .ok (.aload_n 0, 1) := by decide +kernel
theorem dX9_where_42 : decode cX9_where 42 = .ok (.getfield 59, 3) := by decide +kernel
theorem dX9_where_45 : decode cX9_where 45 = .ok (.getfield 149, 3) := by decide +kernel
theorem dX9_where_48 : decode cX9_where 48 = .ok (.iload_n 2, 1) := by decide +kernel
theorem dX9_where_49 : decode cX9_where 49 = .ok (.iaload, 1) := by decide +kernel
theorem dX9_where_50 : decode cX9_where 50 = .ok (.ireturn, 1) := by decide +kernel
theorem dX9_there_0 : decode cX9_there 0 = .ok (.iload_n 1, 1) := by decide +kernel
theorem dX9_there_1 : decode cX9_there 1 = .ok (.invokestatic 142, 3) := by decide +kernel
theorem dX9_there_4 : decode cX9_there 4 = .ok (.ifCond .eq 11, 3) := by decide +kernel
theorem dX9_there_7 : decode cX9_there 7 = .ok (.aload_n 0, 1) := by decide +kernel
theorem dX9_there_8 : decode cX9_there 8 = .ok (.iload_n 2, 1) := by decide +kernel
theorem dX9_there_9 : decode cX9_there 9 = .ok (.invokevirtual 120, 3) := by decide +kernel
theorem dX9_there_12 : decode cX9_there 12 = .ok (.ifCond .ne 5, 3) := by decide +kernel
theorem dX9_there_15 : decode cX9_there 15 = .ok (.iconst (-1), 1) := by decide +kernel
theorem dX9_there_16 : decode cX9_there 16 = .ok (.ireturn, 1) := by decide +kernel
theorem dX9_there_17 : decode cX9_there 17 = .ok (.aload_n 0, 1) := by decide +kernel
theorem dX9_there_18 : decode cX9_there 18 = .ok (.getfield 59, 3) := by decide +kernel
theorem dX9_there_21 : decode cX9_there 21 = .ok (.aload_n 0, 1) := by decide +kernel
theorem dX9_there_22 : decode cX9_there 22 = .ok (.getfield 38, 3) := by decide +kernel
theorem dX9_there_25 : decode cX9_there 25 = .ok (.iload_n 1, 1) := by decide +kernel
theorem dX9_there_26 : decode cX9_there 26 = .ok (.bipush 120, 2) := by decide +kernel
theorem dX9_there_28 : decode cX9_there 28 = .ok (.invokevirtual 145, 3) := by decide +kernel
theorem dX9_there_31 : decode cX9_there 31 = .ok (.pop, 1) := by decide +kernel
theorem dX9_there_32 : decode cX9_there 32 = .ok (.aload_n 0, 1) := by decide +kernel
theorem dX9_there_33 : decode cX9_there 33 = .ok (.getfield 59, 3) := by decide +kernel
theorem dX9_there_36 : decode cX9_there 36 = .ok (.getfield 152, 3) := by decide +kernel
theorem dX9_there_39 : decode cX9_there 39 = .ok (.iload_n 2, 1) := by decide +kernel
theorem dX9_there_40 : decode cX9_there 40 = .ok (.iaload, 1) := by decide +kernel
theorem dX9_there_41 : decode cX9_there 41 = .ok (.ireturn, 1) := by decide +kernel
theorem dX9_stands_0 : decode cX9_stands 0 = .ok (.iload_n 1, 1) := by decide +kernel
theorem dX9_stands_1 : decode cX9_stands 1 = .ok (.invokestatic 142, 3) := by decide +kernel
theorem dX9_stands_4 : decode cX9_stands 4 = .ok (.ifCond .eq 16, 3) := by decide +kernel
theorem dX9_stands_7 : decode cX9_stands 7 = .ok (.iload_n 2, 1) := by decide +kernel
theorem dX9_stands_8 : decode cX9_stands 8 = .ok (.iconst (-1), 1) := by decide +kernel
theorem dX9_stands_9 : decode cX9_stands 9 = .ok (.if_icmp .eq 13, 3) := by decide +kernel
theorem dX9_stands_12 : decode cX9_stands 12 = .ok (.aload_n 0, 1) := by decide +kernel
theorem dX9_stands_13 : decode cX9_stands 13 = .ok (.iload_n 2, 1) := by decide +kernel
theorem dX9_stands_14 : decode cX9_stands 14 = .ok (.invokevirtual 120, 3) := by decide +kernel
theorem dX9_stands_17 : decode cX9_stands 17 = .ok (.ifCond .ne 5, 3) := by decide +kernel
theorem dX9_stands_20 : decode cX9_stands 20 = .ok (.iconst (-1), 1) := by decide +kernel
theorem dX9_stands_21 : decode cX9_stands 21 = .ok (.ireturn, 1) := by decide +kernel
theorem dX9_stands_22 : decode cX9_stands 22 = .ok (.aload_n 0, 1) := by decide +kernel
theorem dX9_stands_23 : decode cX9_stands 23 = .ok (.getfield 59, 3) := by decide +kernel
theorem dX9_stands_26 : decode cX9_stands 26 = .ok (.aload_n 0, 1) := by decide +kernel
theorem dX9_stands_27 : decode cX9_stands 27 = .ok (.getfield 38, 3) := by decide +kernel
theorem dX9_stands_30 : decode cX9_stands 30 = .ok (.iload_n 1, 1) := by decide +kernel
theorem dX9_stands_31 : decode cX9_stands 31 = .ok (.bipush 120, 2) := by decide +kernel
theorem dX9_stands_33 : decode cX9_stands 33 = .ok (.invokevirtual 145, 3) := by decide +kernel
theorem dX9_stands_36 : decode cX9_stands 36 = .ok (.istore_n 3, 1) := by decide +kernel
theorem dX9_stands_37 : decode cX9_stands 37 = .ok (.iload_n 2, 1) := by decide +kernel
theorem dX9_stands_38 : decode cX9_stands 38 = .ok (.iconst (-1), 1) := by decide +kernel
theorem dX9_stands_39 : decode cX9_stands 39 = .ok (.if_icmp .ne 7, 3) := by decide +kernel
theorem dX9_stands_42 : decode cX9_stands 42 = .ok (.iload_n 3, 1) := by decide +kernel
theorem dX9_stands_43 : decode cX9_stands 43 = .ok (.goto 12, 3) := by decide +kernel
theorem dX9_stands_46 : decode cX9_stands 46 = .ok (.aload_n 0, 1) := by decide +kernel
theorem dX9_stands_47 : decode cX9_stands 47 = .ok (.getfield 59, 3) := by decide +kernel
theorem dX9_stands_50 : decode cX9_stands 50 = .ok (.getfield 155, 3) := by decide +kernel
theorem dX9_stands_53 : decode cX9_stands 53 = .ok (.iload_n 2, 1) := by decide +kernel
theorem dX9_stands_54 : decode cX9_stands 54 = .ok (.iaload, 1) := by decide +kernel
theorem dX9_stands_55 : decode cX9_stands 55 = .ok (.ireturn, 1) := by decide +kernel
theorem dX9_yields_0 : decode cX9_yields 0 = .ok (.iload_n 1, 1) := by decide +kernel
theorem dX9_yields_1 : decode cX9_yields 1 = .ok (.invokestatic 142, 3) := by decide +kernel
theorem dX9_yields_4 : decode cX9_yields 4 = .ok (.ifCond .eq 11, 3) := by decide +kernel
theorem dX9_yields_7 : decode cX9_yields 7 = .ok (.aload_n 0, 1) := by decide +kernel
theorem dX9_yields_8 : decode cX9_yields 8 = .ok (.iload_n 2, 1) := by decide +kernel
theorem dX9_yields_9 : decode cX9_yields 9 = .ok (.invokevirtual 120, 3) := by decide +kernel
theorem dX9_yields_12 : decode cX9_yields 12 = .ok (.ifCond .ne 5, 3) := by decide +kernel
theorem dX9_yields_15 : decode cX9_yields 15 = .ok (.iconst (-1), 1) := by decide +kernel
theorem dX9_yields_16 : decode cX9_yields 16 = .ok (.ireturn, 1) := by decide +kernel
theorem dX9_yields_17 : decode cX9_yields 17 = .ok (.aload_n 0, 1) := by decide +kernel
theorem dX9_yields_18 : decode cX9_yields 18 = .ok (.getfield 59, 3) := by decide +kernel
theorem dX9_yields_21 : decode cX9_yields 21 = .ok (.aload_n 0, 1) := by decide +kernel
theorem dX9_yields_22 : decode cX9_yields 22 = .ok (.getfield 38, 3) := by decide +kernel
theorem dX9_yields_25 : decode cX9_yields 25 = .ok (.iload_n 1, 1) := by decide +kernel
theorem dX9_yields_26 : decode cX9_yields 26 = .ok (.bipush 120, 2) := by decide +kernel
theorem dX9_yields_28 : decode cX9_yields 28 = .ok (.invokevirtual 145, 3) := by decide +kernel
theorem dX9_yields_31 : decode cX9_yields 31 = .ok (.pop, 1) := by decide +kernel
theorem dX9_yields_32 : decode cX9_yields 32 = .ok (.aload_n 0, 1) := by decide +kernel
theorem dX9_yields_33 : decode cX9_yields 33 = .ok (.getfield 59, 3) := by decide +kernel
theorem dX9_yields_36 : decode cX9_yields 36 = .ok (.getfield 158, 3) := by decide +kernel
theorem dX9_yields_39 : decode cX9_yields 39 = .ok (.iload_n 2, 1) := by decide +kernel
theorem dX9_yields_40 : decode cX9_yields 40 = .ok (.iaload, 1) := by decide +kernel
theorem dX9_yields_41 : decode cX9_yields 41 = .ok (.ireturn, 1) := by decide +kernel
theorem dX9_meetings_0 : decode cX9_meetings 0 = .ok (.iload_n 1, 1) := by decide +kernel
theorem dX9_meetings_1 : decode cX9_meetings 1 = .ok (.invokestatic 142, 3) := by decide +kernel
theorem dX9_meetings_4 : decode cX9_meetings 4 = .ok (.ifCond .ne 5, 3) := by decide +kernel
theorem dX9_meetings_7 : decode cX9_meetings 7 = .ok (.iconst (-1), 1) := by decide +kernel
theorem dX9_meetings_8 : decode cX9_meetings 8 = .ok (.ireturn, 1) := by decide +kernel
theorem dX9_meetings_9 : decode cX9_meetings 9 = .ok (.aload_n 0, 1) := by decide +kernel
theorem dX9_meetings_10 : decode cX9_meetings 10 = .ok (.getfield 59, 3) := by decide +kernel
theorem dX9_meetings_13 : decode cX9_meetings 13 = .ok (.aload_n 0, 1) := by decide +kernel
theorem dX9_meetings_14 : decode cX9_meetings 14 = .ok (.getfield 38, 3) := by decide +kernel
theorem dX9_meetings_17 : decode cX9_meetings 17 = .ok (.iload_n 1, 1) := by decide +kernel
theorem dX9_meetings_18 : decode cX9_meetings 18 = .ok (.bipush 120, 2) := by decide +kernel
theorem dX9_meetings_20 : decode cX9_meetings 20 = .ok (.invokevirtual 145, 3) := by decide +kernel
theorem dX9_meetings_23 : decode cX9_meetings 23 = .ok (.pop, 1) := by decide +kernel
theorem dX9_meetings_24 : decode cX9_meetings 24 = .ok (.aload_n 0, 1) := by decide +kernel
theorem dX9_meetings_25 : decode cX9_meetings 25 = .ok (.getfield 59, 3) := by decide +kernel
theorem dX9_meetings_28 : decode cX9_meetings 28 = .ok (.getfield 161, 3) := by decide +kernel
theorem dX9_meetings_31 : decode cX9_meetings 31 = .ok (.ireturn, 1) := by decide +kernel
theorem dX9_meeting_0 : decode cX9_meeting 0 = .ok (.iload_n 1, 1) := by decide +kernel
theorem dX9_meeting_1 : decode cX9_meeting 1 = .ok (.invokestatic 142, 3) := by decide +kernel
theorem dX9_meeting_4 : decode cX9_meeting 4 = .ok (.ifCond .ne 5, 3) := by decide +kernel
theorem dX9_meeting_7 : decode cX9_meeting 7 = .ok (.iconst (-1), 1) := by decide +kernel
theorem dX9_meeting_8 : decode cX9_meeting 8 = .ok (.ireturn, 1) := by decide +kernel
theorem dX9_meeting_9 : decode cX9_meeting 9 = .ok (.aload_n 0, 1) := by decide +kernel
theorem dX9_meeting_10 : decode cX9_meeting 10 = .ok (.getfield 59, 3) := by decide +kernel
theorem dX9_meeting_13 : decode cX9_meeting 13 = .ok (.aload_n 0, 1) := by decide +kernel
theorem dX9_meeting_14 : decode cX9_meeting 14 = .ok (.getfield 38, 3) := by decide +kernel
theorem dX9_meeting_17 : decode cX9_meeting 17 = .ok (.iload_n 1, 1) := by decide +kernel
theorem dX9_meeting_18 : decode cX9_meeting 18 = .ok (.bipush 120, 2) := by decide +kernel
theorem dX9_meeting_20 : decode cX9_meeting 20 = .ok (.invokevirtual 145, 3) := by decide +kernel
theorem dX9_meeting_23 : decode cX9_meeting 23 = .ok (.pop, 1) := by decide +kernel
theorem dX9_meeting_24 : decode cX9_meeting 24 = .ok (.iload_n 2, 1) := by decide +kernel
theorem dX9_meeting_25 : decode cX9_meeting 25 = .ok (.iconst 0, 1) := by decide +kernel
theorem dX9_meeting_26 : decode cX9_meeting 26 = .ok (.aload_n 0, 1) := by decide +kernel
theorem dX9_meeting_27 : decode cX9_meeting 27 = .ok (.getfield 59, 3) := by decide +kernel
theorem dX9_meeting_30 : decode cX9_meeting 30 = .ok (.getfield 161, 3) := by decide +kernel
theorem dX9_meeting_33 : decode cX9_meeting 33 = .ok (.iconst 1, 1) := by decide +kernel
theorem dX9_meeting_34 : decode cX9_meeting 34 = .ok (.isub, 1) := by decide +kernel
theorem dX9_meeting_35 : decode cX9_meeting 35 = .ok (.invokestatic 107, 3) := by decide +kernel
theorem dX9_meeting_38 : decode cX9_meeting 38 = .ok (.ifCond .ne 5, 3) := by decide +kernel
theorem dX9_meeting_41 : decode cX9_meeting 41 = .ok (.iconst (-1), 1) := by decide +kernel
theorem dX9_meeting_42 : decode cX9_meeting 42 = .ok (.ireturn, 1) := by decide +kernel
theorem dX9_meeting_43 : decode cX9_meeting 43 = .ok (.iload_n 3, 1) := by decide +kernel
theorem dX9_meeting_44 : decode cX9_meeting 44 = .ok (.tableswitch 72 0 3 #[32, 42, 52, 62], 32) := by decide +kernel
theorem dX9_meeting_76 : decode cX9_meeting 76 = .ok (.aload_n 0, 1) := by decide +kernel
theorem dX9_meeting_77 : decode cX9_meeting 77 = .ok (.getfield 59, 3) := by decide +kernel
theorem dX9_meeting_80 : decode cX9_meeting 80 = .ok (.getfield 164, 3) := by decide +kernel
theorem dX9_meeting_83 : decode cX9_meeting 83 = .ok (.iload_n 2, 1) := by decide +kernel
theorem dX9_meeting_84 : decode cX9_meeting 84 = .ok (.iaload, 1) := by decide +kernel
theorem dX9_meeting_85 : decode cX9_meeting 85 = .ok (.ireturn, 1) := by decide +kernel
theorem dX9_meeting_86 : decode cX9_meeting 86 = .ok (.aload_n 0, 1) := by decide +kernel
theorem dX9_meeting_87 : decode cX9_meeting 87 = .ok (.getfield 59, 3) := by decide +kernel
theorem dX9_meeting_90 : decode cX9_meeting 90 = .ok (.getfield 167, 3) := by decide +kernel
theorem dX9_meeting_93 : decode cX9_meeting 93 = .ok (.iload_n 2, 1) := by decide +kernel
theorem dX9_meeting_94 : decode cX9_meeting 94 = .ok (.iaload, 1) := by decide +kernel
theorem dX9_meeting_95 : decode cX9_meeting 95 = .ok (.ireturn, 1) := by decide +kernel
theorem dX9_meeting_96 : decode cX9_meeting 96 = .ok (.aload_n 0, 1) := by decide +kernel
theorem dX9_meeting_97 : decode cX9_meeting 97 = .ok (.getfield 59, 3) := by decide +kernel
theorem dX9_meeting_100 : decode cX9_meeting 100 = .ok (.getfield 170, 3) := by decide +kernel
theorem dX9_meeting_103 : decode cX9_meeting 103 = .ok (.iload_n 2, 1) := by decide +kernel
theorem dX9_meeting_104 : decode cX9_meeting 104 = .ok (.iaload, 1) := by decide +kernel
theorem dX9_meeting_105 : decode cX9_meeting 105 = .ok (.ireturn, 1) := by decide +kernel
theorem dX9_meeting_106 : decode cX9_meeting 106 = .ok (.aload_n 0, 1) := by decide +kernel
theorem dX9_meeting_107 : decode cX9_meeting 107 = .ok (.getfield 59, 3) := by decide +kernel
theorem dX9_meeting_110 : decode cX9_meeting 110 = .ok (.getfield 173, 3) := by decide +kernel
theorem dX9_meeting_113 : decode cX9_meeting 113 = .ok (.iload_n 2, 1) := by decide +kernel
theorem dX9_meeting_114 : decode cX9_meeting 114 = .ok (.iaload, 1) := by decide +kernel
theorem dX9_meeting_115 : decode cX9_meeting 115 = .ok (.ireturn, 1) := by decide +kernel
theorem dX9_meeting_116 : decode cX9_meeting 116 = .ok (.iconst (-1), 1) := by decide +kernel
theorem dX9_meeting_117 : decode cX9_meeting 117 = .ok (.ireturn, 1) := by decide +kernel
theorem dX9_load_0 : decode cX9_load 0 = .ok (.aload_n 0, 1) := by decide +kernel
theorem dX9_load_1 : decode cX9_load 1 = .ok (.iload_n 1, 1) := by decide +kernel
theorem dX9_load_2 : decode cX9_load 2 = .ok (.invokevirtual 120, 3) := by decide +kernel
theorem dX9_load_5 : decode cX9_load 5 = .ok (.ifCond .eq 13, 3) := by decide +kernel
theorem dX9_load_8 : decode cX9_load 8 = .ok (.iload_n 2, 1) := by decide +kernel
theorem dX9_load_9 : decode cX9_load 9 = .ok (.iconst 0, 1) := by decide +kernel
theorem dX9_load_10 : decode cX9_load 10 = .ok (.bipush 9, 2) := by decide +kernel
theorem dX9_load_12 : decode cX9_load 12 = .ok (.invokestatic 107, 3) := by decide +kernel
theorem dX9_load_15 : decode cX9_load 15 = .ok (.ifCond .ne 5, 3) := by decide +kernel
theorem dX9_load_18 : decode cX9_load 18 = .ok (.iconst (-1), 1) := by decide +kernel
theorem dX9_load_19 : decode cX9_load 19 = .ok (.ireturn, 1) := by decide +kernel
theorem dX9_load_20 : decode cX9_load 20 = .ok (.aload_n 0, 1) := by decide +kernel
theorem dX9_load_21 : decode cX9_load 21 = .ok (.getfield 38, 3) := by decide +kernel
theorem dX9_load_24 : decode cX9_load 24 = .ok (.getfield 133, 3) := by decide +kernel
theorem dX9_load_27 : decode cX9_load 27 = .ok (.iload_n 1, 1) := by decide +kernel
theorem dX9_load_28 : decode cX9_load 28 = .ok (.iaload, 1) := by decide +kernel
theorem dX9_load_29 : decode cX9_load 29 = .ok (.istore_n 3, 1) := by decide +kernel
theorem dX9_load_30 : decode cX9_load 30 = .ok (.aload_n 0, 1) := by decide +kernel
theorem dX9_load_31 : decode cX9_load 31 = .ok (.getfield 66, 3) := by decide +kernel
theorem dX9_load_34 : decode cX9_load 34 = .ok (.iload_n 1, 1) := by decide +kernel
theorem dX9_load_35 : decode cX9_load 35 = .ok (.iconst 1, 1) := by decide +kernel
theorem dX9_load_36 : decode cX9_load 36 = .ok (.iload_n 3, 1) := by decide +kernel
theorem dX9_load_37 : decode cX9_load 37 = .ok (.invokevirtual 176, 3) := by decide +kernel
theorem dX9_load_40 : decode cX9_load 40 = .ok (.aload_n 0, 1) := by decide +kernel
theorem dX9_load_41 : decode cX9_load 41 = .ok (.getfield 38, 3) := by decide +kernel
theorem dX9_load_44 : decode cX9_load 44 = .ok (.getfield 133, 3) := by decide +kernel
theorem dX9_load_47 : decode cX9_load 47 = .ok (.iload_n 1, 1) := by decide +kernel
theorem dX9_load_48 : decode cX9_load 48 = .ok (.iload_n 2, 1) := by decide +kernel
theorem dX9_load_49 : decode cX9_load 49 = .ok (.iastore, 1) := by decide +kernel
theorem dX9_load_50 : decode cX9_load 50 = .ok (.iload_n 3, 1) := by decide +kernel
theorem dX9_load_51 : decode cX9_load 51 = .ok (.ireturn, 1) := by decide +kernel
theorem dX9_later_0 : decode cX9_later 0 = .ok (.aload_n 0, 1) := by decide +kernel
theorem dX9_later_1 : decode cX9_later 1 = .ok (.iload_n 1, 1) := by decide +kernel
theorem dX9_later_2 : decode cX9_later 2 = .ok (.invokevirtual 120, 3) := by decide +kernel
theorem dX9_later_5 : decode cX9_later 5 = .ok (.ifCond .eq 13, 3) := by decide +kernel
theorem dX9_later_8 : decode cX9_later 8 = .ok (.iload_n 2, 1) := by decide +kernel
theorem dX9_later_9 : decode cX9_later 9 = .ok (.iconst 0, 1) := by decide +kernel
theorem dX9_later_10 : decode cX9_later 10 = .ok (.bipush 30, 2) := by decide +kernel
theorem dX9_later_12 : decode cX9_later 12 = .ok (.invokestatic 107, 3) := by decide +kernel
theorem dX9_later_15 : decode cX9_later 15 = .ok (.ifCond .ne 5, 3) := by decide +kernel
theorem dX9_later_18 : decode cX9_later 18 = .ok (.iconst (-1), 1) := by decide +kernel
theorem dX9_later_19 : decode cX9_later 19 = .ok (.ireturn, 1) := by decide +kernel
theorem dX9_later_20 : decode cX9_later 20 = .ok (.aload_n 0, 1) := by decide +kernel
theorem dX9_later_21 : decode cX9_later 21 = .ok (.getfield 38, 3) := by decide +kernel
theorem dX9_later_24 : decode cX9_later 24 = .ok (.getfield 139, 3) := by decide +kernel
theorem dX9_later_27 : decode cX9_later 27 = .ok (.iload_n 1, 1) := by decide +kernel
theorem dX9_later_28 : decode cX9_later 28 = .ok (.iaload, 1) := by decide +kernel
theorem dX9_later_29 : decode cX9_later 29 = .ok (.istore_n 3, 1) := by decide +kernel
theorem dX9_later_30 : decode cX9_later 30 = .ok (.aload_n 0, 1) := by decide +kernel
theorem dX9_later_31 : decode cX9_later 31 = .ok (.getfield 66, 3) := by decide +kernel
theorem dX9_later_34 : decode cX9_later 34 = .ok (.iload_n 1, 1) := by decide +kernel
theorem dX9_later_35 : decode cX9_later 35 = .ok (.iconst 0, 1) := by decide +kernel
theorem dX9_later_36 : decode cX9_later 36 = .ok (.iload_n 3, 1) := by decide +kernel
theorem dX9_later_37 : decode cX9_later 37 = .ok (.invokevirtual 176, 3) := by decide +kernel
theorem dX9_later_40 : decode cX9_later 40 = .ok (.aload_n 0, 1) := by decide +kernel
theorem dX9_later_41 : decode cX9_later 41 = .ok (.getfield 38, 3) := by decide +kernel
theorem dX9_later_44 : decode cX9_later 44 = .ok (.getfield 139, 3) := by decide +kernel
theorem dX9_later_47 : decode cX9_later 47 = .ok (.iload_n 1, 1) := by decide +kernel
theorem dX9_later_48 : decode cX9_later 48 = .ok (.iload_n 2, 1) := by decide +kernel
theorem dX9_later_49 : decode cX9_later 49 = .ok (.iastore, 1) := by decide +kernel
theorem dX9_later_50 : decode cX9_later 50 = .ok (.iload_n 3, 1) := by decide +kernel
theorem dX9_later_51 : decode cX9_later 51 = .ok (.ireturn, 1) := by decide +kernel
theorem dX9_undo_0 : decode cX9_undo 0 = .ok (.aload_n 0, 1) := by decide +kernel
theorem dX9_undo_1 : decode cX9_undo 1 = .ok (.getfield 66, 3) := by decide +kernel
theorem dX9_undo_4 : decode cX9_undo 4 = .ok (.aload_n 0, 1) := by decide +kernel
theorem dX9_undo_5 : decode cX9_undo 5 = .ok (.getfield 38, 3) := by decide +kernel
theorem dX9_undo_8 : decode cX9_undo 8 = .ok (.invokevirtual 180, 3) := by decide +kernel
theorem dX9_undo_11 : decode cX9_undo 11 = .ok (.ifCond .eq 13, 3) := by decide +kernel
theorem dX9_undo_14 : decode cX9_undo 14 = .ok (.aload_n 0, 1) := by decide +kernel
theorem dX9_undo_15 : decode cX9_undo 15 = .ok (.getfield 66, 3) := by decide +kernel
theorem dX9_undo_18 : decode cX9_undo 18 = .ok (.getfield 184, 3) := by decide +kernel
theorem dX9_undo_21 : decode cX9_undo 21 = .ok (.goto 5, 3) := by decide +kernel
theorem dX9_undo_24 : decode cX9_undo 24 = .ok (.bipush (-2), 2) := by decide +kernel
theorem dX9_undo_26 : decode cX9_undo 26 = .ok (.ireturn, 1) := by decide +kernel
theorem dX9_who_0 : decode cX9_who 0 = .ok (.iload_n 1, 1) := by decide +kernel
theorem dX9_who_1 : decode cX9_who 1 = .ok (.invokestatic 142, 3) := by decide +kernel
theorem dX9_who_4 : decode cX9_who 4 = .ok (.ifCond .eq 12, 3) := by decide +kernel
theorem dX9_who_7 : decode cX9_who 7 = .ok (.aload_n 0, 1) := by decide +kernel
theorem dX9_who_8 : decode cX9_who 8 = .ok (.iload_n 2, 1) := by decide +kernel
theorem dX9_who_9 : decode cX9_who 9 = .ok (.iload_n 3, 1) := by decide +kernel
theorem dX9_who_10 : decode cX9_who 10 = .ok (.invokevirtual 187, 3) := by decide +kernel
theorem dX9_who_13 : decode cX9_who 13 = .ok (.ifCond .ne 5, 3) := by decide +kernel
theorem dX9_who_16 : decode cX9_who 16 = .ok (.iconst (-1), 1) := by decide +kernel
theorem dX9_who_17 : decode cX9_who 17 = .ok (.ireturn, 1) := by decide +kernel
theorem dX9_who_18 : decode cX9_who 18 = .ok (.aload_n 0, 1) := by decide +kernel
theorem dX9_who_19 : decode cX9_who 19 = .ok (.getfield 32, 3) := by decide +kernel
theorem dX9_who_22 : decode cX9_who 22 = .ok (.getfield 127, 3) := by decide +kernel
theorem dX9_who_25 : decode cX9_who 25 = .ok (.iload_n 2, 1) := by decide +kernel
theorem dX9_who_26 : decode cX9_who 26 = .ok (.iaload, 1) := by decide +kernel
theorem dX9_who_27 : decode cX9_who 27 = .ok (.aload_n 0, 1) := by decide +kernel
theorem dX9_who_28 : decode cX9_who 28 = .ok (.getfield 32, 3) := by decide +kernel
theorem dX9_who_31 : decode cX9_who 31 = .ok (.getfield 127, 3) := by decide +kernel
theorem dX9_who_34 : decode cX9_who 34 = .ok (.iload_n 3, 1) := by decide +kernel
theorem dX9_who_35 : decode cX9_who 35 = .ok (.iaload, 1) := by decide +kernel
theorem dX9_who_36 : decode cX9_who 36 = .ok (.if_icmp .ne 6, 3) := by decide +kernel
theorem dX9_who_39 : decode cX9_who 39 = .ok (.bipush (-2), 2) := by decide +kernel
theorem dX9_who_41 : decode cX9_who 41 = .ok (.ireturn, 1) := by decide +kernel
theorem dX9_who_42 : decode cX9_who 42 = .ok (.aload_n 0, 1) := by decide +kernel
theorem dX9_who_43 : decode cX9_who 43 = .ok (.getfield 50, 3) := by decide +kernel
theorem dX9_who_46 : decode cX9_who 46 = .ok (.aload_n 0, 1) := by decide +kernel
theorem dX9_who_47 : decode cX9_who 47 = .ok (.getfield 38, 3) := by decide +kernel
theorem dX9_who_50 : decode cX9_who 50 = .ok (.iload_n 1, 1) := by decide +kernel
theorem dX9_who_51 : decode cX9_who 51 = .ok (.iload_n 2, 1) := by decide +kernel
theorem dX9_who_52 : decode cX9_who 52 = .ok (.iload_n 3, 1) := by decide +kernel
theorem dX9_who_53 : decode cX9_who 53 = .ok (.invokevirtual 191, 3) := by decide +kernel
theorem dX9_who_56 : decode cX9_who 56 = .ok (.ireturn, 1) := by decide +kernel
theorem dX9_best_0 : decode cX9_best 0 = .ok (.iload_n 1, 1) := by decide +kernel
theorem dX9_best_1 : decode cX9_best 1 = .ok (.iconst 0, 1) := by decide +kernel
theorem dX9_best_2 : decode cX9_best 2 = .ok (.iconst 1, 1) := by decide +kernel
theorem dX9_best_3 : decode cX9_best 3 = .ok (.invokestatic 107, 3) := by decide +kernel
theorem dX9_best_6 : decode cX9_best 6 = .ok (.ifCond .ne 5, 3) := by decide +kernel
theorem dX9_best_9 : decode cX9_best 9 = .ok (.iconst (-1), 1) := by decide +kernel
theorem dX9_best_10 : decode cX9_best 10 = .ok (.ireturn, 1) := by decide +kernel
theorem dX9_best_11 : decode cX9_best 11 = .ok (.aload_n 0, 1) := by decide +kernel
theorem dX9_best_12 : decode cX9_best 12 = .ok (.invokevirtual 195, 3) := by decide +kernel
theorem dX9_best_15 : decode cX9_best 15 = .ok (.istore_n 2, 1) := by decide +kernel
theorem dX9_best_16 : decode cX9_best 16 = .ok (.iload_n 1, 1) := by decide +kernel
theorem dX9_best_17 : decode cX9_best 17 = .ok (.ifCond .ne 7, 3) := by decide +kernel
theorem dX9_best_20 : decode cX9_best 20 = .ok (.iload_n 2, 1) := by decide +kernel
theorem dX9_best_21 : decode cX9_best 21 = .ok (.goto 17, 3) := by decide +kernel
theorem dX9_best_24 : decode cX9_best 24 = .ok (.aload_n 0, 1) := by decide +kernel
theorem dX9_best_25 : decode cX9_best 25 = .ok (.getfield 59, 3) := by decide +kernel
theorem dX9_best_28 : decode cX9_best 28 = .ok (.aload_n 0, 1) := by decide +kernel
theorem dX9_best_29 : decode cX9_best 29 = .ok (.getfield 38, 3) := by decide +kernel
theorem dX9_best_32 : decode cX9_best 32 = .ok (.iload_n 2, 1) := by decide +kernel
theorem dX9_best_33 : decode cX9_best 33 = .ok (.bipush 120, 2) := by decide +kernel
theorem dX9_best_35 : decode cX9_best 35 = .ok (.invokevirtual 145, 3) := by decide +kernel
theorem dX9_best_38 : decode cX9_best 38 = .ok (.ireturn, 1) := by decide +kernel
theorem dX9_custom_0 : decode cX9_custom 0 = .ok (.aload_n 0, 1) := by decide +kernel
theorem dX9_custom_1 : decode cX9_custom 1 = .ok (.getfield 59, 3) := by decide +kernel
theorem dX9_custom_4 : decode cX9_custom 4 = .ok (.aload_n 0, 1) := by decide +kernel
theorem dX9_custom_5 : decode cX9_custom 5 = .ok (.getfield 38, 3) := by decide +kernel
theorem dX9_custom_8 : decode cX9_custom 8 = .ok (.aload_n 0, 1) := by decide +kernel
theorem dX9_custom_9 : decode cX9_custom 9 = .ok (.invokevirtual 195, 3) := by decide +kernel
theorem dX9_custom_12 : decode cX9_custom 12 = .ok (.bipush 120, 2) := by decide +kernel
theorem dX9_custom_14 : decode cX9_custom 14 = .ok (.invokevirtual 145, 3) := by decide +kernel
theorem dX9_custom_17 : decode cX9_custom 17 = .ok (.istore_n 1, 1) := by decide +kernel
theorem dX9_custom_18 : decode cX9_custom 18 = .ok (.aload_n 0, 1) := by decide +kernel
theorem dX9_custom_19 : decode cX9_custom 19 = .ok (.getfield 59, 3) := by decide +kernel
theorem dX9_custom_22 : decode cX9_custom 22 = .ok (.aload_n 0, 1) := by decide +kernel
theorem dX9_custom_23 : decode cX9_custom 23 = .ok (.getfield 38, 3) := by decide +kernel
theorem dX9_custom_26 : decode cX9_custom 26 = .ok (.iconst 0, 1) := by decide +kernel
theorem dX9_custom_27 : decode cX9_custom 27 = .ok (.bipush 120, 2) := by decide +kernel
theorem dX9_custom_29 : decode cX9_custom 29 = .ok (.invokevirtual 145, 3) := by decide +kernel
theorem dX9_custom_32 : decode cX9_custom 32 = .ok (.iload_n 1, 1) := by decide +kernel
theorem dX9_custom_33 : decode cX9_custom 33 = .ok (.isub, 1) := by decide +kernel
theorem dX9_custom_34 : decode cX9_custom 34 = .ok (.ireturn, 1) := by decide +kernel
theorem dX9_send_0 : decode cX9_send 0 = .ok (.iload_n 1, 1) := by decide +kernel
theorem dX9_send_1 : decode cX9_send 1 = .ok (.invokestatic 142, 3) := by decide +kernel
theorem dX9_send_4 : decode cX9_send 4 = .ok (.ifCond .eq 20, 3) := by decide +kernel
theorem dX9_send_7 : decode cX9_send 7 = .ok (.aload_n 0, 1) := by decide +kernel
theorem dX9_send_8 : decode cX9_send 8 = .ok (.iload_n 2, 1) := by decide +kernel
theorem dX9_send_9 : decode cX9_send 9 = .ok (.invokevirtual 120, 3) := by decide +kernel
theorem dX9_send_12 : decode cX9_send 12 = .ok (.ifCond .eq 12, 3) := by decide +kernel
theorem dX9_send_15 : decode cX9_send 15 = .ok (.iload_n 3, 1) := by decide +kernel
theorem dX9_send_16 : decode cX9_send 16 = .ok (.iconst 0, 1) := by decide +kernel
theorem dX9_send_17 : decode cX9_send 17 = .ok (.iconst 1, 1) := by decide +kernel
theorem dX9_send_18 : decode cX9_send 18 = .ok (.invokestatic 107, 3) := by decide +kernel
theorem dX9_send_21 : decode cX9_send 21 = .ok (.ifCond .ne 5, 3) := by decide +kernel
theorem dX9_send_24 : decode cX9_send 24 = .ok (.iconst (-1), 1) := by decide +kernel
theorem dX9_send_25 : decode cX9_send 25 = .ok (.ireturn, 1) := by decide +kernel
theorem dX9_send_26 : decode cX9_send 26 = .ok (.aload_n 0, 1) := by decide +kernel
theorem dX9_send_27 : decode cX9_send 27 = .ok (.getfield 42, 3) := by decide +kernel
theorem dX9_send_30 : decode cX9_send 30 = .ok (.aload_n 0, 1) := by decide +kernel
theorem dX9_send_31 : decode cX9_send 31 = .ok (.getfield 38, 3) := by decide +kernel
theorem dX9_send_34 : decode cX9_send 34 = .ok (.invokevirtual 198, 3) := by decide +kernel
theorem dX9_send_37 : decode cX9_send 37 = .ok (.aload_n 0, 1) := by decide +kernel
theorem dX9_send_38 : decode cX9_send 38 = .ok (.getfield 42, 3) := by decide +kernel
theorem dX9_send_41 : decode cX9_send 41 = .ok (.getfield 139, 3) := by decide +kernel
theorem dX9_send_44 : decode cX9_send 44 = .ok (.iload_n 2, 1) := by decide +kernel
theorem dX9_send_45 : decode cX9_send 45 = .ok (.iconst 0, 1) := by decide +kernel
theorem dX9_send_46 : decode cX9_send 46 = .ok (.iastore, 1) := by decide +kernel
theorem dX9_send_47 : decode cX9_send 47 = .ok (.iconst 0, 1) := by decide +kernel
theorem dX9_send_48 : decode cX9_send 48 = .ok (.istore 4, 2) := by decide +kernel
theorem dX9_send_50 : decode cX9_send 50 = .ok (.aload_n 0, 1) := by decide +kernel
theorem dX9_send_51 : decode cX9_send 51 = .ok (.getfield 59, 3) := by decide +kernel
theorem dX9_send_54 : decode cX9_send 54 = .ok (.aload_n 0, 1) := by decide +kernel
theorem dX9_send_55 : decode cX9_send 55 = .ok (.getfield 42, 3) := by decide +kernel
theorem dX9_send_58 : decode cX9_send 58 = .ok (.iload_n 1, 1) := by decide +kernel
theorem dX9_send_59 : decode cX9_send 59 = .ok (.bipush 120, 2) := by decide +kernel
theorem dX9_send_61 : decode cX9_send 61 = .ok (.invokevirtual 145, 3) := by decide +kernel
theorem dX9_send_64 : decode cX9_send 64 = .ok (.istore 5, 2) := by decide +kernel
theorem dX9_send_66 : decode cX9_send 66 = .ok (.iconst 1, 1) := by decide +kernel
theorem dX9_send_67 : decode cX9_send 67 = .ok (.istore 6, 2) := by decide +kernel
theorem dX9_send_69 : decode cX9_send 69 = .ok (.iload 6, 2) := by decide +kernel
theorem dX9_send_71 : decode cX9_send 71 = .ok (.bipush 30, 2) := by decide +kernel
theorem dX9_send_73 : decode cX9_send 73 = .ok (.if_icmp .gt 51, 3) := by decide +kernel
theorem dX9_send_76 : decode cX9_send 76 = .ok (.aload_n 0, 1) := by decide +kernel
theorem dX9_send_77 : decode cX9_send 77 = .ok (.getfield 42, 3) := by decide +kernel
theorem dX9_send_80 : decode cX9_send 80 = .ok (.getfield 139, 3) := by decide +kernel
theorem dX9_send_83 : decode cX9_send 83 = .ok (.iload_n 2, 1) := by decide +kernel
theorem dX9_send_84 : decode cX9_send 84 = .ok (.iload 6, 2) := by decide +kernel
theorem dX9_send_86 : decode cX9_send 86 = .ok (.iastore, 1) := by decide +kernel
theorem dX9_send_87 : decode cX9_send 87 = .ok (.aload_n 0, 1) := by decide +kernel
theorem dX9_send_88 : decode cX9_send 88 = .ok (.getfield 59, 3) := by decide +kernel
theorem dX9_send_91 : decode cX9_send 91 = .ok (.aload_n 0, 1) := by decide +kernel
theorem dX9_send_92 : decode cX9_send 92 = .ok (.getfield 42, 3) := by decide +kernel
theorem dX9_send_95 : decode cX9_send 95 = .ok (.iload_n 1, 1) := by decide +kernel
theorem dX9_send_96 : decode cX9_send 96 = .ok (.bipush 120, 2) := by decide +kernel
theorem dX9_send_98 : decode cX9_send 98 = .ok (.invokevirtual 145, 3) := by decide +kernel
theorem dX9_send_101 : decode cX9_send 101 = .ok (.istore 7, 2) := by decide +kernel
theorem dX9_send_103 : decode cX9_send 103 = .ok (.iload 7, 2) := by decide +kernel
theorem dX9_send_105 : decode cX9_send 105 = .ok (.iload 5, 2) := by decide +kernel
theorem dX9_send_107 : decode cX9_send 107 = .ok (.if_icmp .ge 11, 3) := by decide +kernel
theorem dX9_send_110 : decode cX9_send 110 = .ok (.iload 7, 2) := by decide +kernel
theorem dX9_send_112 : decode cX9_send 112 = .ok (.istore 5, 2) := by decide +kernel
theorem dX9_send_114 : decode cX9_send 114 = .ok (.iload 6, 2) := by decide +kernel
theorem dX9_send_116 : decode cX9_send 116 = .ok (.istore 4, 2) := by decide +kernel
theorem dX9_send_118 : decode cX9_send 118 = .ok (.iinc 6 1, 3) := by decide +kernel
theorem dX9_send_121 : decode cX9_send 121 = .ok (.goto (-52), 3) := by decide +kernel
theorem dX9_send_124 : decode cX9_send 124 = .ok (.iload_n 3, 1) := by decide +kernel
theorem dX9_send_125 : decode cX9_send 125 = .ok (.ifCond .ne 8, 3) := by decide +kernel
theorem dX9_send_128 : decode cX9_send 128 = .ok (.iload 4, 2) := by decide +kernel
theorem dX9_send_130 : decode cX9_send 130 = .ok (.goto 5, 3) := by decide +kernel
theorem dX9_send_133 : decode cX9_send 133 = .ok (.iload 5, 2) := by decide +kernel
theorem dX9_send_135 : decode cX9_send 135 = .ok (.ireturn, 1) := by decide +kernel
theorem dX9_swap_0 : decode cX9_swap 0 = .ok (.iload_n 1, 1) := by decide +kernel
theorem dX9_swap_1 : decode cX9_swap 1 = .ok (.invokestatic 142, 3) := by decide +kernel
theorem dX9_swap_4 : decode cX9_swap 4 = .ok (.ifCond .eq 12, 3) := by decide +kernel
theorem dX9_swap_7 : decode cX9_swap 7 = .ok (.iload_n 2, 1) := by decide +kernel
theorem dX9_swap_8 : decode cX9_swap 8 = .ok (.iconst 0, 1) := by decide +kernel
theorem dX9_swap_9 : decode cX9_swap 9 = .ok (.iconst 1, 1) := by decide +kernel
theorem dX9_swap_10 : decode cX9_swap 10 = .ok (.invokestatic 107, 3) := by decide +kernel
theorem dX9_swap_13 : decode cX9_swap 13 = .ok (.ifCond .ne 5, 3) := by decide +kernel
theorem dX9_swap_16 : decode cX9_swap 16 = .ok (.iconst (-1), 1) := by decide +kernel
theorem dX9_swap_17 : decode cX9_swap 17 = .ok (.ireturn, 1) := by decide +kernel
theorem dX9_swap_18 : decode cX9_swap 18 = .ok (.aload_n 0, 1) := by decide +kernel
theorem dX9_swap_19 : decode cX9_swap 19 = .ok (.getfield 59, 3) := by decide +kernel
theorem dX9_swap_22 : decode cX9_swap 22 = .ok (.aload_n 0, 1) := by decide +kernel
theorem dX9_swap_23 : decode cX9_swap 23 = .ok (.getfield 38, 3) := by decide +kernel
theorem dX9_swap_26 : decode cX9_swap 26 = .ok (.iload_n 1, 1) := by decide +kernel
theorem dX9_swap_27 : decode cX9_swap 27 = .ok (.bipush 120, 2) := by decide +kernel
theorem dX9_swap_29 : decode cX9_swap 29 = .ok (.invokevirtual 145, 3) := by decide +kernel
theorem dX9_swap_32 : decode cX9_swap 32 = .ok (.istore_n 3, 1) := by decide +kernel
theorem dX9_swap_33 : decode cX9_swap 33 = .ok (.bipush (-4), 2) := by decide +kernel
theorem dX9_swap_35 : decode cX9_swap 35 = .ok (.istore 4, 2) := by decide +kernel
theorem dX9_swap_37 : decode cX9_swap 37 = .ok (.iconst 0, 1) := by decide +kernel
theorem dX9_swap_38 : decode cX9_swap 38 = .ok (.istore 5, 2) := by decide +kernel
theorem dX9_swap_40 : decode cX9_swap 40 = .ok (.iload 5, 2) := by decide +kernel
theorem dX9_swap_42 : decode cX9_swap 42 = .ok (.aload_n 0, 1) := by decide +kernel
theorem dX9_swap_43 : decode cX9_swap 43 = .ok (.getfield 32, 3) := by decide +kernel
theorem dX9_swap_46 : decode cX9_swap 46 = .ok (.getfield 117, 3) := by decide +kernel
theorem dX9_swap_49 : decode cX9_swap 49 = .ok (.if_icmp .ge 63, 3) := by decide +kernel
theorem dX9_swap_52 : decode cX9_swap 52 = .ok (.iload 5, 2) := by decide +kernel
theorem dX9_swap_54 : decode cX9_swap 54 = .ok (.iconst 1, 1) := by decide +kernel
theorem dX9_swap_55 : decode cX9_swap 55 = .ok (.iadd, 1) := by decide +kernel
theorem dX9_swap_56 : decode cX9_swap 56 = .ok (.istore 6, 2) := by decide +kernel
theorem dX9_swap_58 : decode cX9_swap 58 = .ok (.iload 6, 2) := by decide +kernel
theorem dX9_swap_60 : decode cX9_swap 60 = .ok (.aload_n 0, 1) := by decide +kernel
theorem dX9_swap_61 : decode cX9_swap 61 = .ok (.getfield 32, 3) := by decide +kernel
theorem dX9_swap_64 : decode cX9_swap 64 = .ok (.getfield 117, 3) := by decide +kernel
theorem dX9_swap_67 : decode cX9_swap 67 = .ok (.if_icmp .ge 39, 3) := by decide +kernel
theorem dX9_swap_70 : decode cX9_swap 70 = .ok (.aload_n 0, 1) := by decide +kernel
theorem dX9_swap_71 : decode cX9_swap 71 = .ok (.iload_n 1, 1) := by decide +kernel
theorem dX9_swap_72 : decode cX9_swap 72 = .ok (.iload 5, 2) := by decide +kernel
theorem dX9_swap_74 : decode cX9_swap 74 = .ok (.iload 6, 2) := by decide +kernel
theorem dX9_swap_76 : decode cX9_swap 76 = .ok (.invokevirtual 202, 3) := by decide +kernel
theorem dX9_swap_79 : decode cX9_swap 79 = .ok (.istore 7, 2) := by decide +kernel
theorem dX9_swap_81 : decode cX9_swap 81 = .ok (.iload 7, 2) := by decide +kernel
theorem dX9_swap_83 : decode cX9_swap 83 = .ok (.iload_n 3, 1) := by decide +kernel
theorem dX9_swap_84 : decode cX9_swap 84 = .ok (.if_icmp .ge 16, 3) := by decide +kernel
theorem dX9_swap_87 : decode cX9_swap 87 = .ok (.iload 7, 2) := by decide +kernel
theorem dX9_swap_89 : decode cX9_swap 89 = .ok (.istore_n 3, 1) := by decide +kernel
theorem dX9_swap_90 : decode cX9_swap 90 = .ok (.bipush 8, 2) := by decide +kernel
theorem dX9_swap_92 : decode cX9_swap 92 = .ok (.iload 5, 2) := by decide +kernel
theorem dX9_swap_94 : decode cX9_swap 94 = .ok (.imul, 1) := by decide +kernel
theorem dX9_swap_95 : decode cX9_swap 95 = .ok (.iload 6, 2) := by decide +kernel
theorem dX9_swap_97 : decode cX9_swap 97 = .ok (.iadd, 1) := by decide +kernel
theorem dX9_swap_98 : decode cX9_swap 98 = .ok (.istore 4, 2) := by decide +kernel
theorem dX9_swap_100 : decode cX9_swap 100 = .ok (.iinc 6 1, 3) := by decide +kernel
theorem dX9_swap_103 : decode cX9_swap 103 = .ok (.goto (-45), 3) := by decide +kernel
theorem dX9_swap_106 : decode cX9_swap 106 = .ok (.iinc 5 1, 3) := by decide +kernel
theorem dX9_swap_109 : decode cX9_swap 109 = .ok (.goto (-69), 3) := by decide +kernel
theorem dX9_swap_112 : decode cX9_swap 112 = .ok (.iload_n 2, 1) := by decide +kernel
theorem dX9_swap_113 : decode cX9_swap 113 = .ok (.ifCond .eq 10, 3) := by decide +kernel
theorem dX9_swap_116 : decode cX9_swap 116 = .ok (.iload 4, 2) := by decide +kernel
theorem dX9_swap_118 : decode cX9_swap 118 = .ok (.bipush (-4), 2) := by decide +kernel
theorem dX9_swap_120 : decode cX9_swap 120 = .ok (.if_icmp .ne 8, 3) := by decide +kernel
theorem dX9_swap_123 : decode cX9_swap 123 = .ok (.iload 4, 2) := by decide +kernel
theorem dX9_swap_125 : decode cX9_swap 125 = .ok (.goto 4, 3) := by decide +kernel
theorem dX9_swap_128 : decode cX9_swap 128 = .ok (.iload_n 3, 1) := by decide +kernel
theorem dX9_swap_129 : decode cX9_swap 129 = .ok (.ireturn, 1) := by decide +kernel
theorem dX9_fall_0 : decode cX9_fall 0 = .ok (.aload_n 0, 1) := by decide +kernel
theorem dX9_fall_1 : decode cX9_fall 1 = .ok (.iload_n 1, 1) := by decide +kernel
theorem dX9_fall_2 : decode cX9_fall 2 = .ok (.iload_n 2, 1) := by decide +kernel
theorem dX9_fall_3 : decode cX9_fall 3 = .ok (.invokevirtual 187, 3) := by decide +kernel
theorem dX9_fall_6 : decode cX9_fall 6 = .ok (.ifCond .eq 12, 3) := by decide +kernel
theorem dX9_fall_9 : decode cX9_fall 9 = .ok (.iload_n 3, 1) := by decide +kernel
theorem dX9_fall_10 : decode cX9_fall 10 = .ok (.iconst 0, 1) := by decide +kernel
theorem dX9_fall_11 : decode cX9_fall 11 = .ok (.iconst 1, 1) := by decide +kernel
theorem dX9_fall_12 : decode cX9_fall 12 = .ok (.invokestatic 107, 3) := by decide +kernel
theorem dX9_fall_15 : decode cX9_fall 15 = .ok (.ifCond .ne 5, 3) := by decide +kernel
theorem dX9_fall_18 : decode cX9_fall 18 = .ok (.iconst (-1), 1) := by decide +kernel
theorem dX9_fall_19 : decode cX9_fall 19 = .ok (.ireturn, 1) := by decide +kernel
theorem dX9_fall_20 : decode cX9_fall 20 = .ok (.aload_n 0, 1) := by decide +kernel
theorem dX9_fall_21 : decode cX9_fall 21 = .ok (.iload_n 2, 1) := by decide +kernel
theorem dX9_fall_22 : decode cX9_fall 22 = .ok (.invokevirtual 206, 3) := by decide +kernel
theorem dX9_fall_25 : decode cX9_fall 25 = .ok (.istore 4, 2) := by decide +kernel
theorem dX9_fall_27 : decode cX9_fall 27 = .ok (.iload 4, 2) := by decide +kernel
theorem dX9_fall_29 : decode cX9_fall 29 = .ok (.aload_n 0, 1) := by decide +kernel
theorem dX9_fall_30 : decode cX9_fall 30 = .ok (.getfield 32, 3) := by decide +kernel
theorem dX9_fall_33 : decode cX9_fall 33 = .ok (.getfield 210, 3) := by decide +kernel
theorem dX9_fall_36 : decode cX9_fall 36 = .ok (.if_icmp .le 6, 3) := by decide +kernel
theorem dX9_fall_39 : decode cX9_fall 39 = .ok (.bipush (-4), 2) := by decide +kernel
theorem dX9_fall_41 : decode cX9_fall 41 = .ok (.ireturn, 1) := by decide +kernel
theorem dX9_fall_42 : decode cX9_fall 42 = .ok (.iload_n 3, 1) := by decide +kernel
theorem dX9_fall_43 : decode cX9_fall 43 = .ok (.ifCond .ne 8, 3) := by decide +kernel
theorem dX9_fall_46 : decode cX9_fall 46 = .ok (.iload 4, 2) := by decide +kernel
theorem dX9_fall_48 : decode cX9_fall 48 = .ok (.goto 10, 3) := by decide +kernel
theorem dX9_fall_51 : decode cX9_fall 51 = .ok (.aload_n 0, 1) := by decide +kernel
theorem dX9_fall_52 : decode cX9_fall 52 = .ok (.getfield 32, 3) := by decide +kernel
theorem dX9_fall_55 : decode cX9_fall 55 = .ok (.getfield 210, 3) := by decide +kernel
theorem dX9_fall_58 : decode cX9_fall 58 = .ok (.ireturn, 1) := by decide +kernel
theorem dX9_caught_0 : decode cX9_caught 0 = .ok (.aload_n 0, 1) := by decide +kernel
theorem dX9_caught_1 : decode cX9_caught 1 = .ok (.iload_n 1, 1) := by decide +kernel
theorem dX9_caught_2 : decode cX9_caught 2 = .ok (.invokevirtual 120, 3) := by decide +kernel
theorem dX9_caught_5 : decode cX9_caught 5 = .ok (.ifCond .eq 33, 3) := by decide +kernel
theorem dX9_caught_8 : decode cX9_caught 8 = .ok (.iload_n 2, 1) := by decide +kernel
theorem dX9_caught_9 : decode cX9_caught 9 = .ok (.iconst 0, 1) := by decide +kernel
theorem dX9_caught_10 : decode cX9_caught 10 = .ok (.bipush 6, 2) := by decide +kernel
theorem dX9_caught_12 : decode cX9_caught 12 = .ok (.invokestatic 107, 3) := by decide +kernel
theorem dX9_caught_15 : decode cX9_caught 15 = .ok (.ifCond .eq 23, 3) := by decide +kernel
theorem dX9_caught_18 : decode cX9_caught 18 = .ok (.iload_n 3, 1) := by decide +kernel
theorem dX9_caught_19 : decode cX9_caught 19 = .ok (.iconst 0, 1) := by decide +kernel
theorem dX9_caught_20 : decode cX9_caught 20 = .ok (.bipush 10, 2) := by decide +kernel
theorem dX9_caught_22 : decode cX9_caught 22 = .ok (.invokestatic 107, 3) := by decide +kernel
theorem dX9_caught_25 : decode cX9_caught 25 = .ok (.ifCond .eq 13, 3) := by decide +kernel
theorem dX9_caught_28 : decode cX9_caught 28 = .ok (.iload 4, 2) := by decide +kernel
theorem dX9_caught_30 : decode cX9_caught 30 = .ok (.iconst 0, 1) := by decide +kernel
theorem dX9_caught_31 : decode cX9_caught 31 = .ok (.iconst 1, 1) := by decide +kernel
theorem dX9_caught_32 : decode cX9_caught 32 = .ok (.invokestatic 107, 3) := by decide +kernel
theorem dX9_caught_35 : decode cX9_caught 35 = .ok (.ifCond .ne 5, 3) := by decide +kernel
theorem dX9_caught_38 : decode cX9_caught 38 = .ok (.iconst (-1), 1) := by decide +kernel
theorem dX9_caught_39 : decode cX9_caught 39 = .ok (.ireturn, 1) := by decide +kernel
theorem dX9_caught_40 : decode cX9_caught 40 = .ok (.aload_n 0, 1) := by decide +kernel
theorem dX9_caught_41 : decode cX9_caught 41 = .ok (.iload_n 1, 1) := by decide +kernel
theorem dX9_caught_42 : decode cX9_caught 42 = .ok (.invokevirtual 206, 3) := by decide +kernel
theorem dX9_caught_45 : decode cX9_caught 45 = .ok (.iload_n 2, 1) := by decide +kernel
theorem dX9_caught_46 : decode cX9_caught 46 = .ok (.iload_n 3, 1) := by decide +kernel
theorem dX9_caught_47 : decode cX9_caught 47 = .ok (.invokestatic 213, 3) := by decide +kernel
theorem dX9_caught_50 : decode cX9_caught 50 = .ok (.istore 5, 2) := by decide +kernel
theorem dX9_caught_52 : decode cX9_caught 52 = .ok (.bipush 10, 2) := by decide +kernel
theorem dX9_caught_54 : decode cX9_caught 54 = .ok (.iload_n 2, 1) := by decide +kernel
theorem dX9_caught_55 : decode cX9_caught 55 = .ok (.invokestatic 216, 3) := by decide +kernel
theorem dX9_caught_58 : decode cX9_caught 58 = .ok (.istore 6, 2) := by decide +kernel
theorem dX9_caught_60 : decode cX9_caught 60 = .ok (.iload 5, 2) := by decide +kernel
theorem dX9_caught_62 : decode cX9_caught 62 = .ok (.iload 6, 2) := by decide +kernel
theorem dX9_caught_64 : decode cX9_caught 64 = .ok (.invokestatic 220, 3) := by decide +kernel
theorem dX9_caught_67 : decode cX9_caught 67 = .ok (.istore 7, 2) := by decide +kernel
theorem dX9_caught_69 : decode cX9_caught 69 = .ok (.iload 4, 2) := by decide +kernel
theorem dX9_caught_71 : decode cX9_caught 71 = .ok (.ifCond .ne 8, 3) := by decide +kernel
theorem dX9_caught_74 : decode cX9_caught 74 = .ok (.iload 5, 2) := by decide +kernel
theorem dX9_caught_76 : decode cX9_caught 76 = .ok (.goto 5, 3) := by decide +kernel
theorem dX9_caught_79 : decode cX9_caught 79 = .ok (.iload 6, 2) := by decide +kernel
theorem dX9_caught_81 : decode cX9_caught 81 = .ok (.iload 7, 2) := by decide +kernel
theorem dX9_caught_83 : decode cX9_caught 83 = .ok (.iconst 1, 1) := by decide +kernel
theorem dX9_caught_84 : decode cX9_caught 84 = .ok (.invokestatic 223, 3) := by decide +kernel
theorem dX9_caught_87 : decode cX9_caught 87 = .ok (.idiv, 1) := by decide +kernel
theorem dX9_caught_88 : decode cX9_caught 88 = .ok (.ireturn, 1) := by decide +kernel
theorem dX9_rests_0 : decode cX9_rests 0 = .ok (.aload_n 0, 1) := by decide +kernel
theorem dX9_rests_1 : decode cX9_rests 1 = .ok (.iload_n 1, 1) := by decide +kernel
theorem dX9_rests_2 : decode cX9_rests 2 = .ok (.iload_n 2, 1) := by decide +kernel
theorem dX9_rests_3 : decode cX9_rests 3 = .ok (.invokevirtual 187, 3) := by decide +kernel
theorem dX9_rests_6 : decode cX9_rests 6 = .ok (.ifCond .eq 12, 3) := by decide +kernel
theorem dX9_rests_9 : decode cX9_rests 9 = .ok (.iload_n 3, 1) := by decide +kernel
theorem dX9_rests_10 : decode cX9_rests 10 = .ok (.iconst 0, 1) := by decide +kernel
theorem dX9_rests_11 : decode cX9_rests 11 = .ok (.iconst 1, 1) := by decide +kernel
theorem dX9_rests_12 : decode cX9_rests 12 = .ok (.invokestatic 107, 3) := by decide +kernel
theorem dX9_rests_15 : decode cX9_rests 15 = .ok (.ifCond .ne 5, 3) := by decide +kernel
theorem dX9_rests_18 : decode cX9_rests 18 = .ok (.iconst (-1), 1) := by decide +kernel
theorem dX9_rests_19 : decode cX9_rests 19 = .ok (.ireturn, 1) := by decide +kernel
theorem dX9_rests_20 : decode cX9_rests 20 = .ok (.iconst 0, 1) := by decide +kernel
theorem dX9_rests_21 : decode cX9_rests 21 = .ok (.istore 4, 2) := by decide +kernel
theorem dX9_rests_23 : decode cX9_rests 23 = .ok (.bipush (-4), 2) := by decide +kernel
theorem dX9_rests_25 : decode cX9_rests 25 = .ok (.istore 5, 2) := by decide +kernel
theorem dX9_rests_27 : decode cX9_rests 27 = .ok (.iconst 0, 1) := by decide +kernel
theorem dX9_rests_28 : decode cX9_rests 28 = .ok (.istore 6, 2) := by decide +kernel
theorem dX9_rests_30 : decode cX9_rests 30 = .ok (.iload 6, 2) := by decide +kernel
theorem dX9_rests_32 : decode cX9_rests 32 = .ok (.iconst 4, 1) := by decide +kernel
theorem dX9_rests_33 : decode cX9_rests 33 = .ok (.if_icmp .ge 39, 3) := by decide +kernel
theorem dX9_rests_36 : decode cX9_rests 36 = .ok (.aload_n 0, 1) := by decide +kernel
theorem dX9_rests_37 : decode cX9_rests 37 = .ok (.iload_n 1, 1) := by decide +kernel
theorem dX9_rests_38 : decode cX9_rests 38 = .ok (.iload_n 2, 1) := by decide +kernel
theorem dX9_rests_39 : decode cX9_rests 39 = .ok (.iload 6, 2) := by decide +kernel
theorem dX9_rests_41 : decode cX9_rests 41 = .ok (.invokevirtual 228, 3) := by decide +kernel
theorem dX9_rests_44 : decode cX9_rests 44 = .ok (.ifCond .eq 22, 3) := by decide +kernel
theorem dX9_rests_47 : decode cX9_rests 47 = .ok (.iinc 4 1, 3) := by decide +kernel
theorem dX9_rests_50 : decode cX9_rests 50 = .ok (.iload 5, 2) := by decide +kernel
theorem dX9_rests_52 : decode cX9_rests 52 = .ok (.bipush (-4), 2) := by decide +kernel
theorem dX9_rests_54 : decode cX9_rests 54 = .ok (.if_icmp .ne 8, 3) := by decide +kernel
theorem dX9_rests_57 : decode cX9_rests 57 = .ok (.iload 6, 2) := by decide +kernel
theorem dX9_rests_59 : decode cX9_rests 59 = .ok (.goto 5, 3) := by decide +kernel
theorem dX9_rests_62 : decode cX9_rests 62 = .ok (.iload 5, 2) := by decide +kernel
theorem dX9_rests_64 : decode cX9_rests 64 = .ok (.istore 5, 2) := by decide +kernel
theorem dX9_rests_66 : decode cX9_rests 66 = .ok (.iinc 6 1, 3) := by decide +kernel
theorem dX9_rests_69 : decode cX9_rests 69 = .ok (.goto (-39), 3) := by decide +kernel
theorem dX9_rests_72 : decode cX9_rests 72 = .ok (.iload_n 3, 1) := by decide +kernel
theorem dX9_rests_73 : decode cX9_rests 73 = .ok (.ifCond .ne 8, 3) := by decide +kernel
theorem dX9_rests_76 : decode cX9_rests 76 = .ok (.iload 4, 2) := by decide +kernel
theorem dX9_rests_78 : decode cX9_rests 78 = .ok (.goto 5, 3) := by decide +kernel
theorem dX9_rests_81 : decode cX9_rests 81 = .ok (.iload 5, 2) := by decide +kernel
theorem dX9_rests_83 : decode cX9_rests 83 = .ok (.ireturn, 1) := by decide +kernel
theorem dX9_seen_0 : decode cX9_seen 0 = .ok (.aload_n 0, 1) := by decide +kernel
theorem dX9_seen_1 : decode cX9_seen 1 = .ok (.iload_n 1, 1) := by decide +kernel
theorem dX9_seen_2 : decode cX9_seen 2 = .ok (.iload_n 2, 1) := by decide +kernel
theorem dX9_seen_3 : decode cX9_seen 3 = .ok (.invokevirtual 187, 3) := by decide +kernel
theorem dX9_seen_6 : decode cX9_seen 6 = .ok (.ifCond .ne 5, 3) := by decide +kernel
theorem dX9_seen_9 : decode cX9_seen 9 = .ok (.iconst (-1), 1) := by decide +kernel
theorem dX9_seen_10 : decode cX9_seen 10 = .ok (.ireturn, 1) := by decide +kernel
theorem dX9_seen_11 : decode cX9_seen 11 = .ok (.aload_n 0, 1) := by decide +kernel
theorem dX9_seen_12 : decode cX9_seen 12 = .ok (.getfield 32, 3) := by decide +kernel
theorem dX9_seen_15 : decode cX9_seen 15 = .ok (.getfield 127, 3) := by decide +kernel
theorem dX9_seen_18 : decode cX9_seen 18 = .ok (.iload_n 1, 1) := by decide +kernel
theorem dX9_seen_19 : decode cX9_seen 19 = .ok (.iaload, 1) := by decide +kernel
theorem dX9_seen_20 : decode cX9_seen 20 = .ok (.aload_n 0, 1) := by decide +kernel
theorem dX9_seen_21 : decode cX9_seen 21 = .ok (.getfield 32, 3) := by decide +kernel
theorem dX9_seen_24 : decode cX9_seen 24 = .ok (.getfield 127, 3) := by decide +kernel
theorem dX9_seen_27 : decode cX9_seen 27 = .ok (.iload_n 2, 1) := by decide +kernel
theorem dX9_seen_28 : decode cX9_seen 28 = .ok (.iaload, 1) := by decide +kernel
theorem dX9_seen_29 : decode cX9_seen 29 = .ok (.if_icmp .ne 6, 3) := by decide +kernel
theorem dX9_seen_32 : decode cX9_seen 32 = .ok (.bipush (-2), 2) := by decide +kernel
theorem dX9_seen_34 : decode cX9_seen 34 = .ok (.ireturn, 1) := by decide +kernel
theorem dX9_seen_35 : decode cX9_seen 35 = .ok (.aload_n 0, 1) := by decide +kernel
theorem dX9_seen_36 : decode cX9_seen 36 = .ok (.getfield 73, 3) := by decide +kernel
theorem dX9_seen_39 : decode cX9_seen 39 = .ok (.iload_n 1, 1) := by decide +kernel
theorem dX9_seen_40 : decode cX9_seen 40 = .ok (.iload_n 2, 1) := by decide +kernel
theorem dX9_seen_41 : decode cX9_seen 41 = .ok (.invokevirtual 231, 3) := by decide +kernel
theorem dX9_seen_44 : decode cX9_seen 44 = .ok (.ifCond .eq 13, 3) := by decide +kernel
theorem dX9_seen_47 : decode cX9_seen 47 = .ok (.aload_n 0, 1) := by decide +kernel
theorem dX9_seen_48 : decode cX9_seen 48 = .ok (.getfield 73, 3) := by decide +kernel
theorem dX9_seen_51 : decode cX9_seen 51 = .ok (.getfield 233, 3) := by decide +kernel
theorem dX9_seen_54 : decode cX9_seen 54 = .ok (.goto 5, 3) := by decide +kernel
theorem dX9_seen_57 : decode cX9_seen 57 = .ok (.bipush (-3), 2) := by decide +kernel
theorem dX9_seen_59 : decode cX9_seen 59 = .ok (.ireturn, 1) := by decide +kernel
theorem dX9_forget_0 : decode cX9_forget 0 = .ok (.aload_n 0, 1) := by decide +kernel
theorem dX9_forget_1 : decode cX9_forget 1 = .ok (.getfield 73, 3) := by decide +kernel
theorem dX9_forget_4 : decode cX9_forget 4 = .ok (.invokevirtual 234, 3) := by decide +kernel
theorem dX9_forget_7 : decode cX9_forget 7 = .ok (.ireturn, 1) := by decide +kernel
theorem dX9_fits_0 : decode cX9_fits 0 = .ok (.iconst 0, 1) := by decide +kernel
theorem dX9_fits_1 : decode cX9_fits 1 = .ok (.istore_n 1, 1) := by decide +kernel
theorem dX9_fits_2 : decode cX9_fits 2 = .ok (.iconst 0, 1) := by decide +kernel
theorem dX9_fits_3 : decode cX9_fits 3 = .ok (.istore_n 2, 1) := by decide +kernel
theorem dX9_fits_4 : decode cX9_fits 4 = .ok (.iload_n 2, 1) := by decide +kernel
theorem dX9_fits_5 : decode cX9_fits 5 = .ok (.iconst 4, 1) := by decide +kernel
theorem dX9_fits_6 : decode cX9_fits 6 = .ok (.if_icmp .ge 23, 3) := by decide +kernel
theorem dX9_fits_9 : decode cX9_fits 9 = .ok (.aload_n 0, 1) := by decide +kernel
theorem dX9_fits_10 : decode cX9_fits 10 = .ok (.iload_n 2, 1) := by decide +kernel
theorem dX9_fits_11 : decode cX9_fits 11 = .ok (.invokevirtual 235, 3) := by decide +kernel
theorem dX9_fits_14 : decode cX9_fits 14 = .ok (.ifCond .eq 9, 3) := by decide +kernel
theorem dX9_fits_17 : decode cX9_fits 17 = .ok (.iload_n 1, 1) := by decide +kernel
theorem dX9_fits_18 : decode cX9_fits 18 = .ok (.iconst 1, 1) := by decide +kernel
theorem dX9_fits_19 : decode cX9_fits 19 = .ok (.iload_n 2, 1) := by decide +kernel
theorem dX9_fits_20 : decode cX9_fits 20 = .ok (.ishl, 1) := by decide +kernel
theorem dX9_fits_21 : decode cX9_fits 21 = .ok (.ior, 1) := by decide +kernel
theorem dX9_fits_22 : decode cX9_fits 22 = .ok (.istore_n 1, 1) := by decide +kernel
theorem dX9_fits_23 : decode cX9_fits 23 = .ok (.iinc 2 1, 3) := by decide +kernel
theorem dX9_fits_26 : decode cX9_fits 26 = .ok (.goto (-22), 3) := by decide +kernel
theorem dX9_fits_29 : decode cX9_fits 29 = .ok (.iload_n 1, 1) := by decide +kernel
theorem dX9_fits_30 : decode cX9_fits 30 = .ok (.ireturn, 1) := by decide +kernel
theorem dX9_starts_0 : decode cX9_starts 0 = .ok (.iload_n 1, 1) := by decide +kernel
theorem dX9_starts_1 : decode cX9_starts 1 = .ok (.invokestatic 142, 3) := by decide +kernel
theorem dX9_starts_4 : decode cX9_starts 4 = .ok (.ifCond .eq 11, 3) := by decide +kernel
theorem dX9_starts_7 : decode cX9_starts 7 = .ok (.aload_n 0, 1) := by decide +kernel
theorem dX9_starts_8 : decode cX9_starts 8 = .ok (.iload_n 2, 1) := by decide +kernel
theorem dX9_starts_9 : decode cX9_starts 9 = .ok (.invokevirtual 120, 3) := by decide +kernel
theorem dX9_starts_12 : decode cX9_starts 12 = .ok (.ifCond .ne 5, 3) := by decide +kernel
theorem dX9_starts_15 : decode cX9_starts 15 = .ok (.iconst (-1), 1) := by decide +kernel
theorem dX9_starts_16 : decode cX9_starts 16 = .ok (.ireturn, 1) := by decide +kernel
theorem dX9_starts_17 : decode cX9_starts 17 = .ok (.aload_n 0, 1) := by decide +kernel
theorem dX9_starts_18 : decode cX9_starts 18 = .ok (.getfield 59, 3) := by decide +kernel
theorem dX9_starts_21 : decode cX9_starts 21 = .ok (.aload_n 0, 1) := by decide +kernel
theorem dX9_starts_22 : decode cX9_starts 22 = .ok (.getfield 38, 3) := by decide +kernel
theorem dX9_starts_25 : decode cX9_starts 25 = .ok (.iload_n 1, 1) := by decide +kernel
theorem dX9_starts_26 : decode cX9_starts 26 = .ok (.bipush 120, 2) := by decide +kernel
theorem dX9_starts_28 : decode cX9_starts 28 = .ok (.invokevirtual 145, 3) := by decide +kernel
theorem dX9_starts_31 : decode cX9_starts 31 = .ok (.pop, 1) := by decide +kernel
theorem dX9_starts_32 : decode cX9_starts 32 = .ok (.aload_n 0, 1) := by decide +kernel
theorem dX9_starts_33 : decode cX9_starts 33 = .ok (.getfield 59, 3) := by decide +kernel
theorem dX9_starts_36 : decode cX9_starts 36 = .ok (.getfield 238, 3) := by decide +kernel
theorem dX9_starts_39 : decode cX9_starts 39 = .ok (.iload_n 2, 1) := by decide +kernel
theorem dX9_starts_40 : decode cX9_starts 40 = .ok (.iaload, 1) := by decide +kernel
theorem dX9_starts_41 : decode cX9_starts 41 = .ok (.ireturn, 1) := by decide +kernel
theorem dX9_bears_0 : decode cX9_bears 0 = .ok (.iload_n 1, 1) := by decide +kernel
theorem dX9_bears_1 : decode cX9_bears 1 = .ok (.invokestatic 142, 3) := by decide +kernel
theorem dX9_bears_4 : decode cX9_bears 4 = .ok (.ifCond .eq 13, 3) := by decide +kernel
theorem dX9_bears_7 : decode cX9_bears 7 = .ok (.iload_n 2, 1) := by decide +kernel
theorem dX9_bears_8 : decode cX9_bears 8 = .ok (.iconst 0, 1) := by decide +kernel
theorem dX9_bears_9 : decode cX9_bears 9 = .ok (.bipush 9, 2) := by decide +kernel
theorem dX9_bears_11 : decode cX9_bears 11 = .ok (.invokestatic 107, 3) := by decide +kernel
theorem dX9_bears_14 : decode cX9_bears 14 = .ok (.ifCond .ne 5, 3) := by decide +kernel
theorem dX9_bears_17 : decode cX9_bears 17 = .ok (.iconst (-1), 1) := by decide +kernel
theorem dX9_bears_18 : decode cX9_bears 18 = .ok (.ireturn, 1) := by decide +kernel
theorem dX9_bears_19 : decode cX9_bears 19 = .ok (.aload_n 0, 1) := by decide +kernel
theorem dX9_bears_20 : decode cX9_bears 20 = .ok (.getfield 59, 3) := by decide +kernel
theorem dX9_bears_23 : decode cX9_bears 23 = .ok (.aload_n 0, 1) := by decide +kernel
theorem dX9_bears_24 : decode cX9_bears 24 = .ok (.getfield 38, 3) := by decide +kernel
theorem dX9_bears_27 : decode cX9_bears 27 = .ok (.iload_n 1, 1) := by decide +kernel
theorem dX9_bears_28 : decode cX9_bears 28 = .ok (.bipush 120, 2) := by decide +kernel
theorem dX9_bears_30 : decode cX9_bears 30 = .ok (.invokevirtual 145, 3) := by decide +kernel
theorem dX9_bears_33 : decode cX9_bears 33 = .ok (.pop, 1) := by decide +kernel
theorem dX9_bears_34 : decode cX9_bears 34 = .ok (.iconst 0, 1) := by decide +kernel
theorem dX9_bears_35 : decode cX9_bears 35 = .ok (.istore_n 3, 1) := by decide +kernel
theorem dX9_bears_36 : decode cX9_bears 36 = .ok (.iconst 0, 1) := by decide +kernel
theorem dX9_bears_37 : decode cX9_bears 37 = .ok (.istore 4, 2) := by decide +kernel
theorem dX9_bears_39 : decode cX9_bears 39 = .ok (.iload 4, 2) := by decide +kernel
theorem dX9_bears_41 : decode cX9_bears 41 = .ok (.aload_n 0, 1) := by decide +kernel
theorem dX9_bears_42 : decode cX9_bears 42 = .ok (.getfield 32, 3) := by decide +kernel
theorem dX9_bears_45 : decode cX9_bears 45 = .ok (.getfield 117, 3) := by decide +kernel
theorem dX9_bears_48 : decode cX9_bears 48 = .ok (.if_icmp .ge 30, 3) := by decide +kernel
theorem dX9_bears_51 : decode cX9_bears 51 = .ok (.aload_n 0, 1) := by decide +kernel
theorem dX9_bears_52 : decode cX9_bears 52 = .ok (.getfield 59, 3) := by decide +kernel
theorem dX9_bears_55 : decode cX9_bears 55 = .ok (.getfield 238, 3) := by decide +kernel
theorem dX9_bears_58 : decode cX9_bears 58 = .ok (.iload 4, 2) := by decide +kernel
theorem dX9_bears_60 : decode cX9_bears 60 = .ok (.iaload, 1) := by decide +kernel
theorem dX9_bears_61 : decode cX9_bears 61 = .ok (.iload_n 2, 1) := by decide +kernel
theorem dX9_bears_62 : decode cX9_bears 62 = .ok (.if_icmp .gt 10, 3) := by decide +kernel
theorem dX9_bears_65 : decode cX9_bears 65 = .ok (.iload_n 3, 1) := by decide +kernel
theorem dX9_bears_66 : decode cX9_bears 66 = .ok (.iconst 1, 1) := by decide +kernel
theorem dX9_bears_67 : decode cX9_bears 67 = .ok (.iload 4, 2) := by decide +kernel
theorem dX9_bears_69 : decode cX9_bears 69 = .ok (.ishl, 1) := by decide +kernel
theorem dX9_bears_70 : decode cX9_bears 70 = .ok (.ior, 1) := by decide +kernel
theorem dX9_bears_71 : decode cX9_bears 71 = .ok (.istore_n 3, 1) := by decide +kernel
theorem dX9_bears_72 : decode cX9_bears 72 = .ok (.iinc 4 1, 3) := by decide +kernel
theorem dX9_bears_75 : decode cX9_bears 75 = .ok (.goto (-36), 3) := by decide +kernel
theorem dX9_bears_78 : decode cX9_bears 78 = .ok (.iload_n 3, 1) := by decide +kernel
theorem dX9_bears_79 : decode cX9_bears 79 = .ok (.ireturn, 1) := by decide +kernel
theorem dX9_day_0 : decode cX9_day 0 = .ok (.iload_n 1, 1) := by decide +kernel
theorem dX9_day_1 : decode cX9_day 1 = .ok (.invokestatic 142, 3) := by decide +kernel
theorem dX9_day_4 : decode cX9_day 4 = .ok (.ifCond .eq 23, 3) := by decide +kernel
theorem dX9_day_7 : decode cX9_day 7 = .ok (.iload_n 2, 1) := by decide +kernel
theorem dX9_day_8 : decode cX9_day 8 = .ok (.iconst 0, 1) := by decide +kernel
theorem dX9_day_9 : decode cX9_day 9 = .ok (.sipush 9999, 3) := by decide +kernel
theorem dX9_day_12 : decode cX9_day 12 = .ok (.invokestatic 107, 3) := by decide +kernel
theorem dX9_day_15 : decode cX9_day 15 = .ok (.ifCond .eq 12, 3) := by decide +kernel
theorem dX9_day_18 : decode cX9_day 18 = .ok (.iload_n 3, 1) := by decide +kernel
theorem dX9_day_19 : decode cX9_day 19 = .ok (.iconst 0, 1) := by decide +kernel
theorem dX9_day_20 : decode cX9_day 20 = .ok (.iconst 1, 1) := by decide +kernel
theorem dX9_day_21 : decode cX9_day 21 = .ok (.invokestatic 107, 3) := by decide +kernel
theorem dX9_day_24 : decode cX9_day 24 = .ok (.ifCond .ne 5, 3) := by decide +kernel
theorem dX9_day_27 : decode cX9_day 27 = .ok (.iconst (-1), 1) := by decide +kernel
theorem dX9_day_28 : decode cX9_day 28 = .ok (.ireturn, 1) := by decide +kernel
theorem dX9_day_29 : decode cX9_day 29 = .ok (.aload_n 0, 1) := by decide +kernel
theorem dX9_day_30 : decode cX9_day 30 = .ok (.getfield 42, 3) := by decide +kernel
theorem dX9_day_33 : decode cX9_day 33 = .ok (.iload_n 2, 1) := by decide +kernel
theorem dX9_day_34 : decode cX9_day 34 = .ok (.invokevirtual 241, 3) := by decide +kernel
theorem dX9_day_37 : decode cX9_day 37 = .ok (.aload_n 0, 1) := by decide +kernel
theorem dX9_day_38 : decode cX9_day 38 = .ok (.getfield 59, 3) := by decide +kernel
theorem dX9_day_41 : decode cX9_day 41 = .ok (.aload_n 0, 1) := by decide +kernel
theorem dX9_day_42 : decode cX9_day 42 = .ok (.getfield 42, 3) := by decide +kernel
theorem dX9_day_45 : decode cX9_day 45 = .ok (.iload_n 1, 1) := by decide +kernel
theorem dX9_day_46 : decode cX9_day 46 = .ok (.bipush 120, 2) := by decide +kernel
theorem dX9_day_48 : decode cX9_day 48 = .ok (.invokevirtual 145, 3) := by decide +kernel
theorem dX9_day_51 : decode cX9_day 51 = .ok (.istore 4, 2) := by decide +kernel
theorem dX9_day_53 : decode cX9_day 53 = .ok (.iload_n 3, 1) := by decide +kernel
theorem dX9_day_54 : decode cX9_day 54 = .ok (.ifCond .ne 8, 3) := by decide +kernel
theorem dX9_day_57 : decode cX9_day 57 = .ok (.iload 4, 2) := by decide +kernel
theorem dX9_day_59 : decode cX9_day 59 = .ok (.goto 10, 3) := by decide +kernel
theorem dX9_day_62 : decode cX9_day 62 = .ok (.aload_n 0, 1) := by decide +kernel
theorem dX9_day_63 : decode cX9_day 63 = .ok (.getfield 59, 3) := by decide +kernel
theorem dX9_day_66 : decode cX9_day 66 = .ok (.getfield 161, 3) := by decide +kernel
theorem dX9_day_69 : decode cX9_day 69 = .ok (.ireturn, 1) := by decide +kernel
theorem dX9_keep_0 : decode cX9_keep 0 = .ok (.aload_n 0, 1) := by decide +kernel
theorem dX9_keep_1 : decode cX9_keep 1 = .ok (.getfield 80, 3) := by decide +kernel
theorem dX9_keep_4 : decode cX9_keep 4 = .ok (.aload_n 0, 1) := by decide +kernel
theorem dX9_keep_5 : decode cX9_keep 5 = .ok (.getfield 38, 3) := by decide +kernel
theorem dX9_keep_8 : decode cX9_keep 8 = .ok (.invokevirtual 245, 3) := by decide +kernel
theorem dX9_keep_11 : decode cX9_keep 11 = .ok (.ifCond .eq 13, 3) := by decide +kernel
theorem dX9_keep_14 : decode cX9_keep 14 = .ok (.aload_n 0, 1) := by decide +kernel
theorem dX9_keep_15 : decode cX9_keep 15 = .ok (.getfield 80, 3) := by decide +kernel
theorem dX9_keep_18 : decode cX9_keep 18 = .ok (.getfield 247, 3) := by decide +kernel
theorem dX9_keep_21 : decode cX9_keep 21 = .ok (.goto 5, 3) := by decide +kernel
theorem dX9_keep_24 : decode cX9_keep 24 = .ok (.bipush (-3), 2) := by decide +kernel
theorem dX9_keep_26 : decode cX9_keep 26 = .ok (.ireturn, 1) := by decide +kernel
theorem dX9_back_0 : decode cX9_back 0 = .ok (.aload_n 0, 1) := by decide +kernel
theorem dX9_back_1 : decode cX9_back 1 = .ok (.getfield 80, 3) := by decide +kernel
theorem dX9_back_4 : decode cX9_back 4 = .ok (.aload_n 0, 1) := by decide +kernel
theorem dX9_back_5 : decode cX9_back 5 = .ok (.getfield 38, 3) := by decide +kernel
theorem dX9_back_8 : decode cX9_back 8 = .ok (.invokevirtual 248, 3) := by decide +kernel
theorem dX9_back_11 : decode cX9_back 11 = .ok (.ifCond .ne 6, 3) := by decide +kernel
theorem dX9_back_14 : decode cX9_back 14 = .ok (.bipush (-2), 2) := by decide +kernel
theorem dX9_back_16 : decode cX9_back 16 = .ok (.ireturn, 1) := by decide +kernel
theorem dX9_back_17 : decode cX9_back 17 = .ok (.aload_n 0, 1) := by decide +kernel
theorem dX9_back_18 : decode cX9_back 18 = .ok (.getfield 66, 3) := by decide +kernel
theorem dX9_back_21 : decode cX9_back 21 = .ok (.iconst 0, 1) := by decide +kernel
theorem dX9_back_22 : decode cX9_back 22 = .ok (.putfield 184, 3) := by decide +kernel
theorem dX9_back_25 : decode cX9_back 25 = .ok (.aload_n 0, 1) := by decide +kernel
theorem dX9_back_26 : decode cX9_back 26 = .ok (.getfield 80, 3) := by decide +kernel
theorem dX9_back_29 : decode cX9_back 29 = .ok (.getfield 247, 3) := by decide +kernel
theorem dX9_back_32 : decode cX9_back 32 = .ok (.ireturn, 1) := by decide +kernel
theorem dX9_count_0 : decode cX9_count 0 = .ok (.iload_n 1, 1) := by decide +kernel
theorem dX9_count_1 : decode cX9_count 1 = .ok (.tableswitch 87 0 5 #[39, 47, 55, 63, 71, 79], 39) := by decide +kernel
theorem dX9_count_40 : decode cX9_count 40 = .ok (.aload_n 0, 1) := by decide +kernel
theorem dX9_count_41 : decode cX9_count 41 = .ok (.getfield 32, 3) := by decide +kernel
theorem dX9_count_44 : decode cX9_count 44 = .ok (.getfield 117, 3) := by decide +kernel
theorem dX9_count_47 : decode cX9_count 47 = .ok (.ireturn, 1) := by decide +kernel
theorem dX9_count_48 : decode cX9_count 48 = .ok (.aload_n 0, 1) := by decide +kernel
theorem dX9_count_49 : decode cX9_count 49 = .ok (.getfield 32, 3) := by decide +kernel
theorem dX9_count_52 : decode cX9_count 52 = .ok (.getfield 251, 3) := by decide +kernel
theorem dX9_count_55 : decode cX9_count 55 = .ok (.ireturn, 1) := by decide +kernel
theorem dX9_count_56 : decode cX9_count 56 = .ok (.aload_n 0, 1) := by decide +kernel
theorem dX9_count_57 : decode cX9_count 57 = .ok (.getfield 73, 3) := by decide +kernel
theorem dX9_count_60 : decode cX9_count 60 = .ok (.getfield 233, 3) := by decide +kernel
theorem dX9_count_63 : decode cX9_count 63 = .ok (.ireturn, 1) := by decide +kernel
theorem dX9_count_64 : decode cX9_count 64 = .ok (.aload_n 0, 1) := by decide +kernel
theorem dX9_count_65 : decode cX9_count 65 = .ok (.getfield 66, 3) := by decide +kernel
theorem dX9_count_68 : decode cX9_count 68 = .ok (.getfield 184, 3) := by decide +kernel
theorem dX9_count_71 : decode cX9_count 71 = .ok (.ireturn, 1) := by decide +kernel
theorem dX9_count_72 : decode cX9_count 72 = .ok (.aload_n 0, 1) := by decide +kernel
theorem dX9_count_73 : decode cX9_count 73 = .ok (.getfield 80, 3) := by decide +kernel
theorem dX9_count_76 : decode cX9_count 76 = .ok (.getfield 247, 3) := by decide +kernel
theorem dX9_count_79 : decode cX9_count 79 = .ok (.ireturn, 1) := by decide +kernel
theorem dX9_count_80 : decode cX9_count 80 = .ok (.aload_n 0, 1) := by decide +kernel
theorem dX9_count_81 : decode cX9_count 81 = .ok (.getfield 10, 3) := by decide +kernel
theorem dX9_count_84 : decode cX9_count 84 = .ok (.getfield 111, 3) := by decide +kernel
theorem dX9_count_87 : decode cX9_count 87 = .ok (.ireturn, 1) := by decide +kernel
theorem dX9_count_88 : decode cX9_count 88 = .ok (.iconst (-1), 1) := by decide +kernel
theorem dX9_count_89 : decode cX9_count 89 = .ok (.ireturn, 1) := by decide +kernel
theorem dX9_isWithin_0 : decode cX9_isWithin 0 = .ok (.iload_n 0, 1) := by decide +kernel
theorem dX9_isWithin_1 : decode cX9_isWithin 1 = .ok (.iload_n 1, 1) := by decide +kernel
theorem dX9_isWithin_2 : decode cX9_isWithin 2 = .ok (.if_icmp .lt 12, 3) := by decide +kernel
theorem dX9_isWithin_5 : decode cX9_isWithin 5 = .ok (.iload_n 0, 1) := by decide +kernel
theorem dX9_isWithin_6 : decode cX9_isWithin 6 = .ok (.iload_n 2, 1) := by decide +kernel
theorem dX9_isWithin_7 : decode cX9_isWithin 7 = .ok (.if_icmp .gt 7, 3) := by decide +kernel
theorem dX9_isWithin_10 : decode cX9_isWithin 10 = .ok (.iconst 1, 1) := by decide +kernel
theorem dX9_isWithin_11 : decode cX9_isWithin 11 = .ok (.goto 4, 3) := by decide +kernel
theorem dX9_isWithin_14 : decode cX9_isWithin 14 = .ok (.iconst 0, 1) := by decide +kernel
theorem dX9_isWithin_15 : decode cX9_isWithin 15 = .ok (.ireturn, 1) := by decide +kernel
theorem dX9_isRule_0 : decode cX9_isRule 0 = .ok (.iload_n 0, 1) := by decide +kernel
theorem dX9_isRule_1 : decode cX9_isRule 1 = .ok (.iconst 0, 1) := by decide +kernel
theorem dX9_isRule_2 : decode cX9_isRule 2 = .ok (.iconst 3, 1) := by decide +kernel
theorem dX9_isRule_3 : decode cX9_isRule 3 = .ok (.invokestatic 107, 3) := by decide +kernel
theorem dX9_isRule_6 : decode cX9_isRule 6 = .ok (.ireturn, 1) := by decide +kernel
theorem dX9_isBoat_0 : decode cX9_isBoat 0 = .ok (.iload_n 1, 1) := by decide +kernel
theorem dX9_isBoat_1 : decode cX9_isBoat 1 = .ok (.iconst 0, 1) := by decide +kernel
theorem dX9_isBoat_2 : decode cX9_isBoat 2 = .ok (.aload_n 0, 1) := by decide +kernel
theorem dX9_isBoat_3 : decode cX9_isBoat 3 = .ok (.getfield 32, 3) := by decide +kernel
theorem dX9_isBoat_6 : decode cX9_isBoat 6 = .ok (.getfield 117, 3) := by decide +kernel
theorem dX9_isBoat_9 : decode cX9_isBoat 9 = .ok (.iconst 1, 1) := by decide +kernel
theorem dX9_isBoat_10 : decode cX9_isBoat 10 = .ok (.isub, 1) := by decide +kernel
theorem dX9_isBoat_11 : decode cX9_isBoat 11 = .ok (.invokestatic 107, 3) := by decide +kernel
theorem dX9_isBoat_14 : decode cX9_isBoat 14 = .ok (.ireturn, 1) := by decide +kernel
theorem dX9_areTwo_0 : decode cX9_areTwo 0 = .ok (.aload_n 0, 1) := by decide +kernel
theorem dX9_areTwo_1 : decode cX9_areTwo 1 = .ok (.iload_n 1, 1) := by decide +kernel
theorem dX9_areTwo_2 : decode cX9_areTwo 2 = .ok (.invokevirtual 120, 3) := by decide +kernel
theorem dX9_areTwo_5 : decode cX9_areTwo 5 = .ok (.ifCond .eq 20, 3) := by decide +kernel
theorem dX9_areTwo_8 : decode cX9_areTwo 8 = .ok (.aload_n 0, 1) := by decide +kernel
theorem dX9_areTwo_9 : decode cX9_areTwo 9 = .ok (.iload_n 2, 1) := by decide +kernel
theorem dX9_areTwo_10 : decode cX9_areTwo 10 = .ok (.invokevirtual 120, 3) := by decide +kernel
theorem dX9_areTwo_13 : decode cX9_areTwo 13 = .ok (.ifCond .eq 12, 3) := by decide +kernel
theorem dX9_areTwo_16 : decode cX9_areTwo 16 = .ok (.iload_n 1, 1) := by decide +kernel
theorem dX9_areTwo_17 : decode cX9_areTwo 17 = .ok (.iload_n 2, 1) := by decide +kernel
theorem dX9_areTwo_18 : decode cX9_areTwo 18 = .ok (.if_icmp .eq 7, 3) := by decide +kernel
theorem dX9_areTwo_21 : decode cX9_areTwo 21 = .ok (.iconst 1, 1) := by decide +kernel
theorem dX9_areTwo_22 : decode cX9_areTwo 22 = .ok (.goto 4, 3) := by decide +kernel
theorem dX9_areTwo_25 : decode cX9_areTwo 25 = .ok (.iconst 0, 1) := by decide +kernel
theorem dX9_areTwo_26 : decode cX9_areTwo 26 = .ok (.ireturn, 1) := by decide +kernel
theorem dX9_layText_0 : decode cX9_layText 0 = .ok (.aload_n 0, 1) := by decide +kernel
theorem dX9_layText_1 : decode cX9_layText 1 = .ok (.getfield 28, 3) := by decide +kernel
theorem dX9_layText_4 : decode cX9_layText 4 = .ok (.invokevirtual 114, 3) := by decide +kernel
theorem dX9_layText_7 : decode cX9_layText 7 = .ok (.bipush (-4), 2) := by decide +kernel
theorem dX9_layText_9 : decode cX9_layText 9 = .ok (.if_icmp .ne 13, 3) := by decide +kernel
theorem dX9_layText_12 : decode cX9_layText 12 = .ok (.aload_n 0, 1) := by decide +kernel
theorem dX9_layText_13 : decode cX9_layText 13 = .ok (.getfield 19, 3) := by decide +kernel
theorem dX9_layText_16 : decode cX9_layText 16 = .ok (.getfield 117, 3) := by decide +kernel
theorem dX9_layText_19 : decode cX9_layText 19 = .ok (.ifCond .ne 5, 3) := by decide +kernel
theorem dX9_layText_22 : decode cX9_layText 22 = .ok (.iconst 0, 1) := by decide +kernel
theorem dX9_layText_23 : decode cX9_layText 23 = .ok (.ireturn, 1) := by decide +kernel
theorem dX9_layText_24 : decode cX9_layText 24 = .ok (.aload_n 0, 1) := by decide +kernel
theorem dX9_layText_25 : decode cX9_layText 25 = .ok (.getfield 32, 3) := by decide +kernel
theorem dX9_layText_28 : decode cX9_layText 28 = .ok (.aload_n 0, 1) := by decide +kernel
theorem dX9_layText_29 : decode cX9_layText 29 = .ok (.getfield 19, 3) := by decide +kernel
theorem dX9_layText_32 : decode cX9_layText 32 = .ok (.invokevirtual 254, 3) := by decide +kernel
theorem dX9_layText_35 : decode cX9_layText 35 = .ok (.aload_n 0, 1) := by decide +kernel
theorem dX9_layText_36 : decode cX9_layText 36 = .ok (.getfield 38, 3) := by decide +kernel
theorem dX9_layText_39 : decode cX9_layText 39 = .ok (.aload_n 0, 1) := by decide +kernel
theorem dX9_layText_40 : decode cX9_layText 40 = .ok (.getfield 32, 3) := by decide +kernel
theorem dX9_layText_43 : decode cX9_layText 43 = .ok (.invokevirtual 256, 3) := by decide +kernel
theorem dX9_layText_46 : decode cX9_layText 46 = .ok (.aload_n 0, 1) := by decide +kernel
theorem dX9_layText_47 : decode cX9_layText 47 = .ok (.getfield 66, 3) := by decide +kernel
theorem dX9_layText_50 : decode cX9_layText 50 = .ok (.iconst 0, 1) := by decide +kernel
theorem dX9_layText_51 : decode cX9_layText 51 = .ok (.putfield 184, 3) := by decide +kernel
theorem dX9_layText_54 : decode cX9_layText 54 = .ok (.aload_n 0, 1) := by decide +kernel
theorem dX9_layText_55 : decode cX9_layText 55 = .ok (.getfield 73, 3) := by decide +kernel
theorem dX9_layText_58 : decode cX9_layText 58 = .ok (.invokevirtual 234, 3) := by decide +kernel
theorem dX9_layText_61 : decode cX9_layText 61 = .ok (.pop, 1) := by decide +kernel
theorem dX9_layText_62 : decode cX9_layText 62 = .ok (.aload_n 0, 1) := by decide +kernel
theorem dX9_layText_63 : decode cX9_layText 63 = .ok (.getfield 80, 3) := by decide +kernel
theorem dX9_layText_66 : decode cX9_layText 66 = .ok (.iconst 0, 1) := by decide +kernel
theorem dX9_layText_67 : decode cX9_layText 67 = .ok (.putfield 247, 3) := by decide +kernel
theorem dX9_layText_70 : decode cX9_layText 70 = .ok (.iconst 1, 1) := by decide +kernel
theorem dX9_layText_71 : decode cX9_layText 71 = .ok (.ireturn, 1) := by decide +kernel
theorem dX9_leastRule_0 : decode cX9_leastRule 0 = .ok (.iconst 0, 1) := by decide +kernel
theorem dX9_leastRule_1 : decode cX9_leastRule 1 = .ok (.istore_n 1, 1) := by decide +kernel
theorem dX9_leastRule_2 : decode cX9_leastRule 2 = .ok (.aload_n 0, 1) := by decide +kernel
theorem dX9_leastRule_3 : decode cX9_leastRule 3 = .ok (.getfield 59, 3) := by decide +kernel
theorem dX9_leastRule_6 : decode cX9_leastRule 6 = .ok (.aload_n 0, 1) := by decide +kernel
theorem dX9_leastRule_7 : decode cX9_leastRule 7 = .ok (.getfield 38, 3) := by decide +kernel
theorem dX9_leastRule_10 : decode cX9_leastRule 10 = .ok (.iconst 0, 1) := by decide +kernel
theorem dX9_leastRule_11 : decode cX9_leastRule 11 = .ok (.bipush 120, 2) := by decide +kernel
theorem dX9_leastRule_13 : decode cX9_leastRule 13 = .ok (.invokevirtual 145, 3) := by decide +kernel
theorem dX9_leastRule_16 : decode cX9_leastRule 16 = .ok (.istore_n 2, 1) := by decide +kernel
theorem dX9_leastRule_17 : decode cX9_leastRule 17 = .ok (.iconst 1, 1) := by decide +kernel
theorem dX9_leastRule_18 : decode cX9_leastRule 18 = .ok (.istore_n 3, 1) := by decide +kernel
theorem dX9_leastRule_19 : decode cX9_leastRule 19 = .ok (.iload_n 3, 1) := by decide +kernel
theorem dX9_leastRule_20 : decode cX9_leastRule 20 = .ok (.iconst 4, 1) := by decide +kernel
theorem dX9_leastRule_21 : decode cX9_leastRule 21 = .ok (.if_icmp .ge 36, 3) := by decide +kernel
theorem dX9_leastRule_24 : decode cX9_leastRule 24 = .ok (.aload_n 0, 1) := by decide +kernel
theorem dX9_leastRule_25 : decode cX9_leastRule 25 = .ok (.getfield 59, 3) := by decide +kernel
theorem dX9_leastRule_28 : decode cX9_leastRule 28 = .ok (.aload_n 0, 1) := by decide +kernel
theorem dX9_leastRule_29 : decode cX9_leastRule 29 = .ok (.getfield 38, 3) := by decide +kernel
theorem dX9_leastRule_32 : decode cX9_leastRule 32 = .ok (.iload_n 3, 1) := by decide +kernel
theorem dX9_leastRule_33 : decode cX9_leastRule 33 = .ok (.bipush 120, 2) := by decide +kernel
theorem dX9_leastRule_35 : decode cX9_leastRule 35 = .ok (.invokevirtual 145, 3) := by decide +kernel
theorem dX9_leastRule_38 : decode cX9_leastRule 38 = .ok (.istore 4, 2) := by decide +kernel
theorem dX9_leastRule_40 : decode cX9_leastRule 40 = .ok (.iload 4, 2) := by decide +kernel
theorem dX9_leastRule_42 : decode cX9_leastRule 42 = .ok (.iload_n 2, 1) := by decide +kernel
theorem dX9_leastRule_43 : decode cX9_leastRule 43 = .ok (.if_icmp .ge 8, 3) := by decide +kernel
theorem dX9_leastRule_46 : decode cX9_leastRule 46 = .ok (.iload 4, 2) := by decide +kernel
theorem dX9_leastRule_48 : decode cX9_leastRule 48 = .ok (.istore_n 2, 1) := by decide +kernel
theorem dX9_leastRule_49 : decode cX9_leastRule 49 = .ok (.iload_n 3, 1) := by decide +kernel
theorem dX9_leastRule_50 : decode cX9_leastRule 50 = .ok (.istore_n 1, 1) := by decide +kernel
theorem dX9_leastRule_51 : decode cX9_leastRule 51 = .ok (.iinc 3 1, 3) := by decide +kernel
theorem dX9_leastRule_54 : decode cX9_leastRule 54 = .ok (.goto (-35), 3) := by decide +kernel
theorem dX9_leastRule_57 : decode cX9_leastRule 57 = .ok (.iload_n 1, 1) := by decide +kernel
theorem dX9_leastRule_58 : decode cX9_leastRule 58 = .ok (.ireturn, 1) := by decide +kernel
theorem dX9_standExchanged_0 : decode cX9_standExchanged 0 = .ok (.aload_n 0, 1) := by decide +kernel
theorem dX9_standExchanged_1 : decode cX9_standExchanged 1 = .ok (.getfield 42, 3) := by decide +kernel
theorem dX9_standExchanged_4 : decode cX9_standExchanged 4 = .ok (.aload_n 0, 1) := by decide +kernel
theorem dX9_standExchanged_5 : decode cX9_standExchanged 5 = .ok (.getfield 38, 3) := by decide +kernel
theorem dX9_standExchanged_8 : decode cX9_standExchanged 8 = .ok (.invokevirtual 198, 3) := by decide +kernel
theorem dX9_standExchanged_11 : decode cX9_standExchanged 11 = .ok (.aload_n 0, 1) := by decide +kernel
theorem dX9_standExchanged_12 : decode cX9_standExchanged 12 = .ok (.getfield 42, 3) := by decide +kernel
theorem dX9_standExchanged_15 : decode cX9_standExchanged 15 = .ok (.getfield 133, 3) := by decide +kernel
theorem dX9_standExchanged_18 : decode cX9_standExchanged 18 = .ok (.iload_n 2, 1) := by decide +kernel
theorem dX9_standExchanged_19 : decode cX9_standExchanged 19 = .ok (.aload_n 0, 1) := by decide +kernel
theorem dX9_standExchanged_20 : decode cX9_standExchanged 20 = .ok (.getfield 38, 3) := by decide +kernel
theorem dX9_standExchanged_23 : decode cX9_standExchanged 23 = .ok (.getfield 133, 3) := by decide +kernel
theorem dX9_standExchanged_26 : decode cX9_standExchanged 26 = .ok (.iload_n 3, 1) := by decide +kernel
theorem dX9_standExchanged_27 : decode cX9_standExchanged 27 = .ok (.iaload, 1) := by decide +kernel
theorem dX9_standExchanged_28 : decode cX9_standExchanged 28 = .ok (.iastore, 1) := by decide +kernel
theorem dX9_standExchanged_29 : decode cX9_standExchanged 29 = .ok (.aload_n 0, 1) := by decide +kernel
theorem dX9_standExchanged_30 : decode cX9_standExchanged 30 = .ok (.getfield 42, 3) := by decide +kernel
theorem dX9_standExchanged_33 : decode cX9_standExchanged 33 = .ok (.getfield 133, 3) := by decide +kernel
theorem dX9_standExchanged_36 : decode cX9_standExchanged 36 = .ok (.iload_n 3, 1) := by decide +kernel
theorem dX9_standExchanged_37 : decode cX9_standExchanged 37 = .ok (.aload_n 0, 1) := by decide +kernel
theorem dX9_standExchanged_38 : decode cX9_standExchanged 38 = .ok (.getfield 38, 3) := by decide +kernel
theorem dX9_standExchanged_41 : decode cX9_standExchanged 41 = .ok (.getfield 133, 3) := by decide +kernel
theorem dX9_standExchanged_44 : decode cX9_standExchanged 44 = .ok (.iload_n 2, 1) := by decide +kernel
theorem dX9_standExchanged_45 : decode cX9_standExchanged 45 = .ok (.iaload, 1) := by decide +kernel
theorem dX9_standExchanged_46 : decode cX9_standExchanged 46 = .ok (.iastore, 1) := by decide +kernel
theorem dX9_standExchanged_47 : decode cX9_standExchanged 47 = .ok (.aload_n 0, 1) := by decide +kernel
theorem dX9_standExchanged_48 : decode cX9_standExchanged 48 = .ok (.getfield 59, 3) := by decide +kernel
theorem dX9_standExchanged_51 : decode cX9_standExchanged 51 = .ok (.aload_n 0, 1) := by decide +kernel
theorem dX9_standExchanged_52 : decode cX9_standExchanged 52 = .ok (.getfield 42, 3) := by decide +kernel
theorem dX9_standExchanged_55 : decode cX9_standExchanged 55 = .ok (.iload_n 1, 1) := by decide +kernel
theorem dX9_standExchanged_56 : decode cX9_standExchanged 56 = .ok (.bipush 120, 2) := by decide +kernel
theorem dX9_standExchanged_58 : decode cX9_standExchanged 58 = .ok (.invokevirtual 145, 3) := by decide +kernel
theorem dX9_standExchanged_61 : decode cX9_standExchanged 61 = .ok (.ireturn, 1) := by decide +kernel
theorem dX9_minutesToSink_0 : decode cX9_minutesToSink 0 = .ok (.aload_n 0, 1) := by decide +kernel
theorem dX9_minutesToSink_1 : decode cX9_minutesToSink 1 = .ok (.getfield 38, 3) := by decide +kernel
theorem dX9_minutesToSink_4 : decode cX9_minutesToSink 4 = .ok (.getfield 133, 3) := by decide +kernel
theorem dX9_minutesToSink_7 : decode cX9_minutesToSink 7 = .ok (.iload_n 1, 1) := by decide +kernel
theorem dX9_minutesToSink_8 : decode cX9_minutesToSink 8 = .ok (.iaload, 1) := by decide +kernel
theorem dX9_minutesToSink_9 : decode cX9_minutesToSink 9 = .ok (.iconst 1, 1) := by decide +kernel
theorem dX9_minutesToSink_10 : decode cX9_minutesToSink 10 = .ok (.iadd, 1) := by decide +kernel
theorem dX9_minutesToSink_11 : decode cX9_minutesToSink 11 = .ok (.istore_n 2, 1) := by decide +kernel
theorem dX9_minutesToSink_12 : decode cX9_minutesToSink 12 = .ok (.aload_n 0, 1) := by decide +kernel
theorem dX9_minutesToSink_13 : decode cX9_minutesToSink 13 = .ok (.getfield 32, 3) := by decide +kernel
theorem dX9_minutesToSink_16 : decode cX9_minutesToSink 16 = .ok (.getfield 259, 3) := by decide +kernel
theorem dX9_minutesToSink_19 : decode cX9_minutesToSink 19 = .ok (.iconst 1, 1) := by decide +kernel
theorem dX9_minutesToSink_20 : decode cX9_minutesToSink 20 = .ok (.invokestatic 223, 3) := by decide +kernel
theorem dX9_minutesToSink_23 : decode cX9_minutesToSink 23 = .ok (.istore_n 3, 1) := by decide +kernel
theorem dX9_minutesToSink_24 : decode cX9_minutesToSink 24 = .ok (.iload_n 2, 1) := by decide +kernel
theorem dX9_minutesToSink_25 : decode cX9_minutesToSink 25 = .ok (.iload_n 3, 1) := by decide +kernel
theorem dX9_minutesToSink_26 : decode cX9_minutesToSink 26 = .ok (.iadd, 1) := by decide +kernel
theorem dX9_minutesToSink_27 : decode cX9_minutesToSink 27 = .ok (.iconst 1, 1) := by decide +kernel
theorem dX9_minutesToSink_28 : decode cX9_minutesToSink 28 = .ok (.isub, 1) := by decide +kernel
theorem dX9_minutesToSink_29 : decode cX9_minutesToSink 29 = .ok (.iload_n 3, 1) := by decide +kernel
theorem dX9_minutesToSink_30 : decode cX9_minutesToSink 30 = .ok (.idiv, 1) := by decide +kernel
theorem dX9_minutesToSink_31 : decode cX9_minutesToSink 31 = .ok (.ireturn, 1) := by decide +kernel
theorem dX9_waysToSinkLess_0 : decode cX9_waysToSinkLess 0 = .ok (.iconst 0, 1) := by decide +kernel
theorem dX9_waysToSinkLess_1 : decode cX9_waysToSinkLess 1 = .ok (.istore_n 3, 1) := by decide +kernel
theorem dX9_waysToSinkLess_2 : decode cX9_waysToSinkLess 2 = .ok (.iconst 1, 1) := by decide +kernel
theorem dX9_waysToSinkLess_3 : decode cX9_waysToSinkLess 3 = .ok (.istore 4, 2) := by decide +kernel
theorem dX9_waysToSinkLess_5 : decode cX9_waysToSinkLess 5 = .ok (.iconst 0, 1) := by decide +kernel
theorem dX9_waysToSinkLess_6 : decode cX9_waysToSinkLess 6 = .ok (.istore 5, 2) := by decide +kernel
theorem dX9_waysToSinkLess_8 : decode cX9_waysToSinkLess 8 = .ok (.iload 5, 2) := by decide +kernel
theorem dX9_waysToSinkLess_10 : decode cX9_waysToSinkLess 10 = .ok (.iload_n 1, 1) := by decide +kernel
theorem dX9_waysToSinkLess_11 : decode cX9_waysToSinkLess 11 = .ok (.if_icmp .gt 53, 3) := by decide +kernel
theorem dX9_waysToSinkLess_14 : decode cX9_waysToSinkLess 14 = .ok (.iload 5, 2) := by decide +kernel
theorem dX9_waysToSinkLess_16 : decode cX9_waysToSinkLess 16 = .ok (.iload_n 0, 1) := by decide +kernel
theorem dX9_waysToSinkLess_17 : decode cX9_waysToSinkLess 17 = .ok (.if_icmp .ge 47, 3) := by decide +kernel
theorem dX9_waysToSinkLess_20 : decode cX9_waysToSinkLess 20 = .ok (.iload_n 3, 1) := by decide +kernel
theorem dX9_waysToSinkLess_21 : decode cX9_waysToSinkLess 21 = .ok (.iload 4, 2) := by decide +kernel
theorem dX9_waysToSinkLess_23 : decode cX9_waysToSinkLess 23 = .ok (.iload_n 2, 1) := by decide +kernel
theorem dX9_waysToSinkLess_24 : decode cX9_waysToSinkLess 24 = .ok (.iload 5, 2) := by decide +kernel
theorem dX9_waysToSinkLess_26 : decode cX9_waysToSinkLess 26 = .ok (.invokestatic 216, 3) := by decide +kernel
theorem dX9_waysToSinkLess_29 : decode cX9_waysToSinkLess 29 = .ok (.imul, 1) := by decide +kernel
theorem dX9_waysToSinkLess_30 : decode cX9_waysToSinkLess 30 = .ok (.bipush 10, 2) := by decide +kernel
theorem dX9_waysToSinkLess_32 : decode cX9_waysToSinkLess 32 = .ok (.iload_n 2, 1) := by decide +kernel
theorem dX9_waysToSinkLess_33 : decode cX9_waysToSinkLess 33 = .ok (.isub, 1) := by decide +kernel
theorem dX9_waysToSinkLess_34 : decode cX9_waysToSinkLess 34 = .ok (.iload_n 1, 1) := by decide +kernel
theorem dX9_waysToSinkLess_35 : decode cX9_waysToSinkLess 35 = .ok (.iload 5, 2) := by decide +kernel
theorem dX9_waysToSinkLess_37 : decode cX9_waysToSinkLess 37 = .ok (.isub, 1) := by decide +kernel
theorem dX9_waysToSinkLess_38 : decode cX9_waysToSinkLess 38 = .ok (.invokestatic 216, 3) := by decide +kernel
theorem dX9_waysToSinkLess_41 : decode cX9_waysToSinkLess 41 = .ok (.imul, 1) := by decide +kernel
theorem dX9_waysToSinkLess_42 : decode cX9_waysToSinkLess 42 = .ok (.iadd, 1) := by decide +kernel
theorem dX9_waysToSinkLess_43 : decode cX9_waysToSinkLess 43 = .ok (.istore_n 3, 1) := by decide +kernel
theorem dX9_waysToSinkLess_44 : decode cX9_waysToSinkLess 44 = .ok (.iload 4, 2) := by decide +kernel
theorem dX9_waysToSinkLess_46 : decode cX9_waysToSinkLess 46 = .ok (.iload_n 1, 1) := by decide +kernel
theorem dX9_waysToSinkLess_47 : decode cX9_waysToSinkLess 47 = .ok (.iload 5, 2) := by decide +kernel
theorem dX9_waysToSinkLess_49 : decode cX9_waysToSinkLess 49 = .ok (.isub, 1) := by decide +kernel
theorem dX9_waysToSinkLess_50 : decode cX9_waysToSinkLess 50 = .ok (.imul, 1) := by decide +kernel
theorem dX9_waysToSinkLess_51 : decode cX9_waysToSinkLess 51 = .ok (.iload 5, 2) := by decide +kernel
theorem dX9_waysToSinkLess_53 : decode cX9_waysToSinkLess 53 = .ok (.iconst 1, 1) := by decide +kernel
theorem dX9_waysToSinkLess_54 : decode cX9_waysToSinkLess 54 = .ok (.iadd, 1) := by decide +kernel
theorem dX9_waysToSinkLess_55 : decode cX9_waysToSinkLess 55 = .ok (.idiv, 1) := by decide +kernel
theorem dX9_waysToSinkLess_56 : decode cX9_waysToSinkLess 56 = .ok (.istore 4, 2) := by decide +kernel
theorem dX9_waysToSinkLess_58 : decode cX9_waysToSinkLess 58 = .ok (.iinc 5 1, 3) := by decide +kernel
theorem dX9_waysToSinkLess_61 : decode cX9_waysToSinkLess 61 = .ok (.goto (-53), 3) := by decide +kernel
theorem dX9_waysToSinkLess_64 : decode cX9_waysToSinkLess 64 = .ok (.iload_n 3, 1) := by decide +kernel
theorem dX9_waysToSinkLess_65 : decode cX9_waysToSinkLess 65 = .ok (.ireturn, 1) := by decide +kernel
theorem dX9_power_0 : decode cX9_power 0 = .ok (.iconst 1, 1) := by decide +kernel
theorem dX9_power_1 : decode cX9_power 1 = .ok (.istore_n 2, 1) := by decide +kernel
theorem dX9_power_2 : decode cX9_power 2 = .ok (.iconst 0, 1) := by decide +kernel
theorem dX9_power_3 : decode cX9_power 3 = .ok (.istore_n 3, 1) := by decide +kernel
theorem dX9_power_4 : decode cX9_power 4 = .ok (.iload_n 3, 1) := by decide +kernel
theorem dX9_power_5 : decode cX9_power 5 = .ok (.iload_n 1, 1) := by decide +kernel
theorem dX9_power_6 : decode cX9_power 6 = .ok (.if_icmp .ge 13, 3) := by decide +kernel
theorem dX9_power_9 : decode cX9_power 9 = .ok (.iload_n 2, 1) := by decide +kernel
theorem dX9_power_10 : decode cX9_power 10 = .ok (.iload_n 0, 1) := by decide +kernel
theorem dX9_power_11 : decode cX9_power 11 = .ok (.imul, 1) := by decide +kernel
theorem dX9_power_12 : decode cX9_power 12 = .ok (.istore_n 2, 1) := by decide +kernel
theorem dX9_power_13 : decode cX9_power 13 = .ok (.iinc 3 1, 3) := by decide +kernel
theorem dX9_power_16 : decode cX9_power 16 = .ok (.goto (-12), 3) := by decide +kernel
theorem dX9_power_19 : decode cX9_power 19 = .ok (.iload_n 2, 1) := by decide +kernel
theorem dX9_power_20 : decode cX9_power 20 = .ok (.ireturn, 1) := by decide +kernel
theorem dX9_commonDivisor_0 : decode cX9_commonDivisor 0 = .ok (.iload_n 0, 1) := by decide +kernel
theorem dX9_commonDivisor_1 : decode cX9_commonDivisor 1 = .ok (.iload_n 1, 1) := by decide +kernel
theorem dX9_commonDivisor_2 : decode cX9_commonDivisor 2 = .ok (.invokestatic 223, 3) := by decide +kernel
theorem dX9_commonDivisor_5 : decode cX9_commonDivisor 5 = .ok (.istore_n 2, 1) := by decide +kernel
theorem dX9_commonDivisor_6 : decode cX9_commonDivisor 6 = .ok (.iload_n 0, 1) := by decide +kernel
theorem dX9_commonDivisor_7 : decode cX9_commonDivisor 7 = .ok (.iload_n 1, 1) := by decide +kernel
theorem dX9_commonDivisor_8 : decode cX9_commonDivisor 8 = .ok (.invokestatic 262, 3) := by decide +kernel
theorem dX9_commonDivisor_11 : decode cX9_commonDivisor 11 = .ok (.istore_n 3, 1) := by decide +kernel
theorem dX9_commonDivisor_12 : decode cX9_commonDivisor 12 = .ok (.iconst 0, 1) := by decide +kernel
theorem dX9_commonDivisor_13 : decode cX9_commonDivisor 13 = .ok (.istore 4, 2) := by decide +kernel
theorem dX9_commonDivisor_15 : decode cX9_commonDivisor 15 = .ok (.iload 4, 2) := by decide +kernel
theorem dX9_commonDivisor_17 : decode cX9_commonDivisor 17 = .ok (.bipush 64, 2) := by decide +kernel
theorem dX9_commonDivisor_19 : decode cX9_commonDivisor 19 = .ok (.if_icmp .ge 23, 3) := by decide +kernel
theorem dX9_commonDivisor_22 : decode cX9_commonDivisor 22 = .ok (.iload_n 3, 1) := by decide +kernel
theorem dX9_commonDivisor_23 : decode cX9_commonDivisor 23 = .ok (.ifCond .le 19, 3) := by decide +kernel
theorem dX9_commonDivisor_26 : decode cX9_commonDivisor 26 = .ok (.iload_n 2, 1) := by decide +kernel
theorem dX9_commonDivisor_27 : decode cX9_commonDivisor 27 = .ok (.iload_n 3, 1) := by decide +kernel
theorem dX9_commonDivisor_28 : decode cX9_commonDivisor 28 = .ok (.irem, 1) := by decide +kernel
theorem dX9_commonDivisor_29 : decode cX9_commonDivisor 29 = .ok (.istore 5, 2) := by decide +kernel
theorem dX9_commonDivisor_31 : decode cX9_commonDivisor 31 = .ok (.iload_n 3, 1) := by decide +kernel
theorem dX9_commonDivisor_32 : decode cX9_commonDivisor 32 = .ok (.istore_n 2, 1) := by decide +kernel
theorem dX9_commonDivisor_33 : decode cX9_commonDivisor 33 = .ok (.iload 5, 2) := by decide +kernel
theorem dX9_commonDivisor_35 : decode cX9_commonDivisor 35 = .ok (.istore_n 3, 1) := by decide +kernel
theorem dX9_commonDivisor_36 : decode cX9_commonDivisor 36 = .ok (.iinc 4 1, 3) := by decide +kernel
theorem dX9_commonDivisor_39 : decode cX9_commonDivisor 39 = .ok (.goto (-24), 3) := by decide +kernel
theorem dX9_commonDivisor_42 : decode cX9_commonDivisor 42 = .ok (.iload_n 2, 1) := by decide +kernel
theorem dX9_commonDivisor_43 : decode cX9_commonDivisor 43 = .ok (.ireturn, 1) := by decide +kernel
theorem dX9_isRest_0 : decode cX9_isRest 0 = .ok (.iload_n 3, 1) := by decide +kernel
theorem dX9_isRest_1 : decode cX9_isRest 1 = .ok (.ifCond .eq 8, 3) := by decide +kernel
theorem dX9_isRest_4 : decode cX9_isRest 4 = .ok (.iload_n 3, 1) := by decide +kernel
theorem dX9_isRest_5 : decode cX9_isRest 5 = .ok (.iconst 1, 1) := by decide +kernel
theorem dX9_isRest_6 : decode cX9_isRest 6 = .ok (.if_icmp .ne 7, 3) := by decide +kernel
theorem dX9_isRest_9 : decode cX9_isRest 9 = .ok (.iconst 1, 1) := by decide +kernel
theorem dX9_isRest_10 : decode cX9_isRest 10 = .ok (.goto 4, 3) := by decide +kernel
theorem dX9_isRest_13 : decode cX9_isRest 13 = .ok (.iconst 0, 1) := by decide +kernel
theorem dX9_isRest_14 : decode cX9_isRest 14 = .ok (.istore 4, 2) := by decide +kernel
theorem dX9_isRest_16 : decode cX9_isRest 16 = .ok (.iload_n 3, 1) := by decide +kernel
theorem dX9_isRest_17 : decode cX9_isRest 17 = .ok (.ifCond .eq 8, 3) := by decide +kernel
theorem dX9_isRest_20 : decode cX9_isRest 20 = .ok (.iload_n 3, 1) := by decide +kernel
theorem dX9_isRest_21 : decode cX9_isRest 21 = .ok (.iconst 2, 1) := by decide +kernel
theorem dX9_isRest_22 : decode cX9_isRest 22 = .ok (.if_icmp .ne 7, 3) := by decide +kernel
theorem dX9_isRest_25 : decode cX9_isRest 25 = .ok (.iconst 1, 1) := by decide +kernel
theorem dX9_isRest_26 : decode cX9_isRest 26 = .ok (.goto 4, 3) := by decide +kernel
theorem dX9_isRest_29 : decode cX9_isRest 29 = .ok (.iconst 0, 1) := by decide +kernel
theorem dX9_isRest_30 : decode cX9_isRest 30 = .ok (.istore 5, 2) := by decide +kernel
theorem dX9_isRest_32 : decode cX9_isRest 32 = .ok (.aload_n 0, 1) := by decide +kernel
theorem dX9_isRest_33 : decode cX9_isRest 33 = .ok (.iload_n 1, 1) := by decide +kernel
theorem dX9_isRest_34 : decode cX9_isRest 34 = .ok (.iload 4, 2) := by decide +kernel
theorem dX9_isRest_36 : decode cX9_isRest 36 = .ok (.iload 5, 2) := by decide +kernel
theorem dX9_isRest_38 : decode cX9_isRest 38 = .ok (.invokevirtual 265, 3) := by decide +kernel
theorem dX9_isRest_41 : decode cX9_isRest 41 = .ok (.aload_n 0, 1) := by decide +kernel
theorem dX9_isRest_42 : decode cX9_isRest 42 = .ok (.iload_n 1, 1) := by decide +kernel
theorem dX9_isRest_43 : decode cX9_isRest 43 = .ok (.iload 4, 2) := by decide +kernel
theorem dX9_isRest_45 : decode cX9_isRest 45 = .ok (.ifCond .ne 7, 3) := by decide +kernel
theorem dX9_isRest_48 : decode cX9_isRest 48 = .ok (.iconst 1, 1) := by decide +kernel
theorem dX9_isRest_49 : decode cX9_isRest 49 = .ok (.goto 4, 3) := by decide +kernel
theorem dX9_isRest_52 : decode cX9_isRest 52 = .ok (.iconst 0, 1) := by decide +kernel
theorem dX9_isRest_53 : decode cX9_isRest 53 = .ok (.iload 5, 2) := by decide +kernel
theorem dX9_isRest_55 : decode cX9_isRest 55 = .ok (.invokevirtual 265, 3) := by decide +kernel
theorem dX9_isRest_58 : decode cX9_isRest 58 = .ok (.if_icmp .gt 36, 3) := by decide +kernel
theorem dX9_isRest_61 : decode cX9_isRest 61 = .ok (.aload_n 0, 1) := by decide +kernel
theorem dX9_isRest_62 : decode cX9_isRest 62 = .ok (.iload_n 2, 1) := by decide +kernel
theorem dX9_isRest_63 : decode cX9_isRest 63 = .ok (.iload 5, 2) := by decide +kernel
theorem dX9_isRest_65 : decode cX9_isRest 65 = .ok (.iload 4, 2) := by decide +kernel
theorem dX9_isRest_67 : decode cX9_isRest 67 = .ok (.invokevirtual 265, 3) := by decide +kernel
theorem dX9_isRest_70 : decode cX9_isRest 70 = .ok (.aload_n 0, 1) := by decide +kernel
theorem dX9_isRest_71 : decode cX9_isRest 71 = .ok (.iload_n 2, 1) := by decide +kernel
theorem dX9_isRest_72 : decode cX9_isRest 72 = .ok (.iload 5, 2) := by decide +kernel
theorem dX9_isRest_74 : decode cX9_isRest 74 = .ok (.ifCond .ne 7, 3) := by decide +kernel
theorem dX9_isRest_77 : decode cX9_isRest 77 = .ok (.iconst 1, 1) := by decide +kernel
theorem dX9_isRest_78 : decode cX9_isRest 78 = .ok (.goto 4, 3) := by decide +kernel
theorem dX9_isRest_81 : decode cX9_isRest 81 = .ok (.iconst 0, 1) := by decide +kernel
theorem dX9_isRest_82 : decode cX9_isRest 82 = .ok (.iload 4, 2) := by decide +kernel
theorem dX9_isRest_84 : decode cX9_isRest 84 = .ok (.invokevirtual 265, 3) := by decide +kernel
theorem dX9_isRest_87 : decode cX9_isRest 87 = .ok (.if_icmp .gt 7, 3) := by decide +kernel
theorem dX9_isRest_90 : decode cX9_isRest 90 = .ok (.iconst 1, 1) := by decide +kernel
theorem dX9_isRest_91 : decode cX9_isRest 91 = .ok (.goto 4, 3) := by decide +kernel
theorem dX9_isRest_94 : decode cX9_isRest 94 = .ok (.iconst 0, 1) := by decide +kernel
theorem dX9_isRest_95 : decode cX9_isRest 95 = .ok (.ireturn, 1) := by decide +kernel
theorem dX9_standChoosing_0 : decode cX9_standChoosing 0 = .ok (.iload_n 2, 1) := by decide +kernel
theorem dX9_standChoosing_1 : decode cX9_standChoosing 1 = .ok (.ifCond .eq 21, 3) := by decide +kernel
theorem dX9_standChoosing_4 : decode cX9_standChoosing 4 = .ok (.aload_n 0, 1) := by decide +kernel
theorem dX9_standChoosing_5 : decode cX9_standChoosing 5 = .ok (.getfield 32, 3) := by decide +kernel
theorem dX9_standChoosing_8 : decode cX9_standChoosing 8 = .ok (.getfield 269, 3) := by decide +kernel
theorem dX9_standChoosing_11 : decode cX9_standChoosing 11 = .ok (.aload_n 0, 1) := by decide +kernel
theorem dX9_standChoosing_12 : decode cX9_standChoosing 12 = .ok (.getfield 38, 3) := by decide +kernel
theorem dX9_standChoosing_15 : decode cX9_standChoosing 15 = .ok (.getfield 133, 3) := by decide +kernel
theorem dX9_standChoosing_18 : decode cX9_standChoosing 18 = .ok (.iload_n 1, 1) := by decide +kernel
theorem dX9_standChoosing_19 : decode cX9_standChoosing 19 = .ok (.iaload, 1) := by decide +kernel
theorem dX9_standChoosing_20 : decode cX9_standChoosing 20 = .ok (.iadd, 1) := by decide +kernel
theorem dX9_standChoosing_21 : decode cX9_standChoosing 21 = .ok (.ireturn, 1) := by decide +kernel
theorem dX9_standChoosing_22 : decode cX9_standChoosing 22 = .ok (.iload_n 3, 1) := by decide +kernel
theorem dX9_standChoosing_23 : decode cX9_standChoosing 23 = .ok (.ifCond .eq 7, 3) := by decide +kernel
theorem dX9_standChoosing_26 : decode cX9_standChoosing 26 = .ok (.iconst 0, 1) := by decide +kernel
theorem dX9_standChoosing_27 : decode cX9_standChoosing 27 = .ok (.goto 10, 3) := by decide +kernel
theorem dX9_standChoosing_30 : decode cX9_standChoosing 30 = .ok (.aload_n 0, 1) := by decide +kernel
theorem dX9_standChoosing_31 : decode cX9_standChoosing 31 = .ok (.getfield 32, 3) := by decide +kernel
theorem dX9_standChoosing_34 : decode cX9_standChoosing 34 = .ok (.getfield 272, 3) := by decide +kernel
theorem dX9_standChoosing_37 : decode cX9_standChoosing 37 = .ok (.ireturn, 1) := by decide +kernel
theorem dX9_fitsSightings_0 : decode cX9_fitsSightings 0 = .ok (.iconst 0, 1) := by decide +kernel
theorem dX9_fitsSightings_1 : decode cX9_fitsSightings 1 = .ok (.istore_n 2, 1) := by decide +kernel
theorem dX9_fitsSightings_2 : decode cX9_fitsSightings 2 = .ok (.iload_n 2, 1) := by decide +kernel
theorem dX9_fitsSightings_3 : decode cX9_fitsSightings 3 = .ok (.aload_n 0, 1) := by decide +kernel
theorem dX9_fitsSightings_4 : decode cX9_fitsSightings 4 = .ok (.getfield 73, 3) := by decide +kernel
theorem dX9_fitsSightings_7 : decode cX9_fitsSightings 7 = .ok (.getfield 233, 3) := by decide +kernel
theorem dX9_fitsSightings_10 : decode cX9_fitsSightings 10 = .ok (.if_icmp .ge 47, 3) := by decide +kernel
theorem dX9_fitsSightings_13 : decode cX9_fitsSightings 13 = .ok (.aload_n 0, 1) := by decide +kernel
theorem dX9_fitsSightings_14 : decode cX9_fitsSightings 14 = .ok (.getfield 73, 3) := by decide +kernel
theorem dX9_fitsSightings_17 : decode cX9_fitsSightings 17 = .ok (.getfield 275, 3) := by decide +kernel
theorem dX9_fitsSightings_20 : decode cX9_fitsSightings 20 = .ok (.iload_n 2, 1) := by decide +kernel
theorem dX9_fitsSightings_21 : decode cX9_fitsSightings 21 = .ok (.iaload, 1) := by decide +kernel
theorem dX9_fitsSightings_22 : decode cX9_fitsSightings 22 = .ok (.istore_n 3, 1) := by decide +kernel
theorem dX9_fitsSightings_23 : decode cX9_fitsSightings 23 = .ok (.aload_n 0, 1) := by decide +kernel
theorem dX9_fitsSightings_24 : decode cX9_fitsSightings 24 = .ok (.getfield 50, 3) := by decide +kernel
theorem dX9_fitsSightings_27 : decode cX9_fitsSightings 27 = .ok (.aload_n 0, 1) := by decide +kernel
theorem dX9_fitsSightings_28 : decode cX9_fitsSightings 28 = .ok (.getfield 38, 3) := by decide +kernel
theorem dX9_fitsSightings_31 : decode cX9_fitsSightings 31 = .ok (.iload_n 1, 1) := by decide +kernel
theorem dX9_fitsSightings_32 : decode cX9_fitsSightings 32 = .ok (.iload_n 3, 1) := by decide +kernel
theorem dX9_fitsSightings_33 : decode cX9_fitsSightings 33 = .ok (.aload_n 0, 1) := by decide +kernel
theorem dX9_fitsSightings_34 : decode cX9_fitsSightings 34 = .ok (.getfield 73, 3) := by decide +kernel
theorem dX9_fitsSightings_37 : decode cX9_fitsSightings 37 = .ok (.getfield 277, 3) := by decide +kernel
theorem dX9_fitsSightings_40 : decode cX9_fitsSightings 40 = .ok (.iload_n 2, 1) := by decide +kernel
theorem dX9_fitsSightings_41 : decode cX9_fitsSightings 41 = .ok (.iaload, 1) := by decide +kernel
theorem dX9_fitsSightings_42 : decode cX9_fitsSightings 42 = .ok (.invokevirtual 191, 3) := by decide +kernel
theorem dX9_fitsSightings_45 : decode cX9_fitsSightings 45 = .ok (.iload_n 3, 1) := by decide +kernel
theorem dX9_fitsSightings_46 : decode cX9_fitsSightings 46 = .ok (.if_icmp .eq 5, 3) := by decide +kernel
theorem dX9_fitsSightings_49 : decode cX9_fitsSightings 49 = .ok (.iconst 0, 1) := by decide +kernel
theorem dX9_fitsSightings_50 : decode cX9_fitsSightings 50 = .ok (.ireturn, 1) := by decide +kernel
theorem dX9_fitsSightings_51 : decode cX9_fitsSightings 51 = .ok (.iinc 2 1, 3) := by decide +kernel
theorem dX9_fitsSightings_54 : decode cX9_fitsSightings 54 = .ok (.goto (-52), 3) := by decide +kernel
theorem dX9_fitsSightings_57 : decode cX9_fitsSightings 57 = .ok (.iconst 1, 1) := by decide +kernel
theorem dX9_fitsSightings_58 : decode cX9_fitsSightings 58 = .ok (.ireturn, 1) := by decide +kernel

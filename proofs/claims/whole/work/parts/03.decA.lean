theorem dX0_init_0 : decode cX0_init 0 = .ok (.aload_n 0, 1) := by decide +kernel
theorem dX0_init_1 : decode cX0_init 1 = .ok (.invokespecial 3, 3) := by decide +kernel
theorem dX0_init_4 : decode cX0_init 4 = .ok (.aload_n 0, 1) := by decide +kernel
theorem dX0_init_5 : decode cX0_init 5 = .ok (.bipush 8, 2) := by decide +kernel
theorem dX0_init_7 : decode cX0_init 7 = .ok (.newarray .int, 2) := by decide +kernel
theorem dX0_init_9 : decode cX0_init 9 = .ok (.putfield 9, 3) := by decide +kernel
theorem dX0_init_12 : decode cX0_init 12 = .ok (.aload_n 0, 1) := by decide +kernel
theorem dX0_init_13 : decode cX0_init 13 = .ok (.bipush 8, 2) := by decide +kernel
theorem dX0_init_15 : decode cX0_init 15 = .ok (.newarray .boolean, 2) := by decide +kernel
theorem dX0_init_17 : decode cX0_init 17 = .ok (.putfield 15, 3) := by decide +kernel
theorem dX0_init_20 : decode cX0_init 20 = .ok (.aload_n 0, 1) := by decide +kernel
theorem dX0_init_21 : decode cX0_init 21 = .ok (.bipush 8, 2) := by decide +kernel
theorem dX0_init_23 : decode cX0_init 23 = .ok (.newarray .int, 2) := by decide +kernel
theorem dX0_init_25 : decode cX0_init 25 = .ok (.putfield 19, 3) := by decide +kernel
theorem dX0_init_28 : decode cX0_init 28 = .ok (.aload_n 0, 1) := by decide +kernel
theorem dX0_init_29 : decode cX0_init 29 = .ok (.iconst 0, 1) := by decide +kernel
theorem dX0_init_30 : decode cX0_init 30 = .ok (.putfield 22, 3) := by decide +kernel
theorem dX0_init_33 : decode cX0_init 33 = .ok (.return_, 1) := by decide +kernel
theorem dX0_note_0 : decode cX0_note 0 = .ok (.aload_n 0, 1) := by decide +kernel
theorem dX0_note_1 : decode cX0_note 1 = .ok (.getfield 22, 3) := by decide +kernel
theorem dX0_note_4 : decode cX0_note 4 = .ok (.bipush 8, 2) := by decide +kernel
theorem dX0_note_6 : decode cX0_note 6 = .ok (.if_icmp .lt 7, 3) := by decide +kernel
theorem dX0_note_9 : decode cX0_note 9 = .ok (.aload_n 0, 1) := by decide +kernel
theorem dX0_note_10 : decode cX0_note 10 = .ok (.invokevirtual 26, 3) := by decide +kernel
theorem dX0_note_13 : decode cX0_note 13 = .ok (.aload_n 0, 1) := by decide +kernel
theorem dX0_note_14 : decode cX0_note 14 = .ok (.getfield 9, 3) := by decide +kernel
theorem dX0_note_17 : decode cX0_note 17 = .ok (.aload_n 0, 1) := by decide +kernel
theorem dX0_note_18 : decode cX0_note 18 = .ok (.getfield 22, 3) := by decide +kernel
theorem dX0_note_21 : decode cX0_note 21 = .ok (.iload_n 1, 1) := by decide +kernel
theorem dX0_note_22 : decode cX0_note 22 = .ok (.iastore, 1) := by decide +kernel
theorem dX0_note_23 : decode cX0_note 23 = .ok (.aload_n 0, 1) := by decide +kernel
theorem dX0_note_24 : decode cX0_note 24 = .ok (.getfield 15, 3) := by decide +kernel
theorem dX0_note_27 : decode cX0_note 27 = .ok (.aload_n 0, 1) := by decide +kernel
theorem dX0_note_28 : decode cX0_note 28 = .ok (.getfield 22, 3) := by decide +kernel
theorem dX0_note_31 : decode cX0_note 31 = .ok (.iload_n 2, 1) := by decide +kernel
theorem dX0_note_32 : decode cX0_note 32 = .ok (.bastore, 1) := by decide +kernel
theorem dX0_note_33 : decode cX0_note 33 = .ok (.aload_n 0, 1) := by decide +kernel
theorem dX0_note_34 : decode cX0_note 34 = .ok (.getfield 19, 3) := by decide +kernel
theorem dX0_note_37 : decode cX0_note 37 = .ok (.aload_n 0, 1) := by decide +kernel
theorem dX0_note_38 : decode cX0_note 38 = .ok (.getfield 22, 3) := by decide +kernel
theorem dX0_note_41 : decode cX0_note 41 = .ok (.iload_n 3, 1) := by decide +kernel
theorem dX0_note_42 : decode cX0_note 42 = .ok (.iastore, 1) := by decide +kernel
theorem dX0_note_43 : decode cX0_note 43 = .ok (.aload_n 0, 1) := by decide +kernel
theorem dX0_note_44 : decode cX0_note 44 = .ok (.dup, 1) := by decide +kernel
theorem dX0_note_45 : decode cX0_note 45 = .ok (.getfield 22, 3) := by decide +kernel
theorem dX0_note_48 : decode cX0_note 48 = .ok (.iconst 1, 1) := by decide +kernel
theorem dX0_note_49 : decode cX0_note 49 = .ok (.iadd, 1) := by decide +kernel
theorem dX0_note_50 : decode cX0_note 50 = .ok (.putfield 22, 3) := by decide +kernel
theorem dX0_note_53 : decode cX0_note 53 = .ok (.return_, 1) := by decide +kernel
theorem dX0_dropOldest_0 : decode cX0_dropOldest 0 = .ok (.iconst 1, 1) := by decide +kernel
theorem dX0_dropOldest_1 : decode cX0_dropOldest 1 = .ok (.istore_n 1, 1) := by decide +kernel
theorem dX0_dropOldest_2 : decode cX0_dropOldest 2 = .ok (.iload_n 1, 1) := by decide +kernel
theorem dX0_dropOldest_3 : decode cX0_dropOldest 3 = .ok (.bipush 8, 2) := by decide +kernel
theorem dX0_dropOldest_5 : decode cX0_dropOldest 5 = .ok (.if_icmp .ge 51, 3) := by decide +kernel
theorem dX0_dropOldest_8 : decode cX0_dropOldest 8 = .ok (.aload_n 0, 1) := by decide +kernel
theorem dX0_dropOldest_9 : decode cX0_dropOldest 9 = .ok (.getfield 9, 3) := by decide +kernel
theorem dX0_dropOldest_12 : decode cX0_dropOldest 12 = .ok (.iload_n 1, 1) := by decide +kernel
theorem dX0_dropOldest_13 : decode cX0_dropOldest 13 = .ok (.iconst 1, 1) := by decide +kernel
theorem dX0_dropOldest_14 : decode cX0_dropOldest 14 = .ok (.isub, 1) := by decide +kernel
theorem dX0_dropOldest_15 : decode cX0_dropOldest 15 = .ok (.aload_n 0, 1) := by decide +kernel
theorem dX0_dropOldest_16 : decode cX0_dropOldest 16 = .ok (.getfield 9, 3) := by decide +kernel
theorem dX0_dropOldest_19 : decode cX0_dropOldest 19 = .ok (.iload_n 1, 1) := by decide +kernel
theorem dX0_dropOldest_20 : decode cX0_dropOldest 20 = .ok (.iaload, 1) := by decide +kernel
theorem dX0_dropOldest_21 : decode cX0_dropOldest 21 = .ok (.iastore, 1) := by decide +kernel
theorem dX0_dropOldest_22 : decode cX0_dropOldest 22 = .ok (.aload_n 0, 1) := by decide +kernel
theorem dX0_dropOldest_23 : decode cX0_dropOldest 23 = .ok (.getfield 15, 3) := by decide +kernel
theorem dX0_dropOldest_26 : decode cX0_dropOldest 26 = .ok (.iload_n 1, 1) := by decide +kernel
theorem dX0_dropOldest_27 : decode cX0_dropOldest 27 = .ok (.iconst 1, 1) := by decide +kernel
theorem dX0_dropOldest_28 : decode cX0_dropOldest 28 = .ok (.isub, 1) := by decide +kernel
theorem dX0_dropOldest_29 : decode cX0_dropOldest 29 = .ok (.aload_n 0, 1) := by decide +kernel
theorem dX0_dropOldest_30 : decode cX0_dropOldest 30 = .ok (.getfield 15, 3) := by decide +kernel
theorem dX0_dropOldest_33 : decode cX0_dropOldest 33 = .ok (.iload_n 1, 1) := by decide +kernel
theorem dX0_dropOldest_34 : decode cX0_dropOldest 34 = .ok (.baload, 1) := by decide +kernel
theorem dX0_dropOldest_35 : decode cX0_dropOldest 35 = .ok (.bastore, 1) := by decide +kernel
theorem dX0_dropOldest_36 : decode cX0_dropOldest 36 = .ok (.aload_n 0, 1) := by decide +kernel
theorem dX0_dropOldest_37 : decode cX0_dropOldest 37 = .ok (.getfield 19, 3) := by decide +kernel
theorem dX0_dropOldest_40 : decode cX0_dropOldest 40 = .ok (.iload_n 1, 1) := by decide +kernel
theorem dX0_dropOldest_41 : decode cX0_dropOldest 41 = .ok (.iconst 1, 1) := by decide +kernel
theorem dX0_dropOldest_42 : decode cX0_dropOldest 42 = .ok (.isub, 1) := by decide +kernel
theorem dX0_dropOldest_43 : decode cX0_dropOldest 43 = .ok (.aload_n 0, 1) := by decide +kernel
theorem dX0_dropOldest_44 : decode cX0_dropOldest 44 = .ok (.getfield 19, 3) := by decide +kernel
theorem dX0_dropOldest_47 : decode cX0_dropOldest 47 = .ok (.iload_n 1, 1) := by decide +kernel
theorem dX0_dropOldest_48 : decode cX0_dropOldest 48 = .ok (.iaload, 1) := by decide +kernel
theorem dX0_dropOldest_49 : decode cX0_dropOldest 49 = .ok (.iastore, 1) := by decide +kernel
theorem dX0_dropOldest_50 : decode cX0_dropOldest 50 = .ok (.iinc 1 1, 3) := by decide +kernel
theorem dX0_dropOldest_53 : decode cX0_dropOldest 53 = .ok (.goto (-51), 3) := by decide +kernel
theorem dX0_dropOldest_56 : decode cX0_dropOldest 56 = .ok (.aload_n 0, 1) := by decide +kernel
theorem dX0_dropOldest_57 : decode cX0_dropOldest 57 = .ok (.bipush 7, 2) := by decide +kernel
theorem dX0_dropOldest_59 : decode cX0_dropOldest 59 = .ok (.putfield 22, 3) := by decide +kernel
theorem dX0_dropOldest_62 : decode cX0_dropOldest 62 = .ok (.return_, 1) := by decide +kernel
theorem dX0_takeBack_0 : decode cX0_takeBack 0 = .ok (.aload_n 0, 1) := by decide +kernel
theorem dX0_takeBack_1 : decode cX0_takeBack 1 = .ok (.getfield 22, 3) := by decide +kernel
theorem dX0_takeBack_4 : decode cX0_takeBack 4 = .ok (.ifCond .gt 5, 3) := by decide +kernel
theorem dX0_takeBack_7 : decode cX0_takeBack 7 = .ok (.iconst 0, 1) := by decide +kernel
theorem dX0_takeBack_8 : decode cX0_takeBack 8 = .ok (.ireturn, 1) := by decide +kernel
theorem dX0_takeBack_9 : decode cX0_takeBack 9 = .ok (.aload_n 0, 1) := by decide +kernel
theorem dX0_takeBack_10 : decode cX0_takeBack 10 = .ok (.dup, 1) := by decide +kernel
theorem dX0_takeBack_11 : decode cX0_takeBack 11 = .ok (.getfield 22, 3) := by decide +kernel
theorem dX0_takeBack_14 : decode cX0_takeBack 14 = .ok (.iconst 1, 1) := by decide +kernel
theorem dX0_takeBack_15 : decode cX0_takeBack 15 = .ok (.isub, 1) := by decide +kernel
theorem dX0_takeBack_16 : decode cX0_takeBack 16 = .ok (.putfield 22, 3) := by decide +kernel
theorem dX0_takeBack_19 : decode cX0_takeBack 19 = .ok (.aload_n 0, 1) := by decide +kernel
theorem dX0_takeBack_20 : decode cX0_takeBack 20 = .ok (.getfield 15, 3) := by decide +kernel
theorem dX0_takeBack_23 : decode cX0_takeBack 23 = .ok (.aload_n 0, 1) := by decide +kernel
theorem dX0_takeBack_24 : decode cX0_takeBack 24 = .ok (.getfield 22, 3) := by decide +kernel
theorem dX0_takeBack_27 : decode cX0_takeBack 27 = .ok (.baload, 1) := by decide +kernel
theorem dX0_takeBack_28 : decode cX0_takeBack 28 = .ok (.ifCond .eq 29, 3) := by decide +kernel
theorem dX0_takeBack_31 : decode cX0_takeBack 31 = .ok (.aload_n 1, 1) := by decide +kernel
theorem dX0_takeBack_32 : decode cX0_takeBack 32 = .ok (.getfield 29, 3) := by decide +kernel
theorem dX0_takeBack_35 : decode cX0_takeBack 35 = .ok (.aload_n 0, 1) := by decide +kernel
theorem dX0_takeBack_36 : decode cX0_takeBack 36 = .ok (.getfield 9, 3) := by decide +kernel
theorem dX0_takeBack_39 : decode cX0_takeBack 39 = .ok (.aload_n 0, 1) := by decide +kernel
theorem dX0_takeBack_40 : decode cX0_takeBack 40 = .ok (.getfield 22, 3) := by decide +kernel
theorem dX0_takeBack_43 : decode cX0_takeBack 43 = .ok (.iaload, 1) := by decide +kernel
theorem dX0_takeBack_44 : decode cX0_takeBack 44 = .ok (.aload_n 0, 1) := by decide +kernel
theorem dX0_takeBack_45 : decode cX0_takeBack 45 = .ok (.getfield 19, 3) := by decide +kernel
theorem dX0_takeBack_48 : decode cX0_takeBack 48 = .ok (.aload_n 0, 1) := by decide +kernel
theorem dX0_takeBack_49 : decode cX0_takeBack 49 = .ok (.getfield 22, 3) := by decide +kernel
theorem dX0_takeBack_52 : decode cX0_takeBack 52 = .ok (.iaload, 1) := by decide +kernel
theorem dX0_takeBack_53 : decode cX0_takeBack 53 = .ok (.iastore, 1) := by decide +kernel
theorem dX0_takeBack_54 : decode cX0_takeBack 54 = .ok (.goto 26, 3) := by decide +kernel
theorem dX0_takeBack_57 : decode cX0_takeBack 57 = .ok (.aload_n 1, 1) := by decide +kernel
theorem dX0_takeBack_58 : decode cX0_takeBack 58 = .ok (.getfield 34, 3) := by decide +kernel
theorem dX0_takeBack_61 : decode cX0_takeBack 61 = .ok (.aload_n 0, 1) := by decide +kernel
theorem dX0_takeBack_62 : decode cX0_takeBack 62 = .ok (.getfield 9, 3) := by decide +kernel
theorem dX0_takeBack_65 : decode cX0_takeBack 65 = .ok (.aload_n 0, 1) := by decide +kernel
theorem dX0_takeBack_66 : decode cX0_takeBack 66 = .ok (.getfield 22, 3) := by decide +kernel
theorem dX0_takeBack_69 : decode cX0_takeBack 69 = .ok (.iaload, 1) := by decide +kernel
theorem dX0_takeBack_70 : decode cX0_takeBack 70 = .ok (.aload_n 0, 1) := by decide +kernel
theorem dX0_takeBack_71 : decode cX0_takeBack 71 = .ok (.getfield 19, 3) := by decide +kernel
theorem dX0_takeBack_74 : decode cX0_takeBack 74 = .ok (.aload_n 0, 1) := by decide +kernel
theorem dX0_takeBack_75 : decode cX0_takeBack 75 = .ok (.getfield 22, 3) := by decide +kernel
theorem dX0_takeBack_78 : decode cX0_takeBack 78 = .ok (.iaload, 1) := by decide +kernel
theorem dX0_takeBack_79 : decode cX0_takeBack 79 = .ok (.iastore, 1) := by decide +kernel
theorem dX0_takeBack_80 : decode cX0_takeBack 80 = .ok (.iconst 1, 1) := by decide +kernel
theorem dX0_takeBack_81 : decode cX0_takeBack 81 = .ok (.ireturn, 1) := by decide +kernel
theorem dX1_init_0 : decode cX1_init 0 = .ok (.aload_n 0, 1) := by decide +kernel
theorem dX1_init_1 : decode cX1_init 1 = .ok (.invokespecial 3, 3) := by decide +kernel
theorem dX1_init_4 : decode cX1_init 4 = .ok (.aload_n 0, 1) := by decide +kernel
theorem dX1_init_5 : decode cX1_init 5 = .ok (.bipush 6, 2) := by decide +kernel
theorem dX1_init_7 : decode cX1_init 7 = .ok (.newarray .int, 2) := by decide +kernel
theorem dX1_init_9 : decode cX1_init 9 = .ok (.putfield 9, 3) := by decide +kernel
theorem dX1_init_12 : decode cX1_init 12 = .ok (.aload_n 0, 1) := by decide +kernel
theorem dX1_init_13 : decode cX1_init 13 = .ok (.bipush 6, 2) := by decide +kernel
theorem dX1_init_15 : decode cX1_init 15 = .ok (.newarray .int, 2) := by decide +kernel
theorem dX1_init_17 : decode cX1_init 17 = .ok (.putfield 15, 3) := by decide +kernel
theorem dX1_init_20 : decode cX1_init 20 = .ok (.aload_n 0, 1) := by decide +kernel
theorem dX1_init_21 : decode cX1_init 21 = .ok (.bipush 6, 2) := by decide +kernel
theorem dX1_init_23 : decode cX1_init 23 = .ok (.newarray .int, 2) := by decide +kernel
theorem dX1_init_25 : decode cX1_init 25 = .ok (.putfield 18, 3) := by decide +kernel
theorem dX1_init_28 : decode cX1_init 28 = .ok (.aload_n 0, 1) := by decide +kernel
theorem dX1_init_29 : decode cX1_init 29 = .ok (.bipush 6, 2) := by decide +kernel
theorem dX1_init_31 : decode cX1_init 31 = .ok (.newarray .int, 2) := by decide +kernel
theorem dX1_init_33 : decode cX1_init 33 = .ok (.putfield 21, 3) := by decide +kernel
theorem dX1_init_36 : decode cX1_init 36 = .ok (.aload_n 0, 1) := by decide +kernel
theorem dX1_init_37 : decode cX1_init 37 = .ok (.bipush 6, 2) := by decide +kernel
theorem dX1_init_39 : decode cX1_init 39 = .ok (.newarray .int, 2) := by decide +kernel
theorem dX1_init_41 : decode cX1_init 41 = .ok (.putfield 24, 3) := by decide +kernel
theorem dX1_init_44 : decode cX1_init 44 = .ok (.aload_n 0, 1) := by decide +kernel
theorem dX1_init_45 : decode cX1_init 45 = .ok (.iconst 3, 1) := by decide +kernel
theorem dX1_init_46 : decode cX1_init 46 = .ok (.newarray .int, 2) := by decide +kernel
theorem dX1_init_48 : decode cX1_init 48 = .ok (.putfield 27, 3) := by decide +kernel
theorem dX1_init_51 : decode cX1_init 51 = .ok (.aload_n 0, 1) := by decide +kernel
theorem dX1_init_52 : decode cX1_init 52 = .ok (.iconst 3, 1) := by decide +kernel
theorem dX1_init_53 : decode cX1_init 53 = .ok (.newarray .int, 2) := by decide +kernel
theorem dX1_init_55 : decode cX1_init 55 = .ok (.putfield 30, 3) := by decide +kernel
theorem dX1_init_58 : decode cX1_init 58 = .ok (.return_, 1) := by decide +kernel
theorem dX1_clear_0 : decode cX1_clear 0 = .ok (.aload_n 0, 1) := by decide +kernel
theorem dX1_clear_1 : decode cX1_clear 1 = .ok (.iconst 0, 1) := by decide +kernel
theorem dX1_clear_2 : decode cX1_clear 2 = .ok (.putfield 33, 3) := by decide +kernel
theorem dX1_clear_5 : decode cX1_clear 5 = .ok (.aload_n 0, 1) := by decide +kernel
theorem dX1_clear_6 : decode cX1_clear 6 = .ok (.iconst 0, 1) := by decide +kernel
theorem dX1_clear_7 : decode cX1_clear 7 = .ok (.putfield 37, 3) := by decide +kernel
theorem dX1_clear_10 : decode cX1_clear 10 = .ok (.aload_n 0, 1) := by decide +kernel
theorem dX1_clear_11 : decode cX1_clear 11 = .ok (.iconst 4, 1) := by decide +kernel
theorem dX1_clear_12 : decode cX1_clear 12 = .ok (.putfield 40, 3) := by decide +kernel
theorem dX1_clear_15 : decode cX1_clear 15 = .ok (.aload_n 0, 1) := by decide +kernel
theorem dX1_clear_16 : decode cX1_clear 16 = .ok (.bipush 10, 2) := by decide +kernel
theorem dX1_clear_18 : decode cX1_clear 18 = .ok (.putfield 43, 3) := by decide +kernel
theorem dX1_clear_21 : decode cX1_clear 21 = .ok (.aload_n 0, 1) := by decide +kernel
theorem dX1_clear_22 : decode cX1_clear 22 = .ok (.iconst 2, 1) := by decide +kernel
theorem dX1_clear_23 : decode cX1_clear 23 = .ok (.putfield 46, 3) := by decide +kernel
theorem dX1_clear_26 : decode cX1_clear 26 = .ok (.aload_n 0, 1) := by decide +kernel
theorem dX1_clear_27 : decode cX1_clear 27 = .ok (.iconst 4, 1) := by decide +kernel
theorem dX1_clear_28 : decode cX1_clear 28 = .ok (.putfield 49, 3) := by decide +kernel
theorem dX1_clear_31 : decode cX1_clear 31 = .ok (.return_, 1) := by decide +kernel
theorem dX1_copy_0 : decode cX1_copy 0 = .ok (.aload_n 0, 1) := by decide +kernel
theorem dX1_copy_1 : decode cX1_copy 1 = .ok (.aload_n 1, 1) := by decide +kernel
theorem dX1_copy_2 : decode cX1_copy 2 = .ok (.getfield 33, 3) := by decide +kernel
theorem dX1_copy_5 : decode cX1_copy 5 = .ok (.putfield 33, 3) := by decide +kernel
theorem dX1_copy_8 : decode cX1_copy 8 = .ok (.aload_n 0, 1) := by decide +kernel
theorem dX1_copy_9 : decode cX1_copy 9 = .ok (.aload_n 1, 1) := by decide +kernel
theorem dX1_copy_10 : decode cX1_copy 10 = .ok (.getfield 37, 3) := by decide +kernel
theorem dX1_copy_13 : decode cX1_copy 13 = .ok (.putfield 37, 3) := by decide +kernel
theorem dX1_copy_16 : decode cX1_copy 16 = .ok (.aload_n 0, 1) := by decide +kernel
theorem dX1_copy_17 : decode cX1_copy 17 = .ok (.aload_n 1, 1) := by decide +kernel
theorem dX1_copy_18 : decode cX1_copy 18 = .ok (.getfield 40, 3) := by decide +kernel
theorem dX1_copy_21 : decode cX1_copy 21 = .ok (.putfield 40, 3) := by decide +kernel
theorem dX1_copy_24 : decode cX1_copy 24 = .ok (.aload_n 0, 1) := by decide +kernel
theorem dX1_copy_25 : decode cX1_copy 25 = .ok (.aload_n 1, 1) := by decide +kernel
theorem dX1_copy_26 : decode cX1_copy 26 = .ok (.getfield 43, 3) := by decide +kernel
theorem dX1_copy_29 : decode cX1_copy 29 = .ok (.putfield 43, 3) := by decide +kernel
theorem dX1_copy_32 : decode cX1_copy 32 = .ok (.aload_n 0, 1) := by decide +kernel
theorem dX1_copy_33 : decode cX1_copy 33 = .ok (.aload_n 1, 1) := by decide +kernel
theorem dX1_copy_34 : decode cX1_copy 34 = .ok (.getfield 46, 3) := by decide +kernel
theorem dX1_copy_37 : decode cX1_copy 37 = .ok (.putfield 46, 3) := by decide +kernel
theorem dX1_copy_40 : decode cX1_copy 40 = .ok (.aload_n 0, 1) := by decide +kernel
theorem dX1_copy_41 : decode cX1_copy 41 = .ok (.aload_n 1, 1) := by decide +kernel
theorem dX1_copy_42 : decode cX1_copy 42 = .ok (.getfield 49, 3) := by decide +kernel
theorem dX1_copy_45 : decode cX1_copy 45 = .ok (.putfield 49, 3) := by decide +kernel
theorem dX1_copy_48 : decode cX1_copy 48 = .ok (.aload_n 1, 1) := by decide +kernel
theorem dX1_copy_49 : decode cX1_copy 49 = .ok (.getfield 9, 3) := by decide +kernel
theorem dX1_copy_52 : decode cX1_copy 52 = .ok (.iconst 0, 1) := by decide +kernel
theorem dX1_copy_53 : decode cX1_copy 53 = .ok (.aload_n 0, 1) := by decide +kernel
theorem dX1_copy_54 : decode cX1_copy 54 = .ok (.getfield 9, 3) := by decide +kernel
theorem dX1_copy_57 : decode cX1_copy 57 = .ok (.iconst 0, 1) := by decide +kernel
theorem dX1_copy_58 : decode cX1_copy 58 = .ok (.bipush 6, 2) := by decide +kernel
theorem dX1_copy_60 : decode cX1_copy 60 = .ok (.invokestatic 52, 3) := by decide +kernel
theorem dX1_copy_63 : decode cX1_copy 63 = .ok (.aload_n 1, 1) := by decide +kernel
theorem dX1_copy_64 : decode cX1_copy 64 = .ok (.getfield 15, 3) := by decide +kernel
theorem dX1_copy_67 : decode cX1_copy 67 = .ok (.iconst 0, 1) := by decide +kernel
theorem dX1_copy_68 : decode cX1_copy 68 = .ok (.aload_n 0, 1) := by decide +kernel
theorem dX1_copy_69 : decode cX1_copy 69 = .ok (.getfield 15, 3) := by decide +kernel
theorem dX1_copy_72 : decode cX1_copy 72 = .ok (.iconst 0, 1) := by decide +kernel
theorem dX1_copy_73 : decode cX1_copy 73 = .ok (.bipush 6, 2) := by decide +kernel
theorem dX1_copy_75 : decode cX1_copy 75 = .ok (.invokestatic 52, 3) := by decide +kernel
theorem dX1_copy_78 : decode cX1_copy 78 = .ok (.aload_n 1, 1) := by decide +kernel
theorem dX1_copy_79 : decode cX1_copy 79 = .ok (.getfield 18, 3) := by decide +kernel
theorem dX1_copy_82 : decode cX1_copy 82 = .ok (.iconst 0, 1) := by decide +kernel
theorem dX1_copy_83 : decode cX1_copy 83 = .ok (.aload_n 0, 1) := by decide +kernel
theorem dX1_copy_84 : decode cX1_copy 84 = .ok (.getfield 18, 3) := by decide +kernel
theorem dX1_copy_87 : decode cX1_copy 87 = .ok (.iconst 0, 1) := by decide +kernel
theorem dX1_copy_88 : decode cX1_copy 88 = .ok (.bipush 6, 2) := by decide +kernel
theorem dX1_copy_90 : decode cX1_copy 90 = .ok (.invokestatic 52, 3) := by decide +kernel
theorem dX1_copy_93 : decode cX1_copy 93 = .ok (.aload_n 1, 1) := by decide +kernel
theorem dX1_copy_94 : decode cX1_copy 94 = .ok (.getfield 21, 3) := by decide +kernel
theorem dX1_copy_97 : decode cX1_copy 97 = .ok (.iconst 0, 1) := by decide +kernel
theorem dX1_copy_98 : decode cX1_copy 98 = .ok (.aload_n 0, 1) := by decide +kernel
theorem dX1_copy_99 : decode cX1_copy 99 = .ok (.getfield 21, 3) := by decide +kernel
theorem dX1_copy_102 : decode cX1_copy 102 = .ok (.iconst 0, 1) := by decide +kernel
theorem dX1_copy_103 : decode cX1_copy 103 = .ok (.bipush 6, 2) := by decide +kernel
theorem dX1_copy_105 : decode cX1_copy 105 = .ok (.invokestatic 52, 3) := by decide +kernel
theorem dX1_copy_108 : decode cX1_copy 108 = .ok (.aload_n 1, 1) := by decide +kernel
theorem dX1_copy_109 : decode cX1_copy 109 = .ok (.getfield 24, 3) := by decide +kernel
theorem dX1_copy_112 : decode cX1_copy 112 = .ok (.iconst 0, 1) := by decide +kernel
theorem dX1_copy_113 : decode cX1_copy 113 = .ok (.aload_n 0, 1) := by decide +kernel
theorem dX1_copy_114 : decode cX1_copy 114 = .ok (.getfield 24, 3) := by decide +kernel
theorem dX1_copy_117 : decode cX1_copy 117 = .ok (.iconst 0, 1) := by decide +kernel
theorem dX1_copy_118 : decode cX1_copy 118 = .ok (.bipush 6, 2) := by decide +kernel
theorem dX1_copy_120 : decode cX1_copy 120 = .ok (.invokestatic 52, 3) := by decide +kernel
theorem dX1_copy_123 : decode cX1_copy 123 = .ok (.aload_n 1, 1) := by decide +kernel
theorem dX1_copy_124 : decode cX1_copy 124 = .ok (.getfield 27, 3) := by decide +kernel
theorem dX1_copy_127 : decode cX1_copy 127 = .ok (.iconst 0, 1) := by decide +kernel
theorem dX1_copy_128 : decode cX1_copy 128 = .ok (.aload_n 0, 1) := by decide +kernel
theorem dX1_copy_129 : decode cX1_copy 129 = .ok (.getfield 27, 3) := by decide +kernel
theorem dX1_copy_132 : decode cX1_copy 132 = .ok (.iconst 0, 1) := by decide +kernel
theorem dX1_copy_133 : decode cX1_copy 133 = .ok (.iconst 3, 1) := by decide +kernel
theorem dX1_copy_134 : decode cX1_copy 134 = .ok (.invokestatic 52, 3) := by decide +kernel
theorem dX1_copy_137 : decode cX1_copy 137 = .ok (.aload_n 1, 1) := by decide +kernel
theorem dX1_copy_138 : decode cX1_copy 138 = .ok (.getfield 30, 3) := by decide +kernel
theorem dX1_copy_141 : decode cX1_copy 141 = .ok (.iconst 0, 1) := by decide +kernel
theorem dX1_copy_142 : decode cX1_copy 142 = .ok (.aload_n 0, 1) := by decide +kernel
theorem dX1_copy_143 : decode cX1_copy 143 = .ok (.getfield 30, 3) := by decide +kernel
theorem dX1_copy_146 : decode cX1_copy 146 = .ok (.iconst 0, 1) := by decide +kernel
theorem dX1_copy_147 : decode cX1_copy 147 = .ok (.iconst 3, 1) := by decide +kernel
theorem dX1_copy_148 : decode cX1_copy 148 = .ok (.invokestatic 52, 3) := by decide +kernel
theorem dX1_copy_151 : decode cX1_copy 151 = .ok (.return_, 1) := by decide +kernel
theorem dX1_isNarrow_0 : decode cX1_isNarrow 0 = .ok (.iconst 0, 1) := by decide +kernel
theorem dX1_isNarrow_1 : decode cX1_isNarrow 1 = .ok (.istore_n 2, 1) := by decide +kernel
theorem dX1_isNarrow_2 : decode cX1_isNarrow 2 = .ok (.iload_n 2, 1) := by decide +kernel
theorem dX1_isNarrow_3 : decode cX1_isNarrow 3 = .ok (.aload_n 0, 1) := by decide +kernel
theorem dX1_isNarrow_4 : decode cX1_isNarrow 4 = .ok (.getfield 37, 3) := by decide +kernel
theorem dX1_isNarrow_7 : decode cX1_isNarrow 7 = .ok (.if_icmp .ge 30, 3) := by decide +kernel
theorem dX1_isNarrow_10 : decode cX1_isNarrow 10 = .ok (.iload_n 1, 1) := by decide +kernel
theorem dX1_isNarrow_11 : decode cX1_isNarrow 11 = .ok (.aload_n 0, 1) := by decide +kernel
theorem dX1_isNarrow_12 : decode cX1_isNarrow 12 = .ok (.getfield 27, 3) := by decide +kernel
theorem dX1_isNarrow_15 : decode cX1_isNarrow 15 = .ok (.iload_n 2, 1) := by decide +kernel
theorem dX1_isNarrow_16 : decode cX1_isNarrow 16 = .ok (.iaload, 1) := by decide +kernel
theorem dX1_isNarrow_17 : decode cX1_isNarrow 17 = .ok (.aload_n 0, 1) := by decide +kernel
theorem dX1_isNarrow_18 : decode cX1_isNarrow 18 = .ok (.getfield 30, 3) := by decide +kernel
theorem dX1_isNarrow_21 : decode cX1_isNarrow 21 = .ok (.iload_n 2, 1) := by decide +kernel
theorem dX1_isNarrow_22 : decode cX1_isNarrow 22 = .ok (.iaload, 1) := by decide +kernel
theorem dX1_isNarrow_23 : decode cX1_isNarrow 23 = .ok (.invokestatic 58, 3) := by decide +kernel
theorem dX1_isNarrow_26 : decode cX1_isNarrow 26 = .ok (.ifCond .eq 5, 3) := by decide +kernel
theorem dX1_isNarrow_29 : decode cX1_isNarrow 29 = .ok (.iconst 1, 1) := by decide +kernel
theorem dX1_isNarrow_30 : decode cX1_isNarrow 30 = .ok (.ireturn, 1) := by decide +kernel
theorem dX1_isNarrow_31 : decode cX1_isNarrow 31 = .ok (.iinc 2 1, 3) := by decide +kernel
theorem dX1_isNarrow_34 : decode cX1_isNarrow 34 = .ok (.goto (-32), 3) := by decide +kernel
theorem dX1_isNarrow_37 : decode cX1_isNarrow 37 = .ok (.iconst 0, 1) := by decide +kernel
theorem dX1_isNarrow_38 : decode cX1_isNarrow 38 = .ok (.ireturn, 1) := by decide +kernel
theorem dX2_init_0 : decode cX2_init 0 = .ok (.aload_n 0, 1) := by decide +kernel
theorem dX2_init_1 : decode cX2_init 1 = .ok (.invokespecial 3, 3) := by decide +kernel
theorem dX2_init_4 : decode cX2_init 4 = .ok (.aload_n 0, 1) := by decide +kernel
theorem dX2_init_5 : decode cX2_init 5 = .ok (.bipush 6, 2) := by decide +kernel
theorem dX2_init_7 : decode cX2_init 7 = .ok (.newarray .int, 2) := by decide +kernel
theorem dX2_init_9 : decode cX2_init 9 = .ok (.putfield 9, 3) := by decide +kernel
theorem dX2_init_12 : decode cX2_init 12 = .ok (.aload_n 0, 1) := by decide +kernel
theorem dX2_init_13 : decode cX2_init 13 = .ok (.bipush 6, 2) := by decide +kernel
theorem dX2_init_15 : decode cX2_init 15 = .ok (.newarray .int, 2) := by decide +kernel
theorem dX2_init_17 : decode cX2_init 17 = .ok (.putfield 15, 3) := by decide +kernel
theorem dX2_init_20 : decode cX2_init 20 = .ok (.aload_n 0, 1) := by decide +kernel
theorem dX2_init_21 : decode cX2_init 21 = .ok (.bipush 6, 2) := by decide +kernel
theorem dX2_init_23 : decode cX2_init 23 = .ok (.newarray .int, 2) := by decide +kernel
theorem dX2_init_25 : decode cX2_init 25 = .ok (.putfield 18, 3) := by decide +kernel
theorem dX2_init_28 : decode cX2_init 28 = .ok (.aload_n 0, 1) := by decide +kernel
theorem dX2_init_29 : decode cX2_init 29 = .ok (.bipush 6, 2) := by decide +kernel
theorem dX2_init_31 : decode cX2_init 31 = .ok (.newarray .int, 2) := by decide +kernel
theorem dX2_init_33 : decode cX2_init 33 = .ok (.putfield 21, 3) := by decide +kernel
theorem dX2_init_36 : decode cX2_init 36 = .ok (.aload_n 0, 1) := by decide +kernel
theorem dX2_init_37 : decode cX2_init 37 = .ok (.bipush 6, 2) := by decide +kernel
theorem dX2_init_39 : decode cX2_init 39 = .ok (.newarray .int, 2) := by decide +kernel
theorem dX2_init_41 : decode cX2_init 41 = .ok (.putfield 24, 3) := by decide +kernel
theorem dX2_init_44 : decode cX2_init 44 = .ok (.aload_n 0, 1) := by decide +kernel
theorem dX2_init_45 : decode cX2_init 45 = .ok (.bipush 6, 2) := by decide +kernel
theorem dX2_init_47 : decode cX2_init 47 = .ok (.newarray .int, 2) := by decide +kernel
theorem dX2_init_49 : decode cX2_init 49 = .ok (.putfield 27, 3) := by decide +kernel
theorem dX2_init_52 : decode cX2_init 52 = .ok (.aload_n 0, 1) := by decide +kernel
theorem dX2_init_53 : decode cX2_init 53 = .ok (.bipush 6, 2) := by decide +kernel
theorem dX2_init_55 : decode cX2_init 55 = .ok (.newarray .int, 2) := by decide +kernel
theorem dX2_init_57 : decode cX2_init 57 = .ok (.putfield 30, 3) := by decide +kernel
theorem dX2_init_60 : decode cX2_init 60 = .ok (.aload_n 0, 1) := by decide +kernel
theorem dX2_init_61 : decode cX2_init 61 = .ok (.bipush 15, 2) := by decide +kernel
theorem dX2_init_63 : decode cX2_init 63 = .ok (.newarray .int, 2) := by decide +kernel
theorem dX2_init_65 : decode cX2_init 65 = .ok (.putfield 33, 3) := by decide +kernel
theorem dX2_init_68 : decode cX2_init 68 = .ok (.aload_n 0, 1) := by decide +kernel
theorem dX2_init_69 : decode cX2_init 69 = .ok (.bipush 15, 2) := by decide +kernel
theorem dX2_init_71 : decode cX2_init 71 = .ok (.newarray .int, 2) := by decide +kernel
theorem dX2_init_73 : decode cX2_init 73 = .ok (.putfield 36, 3) := by decide +kernel
theorem dX2_init_76 : decode cX2_init 76 = .ok (.aload_n 0, 1) := by decide +kernel
theorem dX2_init_77 : decode cX2_init 77 = .ok (.bipush 15, 2) := by decide +kernel
theorem dX2_init_79 : decode cX2_init 79 = .ok (.newarray .int, 2) := by decide +kernel
theorem dX2_init_81 : decode cX2_init 81 = .ok (.putfield 39, 3) := by decide +kernel
theorem dX2_init_84 : decode cX2_init 84 = .ok (.aload_n 0, 1) := by decide +kernel
theorem dX2_init_85 : decode cX2_init 85 = .ok (.bipush 15, 2) := by decide +kernel
theorem dX2_init_87 : decode cX2_init 87 = .ok (.newarray .int, 2) := by decide +kernel
theorem dX2_init_89 : decode cX2_init 89 = .ok (.putfield 42, 3) := by decide +kernel
theorem dX2_init_92 : decode cX2_init 92 = .ok (.aload_n 0, 1) := by decide +kernel
theorem dX2_init_93 : decode cX2_init 93 = .ok (.aload_n 1, 1) := by decide +kernel
theorem dX2_init_94 : decode cX2_init 94 = .ok (.putfield 45, 3) := by decide +kernel
theorem dX2_init_97 : decode cX2_init 97 = .ok (.aload_n 0, 1) := by decide +kernel
theorem dX2_init_98 : decode cX2_init 98 = .ok (.aload_n 2, 1) := by decide +kernel
theorem dX2_init_99 : decode cX2_init 99 = .ok (.putfield 49, 3) := by decide +kernel
theorem dX2_init_102 : decode cX2_init 102 = .ok (.return_, 1) := by decide +kernel
theorem dX2_run_0 : decode cX2_run 0 = .ok (.aload_n 0, 1) := by decide +kernel
theorem dX2_run_1 : decode cX2_run 1 = .ok (.aload_n 1, 1) := by decide +kernel
theorem dX2_run_2 : decode cX2_run 2 = .ok (.invokevirtual 53, 3) := by decide +kernel
theorem dX2_run_5 : decode cX2_run 5 = .ok (.iconst 1, 1) := by decide +kernel
theorem dX2_run_6 : decode cX2_run 6 = .ok (.istore 4, 2) := by decide +kernel
theorem dX2_run_8 : decode cX2_run 8 = .ok (.iload 4, 2) := by decide +kernel
theorem dX2_run_10 : decode cX2_run 10 = .ok (.iload_n 3, 1) := by decide +kernel
theorem dX2_run_11 : decode cX2_run 11 = .ok (.if_icmp .gt 34, 3) := by decide +kernel
theorem dX2_run_14 : decode cX2_run 14 = .ok (.aload_n 0, 1) := by decide +kernel
theorem dX2_run_15 : decode cX2_run 15 = .ok (.getfield 57, 3) := by decide +kernel
theorem dX2_run_18 : decode cX2_run 18 = .ok (.ifCond .le 27, 3) := by decide +kernel
theorem dX2_run_21 : decode cX2_run 21 = .ok (.aload_n 0, 1) := by decide +kernel
theorem dX2_run_22 : decode cX2_run 22 = .ok (.invokevirtual 61, 3) := by decide +kernel
theorem dX2_run_25 : decode cX2_run 25 = .ok (.aload_n 0, 1) := by decide +kernel
theorem dX2_run_26 : decode cX2_run 26 = .ok (.aload_n 1, 1) := by decide +kernel
theorem dX2_run_27 : decode cX2_run 27 = .ok (.iload_n 2, 1) := by decide +kernel
theorem dX2_run_28 : decode cX2_run 28 = .ok (.iload 4, 2) := by decide +kernel
theorem dX2_run_30 : decode cX2_run 30 = .ok (.invokevirtual 64, 3) := by decide +kernel
theorem dX2_run_33 : decode cX2_run 33 = .ok (.aload_n 0, 1) := by decide +kernel
theorem dX2_run_34 : decode cX2_run 34 = .ok (.iload 4, 2) := by decide +kernel
theorem dX2_run_36 : decode cX2_run 36 = .ok (.invokevirtual 68, 3) := by decide +kernel
theorem dX2_run_39 : decode cX2_run 39 = .ok (.iinc 4 1, 3) := by decide +kernel
theorem dX2_run_42 : decode cX2_run 42 = .ok (.goto (-34), 3) := by decide +kernel
theorem dX2_run_45 : decode cX2_run 45 = .ok (.aload_n 0, 1) := by decide +kernel
theorem dX2_run_46 : decode cX2_run 46 = .ok (.getfield 72, 3) := by decide +kernel
theorem dX2_run_49 : decode cX2_run 49 = .ok (.ireturn, 1) := by decide +kernel
theorem dX2_begin_0 : decode cX2_begin 0 = .ok (.aload_n 0, 1) := by decide +kernel
theorem dX2_begin_1 : decode cX2_begin 1 = .ok (.iconst 0, 1) := by decide +kernel
theorem dX2_begin_2 : decode cX2_begin 2 = .ok (.putfield 75, 3) := by decide +kernel
theorem dX2_begin_5 : decode cX2_begin 5 = .ok (.aload_n 0, 1) := by decide +kernel
theorem dX2_begin_6 : decode cX2_begin 6 = .ok (.iconst 0, 1) := by decide +kernel
theorem dX2_begin_7 : decode cX2_begin 7 = .ok (.putfield 72, 3) := by decide +kernel
theorem dX2_begin_10 : decode cX2_begin 10 = .ok (.aload_n 0, 1) := by decide +kernel
theorem dX2_begin_11 : decode cX2_begin 11 = .ok (.aload_n 0, 1) := by decide +kernel
theorem dX2_begin_12 : decode cX2_begin 12 = .ok (.getfield 45, 3) := by decide +kernel
theorem dX2_begin_15 : decode cX2_begin 15 = .ok (.getfield 78, 3) := by decide +kernel
theorem dX2_begin_18 : decode cX2_begin 18 = .ok (.putfield 57, 3) := by decide +kernel
theorem dX2_begin_21 : decode cX2_begin 21 = .ok (.iconst 0, 1) := by decide +kernel
theorem dX2_begin_22 : decode cX2_begin 22 = .ok (.istore_n 2, 1) := by decide +kernel
theorem dX2_begin_23 : decode cX2_begin 23 = .ok (.iload_n 2, 1) := by decide +kernel
theorem dX2_begin_24 : decode cX2_begin 24 = .ok (.aload_n 0, 1) := by decide +kernel
theorem dX2_begin_25 : decode cX2_begin 25 = .ok (.getfield 45, 3) := by decide +kernel
theorem dX2_begin_28 : decode cX2_begin 28 = .ok (.getfield 78, 3) := by decide +kernel
theorem dX2_begin_31 : decode cX2_begin 31 = .ok (.if_icmp .ge 77, 3) := by decide +kernel
theorem dX2_begin_34 : decode cX2_begin 34 = .ok (.aload_n 0, 1) := by decide +kernel
theorem dX2_begin_35 : decode cX2_begin 35 = .ok (.getfield 15, 3) := by decide +kernel
theorem dX2_begin_38 : decode cX2_begin 38 = .ok (.iload_n 2, 1) := by decide +kernel
theorem dX2_begin_39 : decode cX2_begin 39 = .ok (.aload_n 0, 1) := by decide +kernel
theorem dX2_begin_40 : decode cX2_begin 40 = .ok (.getfield 45, 3) := by decide +kernel
theorem dX2_begin_43 : decode cX2_begin 43 = .ok (.getfield 83, 3) := by decide +kernel
theorem dX2_begin_46 : decode cX2_begin 46 = .ok (.iload_n 2, 1) := by decide +kernel
theorem dX2_begin_47 : decode cX2_begin 47 = .ok (.iaload, 1) := by decide +kernel
theorem dX2_begin_48 : decode cX2_begin 48 = .ok (.iastore, 1) := by decide +kernel
theorem dX2_begin_49 : decode cX2_begin 49 = .ok (.aload_n 0, 1) := by decide +kernel
theorem dX2_begin_50 : decode cX2_begin 50 = .ok (.getfield 18, 3) := by decide +kernel
theorem dX2_begin_53 : decode cX2_begin 53 = .ok (.iload_n 2, 1) := by decide +kernel
theorem dX2_begin_54 : decode cX2_begin 54 = .ok (.aload_n 1, 1) := by decide +kernel
theorem dX2_begin_55 : decode cX2_begin 55 = .ok (.getfield 86, 3) := by decide +kernel
theorem dX2_begin_58 : decode cX2_begin 58 = .ok (.iload_n 2, 1) := by decide +kernel
theorem dX2_begin_59 : decode cX2_begin 59 = .ok (.iaload, 1) := by decide +kernel
theorem dX2_begin_60 : decode cX2_begin 60 = .ok (.iastore, 1) := by decide +kernel
theorem dX2_begin_61 : decode cX2_begin 61 = .ok (.aload_n 0, 1) := by decide +kernel
theorem dX2_begin_62 : decode cX2_begin 62 = .ok (.getfield 21, 3) := by decide +kernel
theorem dX2_begin_65 : decode cX2_begin 65 = .ok (.iload_n 2, 1) := by decide +kernel
theorem dX2_begin_66 : decode cX2_begin 66 = .ok (.bipush (-4), 2) := by decide +kernel
theorem dX2_begin_68 : decode cX2_begin 68 = .ok (.iastore, 1) := by decide +kernel
theorem dX2_begin_69 : decode cX2_begin 69 = .ok (.aload_n 0, 1) := by decide +kernel
theorem dX2_begin_70 : decode cX2_begin 70 = .ok (.getfield 24, 3) := by decide +kernel
theorem dX2_begin_73 : decode cX2_begin 73 = .ok (.iload_n 2, 1) := by decide +kernel
theorem dX2_begin_74 : decode cX2_begin 74 = .ok (.iconst 0, 1) := by decide +kernel
theorem dX2_begin_75 : decode cX2_begin 75 = .ok (.iastore, 1) := by decide +kernel
theorem dX2_begin_76 : decode cX2_begin 76 = .ok (.aload_n 0, 1) := by decide +kernel
theorem dX2_begin_77 : decode cX2_begin 77 = .ok (.getfield 27, 3) := by decide +kernel
theorem dX2_begin_80 : decode cX2_begin 80 = .ok (.iload_n 2, 1) := by decide +kernel
theorem dX2_begin_81 : decode cX2_begin 81 = .ok (.iconst 0, 1) := by decide +kernel
theorem dX2_begin_82 : decode cX2_begin 82 = .ok (.iastore, 1) := by decide +kernel
theorem dX2_begin_83 : decode cX2_begin 83 = .ok (.aload_n 0, 1) := by decide +kernel
theorem dX2_begin_84 : decode cX2_begin 84 = .ok (.getfield 30, 3) := by decide +kernel
theorem dX2_begin_87 : decode cX2_begin 87 = .ok (.iload_n 2, 1) := by decide +kernel
theorem dX2_begin_88 : decode cX2_begin 88 = .ok (.aload_n 0, 1) := by decide +kernel
theorem dX2_begin_89 : decode cX2_begin 89 = .ok (.iload_n 2, 1) := by decide +kernel
theorem dX2_begin_90 : decode cX2_begin 90 = .ok (.invokevirtual 91, 3) := by decide +kernel
theorem dX2_begin_93 : decode cX2_begin 93 = .ok (.ifCond .eq 7, 3) := by decide +kernel
theorem dX2_begin_96 : decode cX2_begin 96 = .ok (.iconst 0, 1) := by decide +kernel
theorem dX2_begin_97 : decode cX2_begin 97 = .ok (.goto 4, 3) := by decide +kernel
theorem dX2_begin_100 : decode cX2_begin 100 = .ok (.iconst 1, 1) := by decide +kernel
theorem dX2_begin_101 : decode cX2_begin 101 = .ok (.iastore, 1) := by decide +kernel
theorem dX2_begin_102 : decode cX2_begin 102 = .ok (.iinc 2 1, 3) := by decide +kernel
theorem dX2_begin_105 : decode cX2_begin 105 = .ok (.goto (-82), 3) := by decide +kernel
theorem dX2_begin_108 : decode cX2_begin 108 = .ok (.aload_n 0, 1) := by decide +kernel
theorem dX2_begin_109 : decode cX2_begin 109 = .ok (.iconst 0, 1) := by decide +kernel
theorem dX2_begin_110 : decode cX2_begin 110 = .ok (.invokevirtual 68, 3) := by decide +kernel
theorem dX2_begin_113 : decode cX2_begin 113 = .ok (.return_, 1) := by decide +kernel
theorem dX2_goOn_0 : decode cX2_goOn 0 = .ok (.iconst 0, 1) := by decide +kernel
theorem dX2_goOn_1 : decode cX2_goOn 1 = .ok (.istore_n 1, 1) := by decide +kernel
theorem dX2_goOn_2 : decode cX2_goOn 2 = .ok (.iload_n 1, 1) := by decide +kernel
theorem dX2_goOn_3 : decode cX2_goOn 3 = .ok (.aload_n 0, 1) := by decide +kernel
theorem dX2_goOn_4 : decode cX2_goOn 4 = .ok (.getfield 45, 3) := by decide +kernel
theorem dX2_goOn_7 : decode cX2_goOn 7 = .ok (.getfield 78, 3) := by decide +kernel
theorem dX2_goOn_10 : decode cX2_goOn 10 = .ok (.if_icmp .ge 125, 3) := by decide +kernel
theorem dX2_goOn_13 : decode cX2_goOn 13 = .ok (.aload_n 0, 1) := by decide +kernel
theorem dX2_goOn_14 : decode cX2_goOn 14 = .ok (.getfield 9, 3) := by decide +kernel
theorem dX2_goOn_17 : decode cX2_goOn 17 = .ok (.iload_n 1, 1) := by decide +kernel
theorem dX2_goOn_18 : decode cX2_goOn 18 = .ok (.aload_n 0, 1) := by decide +kernel
theorem dX2_goOn_19 : decode cX2_goOn 19 = .ok (.getfield 15, 3) := by decide +kernel
theorem dX2_goOn_22 : decode cX2_goOn 22 = .ok (.iload_n 1, 1) := by decide +kernel
theorem dX2_goOn_23 : decode cX2_goOn 23 = .ok (.iaload, 1) := by decide +kernel
theorem dX2_goOn_24 : decode cX2_goOn 24 = .ok (.iastore, 1) := by decide +kernel
theorem dX2_goOn_25 : decode cX2_goOn 25 = .ok (.aload_n 0, 1) := by decide +kernel
theorem dX2_goOn_26 : decode cX2_goOn 26 = .ok (.getfield 21, 3) := by decide +kernel
theorem dX2_goOn_29 : decode cX2_goOn 29 = .ok (.iload_n 1, 1) := by decide +kernel
theorem dX2_goOn_30 : decode cX2_goOn 30 = .ok (.iaload, 1) := by decide +kernel
theorem dX2_goOn_31 : decode cX2_goOn 31 = .ok (.bipush (-4), 2) := by decide +kernel
theorem dX2_goOn_33 : decode cX2_goOn 33 = .ok (.if_icmp .eq 6, 3) := by decide +kernel
theorem dX2_goOn_36 : decode cX2_goOn 36 = .ok (.goto 93, 3) := by decide +kernel
theorem dX2_goOn_39 : decode cX2_goOn 39 = .ok (.aload_n 0, 1) := by decide +kernel
theorem dX2_goOn_40 : decode cX2_goOn 40 = .ok (.getfield 18, 3) := by decide +kernel
theorem dX2_goOn_43 : decode cX2_goOn 43 = .ok (.iload_n 1, 1) := by decide +kernel
theorem dX2_goOn_44 : decode cX2_goOn 44 = .ok (.iaload, 1) := by decide +kernel
theorem dX2_goOn_45 : decode cX2_goOn 45 = .ok (.ifCond .le 16, 3) := by decide +kernel
theorem dX2_goOn_48 : decode cX2_goOn 48 = .ok (.aload_n 0, 1) := by decide +kernel
theorem dX2_goOn_49 : decode cX2_goOn 49 = .ok (.getfield 18, 3) := by decide +kernel
theorem dX2_goOn_52 : decode cX2_goOn 52 = .ok (.iload_n 1, 1) := by decide +kernel
theorem dX2_goOn_53 : decode cX2_goOn 53 = .ok (.dup2, 1) := by decide +kernel
theorem dX2_goOn_54 : decode cX2_goOn 54 = .ok (.iaload, 1) := by decide +kernel
theorem dX2_goOn_55 : decode cX2_goOn 55 = .ok (.iconst 1, 1) := by decide +kernel
theorem dX2_goOn_56 : decode cX2_goOn 56 = .ok (.isub, 1) := by decide +kernel
theorem dX2_goOn_57 : decode cX2_goOn 57 = .ok (.iastore, 1) := by decide +kernel
theorem dX2_goOn_58 : decode cX2_goOn 58 = .ok (.goto 71, 3) := by decide +kernel
theorem dX2_goOn_61 : decode cX2_goOn 61 = .ok (.aload_n 0, 1) := by decide +kernel
theorem dX2_goOn_62 : decode cX2_goOn 62 = .ok (.getfield 45, 3) := by decide +kernel
theorem dX2_goOn_65 : decode cX2_goOn 65 = .ok (.getfield 95, 3) := by decide +kernel
theorem dX2_goOn_68 : decode cX2_goOn 68 = .ok (.iload_n 1, 1) := by decide +kernel
theorem dX2_goOn_69 : decode cX2_goOn 69 = .ok (.iaload, 1) := by decide +kernel
theorem dX2_goOn_70 : decode cX2_goOn 70 = .ok (.ifCond .ne 33, 3) := by decide +kernel
theorem dX2_goOn_73 : decode cX2_goOn 73 = .ok (.aload_n 0, 1) := by decide +kernel
theorem dX2_goOn_74 : decode cX2_goOn 74 = .ok (.getfield 15, 3) := by decide +kernel
theorem dX2_goOn_77 : decode cX2_goOn 77 = .ok (.iload_n 1, 1) := by decide +kernel
theorem dX2_goOn_78 : decode cX2_goOn 78 = .ok (.aload_n 0, 1) := by decide +kernel
theorem dX2_goOn_79 : decode cX2_goOn 79 = .ok (.getfield 15, 3) := by decide +kernel
theorem dX2_goOn_82 : decode cX2_goOn 82 = .ok (.iload_n 1, 1) := by decide +kernel
theorem dX2_goOn_83 : decode cX2_goOn 83 = .ok (.iaload, 1) := by decide +kernel
theorem dX2_goOn_84 : decode cX2_goOn 84 = .ok (.aload_n 0, 1) := by decide +kernel
theorem dX2_goOn_85 : decode cX2_goOn 85 = .ok (.getfield 45, 3) := by decide +kernel
theorem dX2_goOn_88 : decode cX2_goOn 88 = .ok (.getfield 98, 3) := by decide +kernel
theorem dX2_goOn_91 : decode cX2_goOn 91 = .ok (.iload_n 1, 1) := by decide +kernel
theorem dX2_goOn_92 : decode cX2_goOn 92 = .ok (.iaload, 1) := by decide +kernel
theorem dX2_goOn_93 : decode cX2_goOn 93 = .ok (.iadd, 1) := by decide +kernel
theorem dX2_goOn_94 : decode cX2_goOn 94 = .ok (.bipush 60, 2) := by decide +kernel
theorem dX2_goOn_96 : decode cX2_goOn 96 = .ok (.invokestatic 101, 3) := by decide +kernel
theorem dX2_goOn_99 : decode cX2_goOn 99 = .ok (.iastore, 1) := by decide +kernel
theorem dX2_goOn_100 : decode cX2_goOn 100 = .ok (.goto 29, 3) := by decide +kernel
theorem dX2_goOn_103 : decode cX2_goOn 103 = .ok (.aload_n 0, 1) := by decide +kernel
theorem dX2_goOn_104 : decode cX2_goOn 104 = .ok (.getfield 15, 3) := by decide +kernel
theorem dX2_goOn_107 : decode cX2_goOn 107 = .ok (.iload_n 1, 1) := by decide +kernel
theorem dX2_goOn_108 : decode cX2_goOn 108 = .ok (.aload_n 0, 1) := by decide +kernel
theorem dX2_goOn_109 : decode cX2_goOn 109 = .ok (.getfield 15, 3) := by decide +kernel
theorem dX2_goOn_112 : decode cX2_goOn 112 = .ok (.iload_n 1, 1) := by decide +kernel
theorem dX2_goOn_113 : decode cX2_goOn 113 = .ok (.iaload, 1) := by decide +kernel
theorem dX2_goOn_114 : decode cX2_goOn 114 = .ok (.aload_n 0, 1) := by decide +kernel
theorem dX2_goOn_115 : decode cX2_goOn 115 = .ok (.getfield 45, 3) := by decide +kernel
theorem dX2_goOn_118 : decode cX2_goOn 118 = .ok (.getfield 98, 3) := by decide +kernel
theorem dX2_goOn_121 : decode cX2_goOn 121 = .ok (.iload_n 1, 1) := by decide +kernel
theorem dX2_goOn_122 : decode cX2_goOn 122 = .ok (.iaload, 1) := by decide +kernel
theorem dX2_goOn_123 : decode cX2_goOn 123 = .ok (.isub, 1) := by decide +kernel
theorem dX2_goOn_124 : decode cX2_goOn 124 = .ok (.iconst 0, 1) := by decide +kernel
theorem dX2_goOn_125 : decode cX2_goOn 125 = .ok (.invokestatic 107, 3) := by decide +kernel
theorem dX2_goOn_128 : decode cX2_goOn 128 = .ok (.iastore, 1) := by decide +kernel
theorem dX2_goOn_129 : decode cX2_goOn 129 = .ok (.iinc 1 1, 3) := by decide +kernel
theorem dX2_goOn_132 : decode cX2_goOn 132 = .ok (.goto (-130), 3) := by decide +kernel
theorem dX2_goOn_135 : decode cX2_goOn 135 = .ok (.return_, 1) := by decide +kernel
theorem dX2_meetAll_0 : decode cX2_meetAll 0 = .ok (.iconst 0, 1) := by decide +kernel
theorem dX2_meetAll_1 : decode cX2_meetAll 1 = .ok (.istore 4, 2) := by decide +kernel
theorem dX2_meetAll_3 : decode cX2_meetAll 3 = .ok (.iload 4, 2) := by decide +kernel
theorem dX2_meetAll_5 : decode cX2_meetAll 5 = .ok (.aload_n 0, 1) := by decide +kernel
theorem dX2_meetAll_6 : decode cX2_meetAll 6 = .ok (.getfield 45, 3) := by decide +kernel
theorem dX2_meetAll_9 : decode cX2_meetAll 9 = .ok (.getfield 78, 3) := by decide +kernel
theorem dX2_meetAll_12 : decode cX2_meetAll 12 = .ok (.if_icmp .ge 78, 3) := by decide +kernel
theorem dX2_meetAll_15 : decode cX2_meetAll 15 = .ok (.iload 4, 2) := by decide +kernel
theorem dX2_meetAll_17 : decode cX2_meetAll 17 = .ok (.iconst 1, 1) := by decide +kernel
theorem dX2_meetAll_18 : decode cX2_meetAll 18 = .ok (.iadd, 1) := by decide +kernel
theorem dX2_meetAll_19 : decode cX2_meetAll 19 = .ok (.istore 5, 2) := by decide +kernel
theorem dX2_meetAll_21 : decode cX2_meetAll 21 = .ok (.iload 5, 2) := by decide +kernel
theorem dX2_meetAll_23 : decode cX2_meetAll 23 = .ok (.aload_n 0, 1) := by decide +kernel
theorem dX2_meetAll_24 : decode cX2_meetAll 24 = .ok (.getfield 45, 3) := by decide +kernel
theorem dX2_meetAll_27 : decode cX2_meetAll 27 = .ok (.getfield 78, 3) := by decide +kernel
theorem dX2_meetAll_30 : decode cX2_meetAll 30 = .ok (.if_icmp .ge 54, 3) := by decide +kernel
theorem dX2_meetAll_33 : decode cX2_meetAll 33 = .ok (.aload_n 0, 1) := by decide +kernel
theorem dX2_meetAll_34 : decode cX2_meetAll 34 = .ok (.getfield 45, 3) := by decide +kernel
theorem dX2_meetAll_37 : decode cX2_meetAll 37 = .ok (.getfield 95, 3) := by decide +kernel
theorem dX2_meetAll_40 : decode cX2_meetAll 40 = .ok (.iload 4, 2) := by decide +kernel
theorem dX2_meetAll_42 : decode cX2_meetAll 42 = .ok (.iaload, 1) := by decide +kernel
theorem dX2_meetAll_43 : decode cX2_meetAll 43 = .ok (.aload_n 0, 1) := by decide +kernel
theorem dX2_meetAll_44 : decode cX2_meetAll 44 = .ok (.getfield 45, 3) := by decide +kernel
theorem dX2_meetAll_47 : decode cX2_meetAll 47 = .ok (.getfield 95, 3) := by decide +kernel
theorem dX2_meetAll_50 : decode cX2_meetAll 50 = .ok (.iload 5, 2) := by decide +kernel
theorem dX2_meetAll_52 : decode cX2_meetAll 52 = .ok (.iaload, 1) := by decide +kernel
theorem dX2_meetAll_53 : decode cX2_meetAll 53 = .ok (.if_icmp .eq 25, 3) := by decide +kernel
theorem dX2_meetAll_56 : decode cX2_meetAll 56 = .ok (.aload_n 0, 1) := by decide +kernel
theorem dX2_meetAll_57 : decode cX2_meetAll 57 = .ok (.iload 4, 2) := by decide +kernel
theorem dX2_meetAll_59 : decode cX2_meetAll 59 = .ok (.iload 5, 2) := by decide +kernel
theorem dX2_meetAll_61 : decode cX2_meetAll 61 = .ok (.invokevirtual 110, 3) := by decide +kernel
theorem dX2_meetAll_64 : decode cX2_meetAll 64 = .ok (.ifCond .eq 14, 3) := by decide +kernel
theorem dX2_meetAll_67 : decode cX2_meetAll 67 = .ok (.aload_n 0, 1) := by decide +kernel
theorem dX2_meetAll_68 : decode cX2_meetAll 68 = .ok (.aload_n 1, 1) := by decide +kernel
theorem dX2_meetAll_69 : decode cX2_meetAll 69 = .ok (.iload_n 2, 1) := by decide +kernel
theorem dX2_meetAll_70 : decode cX2_meetAll 70 = .ok (.iload_n 3, 1) := by decide +kernel
theorem dX2_meetAll_71 : decode cX2_meetAll 71 = .ok (.iload 4, 2) := by decide +kernel
theorem dX2_meetAll_73 : decode cX2_meetAll 73 = .ok (.iload 5, 2) := by decide +kernel
theorem dX2_meetAll_75 : decode cX2_meetAll 75 = .ok (.invokevirtual 114, 3) := by decide +kernel
theorem dX2_meetAll_78 : decode cX2_meetAll 78 = .ok (.iinc 5 1, 3) := by decide +kernel
theorem dX2_meetAll_81 : decode cX2_meetAll 81 = .ok (.goto (-60), 3) := by decide +kernel
theorem dX2_meetAll_84 : decode cX2_meetAll 84 = .ok (.iinc 4 1, 3) := by decide +kernel
theorem dX2_meetAll_87 : decode cX2_meetAll 87 = .ok (.goto (-84), 3) := by decide +kernel
theorem dX2_meetAll_90 : decode cX2_meetAll 90 = .ok (.return_, 1) := by decide +kernel
theorem dX2_doMeet_0 : decode cX2_doMeet 0 = .ok (.aload_n 0, 1) := by decide +kernel
theorem dX2_doMeet_1 : decode cX2_doMeet 1 = .ok (.getfield 21, 3) := by decide +kernel
theorem dX2_doMeet_4 : decode cX2_doMeet 4 = .ok (.iload_n 1, 1) := by decide +kernel
theorem dX2_doMeet_5 : decode cX2_doMeet 5 = .ok (.iaload, 1) := by decide +kernel
theorem dX2_doMeet_6 : decode cX2_doMeet 6 = .ok (.bipush (-4), 2) := by decide +kernel
theorem dX2_doMeet_8 : decode cX2_doMeet 8 = .ok (.if_icmp .ne 14, 3) := by decide +kernel
theorem dX2_doMeet_11 : decode cX2_doMeet 11 = .ok (.aload_n 0, 1) := by decide +kernel
theorem dX2_doMeet_12 : decode cX2_doMeet 12 = .ok (.getfield 21, 3) := by decide +kernel
theorem dX2_doMeet_15 : decode cX2_doMeet 15 = .ok (.iload_n 2, 1) := by decide +kernel
theorem dX2_doMeet_16 : decode cX2_doMeet 16 = .ok (.iaload, 1) := by decide +kernel
theorem dX2_doMeet_17 : decode cX2_doMeet 17 = .ok (.bipush (-4), 2) := by decide +kernel
theorem dX2_doMeet_19 : decode cX2_doMeet 19 = .ok (.if_icmp .eq 5, 3) := by decide +kernel
theorem dX2_doMeet_22 : decode cX2_doMeet 22 = .ok (.iconst 0, 1) := by decide +kernel
theorem dX2_doMeet_23 : decode cX2_doMeet 23 = .ok (.ireturn, 1) := by decide +kernel
theorem dX2_doMeet_24 : decode cX2_doMeet 24 = .ok (.aload_n 0, 1) := by decide +kernel
theorem dX2_doMeet_25 : decode cX2_doMeet 25 = .ok (.getfield 45, 3) := by decide +kernel
theorem dX2_doMeet_28 : decode cX2_doMeet 28 = .ok (.getfield 95, 3) := by decide +kernel
theorem dX2_doMeet_31 : decode cX2_doMeet 31 = .ok (.iload_n 1, 1) := by decide +kernel
theorem dX2_doMeet_32 : decode cX2_doMeet 32 = .ok (.iaload, 1) := by decide +kernel
theorem dX2_doMeet_33 : decode cX2_doMeet 33 = .ok (.ifCond .ne 7, 3) := by decide +kernel
theorem dX2_doMeet_36 : decode cX2_doMeet 36 = .ok (.iload_n 1, 1) := by decide +kernel
theorem dX2_doMeet_37 : decode cX2_doMeet 37 = .ok (.goto 4, 3) := by decide +kernel
theorem dX2_doMeet_40 : decode cX2_doMeet 40 = .ok (.iload_n 2, 1) := by decide +kernel
theorem dX2_doMeet_41 : decode cX2_doMeet 41 = .ok (.istore_n 3, 1) := by decide +kernel
theorem dX2_doMeet_42 : decode cX2_doMeet 42 = .ok (.aload_n 0, 1) := by decide +kernel
theorem dX2_doMeet_43 : decode cX2_doMeet 43 = .ok (.getfield 45, 3) := by decide +kernel
theorem dX2_doMeet_46 : decode cX2_doMeet 46 = .ok (.getfield 95, 3) := by decide +kernel
theorem dX2_doMeet_49 : decode cX2_doMeet 49 = .ok (.iload_n 1, 1) := by decide +kernel
theorem dX2_doMeet_50 : decode cX2_doMeet 50 = .ok (.iaload, 1) := by decide +kernel
theorem dX2_doMeet_51 : decode cX2_doMeet 51 = .ok (.ifCond .ne 7, 3) := by decide +kernel
theorem dX2_doMeet_54 : decode cX2_doMeet 54 = .ok (.iload_n 2, 1) := by decide +kernel
theorem dX2_doMeet_55 : decode cX2_doMeet 55 = .ok (.goto 4, 3) := by decide +kernel
theorem dX2_doMeet_58 : decode cX2_doMeet 58 = .ok (.iload_n 1, 1) := by decide +kernel
theorem dX2_doMeet_59 : decode cX2_doMeet 59 = .ok (.istore 4, 2) := by decide +kernel
theorem dX2_doMeet_61 : decode cX2_doMeet 61 = .ok (.aload_n 0, 1) := by decide +kernel
theorem dX2_doMeet_62 : decode cX2_doMeet 62 = .ok (.getfield 9, 3) := by decide +kernel
theorem dX2_doMeet_65 : decode cX2_doMeet 65 = .ok (.iload_n 3, 1) := by decide +kernel
theorem dX2_doMeet_66 : decode cX2_doMeet 66 = .ok (.iaload, 1) := by decide +kernel
theorem dX2_doMeet_67 : decode cX2_doMeet 67 = .ok (.aload_n 0, 1) := by decide +kernel
theorem dX2_doMeet_68 : decode cX2_doMeet 68 = .ok (.getfield 9, 3) := by decide +kernel
theorem dX2_doMeet_71 : decode cX2_doMeet 71 = .ok (.iload 4, 2) := by decide +kernel
theorem dX2_doMeet_73 : decode cX2_doMeet 73 = .ok (.iaload, 1) := by decide +kernel
theorem dX2_doMeet_74 : decode cX2_doMeet 74 = .ok (.if_icmp .ge 23, 3) := by decide +kernel
theorem dX2_doMeet_77 : decode cX2_doMeet 77 = .ok (.aload_n 0, 1) := by decide +kernel
theorem dX2_doMeet_78 : decode cX2_doMeet 78 = .ok (.getfield 15, 3) := by decide +kernel
theorem dX2_doMeet_81 : decode cX2_doMeet 81 = .ok (.iload_n 3, 1) := by decide +kernel
theorem dX2_doMeet_82 : decode cX2_doMeet 82 = .ok (.iaload, 1) := by decide +kernel
theorem dX2_doMeet_83 : decode cX2_doMeet 83 = .ok (.aload_n 0, 1) := by decide +kernel
theorem dX2_doMeet_84 : decode cX2_doMeet 84 = .ok (.getfield 15, 3) := by decide +kernel
theorem dX2_doMeet_87 : decode cX2_doMeet 87 = .ok (.iload 4, 2) := by decide +kernel
theorem dX2_doMeet_89 : decode cX2_doMeet 89 = .ok (.iaload, 1) := by decide +kernel
theorem dX2_doMeet_90 : decode cX2_doMeet 90 = .ok (.if_icmp .lt 7, 3) := by decide +kernel
theorem dX2_doMeet_93 : decode cX2_doMeet 93 = .ok (.iconst 1, 1) := by decide +kernel
theorem dX2_doMeet_94 : decode cX2_doMeet 94 = .ok (.goto 4, 3) := by decide +kernel
theorem dX2_doMeet_97 : decode cX2_doMeet 97 = .ok (.iconst 0, 1) := by decide +kernel
theorem dX2_doMeet_98 : decode cX2_doMeet 98 = .ok (.ireturn, 1) := by decide +kernel
theorem dX2_meet_0 : decode cX2_meet 0 = .ok (.aload_n 0, 1) := by decide +kernel
theorem dX2_meet_1 : decode cX2_meet 1 = .ok (.getfield 49, 3) := by decide +kernel
theorem dX2_meet_4 : decode cX2_meet 4 = .ok (.aload_n 1, 1) := by decide +kernel
theorem dX2_meet_5 : decode cX2_meet 5 = .ok (.iload_n 2, 1) := by decide +kernel
theorem dX2_meet_6 : decode cX2_meet 6 = .ok (.iload 4, 2) := by decide +kernel
theorem dX2_meet_8 : decode cX2_meet 8 = .ok (.iload 5, 2) := by decide +kernel
theorem dX2_meet_10 : decode cX2_meet 10 = .ok (.invokevirtual 118, 3) := by decide +kernel
theorem dX2_meet_13 : decode cX2_meet 13 = .ok (.istore 6, 2) := by decide +kernel
theorem dX2_meet_15 : decode cX2_meet 15 = .ok (.iload 6, 2) := by decide +kernel
theorem dX2_meet_17 : decode cX2_meet 17 = .ok (.bipush (-4), 2) := by decide +kernel
theorem dX2_meet_19 : decode cX2_meet 19 = .ok (.if_icmp .ne 71, 3) := by decide +kernel
theorem dX2_meet_22 : decode cX2_meet 22 = .ok (.aload_n 0, 1) := by decide +kernel
theorem dX2_meet_23 : decode cX2_meet 23 = .ok (.getfield 45, 3) := by decide +kernel
theorem dX2_meet_26 : decode cX2_meet 26 = .ok (.getfield 124, 3) := by decide +kernel
theorem dX2_meet_29 : decode cX2_meet 29 = .ok (.aload_n 0, 1) := by decide +kernel
theorem dX2_meet_30 : decode cX2_meet 30 = .ok (.getfield 45, 3) := by decide +kernel
theorem dX2_meet_33 : decode cX2_meet 33 = .ok (.aload_n 0, 1) := by decide +kernel
theorem dX2_meet_34 : decode cX2_meet 34 = .ok (.getfield 15, 3) := by decide +kernel
theorem dX2_meet_37 : decode cX2_meet 37 = .ok (.iload 4, 2) := by decide +kernel
theorem dX2_meet_39 : decode cX2_meet 39 = .ok (.iaload, 1) := by decide +kernel
theorem dX2_meet_40 : decode cX2_meet 40 = .ok (.invokevirtual 127, 3) := by decide +kernel
theorem dX2_meet_43 : decode cX2_meet 43 = .ok (.ifCond .ne 20, 3) := by decide +kernel
theorem dX2_meet_46 : decode cX2_meet 46 = .ok (.aload_n 0, 1) := by decide +kernel
theorem dX2_meet_47 : decode cX2_meet 47 = .ok (.getfield 45, 3) := by decide +kernel
theorem dX2_meet_50 : decode cX2_meet 50 = .ok (.aload_n 0, 1) := by decide +kernel
theorem dX2_meet_51 : decode cX2_meet 51 = .ok (.getfield 15, 3) := by decide +kernel
theorem dX2_meet_54 : decode cX2_meet 54 = .ok (.iload 5, 2) := by decide +kernel
theorem dX2_meet_56 : decode cX2_meet 56 = .ok (.iaload, 1) := by decide +kernel
theorem dX2_meet_57 : decode cX2_meet 57 = .ok (.invokevirtual 127, 3) := by decide +kernel
theorem dX2_meet_60 : decode cX2_meet 60 = .ok (.ifCond .eq 7, 3) := by decide +kernel
theorem dX2_meet_63 : decode cX2_meet 63 = .ok (.iconst 3, 1) := by decide +kernel
theorem dX2_meet_64 : decode cX2_meet 64 = .ok (.goto 4, 3) := by decide +kernel
theorem dX2_meet_67 : decode cX2_meet 67 = .ok (.iconst 0, 1) := by decide +kernel
theorem dX2_meet_68 : decode cX2_meet 68 = .ok (.iadd, 1) := by decide +kernel
theorem dX2_meet_69 : decode cX2_meet 69 = .ok (.istore 7, 2) := by decide +kernel
theorem dX2_meet_71 : decode cX2_meet 71 = .ok (.aload_n 0, 1) := by decide +kernel
theorem dX2_meet_72 : decode cX2_meet 72 = .ok (.iload 4, 2) := by decide +kernel
theorem dX2_meet_74 : decode cX2_meet 74 = .ok (.iload 7, 2) := by decide +kernel
theorem dX2_meet_76 : decode cX2_meet 76 = .ok (.invokevirtual 130, 3) := by decide +kernel
theorem dX2_meet_79 : decode cX2_meet 79 = .ok (.aload_n 0, 1) := by decide +kernel
theorem dX2_meet_80 : decode cX2_meet 80 = .ok (.iload 5, 2) := by decide +kernel
theorem dX2_meet_82 : decode cX2_meet 82 = .ok (.iload 7, 2) := by decide +kernel
theorem dX2_meet_84 : decode cX2_meet 84 = .ok (.invokevirtual 130, 3) := by decide +kernel
theorem dX2_meet_87 : decode cX2_meet 87 = .ok (.goto 82, 3) := by decide +kernel
theorem dX2_meet_90 : decode cX2_meet 90 = .ok (.aload_n 0, 1) := by decide +kernel
theorem dX2_meet_91 : decode cX2_meet 91 = .ok (.getfield 45, 3) := by decide +kernel
theorem dX2_meet_94 : decode cX2_meet 94 = .ok (.aload_n 0, 1) := by decide +kernel
theorem dX2_meet_95 : decode cX2_meet 95 = .ok (.getfield 15, 3) := by decide +kernel
theorem dX2_meet_98 : decode cX2_meet 98 = .ok (.iload 6, 2) := by decide +kernel
theorem dX2_meet_100 : decode cX2_meet 100 = .ok (.iaload, 1) := by decide +kernel
theorem dX2_meet_101 : decode cX2_meet 101 = .ok (.invokevirtual 127, 3) := by decide +kernel
theorem dX2_meet_104 : decode cX2_meet 104 = .ok (.ifCond .eq 7, 3) := by decide +kernel
theorem dX2_meet_107 : decode cX2_meet 107 = .ok (.iconst 3, 1) := by decide +kernel
theorem dX2_meet_108 : decode cX2_meet 108 = .ok (.goto 4, 3) := by decide +kernel
theorem dX2_meet_111 : decode cX2_meet 111 = .ok (.iconst 0, 1) := by decide +kernel
theorem dX2_meet_112 : decode cX2_meet 112 = .ok (.istore 7, 2) := by decide +kernel
theorem dX2_meet_114 : decode cX2_meet 114 = .ok (.aload_n 0, 1) := by decide +kernel
theorem dX2_meet_115 : decode cX2_meet 115 = .ok (.iload 6, 2) := by decide +kernel
theorem dX2_meet_117 : decode cX2_meet 117 = .ok (.aload_n 0, 1) := by decide +kernel
theorem dX2_meet_118 : decode cX2_meet 118 = .ok (.getfield 45, 3) := by decide +kernel
theorem dX2_meet_121 : decode cX2_meet 121 = .ok (.getfield 134, 3) := by decide +kernel
theorem dX2_meet_124 : decode cX2_meet 124 = .ok (.aload_n 1, 1) := by decide +kernel
theorem dX2_meet_125 : decode cX2_meet 125 = .ok (.getfield 137, 3) := by decide +kernel
theorem dX2_meet_128 : decode cX2_meet 128 = .ok (.iload 6, 2) := by decide +kernel
theorem dX2_meet_130 : decode cX2_meet 130 = .ok (.iaload, 1) := by decide +kernel
theorem dX2_meet_131 : decode cX2_meet 131 = .ok (.iadd, 1) := by decide +kernel
theorem dX2_meet_132 : decode cX2_meet 132 = .ok (.iload 7, 2) := by decide +kernel
theorem dX2_meet_134 : decode cX2_meet 134 = .ok (.iadd, 1) := by decide +kernel
theorem dX2_meet_135 : decode cX2_meet 135 = .ok (.invokevirtual 130, 3) := by decide +kernel
theorem dX2_meet_138 : decode cX2_meet 138 = .ok (.aload_n 0, 1) := by decide +kernel
theorem dX2_meet_139 : decode cX2_meet 139 = .ok (.iload 6, 2) := by decide +kernel
theorem dX2_meet_141 : decode cX2_meet 141 = .ok (.iload 4, 2) := by decide +kernel
theorem dX2_meet_143 : decode cX2_meet 143 = .ok (.if_icmp .ne 8, 3) := by decide +kernel
theorem dX2_meet_146 : decode cX2_meet 146 = .ok (.iload 5, 2) := by decide +kernel
theorem dX2_meet_148 : decode cX2_meet 148 = .ok (.goto 5, 3) := by decide +kernel
theorem dX2_meet_151 : decode cX2_meet 151 = .ok (.iload 4, 2) := by decide +kernel
theorem dX2_meet_153 : decode cX2_meet 153 = .ok (.iload 7, 2) := by decide +kernel
theorem dX2_meet_155 : decode cX2_meet 155 = .ok (.invokevirtual 130, 3) := by decide +kernel
theorem dX2_meet_158 : decode cX2_meet 158 = .ok (.aload_n 0, 1) := by decide +kernel
theorem dX2_meet_159 : decode cX2_meet 159 = .ok (.getfield 27, 3) := by decide +kernel
theorem dX2_meet_162 : decode cX2_meet 162 = .ok (.iload 6, 2) := by decide +kernel
theorem dX2_meet_164 : decode cX2_meet 164 = .ok (.dup2, 1) := by decide +kernel
theorem dX2_meet_165 : decode cX2_meet 165 = .ok (.iaload, 1) := by decide +kernel
theorem dX2_meet_166 : decode cX2_meet 166 = .ok (.iconst 1, 1) := by decide +kernel
theorem dX2_meet_167 : decode cX2_meet 167 = .ok (.iadd, 1) := by decide +kernel
theorem dX2_meet_168 : decode cX2_meet 168 = .ok (.iastore, 1) := by decide +kernel
theorem dX2_meet_169 : decode cX2_meet 169 = .ok (.aload_n 0, 1) := by decide +kernel
theorem dX2_meet_170 : decode cX2_meet 170 = .ok (.iload_n 3, 1) := by decide +kernel
theorem dX2_meet_171 : decode cX2_meet 171 = .ok (.bipush 8, 2) := by decide +kernel
theorem dX2_meet_173 : decode cX2_meet 173 = .ok (.iload 4, 2) := by decide +kernel
theorem dX2_meet_175 : decode cX2_meet 175 = .ok (.imul, 1) := by decide +kernel
theorem dX2_meet_176 : decode cX2_meet 176 = .ok (.iload 5, 2) := by decide +kernel
theorem dX2_meet_178 : decode cX2_meet 178 = .ok (.iadd, 1) := by decide +kernel
theorem dX2_meet_179 : decode cX2_meet 179 = .ok (.iload 6, 2) := by decide +kernel
theorem dX2_meet_181 : decode cX2_meet 181 = .ok (.aload_n 0, 1) := by decide +kernel
theorem dX2_meet_182 : decode cX2_meet 182 = .ok (.getfield 15, 3) := by decide +kernel
theorem dX2_meet_185 : decode cX2_meet 185 = .ok (.aload_n 0, 1) := by decide +kernel
theorem dX2_meet_186 : decode cX2_meet 186 = .ok (.getfield 45, 3) := by decide +kernel
theorem dX2_meet_189 : decode cX2_meet 189 = .ok (.getfield 95, 3) := by decide +kernel
theorem dX2_meet_192 : decode cX2_meet 192 = .ok (.iload 4, 2) := by decide +kernel
theorem dX2_meet_194 : decode cX2_meet 194 = .ok (.iaload, 1) := by decide +kernel
theorem dX2_meet_195 : decode cX2_meet 195 = .ok (.ifCond .ne 8, 3) := by decide +kernel
theorem dX2_meet_198 : decode cX2_meet 198 = .ok (.iload 4, 2) := by decide +kernel
theorem dX2_meet_200 : decode cX2_meet 200 = .ok (.goto 5, 3) := by decide +kernel
theorem dX2_meet_203 : decode cX2_meet 203 = .ok (.iload 5, 2) := by decide +kernel
theorem dX2_meet_205 : decode cX2_meet 205 = .ok (.iaload, 1) := by decide +kernel
theorem dX2_meet_206 : decode cX2_meet 206 = .ok (.invokevirtual 140, 3) := by decide +kernel
theorem dX2_meet_209 : decode cX2_meet 209 = .ok (.return_, 1) := by decide +kernel
theorem dX2_makeStand_0 : decode cX2_makeStand 0 = .ok (.iload_n 2, 1) := by decide +kernel
theorem dX2_makeStand_1 : decode cX2_makeStand 1 = .ok (.ifCond .gt 4, 3) := by decide +kernel
theorem dX2_makeStand_4 : decode cX2_makeStand 4 = .ok (.return_, 1) := by decide +kernel
theorem dX2_makeStand_5 : decode cX2_makeStand 5 = .ok (.aload_n 0, 1) := by decide +kernel
theorem dX2_makeStand_6 : decode cX2_makeStand 6 = .ok (.getfield 18, 3) := by decide +kernel
theorem dX2_makeStand_9 : decode cX2_makeStand 9 = .ok (.iload_n 1, 1) := by decide +kernel
theorem dX2_makeStand_10 : decode cX2_makeStand 10 = .ok (.iaload, 1) := by decide +kernel
theorem dX2_makeStand_11 : decode cX2_makeStand 11 = .ok (.ifCond .ne 21, 3) := by decide +kernel
theorem dX2_makeStand_14 : decode cX2_makeStand 14 = .ok (.aload_n 0, 1) := by decide +kernel
theorem dX2_makeStand_15 : decode cX2_makeStand 15 = .ok (.iload_n 1, 1) := by decide +kernel
theorem dX2_makeStand_16 : decode cX2_makeStand 16 = .ok (.invokevirtual 91, 3) := by decide +kernel
theorem dX2_makeStand_19 : decode cX2_makeStand 19 = .ok (.ifCond .ne 13, 3) := by decide +kernel
theorem dX2_makeStand_22 : decode cX2_makeStand 22 = .ok (.aload_n 0, 1) := by decide +kernel
theorem dX2_makeStand_23 : decode cX2_makeStand 23 = .ok (.getfield 30, 3) := by decide +kernel
theorem dX2_makeStand_26 : decode cX2_makeStand 26 = .ok (.iload_n 1, 1) := by decide +kernel
theorem dX2_makeStand_27 : decode cX2_makeStand 27 = .ok (.dup2, 1) := by decide +kernel
theorem dX2_makeStand_28 : decode cX2_makeStand 28 = .ok (.iaload, 1) := by decide +kernel
theorem dX2_makeStand_29 : decode cX2_makeStand 29 = .ok (.iconst 1, 1) := by decide +kernel
theorem dX2_makeStand_30 : decode cX2_makeStand 30 = .ok (.iadd, 1) := by decide +kernel
theorem dX2_makeStand_31 : decode cX2_makeStand 31 = .ok (.iastore, 1) := by decide +kernel
theorem dX2_makeStand_32 : decode cX2_makeStand 32 = .ok (.aload_n 0, 1) := by decide +kernel
theorem dX2_makeStand_33 : decode cX2_makeStand 33 = .ok (.getfield 18, 3) := by decide +kernel
theorem dX2_makeStand_36 : decode cX2_makeStand 36 = .ok (.iload_n 1, 1) := by decide +kernel
theorem dX2_makeStand_37 : decode cX2_makeStand 37 = .ok (.dup2, 1) := by decide +kernel
theorem dX2_makeStand_38 : decode cX2_makeStand 38 = .ok (.iaload, 1) := by decide +kernel
theorem dX2_makeStand_39 : decode cX2_makeStand 39 = .ok (.iload_n 2, 1) := by decide +kernel
theorem dX2_makeStand_40 : decode cX2_makeStand 40 = .ok (.iadd, 1) := by decide +kernel
theorem dX2_makeStand_41 : decode cX2_makeStand 41 = .ok (.iastore, 1) := by decide +kernel
theorem dX2_makeStand_42 : decode cX2_makeStand 42 = .ok (.aload_n 0, 1) := by decide +kernel
theorem dX2_makeStand_43 : decode cX2_makeStand 43 = .ok (.getfield 24, 3) := by decide +kernel
theorem dX2_makeStand_46 : decode cX2_makeStand 46 = .ok (.iload_n 1, 1) := by decide +kernel
theorem dX2_makeStand_47 : decode cX2_makeStand 47 = .ok (.dup2, 1) := by decide +kernel
theorem dX2_makeStand_48 : decode cX2_makeStand 48 = .ok (.iaload, 1) := by decide +kernel
theorem dX2_makeStand_49 : decode cX2_makeStand 49 = .ok (.iload_n 2, 1) := by decide +kernel
theorem dX2_makeStand_50 : decode cX2_makeStand 50 = .ok (.iadd, 1) := by decide +kernel
theorem dX2_makeStand_51 : decode cX2_makeStand 51 = .ok (.iastore, 1) := by decide +kernel
theorem dX2_makeStand_52 : decode cX2_makeStand 52 = .ok (.aload_n 0, 1) := by decide +kernel
theorem dX2_makeStand_53 : decode cX2_makeStand 53 = .ok (.dup, 1) := by decide +kernel
theorem dX2_makeStand_54 : decode cX2_makeStand 54 = .ok (.getfield 72, 3) := by decide +kernel
theorem dX2_makeStand_57 : decode cX2_makeStand 57 = .ok (.iload_n 2, 1) := by decide +kernel
theorem dX2_makeStand_58 : decode cX2_makeStand 58 = .ok (.iadd, 1) := by decide +kernel
theorem dX2_makeStand_59 : decode cX2_makeStand 59 = .ok (.putfield 72, 3) := by decide +kernel
theorem dX2_makeStand_62 : decode cX2_makeStand 62 = .ok (.return_, 1) := by decide +kernel
theorem dX2_noteMeeting_0 : decode cX2_noteMeeting 0 = .ok (.aload_n 0, 1) := by decide +kernel
theorem dX2_noteMeeting_1 : decode cX2_noteMeeting 1 = .ok (.getfield 75, 3) := by decide +kernel
theorem dX2_noteMeeting_4 : decode cX2_noteMeeting 4 = .ok (.bipush 15, 2) := by decide +kernel
theorem dX2_noteMeeting_6 : decode cX2_noteMeeting 6 = .ok (.if_icmp .lt 4, 3) := by decide +kernel
theorem dX2_noteMeeting_9 : decode cX2_noteMeeting 9 = .ok (.return_, 1) := by decide +kernel
theorem dX2_noteMeeting_10 : decode cX2_noteMeeting 10 = .ok (.aload_n 0, 1) := by decide +kernel
theorem dX2_noteMeeting_11 : decode cX2_noteMeeting 11 = .ok (.getfield 33, 3) := by decide +kernel
theorem dX2_noteMeeting_14 : decode cX2_noteMeeting 14 = .ok (.aload_n 0, 1) := by decide +kernel
theorem dX2_noteMeeting_15 : decode cX2_noteMeeting 15 = .ok (.getfield 75, 3) := by decide +kernel
theorem dX2_noteMeeting_18 : decode cX2_noteMeeting 18 = .ok (.iload_n 1, 1) := by decide +kernel
theorem dX2_noteMeeting_19 : decode cX2_noteMeeting 19 = .ok (.iastore, 1) := by decide +kernel
theorem dX2_noteMeeting_20 : decode cX2_noteMeeting 20 = .ok (.aload_n 0, 1) := by decide +kernel
theorem dX2_noteMeeting_21 : decode cX2_noteMeeting 21 = .ok (.getfield 36, 3) := by decide +kernel
theorem dX2_noteMeeting_24 : decode cX2_noteMeeting 24 = .ok (.aload_n 0, 1) := by decide +kernel
theorem dX2_noteMeeting_25 : decode cX2_noteMeeting 25 = .ok (.getfield 75, 3) := by decide +kernel
theorem dX2_noteMeeting_28 : decode cX2_noteMeeting 28 = .ok (.iload_n 2, 1) := by decide +kernel
theorem dX2_noteMeeting_29 : decode cX2_noteMeeting 29 = .ok (.iastore, 1) := by decide +kernel
theorem dX2_noteMeeting_30 : decode cX2_noteMeeting 30 = .ok (.aload_n 0, 1) := by decide +kernel
theorem dX2_noteMeeting_31 : decode cX2_noteMeeting 31 = .ok (.getfield 39, 3) := by decide +kernel
theorem dX2_noteMeeting_34 : decode cX2_noteMeeting 34 = .ok (.aload_n 0, 1) := by decide +kernel
theorem dX2_noteMeeting_35 : decode cX2_noteMeeting 35 = .ok (.getfield 75, 3) := by decide +kernel
theorem dX2_noteMeeting_38 : decode cX2_noteMeeting 38 = .ok (.iload_n 3, 1) := by decide +kernel
theorem dX2_noteMeeting_39 : decode cX2_noteMeeting 39 = .ok (.iastore, 1) := by decide +kernel
theorem dX2_noteMeeting_40 : decode cX2_noteMeeting 40 = .ok (.aload_n 0, 1) := by decide +kernel
theorem dX2_noteMeeting_41 : decode cX2_noteMeeting 41 = .ok (.getfield 42, 3) := by decide +kernel
theorem dX2_noteMeeting_44 : decode cX2_noteMeeting 44 = .ok (.aload_n 0, 1) := by decide +kernel
theorem dX2_noteMeeting_45 : decode cX2_noteMeeting 45 = .ok (.getfield 75, 3) := by decide +kernel
theorem dX2_noteMeeting_48 : decode cX2_noteMeeting 48 = .ok (.iload 4, 2) := by decide +kernel
theorem dX2_noteMeeting_50 : decode cX2_noteMeeting 50 = .ok (.iastore, 1) := by decide +kernel
theorem dX2_noteMeeting_51 : decode cX2_noteMeeting 51 = .ok (.aload_n 0, 1) := by decide +kernel
theorem dX2_noteMeeting_52 : decode cX2_noteMeeting 52 = .ok (.dup, 1) := by decide +kernel
theorem dX2_noteMeeting_53 : decode cX2_noteMeeting 53 = .ok (.getfield 75, 3) := by decide +kernel
theorem dX2_noteMeeting_56 : decode cX2_noteMeeting 56 = .ok (.iconst 1, 1) := by decide +kernel
theorem dX2_noteMeeting_57 : decode cX2_noteMeeting 57 = .ok (.iadd, 1) := by decide +kernel
theorem dX2_noteMeeting_58 : decode cX2_noteMeeting 58 = .ok (.putfield 75, 3) := by decide +kernel
theorem dX2_noteMeeting_61 : decode cX2_noteMeeting 61 = .ok (.return_, 1) := by decide +kernel
theorem dX2_arrive_0 : decode cX2_arrive 0 = .ok (.iconst 0, 1) := by decide +kernel
theorem dX2_arrive_1 : decode cX2_arrive 1 = .ok (.istore_n 2, 1) := by decide +kernel
theorem dX2_arrive_2 : decode cX2_arrive 2 = .ok (.iload_n 2, 1) := by decide +kernel
theorem dX2_arrive_3 : decode cX2_arrive 3 = .ok (.aload_n 0, 1) := by decide +kernel
theorem dX2_arrive_4 : decode cX2_arrive 4 = .ok (.getfield 45, 3) := by decide +kernel
theorem dX2_arrive_7 : decode cX2_arrive 7 = .ok (.getfield 78, 3) := by decide +kernel
theorem dX2_arrive_10 : decode cX2_arrive 10 = .ok (.if_icmp .ge 45, 3) := by decide +kernel
theorem dX2_arrive_13 : decode cX2_arrive 13 = .ok (.aload_n 0, 1) := by decide +kernel
theorem dX2_arrive_14 : decode cX2_arrive 14 = .ok (.getfield 21, 3) := by decide +kernel
theorem dX2_arrive_17 : decode cX2_arrive 17 = .ok (.iload_n 2, 1) := by decide +kernel
theorem dX2_arrive_18 : decode cX2_arrive 18 = .ok (.iaload, 1) := by decide +kernel
theorem dX2_arrive_19 : decode cX2_arrive 19 = .ok (.bipush (-4), 2) := by decide +kernel
theorem dX2_arrive_21 : decode cX2_arrive 21 = .ok (.if_icmp .ne 28, 3) := by decide +kernel
theorem dX2_arrive_24 : decode cX2_arrive 24 = .ok (.aload_n 0, 1) := by decide +kernel
theorem dX2_arrive_25 : decode cX2_arrive 25 = .ok (.iload_n 2, 1) := by decide +kernel
theorem dX2_arrive_26 : decode cX2_arrive 26 = .ok (.invokevirtual 91, 3) := by decide +kernel
theorem dX2_arrive_29 : decode cX2_arrive 29 = .ok (.ifCond .eq 20, 3) := by decide +kernel
theorem dX2_arrive_32 : decode cX2_arrive 32 = .ok (.aload_n 0, 1) := by decide +kernel
theorem dX2_arrive_33 : decode cX2_arrive 33 = .ok (.getfield 21, 3) := by decide +kernel
theorem dX2_arrive_36 : decode cX2_arrive 36 = .ok (.iload_n 2, 1) := by decide +kernel
theorem dX2_arrive_37 : decode cX2_arrive 37 = .ok (.iload_n 1, 1) := by decide +kernel
theorem dX2_arrive_38 : decode cX2_arrive 38 = .ok (.iastore, 1) := by decide +kernel
theorem dX2_arrive_39 : decode cX2_arrive 39 = .ok (.aload_n 0, 1) := by decide +kernel
theorem dX2_arrive_40 : decode cX2_arrive 40 = .ok (.dup, 1) := by decide +kernel
theorem dX2_arrive_41 : decode cX2_arrive 41 = .ok (.getfield 57, 3) := by decide +kernel
theorem dX2_arrive_44 : decode cX2_arrive 44 = .ok (.iconst 1, 1) := by decide +kernel
theorem dX2_arrive_45 : decode cX2_arrive 45 = .ok (.isub, 1) := by decide +kernel
theorem dX2_arrive_46 : decode cX2_arrive 46 = .ok (.putfield 57, 3) := by decide +kernel
theorem dX2_arrive_49 : decode cX2_arrive 49 = .ok (.iinc 2 1, 3) := by decide +kernel
theorem dX2_arrive_52 : decode cX2_arrive 52 = .ok (.goto (-50), 3) := by decide +kernel
theorem dX2_arrive_55 : decode cX2_arrive 55 = .ok (.return_, 1) := by decide +kernel
theorem dX2_isAtEnd_0 : decode cX2_isAtEnd 0 = .ok (.aload_n 0, 1) := by decide +kernel
theorem dX2_isAtEnd_1 : decode cX2_isAtEnd 1 = .ok (.getfield 15, 3) := by decide +kernel
theorem dX2_isAtEnd_4 : decode cX2_isAtEnd 4 = .ok (.iload_n 1, 1) := by decide +kernel
theorem dX2_isAtEnd_5 : decode cX2_isAtEnd 5 = .ok (.iaload, 1) := by decide +kernel
theorem dX2_isAtEnd_6 : decode cX2_isAtEnd 6 = .ok (.aload_n 0, 1) := by decide +kernel
theorem dX2_isAtEnd_7 : decode cX2_isAtEnd 7 = .ok (.getfield 45, 3) := by decide +kernel
theorem dX2_isAtEnd_10 : decode cX2_isAtEnd 10 = .ok (.getfield 95, 3) := by decide +kernel
theorem dX2_isAtEnd_13 : decode cX2_isAtEnd 13 = .ok (.iload_n 1, 1) := by decide +kernel
theorem dX2_isAtEnd_14 : decode cX2_isAtEnd 14 = .ok (.iaload, 1) := by decide +kernel
theorem dX2_isAtEnd_15 : decode cX2_isAtEnd 15 = .ok (.ifCond .ne 8, 3) := by decide +kernel
theorem dX2_isAtEnd_18 : decode cX2_isAtEnd 18 = .ok (.bipush 60, 2) := by decide +kernel
theorem dX2_isAtEnd_20 : decode cX2_isAtEnd 20 = .ok (.goto 4, 3) := by decide +kernel
theorem dX2_isAtEnd_23 : decode cX2_isAtEnd 23 = .ok (.iconst 0, 1) := by decide +kernel
theorem dX2_isAtEnd_24 : decode cX2_isAtEnd 24 = .ok (.if_icmp .ne 7, 3) := by decide +kernel
theorem dX2_isAtEnd_27 : decode cX2_isAtEnd 27 = .ok (.iconst 1, 1) := by decide +kernel
theorem dX2_isAtEnd_28 : decode cX2_isAtEnd 28 = .ok (.goto 4, 3) := by decide +kernel
theorem dX2_isAtEnd_31 : decode cX2_isAtEnd 31 = .ok (.iconst 0, 1) := by decide +kernel
theorem dX2_isAtEnd_32 : decode cX2_isAtEnd 32 = .ok (.ireturn, 1) := by decide +kernel
theorem dX3_init_0 : decode cX3_init 0 = .ok (.aload_n 0, 1) := by decide +kernel
theorem dX3_init_1 : decode cX3_init 1 = .ok (.invokespecial 3, 3) := by decide +kernel
theorem dX3_init_4 : decode cX3_init 4 = .ok (.aload_n 0, 1) := by decide +kernel
theorem dX3_init_5 : decode cX3_init 5 = .ok (.bipush 6, 2) := by decide +kernel
theorem dX3_init_7 : decode cX3_init 7 = .ok (.newarray .int, 2) := by decide +kernel
theorem dX3_init_9 : decode cX3_init 9 = .ok (.putfield 9, 3) := by decide +kernel
theorem dX3_init_12 : decode cX3_init 12 = .ok (.aload_n 0, 1) := by decide +kernel
theorem dX3_init_13 : decode cX3_init 13 = .ok (.bipush 6, 2) := by decide +kernel
theorem dX3_init_15 : decode cX3_init 15 = .ok (.newarray .int, 2) := by decide +kernel
theorem dX3_init_17 : decode cX3_init 17 = .ok (.putfield 15, 3) := by decide +kernel
theorem dX3_init_20 : decode cX3_init 20 = .ok (.return_, 1) := by decide +kernel
theorem dX3_begin_0 : decode cX3_begin 0 = .ok (.iconst 0, 1) := by decide +kernel
theorem dX3_begin_1 : decode cX3_begin 1 = .ok (.istore_n 2, 1) := by decide +kernel
theorem dX3_begin_2 : decode cX3_begin 2 = .ok (.iload_n 2, 1) := by decide +kernel
theorem dX3_begin_3 : decode cX3_begin 3 = .ok (.bipush 6, 2) := by decide +kernel
theorem dX3_begin_5 : decode cX3_begin 5 = .ok (.if_icmp .ge 28, 3) := by decide +kernel
theorem dX3_begin_8 : decode cX3_begin 8 = .ok (.aload_n 0, 1) := by decide +kernel
theorem dX3_begin_9 : decode cX3_begin 9 = .ok (.getfield 9, 3) := by decide +kernel
theorem dX3_begin_12 : decode cX3_begin 12 = .ok (.iload_n 2, 1) := by decide +kernel
theorem dX3_begin_13 : decode cX3_begin 13 = .ok (.aload_n 1, 1) := by decide +kernel
theorem dX3_begin_14 : decode cX3_begin 14 = .ok (.getfield 18, 3) := by decide +kernel
theorem dX3_begin_17 : decode cX3_begin 17 = .ok (.iload_n 2, 1) := by decide +kernel
theorem dX3_begin_18 : decode cX3_begin 18 = .ok (.iaload, 1) := by decide +kernel
theorem dX3_begin_19 : decode cX3_begin 19 = .ok (.iastore, 1) := by decide +kernel
theorem dX3_begin_20 : decode cX3_begin 20 = .ok (.aload_n 0, 1) := by decide +kernel
theorem dX3_begin_21 : decode cX3_begin 21 = .ok (.getfield 15, 3) := by decide +kernel
theorem dX3_begin_24 : decode cX3_begin 24 = .ok (.iload_n 2, 1) := by decide +kernel
theorem dX3_begin_25 : decode cX3_begin 25 = .ok (.iconst 0, 1) := by decide +kernel
theorem dX3_begin_26 : decode cX3_begin 26 = .ok (.iastore, 1) := by decide +kernel
theorem dX3_begin_27 : decode cX3_begin 27 = .ok (.iinc 2 1, 3) := by decide +kernel
theorem dX3_begin_30 : decode cX3_begin 30 = .ok (.goto (-28), 3) := by decide +kernel
theorem dX3_begin_33 : decode cX3_begin 33 = .ok (.return_, 1) := by decide +kernel
theorem dX3_copy_0 : decode cX3_copy 0 = .ok (.aload_n 1, 1) := by decide +kernel
theorem dX3_copy_1 : decode cX3_copy 1 = .ok (.getfield 9, 3) := by decide +kernel
theorem dX3_copy_4 : decode cX3_copy 4 = .ok (.iconst 0, 1) := by decide +kernel
theorem dX3_copy_5 : decode cX3_copy 5 = .ok (.aload_n 0, 1) := by decide +kernel
theorem dX3_copy_6 : decode cX3_copy 6 = .ok (.getfield 9, 3) := by decide +kernel
theorem dX3_copy_9 : decode cX3_copy 9 = .ok (.iconst 0, 1) := by decide +kernel
theorem dX3_copy_10 : decode cX3_copy 10 = .ok (.bipush 6, 2) := by decide +kernel
theorem dX3_copy_12 : decode cX3_copy 12 = .ok (.invokestatic 23, 3) := by decide +kernel
theorem dX3_copy_15 : decode cX3_copy 15 = .ok (.aload_n 1, 1) := by decide +kernel
theorem dX3_copy_16 : decode cX3_copy 16 = .ok (.getfield 15, 3) := by decide +kernel
theorem dX3_copy_19 : decode cX3_copy 19 = .ok (.iconst 0, 1) := by decide +kernel
theorem dX3_copy_20 : decode cX3_copy 20 = .ok (.aload_n 0, 1) := by decide +kernel
theorem dX3_copy_21 : decode cX3_copy 21 = .ok (.getfield 15, 3) := by decide +kernel
theorem dX3_copy_24 : decode cX3_copy 24 = .ok (.iconst 0, 1) := by decide +kernel
theorem dX3_copy_25 : decode cX3_copy 25 = .ok (.bipush 6, 2) := by decide +kernel
theorem dX3_copy_27 : decode cX3_copy 27 = .ok (.invokestatic 23, 3) := by decide +kernel
theorem dX3_copy_30 : decode cX3_copy 30 = .ok (.return_, 1) := by decide +kernel
theorem dX3_draw_0 : decode cX3_draw 0 = .ok (.iconst 0, 1) := by decide +kernel
theorem dX3_draw_1 : decode cX3_draw 1 = .ok (.istore_n 2, 1) := by decide +kernel
theorem dX3_draw_2 : decode cX3_draw 2 = .ok (.iload_n 2, 1) := by decide +kernel
theorem dX3_draw_3 : decode cX3_draw 3 = .ok (.bipush 6, 2) := by decide +kernel
theorem dX3_draw_5 : decode cX3_draw 5 = .ok (.if_icmp .ge 60, 3) := by decide +kernel
theorem dX3_draw_8 : decode cX3_draw 8 = .ok (.ldc2_w 29, 3) := by decide +kernel
theorem dX3_draw_11 : decode cX3_draw 11 = .ok (.iload_n 1, 1) := by decide +kernel
theorem dX3_draw_12 : decode cX3_draw 12 = .ok (.i2l, 1) := by decide +kernel
theorem dX3_draw_13 : decode cX3_draw 13 = .ok (.lmul, 1) := by decide +kernel
theorem dX3_draw_14 : decode cX3_draw 14 = .ok (.ldc2_w 31, 3) := by decide +kernel
theorem dX3_draw_17 : decode cX3_draw 17 = .ok (.iload_n 2, 1) := by decide +kernel
theorem dX3_draw_18 : decode cX3_draw 18 = .ok (.i2l, 1) := by decide +kernel
theorem dX3_draw_19 : decode cX3_draw 19 = .ok (.lmul, 1) := by decide +kernel
theorem dX3_draw_20 : decode cX3_draw 20 = .ok (.ladd, 1) := by decide +kernel
theorem dX3_draw_21 : decode cX3_draw 21 = .ok (.lconst 1, 1) := by decide +kernel
theorem dX3_draw_22 : decode cX3_draw 22 = .ok (.ladd, 1) := by decide +kernel
theorem dX3_draw_23 : decode cX3_draw 23 = .ok (.lstore_n 3, 1) := by decide +kernel
theorem dX3_draw_24 : decode cX3_draw 24 = .ok (.lload_n 3, 1) := by decide +kernel
theorem dX3_draw_25 : decode cX3_draw 25 = .ok (.lload_n 3, 1) := by decide +kernel
theorem dX3_draw_26 : decode cX3_draw 26 = .ok (.lmul, 1) := by decide +kernel
theorem dX3_draw_27 : decode cX3_draw 27 = .ok (.ldc2_w 33, 3) := by decide +kernel
theorem dX3_draw_30 : decode cX3_draw 30 = .ok (.lrem, 1) := by decide +kernel
theorem dX3_draw_31 : decode cX3_draw 31 = .ok (.l2i, 1) := by decide +kernel
theorem dX3_draw_32 : decode cX3_draw 32 = .ok (.istore 5, 2) := by decide +kernel
theorem dX3_draw_34 : decode cX3_draw 34 = .ok (.aload_n 0, 1) := by decide +kernel
theorem dX3_draw_35 : decode cX3_draw 35 = .ok (.getfield 15, 3) := by decide +kernel
theorem dX3_draw_38 : decode cX3_draw 38 = .ok (.iload_n 2, 1) := by decide +kernel
theorem dX3_draw_39 : decode cX3_draw 39 = .ok (.iload 5, 2) := by decide +kernel
theorem dX3_draw_41 : decode cX3_draw 41 = .ok (.bipush 31, 2) := by decide +kernel
theorem dX3_draw_43 : decode cX3_draw 43 = .ok (.irem, 1) := by decide +kernel
theorem dX3_draw_44 : decode cX3_draw 44 = .ok (.iastore, 1) := by decide +kernel
theorem dX3_draw_45 : decode cX3_draw 45 = .ok (.aload_n 0, 1) := by decide +kernel
theorem dX3_draw_46 : decode cX3_draw 46 = .ok (.getfield 9, 3) := by decide +kernel
theorem dX3_draw_49 : decode cX3_draw 49 = .ok (.iload_n 2, 1) := by decide +kernel
theorem dX3_draw_50 : decode cX3_draw 50 = .ok (.iload 5, 2) := by decide +kernel
theorem dX3_draw_52 : decode cX3_draw 52 = .ok (.bipush 64, 2) := by decide +kernel
theorem dX3_draw_54 : decode cX3_draw 54 = .ok (.idiv, 1) := by decide +kernel
theorem dX3_draw_55 : decode cX3_draw 55 = .ok (.bipush 10, 2) := by decide +kernel
theorem dX3_draw_57 : decode cX3_draw 57 = .ok (.irem, 1) := by decide +kernel
theorem dX3_draw_58 : decode cX3_draw 58 = .ok (.iastore, 1) := by decide +kernel
theorem dX3_draw_59 : decode cX3_draw 59 = .ok (.iinc 2 1, 3) := by decide +kernel
theorem dX3_draw_62 : decode cX3_draw 62 = .ok (.goto (-60), 3) := by decide +kernel
theorem dX3_draw_65 : decode cX3_draw 65 = .ok (.return_, 1) := by decide +kernel
theorem dX4_init_0 : decode cX4_init 0 = .ok (.aload_n 0, 1) := by decide +kernel
theorem dX4_init_1 : decode cX4_init 1 = .ok (.invokespecial 3, 3) := by decide +kernel
theorem dX4_init_4 : decode cX4_init 4 = .ok (.aload_n 0, 1) := by decide +kernel
theorem dX4_init_5 : decode cX4_init 5 = .ok (.iconst 5, 1) := by decide +kernel
theorem dX4_init_6 : decode cX4_init 6 = .ok (.newarray .int, 2) := by decide +kernel
theorem dX4_init_8 : decode cX4_init 8 = .ok (.putfield 9, 3) := by decide +kernel
theorem dX4_init_11 : decode cX4_init 11 = .ok (.aload_n 0, 1) := by decide +kernel
theorem dX4_init_12 : decode cX4_init 12 = .ok (.aload_n 1, 1) := by decide +kernel
theorem dX4_init_13 : decode cX4_init 13 = .ok (.putfield 15, 3) := by decide +kernel
theorem dX4_init_16 : decode cX4_init 16 = .ok (.aload_n 0, 1) := by decide +kernel
theorem dX4_init_17 : decode cX4_init 17 = .ok (.aload_n 2, 1) := by decide +kernel
theorem dX4_init_18 : decode cX4_init 18 = .ok (.putfield 19, 3) := by decide +kernel
theorem dX4_init_21 : decode cX4_init 21 = .ok (.return_, 1) := by decide +kernel
theorem dX4_firstFault_0 : decode cX4_firstFault 0 = .ok (.aload_n 0, 1) := by decide +kernel
theorem dX4_firstFault_1 : decode cX4_firstFault 1 = .ok (.getfield 19, 3) := by decide +kernel
theorem dX4_firstFault_4 : decode cX4_firstFault 4 = .ok (.invokevirtual 23, 3) := by decide +kernel
theorem dX4_firstFault_7 : decode cX4_firstFault 7 = .ok (.iconst 0, 1) := by decide +kernel
theorem dX4_firstFault_8 : decode cX4_firstFault 8 = .ok (.istore_n 1, 1) := by decide +kernel
theorem dX4_firstFault_9 : decode cX4_firstFault 9 = .ok (.iconst 0, 1) := by decide +kernel
theorem dX4_firstFault_10 : decode cX4_firstFault 10 = .ok (.istore_n 2, 1) := by decide +kernel
theorem dX4_firstFault_11 : decode cX4_firstFault 11 = .ok (.iload_n 2, 1) := by decide +kernel
theorem dX4_firstFault_12 : decode cX4_firstFault 12 = .ok (.sipush 200, 3) := by decide +kernel
theorem dX4_firstFault_15 : decode cX4_firstFault 15 = .ok (.if_icmp .ge 36, 3) := by decide +kernel
theorem dX4_firstFault_18 : decode cX4_firstFault 18 = .ok (.iload_n 1, 1) := by decide +kernel
theorem dX4_firstFault_19 : decode cX4_firstFault 19 = .ok (.aload_n 0, 1) := by decide +kernel
theorem dX4_firstFault_20 : decode cX4_firstFault 20 = .ok (.getfield 15, 3) := by decide +kernel
theorem dX4_firstFault_23 : decode cX4_firstFault 23 = .ok (.getfield 28, 3) := by decide +kernel
theorem dX4_firstFault_26 : decode cX4_firstFault 26 = .ok (.if_icmp .ge 25, 3) := by decide +kernel
theorem dX4_firstFault_29 : decode cX4_firstFault 29 = .ok (.aload_n 0, 1) := by decide +kernel
theorem dX4_firstFault_30 : decode cX4_firstFault 30 = .ok (.iload_n 1, 1) := by decide +kernel
theorem dX4_firstFault_31 : decode cX4_firstFault 31 = .ok (.invokevirtual 34, 3) := by decide +kernel
theorem dX4_firstFault_34 : decode cX4_firstFault 34 = .ok (.istore_n 3, 1) := by decide +kernel
theorem dX4_firstFault_35 : decode cX4_firstFault 35 = .ok (.iload_n 3, 1) := by decide +kernel
theorem dX4_firstFault_36 : decode cX4_firstFault 36 = .ok (.bipush (-4), 2) := by decide +kernel
theorem dX4_firstFault_38 : decode cX4_firstFault 38 = .ok (.if_icmp .ne 5, 3) := by decide +kernel
theorem dX4_firstFault_41 : decode cX4_firstFault 41 = .ok (.iload_n 1, 1) := by decide +kernel
theorem dX4_firstFault_42 : decode cX4_firstFault 42 = .ok (.ireturn, 1) := by decide +kernel
theorem dX4_firstFault_43 : decode cX4_firstFault 43 = .ok (.iload_n 3, 1) := by decide +kernel
theorem dX4_firstFault_44 : decode cX4_firstFault 44 = .ok (.istore_n 1, 1) := by decide +kernel
theorem dX4_firstFault_45 : decode cX4_firstFault 45 = .ok (.iinc 2 1, 3) := by decide +kernel
theorem dX4_firstFault_48 : decode cX4_firstFault 48 = .ok (.goto (-37), 3) := by decide +kernel
theorem dX4_firstFault_51 : decode cX4_firstFault 51 = .ok (.bipush (-4), 2) := by decide +kernel
theorem dX4_firstFault_53 : decode cX4_firstFault 53 = .ok (.ireturn, 1) := by decide +kernel
theorem dX4_readItem_0 : decode cX4_readItem 0 = .ok (.aload_n 0, 1) := by decide +kernel
theorem dX4_readItem_1 : decode cX4_readItem 1 = .ok (.getfield 15, 3) := by decide +kernel
theorem dX4_readItem_4 : decode cX4_readItem 4 = .ok (.iload_n 1, 1) := by decide +kernel
theorem dX4_readItem_5 : decode cX4_readItem 5 = .ok (.invokevirtual 38, 3) := by decide +kernel
theorem dX4_readItem_8 : decode cX4_readItem 8 = .ok (.istore_n 2, 1) := by decide +kernel
theorem dX4_readItem_9 : decode cX4_readItem 9 = .ok (.iload_n 2, 1) := by decide +kernel
theorem dX4_readItem_10 : decode cX4_readItem 10 = .ok (.invokestatic 41, 3) := by decide +kernel
theorem dX4_readItem_13 : decode cX4_readItem 13 = .ok (.istore_n 3, 1) := by decide +kernel
theorem dX4_readItem_14 : decode cX4_readItem 14 = .ok (.iload_n 1, 1) := by decide +kernel
theorem dX4_readItem_15 : decode cX4_readItem 15 = .ok (.iconst 1, 1) := by decide +kernel
theorem dX4_readItem_16 : decode cX4_readItem 16 = .ok (.iadd, 1) := by decide +kernel
theorem dX4_readItem_17 : decode cX4_readItem 17 = .ok (.istore 4, 2) := by decide +kernel
theorem dX4_readItem_19 : decode cX4_readItem 19 = .ok (.iconst 0, 1) := by decide +kernel
theorem dX4_readItem_20 : decode cX4_readItem 20 = .ok (.istore 5, 2) := by decide +kernel
theorem dX4_readItem_22 : decode cX4_readItem 22 = .ok (.iload 5, 2) := by decide +kernel
theorem dX4_readItem_24 : decode cX4_readItem 24 = .ok (.iload_n 3, 1) := by decide +kernel
theorem dX4_readItem_25 : decode cX4_readItem 25 = .ok (.if_icmp .ge 44, 3) := by decide +kernel
theorem dX4_readItem_28 : decode cX4_readItem 28 = .ok (.aload_n 0, 1) := by decide +kernel
theorem dX4_readItem_29 : decode cX4_readItem 29 = .ok (.iload 4, 2) := by decide +kernel
theorem dX4_readItem_31 : decode cX4_readItem 31 = .ok (.iload 5, 2) := by decide +kernel
theorem dX4_readItem_33 : decode cX4_readItem 33 = .ok (.iload 5, 2) := by decide +kernel
theorem dX4_readItem_35 : decode cX4_readItem 35 = .ok (.iconst 1, 1) := by decide +kernel
theorem dX4_readItem_36 : decode cX4_readItem 36 = .ok (.iadd, 1) := by decide +kernel
theorem dX4_readItem_37 : decode cX4_readItem 37 = .ok (.iload_n 3, 1) := by decide +kernel
theorem dX4_readItem_38 : decode cX4_readItem 38 = .ok (.if_icmp .ge 8, 3) := by decide +kernel
theorem dX4_readItem_41 : decode cX4_readItem 41 = .ok (.bipush 44, 2) := by decide +kernel
theorem dX4_readItem_43 : decode cX4_readItem 43 = .ok (.goto 5, 3) := by decide +kernel
theorem dX4_readItem_46 : decode cX4_readItem 46 = .ok (.bipush 59, 2) := by decide +kernel
theorem dX4_readItem_48 : decode cX4_readItem 48 = .ok (.invokevirtual 44, 3) := by decide +kernel
theorem dX4_readItem_51 : decode cX4_readItem 51 = .ok (.istore 4, 2) := by decide +kernel
theorem dX4_readItem_53 : decode cX4_readItem 53 = .ok (.iload 4, 2) := by decide +kernel
theorem dX4_readItem_55 : decode cX4_readItem 55 = .ok (.bipush (-4), 2) := by decide +kernel
theorem dX4_readItem_57 : decode cX4_readItem 57 = .ok (.if_icmp .ne 6, 3) := by decide +kernel
theorem dX4_readItem_60 : decode cX4_readItem 60 = .ok (.bipush (-4), 2) := by decide +kernel
theorem dX4_readItem_62 : decode cX4_readItem 62 = .ok (.ireturn, 1) := by decide +kernel
theorem dX4_readItem_63 : decode cX4_readItem 63 = .ok (.iinc 5 1, 3) := by decide +kernel
theorem dX4_readItem_66 : decode cX4_readItem 66 = .ok (.goto (-44), 3) := by decide +kernel
theorem dX4_readItem_69 : decode cX4_readItem 69 = .ok (.aload_n 0, 1) := by decide +kernel
theorem dX4_readItem_70 : decode cX4_readItem 70 = .ok (.iload_n 2, 1) := by decide +kernel
theorem dX4_readItem_71 : decode cX4_readItem 71 = .ok (.invokevirtual 48, 3) := by decide +kernel
theorem dX4_readItem_74 : decode cX4_readItem 74 = .ok (.ifCond .eq 8, 3) := by decide +kernel
theorem dX4_readItem_77 : decode cX4_readItem 77 = .ok (.iload 4, 2) := by decide +kernel
theorem dX4_readItem_79 : decode cX4_readItem 79 = .ok (.goto 5, 3) := by decide +kernel
theorem dX4_readItem_82 : decode cX4_readItem 82 = .ok (.bipush (-4), 2) := by decide +kernel
theorem dX4_readItem_84 : decode cX4_readItem 84 = .ok (.ireturn, 1) := by decide +kernel
theorem dX4_numbersOf_0 : decode cX4_numbersOf 0 = .ok (.iload_n 0, 1) := by decide +kernel
theorem dX4_numbersOf_1 : decode cX4_numbersOf 1 = .ok (.lookupswitch 61 #[(98, 51), (104, 57), (108, 59), (110, 53), (121, 55)], 51) := by decide +kernel
theorem dX4_numbersOf_52 : decode cX4_numbersOf 52 = .ok (.iconst 5, 1) := by decide +kernel
theorem dX4_numbersOf_53 : decode cX4_numbersOf 53 = .ok (.ireturn, 1) := by decide +kernel
theorem dX4_numbersOf_54 : decode cX4_numbersOf 54 = .ok (.iconst 2, 1) := by decide +kernel
theorem dX4_numbersOf_55 : decode cX4_numbersOf 55 = .ok (.ireturn, 1) := by decide +kernel
theorem dX4_numbersOf_56 : decode cX4_numbersOf 56 = .ok (.iconst 1, 1) := by decide +kernel
theorem dX4_numbersOf_57 : decode cX4_numbersOf 57 = .ok (.ireturn, 1) := by decide +kernel
theorem dX4_numbersOf_58 : decode cX4_numbersOf 58 = .ok (.iconst 1, 1) := by decide +kernel
theorem dX4_numbersOf_59 : decode cX4_numbersOf 59 = .ok (.ireturn, 1) := by decide +kernel
theorem dX4_numbersOf_60 : decode cX4_numbersOf 60 = .ok (.iconst 2, 1) := by decide +kernel
theorem dX4_numbersOf_61 : decode cX4_numbersOf 61 = .ok (.ireturn, 1) := by decide +kernel
theorem dX4_numbersOf_62 : decode cX4_numbersOf 62 = .ok (.iconst 0, 1) := by decide +kernel
theorem dX4_numbersOf_63 : decode cX4_numbersOf 63 = .ok (.ireturn, 1) := by decide +kernel
theorem dX4_readNumber_0 : decode cX4_readNumber 0 = .ok (.aload_n 0, 1) := by decide +kernel
theorem dX4_readNumber_1 : decode cX4_readNumber 1 = .ok (.iload_n 1, 1) := by decide +kernel
theorem dX4_readNumber_2 : decode cX4_readNumber 2 = .ok (.invokevirtual 52, 3) := by decide +kernel
theorem dX4_readNumber_5 : decode cX4_readNumber 5 = .ok (.istore 4, 2) := by decide +kernel
theorem dX4_readNumber_7 : decode cX4_readNumber 7 = .ok (.iload 4, 2) := by decide +kernel
theorem dX4_readNumber_9 : decode cX4_readNumber 9 = .ok (.bipush (-4), 2) := by decide +kernel
theorem dX4_readNumber_11 : decode cX4_readNumber 11 = .ok (.if_icmp .eq 12, 3) := by decide +kernel
theorem dX4_readNumber_14 : decode cX4_readNumber 14 = .ok (.iload_n 2, 1) := by decide +kernel
theorem dX4_readNumber_15 : decode cX4_readNumber 15 = .ok (.ifCond .lt 8, 3) := by decide +kernel
theorem dX4_readNumber_18 : decode cX4_readNumber 18 = .ok (.iload_n 2, 1) := by decide +kernel
theorem dX4_readNumber_19 : decode cX4_readNumber 19 = .ok (.iconst 5, 1) := by decide +kernel
theorem dX4_readNumber_20 : decode cX4_readNumber 20 = .ok (.if_icmp .lt 6, 3) := by decide +kernel
theorem dX4_readNumber_23 : decode cX4_readNumber 23 = .ok (.bipush (-4), 2) := by decide +kernel
theorem dX4_readNumber_25 : decode cX4_readNumber 25 = .ok (.ireturn, 1) := by decide +kernel
theorem dX4_readNumber_26 : decode cX4_readNumber 26 = .ok (.iload 4, 2) := by decide +kernel
theorem dX4_readNumber_28 : decode cX4_readNumber 28 = .ok (.istore 5, 2) := by decide +kernel
theorem dX4_readNumber_30 : decode cX4_readNumber 30 = .ok (.iload_n 1, 1) := by decide +kernel
theorem dX4_readNumber_31 : decode cX4_readNumber 31 = .ok (.iconst 1, 1) := by decide +kernel
theorem dX4_readNumber_32 : decode cX4_readNumber 32 = .ok (.iadd, 1) := by decide +kernel
theorem dX4_readNumber_33 : decode cX4_readNumber 33 = .ok (.istore 6, 2) := by decide +kernel
theorem dX4_readNumber_35 : decode cX4_readNumber 35 = .ok (.aload_n 0, 1) := by decide +kernel
theorem dX4_readNumber_36 : decode cX4_readNumber 36 = .ok (.iload 6, 2) := by decide +kernel
theorem dX4_readNumber_38 : decode cX4_readNumber 38 = .ok (.invokevirtual 52, 3) := by decide +kernel
theorem dX4_readNumber_41 : decode cX4_readNumber 41 = .ok (.istore 7, 2) := by decide +kernel
theorem dX4_readNumber_43 : decode cX4_readNumber 43 = .ok (.iload 7, 2) := by decide +kernel
theorem dX4_readNumber_45 : decode cX4_readNumber 45 = .ok (.bipush (-4), 2) := by decide +kernel
theorem dX4_readNumber_47 : decode cX4_readNumber 47 = .ok (.if_icmp .eq 16, 3) := by decide +kernel
theorem dX4_readNumber_50 : decode cX4_readNumber 50 = .ok (.bipush 10, 2) := by decide +kernel
theorem dX4_readNumber_52 : decode cX4_readNumber 52 = .ok (.iload 5, 2) := by decide +kernel
theorem dX4_readNumber_54 : decode cX4_readNumber 54 = .ok (.imul, 1) := by decide +kernel
theorem dX4_readNumber_55 : decode cX4_readNumber 55 = .ok (.iload 7, 2) := by decide +kernel
theorem dX4_readNumber_57 : decode cX4_readNumber 57 = .ok (.iadd, 1) := by decide +kernel
theorem dX4_readNumber_58 : decode cX4_readNumber 58 = .ok (.istore 5, 2) := by decide +kernel
theorem dX4_readNumber_60 : decode cX4_readNumber 60 = .ok (.iinc 6 1, 3) := by decide +kernel
theorem dX4_readNumber_63 : decode cX4_readNumber 63 = .ok (.aload_n 0, 1) := by decide +kernel
theorem dX4_readNumber_64 : decode cX4_readNumber 64 = .ok (.getfield 9, 3) := by decide +kernel
theorem dX4_readNumber_67 : decode cX4_readNumber 67 = .ok (.iload_n 2, 1) := by decide +kernel
theorem dX4_readNumber_68 : decode cX4_readNumber 68 = .ok (.iload 5, 2) := by decide +kernel
theorem dX4_readNumber_70 : decode cX4_readNumber 70 = .ok (.iastore, 1) := by decide +kernel
theorem dX4_readNumber_71 : decode cX4_readNumber 71 = .ok (.aload_n 0, 1) := by decide +kernel
theorem dX4_readNumber_72 : decode cX4_readNumber 72 = .ok (.getfield 15, 3) := by decide +kernel
theorem dX4_readNumber_75 : decode cX4_readNumber 75 = .ok (.iload 6, 2) := by decide +kernel
theorem dX4_readNumber_77 : decode cX4_readNumber 77 = .ok (.invokevirtual 38, 3) := by decide +kernel
theorem dX4_readNumber_80 : decode cX4_readNumber 80 = .ok (.iload_n 3, 1) := by decide +kernel
theorem dX4_readNumber_81 : decode cX4_readNumber 81 = .ok (.if_icmp .ne 10, 3) := by decide +kernel
theorem dX4_readNumber_84 : decode cX4_readNumber 84 = .ok (.iload 6, 2) := by decide +kernel
theorem dX4_readNumber_86 : decode cX4_readNumber 86 = .ok (.iconst 1, 1) := by decide +kernel
theorem dX4_readNumber_87 : decode cX4_readNumber 87 = .ok (.iadd, 1) := by decide +kernel
theorem dX4_readNumber_88 : decode cX4_readNumber 88 = .ok (.goto 5, 3) := by decide +kernel
theorem dX4_readNumber_91 : decode cX4_readNumber 91 = .ok (.bipush (-4), 2) := by decide +kernel
theorem dX4_readNumber_93 : decode cX4_readNumber 93 = .ok (.ireturn, 1) := by decide +kernel
theorem dX4_figureAt_0 : decode cX4_figureAt 0 = .ok (.aload_n 0, 1) := by decide +kernel
theorem dX4_figureAt_1 : decode cX4_figureAt 1 = .ok (.getfield 15, 3) := by decide +kernel
theorem dX4_figureAt_4 : decode cX4_figureAt 4 = .ok (.iload_n 1, 1) := by decide +kernel
theorem dX4_figureAt_5 : decode cX4_figureAt 5 = .ok (.invokevirtual 38, 3) := by decide +kernel
theorem dX4_figureAt_8 : decode cX4_figureAt 8 = .ok (.istore_n 2, 1) := by decide +kernel
theorem dX4_figureAt_9 : decode cX4_figureAt 9 = .ok (.iload_n 2, 1) := by decide +kernel
theorem dX4_figureAt_10 : decode cX4_figureAt 10 = .ok (.bipush 48, 2) := by decide +kernel
theorem dX4_figureAt_12 : decode cX4_figureAt 12 = .ok (.bipush 57, 2) := by decide +kernel
theorem dX4_figureAt_14 : decode cX4_figureAt 14 = .ok (.invokestatic 55, 3) := by decide +kernel
theorem dX4_figureAt_17 : decode cX4_figureAt 17 = .ok (.ifCond .eq 10, 3) := by decide +kernel
theorem dX4_figureAt_20 : decode cX4_figureAt 20 = .ok (.iload_n 2, 1) := by decide +kernel
theorem dX4_figureAt_21 : decode cX4_figureAt 21 = .ok (.bipush 48, 2) := by decide +kernel
theorem dX4_figureAt_23 : decode cX4_figureAt 23 = .ok (.isub, 1) := by decide +kernel
theorem dX4_figureAt_24 : decode cX4_figureAt 24 = .ok (.goto 5, 3) := by decide +kernel
theorem dX4_figureAt_27 : decode cX4_figureAt 27 = .ok (.bipush (-4), 2) := by decide +kernel
theorem dX4_figureAt_29 : decode cX4_figureAt 29 = .ok (.ireturn, 1) := by decide +kernel
theorem dX4_takeItem_0 : decode cX4_takeItem 0 = .ok (.iload_n 1, 1) := by decide +kernel
theorem dX4_takeItem_1 : decode cX4_takeItem 1 = .ok (.lookupswitch 76 #[(98, 51), (104, 66), (108, 71), (110, 56), (121, 61)], 51) := by decide +kernel
theorem dX4_takeItem_52 : decode cX4_takeItem 52 = .ok (.aload_n 0, 1) := by decide +kernel
theorem dX4_takeItem_53 : decode cX4_takeItem 53 = .ok (.invokevirtual 59, 3) := by decide +kernel
theorem dX4_takeItem_56 : decode cX4_takeItem 56 = .ok (.ireturn, 1) := by decide +kernel
theorem dX4_takeItem_57 : decode cX4_takeItem 57 = .ok (.aload_n 0, 1) := by decide +kernel
theorem dX4_takeItem_58 : decode cX4_takeItem 58 = .ok (.invokevirtual 63, 3) := by decide +kernel
theorem dX4_takeItem_61 : decode cX4_takeItem 61 = .ok (.ireturn, 1) := by decide +kernel
theorem dX4_takeItem_62 : decode cX4_takeItem 62 = .ok (.aload_n 0, 1) := by decide +kernel
theorem dX4_takeItem_63 : decode cX4_takeItem 63 = .ok (.invokevirtual 66, 3) := by decide +kernel
theorem dX4_takeItem_66 : decode cX4_takeItem 66 = .ok (.ireturn, 1) := by decide +kernel
theorem dX4_takeItem_67 : decode cX4_takeItem 67 = .ok (.aload_n 0, 1) := by decide +kernel
theorem dX4_takeItem_68 : decode cX4_takeItem 68 = .ok (.invokevirtual 69, 3) := by decide +kernel
theorem dX4_takeItem_71 : decode cX4_takeItem 71 = .ok (.ireturn, 1) := by decide +kernel
theorem dX4_takeItem_72 : decode cX4_takeItem 72 = .ok (.aload_n 0, 1) := by decide +kernel
theorem dX4_takeItem_73 : decode cX4_takeItem 73 = .ok (.invokevirtual 72, 3) := by decide +kernel
theorem dX4_takeItem_76 : decode cX4_takeItem 76 = .ok (.ireturn, 1) := by decide +kernel
theorem dX4_takeItem_77 : decode cX4_takeItem 77 = .ok (.iconst 0, 1) := by decide +kernel
theorem dX4_takeItem_78 : decode cX4_takeItem 78 = .ok (.ireturn, 1) := by decide +kernel
theorem dX4_takeBoat_0 : decode cX4_takeBoat 0 = .ok (.aload_n 0, 1) := by decide +kernel
theorem dX4_takeBoat_1 : decode cX4_takeBoat 1 = .ok (.getfield 19, 3) := by decide +kernel
theorem dX4_takeBoat_4 : decode cX4_takeBoat 4 = .ok (.getfield 75, 3) := by decide +kernel
theorem dX4_takeBoat_7 : decode cX4_takeBoat 7 = .ok (.istore_n 1, 1) := by decide +kernel
theorem dX4_takeBoat_8 : decode cX4_takeBoat 8 = .ok (.iload_n 1, 1) := by decide +kernel
theorem dX4_takeBoat_9 : decode cX4_takeBoat 9 = .ok (.bipush 6, 2) := by decide +kernel
theorem dX4_takeBoat_11 : decode cX4_takeBoat 11 = .ok (.if_icmp .ge 75, 3) := by decide +kernel
theorem dX4_takeBoat_14 : decode cX4_takeBoat 14 = .ok (.aload_n 0, 1) := by decide +kernel
theorem dX4_takeBoat_15 : decode cX4_takeBoat 15 = .ok (.getfield 9, 3) := by decide +kernel
theorem dX4_takeBoat_18 : decode cX4_takeBoat 18 = .ok (.iconst 0, 1) := by decide +kernel
theorem dX4_takeBoat_19 : decode cX4_takeBoat 19 = .ok (.iaload, 1) := by decide +kernel
theorem dX4_takeBoat_20 : decode cX4_takeBoat 20 = .ok (.iconst 0, 1) := by decide +kernel
theorem dX4_takeBoat_21 : decode cX4_takeBoat 21 = .ok (.bipush 60, 2) := by decide +kernel
theorem dX4_takeBoat_23 : decode cX4_takeBoat 23 = .ok (.invokestatic 55, 3) := by decide +kernel
theorem dX4_takeBoat_26 : decode cX4_takeBoat 26 = .ok (.ifCond .eq 60, 3) := by decide +kernel
theorem dX4_takeBoat_29 : decode cX4_takeBoat 29 = .ok (.aload_n 0, 1) := by decide +kernel
theorem dX4_takeBoat_30 : decode cX4_takeBoat 30 = .ok (.getfield 9, 3) := by decide +kernel
theorem dX4_takeBoat_33 : decode cX4_takeBoat 33 = .ok (.iconst 1, 1) := by decide +kernel
theorem dX4_takeBoat_34 : decode cX4_takeBoat 34 = .ok (.iaload, 1) := by decide +kernel
theorem dX4_takeBoat_35 : decode cX4_takeBoat 35 = .ok (.iconst 0, 1) := by decide +kernel
theorem dX4_takeBoat_36 : decode cX4_takeBoat 36 = .ok (.iconst 1, 1) := by decide +kernel
theorem dX4_takeBoat_37 : decode cX4_takeBoat 37 = .ok (.invokestatic 55, 3) := by decide +kernel
theorem dX4_takeBoat_40 : decode cX4_takeBoat 40 = .ok (.ifCond .eq 46, 3) := by decide +kernel
theorem dX4_takeBoat_43 : decode cX4_takeBoat 43 = .ok (.aload_n 0, 1) := by decide +kernel
theorem dX4_takeBoat_44 : decode cX4_takeBoat 44 = .ok (.getfield 9, 3) := by decide +kernel
theorem dX4_takeBoat_47 : decode cX4_takeBoat 47 = .ok (.iconst 2, 1) := by decide +kernel
theorem dX4_takeBoat_48 : decode cX4_takeBoat 48 = .ok (.iaload, 1) := by decide +kernel
theorem dX4_takeBoat_49 : decode cX4_takeBoat 49 = .ok (.iconst 1, 1) := by decide +kernel
theorem dX4_takeBoat_50 : decode cX4_takeBoat 50 = .ok (.iconst 3, 1) := by decide +kernel
theorem dX4_takeBoat_51 : decode cX4_takeBoat 51 = .ok (.invokestatic 55, 3) := by decide +kernel
theorem dX4_takeBoat_54 : decode cX4_takeBoat 54 = .ok (.ifCond .eq 32, 3) := by decide +kernel
theorem dX4_takeBoat_57 : decode cX4_takeBoat 57 = .ok (.aload_n 0, 1) := by decide +kernel
theorem dX4_takeBoat_58 : decode cX4_takeBoat 58 = .ok (.getfield 9, 3) := by decide +kernel
theorem dX4_takeBoat_61 : decode cX4_takeBoat 61 = .ok (.iconst 3, 1) := by decide +kernel
theorem dX4_takeBoat_62 : decode cX4_takeBoat 62 = .ok (.iaload, 1) := by decide +kernel
theorem dX4_takeBoat_63 : decode cX4_takeBoat 63 = .ok (.iconst 0, 1) := by decide +kernel
theorem dX4_takeBoat_64 : decode cX4_takeBoat 64 = .ok (.bipush 9, 2) := by decide +kernel
theorem dX4_takeBoat_66 : decode cX4_takeBoat 66 = .ok (.invokestatic 55, 3) := by decide +kernel
theorem dX4_takeBoat_69 : decode cX4_takeBoat 69 = .ok (.ifCond .eq 17, 3) := by decide +kernel
theorem dX4_takeBoat_72 : decode cX4_takeBoat 72 = .ok (.aload_n 0, 1) := by decide +kernel
theorem dX4_takeBoat_73 : decode cX4_takeBoat 73 = .ok (.getfield 9, 3) := by decide +kernel
theorem dX4_takeBoat_76 : decode cX4_takeBoat 76 = .ok (.iconst 4, 1) := by decide +kernel
theorem dX4_takeBoat_77 : decode cX4_takeBoat 77 = .ok (.iaload, 1) := by decide +kernel
theorem dX4_takeBoat_78 : decode cX4_takeBoat 78 = .ok (.iconst 0, 1) := by decide +kernel
theorem dX4_takeBoat_79 : decode cX4_takeBoat 79 = .ok (.iconst 3, 1) := by decide +kernel
theorem dX4_takeBoat_80 : decode cX4_takeBoat 80 = .ok (.invokestatic 55, 3) := by decide +kernel
theorem dX4_takeBoat_83 : decode cX4_takeBoat 83 = .ok (.ifCond .ne 5, 3) := by decide +kernel
theorem dX4_takeBoat_86 : decode cX4_takeBoat 86 = .ok (.iconst 0, 1) := by decide +kernel
theorem dX4_takeBoat_87 : decode cX4_takeBoat 87 = .ok (.ireturn, 1) := by decide +kernel
theorem dX4_takeBoat_88 : decode cX4_takeBoat 88 = .ok (.aload_n 0, 1) := by decide +kernel
theorem dX4_takeBoat_89 : decode cX4_takeBoat 89 = .ok (.getfield 19, 3) := by decide +kernel
theorem dX4_takeBoat_92 : decode cX4_takeBoat 92 = .ok (.getfield 78, 3) := by decide +kernel
theorem dX4_takeBoat_95 : decode cX4_takeBoat 95 = .ok (.iload_n 1, 1) := by decide +kernel
theorem dX4_takeBoat_96 : decode cX4_takeBoat 96 = .ok (.aload_n 0, 1) := by decide +kernel
theorem dX4_takeBoat_97 : decode cX4_takeBoat 97 = .ok (.getfield 9, 3) := by decide +kernel
theorem dX4_takeBoat_100 : decode cX4_takeBoat 100 = .ok (.iconst 0, 1) := by decide +kernel
theorem dX4_takeBoat_101 : decode cX4_takeBoat 101 = .ok (.iaload, 1) := by decide +kernel
theorem dX4_takeBoat_102 : decode cX4_takeBoat 102 = .ok (.iastore, 1) := by decide +kernel
theorem dX4_takeBoat_103 : decode cX4_takeBoat 103 = .ok (.aload_n 0, 1) := by decide +kernel
theorem dX4_takeBoat_104 : decode cX4_takeBoat 104 = .ok (.getfield 19, 3) := by decide +kernel
theorem dX4_takeBoat_107 : decode cX4_takeBoat 107 = .ok (.getfield 81, 3) := by decide +kernel
theorem dX4_takeBoat_110 : decode cX4_takeBoat 110 = .ok (.iload_n 1, 1) := by decide +kernel
theorem dX4_takeBoat_111 : decode cX4_takeBoat 111 = .ok (.aload_n 0, 1) := by decide +kernel
theorem dX4_takeBoat_112 : decode cX4_takeBoat 112 = .ok (.getfield 9, 3) := by decide +kernel
theorem dX4_takeBoat_115 : decode cX4_takeBoat 115 = .ok (.iconst 1, 1) := by decide +kernel
theorem dX4_takeBoat_116 : decode cX4_takeBoat 116 = .ok (.iaload, 1) := by decide +kernel
theorem dX4_takeBoat_117 : decode cX4_takeBoat 117 = .ok (.iastore, 1) := by decide +kernel
theorem dX4_takeBoat_118 : decode cX4_takeBoat 118 = .ok (.aload_n 0, 1) := by decide +kernel
theorem dX4_takeBoat_119 : decode cX4_takeBoat 119 = .ok (.getfield 19, 3) := by decide +kernel
theorem dX4_takeBoat_122 : decode cX4_takeBoat 122 = .ok (.getfield 84, 3) := by decide +kernel
theorem dX4_takeBoat_125 : decode cX4_takeBoat 125 = .ok (.iload_n 1, 1) := by decide +kernel
theorem dX4_takeBoat_126 : decode cX4_takeBoat 126 = .ok (.aload_n 0, 1) := by decide +kernel
theorem dX4_takeBoat_127 : decode cX4_takeBoat 127 = .ok (.getfield 9, 3) := by decide +kernel
theorem dX4_takeBoat_130 : decode cX4_takeBoat 130 = .ok (.iconst 2, 1) := by decide +kernel
theorem dX4_takeBoat_131 : decode cX4_takeBoat 131 = .ok (.iaload, 1) := by decide +kernel
theorem dX4_takeBoat_132 : decode cX4_takeBoat 132 = .ok (.iastore, 1) := by decide +kernel
theorem dX4_takeBoat_133 : decode cX4_takeBoat 133 = .ok (.aload_n 0, 1) := by decide +kernel
theorem dX4_takeBoat_134 : decode cX4_takeBoat 134 = .ok (.getfield 19, 3) := by decide +kernel
theorem dX4_takeBoat_137 : decode cX4_takeBoat 137 = .ok (.getfield 87, 3) := by decide +kernel
theorem dX4_takeBoat_140 : decode cX4_takeBoat 140 = .ok (.iload_n 1, 1) := by decide +kernel
theorem dX4_takeBoat_141 : decode cX4_takeBoat 141 = .ok (.aload_n 0, 1) := by decide +kernel
theorem dX4_takeBoat_142 : decode cX4_takeBoat 142 = .ok (.getfield 9, 3) := by decide +kernel
theorem dX4_takeBoat_145 : decode cX4_takeBoat 145 = .ok (.iconst 3, 1) := by decide +kernel
theorem dX4_takeBoat_146 : decode cX4_takeBoat 146 = .ok (.iaload, 1) := by decide +kernel
theorem dX4_takeBoat_147 : decode cX4_takeBoat 147 = .ok (.iastore, 1) := by decide +kernel
theorem dX4_takeBoat_148 : decode cX4_takeBoat 148 = .ok (.aload_n 0, 1) := by decide +kernel
theorem dX4_takeBoat_149 : decode cX4_takeBoat 149 = .ok (.getfield 19, 3) := by decide +kernel
theorem dX4_takeBoat_152 : decode cX4_takeBoat 152 = .ok (.getfield 90, 3) := by decide +kernel
theorem dX4_takeBoat_155 : decode cX4_takeBoat 155 = .ok (.iload_n 1, 1) := by decide +kernel
theorem dX4_takeBoat_156 : decode cX4_takeBoat 156 = .ok (.aload_n 0, 1) := by decide +kernel
theorem dX4_takeBoat_157 : decode cX4_takeBoat 157 = .ok (.getfield 9, 3) := by decide +kernel
theorem dX4_takeBoat_160 : decode cX4_takeBoat 160 = .ok (.iconst 4, 1) := by decide +kernel
theorem dX4_takeBoat_161 : decode cX4_takeBoat 161 = .ok (.iaload, 1) := by decide +kernel
theorem dX4_takeBoat_162 : decode cX4_takeBoat 162 = .ok (.iastore, 1) := by decide +kernel
theorem dX4_takeBoat_163 : decode cX4_takeBoat 163 = .ok (.aload_n 0, 1) := by decide +kernel
theorem dX4_takeBoat_164 : decode cX4_takeBoat 164 = .ok (.getfield 19, 3) := by decide +kernel
theorem dX4_takeBoat_167 : decode cX4_takeBoat 167 = .ok (.iload_n 1, 1) := by decide +kernel
theorem dX4_takeBoat_168 : decode cX4_takeBoat 168 = .ok (.iconst 1, 1) := by decide +kernel
theorem dX4_takeBoat_169 : decode cX4_takeBoat 169 = .ok (.iadd, 1) := by decide +kernel
theorem dX4_takeBoat_170 : decode cX4_takeBoat 170 = .ok (.putfield 75, 3) := by decide +kernel
theorem dX4_takeBoat_173 : decode cX4_takeBoat 173 = .ok (.iconst 1, 1) := by decide +kernel
theorem dX4_takeBoat_174 : decode cX4_takeBoat 174 = .ok (.ireturn, 1) := by decide +kernel
theorem dX4_takeNarrow_0 : decode cX4_takeNarrow 0 = .ok (.aload_n 0, 1) := by decide +kernel
theorem dX4_takeNarrow_1 : decode cX4_takeNarrow 1 = .ok (.getfield 19, 3) := by decide +kernel
theorem dX4_takeNarrow_4 : decode cX4_takeNarrow 4 = .ok (.getfield 93, 3) := by decide +kernel
theorem dX4_takeNarrow_7 : decode cX4_takeNarrow 7 = .ok (.istore_n 1, 1) := by decide +kernel
theorem dX4_takeNarrow_8 : decode cX4_takeNarrow 8 = .ok (.iload_n 1, 1) := by decide +kernel
theorem dX4_takeNarrow_9 : decode cX4_takeNarrow 9 = .ok (.iconst 3, 1) := by decide +kernel
theorem dX4_takeNarrow_10 : decode cX4_takeNarrow 10 = .ok (.if_icmp .ge 29, 3) := by decide +kernel
theorem dX4_takeNarrow_13 : decode cX4_takeNarrow 13 = .ok (.aload_n 0, 1) := by decide +kernel
theorem dX4_takeNarrow_14 : decode cX4_takeNarrow 14 = .ok (.getfield 9, 3) := by decide +kernel
theorem dX4_takeNarrow_17 : decode cX4_takeNarrow 17 = .ok (.iconst 0, 1) := by decide +kernel
theorem dX4_takeNarrow_18 : decode cX4_takeNarrow 18 = .ok (.iaload, 1) := by decide +kernel
theorem dX4_takeNarrow_19 : decode cX4_takeNarrow 19 = .ok (.aload_n 0, 1) := by decide +kernel
theorem dX4_takeNarrow_20 : decode cX4_takeNarrow 20 = .ok (.getfield 9, 3) := by decide +kernel
theorem dX4_takeNarrow_23 : decode cX4_takeNarrow 23 = .ok (.iconst 1, 1) := by decide +kernel
theorem dX4_takeNarrow_24 : decode cX4_takeNarrow 24 = .ok (.iaload, 1) := by decide +kernel
theorem dX4_takeNarrow_25 : decode cX4_takeNarrow 25 = .ok (.if_icmp .gt 14, 3) := by decide +kernel
theorem dX4_takeNarrow_28 : decode cX4_takeNarrow 28 = .ok (.aload_n 0, 1) := by decide +kernel
theorem dX4_takeNarrow_29 : decode cX4_takeNarrow 29 = .ok (.getfield 9, 3) := by decide +kernel
theorem dX4_takeNarrow_32 : decode cX4_takeNarrow 32 = .ok (.iconst 1, 1) := by decide +kernel
theorem dX4_takeNarrow_33 : decode cX4_takeNarrow 33 = .ok (.iaload, 1) := by decide +kernel
theorem dX4_takeNarrow_34 : decode cX4_takeNarrow 34 = .ok (.bipush 60, 2) := by decide +kernel
theorem dX4_takeNarrow_36 : decode cX4_takeNarrow 36 = .ok (.if_icmp .le 5, 3) := by decide +kernel
theorem dX4_takeNarrow_39 : decode cX4_takeNarrow 39 = .ok (.iconst 0, 1) := by decide +kernel
theorem dX4_takeNarrow_40 : decode cX4_takeNarrow 40 = .ok (.ireturn, 1) := by decide +kernel
theorem dX4_takeNarrow_41 : decode cX4_takeNarrow 41 = .ok (.aload_n 0, 1) := by decide +kernel
theorem dX4_takeNarrow_42 : decode cX4_takeNarrow 42 = .ok (.getfield 19, 3) := by decide +kernel
theorem dX4_takeNarrow_45 : decode cX4_takeNarrow 45 = .ok (.getfield 96, 3) := by decide +kernel
theorem dX4_takeNarrow_48 : decode cX4_takeNarrow 48 = .ok (.iload_n 1, 1) := by decide +kernel
theorem dX4_takeNarrow_49 : decode cX4_takeNarrow 49 = .ok (.aload_n 0, 1) := by decide +kernel
theorem dX4_takeNarrow_50 : decode cX4_takeNarrow 50 = .ok (.getfield 9, 3) := by decide +kernel
theorem dX4_takeNarrow_53 : decode cX4_takeNarrow 53 = .ok (.iconst 0, 1) := by decide +kernel
theorem dX4_takeNarrow_54 : decode cX4_takeNarrow 54 = .ok (.iaload, 1) := by decide +kernel
theorem dX4_takeNarrow_55 : decode cX4_takeNarrow 55 = .ok (.iastore, 1) := by decide +kernel
theorem dX4_takeNarrow_56 : decode cX4_takeNarrow 56 = .ok (.aload_n 0, 1) := by decide +kernel
theorem dX4_takeNarrow_57 : decode cX4_takeNarrow 57 = .ok (.getfield 19, 3) := by decide +kernel
theorem dX4_takeNarrow_60 : decode cX4_takeNarrow 60 = .ok (.getfield 99, 3) := by decide +kernel
theorem dX4_takeNarrow_63 : decode cX4_takeNarrow 63 = .ok (.iload_n 1, 1) := by decide +kernel
theorem dX4_takeNarrow_64 : decode cX4_takeNarrow 64 = .ok (.aload_n 0, 1) := by decide +kernel
theorem dX4_takeNarrow_65 : decode cX4_takeNarrow 65 = .ok (.getfield 9, 3) := by decide +kernel
theorem dX4_takeNarrow_68 : decode cX4_takeNarrow 68 = .ok (.iconst 1, 1) := by decide +kernel
theorem dX4_takeNarrow_69 : decode cX4_takeNarrow 69 = .ok (.iaload, 1) := by decide +kernel
theorem dX4_takeNarrow_70 : decode cX4_takeNarrow 70 = .ok (.iastore, 1) := by decide +kernel
theorem dX4_takeNarrow_71 : decode cX4_takeNarrow 71 = .ok (.aload_n 0, 1) := by decide +kernel
theorem dX4_takeNarrow_72 : decode cX4_takeNarrow 72 = .ok (.getfield 19, 3) := by decide +kernel
theorem dX4_takeNarrow_75 : decode cX4_takeNarrow 75 = .ok (.iload_n 1, 1) := by decide +kernel
theorem dX4_takeNarrow_76 : decode cX4_takeNarrow 76 = .ok (.iconst 1, 1) := by decide +kernel
theorem dX4_takeNarrow_77 : decode cX4_takeNarrow 77 = .ok (.iadd, 1) := by decide +kernel
theorem dX4_takeNarrow_78 : decode cX4_takeNarrow 78 = .ok (.putfield 93, 3) := by decide +kernel
theorem dX4_takeNarrow_81 : decode cX4_takeNarrow 81 = .ok (.iconst 1, 1) := by decide +kernel
theorem dX4_takeNarrow_82 : decode cX4_takeNarrow 82 = .ok (.ireturn, 1) := by decide +kernel
theorem dX4_takeYield_0 : decode cX4_takeYield 0 = .ok (.aload_n 0, 1) := by decide +kernel
theorem dX4_takeYield_1 : decode cX4_takeYield 1 = .ok (.getfield 19, 3) := by decide +kernel
theorem dX4_takeYield_4 : decode cX4_takeYield 4 = .ok (.aload_n 0, 1) := by decide +kernel
theorem dX4_takeYield_5 : decode cX4_takeYield 5 = .ok (.getfield 9, 3) := by decide +kernel
theorem dX4_takeYield_8 : decode cX4_takeYield 8 = .ok (.iconst 0, 1) := by decide +kernel
theorem dX4_takeYield_9 : decode cX4_takeYield 9 = .ok (.iaload, 1) := by decide +kernel
theorem dX4_takeYield_10 : decode cX4_takeYield 10 = .ok (.putfield 102, 3) := by decide +kernel
theorem dX4_takeYield_13 : decode cX4_takeYield 13 = .ok (.aload_n 0, 1) := by decide +kernel
theorem dX4_takeYield_14 : decode cX4_takeYield 14 = .ok (.getfield 9, 3) := by decide +kernel
theorem dX4_takeYield_17 : decode cX4_takeYield 17 = .ok (.iconst 0, 1) := by decide +kernel
theorem dX4_takeYield_18 : decode cX4_takeYield 18 = .ok (.iaload, 1) := by decide +kernel
theorem dX4_takeYield_19 : decode cX4_takeYield 19 = .ok (.iconst 1, 1) := by decide +kernel
theorem dX4_takeYield_20 : decode cX4_takeYield 20 = .ok (.bipush 9, 2) := by decide +kernel
theorem dX4_takeYield_22 : decode cX4_takeYield 22 = .ok (.invokestatic 55, 3) := by decide +kernel
theorem dX4_takeYield_25 : decode cX4_takeYield 25 = .ok (.ireturn, 1) := by decide +kernel
theorem dX4_takeHeld_0 : decode cX4_takeHeld 0 = .ok (.aload_n 0, 1) := by decide +kernel
theorem dX4_takeHeld_1 : decode cX4_takeHeld 1 = .ok (.getfield 19, 3) := by decide +kernel
theorem dX4_takeHeld_4 : decode cX4_takeHeld 4 = .ok (.aload_n 0, 1) := by decide +kernel
theorem dX4_takeHeld_5 : decode cX4_takeHeld 5 = .ok (.getfield 9, 3) := by decide +kernel
theorem dX4_takeHeld_8 : decode cX4_takeHeld 8 = .ok (.iconst 0, 1) := by decide +kernel
theorem dX4_takeHeld_9 : decode cX4_takeHeld 9 = .ok (.iaload, 1) := by decide +kernel
theorem dX4_takeHeld_10 : decode cX4_takeHeld 10 = .ok (.putfield 105, 3) := by decide +kernel
theorem dX4_takeHeld_13 : decode cX4_takeHeld 13 = .ok (.aload_n 0, 1) := by decide +kernel
theorem dX4_takeHeld_14 : decode cX4_takeHeld 14 = .ok (.getfield 9, 3) := by decide +kernel
theorem dX4_takeHeld_17 : decode cX4_takeHeld 17 = .ok (.iconst 0, 1) := by decide +kernel
theorem dX4_takeHeld_18 : decode cX4_takeHeld 18 = .ok (.iaload, 1) := by decide +kernel
theorem dX4_takeHeld_19 : decode cX4_takeHeld 19 = .ok (.iconst 1, 1) := by decide +kernel
theorem dX4_takeHeld_20 : decode cX4_takeHeld 20 = .ok (.bipush 30, 2) := by decide +kernel
theorem dX4_takeHeld_22 : decode cX4_takeHeld 22 = .ok (.invokestatic 55, 3) := by decide +kernel
theorem dX4_takeHeld_25 : decode cX4_takeHeld 25 = .ok (.ireturn, 1) := by decide +kernel
theorem dX4_takeLine_0 : decode cX4_takeLine 0 = .ok (.aload_n 0, 1) := by decide +kernel
theorem dX4_takeLine_1 : decode cX4_takeLine 1 = .ok (.getfield 19, 3) := by decide +kernel
theorem dX4_takeLine_4 : decode cX4_takeLine 4 = .ok (.aload_n 0, 1) := by decide +kernel
theorem dX4_takeLine_5 : decode cX4_takeLine 5 = .ok (.getfield 9, 3) := by decide +kernel
theorem dX4_takeLine_8 : decode cX4_takeLine 8 = .ok (.iconst 0, 1) := by decide +kernel
theorem dX4_takeLine_9 : decode cX4_takeLine 9 = .ok (.iaload, 1) := by decide +kernel
theorem dX4_takeLine_10 : decode cX4_takeLine 10 = .ok (.putfield 108, 3) := by decide +kernel
theorem dX4_takeLine_13 : decode cX4_takeLine 13 = .ok (.aload_n 0, 1) := by decide +kernel
theorem dX4_takeLine_14 : decode cX4_takeLine 14 = .ok (.getfield 19, 3) := by decide +kernel
theorem dX4_takeLine_17 : decode cX4_takeLine 17 = .ok (.aload_n 0, 1) := by decide +kernel
theorem dX4_takeLine_18 : decode cX4_takeLine 18 = .ok (.getfield 9, 3) := by decide +kernel
theorem dX4_takeLine_21 : decode cX4_takeLine 21 = .ok (.iconst 1, 1) := by decide +kernel
theorem dX4_takeLine_22 : decode cX4_takeLine 22 = .ok (.iaload, 1) := by decide +kernel
theorem dX4_takeLine_23 : decode cX4_takeLine 23 = .ok (.putfield 111, 3) := by decide +kernel
theorem dX4_takeLine_26 : decode cX4_takeLine 26 = .ok (.aload_n 0, 1) := by decide +kernel
theorem dX4_takeLine_27 : decode cX4_takeLine 27 = .ok (.getfield 9, 3) := by decide +kernel
theorem dX4_takeLine_30 : decode cX4_takeLine 30 = .ok (.iconst 0, 1) := by decide +kernel
theorem dX4_takeLine_31 : decode cX4_takeLine 31 = .ok (.iaload, 1) := by decide +kernel
theorem dX4_takeLine_32 : decode cX4_takeLine 32 = .ok (.iconst 1, 1) := by decide +kernel
theorem dX4_takeLine_33 : decode cX4_takeLine 33 = .ok (.iconst 5, 1) := by decide +kernel
theorem dX4_takeLine_34 : decode cX4_takeLine 34 = .ok (.invokestatic 55, 3) := by decide +kernel
theorem dX4_takeLine_37 : decode cX4_takeLine 37 = .ok (.ifCond .eq 22, 3) := by decide +kernel
theorem dX4_takeLine_40 : decode cX4_takeLine 40 = .ok (.aload_n 0, 1) := by decide +kernel
theorem dX4_takeLine_41 : decode cX4_takeLine 41 = .ok (.getfield 9, 3) := by decide +kernel
theorem dX4_takeLine_44 : decode cX4_takeLine 44 = .ok (.iconst 1, 1) := by decide +kernel
theorem dX4_takeLine_45 : decode cX4_takeLine 45 = .ok (.iaload, 1) := by decide +kernel
theorem dX4_takeLine_46 : decode cX4_takeLine 46 = .ok (.iconst 1, 1) := by decide +kernel
theorem dX4_takeLine_47 : decode cX4_takeLine 47 = .ok (.bipush 9, 2) := by decide +kernel
theorem dX4_takeLine_49 : decode cX4_takeLine 49 = .ok (.invokestatic 55, 3) := by decide +kernel
theorem dX4_takeLine_52 : decode cX4_takeLine 52 = .ok (.ifCond .eq 7, 3) := by decide +kernel
theorem dX4_takeLine_55 : decode cX4_takeLine 55 = .ok (.iconst 1, 1) := by decide +kernel
theorem dX4_takeLine_56 : decode cX4_takeLine 56 = .ok (.goto 4, 3) := by decide +kernel
theorem dX4_takeLine_59 : decode cX4_takeLine 59 = .ok (.iconst 0, 1) := by decide +kernel
theorem dX4_takeLine_60 : decode cX4_takeLine 60 = .ok (.ireturn, 1) := by decide +kernel
theorem dX5_init_0 : decode cX5_init 0 = .ok (.aload_n 0, 1) := by decide +kernel
theorem dX5_init_1 : decode cX5_init 1 = .ok (.invokespecial 3, 3) := by decide +kernel
theorem dX5_init_4 : decode cX5_init 4 = .ok (.aload_n 0, 1) := by decide +kernel
theorem dX5_init_5 : decode cX5_init 5 = .ok (.aload_n 1, 1) := by decide +kernel
theorem dX5_init_6 : decode cX5_init 6 = .ok (.putfield 9, 3) := by decide +kernel
theorem dX5_init_9 : decode cX5_init 9 = .ok (.return_, 1) := by decide +kernel
theorem dX5_yielder_0 : decode cX5_yielder 0 = .ok (.aload_n 0, 1) := by decide +kernel
theorem dX5_yielder_1 : decode cX5_yielder 1 = .ok (.getfield 9, 3) := by decide +kernel
theorem dX5_yielder_4 : decode cX5_yielder 4 = .ok (.getfield 15, 3) := by decide +kernel
theorem dX5_yielder_7 : decode cX5_yielder 7 = .ok (.iload_n 3, 1) := by decide +kernel
theorem dX5_yielder_8 : decode cX5_yielder 8 = .ok (.iaload, 1) := by decide +kernel
theorem dX5_yielder_9 : decode cX5_yielder 9 = .ok (.iconst 2, 1) := by decide +kernel
theorem dX5_yielder_10 : decode cX5_yielder 10 = .ok (.if_icmp .ne 7, 3) := by decide +kernel
theorem dX5_yielder_13 : decode cX5_yielder 13 = .ok (.iconst 1, 1) := by decide +kernel
theorem dX5_yielder_14 : decode cX5_yielder 14 = .ok (.goto 4, 3) := by decide +kernel
theorem dX5_yielder_17 : decode cX5_yielder 17 = .ok (.iconst 0, 1) := by decide +kernel
theorem dX5_yielder_18 : decode cX5_yielder 18 = .ok (.istore 5, 2) := by decide +kernel
theorem dX5_yielder_20 : decode cX5_yielder 20 = .ok (.aload_n 0, 1) := by decide +kernel
theorem dX5_yielder_21 : decode cX5_yielder 21 = .ok (.getfield 9, 3) := by decide +kernel
theorem dX5_yielder_24 : decode cX5_yielder 24 = .ok (.getfield 15, 3) := by decide +kernel
theorem dX5_yielder_27 : decode cX5_yielder 27 = .ok (.iload 4, 2) := by decide +kernel
theorem dX5_yielder_29 : decode cX5_yielder 29 = .ok (.iaload, 1) := by decide +kernel
theorem dX5_yielder_30 : decode cX5_yielder 30 = .ok (.iconst 2, 1) := by decide +kernel
theorem dX5_yielder_31 : decode cX5_yielder 31 = .ok (.if_icmp .ne 7, 3) := by decide +kernel
theorem dX5_yielder_34 : decode cX5_yielder 34 = .ok (.iconst 1, 1) := by decide +kernel
theorem dX5_yielder_35 : decode cX5_yielder 35 = .ok (.goto 4, 3) := by decide +kernel
theorem dX5_yielder_38 : decode cX5_yielder 38 = .ok (.iconst 0, 1) := by decide +kernel
theorem dX5_yielder_39 : decode cX5_yielder 39 = .ok (.istore 6, 2) := by decide +kernel
theorem dX5_yielder_41 : decode cX5_yielder 41 = .ok (.iload 5, 2) := by decide +kernel
theorem dX5_yielder_43 : decode cX5_yielder 43 = .ok (.ifCond .eq 11, 3) := by decide +kernel
theorem dX5_yielder_46 : decode cX5_yielder 46 = .ok (.iload 6, 2) := by decide +kernel
theorem dX5_yielder_48 : decode cX5_yielder 48 = .ok (.ifCond .eq 6, 3) := by decide +kernel
theorem dX5_yielder_51 : decode cX5_yielder 51 = .ok (.bipush (-4), 2) := by decide +kernel
theorem dX5_yielder_53 : decode cX5_yielder 53 = .ok (.ireturn, 1) := by decide +kernel
theorem dX5_yielder_54 : decode cX5_yielder 54 = .ok (.iload 5, 2) := by decide +kernel
theorem dX5_yielder_56 : decode cX5_yielder 56 = .ok (.ifCond .ne 8, 3) := by decide +kernel
theorem dX5_yielder_59 : decode cX5_yielder 59 = .ok (.iload 6, 2) := by decide +kernel
theorem dX5_yielder_61 : decode cX5_yielder 61 = .ok (.ifCond .eq 15, 3) := by decide +kernel
theorem dX5_yielder_64 : decode cX5_yielder 64 = .ok (.iload 5, 2) := by decide +kernel
theorem dX5_yielder_66 : decode cX5_yielder 66 = .ok (.ifCond .eq 8, 3) := by decide +kernel
theorem dX5_yielder_69 : decode cX5_yielder 69 = .ok (.iload 4, 2) := by decide +kernel
theorem dX5_yielder_71 : decode cX5_yielder 71 = .ok (.goto 4, 3) := by decide +kernel
theorem dX5_yielder_74 : decode cX5_yielder 74 = .ok (.iload_n 3, 1) := by decide +kernel
theorem dX5_yielder_75 : decode cX5_yielder 75 = .ok (.ireturn, 1) := by decide +kernel
theorem dX5_yielder_76 : decode cX5_yielder 76 = .ok (.aload_n 0, 1) := by decide +kernel
theorem dX5_yielder_77 : decode cX5_yielder 77 = .ok (.getfield 9, 3) := by decide +kernel
theorem dX5_yielder_80 : decode cX5_yielder 80 = .ok (.getfield 15, 3) := by decide +kernel
theorem dX5_yielder_83 : decode cX5_yielder 83 = .ok (.iload_n 3, 1) := by decide +kernel
theorem dX5_yielder_84 : decode cX5_yielder 84 = .ok (.iaload, 1) := by decide +kernel
theorem dX5_yielder_85 : decode cX5_yielder 85 = .ok (.iconst 3, 1) := by decide +kernel
theorem dX5_yielder_86 : decode cX5_yielder 86 = .ok (.if_icmp .ne 7, 3) := by decide +kernel
theorem dX5_yielder_89 : decode cX5_yielder 89 = .ok (.iconst 1, 1) := by decide +kernel
theorem dX5_yielder_90 : decode cX5_yielder 90 = .ok (.goto 4, 3) := by decide +kernel
theorem dX5_yielder_93 : decode cX5_yielder 93 = .ok (.iconst 0, 1) := by decide +kernel
theorem dX5_yielder_94 : decode cX5_yielder 94 = .ok (.istore 7, 2) := by decide +kernel
theorem dX5_yielder_96 : decode cX5_yielder 96 = .ok (.iload 7, 2) := by decide +kernel
theorem dX5_yielder_98 : decode cX5_yielder 98 = .ok (.aload_n 0, 1) := by decide +kernel
theorem dX5_yielder_99 : decode cX5_yielder 99 = .ok (.getfield 9, 3) := by decide +kernel
theorem dX5_yielder_102 : decode cX5_yielder 102 = .ok (.getfield 15, 3) := by decide +kernel
theorem dX5_yielder_105 : decode cX5_yielder 105 = .ok (.iload 4, 2) := by decide +kernel
theorem dX5_yielder_107 : decode cX5_yielder 107 = .ok (.iaload, 1) := by decide +kernel
theorem dX5_yielder_108 : decode cX5_yielder 108 = .ok (.iconst 3, 1) := by decide +kernel
theorem dX5_yielder_109 : decode cX5_yielder 109 = .ok (.if_icmp .ne 7, 3) := by decide +kernel
theorem dX5_yielder_112 : decode cX5_yielder 112 = .ok (.iconst 1, 1) := by decide +kernel
theorem dX5_yielder_113 : decode cX5_yielder 113 = .ok (.goto 4, 3) := by decide +kernel
theorem dX5_yielder_116 : decode cX5_yielder 116 = .ok (.iconst 0, 1) := by decide +kernel
theorem dX5_yielder_117 : decode cX5_yielder 117 = .ok (.if_icmp .eq 15, 3) := by decide +kernel
theorem dX5_yielder_120 : decode cX5_yielder 120 = .ok (.iload 7, 2) := by decide +kernel
theorem dX5_yielder_122 : decode cX5_yielder 122 = .ok (.ifCond .eq 7, 3) := by decide +kernel
theorem dX5_yielder_125 : decode cX5_yielder 125 = .ok (.iload_n 3, 1) := by decide +kernel
theorem dX5_yielder_126 : decode cX5_yielder 126 = .ok (.goto 5, 3) := by decide +kernel
theorem dX5_yielder_129 : decode cX5_yielder 129 = .ok (.iload 4, 2) := by decide +kernel
theorem dX5_yielder_131 : decode cX5_yielder 131 = .ok (.ireturn, 1) := by decide +kernel
theorem dX5_yielder_132 : decode cX5_yielder 132 = .ok (.aload_n 0, 1) := by decide +kernel
theorem dX5_yielder_133 : decode cX5_yielder 133 = .ok (.aload_n 1, 1) := by decide +kernel
theorem dX5_yielder_134 : decode cX5_yielder 134 = .ok (.iload_n 2, 1) := by decide +kernel
theorem dX5_yielder_135 : decode cX5_yielder 135 = .ok (.iload_n 3, 1) := by decide +kernel
theorem dX5_yielder_136 : decode cX5_yielder 136 = .ok (.invokevirtual 21, 3) := by decide +kernel
theorem dX5_yielder_139 : decode cX5_yielder 139 = .ok (.istore 8, 2) := by decide +kernel
theorem dX5_yielder_141 : decode cX5_yielder 141 = .ok (.aload_n 0, 1) := by decide +kernel
theorem dX5_yielder_142 : decode cX5_yielder 142 = .ok (.aload_n 1, 1) := by decide +kernel
theorem dX5_yielder_143 : decode cX5_yielder 143 = .ok (.iload_n 2, 1) := by decide +kernel
theorem dX5_yielder_144 : decode cX5_yielder 144 = .ok (.iload 4, 2) := by decide +kernel
theorem dX5_yielder_146 : decode cX5_yielder 146 = .ok (.invokevirtual 21, 3) := by decide +kernel
theorem dX5_yielder_149 : decode cX5_yielder 149 = .ok (.istore 9, 2) := by decide +kernel
theorem dX5_yielder_151 : decode cX5_yielder 151 = .ok (.iload 8, 2) := by decide +kernel
theorem dX5_yielder_153 : decode cX5_yielder 153 = .ok (.iload 9, 2) := by decide +kernel
theorem dX5_yielder_155 : decode cX5_yielder 155 = .ok (.if_icmp .ne 12, 3) := by decide +kernel
theorem dX5_yielder_158 : decode cX5_yielder 158 = .ok (.aload_n 0, 1) := by decide +kernel
theorem dX5_yielder_159 : decode cX5_yielder 159 = .ok (.aload_n 1, 1) := by decide +kernel
theorem dX5_yielder_160 : decode cX5_yielder 160 = .ok (.iload_n 3, 1) := by decide +kernel
theorem dX5_yielder_161 : decode cX5_yielder 161 = .ok (.iload 4, 2) := by decide +kernel
theorem dX5_yielder_163 : decode cX5_yielder 163 = .ok (.invokevirtual 25, 3) := by decide +kernel
theorem dX5_yielder_166 : decode cX5_yielder 166 = .ok (.ireturn, 1) := by decide +kernel
theorem dX5_yielder_167 : decode cX5_yielder 167 = .ok (.iload 8, 2) := by decide +kernel
theorem dX5_yielder_169 : decode cX5_yielder 169 = .ok (.iload 9, 2) := by decide +kernel
theorem dX5_yielder_171 : decode cX5_yielder 171 = .ok (.if_icmp .ge 7, 3) := by decide +kernel
theorem dX5_yielder_174 : decode cX5_yielder 174 = .ok (.iload_n 3, 1) := by decide +kernel
theorem dX5_yielder_175 : decode cX5_yielder 175 = .ok (.goto 5, 3) := by decide +kernel
theorem dX5_yielder_178 : decode cX5_yielder 178 = .ok (.iload 4, 2) := by decide +kernel
theorem dX5_yielder_180 : decode cX5_yielder 180 = .ok (.ireturn, 1) := by decide +kernel
theorem dX5_weight_0 : decode cX5_weight 0 = .ok (.iload_n 2, 1) := by decide +kernel
theorem dX5_weight_1 : decode cX5_weight 1 = .ok (.tableswitch 68 1 3 #[27, 34, 44], 27) := by decide +kernel
theorem dX5_weight_28 : decode cX5_weight 28 = .ok (.aload_n 1, 1) := by decide +kernel
theorem dX5_weight_29 : decode cX5_weight 29 = .ok (.getfield 28, 3) := by decide +kernel
theorem dX5_weight_32 : decode cX5_weight 32 = .ok (.iload_n 3, 1) := by decide +kernel
theorem dX5_weight_33 : decode cX5_weight 33 = .ok (.iaload, 1) := by decide +kernel
theorem dX5_weight_34 : decode cX5_weight 34 = .ok (.ireturn, 1) := by decide +kernel
theorem dX5_weight_35 : decode cX5_weight 35 = .ok (.aload_n 0, 1) := by decide +kernel
theorem dX5_weight_36 : decode cX5_weight 36 = .ok (.getfield 9, 3) := by decide +kernel
theorem dX5_weight_39 : decode cX5_weight 39 = .ok (.getfield 33, 3) := by decide +kernel
theorem dX5_weight_42 : decode cX5_weight 42 = .ok (.iload_n 3, 1) := by decide +kernel
theorem dX5_weight_43 : decode cX5_weight 43 = .ok (.iaload, 1) := by decide +kernel
theorem dX5_weight_44 : decode cX5_weight 44 = .ok (.ireturn, 1) := by decide +kernel
theorem dX5_weight_45 : decode cX5_weight 45 = .ok (.aload_n 0, 1) := by decide +kernel
theorem dX5_weight_46 : decode cX5_weight 46 = .ok (.getfield 9, 3) := by decide +kernel
theorem dX5_weight_49 : decode cX5_weight 49 = .ok (.getfield 36, 3) := by decide +kernel
theorem dX5_weight_52 : decode cX5_weight 52 = .ok (.aload_n 1, 1) := by decide +kernel
theorem dX5_weight_53 : decode cX5_weight 53 = .ok (.getfield 28, 3) := by decide +kernel
theorem dX5_weight_56 : decode cX5_weight 56 = .ok (.iload_n 3, 1) := by decide +kernel
theorem dX5_weight_57 : decode cX5_weight 57 = .ok (.iaload, 1) := by decide +kernel
theorem dX5_weight_58 : decode cX5_weight 58 = .ok (.iadd, 1) := by decide +kernel
theorem dX5_weight_59 : decode cX5_weight 59 = .ok (.aload_n 1, 1) := by decide +kernel
theorem dX5_weight_60 : decode cX5_weight 60 = .ok (.getfield 28, 3) := by decide +kernel
theorem dX5_weight_63 : decode cX5_weight 63 = .ok (.iload_n 3, 1) := by decide +kernel
theorem dX5_weight_64 : decode cX5_weight 64 = .ok (.iaload, 1) := by decide +kernel
theorem dX5_weight_65 : decode cX5_weight 65 = .ok (.iconst 1, 1) := by decide +kernel
theorem dX5_weight_66 : decode cX5_weight 66 = .ok (.iadd, 1) := by decide +kernel
theorem dX5_weight_67 : decode cX5_weight 67 = .ok (.imul, 1) := by decide +kernel
theorem dX5_weight_68 : decode cX5_weight 68 = .ok (.ireturn, 1) := by decide +kernel
theorem dX5_weight_69 : decode cX5_weight 69 = .ok (.iconst 0, 1) := by decide +kernel
theorem dX5_weight_70 : decode cX5_weight 70 = .ok (.ireturn, 1) := by decide +kernel
theorem dX5_byCustom_0 : decode cX5_byCustom 0 = .ok (.aload_n 0, 1) := by decide +kernel
theorem dX5_byCustom_1 : decode cX5_byCustom 1 = .ok (.getfield 9, 3) := by decide +kernel
theorem dX5_byCustom_4 : decode cX5_byCustom 4 = .ok (.getfield 15, 3) := by decide +kernel
theorem dX5_byCustom_7 : decode cX5_byCustom 7 = .ok (.iload_n 2, 1) := by decide +kernel
theorem dX5_byCustom_8 : decode cX5_byCustom 8 = .ok (.iaload, 1) := by decide +kernel
theorem dX5_byCustom_9 : decode cX5_byCustom 9 = .ok (.iconst 1, 1) := by decide +kernel
theorem dX5_byCustom_10 : decode cX5_byCustom 10 = .ok (.if_icmp .ne 7, 3) := by decide +kernel
theorem dX5_byCustom_13 : decode cX5_byCustom 13 = .ok (.iconst 1, 1) := by decide +kernel
theorem dX5_byCustom_14 : decode cX5_byCustom 14 = .ok (.goto 4, 3) := by decide +kernel
theorem dX5_byCustom_17 : decode cX5_byCustom 17 = .ok (.iconst 0, 1) := by decide +kernel
theorem dX5_byCustom_18 : decode cX5_byCustom 18 = .ok (.istore 4, 2) := by decide +kernel
theorem dX5_byCustom_20 : decode cX5_byCustom 20 = .ok (.iload 4, 2) := by decide +kernel
theorem dX5_byCustom_22 : decode cX5_byCustom 22 = .ok (.aload_n 0, 1) := by decide +kernel
theorem dX5_byCustom_23 : decode cX5_byCustom 23 = .ok (.getfield 9, 3) := by decide +kernel
theorem dX5_byCustom_26 : decode cX5_byCustom 26 = .ok (.getfield 15, 3) := by decide +kernel
theorem dX5_byCustom_29 : decode cX5_byCustom 29 = .ok (.iload_n 3, 1) := by decide +kernel
theorem dX5_byCustom_30 : decode cX5_byCustom 30 = .ok (.iaload, 1) := by decide +kernel
theorem dX5_byCustom_31 : decode cX5_byCustom 31 = .ok (.iconst 1, 1) := by decide +kernel
theorem dX5_byCustom_32 : decode cX5_byCustom 32 = .ok (.if_icmp .ne 7, 3) := by decide +kernel
theorem dX5_byCustom_35 : decode cX5_byCustom 35 = .ok (.iconst 1, 1) := by decide +kernel
theorem dX5_byCustom_36 : decode cX5_byCustom 36 = .ok (.goto 4, 3) := by decide +kernel
theorem dX5_byCustom_39 : decode cX5_byCustom 39 = .ok (.iconst 0, 1) := by decide +kernel
theorem dX5_byCustom_40 : decode cX5_byCustom 40 = .ok (.if_icmp .eq 14, 3) := by decide +kernel
theorem dX5_byCustom_43 : decode cX5_byCustom 43 = .ok (.iload 4, 2) := by decide +kernel
theorem dX5_byCustom_45 : decode cX5_byCustom 45 = .ok (.ifCond .eq 7, 3) := by decide +kernel
theorem dX5_byCustom_48 : decode cX5_byCustom 48 = .ok (.iload_n 3, 1) := by decide +kernel
theorem dX5_byCustom_49 : decode cX5_byCustom 49 = .ok (.goto 4, 3) := by decide +kernel
theorem dX5_byCustom_52 : decode cX5_byCustom 52 = .ok (.iload_n 2, 1) := by decide +kernel
theorem dX5_byCustom_53 : decode cX5_byCustom 53 = .ok (.ireturn, 1) := by decide +kernel
theorem dX5_byCustom_54 : decode cX5_byCustom 54 = .ok (.aload_n 1, 1) := by decide +kernel
theorem dX5_byCustom_55 : decode cX5_byCustom 55 = .ok (.getfield 28, 3) := by decide +kernel
theorem dX5_byCustom_58 : decode cX5_byCustom 58 = .ok (.iload_n 2, 1) := by decide +kernel
theorem dX5_byCustom_59 : decode cX5_byCustom 59 = .ok (.iaload, 1) := by decide +kernel
theorem dX5_byCustom_60 : decode cX5_byCustom 60 = .ok (.ifCond .ne 7, 3) := by decide +kernel
theorem dX5_byCustom_63 : decode cX5_byCustom 63 = .ok (.iconst 1, 1) := by decide +kernel
theorem dX5_byCustom_64 : decode cX5_byCustom 64 = .ok (.goto 4, 3) := by decide +kernel
theorem dX5_byCustom_67 : decode cX5_byCustom 67 = .ok (.iconst 0, 1) := by decide +kernel
theorem dX5_byCustom_68 : decode cX5_byCustom 68 = .ok (.istore 5, 2) := by decide +kernel
theorem dX5_byCustom_70 : decode cX5_byCustom 70 = .ok (.iload 5, 2) := by decide +kernel
theorem dX5_byCustom_72 : decode cX5_byCustom 72 = .ok (.aload_n 1, 1) := by decide +kernel
theorem dX5_byCustom_73 : decode cX5_byCustom 73 = .ok (.getfield 28, 3) := by decide +kernel
theorem dX5_byCustom_76 : decode cX5_byCustom 76 = .ok (.iload_n 3, 1) := by decide +kernel
theorem dX5_byCustom_77 : decode cX5_byCustom 77 = .ok (.iaload, 1) := by decide +kernel
theorem dX5_byCustom_78 : decode cX5_byCustom 78 = .ok (.ifCond .ne 7, 3) := by decide +kernel
theorem dX5_byCustom_81 : decode cX5_byCustom 81 = .ok (.iconst 1, 1) := by decide +kernel
theorem dX5_byCustom_82 : decode cX5_byCustom 82 = .ok (.goto 4, 3) := by decide +kernel
theorem dX5_byCustom_85 : decode cX5_byCustom 85 = .ok (.iconst 0, 1) := by decide +kernel
theorem dX5_byCustom_86 : decode cX5_byCustom 86 = .ok (.if_icmp .eq 14, 3) := by decide +kernel
theorem dX5_byCustom_89 : decode cX5_byCustom 89 = .ok (.iload 5, 2) := by decide +kernel
theorem dX5_byCustom_91 : decode cX5_byCustom 91 = .ok (.ifCond .eq 7, 3) := by decide +kernel
theorem dX5_byCustom_94 : decode cX5_byCustom 94 = .ok (.iload_n 2, 1) := by decide +kernel
theorem dX5_byCustom_95 : decode cX5_byCustom 95 = .ok (.goto 4, 3) := by decide +kernel
theorem dX5_byCustom_98 : decode cX5_byCustom 98 = .ok (.iload_n 3, 1) := by decide +kernel
theorem dX5_byCustom_99 : decode cX5_byCustom 99 = .ok (.ireturn, 1) := by decide +kernel
theorem dX5_byCustom_100 : decode cX5_byCustom 100 = .ok (.aload_n 0, 1) := by decide +kernel
theorem dX5_byCustom_101 : decode cX5_byCustom 101 = .ok (.getfield 9, 3) := by decide +kernel
theorem dX5_byCustom_104 : decode cX5_byCustom 104 = .ok (.getfield 40, 3) := by decide +kernel
theorem dX5_byCustom_107 : decode cX5_byCustom 107 = .ok (.iload_n 2, 1) := by decide +kernel
theorem dX5_byCustom_108 : decode cX5_byCustom 108 = .ok (.iaload, 1) := by decide +kernel
theorem dX5_byCustom_109 : decode cX5_byCustom 109 = .ok (.iconst 1, 1) := by decide +kernel
theorem dX5_byCustom_110 : decode cX5_byCustom 110 = .ok (.if_icmp .ne 7, 3) := by decide +kernel
theorem dX5_byCustom_113 : decode cX5_byCustom 113 = .ok (.iload_n 2, 1) := by decide +kernel
theorem dX5_byCustom_114 : decode cX5_byCustom 114 = .ok (.goto 4, 3) := by decide +kernel
theorem dX5_byCustom_117 : decode cX5_byCustom 117 = .ok (.iload_n 3, 1) := by decide +kernel
theorem dX5_byCustom_118 : decode cX5_byCustom 118 = .ok (.ireturn, 1) := by decide +kernel
theorem dX6_init_0 : decode cX6_init 0 = .ok (.aload_n 0, 1) := by decide +kernel
theorem dX6_init_1 : decode cX6_init 1 = .ok (.invokespecial 3, 3) := by decide +kernel
theorem dX6_init_4 : decode cX6_init 4 = .ok (.aload_n 0, 1) := by decide +kernel
theorem dX6_init_5 : decode cX6_init 5 = .ok (.bipush 8, 2) := by decide +kernel
theorem dX6_init_7 : decode cX6_init 7 = .ok (.newarray .int, 2) := by decide +kernel
theorem dX6_init_9 : decode cX6_init 9 = .ok (.putfield 9, 3) := by decide +kernel
theorem dX6_init_12 : decode cX6_init 12 = .ok (.aload_n 0, 1) := by decide +kernel
theorem dX6_init_13 : decode cX6_init 13 = .ok (.bipush 8, 2) := by decide +kernel
theorem dX6_init_15 : decode cX6_init 15 = .ok (.newarray .int, 2) := by decide +kernel
theorem dX6_init_17 : decode cX6_init 17 = .ok (.putfield 15, 3) := by decide +kernel
theorem dX6_init_20 : decode cX6_init 20 = .ok (.aload_n 0, 1) := by decide +kernel
theorem dX6_init_21 : decode cX6_init 21 = .ok (.iconst 0, 1) := by decide +kernel
theorem dX6_init_22 : decode cX6_init 22 = .ok (.putfield 18, 3) := by decide +kernel
theorem dX6_init_25 : decode cX6_init 25 = .ok (.return_, 1) := by decide +kernel
theorem dX6_add_0 : decode cX6_add 0 = .ok (.aload_n 0, 1) := by decide +kernel
theorem dX6_add_1 : decode cX6_add 1 = .ok (.getfield 18, 3) := by decide +kernel
theorem dX6_add_4 : decode cX6_add 4 = .ok (.bipush 8, 2) := by decide +kernel
theorem dX6_add_6 : decode cX6_add 6 = .ok (.if_icmp .lt 5, 3) := by decide +kernel
theorem dX6_add_9 : decode cX6_add 9 = .ok (.iconst 0, 1) := by decide +kernel
theorem dX6_add_10 : decode cX6_add 10 = .ok (.ireturn, 1) := by decide +kernel
theorem dX6_add_11 : decode cX6_add 11 = .ok (.aload_n 0, 1) := by decide +kernel
theorem dX6_add_12 : decode cX6_add 12 = .ok (.getfield 9, 3) := by decide +kernel
theorem dX6_add_15 : decode cX6_add 15 = .ok (.aload_n 0, 1) := by decide +kernel
theorem dX6_add_16 : decode cX6_add 16 = .ok (.getfield 18, 3) := by decide +kernel
theorem dX6_add_19 : decode cX6_add 19 = .ok (.iload_n 1, 1) := by decide +kernel
theorem dX6_add_20 : decode cX6_add 20 = .ok (.iastore, 1) := by decide +kernel
theorem dX6_add_21 : decode cX6_add 21 = .ok (.aload_n 0, 1) := by decide +kernel
theorem dX6_add_22 : decode cX6_add 22 = .ok (.getfield 15, 3) := by decide +kernel
theorem dX6_add_25 : decode cX6_add 25 = .ok (.aload_n 0, 1) := by decide +kernel
theorem dX6_add_26 : decode cX6_add 26 = .ok (.getfield 18, 3) := by decide +kernel
theorem dX6_add_29 : decode cX6_add 29 = .ok (.iload_n 2, 1) := by decide +kernel
theorem dX6_add_30 : decode cX6_add 30 = .ok (.iastore, 1) := by decide +kernel
theorem dX6_add_31 : decode cX6_add 31 = .ok (.aload_n 0, 1) := by decide +kernel
theorem dX6_add_32 : decode cX6_add 32 = .ok (.dup, 1) := by decide +kernel
theorem dX6_add_33 : decode cX6_add 33 = .ok (.getfield 18, 3) := by decide +kernel
theorem dX6_add_36 : decode cX6_add 36 = .ok (.iconst 1, 1) := by decide +kernel
theorem dX6_add_37 : decode cX6_add 37 = .ok (.iadd, 1) := by decide +kernel
theorem dX6_add_38 : decode cX6_add 38 = .ok (.putfield 18, 3) := by decide +kernel
theorem dX6_add_41 : decode cX6_add 41 = .ok (.iconst 1, 1) := by decide +kernel
theorem dX6_add_42 : decode cX6_add 42 = .ok (.ireturn, 1) := by decide +kernel
theorem dX6_empty_0 : decode cX6_empty 0 = .ok (.aload_n 0, 1) := by decide +kernel
theorem dX6_empty_1 : decode cX6_empty 1 = .ok (.getfield 18, 3) := by decide +kernel
theorem dX6_empty_4 : decode cX6_empty 4 = .ok (.istore_n 1, 1) := by decide +kernel
theorem dX6_empty_5 : decode cX6_empty 5 = .ok (.aload_n 0, 1) := by decide +kernel
theorem dX6_empty_6 : decode cX6_empty 6 = .ok (.iconst 0, 1) := by decide +kernel
theorem dX6_empty_7 : decode cX6_empty 7 = .ok (.putfield 18, 3) := by decide +kernel
theorem dX6_empty_10 : decode cX6_empty 10 = .ok (.iload_n 1, 1) := by decide +kernel
theorem dX6_empty_11 : decode cX6_empty 11 = .ok (.ireturn, 1) := by decide +kernel
theorem dX7_init_0 : decode cX7_init 0 = .ok (.aload_n 0, 1) := by decide +kernel
theorem dX7_init_1 : decode cX7_init 1 = .ok (.invokespecial 3, 3) := by decide +kernel
theorem dX7_init_4 : decode cX7_init 4 = .ok (.aload_n 0, 1) := by decide +kernel
theorem dX7_init_5 : decode cX7_init 5 = .ok (.bipush 12, 2) := by decide +kernel
theorem dX7_init_7 : decode cX7_init 7 = .ok (.newarray .int, 2) := by decide +kernel
theorem dX7_init_9 : decode cX7_init 9 = .ok (.putfield 9, 3) := by decide +kernel
theorem dX7_init_12 : decode cX7_init 12 = .ok (.aload_n 0, 1) := by decide +kernel
theorem dX7_init_13 : decode cX7_init 13 = .ok (.bipush 12, 2) := by decide +kernel
theorem dX7_init_15 : decode cX7_init 15 = .ok (.newarray .int, 2) := by decide +kernel
theorem dX7_init_17 : decode cX7_init 17 = .ok (.putfield 15, 3) := by decide +kernel
theorem dX7_init_20 : decode cX7_init 20 = .ok (.aload_n 0, 1) := by decide +kernel
theorem dX7_init_21 : decode cX7_init 21 = .ok (.iconst 0, 1) := by decide +kernel
theorem dX7_init_22 : decode cX7_init 22 = .ok (.putfield 18, 3) := by decide +kernel
theorem dX7_init_25 : decode cX7_init 25 = .ok (.return_, 1) := by decide +kernel
theorem dX7_add_0 : decode cX7_add 0 = .ok (.aload_n 0, 1) := by decide +kernel
theorem dX7_add_1 : decode cX7_add 1 = .ok (.getfield 18, 3) := by decide +kernel
theorem dX7_add_4 : decode cX7_add 4 = .ok (.iconst 2, 1) := by decide +kernel
theorem dX7_add_5 : decode cX7_add 5 = .ok (.if_icmp .lt 5, 3) := by decide +kernel
theorem dX7_add_8 : decode cX7_add 8 = .ok (.iconst 0, 1) := by decide +kernel
theorem dX7_add_9 : decode cX7_add 9 = .ok (.ireturn, 1) := by decide +kernel
theorem dX7_add_10 : decode cX7_add 10 = .ok (.aload_n 1, 1) := by decide +kernel
theorem dX7_add_11 : decode cX7_add 11 = .ok (.getfield 22, 3) := by decide +kernel
theorem dX7_add_14 : decode cX7_add 14 = .ok (.iconst 0, 1) := by decide +kernel
theorem dX7_add_15 : decode cX7_add 15 = .ok (.aload_n 0, 1) := by decide +kernel
theorem dX7_add_16 : decode cX7_add 16 = .ok (.getfield 9, 3) := by decide +kernel
theorem dX7_add_19 : decode cX7_add 19 = .ok (.aload_n 0, 1) := by decide +kernel
theorem dX7_add_20 : decode cX7_add 20 = .ok (.getfield 18, 3) := by decide +kernel
theorem dX7_add_23 : decode cX7_add 23 = .ok (.bipush 6, 2) := by decide +kernel
theorem dX7_add_25 : decode cX7_add 25 = .ok (.imul, 1) := by decide +kernel
theorem dX7_add_26 : decode cX7_add 26 = .ok (.bipush 6, 2) := by decide +kernel
theorem dX7_add_28 : decode cX7_add 28 = .ok (.invokestatic 25, 3) := by decide +kernel
theorem dX7_add_31 : decode cX7_add 31 = .ok (.aload_n 1, 1) := by decide +kernel
theorem dX7_add_32 : decode cX7_add 32 = .ok (.getfield 31, 3) := by decide +kernel
theorem dX7_add_35 : decode cX7_add 35 = .ok (.iconst 0, 1) := by decide +kernel
theorem dX7_add_36 : decode cX7_add 36 = .ok (.aload_n 0, 1) := by decide +kernel
theorem dX7_add_37 : decode cX7_add 37 = .ok (.getfield 15, 3) := by decide +kernel
theorem dX7_add_40 : decode cX7_add 40 = .ok (.aload_n 0, 1) := by decide +kernel
theorem dX7_add_41 : decode cX7_add 41 = .ok (.getfield 18, 3) := by decide +kernel
theorem dX7_add_44 : decode cX7_add 44 = .ok (.bipush 6, 2) := by decide +kernel
theorem dX7_add_46 : decode cX7_add 46 = .ok (.imul, 1) := by decide +kernel
theorem dX7_add_47 : decode cX7_add 47 = .ok (.bipush 6, 2) := by decide +kernel
theorem dX7_add_49 : decode cX7_add 49 = .ok (.invokestatic 25, 3) := by decide +kernel
theorem dX7_add_52 : decode cX7_add 52 = .ok (.aload_n 0, 1) := by decide +kernel
theorem dX7_add_53 : decode cX7_add 53 = .ok (.dup, 1) := by decide +kernel
theorem dX7_add_54 : decode cX7_add 54 = .ok (.getfield 18, 3) := by decide +kernel
theorem dX7_add_57 : decode cX7_add 57 = .ok (.iconst 1, 1) := by decide +kernel
theorem dX7_add_58 : decode cX7_add 58 = .ok (.iadd, 1) := by decide +kernel
theorem dX7_add_59 : decode cX7_add 59 = .ok (.putfield 18, 3) := by decide +kernel
theorem dX7_add_62 : decode cX7_add 62 = .ok (.iconst 1, 1) := by decide +kernel
theorem dX7_add_63 : decode cX7_add 63 = .ok (.ireturn, 1) := by decide +kernel
theorem dX7_takeLast_0 : decode cX7_takeLast 0 = .ok (.aload_n 0, 1) := by decide +kernel
theorem dX7_takeLast_1 : decode cX7_takeLast 1 = .ok (.getfield 18, 3) := by decide +kernel
theorem dX7_takeLast_4 : decode cX7_takeLast 4 = .ok (.ifCond .gt 5, 3) := by decide +kernel
theorem dX7_takeLast_7 : decode cX7_takeLast 7 = .ok (.iconst 0, 1) := by decide +kernel
theorem dX7_takeLast_8 : decode cX7_takeLast 8 = .ok (.ireturn, 1) := by decide +kernel
theorem dX7_takeLast_9 : decode cX7_takeLast 9 = .ok (.aload_n 0, 1) := by decide +kernel
theorem dX7_takeLast_10 : decode cX7_takeLast 10 = .ok (.dup, 1) := by decide +kernel
theorem dX7_takeLast_11 : decode cX7_takeLast 11 = .ok (.getfield 18, 3) := by decide +kernel
theorem dX7_takeLast_14 : decode cX7_takeLast 14 = .ok (.iconst 1, 1) := by decide +kernel
theorem dX7_takeLast_15 : decode cX7_takeLast 15 = .ok (.isub, 1) := by decide +kernel
theorem dX7_takeLast_16 : decode cX7_takeLast 16 = .ok (.putfield 18, 3) := by decide +kernel
theorem dX7_takeLast_19 : decode cX7_takeLast 19 = .ok (.aload_n 0, 1) := by decide +kernel
theorem dX7_takeLast_20 : decode cX7_takeLast 20 = .ok (.getfield 9, 3) := by decide +kernel
theorem dX7_takeLast_23 : decode cX7_takeLast 23 = .ok (.aload_n 0, 1) := by decide +kernel
theorem dX7_takeLast_24 : decode cX7_takeLast 24 = .ok (.getfield 18, 3) := by decide +kernel
theorem dX7_takeLast_27 : decode cX7_takeLast 27 = .ok (.bipush 6, 2) := by decide +kernel
theorem dX7_takeLast_29 : decode cX7_takeLast 29 = .ok (.imul, 1) := by decide +kernel
theorem dX7_takeLast_30 : decode cX7_takeLast 30 = .ok (.aload_n 1, 1) := by decide +kernel
theorem dX7_takeLast_31 : decode cX7_takeLast 31 = .ok (.getfield 22, 3) := by decide +kernel
theorem dX7_takeLast_34 : decode cX7_takeLast 34 = .ok (.iconst 0, 1) := by decide +kernel
theorem dX7_takeLast_35 : decode cX7_takeLast 35 = .ok (.bipush 6, 2) := by decide +kernel
theorem dX7_takeLast_37 : decode cX7_takeLast 37 = .ok (.invokestatic 25, 3) := by decide +kernel
theorem dX7_takeLast_40 : decode cX7_takeLast 40 = .ok (.aload_n 0, 1) := by decide +kernel
theorem dX7_takeLast_41 : decode cX7_takeLast 41 = .ok (.getfield 15, 3) := by decide +kernel
theorem dX7_takeLast_44 : decode cX7_takeLast 44 = .ok (.aload_n 0, 1) := by decide +kernel
theorem dX7_takeLast_45 : decode cX7_takeLast 45 = .ok (.getfield 18, 3) := by decide +kernel
theorem dX7_takeLast_48 : decode cX7_takeLast 48 = .ok (.bipush 6, 2) := by decide +kernel
theorem dX7_takeLast_50 : decode cX7_takeLast 50 = .ok (.imul, 1) := by decide +kernel
theorem dX7_takeLast_51 : decode cX7_takeLast 51 = .ok (.aload_n 1, 1) := by decide +kernel
theorem dX7_takeLast_52 : decode cX7_takeLast 52 = .ok (.getfield 31, 3) := by decide +kernel
theorem dX7_takeLast_55 : decode cX7_takeLast 55 = .ok (.iconst 0, 1) := by decide +kernel
theorem dX7_takeLast_56 : decode cX7_takeLast 56 = .ok (.bipush 6, 2) := by decide +kernel
theorem dX7_takeLast_58 : decode cX7_takeLast 58 = .ok (.invokestatic 25, 3) := by decide +kernel
theorem dX7_takeLast_61 : decode cX7_takeLast 61 = .ok (.iconst 1, 1) := by decide +kernel
theorem dX7_takeLast_62 : decode cX7_takeLast 62 = .ok (.ireturn, 1) := by decide +kernel
theorem dX8_init_0 : decode cX8_init 0 = .ok (.aload_n 0, 1) := by decide +kernel
theorem dX8_init_1 : decode cX8_init 1 = .ok (.invokespecial 3, 3) := by decide +kernel
theorem dX8_init_4 : decode cX8_init 4 = .ok (.aload_n 0, 1) := by decide +kernel
theorem dX8_init_5 : decode cX8_init 5 = .ok (.sipush 200, 3) := by decide +kernel
theorem dX8_init_8 : decode cX8_init 8 = .ok (.newarray .int, 2) := by decide +kernel
theorem dX8_init_10 : decode cX8_init 10 = .ok (.putfield 9, 3) := by decide +kernel
theorem dX8_init_13 : decode cX8_init 13 = .ok (.aload_n 0, 1) := by decide +kernel
theorem dX8_init_14 : decode cX8_init 14 = .ok (.iconst 0, 1) := by decide +kernel
theorem dX8_init_15 : decode cX8_init 15 = .ok (.putfield 15, 3) := by decide +kernel
theorem dX8_init_18 : decode cX8_init 18 = .ok (.return_, 1) := by decide +kernel
theorem dX8_add_0 : decode cX8_add 0 = .ok (.aload_n 0, 1) := by decide +kernel
theorem dX8_add_1 : decode cX8_add 1 = .ok (.getfield 15, 3) := by decide +kernel
theorem dX8_add_4 : decode cX8_add 4 = .ok (.sipush 200, 3) := by decide +kernel
theorem dX8_add_7 : decode cX8_add 7 = .ok (.if_icmp .lt 5, 3) := by decide +kernel
theorem dX8_add_10 : decode cX8_add 10 = .ok (.iconst 0, 1) := by decide +kernel
theorem dX8_add_11 : decode cX8_add 11 = .ok (.ireturn, 1) := by decide +kernel
theorem dX8_add_12 : decode cX8_add 12 = .ok (.aload_n 0, 1) := by decide +kernel
theorem dX8_add_13 : decode cX8_add 13 = .ok (.getfield 9, 3) := by decide +kernel
theorem dX8_add_16 : decode cX8_add 16 = .ok (.aload_n 0, 1) := by decide +kernel
theorem dX8_add_17 : decode cX8_add 17 = .ok (.getfield 15, 3) := by decide +kernel
theorem dX8_add_20 : decode cX8_add 20 = .ok (.iload_n 1, 1) := by decide +kernel
theorem dX8_add_21 : decode cX8_add 21 = .ok (.iastore, 1) := by decide +kernel
theorem dX8_add_22 : decode cX8_add 22 = .ok (.aload_n 0, 1) := by decide +kernel
theorem dX8_add_23 : decode cX8_add 23 = .ok (.dup, 1) := by decide +kernel
theorem dX8_add_24 : decode cX8_add 24 = .ok (.getfield 15, 3) := by decide +kernel
theorem dX8_add_27 : decode cX8_add 27 = .ok (.iconst 1, 1) := by decide +kernel
theorem dX8_add_28 : decode cX8_add 28 = .ok (.iadd, 1) := by decide +kernel
theorem dX8_add_29 : decode cX8_add 29 = .ok (.putfield 15, 3) := by decide +kernel
theorem dX8_add_32 : decode cX8_add 32 = .ok (.iconst 1, 1) := by decide +kernel
theorem dX8_add_33 : decode cX8_add 33 = .ok (.ireturn, 1) := by decide +kernel
theorem dX8_empty_0 : decode cX8_empty 0 = .ok (.aload_n 0, 1) := by decide +kernel
theorem dX8_empty_1 : decode cX8_empty 1 = .ok (.getfield 15, 3) := by decide +kernel
theorem dX8_empty_4 : decode cX8_empty 4 = .ok (.istore_n 1, 1) := by decide +kernel
theorem dX8_empty_5 : decode cX8_empty 5 = .ok (.aload_n 0, 1) := by decide +kernel
theorem dX8_empty_6 : decode cX8_empty 6 = .ok (.iconst 0, 1) := by decide +kernel
theorem dX8_empty_7 : decode cX8_empty 7 = .ok (.putfield 15, 3) := by decide +kernel
theorem dX8_empty_10 : decode cX8_empty 10 = .ok (.iload_n 1, 1) := by decide +kernel
theorem dX8_empty_11 : decode cX8_empty 11 = .ok (.ireturn, 1) := by decide +kernel
theorem dX8_letterAt_0 : decode cX8_letterAt 0 = .ok (.iload_n 1, 1) := by decide +kernel
theorem dX8_letterAt_1 : decode cX8_letterAt 1 = .ok (.ifCond .lt 20, 3) := by decide +kernel
theorem dX8_letterAt_4 : decode cX8_letterAt 4 = .ok (.iload_n 1, 1) := by decide +kernel
theorem dX8_letterAt_5 : decode cX8_letterAt 5 = .ok (.aload_n 0, 1) := by decide +kernel
theorem dX8_letterAt_6 : decode cX8_letterAt 6 = .ok (.getfield 15, 3) := by decide +kernel
theorem dX8_letterAt_9 : decode cX8_letterAt 9 = .ok (.if_icmp .ge 12, 3) := by decide +kernel
theorem dX8_letterAt_12 : decode cX8_letterAt 12 = .ok (.aload_n 0, 1) := by decide +kernel
theorem dX8_letterAt_13 : decode cX8_letterAt 13 = .ok (.getfield 9, 3) := by decide +kernel
theorem dX8_letterAt_16 : decode cX8_letterAt 16 = .ok (.iload_n 1, 1) := by decide +kernel
theorem dX8_letterAt_17 : decode cX8_letterAt 17 = .ok (.iaload, 1) := by decide +kernel
theorem dX8_letterAt_18 : decode cX8_letterAt 18 = .ok (.goto 5, 3) := by decide +kernel
theorem dX8_letterAt_21 : decode cX8_letterAt 21 = .ok (.bipush (-4), 2) := by decide +kernel
theorem dX8_letterAt_23 : decode cX8_letterAt 23 = .ok (.ireturn, 1) := by decide +kernel

theorem dX0_init_0 : decode cX0_init 0 = .ok (.aload_n 0, 1) := by decide +kernel
theorem dX0_init_1 : decode cX0_init 1 = .ok (.invokespecial 1, 3) := by decide +kernel
theorem dX0_init_4 : decode cX0_init 4 = .ok (.aload_n 0, 1) := by decide +kernel
theorem dX0_init_5 : decode cX0_init 5 = .ok (.sipush 600, 3) := by decide +kernel
theorem dX0_init_8 : decode cX0_init 8 = .ok (.newarray .int, 2) := by decide +kernel
theorem dX0_init_10 : decode cX0_init 10 = .ok (.putfield 9, 3) := by decide +kernel
theorem dX0_init_13 : decode cX0_init 13 = .ok (.return_, 1) := by decide +kernel
theorem dX0_size_0 : decode cX0_size 0 = .ok (.aload_n 0, 1) := by decide +kernel
theorem dX0_size_1 : decode cX0_size 1 = .ok (.getfield 13, 3) := by decide +kernel
theorem dX0_size_4 : decode cX0_size 4 = .ok (.ireturn, 1) := by decide +kernel
theorem dX0_isFull_0 : decode cX0_isFull 0 = .ok (.aload_n 0, 1) := by decide +kernel
theorem dX0_isFull_1 : decode cX0_isFull 1 = .ok (.getfield 13, 3) := by decide +kernel
theorem dX0_isFull_4 : decode cX0_isFull 4 = .ok (.bipush 100, 2) := by decide +kernel
theorem dX0_isFull_6 : decode cX0_isFull 6 = .ok (.if_icmp .lt 7, 3) := by decide +kernel
theorem dX0_isFull_9 : decode cX0_isFull 9 = .ok (.iconst 1, 1) := by decide +kernel
theorem dX0_isFull_10 : decode cX0_isFull 10 = .ok (.goto 4, 3) := by decide +kernel
theorem dX0_isFull_13 : decode cX0_isFull 13 = .ok (.iconst 0, 1) := by decide +kernel
theorem dX0_isFull_14 : decode cX0_isFull 14 = .ok (.ireturn, 1) := by decide +kernel
theorem dX0_add_0 : decode cX0_add 0 = .ok (.aload_n 0, 1) := by decide +kernel
theorem dX0_add_1 : decode cX0_add 1 = .ok (.getfield 13, 3) := by decide +kernel
theorem dX0_add_4 : decode cX0_add 4 = .ok (.bipush 6, 2) := by decide +kernel
theorem dX0_add_6 : decode cX0_add 6 = .ok (.imul, 1) := by decide +kernel
theorem dX0_add_7 : decode cX0_add 7 = .ok (.istore 7, 2) := by decide +kernel
theorem dX0_add_9 : decode cX0_add 9 = .ok (.aload_n 0, 1) := by decide +kernel
theorem dX0_add_10 : decode cX0_add 10 = .ok (.getfield 9, 3) := by decide +kernel
theorem dX0_add_13 : decode cX0_add 13 = .ok (.iload 7, 2) := by decide +kernel
theorem dX0_add_15 : decode cX0_add 15 = .ok (.iload_n 1, 1) := by decide +kernel
theorem dX0_add_16 : decode cX0_add 16 = .ok (.invokestatic 17, 3) := by decide +kernel
theorem dX0_add_19 : decode cX0_add 19 = .ok (.aload_n 0, 1) := by decide +kernel
theorem dX0_add_20 : decode cX0_add 20 = .ok (.getfield 9, 3) := by decide +kernel
theorem dX0_add_23 : decode cX0_add 23 = .ok (.iload 7, 2) := by decide +kernel
theorem dX0_add_25 : decode cX0_add 25 = .ok (.iconst 1, 1) := by decide +kernel
theorem dX0_add_26 : decode cX0_add 26 = .ok (.iadd, 1) := by decide +kernel
theorem dX0_add_27 : decode cX0_add 27 = .ok (.iload_n 2, 1) := by decide +kernel
theorem dX0_add_28 : decode cX0_add 28 = .ok (.invokestatic 17, 3) := by decide +kernel
theorem dX0_add_31 : decode cX0_add 31 = .ok (.aload_n 0, 1) := by decide +kernel
theorem dX0_add_32 : decode cX0_add 32 = .ok (.getfield 9, 3) := by decide +kernel
theorem dX0_add_35 : decode cX0_add 35 = .ok (.iload 7, 2) := by decide +kernel
theorem dX0_add_37 : decode cX0_add 37 = .ok (.iconst 2, 1) := by decide +kernel
theorem dX0_add_38 : decode cX0_add 38 = .ok (.iadd, 1) := by decide +kernel
theorem dX0_add_39 : decode cX0_add 39 = .ok (.iload_n 3, 1) := by decide +kernel
theorem dX0_add_40 : decode cX0_add 40 = .ok (.invokestatic 17, 3) := by decide +kernel
theorem dX0_add_43 : decode cX0_add 43 = .ok (.aload_n 0, 1) := by decide +kernel
theorem dX0_add_44 : decode cX0_add 44 = .ok (.getfield 9, 3) := by decide +kernel
theorem dX0_add_47 : decode cX0_add 47 = .ok (.iload 7, 2) := by decide +kernel
theorem dX0_add_49 : decode cX0_add 49 = .ok (.iconst 3, 1) := by decide +kernel
theorem dX0_add_50 : decode cX0_add 50 = .ok (.iadd, 1) := by decide +kernel
theorem dX0_add_51 : decode cX0_add 51 = .ok (.iload 4, 2) := by decide +kernel
theorem dX0_add_53 : decode cX0_add 53 = .ok (.invokestatic 17, 3) := by decide +kernel
theorem dX0_add_56 : decode cX0_add 56 = .ok (.aload_n 0, 1) := by decide +kernel
theorem dX0_add_57 : decode cX0_add 57 = .ok (.getfield 9, 3) := by decide +kernel
theorem dX0_add_60 : decode cX0_add 60 = .ok (.iload 7, 2) := by decide +kernel
theorem dX0_add_62 : decode cX0_add 62 = .ok (.iconst 4, 1) := by decide +kernel
theorem dX0_add_63 : decode cX0_add 63 = .ok (.iadd, 1) := by decide +kernel
theorem dX0_add_64 : decode cX0_add 64 = .ok (.iload 5, 2) := by decide +kernel
theorem dX0_add_66 : decode cX0_add 66 = .ok (.invokestatic 17, 3) := by decide +kernel
theorem dX0_add_69 : decode cX0_add 69 = .ok (.aload_n 0, 1) := by decide +kernel
theorem dX0_add_70 : decode cX0_add 70 = .ok (.getfield 9, 3) := by decide +kernel
theorem dX0_add_73 : decode cX0_add 73 = .ok (.iload 7, 2) := by decide +kernel
theorem dX0_add_75 : decode cX0_add 75 = .ok (.iconst 5, 1) := by decide +kernel
theorem dX0_add_76 : decode cX0_add 76 = .ok (.iadd, 1) := by decide +kernel
theorem dX0_add_77 : decode cX0_add 77 = .ok (.iload 6, 2) := by decide +kernel
theorem dX0_add_79 : decode cX0_add 79 = .ok (.invokestatic 17, 3) := by decide +kernel
theorem dX0_add_82 : decode cX0_add 82 = .ok (.aload_n 0, 1) := by decide +kernel
theorem dX0_add_83 : decode cX0_add 83 = .ok (.dup, 1) := by decide +kernel
theorem dX0_add_84 : decode cX0_add 84 = .ok (.getfield 13, 3) := by decide +kernel
theorem dX0_add_87 : decode cX0_add 87 = .ok (.iconst 1, 1) := by decide +kernel
theorem dX0_add_88 : decode cX0_add 88 = .ok (.iadd, 1) := by decide +kernel
theorem dX0_add_89 : decode cX0_add 89 = .ok (.putfield 13, 3) := by decide +kernel
theorem dX0_add_92 : decode cX0_add 92 = .ok (.return_, 1) := by decide +kernel
theorem dX0_remove_0 : decode cX0_remove 0 = .ok (.iload_n 1, 1) := by decide +kernel
theorem dX0_remove_1 : decode cX0_remove 1 = .ok (.bipush 6, 2) := by decide +kernel
theorem dX0_remove_3 : decode cX0_remove 3 = .ok (.imul, 1) := by decide +kernel
theorem dX0_remove_4 : decode cX0_remove 4 = .ok (.istore_n 2, 1) := by decide +kernel
theorem dX0_remove_5 : decode cX0_remove 5 = .ok (.iload_n 2, 1) := by decide +kernel
theorem dX0_remove_6 : decode cX0_remove 6 = .ok (.aload_n 0, 1) := by decide +kernel
theorem dX0_remove_7 : decode cX0_remove 7 = .ok (.getfield 13, 3) := by decide +kernel
theorem dX0_remove_10 : decode cX0_remove 10 = .ok (.iconst 1, 1) := by decide +kernel
theorem dX0_remove_11 : decode cX0_remove 11 = .ok (.isub, 1) := by decide +kernel
theorem dX0_remove_12 : decode cX0_remove 12 = .ok (.bipush 6, 2) := by decide +kernel
theorem dX0_remove_14 : decode cX0_remove 14 = .ok (.imul, 1) := by decide +kernel
theorem dX0_remove_15 : decode cX0_remove 15 = .ok (.if_icmp .ge 28, 3) := by decide +kernel
theorem dX0_remove_18 : decode cX0_remove 18 = .ok (.aload_n 0, 1) := by decide +kernel
theorem dX0_remove_19 : decode cX0_remove 19 = .ok (.getfield 9, 3) := by decide +kernel
theorem dX0_remove_22 : decode cX0_remove 22 = .ok (.iload_n 2, 1) := by decide +kernel
theorem dX0_remove_23 : decode cX0_remove 23 = .ok (.aload_n 0, 1) := by decide +kernel
theorem dX0_remove_24 : decode cX0_remove 24 = .ok (.getfield 9, 3) := by decide +kernel
theorem dX0_remove_27 : decode cX0_remove 27 = .ok (.iload_n 2, 1) := by decide +kernel
theorem dX0_remove_28 : decode cX0_remove 28 = .ok (.bipush 6, 2) := by decide +kernel
theorem dX0_remove_30 : decode cX0_remove 30 = .ok (.iadd, 1) := by decide +kernel
theorem dX0_remove_31 : decode cX0_remove 31 = .ok (.invokestatic 23, 3) := by decide +kernel
theorem dX0_remove_34 : decode cX0_remove 34 = .ok (.invokestatic 17, 3) := by decide +kernel
theorem dX0_remove_37 : decode cX0_remove 37 = .ok (.iinc 2 1, 3) := by decide +kernel
theorem dX0_remove_40 : decode cX0_remove 40 = .ok (.goto (-35), 3) := by decide +kernel
theorem dX0_remove_43 : decode cX0_remove 43 = .ok (.aload_n 0, 1) := by decide +kernel
theorem dX0_remove_44 : decode cX0_remove 44 = .ok (.dup, 1) := by decide +kernel
theorem dX0_remove_45 : decode cX0_remove 45 = .ok (.getfield 13, 3) := by decide +kernel
theorem dX0_remove_48 : decode cX0_remove 48 = .ok (.iconst 1, 1) := by decide +kernel
theorem dX0_remove_49 : decode cX0_remove 49 = .ok (.isub, 1) := by decide +kernel
theorem dX0_remove_50 : decode cX0_remove 50 = .ok (.putfield 13, 3) := by decide +kernel
theorem dX0_remove_53 : decode cX0_remove 53 = .ok (.return_, 1) := by decide +kernel
theorem dX0_tell_0 : decode cX0_tell 0 = .ok (.aload_n 0, 1) := by decide +kernel
theorem dX0_tell_1 : decode cX0_tell 1 = .ok (.getfield 9, 3) := by decide +kernel
theorem dX0_tell_4 : decode cX0_tell 4 = .ok (.iload_n 1, 1) := by decide +kernel
theorem dX0_tell_5 : decode cX0_tell 5 = .ok (.bipush 6, 2) := by decide +kernel
theorem dX0_tell_7 : decode cX0_tell 7 = .ok (.imul, 1) := by decide +kernel
theorem dX0_tell_8 : decode cX0_tell 8 = .ok (.iload_n 2, 1) := by decide +kernel
theorem dX0_tell_9 : decode cX0_tell 9 = .ok (.iadd, 1) := by decide +kernel
theorem dX0_tell_10 : decode cX0_tell 10 = .ok (.invokestatic 23, 3) := by decide +kernel
theorem dX0_tell_13 : decode cX0_tell 13 = .ok (.ireturn, 1) := by decide +kernel
theorem dX0_timeOf_0 : decode cX0_timeOf 0 = .ok (.aload_n 0, 1) := by decide +kernel
theorem dX0_timeOf_1 : decode cX0_timeOf 1 = .ok (.iload_n 1, 1) := by decide +kernel
theorem dX0_timeOf_2 : decode cX0_timeOf 2 = .ok (.iconst 0, 1) := by decide +kernel
theorem dX0_timeOf_3 : decode cX0_timeOf 3 = .ok (.invokevirtual 27, 3) := by decide +kernel
theorem dX0_timeOf_6 : decode cX0_timeOf 6 = .ok (.ireturn, 1) := by decide +kernel
theorem dX0_redo_0 : decode cX0_redo 0 = .ok (.aload_n 0, 1) := by decide +kernel
theorem dX0_redo_1 : decode cX0_redo 1 = .ok (.iload_n 1, 1) := by decide +kernel
theorem dX0_redo_2 : decode cX0_redo 2 = .ok (.iconst 1, 1) := by decide +kernel
theorem dX0_redo_3 : decode cX0_redo 3 = .ok (.invokevirtual 27, 3) := by decide +kernel
theorem dX0_redo_6 : decode cX0_redo 6 = .ok (.istore_n 3, 1) := by decide +kernel
theorem dX0_redo_7 : decode cX0_redo 7 = .ok (.aload_n 2, 1) := by decide +kernel
theorem dX0_redo_8 : decode cX0_redo 8 = .ok (.iload_n 3, 1) := by decide +kernel
theorem dX0_redo_9 : decode cX0_redo 9 = .ok (.invokevirtual 31, 3) := by decide +kernel
theorem dX0_redo_12 : decode cX0_redo 12 = .ok (.ifCond .eq 33, 3) := by decide +kernel
theorem dX0_redo_15 : decode cX0_redo 15 = .ok (.aload_n 2, 1) := by decide +kernel
theorem dX0_redo_16 : decode cX0_redo 16 = .ok (.iload_n 3, 1) := by decide +kernel
theorem dX0_redo_17 : decode cX0_redo 17 = .ok (.aload_n 0, 1) := by decide +kernel
theorem dX0_redo_18 : decode cX0_redo 18 = .ok (.iload_n 1, 1) := by decide +kernel
theorem dX0_redo_19 : decode cX0_redo 19 = .ok (.iconst 2, 1) := by decide +kernel
theorem dX0_redo_20 : decode cX0_redo 20 = .ok (.invokevirtual 27, 3) := by decide +kernel
theorem dX0_redo_23 : decode cX0_redo 23 = .ok (.aload_n 0, 1) := by decide +kernel
theorem dX0_redo_24 : decode cX0_redo 24 = .ok (.iload_n 1, 1) := by decide +kernel
theorem dX0_redo_25 : decode cX0_redo 25 = .ok (.iconst 3, 1) := by decide +kernel
theorem dX0_redo_26 : decode cX0_redo 26 = .ok (.invokevirtual 27, 3) := by decide +kernel
theorem dX0_redo_29 : decode cX0_redo 29 = .ok (.aload_n 0, 1) := by decide +kernel
theorem dX0_redo_30 : decode cX0_redo 30 = .ok (.iload_n 1, 1) := by decide +kernel
theorem dX0_redo_31 : decode cX0_redo 31 = .ok (.iconst 4, 1) := by decide +kernel
theorem dX0_redo_32 : decode cX0_redo 32 = .ok (.invokevirtual 27, 3) := by decide +kernel
theorem dX0_redo_35 : decode cX0_redo 35 = .ok (.aload_n 0, 1) := by decide +kernel
theorem dX0_redo_36 : decode cX0_redo 36 = .ok (.iload_n 1, 1) := by decide +kernel
theorem dX0_redo_37 : decode cX0_redo 37 = .ok (.iconst 5, 1) := by decide +kernel
theorem dX0_redo_38 : decode cX0_redo 38 = .ok (.invokevirtual 27, 3) := by decide +kernel
theorem dX0_redo_41 : decode cX0_redo 41 = .ok (.invokevirtual 37, 3) := by decide +kernel
theorem dX0_redo_44 : decode cX0_redo 44 = .ok (.pop, 1) := by decide +kernel
theorem dX0_redo_45 : decode cX0_redo 45 = .ok (.return_, 1) := by decide +kernel
theorem dX1_init_0 : decode cX1_init 0 = .ok (.aload_n 0, 1) := by decide +kernel
theorem dX1_init_1 : decode cX1_init 1 = .ok (.invokespecial 3, 3) := by decide +kernel
theorem dX1_init_4 : decode cX1_init 4 = .ok (.aload_n 0, 1) := by decide +kernel
theorem dX1_init_5 : decode cX1_init 5 = .ok (.iconst 3, 1) := by decide +kernel
theorem dX1_init_6 : decode cX1_init 6 = .ok (.newarray .int, 2) := by decide +kernel
theorem dX1_init_8 : decode cX1_init 8 = .ok (.putfield 9, 3) := by decide +kernel
theorem dX1_init_11 : decode cX1_init 11 = .ok (.aload_n 0, 1) := by decide +kernel
theorem dX1_init_12 : decode cX1_init 12 = .ok (.iconst 3, 1) := by decide +kernel
theorem dX1_init_13 : decode cX1_init 13 = .ok (.newarray .int, 2) := by decide +kernel
theorem dX1_init_15 : decode cX1_init 15 = .ok (.putfield 15, 3) := by decide +kernel
theorem dX1_init_18 : decode cX1_init 18 = .ok (.aload_n 0, 1) := by decide +kernel
theorem dX1_init_19 : decode cX1_init 19 = .ok (.iconst 3, 1) := by decide +kernel
theorem dX1_init_20 : decode cX1_init 20 = .ok (.newarray .int, 2) := by decide +kernel
theorem dX1_init_22 : decode cX1_init 22 = .ok (.putfield 18, 3) := by decide +kernel
theorem dX1_init_25 : decode cX1_init 25 = .ok (.aload_n 0, 1) := by decide +kernel
theorem dX1_init_26 : decode cX1_init 26 = .ok (.invokevirtual 21, 3) := by decide +kernel
theorem dX1_init_29 : decode cX1_init 29 = .ok (.return_, 1) := by decide +kernel
theorem dX1_reset_0 : decode cX1_reset 0 = .ok (.aload_n 0, 1) := by decide +kernel
theorem dX1_reset_1 : decode cX1_reset 1 = .ok (.iconst 1, 1) := by decide +kernel
theorem dX1_reset_2 : decode cX1_reset 2 = .ok (.putfield 24, 3) := by decide +kernel
theorem dX1_reset_5 : decode cX1_reset 5 = .ok (.aload_n 0, 1) := by decide +kernel
theorem dX1_reset_6 : decode cX1_reset 6 = .ok (.iconst 2, 1) := by decide +kernel
theorem dX1_reset_7 : decode cX1_reset 7 = .ok (.putfield 28, 3) := by decide +kernel
theorem dX1_reset_10 : decode cX1_reset 10 = .ok (.aload_n 0, 1) := by decide +kernel
theorem dX1_reset_11 : decode cX1_reset 11 = .ok (.iconst 0, 1) := by decide +kernel
theorem dX1_reset_12 : decode cX1_reset 12 = .ok (.putfield 31, 3) := by decide +kernel
theorem dX1_reset_15 : decode cX1_reset 15 = .ok (.aload_n 0, 1) := by decide +kernel
theorem dX1_reset_16 : decode cX1_reset 16 = .ok (.bipush 25, 2) := by decide +kernel
theorem dX1_reset_18 : decode cX1_reset 18 = .ok (.putfield 34, 3) := by decide +kernel
theorem dX1_reset_21 : decode cX1_reset 21 = .ok (.aload_n 0, 1) := by decide +kernel
theorem dX1_reset_22 : decode cX1_reset 22 = .ok (.iconst 1, 1) := by decide +kernel
theorem dX1_reset_23 : decode cX1_reset 23 = .ok (.putfield 37, 3) := by decide +kernel
theorem dX1_reset_26 : decode cX1_reset 26 = .ok (.aload_n 0, 1) := by decide +kernel
theorem dX1_reset_27 : decode cX1_reset 27 = .ok (.iconst 0, 1) := by decide +kernel
theorem dX1_reset_28 : decode cX1_reset 28 = .ok (.putfield 40, 3) := by decide +kernel
theorem dX1_reset_31 : decode cX1_reset 31 = .ok (.aload_n 0, 1) := by decide +kernel
theorem dX1_reset_32 : decode cX1_reset 32 = .ok (.iconst (-1), 1) := by decide +kernel
theorem dX1_reset_33 : decode cX1_reset 33 = .ok (.putfield 43, 3) := by decide +kernel
theorem dX1_reset_36 : decode cX1_reset 36 = .ok (.aload_n 0, 1) := by decide +kernel
theorem dX1_reset_37 : decode cX1_reset 37 = .ok (.iconst 0, 1) := by decide +kernel
theorem dX1_reset_38 : decode cX1_reset 38 = .ok (.putfield 46, 3) := by decide +kernel
theorem dX1_reset_41 : decode cX1_reset 41 = .ok (.aload_n 0, 1) := by decide +kernel
theorem dX1_reset_42 : decode cX1_reset 42 = .ok (.iconst 0, 1) := by decide +kernel
theorem dX1_reset_43 : decode cX1_reset 43 = .ok (.putfield 49, 3) := by decide +kernel
theorem dX1_reset_46 : decode cX1_reset 46 = .ok (.aload_n 0, 1) := by decide +kernel
theorem dX1_reset_47 : decode cX1_reset 47 = .ok (.iconst 0, 1) := by decide +kernel
theorem dX1_reset_48 : decode cX1_reset 48 = .ok (.putfield 52, 3) := by decide +kernel
theorem dX1_reset_51 : decode cX1_reset 51 = .ok (.aload_n 0, 1) := by decide +kernel
theorem dX1_reset_52 : decode cX1_reset 52 = .ok (.iconst 0, 1) := by decide +kernel
theorem dX1_reset_53 : decode cX1_reset 53 = .ok (.putfield 55, 3) := by decide +kernel
theorem dX1_reset_56 : decode cX1_reset 56 = .ok (.iconst 0, 1) := by decide +kernel
theorem dX1_reset_57 : decode cX1_reset 57 = .ok (.istore_n 1, 1) := by decide +kernel
theorem dX1_reset_58 : decode cX1_reset 58 = .ok (.iload_n 1, 1) := by decide +kernel
theorem dX1_reset_59 : decode cX1_reset 59 = .ok (.iconst 3, 1) := by decide +kernel
theorem dX1_reset_60 : decode cX1_reset 60 = .ok (.if_icmp .ge 40, 3) := by decide +kernel
theorem dX1_reset_63 : decode cX1_reset 63 = .ok (.aload_n 0, 1) := by decide +kernel
theorem dX1_reset_64 : decode cX1_reset 64 = .ok (.getfield 9, 3) := by decide +kernel
theorem dX1_reset_67 : decode cX1_reset 67 = .ok (.iload_n 1, 1) := by decide +kernel
theorem dX1_reset_68 : decode cX1_reset 68 = .ok (.iconst 3, 1) := by decide +kernel
theorem dX1_reset_69 : decode cX1_reset 69 = .ok (.iload_n 1, 1) := by decide +kernel
theorem dX1_reset_70 : decode cX1_reset 70 = .ok (.iadd, 1) := by decide +kernel
theorem dX1_reset_71 : decode cX1_reset 71 = .ok (.invokestatic 58, 3) := by decide +kernel
theorem dX1_reset_74 : decode cX1_reset 74 = .ok (.aload_n 0, 1) := by decide +kernel
theorem dX1_reset_75 : decode cX1_reset 75 = .ok (.getfield 15, 3) := by decide +kernel
theorem dX1_reset_78 : decode cX1_reset 78 = .ok (.iload_n 1, 1) := by decide +kernel
theorem dX1_reset_79 : decode cX1_reset 79 = .ok (.bipush 100, 2) := by decide +kernel
theorem dX1_reset_81 : decode cX1_reset 81 = .ok (.invokestatic 58, 3) := by decide +kernel
theorem dX1_reset_84 : decode cX1_reset 84 = .ok (.aload_n 0, 1) := by decide +kernel
theorem dX1_reset_85 : decode cX1_reset 85 = .ok (.getfield 18, 3) := by decide +kernel
theorem dX1_reset_88 : decode cX1_reset 88 = .ok (.iload_n 1, 1) := by decide +kernel
theorem dX1_reset_89 : decode cX1_reset 89 = .ok (.bipush 25, 2) := by decide +kernel
theorem dX1_reset_91 : decode cX1_reset 91 = .ok (.invokestatic 58, 3) := by decide +kernel
theorem dX1_reset_94 : decode cX1_reset 94 = .ok (.iinc 1 1, 3) := by decide +kernel
theorem dX1_reset_97 : decode cX1_reset 97 = .ok (.goto (-39), 3) := by decide +kernel
theorem dX1_reset_100 : decode cX1_reset 100 = .ok (.return_, 1) := by decide +kernel
theorem dX1_copy_0 : decode cX1_copy 0 = .ok (.aload_n 0, 1) := by decide +kernel
theorem dX1_copy_1 : decode cX1_copy 1 = .ok (.aload_n 1, 1) := by decide +kernel
theorem dX1_copy_2 : decode cX1_copy 2 = .ok (.getfield 24, 3) := by decide +kernel
theorem dX1_copy_5 : decode cX1_copy 5 = .ok (.putfield 24, 3) := by decide +kernel
theorem dX1_copy_8 : decode cX1_copy 8 = .ok (.aload_n 0, 1) := by decide +kernel
theorem dX1_copy_9 : decode cX1_copy 9 = .ok (.aload_n 1, 1) := by decide +kernel
theorem dX1_copy_10 : decode cX1_copy 10 = .ok (.getfield 28, 3) := by decide +kernel
theorem dX1_copy_13 : decode cX1_copy 13 = .ok (.putfield 28, 3) := by decide +kernel
theorem dX1_copy_16 : decode cX1_copy 16 = .ok (.aload_n 0, 1) := by decide +kernel
theorem dX1_copy_17 : decode cX1_copy 17 = .ok (.aload_n 1, 1) := by decide +kernel
theorem dX1_copy_18 : decode cX1_copy 18 = .ok (.getfield 31, 3) := by decide +kernel
theorem dX1_copy_21 : decode cX1_copy 21 = .ok (.putfield 31, 3) := by decide +kernel
theorem dX1_copy_24 : decode cX1_copy 24 = .ok (.aload_n 0, 1) := by decide +kernel
theorem dX1_copy_25 : decode cX1_copy 25 = .ok (.aload_n 1, 1) := by decide +kernel
theorem dX1_copy_26 : decode cX1_copy 26 = .ok (.getfield 34, 3) := by decide +kernel
theorem dX1_copy_29 : decode cX1_copy 29 = .ok (.putfield 34, 3) := by decide +kernel
theorem dX1_copy_32 : decode cX1_copy 32 = .ok (.aload_n 0, 1) := by decide +kernel
theorem dX1_copy_33 : decode cX1_copy 33 = .ok (.aload_n 1, 1) := by decide +kernel
theorem dX1_copy_34 : decode cX1_copy 34 = .ok (.getfield 37, 3) := by decide +kernel
theorem dX1_copy_37 : decode cX1_copy 37 = .ok (.putfield 37, 3) := by decide +kernel
theorem dX1_copy_40 : decode cX1_copy 40 = .ok (.aload_n 0, 1) := by decide +kernel
theorem dX1_copy_41 : decode cX1_copy 41 = .ok (.aload_n 1, 1) := by decide +kernel
theorem dX1_copy_42 : decode cX1_copy 42 = .ok (.getfield 40, 3) := by decide +kernel
theorem dX1_copy_45 : decode cX1_copy 45 = .ok (.putfield 40, 3) := by decide +kernel
theorem dX1_copy_48 : decode cX1_copy 48 = .ok (.aload_n 0, 1) := by decide +kernel
theorem dX1_copy_49 : decode cX1_copy 49 = .ok (.aload_n 1, 1) := by decide +kernel
theorem dX1_copy_50 : decode cX1_copy 50 = .ok (.getfield 43, 3) := by decide +kernel
theorem dX1_copy_53 : decode cX1_copy 53 = .ok (.putfield 43, 3) := by decide +kernel
theorem dX1_copy_56 : decode cX1_copy 56 = .ok (.aload_n 0, 1) := by decide +kernel
theorem dX1_copy_57 : decode cX1_copy 57 = .ok (.aload_n 1, 1) := by decide +kernel
theorem dX1_copy_58 : decode cX1_copy 58 = .ok (.getfield 46, 3) := by decide +kernel
theorem dX1_copy_61 : decode cX1_copy 61 = .ok (.putfield 46, 3) := by decide +kernel
theorem dX1_copy_64 : decode cX1_copy 64 = .ok (.aload_n 0, 1) := by decide +kernel
theorem dX1_copy_65 : decode cX1_copy 65 = .ok (.aload_n 1, 1) := by decide +kernel
theorem dX1_copy_66 : decode cX1_copy 66 = .ok (.getfield 49, 3) := by decide +kernel
theorem dX1_copy_69 : decode cX1_copy 69 = .ok (.putfield 49, 3) := by decide +kernel
theorem dX1_copy_72 : decode cX1_copy 72 = .ok (.aload_n 0, 1) := by decide +kernel
theorem dX1_copy_73 : decode cX1_copy 73 = .ok (.aload_n 1, 1) := by decide +kernel
theorem dX1_copy_74 : decode cX1_copy 74 = .ok (.getfield 52, 3) := by decide +kernel
theorem dX1_copy_77 : decode cX1_copy 77 = .ok (.putfield 52, 3) := by decide +kernel
theorem dX1_copy_80 : decode cX1_copy 80 = .ok (.aload_n 0, 1) := by decide +kernel
theorem dX1_copy_81 : decode cX1_copy 81 = .ok (.aload_n 1, 1) := by decide +kernel
theorem dX1_copy_82 : decode cX1_copy 82 = .ok (.getfield 55, 3) := by decide +kernel
theorem dX1_copy_85 : decode cX1_copy 85 = .ok (.putfield 55, 3) := by decide +kernel
theorem dX1_copy_88 : decode cX1_copy 88 = .ok (.iconst 0, 1) := by decide +kernel
theorem dX1_copy_89 : decode cX1_copy 89 = .ok (.istore_n 2, 1) := by decide +kernel
theorem dX1_copy_90 : decode cX1_copy 90 = .ok (.iload_n 2, 1) := by decide +kernel
theorem dX1_copy_91 : decode cX1_copy 91 = .ok (.iconst 3, 1) := by decide +kernel
theorem dX1_copy_92 : decode cX1_copy 92 = .ok (.if_icmp .ge 57, 3) := by decide +kernel
theorem dX1_copy_95 : decode cX1_copy 95 = .ok (.aload_n 0, 1) := by decide +kernel
theorem dX1_copy_96 : decode cX1_copy 96 = .ok (.getfield 9, 3) := by decide +kernel
theorem dX1_copy_99 : decode cX1_copy 99 = .ok (.iload_n 2, 1) := by decide +kernel
theorem dX1_copy_100 : decode cX1_copy 100 = .ok (.aload_n 1, 1) := by decide +kernel
theorem dX1_copy_101 : decode cX1_copy 101 = .ok (.getfield 9, 3) := by decide +kernel
theorem dX1_copy_104 : decode cX1_copy 104 = .ok (.iload_n 2, 1) := by decide +kernel
theorem dX1_copy_105 : decode cX1_copy 105 = .ok (.invokestatic 62, 3) := by decide +kernel
theorem dX1_copy_108 : decode cX1_copy 108 = .ok (.invokestatic 58, 3) := by decide +kernel
theorem dX1_copy_111 : decode cX1_copy 111 = .ok (.aload_n 0, 1) := by decide +kernel
theorem dX1_copy_112 : decode cX1_copy 112 = .ok (.getfield 15, 3) := by decide +kernel
theorem dX1_copy_115 : decode cX1_copy 115 = .ok (.iload_n 2, 1) := by decide +kernel
theorem dX1_copy_116 : decode cX1_copy 116 = .ok (.aload_n 1, 1) := by decide +kernel
theorem dX1_copy_117 : decode cX1_copy 117 = .ok (.getfield 15, 3) := by decide +kernel
theorem dX1_copy_120 : decode cX1_copy 120 = .ok (.iload_n 2, 1) := by decide +kernel
theorem dX1_copy_121 : decode cX1_copy 121 = .ok (.invokestatic 62, 3) := by decide +kernel
theorem dX1_copy_124 : decode cX1_copy 124 = .ok (.invokestatic 58, 3) := by decide +kernel
theorem dX1_copy_127 : decode cX1_copy 127 = .ok (.aload_n 0, 1) := by decide +kernel
theorem dX1_copy_128 : decode cX1_copy 128 = .ok (.getfield 18, 3) := by decide +kernel
theorem dX1_copy_131 : decode cX1_copy 131 = .ok (.iload_n 2, 1) := by decide +kernel
theorem dX1_copy_132 : decode cX1_copy 132 = .ok (.aload_n 1, 1) := by decide +kernel
theorem dX1_copy_133 : decode cX1_copy 133 = .ok (.getfield 18, 3) := by decide +kernel
theorem dX1_copy_136 : decode cX1_copy 136 = .ok (.iload_n 2, 1) := by decide +kernel
theorem dX1_copy_137 : decode cX1_copy 137 = .ok (.invokestatic 62, 3) := by decide +kernel
theorem dX1_copy_140 : decode cX1_copy 140 = .ok (.invokestatic 58, 3) := by decide +kernel
theorem dX1_copy_143 : decode cX1_copy 143 = .ok (.iinc 2 1, 3) := by decide +kernel
theorem dX1_copy_146 : decode cX1_copy 146 = .ok (.goto (-56), 3) := by decide +kernel
theorem dX1_copy_149 : decode cX1_copy 149 = .ok (.return_, 1) := by decide +kernel
theorem dX1_isPossible_0 : decode cX1_isPossible 0 = .ok (.iload_n 1, 1) := by decide +kernel
theorem dX1_isPossible_1 : decode cX1_isPossible 1 = .ok (.lookupswitch 70 #[(3, 35), (7, 35), (8, 56)], 35) := by decide +kernel
theorem dX1_isPossible_36 : decode cX1_isPossible 36 = .ok (.aload_n 0, 1) := by decide +kernel
theorem dX1_isPossible_37 : decode cX1_isPossible 37 = .ok (.getfield 40, 3) := by decide +kernel
theorem dX1_isPossible_40 : decode cX1_isPossible 40 = .ok (.ifCond .ne 15, 3) := by decide +kernel
theorem dX1_isPossible_43 : decode cX1_isPossible 43 = .ok (.aload_n 0, 1) := by decide +kernel
theorem dX1_isPossible_44 : decode cX1_isPossible 44 = .ok (.getfield 43, 3) := by decide +kernel
theorem dX1_isPossible_47 : decode cX1_isPossible 47 = .ok (.iconst (-1), 1) := by decide +kernel
theorem dX1_isPossible_48 : decode cX1_isPossible 48 = .ok (.if_icmp .ne 7, 3) := by decide +kernel
theorem dX1_isPossible_51 : decode cX1_isPossible 51 = .ok (.iconst 1, 1) := by decide +kernel
theorem dX1_isPossible_52 : decode cX1_isPossible 52 = .ok (.goto 4, 3) := by decide +kernel
theorem dX1_isPossible_55 : decode cX1_isPossible 55 = .ok (.iconst 0, 1) := by decide +kernel
theorem dX1_isPossible_56 : decode cX1_isPossible 56 = .ok (.ireturn, 1) := by decide +kernel
theorem dX1_isPossible_57 : decode cX1_isPossible 57 = .ok (.aload_n 0, 1) := by decide +kernel
theorem dX1_isPossible_58 : decode cX1_isPossible 58 = .ok (.getfield 43, 3) := by decide +kernel
theorem dX1_isPossible_61 : decode cX1_isPossible 61 = .ok (.iconst (-1), 1) := by decide +kernel
theorem dX1_isPossible_62 : decode cX1_isPossible 62 = .ok (.if_icmp .ne 7, 3) := by decide +kernel
theorem dX1_isPossible_65 : decode cX1_isPossible 65 = .ok (.iconst 1, 1) := by decide +kernel
theorem dX1_isPossible_66 : decode cX1_isPossible 66 = .ok (.goto 4, 3) := by decide +kernel
theorem dX1_isPossible_69 : decode cX1_isPossible 69 = .ok (.iconst 0, 1) := by decide +kernel
theorem dX1_isPossible_70 : decode cX1_isPossible 70 = .ok (.ireturn, 1) := by decide +kernel
theorem dX1_isPossible_71 : decode cX1_isPossible 71 = .ok (.iconst 1, 1) := by decide +kernel
theorem dX1_isPossible_72 : decode cX1_isPossible 72 = .ok (.ireturn, 1) := by decide +kernel
theorem dX1_perform_0 : decode cX1_perform 0 = .ok (.iload_n 1, 1) := by decide +kernel
theorem dX1_perform_1 : decode cX1_perform 1 = .ok (.tableswitch 129 0 9 #[55, 61, 67, 74, 80, 91, 97, 106, 116, 122], 55) := by decide +kernel
theorem dX1_perform_56 : decode cX1_perform 56 = .ok (.aload_n 0, 1) := by decide +kernel
theorem dX1_perform_57 : decode cX1_perform 57 = .ok (.iload_n 2, 1) := by decide +kernel
theorem dX1_perform_58 : decode cX1_perform 58 = .ok (.invokevirtual 66, 3) := by decide +kernel
theorem dX1_perform_61 : decode cX1_perform 61 = .ok (.ireturn, 1) := by decide +kernel
theorem dX1_perform_62 : decode cX1_perform 62 = .ok (.aload_n 0, 1) := by decide +kernel
theorem dX1_perform_63 : decode cX1_perform 63 = .ok (.iload_n 2, 1) := by decide +kernel
theorem dX1_perform_64 : decode cX1_perform 64 = .ok (.invokevirtual 70, 3) := by decide +kernel
theorem dX1_perform_67 : decode cX1_perform 67 = .ok (.ireturn, 1) := by decide +kernel
theorem dX1_perform_68 : decode cX1_perform 68 = .ok (.aload_n 0, 1) := by decide +kernel
theorem dX1_perform_69 : decode cX1_perform 69 = .ok (.iload_n 2, 1) := by decide +kernel
theorem dX1_perform_70 : decode cX1_perform 70 = .ok (.iload_n 3, 1) := by decide +kernel
theorem dX1_perform_71 : decode cX1_perform 71 = .ok (.invokevirtual 73, 3) := by decide +kernel
theorem dX1_perform_74 : decode cX1_perform 74 = .ok (.ireturn, 1) := by decide +kernel
theorem dX1_perform_75 : decode cX1_perform 75 = .ok (.aload_n 0, 1) := by decide +kernel
theorem dX1_perform_76 : decode cX1_perform 76 = .ok (.iload_n 2, 1) := by decide +kernel
theorem dX1_perform_77 : decode cX1_perform 77 = .ok (.invokevirtual 77, 3) := by decide +kernel
theorem dX1_perform_80 : decode cX1_perform 80 = .ok (.ireturn, 1) := by decide +kernel
theorem dX1_perform_81 : decode cX1_perform 81 = .ok (.aload_n 0, 1) := by decide +kernel
theorem dX1_perform_82 : decode cX1_perform 82 = .ok (.iload_n 2, 1) := by decide +kernel
theorem dX1_perform_83 : decode cX1_perform 83 = .ok (.iload_n 3, 1) := by decide +kernel
theorem dX1_perform_84 : decode cX1_perform 84 = .ok (.iload 4, 2) := by decide +kernel
theorem dX1_perform_86 : decode cX1_perform 86 = .ok (.iload 5, 2) := by decide +kernel
theorem dX1_perform_88 : decode cX1_perform 88 = .ok (.invokevirtual 80, 3) := by decide +kernel
theorem dX1_perform_91 : decode cX1_perform 91 = .ok (.ireturn, 1) := by decide +kernel
theorem dX1_perform_92 : decode cX1_perform 92 = .ok (.aload_n 0, 1) := by decide +kernel
theorem dX1_perform_93 : decode cX1_perform 93 = .ok (.iload_n 2, 1) := by decide +kernel
theorem dX1_perform_94 : decode cX1_perform 94 = .ok (.invokevirtual 84, 3) := by decide +kernel
theorem dX1_perform_97 : decode cX1_perform 97 = .ok (.ireturn, 1) := by decide +kernel
theorem dX1_perform_98 : decode cX1_perform 98 = .ok (.aload_n 0, 1) := by decide +kernel
theorem dX1_perform_99 : decode cX1_perform 99 = .ok (.invokevirtual 87, 3) := by decide +kernel
theorem dX1_perform_102 : decode cX1_perform 102 = .ok (.aload_n 0, 1) := by decide +kernel
theorem dX1_perform_103 : decode cX1_perform 103 = .ok (.getfield 24, 3) := by decide +kernel
theorem dX1_perform_106 : decode cX1_perform 106 = .ok (.ireturn, 1) := by decide +kernel
theorem dX1_perform_107 : decode cX1_perform 107 = .ok (.aload_n 0, 1) := by decide +kernel
theorem dX1_perform_108 : decode cX1_perform 108 = .ok (.iconst 0, 1) := by decide +kernel
theorem dX1_perform_109 : decode cX1_perform 109 = .ok (.putfield 43, 3) := by decide +kernel
theorem dX1_perform_112 : decode cX1_perform 112 = .ok (.aload_n 0, 1) := by decide +kernel
theorem dX1_perform_113 : decode cX1_perform 113 = .ok (.getfield 34, 3) := by decide +kernel
theorem dX1_perform_116 : decode cX1_perform 116 = .ok (.ireturn, 1) := by decide +kernel
theorem dX1_perform_117 : decode cX1_perform 117 = .ok (.aload_n 0, 1) := by decide +kernel
theorem dX1_perform_118 : decode cX1_perform 118 = .ok (.iload_n 2, 1) := by decide +kernel
theorem dX1_perform_119 : decode cX1_perform 119 = .ok (.invokevirtual 90, 3) := by decide +kernel
theorem dX1_perform_122 : decode cX1_perform 122 = .ok (.ireturn, 1) := by decide +kernel
theorem dX1_perform_123 : decode cX1_perform 123 = .ok (.aload_n 0, 1) := by decide +kernel
theorem dX1_perform_124 : decode cX1_perform 124 = .ok (.iload_n 2, 1) := by decide +kernel
theorem dX1_perform_125 : decode cX1_perform 125 = .ok (.iload_n 3, 1) := by decide +kernel
theorem dX1_perform_126 : decode cX1_perform 126 = .ok (.invokevirtual 93, 3) := by decide +kernel
theorem dX1_perform_129 : decode cX1_perform 129 = .ok (.ireturn, 1) := by decide +kernel
theorem dX1_perform_130 : decode cX1_perform 130 = .ok (.iconst (-1), 1) := by decide +kernel
theorem dX1_perform_131 : decode cX1_perform 131 = .ok (.ireturn, 1) := by decide +kernel
theorem dX1_setProgram_0 : decode cX1_setProgram 0 = .ok (.aload_n 0, 1) := by decide +kernel
theorem dX1_setProgram_1 : decode cX1_setProgram 1 = .ok (.getfield 24, 3) := by decide +kernel
theorem dX1_setProgram_4 : decode cX1_setProgram 4 = .ok (.istore_n 2, 1) := by decide +kernel
theorem dX1_setProgram_5 : decode cX1_setProgram 5 = .ok (.aload_n 0, 1) := by decide +kernel
theorem dX1_setProgram_6 : decode cX1_setProgram 6 = .ok (.iload_n 1, 1) := by decide +kernel
theorem dX1_setProgram_7 : decode cX1_setProgram 7 = .ok (.putfield 24, 3) := by decide +kernel
theorem dX1_setProgram_10 : decode cX1_setProgram 10 = .ok (.iload_n 2, 1) := by decide +kernel
theorem dX1_setProgram_11 : decode cX1_setProgram 11 = .ok (.ireturn, 1) := by decide +kernel
theorem dX1_setPreview_0 : decode cX1_setPreview 0 = .ok (.aload_n 0, 1) := by decide +kernel
theorem dX1_setPreview_1 : decode cX1_setPreview 1 = .ok (.getfield 28, 3) := by decide +kernel
theorem dX1_setPreview_4 : decode cX1_setPreview 4 = .ok (.istore_n 2, 1) := by decide +kernel
theorem dX1_setPreview_5 : decode cX1_setPreview 5 = .ok (.aload_n 0, 1) := by decide +kernel
theorem dX1_setPreview_6 : decode cX1_setPreview 6 = .ok (.iload_n 1, 1) := by decide +kernel
theorem dX1_setPreview_7 : decode cX1_setPreview 7 = .ok (.putfield 28, 3) := by decide +kernel
theorem dX1_setPreview_10 : decode cX1_setPreview 10 = .ok (.iload_n 2, 1) := by decide +kernel
theorem dX1_setPreview_11 : decode cX1_setPreview 11 = .ok (.ireturn, 1) := by decide +kernel
theorem dX1_setKindAndRate_0 : decode cX1_setKindAndRate 0 = .ok (.aload_n 0, 1) := by decide +kernel
theorem dX1_setKindAndRate_1 : decode cX1_setKindAndRate 1 = .ok (.getfield 31, 3) := by decide +kernel
theorem dX1_setKindAndRate_4 : decode cX1_setKindAndRate 4 = .ok (.istore_n 3, 1) := by decide +kernel
theorem dX1_setKindAndRate_5 : decode cX1_setKindAndRate 5 = .ok (.aload_n 0, 1) := by decide +kernel
theorem dX1_setKindAndRate_6 : decode cX1_setKindAndRate 6 = .ok (.iload_n 1, 1) := by decide +kernel
theorem dX1_setKindAndRate_7 : decode cX1_setKindAndRate 7 = .ok (.putfield 31, 3) := by decide +kernel
theorem dX1_setKindAndRate_10 : decode cX1_setKindAndRate 10 = .ok (.aload_n 0, 1) := by decide +kernel
theorem dX1_setKindAndRate_11 : decode cX1_setKindAndRate 11 = .ok (.iload_n 2, 1) := by decide +kernel
theorem dX1_setKindAndRate_12 : decode cX1_setKindAndRate 12 = .ok (.putfield 34, 3) := by decide +kernel
theorem dX1_setKindAndRate_15 : decode cX1_setKindAndRate 15 = .ok (.iload_n 3, 1) := by decide +kernel
theorem dX1_setKindAndRate_16 : decode cX1_setKindAndRate 16 = .ok (.ireturn, 1) := by decide +kernel
theorem dX1_setElements_0 : decode cX1_setElements 0 = .ok (.aload_n 0, 1) := by decide +kernel
theorem dX1_setElements_1 : decode cX1_setElements 1 = .ok (.getfield 37, 3) := by decide +kernel
theorem dX1_setElements_4 : decode cX1_setElements 4 = .ok (.istore_n 2, 1) := by decide +kernel
theorem dX1_setElements_5 : decode cX1_setElements 5 = .ok (.aload_n 0, 1) := by decide +kernel
theorem dX1_setElements_6 : decode cX1_setElements 6 = .ok (.iload_n 1, 1) := by decide +kernel
theorem dX1_setElements_7 : decode cX1_setElements 7 = .ok (.putfield 37, 3) := by decide +kernel
theorem dX1_setElements_10 : decode cX1_setElements 10 = .ok (.iload_n 2, 1) := by decide +kernel
theorem dX1_setElements_11 : decode cX1_setElements 11 = .ok (.ireturn, 1) := by decide +kernel
theorem dX1_setKeyer_0 : decode cX1_setKeyer 0 = .ok (.aload_n 0, 1) := by decide +kernel
theorem dX1_setKeyer_1 : decode cX1_setKeyer 1 = .ok (.getfield 9, 3) := by decide +kernel
theorem dX1_setKeyer_4 : decode cX1_setKeyer 4 = .ok (.iload_n 1, 1) := by decide +kernel
theorem dX1_setKeyer_5 : decode cX1_setKeyer 5 = .ok (.invokestatic 62, 3) := by decide +kernel
theorem dX1_setKeyer_8 : decode cX1_setKeyer 8 = .ok (.istore 5, 2) := by decide +kernel
theorem dX1_setKeyer_10 : decode cX1_setKeyer 10 = .ok (.aload_n 0, 1) := by decide +kernel
theorem dX1_setKeyer_11 : decode cX1_setKeyer 11 = .ok (.getfield 9, 3) := by decide +kernel
theorem dX1_setKeyer_14 : decode cX1_setKeyer 14 = .ok (.iload_n 1, 1) := by decide +kernel
theorem dX1_setKeyer_15 : decode cX1_setKeyer 15 = .ok (.iload_n 2, 1) := by decide +kernel
theorem dX1_setKeyer_16 : decode cX1_setKeyer 16 = .ok (.invokestatic 58, 3) := by decide +kernel
theorem dX1_setKeyer_19 : decode cX1_setKeyer 19 = .ok (.aload_n 0, 1) := by decide +kernel
theorem dX1_setKeyer_20 : decode cX1_setKeyer 20 = .ok (.getfield 15, 3) := by decide +kernel
theorem dX1_setKeyer_23 : decode cX1_setKeyer 23 = .ok (.iload_n 1, 1) := by decide +kernel
theorem dX1_setKeyer_24 : decode cX1_setKeyer 24 = .ok (.iload_n 3, 1) := by decide +kernel
theorem dX1_setKeyer_25 : decode cX1_setKeyer 25 = .ok (.invokestatic 58, 3) := by decide +kernel
theorem dX1_setKeyer_28 : decode cX1_setKeyer 28 = .ok (.aload_n 0, 1) := by decide +kernel
theorem dX1_setKeyer_29 : decode cX1_setKeyer 29 = .ok (.getfield 18, 3) := by decide +kernel
theorem dX1_setKeyer_32 : decode cX1_setKeyer 32 = .ok (.iload_n 1, 1) := by decide +kernel
theorem dX1_setKeyer_33 : decode cX1_setKeyer 33 = .ok (.iload 4, 2) := by decide +kernel
theorem dX1_setKeyer_35 : decode cX1_setKeyer 35 = .ok (.invokestatic 58, 3) := by decide +kernel
theorem dX1_setKeyer_38 : decode cX1_setKeyer 38 = .ok (.iload 5, 2) := by decide +kernel
theorem dX1_setKeyer_40 : decode cX1_setKeyer 40 = .ok (.ireturn, 1) := by decide +kernel
theorem dX1_switchKeyer_0 : decode cX1_switchKeyer 0 = .ok (.aload_n 0, 1) := by decide +kernel
theorem dX1_switchKeyer_1 : decode cX1_switchKeyer 1 = .ok (.dup, 1) := by decide +kernel
theorem dX1_switchKeyer_2 : decode cX1_switchKeyer 2 = .ok (.getfield 55, 3) := by decide +kernel
theorem dX1_switchKeyer_5 : decode cX1_switchKeyer 5 = .ok (.iconst 1, 1) := by decide +kernel
theorem dX1_switchKeyer_6 : decode cX1_switchKeyer 6 = .ok (.iload_n 1, 1) := by decide +kernel
theorem dX1_switchKeyer_7 : decode cX1_switchKeyer 7 = .ok (.ishl, 1) := by decide +kernel
theorem dX1_switchKeyer_8 : decode cX1_switchKeyer 8 = .ok (.ixor, 1) := by decide +kernel
theorem dX1_switchKeyer_9 : decode cX1_switchKeyer 9 = .ok (.putfield 55, 3) := by decide +kernel
theorem dX1_switchKeyer_12 : decode cX1_switchKeyer 12 = .ok (.aload_n 0, 1) := by decide +kernel
theorem dX1_switchKeyer_13 : decode cX1_switchKeyer 13 = .ok (.iload_n 1, 1) := by decide +kernel
theorem dX1_switchKeyer_14 : decode cX1_switchKeyer 14 = .ok (.invokevirtual 96, 3) := by decide +kernel
theorem dX1_switchKeyer_17 : decode cX1_switchKeyer 17 = .ok (.ifCond .eq 7, 3) := by decide +kernel
theorem dX1_switchKeyer_20 : decode cX1_switchKeyer 20 = .ok (.iconst 1, 1) := by decide +kernel
theorem dX1_switchKeyer_21 : decode cX1_switchKeyer 21 = .ok (.goto 4, 3) := by decide +kernel
theorem dX1_switchKeyer_24 : decode cX1_switchKeyer 24 = .ok (.iconst 0, 1) := by decide +kernel
theorem dX1_switchKeyer_25 : decode cX1_switchKeyer 25 = .ok (.ireturn, 1) := by decide +kernel
theorem dX1_setPosition_0 : decode cX1_setPosition 0 = .ok (.aload_n 0, 1) := by decide +kernel
theorem dX1_setPosition_1 : decode cX1_setPosition 1 = .ok (.getfield 40, 3) := by decide +kernel
theorem dX1_setPosition_4 : decode cX1_setPosition 4 = .ok (.istore_n 2, 1) := by decide +kernel
theorem dX1_setPosition_5 : decode cX1_setPosition 5 = .ok (.aload_n 0, 1) := by decide +kernel
theorem dX1_setPosition_6 : decode cX1_setPosition 6 = .ok (.iload_n 1, 1) := by decide +kernel
theorem dX1_setPosition_7 : decode cX1_setPosition 7 = .ok (.putfield 40, 3) := by decide +kernel
theorem dX1_setPosition_10 : decode cX1_setPosition 10 = .ok (.iload_n 1, 1) := by decide +kernel
theorem dX1_setPosition_11 : decode cX1_setPosition 11 = .ok (.sipush 1000, 3) := by decide +kernel
theorem dX1_setPosition_14 : decode cX1_setPosition 14 = .ok (.if_icmp .ne 7, 3) := by decide +kernel
theorem dX1_setPosition_17 : decode cX1_setPosition 17 = .ok (.aload_n 0, 1) := by decide +kernel
theorem dX1_setPosition_18 : decode cX1_setPosition 18 = .ok (.invokevirtual 87, 3) := by decide +kernel
theorem dX1_setPosition_21 : decode cX1_setPosition 21 = .ok (.iload_n 2, 1) := by decide +kernel
theorem dX1_setPosition_22 : decode cX1_setPosition 22 = .ok (.ireturn, 1) := by decide +kernel
theorem dX1_setFault_0 : decode cX1_setFault 0 = .ok (.aload_n 0, 1) := by decide +kernel
theorem dX1_setFault_1 : decode cX1_setFault 1 = .ok (.getfield 52, 3) := by decide +kernel
theorem dX1_setFault_4 : decode cX1_setFault 4 = .ok (.iload_n 1, 1) := by decide +kernel
theorem dX1_setFault_5 : decode cX1_setFault 5 = .ok (.ishr, 1) := by decide +kernel
theorem dX1_setFault_6 : decode cX1_setFault 6 = .ok (.iconst 1, 1) := by decide +kernel
theorem dX1_setFault_7 : decode cX1_setFault 7 = .ok (.iand, 1) := by decide +kernel
theorem dX1_setFault_8 : decode cX1_setFault 8 = .ok (.istore_n 3, 1) := by decide +kernel
theorem dX1_setFault_9 : decode cX1_setFault 9 = .ok (.aload_n 0, 1) := by decide +kernel
theorem dX1_setFault_10 : decode cX1_setFault 10 = .ok (.aload_n 0, 1) := by decide +kernel
theorem dX1_setFault_11 : decode cX1_setFault 11 = .ok (.getfield 52, 3) := by decide +kernel
theorem dX1_setFault_14 : decode cX1_setFault 14 = .ok (.iconst 1, 1) := by decide +kernel
theorem dX1_setFault_15 : decode cX1_setFault 15 = .ok (.iload_n 1, 1) := by decide +kernel
theorem dX1_setFault_16 : decode cX1_setFault 16 = .ok (.ishl, 1) := by decide +kernel
theorem dX1_setFault_17 : decode cX1_setFault 17 = .ok (.iconst (-1), 1) := by decide +kernel
theorem dX1_setFault_18 : decode cX1_setFault 18 = .ok (.ixor, 1) := by decide +kernel
theorem dX1_setFault_19 : decode cX1_setFault 19 = .ok (.iand, 1) := by decide +kernel
theorem dX1_setFault_20 : decode cX1_setFault 20 = .ok (.iload_n 2, 1) := by decide +kernel
theorem dX1_setFault_21 : decode cX1_setFault 21 = .ok (.iload_n 1, 1) := by decide +kernel
theorem dX1_setFault_22 : decode cX1_setFault 22 = .ok (.ishl, 1) := by decide +kernel
theorem dX1_setFault_23 : decode cX1_setFault 23 = .ok (.ior, 1) := by decide +kernel
theorem dX1_setFault_24 : decode cX1_setFault 24 = .ok (.putfield 52, 3) := by decide +kernel
theorem dX1_setFault_27 : decode cX1_setFault 27 = .ok (.iload_n 3, 1) := by decide +kernel
theorem dX1_setFault_28 : decode cX1_setFault 28 = .ok (.ireturn, 1) := by decide +kernel
theorem dX1_complete_0 : decode cX1_complete 0 = .ok (.aload_n 0, 1) := by decide +kernel
theorem dX1_complete_1 : decode cX1_complete 1 = .ok (.invokevirtual 100, 3) := by decide +kernel
theorem dX1_complete_4 : decode cX1_complete 4 = .ok (.ifCond .eq 21, 3) := by decide +kernel
theorem dX1_complete_7 : decode cX1_complete 7 = .ok (.aload_n 0, 1) := by decide +kernel
theorem dX1_complete_8 : decode cX1_complete 8 = .ok (.getfield 24, 3) := by decide +kernel
theorem dX1_complete_11 : decode cX1_complete 11 = .ok (.istore_n 1, 1) := by decide +kernel
theorem dX1_complete_12 : decode cX1_complete 12 = .ok (.aload_n 0, 1) := by decide +kernel
theorem dX1_complete_13 : decode cX1_complete 13 = .ok (.aload_n 0, 1) := by decide +kernel
theorem dX1_complete_14 : decode cX1_complete 14 = .ok (.getfield 28, 3) := by decide +kernel
theorem dX1_complete_17 : decode cX1_complete 17 = .ok (.putfield 24, 3) := by decide +kernel
theorem dX1_complete_20 : decode cX1_complete 20 = .ok (.aload_n 0, 1) := by decide +kernel
theorem dX1_complete_21 : decode cX1_complete 21 = .ok (.iload_n 1, 1) := by decide +kernel
theorem dX1_complete_22 : decode cX1_complete 22 = .ok (.putfield 28, 3) := by decide +kernel
theorem dX1_complete_25 : decode cX1_complete 25 = .ok (.aload_n 0, 1) := by decide +kernel
theorem dX1_complete_26 : decode cX1_complete 26 = .ok (.dup, 1) := by decide +kernel
theorem dX1_complete_27 : decode cX1_complete 27 = .ok (.getfield 55, 3) := by decide +kernel
theorem dX1_complete_30 : decode cX1_complete 30 = .ok (.aload_n 0, 1) := by decide +kernel
theorem dX1_complete_31 : decode cX1_complete 31 = .ok (.getfield 37, 3) := by decide +kernel
theorem dX1_complete_34 : decode cX1_complete 34 = .ok (.iconst 1, 1) := by decide +kernel
theorem dX1_complete_35 : decode cX1_complete 35 = .ok (.ishr, 1) := by decide +kernel
theorem dX1_complete_36 : decode cX1_complete 36 = .ok (.ixor, 1) := by decide +kernel
theorem dX1_complete_37 : decode cX1_complete 37 = .ok (.putfield 55, 3) := by decide +kernel
theorem dX1_complete_40 : decode cX1_complete 40 = .ok (.aload_n 0, 1) := by decide +kernel
theorem dX1_complete_41 : decode cX1_complete 41 = .ok (.iconst 0, 1) := by decide +kernel
theorem dX1_complete_42 : decode cX1_complete 42 = .ok (.putfield 40, 3) := by decide +kernel
theorem dX1_complete_45 : decode cX1_complete 45 = .ok (.aload_n 0, 1) := by decide +kernel
theorem dX1_complete_46 : decode cX1_complete 46 = .ok (.iconst (-1), 1) := by decide +kernel
theorem dX1_complete_47 : decode cX1_complete 47 = .ok (.putfield 43, 3) := by decide +kernel
theorem dX1_complete_50 : decode cX1_complete 50 = .ok (.return_, 1) := by decide +kernel
theorem dX1_letPass_0 : decode cX1_letPass 0 = .ok (.iload_n 1, 1) := by decide +kernel
theorem dX1_letPass_1 : decode cX1_letPass 1 = .ok (.ifCond .gt 4, 3) := by decide +kernel
theorem dX1_letPass_4 : decode cX1_letPass 4 = .ok (.return_, 1) := by decide +kernel
theorem dX1_letPass_5 : decode cX1_letPass 5 = .ok (.aload_n 0, 1) := by decide +kernel
theorem dX1_letPass_6 : decode cX1_letPass 6 = .ok (.dup, 1) := by decide +kernel
theorem dX1_letPass_7 : decode cX1_letPass 7 = .ok (.getfield 46, 3) := by decide +kernel
theorem dX1_letPass_10 : decode cX1_letPass 10 = .ok (.iload_n 1, 1) := by decide +kernel
theorem dX1_letPass_11 : decode cX1_letPass 11 = .ok (.iadd, 1) := by decide +kernel
theorem dX1_letPass_12 : decode cX1_letPass 12 = .ok (.putfield 46, 3) := by decide +kernel
theorem dX1_letPass_15 : decode cX1_letPass 15 = .ok (.aload_n 0, 1) := by decide +kernel
theorem dX1_letPass_16 : decode cX1_letPass 16 = .ok (.getfield 43, 3) := by decide +kernel
theorem dX1_letPass_19 : decode cX1_letPass 19 = .ok (.iconst (-1), 1) := by decide +kernel
theorem dX1_letPass_20 : decode cX1_letPass 20 = .ok (.if_icmp .ne 4, 3) := by decide +kernel
theorem dX1_letPass_23 : decode cX1_letPass 23 = .ok (.return_, 1) := by decide +kernel
theorem dX1_letPass_24 : decode cX1_letPass 24 = .ok (.iload_n 1, 1) := by decide +kernel
theorem dX1_letPass_25 : decode cX1_letPass 25 = .ok (.iconst 1, 1) := by decide +kernel
theorem dX1_letPass_26 : decode cX1_letPass 26 = .ok (.aload_n 0, 1) := by decide +kernel
theorem dX1_letPass_27 : decode cX1_letPass 27 = .ok (.getfield 34, 3) := by decide +kernel
theorem dX1_letPass_30 : decode cX1_letPass 30 = .ok (.aload_n 0, 1) := by decide +kernel
theorem dX1_letPass_31 : decode cX1_letPass 31 = .ok (.getfield 43, 3) := by decide +kernel
theorem dX1_letPass_34 : decode cX1_letPass 34 = .ok (.isub, 1) := by decide +kernel
theorem dX1_letPass_35 : decode cX1_letPass 35 = .ok (.invokestatic 104, 3) := by decide +kernel
theorem dX1_letPass_38 : decode cX1_letPass 38 = .ok (.if_icmp .lt 20, 3) := by decide +kernel
theorem dX1_letPass_41 : decode cX1_letPass 41 = .ok (.aload_n 0, 1) := by decide +kernel
theorem dX1_letPass_42 : decode cX1_letPass 42 = .ok (.invokevirtual 87, 3) := by decide +kernel
theorem dX1_letPass_45 : decode cX1_letPass 45 = .ok (.aload_n 0, 1) := by decide +kernel
theorem dX1_letPass_46 : decode cX1_letPass 46 = .ok (.dup, 1) := by decide +kernel
theorem dX1_letPass_47 : decode cX1_letPass 47 = .ok (.getfield 49, 3) := by decide +kernel
theorem dX1_letPass_50 : decode cX1_letPass 50 = .ok (.iconst 1, 1) := by decide +kernel
theorem dX1_letPass_51 : decode cX1_letPass 51 = .ok (.iadd, 1) := by decide +kernel
theorem dX1_letPass_52 : decode cX1_letPass 52 = .ok (.putfield 49, 3) := by decide +kernel
theorem dX1_letPass_55 : decode cX1_letPass 55 = .ok (.goto 41, 3) := by decide +kernel
theorem dX1_letPass_58 : decode cX1_letPass 58 = .ok (.aload_n 0, 1) := by decide +kernel
theorem dX1_letPass_59 : decode cX1_letPass 59 = .ok (.dup, 1) := by decide +kernel
theorem dX1_letPass_60 : decode cX1_letPass 60 = .ok (.getfield 43, 3) := by decide +kernel
theorem dX1_letPass_63 : decode cX1_letPass 63 = .ok (.iload_n 1, 1) := by decide +kernel
theorem dX1_letPass_64 : decode cX1_letPass 64 = .ok (.iadd, 1) := by decide +kernel
theorem dX1_letPass_65 : decode cX1_letPass 65 = .ok (.putfield 43, 3) := by decide +kernel
theorem dX1_letPass_68 : decode cX1_letPass 68 = .ok (.aload_n 0, 1) := by decide +kernel
theorem dX1_letPass_69 : decode cX1_letPass 69 = .ok (.aload_n 0, 1) := by decide +kernel
theorem dX1_letPass_70 : decode cX1_letPass 70 = .ok (.getfield 34, 3) := by decide +kernel
theorem dX1_letPass_73 : decode cX1_letPass 73 = .ok (.ifCond .le 19, 3) := by decide +kernel
theorem dX1_letPass_76 : decode cX1_letPass 76 = .ok (.aload_n 0, 1) := by decide +kernel
theorem dX1_letPass_77 : decode cX1_letPass 77 = .ok (.getfield 43, 3) := by decide +kernel
theorem dX1_letPass_80 : decode cX1_letPass 80 = .ok (.sipush 1000, 3) := by decide +kernel
theorem dX1_letPass_83 : decode cX1_letPass 83 = .ok (.imul, 1) := by decide +kernel
theorem dX1_letPass_84 : decode cX1_letPass 84 = .ok (.aload_n 0, 1) := by decide +kernel
theorem dX1_letPass_85 : decode cX1_letPass 85 = .ok (.getfield 34, 3) := by decide +kernel
theorem dX1_letPass_88 : decode cX1_letPass 88 = .ok (.idiv, 1) := by decide +kernel
theorem dX1_letPass_89 : decode cX1_letPass 89 = .ok (.goto 4, 3) := by decide +kernel
theorem dX1_letPass_92 : decode cX1_letPass 92 = .ok (.iconst 0, 1) := by decide +kernel
theorem dX1_letPass_93 : decode cX1_letPass 93 = .ok (.putfield 40, 3) := by decide +kernel
theorem dX1_letPass_96 : decode cX1_letPass 96 = .ok (.return_, 1) := by decide +kernel
theorem dX1_movesBackground_0 : decode cX1_movesBackground 0 = .ok (.aload_n 0, 1) := by decide +kernel
theorem dX1_movesBackground_1 : decode cX1_movesBackground 1 = .ok (.getfield 37, 3) := by decide +kernel
theorem dX1_movesBackground_4 : decode cX1_movesBackground 4 = .ok (.iconst 1, 1) := by decide +kernel
theorem dX1_movesBackground_5 : decode cX1_movesBackground 5 = .ok (.iand, 1) := by decide +kernel
theorem dX1_movesBackground_6 : decode cX1_movesBackground 6 = .ok (.ifCond .eq 7, 3) := by decide +kernel
theorem dX1_movesBackground_9 : decode cX1_movesBackground 9 = .ok (.iconst 1, 1) := by decide +kernel
theorem dX1_movesBackground_10 : decode cX1_movesBackground 10 = .ok (.goto 4, 3) := by decide +kernel
theorem dX1_movesBackground_13 : decode cX1_movesBackground 13 = .ok (.iconst 0, 1) := by decide +kernel
theorem dX1_movesBackground_14 : decode cX1_movesBackground 14 = .ok (.ireturn, 1) := by decide +kernel
theorem dX1_moves_0 : decode cX1_moves 0 = .ok (.aload_n 0, 1) := by decide +kernel
theorem dX1_moves_1 : decode cX1_moves 1 = .ok (.getfield 37, 3) := by decide +kernel
theorem dX1_moves_4 : decode cX1_moves 4 = .ok (.iconst 1, 1) := by decide +kernel
theorem dX1_moves_5 : decode cX1_moves 5 = .ok (.iload_n 1, 1) := by decide +kernel
theorem dX1_moves_6 : decode cX1_moves 6 = .ok (.iadd, 1) := by decide +kernel
theorem dX1_moves_7 : decode cX1_moves 7 = .ok (.ishr, 1) := by decide +kernel
theorem dX1_moves_8 : decode cX1_moves 8 = .ok (.iconst 1, 1) := by decide +kernel
theorem dX1_moves_9 : decode cX1_moves 9 = .ok (.iand, 1) := by decide +kernel
theorem dX1_moves_10 : decode cX1_moves 10 = .ok (.ifCond .eq 7, 3) := by decide +kernel
theorem dX1_moves_13 : decode cX1_moves 13 = .ok (.iconst 1, 1) := by decide +kernel
theorem dX1_moves_14 : decode cX1_moves 14 = .ok (.goto 4, 3) := by decide +kernel
theorem dX1_moves_17 : decode cX1_moves 17 = .ok (.iconst 0, 1) := by decide +kernel
theorem dX1_moves_18 : decode cX1_moves 18 = .ok (.ireturn, 1) := by decide +kernel
theorem dX1_isOn_0 : decode cX1_isOn 0 = .ok (.aload_n 0, 1) := by decide +kernel
theorem dX1_isOn_1 : decode cX1_isOn 1 = .ok (.getfield 55, 3) := by decide +kernel
theorem dX1_isOn_4 : decode cX1_isOn 4 = .ok (.iload_n 1, 1) := by decide +kernel
theorem dX1_isOn_5 : decode cX1_isOn 5 = .ok (.ishr, 1) := by decide +kernel
theorem dX1_isOn_6 : decode cX1_isOn 6 = .ok (.iconst 1, 1) := by decide +kernel
theorem dX1_isOn_7 : decode cX1_isOn 7 = .ok (.iand, 1) := by decide +kernel
theorem dX1_isOn_8 : decode cX1_isOn 8 = .ok (.ifCond .eq 7, 3) := by decide +kernel
theorem dX1_isOn_11 : decode cX1_isOn 11 = .ok (.iconst 1, 1) := by decide +kernel
theorem dX1_isOn_12 : decode cX1_isOn 12 = .ok (.goto 4, 3) := by decide +kernel
theorem dX1_isOn_15 : decode cX1_isOn 15 = .ok (.iconst 0, 1) := by decide +kernel
theorem dX1_isOn_16 : decode cX1_isOn 16 = .ok (.ireturn, 1) := by decide +kernel
theorem dX1_fillOf_0 : decode cX1_fillOf 0 = .ok (.aload_n 0, 1) := by decide +kernel
theorem dX1_fillOf_1 : decode cX1_fillOf 1 = .ok (.getfield 9, 3) := by decide +kernel
theorem dX1_fillOf_4 : decode cX1_fillOf 4 = .ok (.iload_n 1, 1) := by decide +kernel
theorem dX1_fillOf_5 : decode cX1_fillOf 5 = .ok (.invokestatic 62, 3) := by decide +kernel
theorem dX1_fillOf_8 : decode cX1_fillOf 8 = .ok (.ireturn, 1) := by decide +kernel
theorem dX1_coverOf_0 : decode cX1_coverOf 0 = .ok (.aload_n 0, 1) := by decide +kernel
theorem dX1_coverOf_1 : decode cX1_coverOf 1 = .ok (.getfield 15, 3) := by decide +kernel
theorem dX1_coverOf_4 : decode cX1_coverOf 4 = .ok (.iload_n 1, 1) := by decide +kernel
theorem dX1_coverOf_5 : decode cX1_coverOf 5 = .ok (.invokestatic 62, 3) := by decide +kernel
theorem dX1_coverOf_8 : decode cX1_coverOf 8 = .ok (.aload_n 0, 1) := by decide +kernel
theorem dX1_coverOf_9 : decode cX1_coverOf 9 = .ok (.getfield 18, 3) := by decide +kernel
theorem dX1_coverOf_12 : decode cX1_coverOf 12 = .ok (.iload_n 1, 1) := by decide +kernel
theorem dX1_coverOf_13 : decode cX1_coverOf 13 = .ok (.invokestatic 62, 3) := by decide +kernel
theorem dX1_coverOf_16 : decode cX1_coverOf 16 = .ok (.imul, 1) := by decide +kernel
theorem dX1_coverOf_17 : decode cX1_coverOf 17 = .ok (.istore_n 2, 1) := by decide +kernel
theorem dX1_coverOf_18 : decode cX1_coverOf 18 = .ok (.aload_n 0, 1) := by decide +kernel
theorem dX1_coverOf_19 : decode cX1_coverOf 19 = .ok (.iload_n 1, 1) := by decide +kernel
theorem dX1_coverOf_20 : decode cX1_coverOf 20 = .ok (.invokevirtual 109, 3) := by decide +kernel
theorem dX1_coverOf_23 : decode cX1_coverOf 23 = .ok (.ifCond .ne 17, 3) := by decide +kernel
theorem dX1_coverOf_26 : decode cX1_coverOf 26 = .ok (.aload_n 0, 1) := by decide +kernel
theorem dX1_coverOf_27 : decode cX1_coverOf 27 = .ok (.iload_n 1, 1) := by decide +kernel
theorem dX1_coverOf_28 : decode cX1_coverOf 28 = .ok (.invokevirtual 96, 3) := by decide +kernel
theorem dX1_coverOf_31 : decode cX1_coverOf 31 = .ok (.ifCond .eq 7, 3) := by decide +kernel
theorem dX1_coverOf_34 : decode cX1_coverOf 34 = .ok (.iload_n 2, 1) := by decide +kernel
theorem dX1_coverOf_35 : decode cX1_coverOf 35 = .ok (.goto 4, 3) := by decide +kernel
theorem dX1_coverOf_38 : decode cX1_coverOf 38 = .ok (.iconst 0, 1) := by decide +kernel
theorem dX1_coverOf_39 : decode cX1_coverOf 39 = .ok (.ireturn, 1) := by decide +kernel
theorem dX1_coverOf_40 : decode cX1_coverOf 40 = .ok (.aload_n 0, 1) := by decide +kernel
theorem dX1_coverOf_41 : decode cX1_coverOf 41 = .ok (.iload_n 1, 1) := by decide +kernel
theorem dX1_coverOf_42 : decode cX1_coverOf 42 = .ok (.invokevirtual 96, 3) := by decide +kernel
theorem dX1_coverOf_45 : decode cX1_coverOf 45 = .ok (.ifCond .eq 14, 3) := by decide +kernel
theorem dX1_coverOf_48 : decode cX1_coverOf 48 = .ok (.sipush 1000, 3) := by decide +kernel
theorem dX1_coverOf_51 : decode cX1_coverOf 51 = .ok (.aload_n 0, 1) := by decide +kernel
theorem dX1_coverOf_52 : decode cX1_coverOf 52 = .ok (.getfield 40, 3) := by decide +kernel
theorem dX1_coverOf_55 : decode cX1_coverOf 55 = .ok (.isub, 1) := by decide +kernel
theorem dX1_coverOf_56 : decode cX1_coverOf 56 = .ok (.goto 7, 3) := by decide +kernel
theorem dX1_coverOf_59 : decode cX1_coverOf 59 = .ok (.aload_n 0, 1) := by decide +kernel
theorem dX1_coverOf_60 : decode cX1_coverOf 60 = .ok (.getfield 40, 3) := by decide +kernel
theorem dX1_coverOf_63 : decode cX1_coverOf 63 = .ok (.istore_n 3, 1) := by decide +kernel
theorem dX1_coverOf_64 : decode cX1_coverOf 64 = .ok (.iload_n 2, 1) := by decide +kernel
theorem dX1_coverOf_65 : decode cX1_coverOf 65 = .ok (.iload_n 3, 1) := by decide +kernel
theorem dX1_coverOf_66 : decode cX1_coverOf 66 = .ok (.imul, 1) := by decide +kernel
theorem dX1_coverOf_67 : decode cX1_coverOf 67 = .ok (.sipush 1000, 3) := by decide +kernel
theorem dX1_coverOf_70 : decode cX1_coverOf 70 = .ok (.idiv, 1) := by decide +kernel
theorem dX1_coverOf_71 : decode cX1_coverOf 71 = .ok (.ireturn, 1) := by decide +kernel
theorem dX1_tellSetting_0 : decode cX1_tellSetting 0 = .ok (.iload_n 1, 1) := by decide +kernel
theorem dX1_tellSetting_1 : decode cX1_tellSetting 1 = .ok (.tableswitch 87 0 7 #[47, 52, 57, 62, 67, 72, 77, 82], 47) := by decide +kernel
theorem dX1_tellSetting_48 : decode cX1_tellSetting 48 = .ok (.aload_n 0, 1) := by decide +kernel
theorem dX1_tellSetting_49 : decode cX1_tellSetting 49 = .ok (.getfield 24, 3) := by decide +kernel
theorem dX1_tellSetting_52 : decode cX1_tellSetting 52 = .ok (.ireturn, 1) := by decide +kernel
theorem dX1_tellSetting_53 : decode cX1_tellSetting 53 = .ok (.aload_n 0, 1) := by decide +kernel
theorem dX1_tellSetting_54 : decode cX1_tellSetting 54 = .ok (.getfield 28, 3) := by decide +kernel
theorem dX1_tellSetting_57 : decode cX1_tellSetting 57 = .ok (.ireturn, 1) := by decide +kernel
theorem dX1_tellSetting_58 : decode cX1_tellSetting 58 = .ok (.aload_n 0, 1) := by decide +kernel
theorem dX1_tellSetting_59 : decode cX1_tellSetting 59 = .ok (.getfield 31, 3) := by decide +kernel
theorem dX1_tellSetting_62 : decode cX1_tellSetting 62 = .ok (.ireturn, 1) := by decide +kernel
theorem dX1_tellSetting_63 : decode cX1_tellSetting 63 = .ok (.aload_n 0, 1) := by decide +kernel
theorem dX1_tellSetting_64 : decode cX1_tellSetting 64 = .ok (.getfield 34, 3) := by decide +kernel
theorem dX1_tellSetting_67 : decode cX1_tellSetting 67 = .ok (.ireturn, 1) := by decide +kernel
theorem dX1_tellSetting_68 : decode cX1_tellSetting 68 = .ok (.aload_n 0, 1) := by decide +kernel
theorem dX1_tellSetting_69 : decode cX1_tellSetting 69 = .ok (.getfield 37, 3) := by decide +kernel
theorem dX1_tellSetting_72 : decode cX1_tellSetting 72 = .ok (.ireturn, 1) := by decide +kernel
theorem dX1_tellSetting_73 : decode cX1_tellSetting 73 = .ok (.aload_n 0, 1) := by decide +kernel
theorem dX1_tellSetting_74 : decode cX1_tellSetting 74 = .ok (.getfield 40, 3) := by decide +kernel
theorem dX1_tellSetting_77 : decode cX1_tellSetting 77 = .ok (.ireturn, 1) := by decide +kernel
theorem dX1_tellSetting_78 : decode cX1_tellSetting 78 = .ok (.aload_n 0, 1) := by decide +kernel
theorem dX1_tellSetting_79 : decode cX1_tellSetting 79 = .ok (.getfield 43, 3) := by decide +kernel
theorem dX1_tellSetting_82 : decode cX1_tellSetting 82 = .ok (.ireturn, 1) := by decide +kernel
theorem dX1_tellSetting_83 : decode cX1_tellSetting 83 = .ok (.aload_n 0, 1) := by decide +kernel
theorem dX1_tellSetting_84 : decode cX1_tellSetting 84 = .ok (.getfield 46, 3) := by decide +kernel
theorem dX1_tellSetting_87 : decode cX1_tellSetting 87 = .ok (.ireturn, 1) := by decide +kernel
theorem dX1_tellSetting_88 : decode cX1_tellSetting 88 = .ok (.iconst (-1), 1) := by decide +kernel
theorem dX1_tellSetting_89 : decode cX1_tellSetting 89 = .ok (.ireturn, 1) := by decide +kernel
theorem dX1_tellKeyer_0 : decode cX1_tellKeyer 0 = .ok (.iload_n 2, 1) := by decide +kernel
theorem dX1_tellKeyer_1 : decode cX1_tellKeyer 1 = .ok (.tableswitch 54 0 2 #[27, 36, 45], 27) := by decide +kernel
theorem dX1_tellKeyer_28 : decode cX1_tellKeyer 28 = .ok (.aload_n 0, 1) := by decide +kernel
theorem dX1_tellKeyer_29 : decode cX1_tellKeyer 29 = .ok (.getfield 9, 3) := by decide +kernel
theorem dX1_tellKeyer_32 : decode cX1_tellKeyer 32 = .ok (.iload_n 1, 1) := by decide +kernel
theorem dX1_tellKeyer_33 : decode cX1_tellKeyer 33 = .ok (.invokestatic 62, 3) := by decide +kernel
theorem dX1_tellKeyer_36 : decode cX1_tellKeyer 36 = .ok (.ireturn, 1) := by decide +kernel
theorem dX1_tellKeyer_37 : decode cX1_tellKeyer 37 = .ok (.aload_n 0, 1) := by decide +kernel
theorem dX1_tellKeyer_38 : decode cX1_tellKeyer 38 = .ok (.getfield 15, 3) := by decide +kernel
theorem dX1_tellKeyer_41 : decode cX1_tellKeyer 41 = .ok (.iload_n 1, 1) := by decide +kernel
theorem dX1_tellKeyer_42 : decode cX1_tellKeyer 42 = .ok (.invokestatic 62, 3) := by decide +kernel
theorem dX1_tellKeyer_45 : decode cX1_tellKeyer 45 = .ok (.ireturn, 1) := by decide +kernel
theorem dX1_tellKeyer_46 : decode cX1_tellKeyer 46 = .ok (.aload_n 0, 1) := by decide +kernel
theorem dX1_tellKeyer_47 : decode cX1_tellKeyer 47 = .ok (.getfield 18, 3) := by decide +kernel
theorem dX1_tellKeyer_50 : decode cX1_tellKeyer 50 = .ok (.iload_n 1, 1) := by decide +kernel
theorem dX1_tellKeyer_51 : decode cX1_tellKeyer 51 = .ok (.invokestatic 62, 3) := by decide +kernel
theorem dX1_tellKeyer_54 : decode cX1_tellKeyer 54 = .ok (.ireturn, 1) := by decide +kernel
theorem dX1_tellKeyer_55 : decode cX1_tellKeyer 55 = .ok (.aload_n 0, 1) := by decide +kernel
theorem dX1_tellKeyer_56 : decode cX1_tellKeyer 56 = .ok (.iload_n 1, 1) := by decide +kernel
theorem dX1_tellKeyer_57 : decode cX1_tellKeyer 57 = .ok (.invokevirtual 96, 3) := by decide +kernel
theorem dX1_tellKeyer_60 : decode cX1_tellKeyer 60 = .ok (.ifCond .eq 7, 3) := by decide +kernel
theorem dX1_tellKeyer_63 : decode cX1_tellKeyer 63 = .ok (.iconst 1, 1) := by decide +kernel
theorem dX1_tellKeyer_64 : decode cX1_tellKeyer 64 = .ok (.goto 4, 3) := by decide +kernel
theorem dX1_tellKeyer_67 : decode cX1_tellKeyer 67 = .ok (.iconst 0, 1) := by decide +kernel
theorem dX1_tellKeyer_68 : decode cX1_tellKeyer 68 = .ok (.ireturn, 1) := by decide +kernel
theorem dX2_init_0 : decode cX2_init 0 = .ok (.aload_n 0, 1) := by decide +kernel
theorem dX2_init_1 : decode cX2_init 1 = .ok (.invokespecial 3, 3) := by decide +kernel
theorem dX2_init_4 : decode cX2_init 4 = .ok (.aload_n 0, 1) := by decide +kernel
theorem dX2_init_5 : decode cX2_init 5 = .ok (.bipush 10, 2) := by decide +kernel
theorem dX2_init_7 : decode cX2_init 7 = .ok (.newarray .int, 2) := by decide +kernel
theorem dX2_init_9 : decode cX2_init 9 = .ok (.putfield 9, 3) := by decide +kernel
theorem dX2_init_12 : decode cX2_init 12 = .ok (.return_, 1) := by decide +kernel
theorem dX2_paint_0 : decode cX2_paint 0 = .ok (.iconst 0, 1) := by decide +kernel
theorem dX2_paint_1 : decode cX2_paint 1 = .ok (.istore_n 2, 1) := by decide +kernel
theorem dX2_paint_2 : decode cX2_paint 2 = .ok (.iload_n 2, 1) := by decide +kernel
theorem dX2_paint_3 : decode cX2_paint 3 = .ok (.bipush 10, 2) := by decide +kernel
theorem dX2_paint_5 : decode cX2_paint 5 = .ok (.if_icmp .ge 18, 3) := by decide +kernel
theorem dX2_paint_8 : decode cX2_paint 8 = .ok (.aload_n 0, 1) := by decide +kernel
theorem dX2_paint_9 : decode cX2_paint 9 = .ok (.getfield 9, 3) := by decide +kernel
theorem dX2_paint_12 : decode cX2_paint 12 = .ok (.iload_n 2, 1) := by decide +kernel
theorem dX2_paint_13 : decode cX2_paint 13 = .ok (.iconst 0, 1) := by decide +kernel
theorem dX2_paint_14 : decode cX2_paint 14 = .ok (.invokestatic 15, 3) := by decide +kernel
theorem dX2_paint_17 : decode cX2_paint 17 = .ok (.iinc 2 1, 3) := by decide +kernel
theorem dX2_paint_20 : decode cX2_paint 20 = .ok (.goto (-18), 3) := by decide +kernel
theorem dX2_paint_23 : decode cX2_paint 23 = .ok (.aload_n 0, 1) := by decide +kernel
theorem dX2_paint_24 : decode cX2_paint 24 = .ok (.aload_n 1, 1) := by decide +kernel
theorem dX2_paint_25 : decode cX2_paint 25 = .ok (.invokevirtual 19, 3) := by decide +kernel
theorem dX2_paint_28 : decode cX2_paint 28 = .ok (.iconst 0, 1) := by decide +kernel
theorem dX2_paint_29 : decode cX2_paint 29 = .ok (.istore_n 2, 1) := by decide +kernel
theorem dX2_paint_30 : decode cX2_paint 30 = .ok (.iload_n 2, 1) := by decide +kernel
theorem dX2_paint_31 : decode cX2_paint 31 = .ok (.iconst 3, 1) := by decide +kernel
theorem dX2_paint_32 : decode cX2_paint 32 = .ok (.if_icmp .ge 23, 3) := by decide +kernel
theorem dX2_paint_35 : decode cX2_paint 35 = .ok (.aload_n 0, 1) := by decide +kernel
theorem dX2_paint_36 : decode cX2_paint 36 = .ok (.aload_n 1, 1) := by decide +kernel
theorem dX2_paint_37 : decode cX2_paint 37 = .ok (.iload_n 2, 1) := by decide +kernel
theorem dX2_paint_38 : decode cX2_paint 38 = .ok (.invokevirtual 23, 3) := by decide +kernel
theorem dX2_paint_41 : decode cX2_paint 41 = .ok (.aload_n 1, 1) := by decide +kernel
theorem dX2_paint_42 : decode cX2_paint 42 = .ok (.iload_n 2, 1) := by decide +kernel
theorem dX2_paint_43 : decode cX2_paint 43 = .ok (.invokevirtual 29, 3) := by decide +kernel
theorem dX2_paint_46 : decode cX2_paint 46 = .ok (.invokevirtual 32, 3) := by decide +kernel
theorem dX2_paint_49 : decode cX2_paint 49 = .ok (.iinc 2 1, 3) := by decide +kernel
theorem dX2_paint_52 : decode cX2_paint 52 = .ok (.goto (-22), 3) := by decide +kernel
theorem dX2_paint_55 : decode cX2_paint 55 = .ok (.return_, 1) := by decide +kernel
theorem dX2_paintBackground_0 : decode cX2_paintBackground 0 = .ok (.aload_n 1, 1) := by decide +kernel
theorem dX2_paintBackground_1 : decode cX2_paintBackground 1 = .ok (.getfield 36, 3) := by decide +kernel
theorem dX2_paintBackground_4 : decode cX2_paintBackground 4 = .ok (.sipush 1000, 3) := by decide +kernel
theorem dX2_paintBackground_7 : decode cX2_paintBackground 7 = .ok (.imul, 1) := by decide +kernel
theorem dX2_paintBackground_8 : decode cX2_paintBackground 8 = .ok (.istore_n 2, 1) := by decide +kernel
theorem dX2_paintBackground_9 : decode cX2_paintBackground 9 = .ok (.aload_n 1, 1) := by decide +kernel
theorem dX2_paintBackground_10 : decode cX2_paintBackground 10 = .ok (.invokevirtual 40, 3) := by decide +kernel
theorem dX2_paintBackground_13 : decode cX2_paintBackground 13 = .ok (.ifCond .ne 16, 3) := by decide +kernel
theorem dX2_paintBackground_16 : decode cX2_paintBackground 16 = .ok (.aload_n 0, 1) := by decide +kernel
theorem dX2_paintBackground_17 : decode cX2_paintBackground 17 = .ok (.aload_n 1, 1) := by decide +kernel
theorem dX2_paintBackground_18 : decode cX2_paintBackground 18 = .ok (.getfield 44, 3) := by decide +kernel
theorem dX2_paintBackground_21 : decode cX2_paintBackground 21 = .ok (.ldc 47, 2) := by decide +kernel
theorem dX2_paintBackground_23 : decode cX2_paintBackground 23 = .ok (.invokevirtual 48, 3) := by decide +kernel
theorem dX2_paintBackground_26 : decode cX2_paintBackground 26 = .ok (.goto 95, 3) := by decide +kernel
theorem dX2_paintBackground_29 : decode cX2_paintBackground 29 = .ok (.aload_n 1, 1) := by decide +kernel
theorem dX2_paintBackground_30 : decode cX2_paintBackground 30 = .ok (.getfield 51, 3) := by decide +kernel
theorem dX2_paintBackground_33 : decode cX2_paintBackground 33 = .ok (.iconst 2, 1) := by decide +kernel
theorem dX2_paintBackground_34 : decode cX2_paintBackground 34 = .ok (.if_icmp .eq 27, 3) := by decide +kernel
theorem dX2_paintBackground_37 : decode cX2_paintBackground 37 = .ok (.aload_n 0, 1) := by decide +kernel
theorem dX2_paintBackground_38 : decode cX2_paintBackground 38 = .ok (.aload_n 1, 1) := by decide +kernel
theorem dX2_paintBackground_39 : decode cX2_paintBackground 39 = .ok (.getfield 44, 3) := by decide +kernel
theorem dX2_paintBackground_42 : decode cX2_paintBackground 42 = .ok (.ldc 47, 2) := by decide +kernel
theorem dX2_paintBackground_44 : decode cX2_paintBackground 44 = .ok (.iload_n 2, 1) := by decide +kernel
theorem dX2_paintBackground_45 : decode cX2_paintBackground 45 = .ok (.isub, 1) := by decide +kernel
theorem dX2_paintBackground_46 : decode cX2_paintBackground 46 = .ok (.invokevirtual 48, 3) := by decide +kernel
theorem dX2_paintBackground_49 : decode cX2_paintBackground 49 = .ok (.aload_n 0, 1) := by decide +kernel
theorem dX2_paintBackground_50 : decode cX2_paintBackground 50 = .ok (.aload_n 1, 1) := by decide +kernel
theorem dX2_paintBackground_51 : decode cX2_paintBackground 51 = .ok (.getfield 54, 3) := by decide +kernel
theorem dX2_paintBackground_54 : decode cX2_paintBackground 54 = .ok (.iload_n 2, 1) := by decide +kernel
theorem dX2_paintBackground_55 : decode cX2_paintBackground 55 = .ok (.invokevirtual 48, 3) := by decide +kernel
theorem dX2_paintBackground_58 : decode cX2_paintBackground 58 = .ok (.goto 63, 3) := by decide +kernel
theorem dX2_paintBackground_61 : decode cX2_paintBackground 61 = .ok (.aload_n 1, 1) := by decide +kernel
theorem dX2_paintBackground_62 : decode cX2_paintBackground 62 = .ok (.getfield 36, 3) := by decide +kernel
theorem dX2_paintBackground_65 : decode cX2_paintBackground 65 = .ok (.sipush 500, 3) := by decide +kernel
theorem dX2_paintBackground_68 : decode cX2_paintBackground 68 = .ok (.if_icmp .gt 28, 3) := by decide +kernel
theorem dX2_paintBackground_71 : decode cX2_paintBackground 71 = .ok (.aload_n 0, 1) := by decide +kernel
theorem dX2_paintBackground_72 : decode cX2_paintBackground 72 = .ok (.aload_n 1, 1) := by decide +kernel
theorem dX2_paintBackground_73 : decode cX2_paintBackground 73 = .ok (.getfield 44, 3) := by decide +kernel
theorem dX2_paintBackground_76 : decode cX2_paintBackground 76 = .ok (.ldc 47, 2) := by decide +kernel
theorem dX2_paintBackground_78 : decode cX2_paintBackground 78 = .ok (.iconst 2, 1) := by decide +kernel
theorem dX2_paintBackground_79 : decode cX2_paintBackground 79 = .ok (.iload_n 2, 1) := by decide +kernel
theorem dX2_paintBackground_80 : decode cX2_paintBackground 80 = .ok (.imul, 1) := by decide +kernel
theorem dX2_paintBackground_81 : decode cX2_paintBackground 81 = .ok (.isub, 1) := by decide +kernel
theorem dX2_paintBackground_82 : decode cX2_paintBackground 82 = .ok (.invokevirtual 48, 3) := by decide +kernel
theorem dX2_paintBackground_85 : decode cX2_paintBackground 85 = .ok (.aload_n 0, 1) := by decide +kernel
theorem dX2_paintBackground_86 : decode cX2_paintBackground 86 = .ok (.iconst 0, 1) := by decide +kernel
theorem dX2_paintBackground_87 : decode cX2_paintBackground 87 = .ok (.iconst 2, 1) := by decide +kernel
theorem dX2_paintBackground_88 : decode cX2_paintBackground 88 = .ok (.iload_n 2, 1) := by decide +kernel
theorem dX2_paintBackground_89 : decode cX2_paintBackground 89 = .ok (.imul, 1) := by decide +kernel
theorem dX2_paintBackground_90 : decode cX2_paintBackground 90 = .ok (.invokevirtual 48, 3) := by decide +kernel
theorem dX2_paintBackground_93 : decode cX2_paintBackground 93 = .ok (.goto 28, 3) := by decide +kernel
theorem dX2_paintBackground_96 : decode cX2_paintBackground 96 = .ok (.aload_n 0, 1) := by decide +kernel
theorem dX2_paintBackground_97 : decode cX2_paintBackground 97 = .ok (.iconst 0, 1) := by decide +kernel
theorem dX2_paintBackground_98 : decode cX2_paintBackground 98 = .ok (.ldc 57, 2) := by decide +kernel
theorem dX2_paintBackground_100 : decode cX2_paintBackground 100 = .ok (.iconst 2, 1) := by decide +kernel
theorem dX2_paintBackground_101 : decode cX2_paintBackground 101 = .ok (.iload_n 2, 1) := by decide +kernel
theorem dX2_paintBackground_102 : decode cX2_paintBackground 102 = .ok (.imul, 1) := by decide +kernel
theorem dX2_paintBackground_103 : decode cX2_paintBackground 103 = .ok (.isub, 1) := by decide +kernel
theorem dX2_paintBackground_104 : decode cX2_paintBackground 104 = .ok (.invokevirtual 48, 3) := by decide +kernel
theorem dX2_paintBackground_107 : decode cX2_paintBackground 107 = .ok (.aload_n 0, 1) := by decide +kernel
theorem dX2_paintBackground_108 : decode cX2_paintBackground 108 = .ok (.aload_n 1, 1) := by decide +kernel
theorem dX2_paintBackground_109 : decode cX2_paintBackground 109 = .ok (.getfield 54, 3) := by decide +kernel
theorem dX2_paintBackground_112 : decode cX2_paintBackground 112 = .ok (.iconst 2, 1) := by decide +kernel
theorem dX2_paintBackground_113 : decode cX2_paintBackground 113 = .ok (.iload_n 2, 1) := by decide +kernel
theorem dX2_paintBackground_114 : decode cX2_paintBackground 114 = .ok (.imul, 1) := by decide +kernel
theorem dX2_paintBackground_115 : decode cX2_paintBackground 115 = .ok (.ldc 47, 2) := by decide +kernel
theorem dX2_paintBackground_117 : decode cX2_paintBackground 117 = .ok (.isub, 1) := by decide +kernel
theorem dX2_paintBackground_118 : decode cX2_paintBackground 118 = .ok (.invokevirtual 48, 3) := by decide +kernel
theorem dX2_paintBackground_121 : decode cX2_paintBackground 121 = .ok (.return_, 1) := by decide +kernel
theorem dX2_addPart_0 : decode cX2_addPart 0 = .ok (.aload_n 0, 1) := by decide +kernel
theorem dX2_addPart_1 : decode cX2_addPart 1 = .ok (.getfield 9, 3) := by decide +kernel
theorem dX2_addPart_4 : decode cX2_addPart 4 = .ok (.iload_n 1, 1) := by decide +kernel
theorem dX2_addPart_5 : decode cX2_addPart 5 = .ok (.aload_n 0, 1) := by decide +kernel
theorem dX2_addPart_6 : decode cX2_addPart 6 = .ok (.getfield 9, 3) := by decide +kernel
theorem dX2_addPart_9 : decode cX2_addPart 9 = .ok (.iload_n 1, 1) := by decide +kernel
theorem dX2_addPart_10 : decode cX2_addPart 10 = .ok (.invokestatic 58, 3) := by decide +kernel
theorem dX2_addPart_13 : decode cX2_addPart 13 = .ok (.iload_n 2, 1) := by decide +kernel
theorem dX2_addPart_14 : decode cX2_addPart 14 = .ok (.iadd, 1) := by decide +kernel
theorem dX2_addPart_15 : decode cX2_addPart 15 = .ok (.invokestatic 15, 3) := by decide +kernel
theorem dX2_addPart_18 : decode cX2_addPart 18 = .ok (.return_, 1) := by decide +kernel
theorem dX2_layOver_0 : decode cX2_layOver 0 = .ok (.iconst 0, 1) := by decide +kernel
theorem dX2_layOver_1 : decode cX2_layOver 1 = .ok (.istore_n 3, 1) := by decide +kernel
theorem dX2_layOver_2 : decode cX2_layOver 2 = .ok (.iconst 0, 1) := by decide +kernel
theorem dX2_layOver_3 : decode cX2_layOver 3 = .ok (.istore 4, 2) := by decide +kernel
theorem dX2_layOver_5 : decode cX2_layOver 5 = .ok (.iload 4, 2) := by decide +kernel
theorem dX2_layOver_7 : decode cX2_layOver 7 = .ok (.bipush 10, 2) := by decide +kernel
theorem dX2_layOver_9 : decode cX2_layOver 9 = .ok (.if_icmp .ge 43, 3) := by decide +kernel
theorem dX2_layOver_12 : decode cX2_layOver 12 = .ok (.aload_n 0, 1) := by decide +kernel
theorem dX2_layOver_13 : decode cX2_layOver 13 = .ok (.getfield 9, 3) := by decide +kernel
theorem dX2_layOver_16 : decode cX2_layOver 16 = .ok (.iload 4, 2) := by decide +kernel
theorem dX2_layOver_18 : decode cX2_layOver 18 = .ok (.invokestatic 58, 3) := by decide +kernel
theorem dX2_layOver_21 : decode cX2_layOver 21 = .ok (.i2l, 1) := by decide +kernel
theorem dX2_layOver_22 : decode cX2_layOver 22 = .ok (.iload_n 2, 1) := by decide +kernel
theorem dX2_layOver_23 : decode cX2_layOver 23 = .ok (.i2l, 1) := by decide +kernel
theorem dX2_layOver_24 : decode cX2_layOver 24 = .ok (.lmul, 1) := by decide +kernel
theorem dX2_layOver_25 : decode cX2_layOver 25 = .ok (.ldc2_w 62, 3) := by decide +kernel
theorem dX2_layOver_28 : decode cX2_layOver 28 = .ok (.ldiv, 1) := by decide +kernel
theorem dX2_layOver_29 : decode cX2_layOver 29 = .ok (.l2i, 1) := by decide +kernel
theorem dX2_layOver_30 : decode cX2_layOver 30 = .ok (.istore 5, 2) := by decide +kernel
theorem dX2_layOver_32 : decode cX2_layOver 32 = .ok (.aload_n 0, 1) := by decide +kernel
theorem dX2_layOver_33 : decode cX2_layOver 33 = .ok (.iload 4, 2) := by decide +kernel
theorem dX2_layOver_35 : decode cX2_layOver 35 = .ok (.iload 5, 2) := by decide +kernel
theorem dX2_layOver_37 : decode cX2_layOver 37 = .ok (.ineg, 1) := by decide +kernel
theorem dX2_layOver_38 : decode cX2_layOver 38 = .ok (.invokevirtual 48, 3) := by decide +kernel
theorem dX2_layOver_41 : decode cX2_layOver 41 = .ok (.iload_n 3, 1) := by decide +kernel
theorem dX2_layOver_42 : decode cX2_layOver 42 = .ok (.iload 5, 2) := by decide +kernel
theorem dX2_layOver_44 : decode cX2_layOver 44 = .ok (.iadd, 1) := by decide +kernel
theorem dX2_layOver_45 : decode cX2_layOver 45 = .ok (.istore_n 3, 1) := by decide +kernel
theorem dX2_layOver_46 : decode cX2_layOver 46 = .ok (.iinc 4 1, 3) := by decide +kernel
theorem dX2_layOver_49 : decode cX2_layOver 49 = .ok (.goto (-44), 3) := by decide +kernel
theorem dX2_layOver_52 : decode cX2_layOver 52 = .ok (.aload_n 0, 1) := by decide +kernel
theorem dX2_layOver_53 : decode cX2_layOver 53 = .ok (.iload_n 1, 1) := by decide +kernel
theorem dX2_layOver_54 : decode cX2_layOver 54 = .ok (.iload_n 3, 1) := by decide +kernel
theorem dX2_layOver_55 : decode cX2_layOver 55 = .ok (.invokevirtual 48, 3) := by decide +kernel
theorem dX2_layOver_58 : decode cX2_layOver 58 = .ok (.return_, 1) := by decide +kernel
theorem dX2_partOf_0 : decode cX2_partOf 0 = .ok (.aload_n 0, 1) := by decide +kernel
theorem dX2_partOf_1 : decode cX2_partOf 1 = .ok (.getfield 9, 3) := by decide +kernel
theorem dX2_partOf_4 : decode cX2_partOf 4 = .ok (.iload_n 1, 1) := by decide +kernel
theorem dX2_partOf_5 : decode cX2_partOf 5 = .ok (.invokestatic 58, 3) := by decide +kernel
theorem dX2_partOf_8 : decode cX2_partOf 8 = .ok (.ireturn, 1) := by decide +kernel
theorem dX2_seenOf_0 : decode cX2_seenOf 0 = .ok (.iload_n 1, 1) := by decide +kernel
theorem dX2_seenOf_1 : decode cX2_seenOf 1 = .ok (.ifCond .ne 15, 3) := by decide +kernel
theorem dX2_seenOf_4 : decode cX2_seenOf 4 = .ok (.aload_n 0, 1) := by decide +kernel
theorem dX2_seenOf_5 : decode cX2_seenOf 5 = .ok (.iconst 0, 1) := by decide +kernel
theorem dX2_seenOf_6 : decode cX2_seenOf 6 = .ok (.invokevirtual 64, 3) := by decide +kernel
theorem dX2_seenOf_9 : decode cX2_seenOf 9 = .ok (.aload_n 0, 1) := by decide +kernel
theorem dX2_seenOf_10 : decode cX2_seenOf 10 = .ok (.iload_n 2, 1) := by decide +kernel
theorem dX2_seenOf_11 : decode cX2_seenOf 11 = .ok (.invokevirtual 67, 3) := by decide +kernel
theorem dX2_seenOf_14 : decode cX2_seenOf 14 = .ok (.iadd, 1) := by decide +kernel
theorem dX2_seenOf_15 : decode cX2_seenOf 15 = .ok (.ireturn, 1) := by decide +kernel
theorem dX2_seenOf_16 : decode cX2_seenOf 16 = .ok (.iload_n 2, 1) := by decide +kernel
theorem dX2_seenOf_17 : decode cX2_seenOf 17 = .ok (.iload_n 1, 1) := by decide +kernel
theorem dX2_seenOf_18 : decode cX2_seenOf 18 = .ok (.invokestatic 70, 3) := by decide +kernel
theorem dX2_seenOf_21 : decode cX2_seenOf 21 = .ok (.ifCond .eq 7, 3) := by decide +kernel
theorem dX2_seenOf_24 : decode cX2_seenOf 24 = .ok (.iconst 0, 1) := by decide +kernel
theorem dX2_seenOf_25 : decode cX2_seenOf 25 = .ok (.goto 8, 3) := by decide +kernel
theorem dX2_seenOf_28 : decode cX2_seenOf 28 = .ok (.aload_n 0, 1) := by decide +kernel
theorem dX2_seenOf_29 : decode cX2_seenOf 29 = .ok (.iload_n 1, 1) := by decide +kernel
theorem dX2_seenOf_30 : decode cX2_seenOf 30 = .ok (.invokevirtual 64, 3) := by decide +kernel
theorem dX2_seenOf_33 : decode cX2_seenOf 33 = .ok (.ireturn, 1) := by decide +kernel
theorem dX2_faultyParts_0 : decode cX2_faultyParts 0 = .ok (.iconst 0, 1) := by decide +kernel
theorem dX2_faultyParts_1 : decode cX2_faultyParts 1 = .ok (.istore_n 2, 1) := by decide +kernel
theorem dX2_faultyParts_2 : decode cX2_faultyParts 2 = .ok (.iconst 0, 1) := by decide +kernel
theorem dX2_faultyParts_3 : decode cX2_faultyParts 3 = .ok (.istore_n 3, 1) := by decide +kernel
theorem dX2_faultyParts_4 : decode cX2_faultyParts 4 = .ok (.iload_n 3, 1) := by decide +kernel
theorem dX2_faultyParts_5 : decode cX2_faultyParts 5 = .ok (.bipush 10, 2) := by decide +kernel
theorem dX2_faultyParts_7 : decode cX2_faultyParts 7 = .ok (.if_icmp .ge 25, 3) := by decide +kernel
theorem dX2_faultyParts_10 : decode cX2_faultyParts 10 = .ok (.iload_n 1, 1) := by decide +kernel
theorem dX2_faultyParts_11 : decode cX2_faultyParts 11 = .ok (.iload_n 3, 1) := by decide +kernel
theorem dX2_faultyParts_12 : decode cX2_faultyParts 12 = .ok (.invokestatic 70, 3) := by decide +kernel
theorem dX2_faultyParts_15 : decode cX2_faultyParts 15 = .ok (.ifCond .eq 11, 3) := by decide +kernel
theorem dX2_faultyParts_18 : decode cX2_faultyParts 18 = .ok (.iload_n 2, 1) := by decide +kernel
theorem dX2_faultyParts_19 : decode cX2_faultyParts 19 = .ok (.aload_n 0, 1) := by decide +kernel
theorem dX2_faultyParts_20 : decode cX2_faultyParts 20 = .ok (.iload_n 3, 1) := by decide +kernel
theorem dX2_faultyParts_21 : decode cX2_faultyParts 21 = .ok (.invokevirtual 64, 3) := by decide +kernel
theorem dX2_faultyParts_24 : decode cX2_faultyParts 24 = .ok (.iadd, 1) := by decide +kernel
theorem dX2_faultyParts_25 : decode cX2_faultyParts 25 = .ok (.istore_n 2, 1) := by decide +kernel
theorem dX2_faultyParts_26 : decode cX2_faultyParts 26 = .ok (.iinc 3 1, 3) := by decide +kernel
theorem dX2_faultyParts_29 : decode cX2_faultyParts 29 = .ok (.goto (-25), 3) := by decide +kernel
theorem dX2_faultyParts_32 : decode cX2_faultyParts 32 = .ok (.iload_n 2, 1) := by decide +kernel
theorem dX2_faultyParts_33 : decode cX2_faultyParts 33 = .ok (.ireturn, 1) := by decide +kernel
theorem dX2_reds_0 : decode cX2_reds 0 = .ok (.iconst 0, 1) := by decide +kernel
theorem dX2_reds_1 : decode cX2_reds 1 = .ok (.istore_n 1, 1) := by decide +kernel
theorem dX2_reds_2 : decode cX2_reds 2 = .ok (.iconst 0, 1) := by decide +kernel
theorem dX2_reds_3 : decode cX2_reds 3 = .ok (.istore_n 2, 1) := by decide +kernel
theorem dX2_reds_4 : decode cX2_reds 4 = .ok (.iload_n 2, 1) := by decide +kernel
theorem dX2_reds_5 : decode cX2_reds 5 = .ok (.bipush 10, 2) := by decide +kernel
theorem dX2_reds_7 : decode cX2_reds 7 = .ok (.if_icmp .ge 23, 3) := by decide +kernel
theorem dX2_reds_10 : decode cX2_reds 10 = .ok (.aload_n 0, 1) := by decide +kernel
theorem dX2_reds_11 : decode cX2_reds 11 = .ok (.iload_n 2, 1) := by decide +kernel
theorem dX2_reds_12 : decode cX2_reds 12 = .ok (.invokevirtual 64, 3) := by decide +kernel
theorem dX2_reds_15 : decode cX2_reds 15 = .ok (.ifCond .le 9, 3) := by decide +kernel
theorem dX2_reds_18 : decode cX2_reds 18 = .ok (.iload_n 1, 1) := by decide +kernel
theorem dX2_reds_19 : decode cX2_reds 19 = .ok (.iconst 1, 1) := by decide +kernel
theorem dX2_reds_20 : decode cX2_reds 20 = .ok (.iload_n 2, 1) := by decide +kernel
theorem dX2_reds_21 : decode cX2_reds 21 = .ok (.ishl, 1) := by decide +kernel
theorem dX2_reds_22 : decode cX2_reds 22 = .ok (.ior, 1) := by decide +kernel
theorem dX2_reds_23 : decode cX2_reds 23 = .ok (.istore_n 1, 1) := by decide +kernel
theorem dX2_reds_24 : decode cX2_reds 24 = .ok (.iinc 2 1, 3) := by decide +kernel
theorem dX2_reds_27 : decode cX2_reds 27 = .ok (.goto (-23), 3) := by decide +kernel
theorem dX2_reds_30 : decode cX2_reds 30 = .ok (.iload_n 1, 1) := by decide +kernel
theorem dX2_reds_31 : decode cX2_reds 31 = .ok (.ireturn, 1) := by decide +kernel
theorem dX2_sameParts_0 : decode cX2_sameParts 0 = .ok (.iconst 0, 1) := by decide +kernel
theorem dX2_sameParts_1 : decode cX2_sameParts 1 = .ok (.istore_n 2, 1) := by decide +kernel
theorem dX2_sameParts_2 : decode cX2_sameParts 2 = .ok (.iload_n 2, 1) := by decide +kernel
theorem dX2_sameParts_3 : decode cX2_sameParts 3 = .ok (.bipush 10, 2) := by decide +kernel
theorem dX2_sameParts_5 : decode cX2_sameParts 5 = .ok (.if_icmp .ge 24, 3) := by decide +kernel
theorem dX2_sameParts_8 : decode cX2_sameParts 8 = .ok (.aload_n 0, 1) := by decide +kernel
theorem dX2_sameParts_9 : decode cX2_sameParts 9 = .ok (.iload_n 2, 1) := by decide +kernel
theorem dX2_sameParts_10 : decode cX2_sameParts 10 = .ok (.invokevirtual 64, 3) := by decide +kernel
theorem dX2_sameParts_13 : decode cX2_sameParts 13 = .ok (.aload_n 1, 1) := by decide +kernel
theorem dX2_sameParts_14 : decode cX2_sameParts 14 = .ok (.iload_n 2, 1) := by decide +kernel
theorem dX2_sameParts_15 : decode cX2_sameParts 15 = .ok (.invokevirtual 64, 3) := by decide +kernel
theorem dX2_sameParts_18 : decode cX2_sameParts 18 = .ok (.if_icmp .eq 5, 3) := by decide +kernel
theorem dX2_sameParts_21 : decode cX2_sameParts 21 = .ok (.iconst 0, 1) := by decide +kernel
theorem dX2_sameParts_22 : decode cX2_sameParts 22 = .ok (.ireturn, 1) := by decide +kernel
theorem dX2_sameParts_23 : decode cX2_sameParts 23 = .ok (.iinc 2 1, 3) := by decide +kernel
theorem dX2_sameParts_26 : decode cX2_sameParts 26 = .ok (.goto (-24), 3) := by decide +kernel
theorem dX2_sameParts_29 : decode cX2_sameParts 29 = .ok (.iconst 1, 1) := by decide +kernel
theorem dX2_sameParts_30 : decode cX2_sameParts 30 = .ok (.ireturn, 1) := by decide +kernel

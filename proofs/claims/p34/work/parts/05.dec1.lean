theorem dX3_init_0 : decode cX3_init 0 = .ok (.aload_n 0, 1) := by decide +kernel
theorem dX3_init_1 : decode cX3_init 1 = .ok (.invokespecial 3, 3) := by decide +kernel
theorem dX3_init_4 : decode cX3_init 4 = .ok (.aload_n 0, 1) := by decide +kernel
theorem dX3_init_5 : decode cX3_init 5 = .ok (.new 9, 3) := by decide +kernel
theorem dX3_init_8 : decode cX3_init 8 = .ok (.dup, 1) := by decide +kernel
theorem dX3_init_9 : decode cX3_init 9 = .ok (.invokespecial 11, 3) := by decide +kernel
theorem dX3_init_12 : decode cX3_init 12 = .ok (.putfield 12, 3) := by decide +kernel
theorem dX3_init_15 : decode cX3_init 15 = .ok (.return_, 1) := by decide +kernel
theorem dX3_begin_0 : decode cX3_begin 0 = .ok (.aload_n 0, 1) := by decide +kernel
theorem dX3_begin_1 : decode cX3_begin 1 = .ok (.getfield 12, 3) := by decide +kernel
theorem dX3_begin_4 : decode cX3_begin 4 = .ok (.invokevirtual 18, 3) := by decide +kernel
theorem dX3_begin_7 : decode cX3_begin 7 = .ok (.aload_n 0, 1) := by decide +kernel
theorem dX3_begin_8 : decode cX3_begin 8 = .ok (.iconst 0, 1) := by decide +kernel
theorem dX3_begin_9 : decode cX3_begin 9 = .ok (.putfield 21, 3) := by decide +kernel
theorem dX3_begin_12 : decode cX3_begin 12 = .ok (.return_, 1) := by decide +kernel
theorem dX3_goTo_0 : decode cX3_goTo 0 = .ok (.aload_n 0, 1) := by decide +kernel
theorem dX3_goTo_1 : decode cX3_goTo 1 = .ok (.getfield 21, 3) := by decide +kernel
theorem dX3_goTo_4 : decode cX3_goTo 4 = .ok (.aload_n 1, 1) := by decide +kernel
theorem dX3_goTo_5 : decode cX3_goTo 5 = .ok (.invokevirtual 25, 3) := by decide +kernel
theorem dX3_goTo_8 : decode cX3_goTo 8 = .ok (.if_icmp .ge 71, 3) := by decide +kernel
theorem dX3_goTo_11 : decode cX3_goTo 11 = .ok (.aload_n 1, 1) := by decide +kernel
theorem dX3_goTo_12 : decode cX3_goTo 12 = .ok (.aload_n 0, 1) := by decide +kernel
theorem dX3_goTo_13 : decode cX3_goTo 13 = .ok (.getfield 21, 3) := by decide +kernel
theorem dX3_goTo_16 : decode cX3_goTo 16 = .ok (.invokevirtual 31, 3) := by decide +kernel
theorem dX3_goTo_19 : decode cX3_goTo 19 = .ok (.iload_n 2, 1) := by decide +kernel
theorem dX3_goTo_20 : decode cX3_goTo 20 = .ok (.if_icmp .gt 59, 3) := by decide +kernel
theorem dX3_goTo_23 : decode cX3_goTo 23 = .ok (.aload_n 0, 1) := by decide +kernel
theorem dX3_goTo_24 : decode cX3_goTo 24 = .ok (.getfield 21, 3) := by decide +kernel
theorem dX3_goTo_27 : decode cX3_goTo 27 = .ok (.iload_n 3, 1) := by decide +kernel
theorem dX3_goTo_28 : decode cX3_goTo 28 = .ok (.if_icmp .eq 38, 3) := by decide +kernel
theorem dX3_goTo_31 : decode cX3_goTo 31 = .ok (.aload_n 0, 1) := by decide +kernel
theorem dX3_goTo_32 : decode cX3_goTo 32 = .ok (.getfield 12, 3) := by decide +kernel
theorem dX3_goTo_35 : decode cX3_goTo 35 = .ok (.aload_n 1, 1) := by decide +kernel
theorem dX3_goTo_36 : decode cX3_goTo 36 = .ok (.aload_n 0, 1) := by decide +kernel
theorem dX3_goTo_37 : decode cX3_goTo 37 = .ok (.getfield 21, 3) := by decide +kernel
theorem dX3_goTo_40 : decode cX3_goTo 40 = .ok (.invokevirtual 31, 3) := by decide +kernel
theorem dX3_goTo_43 : decode cX3_goTo 43 = .ok (.aload_n 0, 1) := by decide +kernel
theorem dX3_goTo_44 : decode cX3_goTo 44 = .ok (.getfield 12, 3) := by decide +kernel
theorem dX3_goTo_47 : decode cX3_goTo 47 = .ok (.getfield 35, 3) := by decide +kernel
theorem dX3_goTo_50 : decode cX3_goTo 50 = .ok (.isub, 1) := by decide +kernel
theorem dX3_goTo_51 : decode cX3_goTo 51 = .ok (.invokevirtual 38, 3) := by decide +kernel
theorem dX3_goTo_54 : decode cX3_goTo 54 = .ok (.aload_n 1, 1) := by decide +kernel
theorem dX3_goTo_55 : decode cX3_goTo 55 = .ok (.aload_n 0, 1) := by decide +kernel
theorem dX3_goTo_56 : decode cX3_goTo 56 = .ok (.getfield 21, 3) := by decide +kernel
theorem dX3_goTo_59 : decode cX3_goTo 59 = .ok (.aload_n 0, 1) := by decide +kernel
theorem dX3_goTo_60 : decode cX3_goTo 60 = .ok (.getfield 12, 3) := by decide +kernel
theorem dX3_goTo_63 : decode cX3_goTo 63 = .ok (.invokevirtual 42, 3) := by decide +kernel
theorem dX3_goTo_66 : decode cX3_goTo 66 = .ok (.aload_n 0, 1) := by decide +kernel
theorem dX3_goTo_67 : decode cX3_goTo 67 = .ok (.dup, 1) := by decide +kernel
theorem dX3_goTo_68 : decode cX3_goTo 68 = .ok (.getfield 21, 3) := by decide +kernel
theorem dX3_goTo_71 : decode cX3_goTo 71 = .ok (.iconst 1, 1) := by decide +kernel
theorem dX3_goTo_72 : decode cX3_goTo 72 = .ok (.iadd, 1) := by decide +kernel
theorem dX3_goTo_73 : decode cX3_goTo 73 = .ok (.putfield 21, 3) := by decide +kernel
theorem dX3_goTo_76 : decode cX3_goTo 76 = .ok (.goto (-76), 3) := by decide +kernel
theorem dX3_goTo_79 : decode cX3_goTo 79 = .ok (.aload_n 0, 1) := by decide +kernel
theorem dX3_goTo_80 : decode cX3_goTo 80 = .ok (.getfield 12, 3) := by decide +kernel
theorem dX3_goTo_83 : decode cX3_goTo 83 = .ok (.iload_n 2, 1) := by decide +kernel
theorem dX3_goTo_84 : decode cX3_goTo 84 = .ok (.aload_n 0, 1) := by decide +kernel
theorem dX3_goTo_85 : decode cX3_goTo 85 = .ok (.getfield 12, 3) := by decide +kernel
theorem dX3_goTo_88 : decode cX3_goTo 88 = .ok (.getfield 35, 3) := by decide +kernel
theorem dX3_goTo_91 : decode cX3_goTo 91 = .ok (.isub, 1) := by decide +kernel
theorem dX3_goTo_92 : decode cX3_goTo 92 = .ok (.invokevirtual 38, 3) := by decide +kernel
theorem dX3_goTo_95 : decode cX3_goTo 95 = .ok (.return_, 1) := by decide +kernel
theorem dX3_sameTimes_0 : decode cX3_sameTimes 0 = .ok (.aload_n 0, 1) := by decide +kernel
theorem dX3_sameTimes_1 : decode cX3_sameTimes 1 = .ok (.getfield 12, 3) := by decide +kernel
theorem dX3_sameTimes_4 : decode cX3_sameTimes 4 = .ok (.getfield 46, 3) := by decide +kernel
theorem dX3_sameTimes_7 : decode cX3_sameTimes 7 = .ok (.iconst (-1), 1) := by decide +kernel
theorem dX3_sameTimes_8 : decode cX3_sameTimes 8 = .ok (.if_icmp .eq 5, 3) := by decide +kernel
theorem dX3_sameTimes_11 : decode cX3_sameTimes 11 = .ok (.iconst 1, 1) := by decide +kernel
theorem dX3_sameTimes_12 : decode cX3_sameTimes 12 = .ok (.ireturn, 1) := by decide +kernel
theorem dX3_sameTimes_13 : decode cX3_sameTimes 13 = .ok (.iload_n 2, 1) := by decide +kernel
theorem dX3_sameTimes_14 : decode cX3_sameTimes 14 = .ok (.iconst 1, 1) := by decide +kernel
theorem dX3_sameTimes_15 : decode cX3_sameTimes 15 = .ok (.iadd, 1) := by decide +kernel
theorem dX3_sameTimes_16 : decode cX3_sameTimes 16 = .ok (.istore_n 3, 1) := by decide +kernel
theorem dX3_sameTimes_17 : decode cX3_sameTimes 17 = .ok (.aload_n 0, 1) := by decide +kernel
theorem dX3_sameTimes_18 : decode cX3_sameTimes 18 = .ok (.getfield 21, 3) := by decide +kernel
theorem dX3_sameTimes_21 : decode cX3_sameTimes 21 = .ok (.aload_n 1, 1) := by decide +kernel
theorem dX3_sameTimes_22 : decode cX3_sameTimes 22 = .ok (.invokevirtual 25, 3) := by decide +kernel
theorem dX3_sameTimes_25 : decode cX3_sameTimes 25 = .ok (.if_icmp .ge 16, 3) := by decide +kernel
theorem dX3_sameTimes_28 : decode cX3_sameTimes 28 = .ok (.iload_n 3, 1) := by decide +kernel
theorem dX3_sameTimes_29 : decode cX3_sameTimes 29 = .ok (.aload_n 1, 1) := by decide +kernel
theorem dX3_sameTimes_30 : decode cX3_sameTimes 30 = .ok (.aload_n 0, 1) := by decide +kernel
theorem dX3_sameTimes_31 : decode cX3_sameTimes 31 = .ok (.getfield 21, 3) := by decide +kernel
theorem dX3_sameTimes_34 : decode cX3_sameTimes 34 = .ok (.invokevirtual 31, 3) := by decide +kernel
theorem dX3_sameTimes_37 : decode cX3_sameTimes 37 = .ok (.invokestatic 49, 3) := by decide +kernel
theorem dX3_sameTimes_40 : decode cX3_sameTimes 40 = .ok (.istore_n 3, 1) := by decide +kernel
theorem dX3_sameTimes_41 : decode cX3_sameTimes 41 = .ok (.iload_n 3, 1) := by decide +kernel
theorem dX3_sameTimes_42 : decode cX3_sameTimes 42 = .ok (.aload_n 0, 1) := by decide +kernel
theorem dX3_sameTimes_43 : decode cX3_sameTimes 43 = .ok (.getfield 12, 3) := by decide +kernel
theorem dX3_sameTimes_46 : decode cX3_sameTimes 46 = .ok (.getfield 35, 3) := by decide +kernel
theorem dX3_sameTimes_49 : decode cX3_sameTimes 49 = .ok (.isub, 1) := by decide +kernel
theorem dX3_sameTimes_50 : decode cX3_sameTimes 50 = .ok (.ireturn, 1) := by decide +kernel
theorem dX4_init_0 : decode cX4_init 0 = .ok (.aload_n 0, 1) := by decide +kernel
theorem dX4_init_1 : decode cX4_init 1 = .ok (.invokespecial 3, 3) := by decide +kernel
theorem dX4_init_4 : decode cX4_init 4 = .ok (.aload_n 0, 1) := by decide +kernel
theorem dX4_init_5 : decode cX4_init 5 = .ok (.bipush 120, 2) := by decide +kernel
theorem dX4_init_7 : decode cX4_init 7 = .ok (.newarray .int, 2) := by decide +kernel
theorem dX4_init_9 : decode cX4_init 9 = .ok (.putfield 11, 3) := by decide +kernel
theorem dX4_init_12 : decode cX4_init 12 = .ok (.aload_n 0, 1) := by decide +kernel
theorem dX4_init_13 : decode cX4_init 13 = .ok (.sipush 180, 3) := by decide +kernel
theorem dX4_init_16 : decode cX4_init 16 = .ok (.newarray .int, 2) := by decide +kernel
theorem dX4_init_18 : decode cX4_init 18 = .ok (.putfield 15, 3) := by decide +kernel
theorem dX4_init_21 : decode cX4_init 21 = .ok (.return_, 1) := by decide +kernel
theorem dX4_size_0 : decode cX4_size 0 = .ok (.aload_n 0, 1) := by decide +kernel
theorem dX4_size_1 : decode cX4_size 1 = .ok (.getfield 18, 3) := by decide +kernel
theorem dX4_size_4 : decode cX4_size 4 = .ok (.ireturn, 1) := by decide +kernel
theorem dX5_init_0 : decode cX5_init 0 = .ok (.aload_n 0, 1) := by decide +kernel
theorem dX5_init_1 : decode cX5_init 1 = .ok (.invokespecial 1, 3) := by decide +kernel
theorem dX5_init_4 : decode cX5_init 4 = .ok (.aload_n 0, 1) := by decide +kernel
theorem dX5_init_5 : decode cX5_init 5 = .ok (.new 7, 3) := by decide +kernel
theorem dX5_init_8 : decode cX5_init 8 = .ok (.dup, 1) := by decide +kernel
theorem dX5_init_9 : decode cX5_init 9 = .ok (.invokespecial 9, 3) := by decide +kernel
theorem dX5_init_12 : decode cX5_init 12 = .ok (.putfield 10, 3) := by decide +kernel
theorem dX5_init_15 : decode cX5_init 15 = .ok (.aload_n 0, 1) := by decide +kernel
theorem dX5_init_16 : decode cX5_init 16 = .ok (.new 7, 3) := by decide +kernel
theorem dX5_init_19 : decode cX5_init 19 = .ok (.dup, 1) := by decide +kernel
theorem dX5_init_20 : decode cX5_init 20 = .ok (.invokespecial 9, 3) := by decide +kernel
theorem dX5_init_23 : decode cX5_init 23 = .ok (.putfield 16, 3) := by decide +kernel
theorem dX5_init_26 : decode cX5_init 26 = .ok (.aload_n 0, 1) := by decide +kernel
theorem dX5_init_27 : decode cX5_init 27 = .ok (.new 7, 3) := by decide +kernel
theorem dX5_init_30 : decode cX5_init 30 = .ok (.dup, 1) := by decide +kernel
theorem dX5_init_31 : decode cX5_init 31 = .ok (.invokespecial 9, 3) := by decide +kernel
theorem dX5_init_34 : decode cX5_init 34 = .ok (.putfield 19, 3) := by decide +kernel
theorem dX5_init_37 : decode cX5_init 37 = .ok (.aload_n 0, 1) := by decide +kernel
theorem dX5_init_38 : decode cX5_init 38 = .ok (.new 22, 3) := by decide +kernel
theorem dX5_init_41 : decode cX5_init 41 = .ok (.dup, 1) := by decide +kernel
theorem dX5_init_42 : decode cX5_init 42 = .ok (.invokespecial 24, 3) := by decide +kernel
theorem dX5_init_45 : decode cX5_init 45 = .ok (.putfield 25, 3) := by decide +kernel
theorem dX5_init_48 : decode cX5_init 48 = .ok (.aload_n 0, 1) := by decide +kernel
theorem dX5_init_49 : decode cX5_init 49 = .ok (.new 29, 3) := by decide +kernel
theorem dX5_init_52 : decode cX5_init 52 = .ok (.dup, 1) := by decide +kernel
theorem dX5_init_53 : decode cX5_init 53 = .ok (.invokespecial 31, 3) := by decide +kernel
theorem dX5_init_56 : decode cX5_init 56 = .ok (.putfield 32, 3) := by decide +kernel
theorem dX5_init_59 : decode cX5_init 59 = .ok (.aload_n 0, 1) := by decide +kernel
theorem dX5_init_60 : decode cX5_init 60 = .ok (.new 36, 3) := by decide +kernel
theorem dX5_init_63 : decode cX5_init 63 = .ok (.dup, 1) := by decide +kernel
theorem dX5_init_64 : decode cX5_init 64 = .ok (.invokespecial 38, 3) := by decide +kernel
theorem dX5_init_67 : decode cX5_init 67 = .ok (.putfield 39, 3) := by decide +kernel
theorem dX5_init_70 : decode cX5_init 70 = .ok (.aload_n 0, 1) := by decide +kernel
theorem dX5_init_71 : decode cX5_init 71 = .ok (.new 36, 3) := by decide +kernel
theorem dX5_init_74 : decode cX5_init 74 = .ok (.dup, 1) := by decide +kernel
theorem dX5_init_75 : decode cX5_init 75 = .ok (.invokespecial 38, 3) := by decide +kernel
theorem dX5_init_78 : decode cX5_init 78 = .ok (.putfield 43, 3) := by decide +kernel
theorem dX5_init_81 : decode cX5_init 81 = .ok (.aload_n 0, 1) := by decide +kernel
theorem dX5_init_82 : decode cX5_init 82 = .ok (.new 46, 3) := by decide +kernel
theorem dX5_init_85 : decode cX5_init 85 = .ok (.dup, 1) := by decide +kernel
theorem dX5_init_86 : decode cX5_init 86 = .ok (.invokespecial 48, 3) := by decide +kernel
theorem dX5_init_89 : decode cX5_init 89 = .ok (.putfield 49, 3) := by decide +kernel
theorem dX5_init_92 : decode cX5_init 92 = .ok (.return_, 1) := by decide +kernel
theorem dX5_program_0 : decode cX5_program 0 = .ok (.iload_n 1, 1) := by decide +kernel
theorem dX5_program_1 : decode cX5_program 1 = .ok (.invokestatic 53, 3) := by decide +kernel
theorem dX5_program_4 : decode cX5_program 4 = .ok (.aload_n 0, 1) := by decide +kernel
theorem dX5_program_5 : decode cX5_program 5 = .ok (.iconst 0, 1) := by decide +kernel
theorem dX5_program_6 : decode cX5_program 6 = .ok (.iload_n 1, 1) := by decide +kernel
theorem dX5_program_7 : decode cX5_program 7 = .ok (.iconst (-1), 1) := by decide +kernel
theorem dX5_program_8 : decode cX5_program 8 = .ok (.iconst (-1), 1) := by decide +kernel
theorem dX5_program_9 : decode cX5_program 9 = .ok (.iconst (-1), 1) := by decide +kernel
theorem dX5_program_10 : decode cX5_program 10 = .ok (.invokevirtual 57, 3) := by decide +kernel
theorem dX5_program_13 : decode cX5_program 13 = .ok (.ireturn, 1) := by decide +kernel
theorem dX5_preview_0 : decode cX5_preview 0 = .ok (.iload_n 1, 1) := by decide +kernel
theorem dX5_preview_1 : decode cX5_preview 1 = .ok (.invokestatic 53, 3) := by decide +kernel
theorem dX5_preview_4 : decode cX5_preview 4 = .ok (.aload_n 0, 1) := by decide +kernel
theorem dX5_preview_5 : decode cX5_preview 5 = .ok (.iconst 1, 1) := by decide +kernel
theorem dX5_preview_6 : decode cX5_preview 6 = .ok (.iload_n 1, 1) := by decide +kernel
theorem dX5_preview_7 : decode cX5_preview 7 = .ok (.iconst (-1), 1) := by decide +kernel
theorem dX5_preview_8 : decode cX5_preview 8 = .ok (.iconst (-1), 1) := by decide +kernel
theorem dX5_preview_9 : decode cX5_preview 9 = .ok (.iconst (-1), 1) := by decide +kernel
theorem dX5_preview_10 : decode cX5_preview 10 = .ok (.invokevirtual 57, 3) := by decide +kernel
theorem dX5_preview_13 : decode cX5_preview 13 = .ok (.ireturn, 1) := by decide +kernel
theorem dX5_transition_0 : decode cX5_transition 0 = .ok (.iload_n 1, 1) := by decide +kernel
theorem dX5_transition_1 : decode cX5_transition 1 = .ok (.iconst 0, 1) := by decide +kernel
theorem dX5_transition_2 : decode cX5_transition 2 = .ok (.iconst 2, 1) := by decide +kernel
theorem dX5_transition_3 : decode cX5_transition 3 = .ok (.invokestatic 61, 3) := by decide +kernel
theorem dX5_transition_6 : decode cX5_transition 6 = .ok (.iload_n 2, 1) := by decide +kernel
theorem dX5_transition_7 : decode cX5_transition 7 = .ok (.iconst 1, 1) := by decide +kernel
theorem dX5_transition_8 : decode cX5_transition 8 = .ok (.bipush 100, 2) := by decide +kernel
theorem dX5_transition_10 : decode cX5_transition 10 = .ok (.invokestatic 61, 3) := by decide +kernel
theorem dX5_transition_13 : decode cX5_transition 13 = .ok (.aload_n 0, 1) := by decide +kernel
theorem dX5_transition_14 : decode cX5_transition 14 = .ok (.iconst 2, 1) := by decide +kernel
theorem dX5_transition_15 : decode cX5_transition 15 = .ok (.iload_n 1, 1) := by decide +kernel
theorem dX5_transition_16 : decode cX5_transition 16 = .ok (.iload_n 2, 1) := by decide +kernel
theorem dX5_transition_17 : decode cX5_transition 17 = .ok (.iconst (-1), 1) := by decide +kernel
theorem dX5_transition_18 : decode cX5_transition 18 = .ok (.iconst (-1), 1) := by decide +kernel
theorem dX5_transition_19 : decode cX5_transition 19 = .ok (.invokevirtual 57, 3) := by decide +kernel
theorem dX5_transition_22 : decode cX5_transition 22 = .ok (.ireturn, 1) := by decide +kernel
theorem dX5_next_0 : decode cX5_next 0 = .ok (.iload_n 1, 1) := by decide +kernel
theorem dX5_next_1 : decode cX5_next 1 = .ok (.iconst 0, 1) := by decide +kernel
theorem dX5_next_2 : decode cX5_next 2 = .ok (.bipush 15, 2) := by decide +kernel
theorem dX5_next_4 : decode cX5_next 4 = .ok (.invokestatic 61, 3) := by decide +kernel
theorem dX5_next_7 : decode cX5_next 7 = .ok (.aload_n 0, 1) := by decide +kernel
theorem dX5_next_8 : decode cX5_next 8 = .ok (.iconst 3, 1) := by decide +kernel
theorem dX5_next_9 : decode cX5_next 9 = .ok (.iload_n 1, 1) := by decide +kernel
theorem dX5_next_10 : decode cX5_next 10 = .ok (.iconst (-1), 1) := by decide +kernel
theorem dX5_next_11 : decode cX5_next 11 = .ok (.iconst (-1), 1) := by decide +kernel
theorem dX5_next_12 : decode cX5_next 12 = .ok (.iconst (-1), 1) := by decide +kernel
theorem dX5_next_13 : decode cX5_next 13 = .ok (.invokevirtual 57, 3) := by decide +kernel
theorem dX5_next_16 : decode cX5_next 16 = .ok (.ireturn, 1) := by decide +kernel
theorem dX5_key_0 : decode cX5_key 0 = .ok (.iload_n 1, 1) := by decide +kernel
theorem dX5_key_1 : decode cX5_key 1 = .ok (.invokestatic 65, 3) := by decide +kernel
theorem dX5_key_4 : decode cX5_key 4 = .ok (.iload_n 2, 1) := by decide +kernel
theorem dX5_key_5 : decode cX5_key 5 = .ok (.invokestatic 53, 3) := by decide +kernel
theorem dX5_key_8 : decode cX5_key 8 = .ok (.iload_n 3, 1) := by decide +kernel
theorem dX5_key_9 : decode cX5_key 9 = .ok (.iconst 0, 1) := by decide +kernel
theorem dX5_key_10 : decode cX5_key 10 = .ok (.bipush 100, 2) := by decide +kernel
theorem dX5_key_12 : decode cX5_key 12 = .ok (.invokestatic 61, 3) := by decide +kernel
theorem dX5_key_15 : decode cX5_key 15 = .ok (.iload 4, 2) := by decide +kernel
theorem dX5_key_17 : decode cX5_key 17 = .ok (.iconst 1, 1) := by decide +kernel
theorem dX5_key_18 : decode cX5_key 18 = .ok (.bipush 100, 2) := by decide +kernel
theorem dX5_key_20 : decode cX5_key 20 = .ok (.invokestatic 61, 3) := by decide +kernel
theorem dX5_key_23 : decode cX5_key 23 = .ok (.aload_n 0, 1) := by decide +kernel
theorem dX5_key_24 : decode cX5_key 24 = .ok (.iconst 4, 1) := by decide +kernel
theorem dX5_key_25 : decode cX5_key 25 = .ok (.iload_n 1, 1) := by decide +kernel
theorem dX5_key_26 : decode cX5_key 26 = .ok (.iload_n 2, 1) := by decide +kernel
theorem dX5_key_27 : decode cX5_key 27 = .ok (.iload_n 3, 1) := by decide +kernel
theorem dX5_key_28 : decode cX5_key 28 = .ok (.iload 4, 2) := by decide +kernel
theorem dX5_key_30 : decode cX5_key 30 = .ok (.invokevirtual 57, 3) := by decide +kernel
theorem dX5_key_33 : decode cX5_key 33 = .ok (.ireturn, 1) := by decide +kernel
theorem dX5_toggle_0 : decode cX5_toggle 0 = .ok (.iload_n 1, 1) := by decide +kernel
theorem dX5_toggle_1 : decode cX5_toggle 1 = .ok (.invokestatic 65, 3) := by decide +kernel
theorem dX5_toggle_4 : decode cX5_toggle 4 = .ok (.aload_n 0, 1) := by decide +kernel
theorem dX5_toggle_5 : decode cX5_toggle 5 = .ok (.iconst 5, 1) := by decide +kernel
theorem dX5_toggle_6 : decode cX5_toggle 6 = .ok (.iload_n 1, 1) := by decide +kernel
theorem dX5_toggle_7 : decode cX5_toggle 7 = .ok (.iconst (-1), 1) := by decide +kernel
theorem dX5_toggle_8 : decode cX5_toggle 8 = .ok (.iconst (-1), 1) := by decide +kernel
theorem dX5_toggle_9 : decode cX5_toggle 9 = .ok (.iconst (-1), 1) := by decide +kernel
theorem dX5_toggle_10 : decode cX5_toggle 10 = .ok (.invokevirtual 57, 3) := by decide +kernel
theorem dX5_toggle_13 : decode cX5_toggle 13 = .ok (.ireturn, 1) := by decide +kernel
theorem dX5_cut_0 : decode cX5_cut 0 = .ok (.aload_n 0, 1) := by decide +kernel
theorem dX5_cut_1 : decode cX5_cut 1 = .ok (.bipush 6, 2) := by decide +kernel
theorem dX5_cut_3 : decode cX5_cut 3 = .ok (.iconst (-1), 1) := by decide +kernel
theorem dX5_cut_4 : decode cX5_cut 4 = .ok (.iconst (-1), 1) := by decide +kernel
theorem dX5_cut_5 : decode cX5_cut 5 = .ok (.iconst (-1), 1) := by decide +kernel
theorem dX5_cut_6 : decode cX5_cut 6 = .ok (.iconst (-1), 1) := by decide +kernel
theorem dX5_cut_7 : decode cX5_cut 7 = .ok (.invokevirtual 57, 3) := by decide +kernel
theorem dX5_cut_10 : decode cX5_cut 10 = .ok (.ireturn, 1) := by decide +kernel
theorem dX5_auto_0 : decode cX5_auto 0 = .ok (.aload_n 0, 1) := by decide +kernel
theorem dX5_auto_1 : decode cX5_auto 1 = .ok (.bipush 7, 2) := by decide +kernel
theorem dX5_auto_3 : decode cX5_auto 3 = .ok (.iconst (-1), 1) := by decide +kernel
theorem dX5_auto_4 : decode cX5_auto 4 = .ok (.iconst (-1), 1) := by decide +kernel
theorem dX5_auto_5 : decode cX5_auto 5 = .ok (.iconst (-1), 1) := by decide +kernel
theorem dX5_auto_6 : decode cX5_auto 6 = .ok (.iconst (-1), 1) := by decide +kernel
theorem dX5_auto_7 : decode cX5_auto 7 = .ok (.invokevirtual 57, 3) := by decide +kernel
theorem dX5_auto_10 : decode cX5_auto 10 = .ok (.ireturn, 1) := by decide +kernel
theorem dX5_bar_0 : decode cX5_bar 0 = .ok (.iload_n 1, 1) := by decide +kernel
theorem dX5_bar_1 : decode cX5_bar 1 = .ok (.iconst 0, 1) := by decide +kernel
theorem dX5_bar_2 : decode cX5_bar 2 = .ok (.sipush 1000, 3) := by decide +kernel
theorem dX5_bar_5 : decode cX5_bar 5 = .ok (.invokestatic 61, 3) := by decide +kernel
theorem dX5_bar_8 : decode cX5_bar 8 = .ok (.aload_n 0, 1) := by decide +kernel
theorem dX5_bar_9 : decode cX5_bar 9 = .ok (.bipush 8, 2) := by decide +kernel
theorem dX5_bar_11 : decode cX5_bar 11 = .ok (.iload_n 1, 1) := by decide +kernel
theorem dX5_bar_12 : decode cX5_bar 12 = .ok (.iconst (-1), 1) := by decide +kernel
theorem dX5_bar_13 : decode cX5_bar 13 = .ok (.iconst (-1), 1) := by decide +kernel
theorem dX5_bar_14 : decode cX5_bar 14 = .ok (.iconst (-1), 1) := by decide +kernel
theorem dX5_bar_15 : decode cX5_bar 15 = .ok (.invokevirtual 57, 3) := by decide +kernel
theorem dX5_bar_18 : decode cX5_bar 18 = .ok (.ireturn, 1) := by decide +kernel
theorem dX5_fault_0 : decode cX5_fault 0 = .ok (.iload_n 1, 1) := by decide +kernel
theorem dX5_fault_1 : decode cX5_fault 1 = .ok (.invokestatic 53, 3) := by decide +kernel
theorem dX5_fault_4 : decode cX5_fault 4 = .ok (.iload_n 1, 1) := by decide +kernel
theorem dX5_fault_5 : decode cX5_fault 5 = .ok (.ifCond .ne 11, 3) := by decide +kernel
theorem dX5_fault_8 : decode cX5_fault 8 = .ok (.new 68, 3) := by decide +kernel
theorem dX5_fault_11 : decode cX5_fault 11 = .ok (.dup, 1) := by decide +kernel
theorem dX5_fault_12 : decode cX5_fault 12 = .ok (.invokespecial 70, 3) := by decide +kernel
theorem dX5_fault_15 : decode cX5_fault 15 = .ok (.athrow, 1) := by decide +kernel
theorem dX5_fault_16 : decode cX5_fault 16 = .ok (.aload_n 0, 1) := by decide +kernel
theorem dX5_fault_17 : decode cX5_fault 17 = .ok (.bipush 9, 2) := by decide +kernel
theorem dX5_fault_19 : decode cX5_fault 19 = .ok (.iload_n 1, 1) := by decide +kernel
theorem dX5_fault_20 : decode cX5_fault 20 = .ok (.iload_n 2, 1) := by decide +kernel
theorem dX5_fault_21 : decode cX5_fault 21 = .ok (.ifCond .eq 7, 3) := by decide +kernel
theorem dX5_fault_24 : decode cX5_fault 24 = .ok (.iconst 1, 1) := by decide +kernel
theorem dX5_fault_25 : decode cX5_fault 25 = .ok (.goto 4, 3) := by decide +kernel
theorem dX5_fault_28 : decode cX5_fault 28 = .ok (.iconst 0, 1) := by decide +kernel
theorem dX5_fault_29 : decode cX5_fault 29 = .ok (.iconst (-1), 1) := by decide +kernel
theorem dX5_fault_30 : decode cX5_fault 30 = .ok (.iconst (-1), 1) := by decide +kernel
theorem dX5_fault_31 : decode cX5_fault 31 = .ok (.invokevirtual 57, 3) := by decide +kernel
theorem dX5_fault_34 : decode cX5_fault 34 = .ok (.ireturn, 1) := by decide +kernel
theorem dX5_pass_0 : decode cX5_pass 0 = .ok (.iload_n 1, 1) := by decide +kernel
theorem dX5_pass_1 : decode cX5_pass 1 = .ok (.iconst 0, 1) := by decide +kernel
theorem dX5_pass_2 : decode cX5_pass 2 = .ok (.sipush 500, 3) := by decide +kernel
theorem dX5_pass_5 : decode cX5_pass 5 = .ok (.invokestatic 61, 3) := by decide +kernel
theorem dX5_pass_8 : decode cX5_pass 8 = .ok (.aload_n 0, 1) := by decide +kernel
theorem dX5_pass_9 : decode cX5_pass 9 = .ok (.getfield 10, 3) := by decide +kernel
theorem dX5_pass_12 : decode cX5_pass 12 = .ok (.getfield 71, 3) := by decide +kernel
theorem dX5_pass_15 : decode cX5_pass 15 = .ok (.iload_n 1, 1) := by decide +kernel
theorem dX5_pass_16 : decode cX5_pass 16 = .ok (.iadd, 1) := by decide +kernel
theorem dX5_pass_17 : decode cX5_pass 17 = .ok (.sipush 5000, 3) := by decide +kernel
theorem dX5_pass_20 : decode cX5_pass 20 = .ok (.if_icmp .le 11, 3) := by decide +kernel
theorem dX5_pass_23 : decode cX5_pass 23 = .ok (.new 75, 3) := by decide +kernel
theorem dX5_pass_26 : decode cX5_pass 26 = .ok (.dup, 1) := by decide +kernel
theorem dX5_pass_27 : decode cX5_pass 27 = .ok (.invokespecial 77, 3) := by decide +kernel
theorem dX5_pass_30 : decode cX5_pass 30 = .ok (.athrow, 1) := by decide +kernel
theorem dX5_pass_31 : decode cX5_pass 31 = .ok (.aload_n 0, 1) := by decide +kernel
theorem dX5_pass_32 : decode cX5_pass 32 = .ok (.getfield 10, 3) := by decide +kernel
theorem dX5_pass_35 : decode cX5_pass 35 = .ok (.iload_n 1, 1) := by decide +kernel
theorem dX5_pass_36 : decode cX5_pass 36 = .ok (.invokevirtual 78, 3) := by decide +kernel
theorem dX5_pass_39 : decode cX5_pass 39 = .ok (.aload_n 0, 1) := by decide +kernel
theorem dX5_pass_40 : decode cX5_pass 40 = .ok (.getfield 10, 3) := by decide +kernel
theorem dX5_pass_43 : decode cX5_pass 43 = .ok (.getfield 71, 3) := by decide +kernel
theorem dX5_pass_46 : decode cX5_pass 46 = .ok (.ireturn, 1) := by decide +kernel
theorem dX5_setting_0 : decode cX5_setting 0 = .ok (.iload_n 1, 1) := by decide +kernel
theorem dX5_setting_1 : decode cX5_setting 1 = .ok (.iconst 0, 1) := by decide +kernel
theorem dX5_setting_2 : decode cX5_setting 2 = .ok (.bipush 8, 2) := by decide +kernel
theorem dX5_setting_4 : decode cX5_setting 4 = .ok (.invokestatic 61, 3) := by decide +kernel
theorem dX5_setting_7 : decode cX5_setting 7 = .ok (.aload_n 0, 1) := by decide +kernel
theorem dX5_setting_8 : decode cX5_setting 8 = .ok (.iload_n 1, 1) := by decide +kernel
theorem dX5_setting_9 : decode cX5_setting 9 = .ok (.invokevirtual 81, 3) := by decide +kernel
theorem dX5_setting_12 : decode cX5_setting 12 = .ok (.ireturn, 1) := by decide +kernel
theorem dX5_share_0 : decode cX5_share 0 = .ok (.iload_n 1, 1) := by decide +kernel
theorem dX5_share_1 : decode cX5_share 1 = .ok (.invokestatic 53, 3) := by decide +kernel
theorem dX5_share_4 : decode cX5_share 4 = .ok (.aload_n 0, 1) := by decide +kernel
theorem dX5_share_5 : decode cX5_share 5 = .ok (.getfield 39, 3) := by decide +kernel
theorem dX5_share_8 : decode cX5_share 8 = .ok (.aload_n 0, 1) := by decide +kernel
theorem dX5_share_9 : decode cX5_share 9 = .ok (.getfield 10, 3) := by decide +kernel
theorem dX5_share_12 : decode cX5_share 12 = .ok (.invokevirtual 89, 3) := by decide +kernel
theorem dX5_share_15 : decode cX5_share 15 = .ok (.iload_n 2, 1) := by decide +kernel
theorem dX5_share_16 : decode cX5_share 16 = .ok (.ifCond .eq 21, 3) := by decide +kernel
theorem dX5_share_19 : decode cX5_share 19 = .ok (.aload_n 0, 1) := by decide +kernel
theorem dX5_share_20 : decode cX5_share 20 = .ok (.getfield 39, 3) := by decide +kernel
theorem dX5_share_23 : decode cX5_share 23 = .ok (.iload_n 1, 1) := by decide +kernel
theorem dX5_share_24 : decode cX5_share 24 = .ok (.aload_n 0, 1) := by decide +kernel
theorem dX5_share_25 : decode cX5_share 25 = .ok (.getfield 10, 3) := by decide +kernel
theorem dX5_share_28 : decode cX5_share 28 = .ok (.getfield 93, 3) := by decide +kernel
theorem dX5_share_31 : decode cX5_share 31 = .ok (.invokevirtual 96, 3) := by decide +kernel
theorem dX5_share_34 : decode cX5_share 34 = .ok (.goto 11, 3) := by decide +kernel
theorem dX5_share_37 : decode cX5_share 37 = .ok (.aload_n 0, 1) := by decide +kernel
theorem dX5_share_38 : decode cX5_share 38 = .ok (.getfield 39, 3) := by decide +kernel
theorem dX5_share_41 : decode cX5_share 41 = .ok (.iload_n 1, 1) := by decide +kernel
theorem dX5_share_42 : decode cX5_share 42 = .ok (.invokevirtual 99, 3) := by decide +kernel
theorem dX5_share_45 : decode cX5_share 45 = .ok (.ireturn, 1) := by decide +kernel
theorem dX5_tally_0 : decode cX5_tally 0 = .ok (.iload_n 1, 1) := by decide +kernel
theorem dX5_tally_1 : decode cX5_tally 1 = .ok (.invokestatic 53, 3) := by decide +kernel
theorem dX5_tally_4 : decode cX5_tally 4 = .ok (.aload_n 0, 1) := by decide +kernel
theorem dX5_tally_5 : decode cX5_tally 5 = .ok (.invokevirtual 102, 3) := by decide +kernel
theorem dX5_tally_8 : decode cX5_tally 8 = .ok (.aload_n 0, 1) := by decide +kernel
theorem dX5_tally_9 : decode cX5_tally 9 = .ok (.iload_n 1, 1) := by decide +kernel
theorem dX5_tally_10 : decode cX5_tally 10 = .ok (.invokevirtual 105, 3) := by decide +kernel
theorem dX5_tally_13 : decode cX5_tally 13 = .ok (.ireturn, 1) := by decide +kernel
theorem dX5_faulty_0 : decode cX5_faulty 0 = .ok (.aload_n 0, 1) := by decide +kernel
theorem dX5_faulty_1 : decode cX5_faulty 1 = .ok (.getfield 39, 3) := by decide +kernel
theorem dX5_faulty_4 : decode cX5_faulty 4 = .ok (.aload_n 0, 1) := by decide +kernel
theorem dX5_faulty_5 : decode cX5_faulty 5 = .ok (.getfield 10, 3) := by decide +kernel
theorem dX5_faulty_8 : decode cX5_faulty 8 = .ok (.invokevirtual 89, 3) := by decide +kernel
theorem dX5_faulty_11 : decode cX5_faulty 11 = .ok (.aload_n 0, 1) := by decide +kernel
theorem dX5_faulty_12 : decode cX5_faulty 12 = .ok (.getfield 39, 3) := by decide +kernel
theorem dX5_faulty_15 : decode cX5_faulty 15 = .ok (.aload_n 0, 1) := by decide +kernel
theorem dX5_faulty_16 : decode cX5_faulty 16 = .ok (.getfield 10, 3) := by decide +kernel
theorem dX5_faulty_19 : decode cX5_faulty 19 = .ok (.getfield 93, 3) := by decide +kernel
theorem dX5_faulty_22 : decode cX5_faulty 22 = .ok (.invokevirtual 108, 3) := by decide +kernel
theorem dX5_faulty_25 : decode cX5_faulty 25 = .ok (.i2d, 1) := by decide +kernel
theorem dX5_faulty_26 : decode cX5_faulty 26 = .ok (.ldc2_w 111, 3) := by decide +kernel
theorem dX5_faulty_29 : decode cX5_faulty 29 = .ok (.ddiv, 1) := by decide +kernel
theorem dX5_faulty_30 : decode cX5_faulty 30 = .ok (.dreturn, 1) := by decide +kernel
theorem dX5_timesRed_0 : decode cX5_timesRed 0 = .ok (.iload_n 1, 1) := by decide +kernel
theorem dX5_timesRed_1 : decode cX5_timesRed 1 = .ok (.invokestatic 53, 3) := by decide +kernel
theorem dX5_timesRed_4 : decode cX5_timesRed 4 = .ok (.iconst 0, 1) := by decide +kernel
theorem dX5_timesRed_5 : decode cX5_timesRed 5 = .ok (.istore_n 2, 1) := by decide +kernel
theorem dX5_timesRed_6 : decode cX5_timesRed 6 = .ok (.iconst 1, 1) := by decide +kernel
theorem dX5_timesRed_7 : decode cX5_timesRed 7 = .ok (.istore_n 3, 1) := by decide +kernel
theorem dX5_timesRed_8 : decode cX5_timesRed 8 = .ok (.aload_n 0, 1) := by decide +kernel
theorem dX5_timesRed_9 : decode cX5_timesRed 9 = .ok (.getfield 32, 3) := by decide +kernel
theorem dX5_timesRed_12 : decode cX5_timesRed 12 = .ok (.invokevirtual 126, 3) := by decide +kernel
theorem dX5_timesRed_15 : decode cX5_timesRed 15 = .ok (.iconst 0, 1) := by decide +kernel
theorem dX5_timesRed_16 : decode cX5_timesRed 16 = .ok (.istore 4, 2) := by decide +kernel
theorem dX5_timesRed_18 : decode cX5_timesRed 18 = .ok (.iload 4, 2) := by decide +kernel
theorem dX5_timesRed_20 : decode cX5_timesRed 20 = .ok (.aload_n 0, 1) := by decide +kernel
theorem dX5_timesRed_21 : decode cX5_timesRed 21 = .ok (.getfield 10, 3) := by decide +kernel
theorem dX5_timesRed_24 : decode cX5_timesRed 24 = .ok (.getfield 71, 3) := by decide +kernel
theorem dX5_timesRed_27 : decode cX5_timesRed 27 = .ok (.if_icmp .gt 56, 3) := by decide +kernel
theorem dX5_timesRed_30 : decode cX5_timesRed 30 = .ok (.aload_n 0, 1) := by decide +kernel
theorem dX5_timesRed_31 : decode cX5_timesRed 31 = .ok (.iload 4, 2) := by decide +kernel
theorem dX5_timesRed_33 : decode cX5_timesRed 33 = .ok (.invokevirtual 129, 3) := by decide +kernel
theorem dX5_timesRed_36 : decode cX5_timesRed 36 = .ok (.iload_n 1, 1) := by decide +kernel
theorem dX5_timesRed_37 : decode cX5_timesRed 37 = .ok (.invokestatic 132, 3) := by decide +kernel
theorem dX5_timesRed_40 : decode cX5_timesRed 40 = .ok (.istore 5, 2) := by decide +kernel
theorem dX5_timesRed_42 : decode cX5_timesRed 42 = .ok (.iconst 1, 1) := by decide +kernel
theorem dX5_timesRed_43 : decode cX5_timesRed 43 = .ok (.aload_n 0, 1) := by decide +kernel
theorem dX5_timesRed_44 : decode cX5_timesRed 44 = .ok (.getfield 32, 3) := by decide +kernel
theorem dX5_timesRed_47 : decode cX5_timesRed 47 = .ok (.aload_n 0, 1) := by decide +kernel
theorem dX5_timesRed_48 : decode cX5_timesRed 48 = .ok (.getfield 25, 3) := by decide +kernel
theorem dX5_timesRed_51 : decode cX5_timesRed 51 = .ok (.aload_n 0, 1) := by decide +kernel
theorem dX5_timesRed_52 : decode cX5_timesRed 52 = .ok (.getfield 10, 3) := by decide +kernel
theorem dX5_timesRed_55 : decode cX5_timesRed 55 = .ok (.getfield 71, 3) := by decide +kernel
theorem dX5_timesRed_58 : decode cX5_timesRed 58 = .ok (.invokevirtual 136, 3) := by decide +kernel
theorem dX5_timesRed_61 : decode cX5_timesRed 61 = .ok (.invokestatic 140, 3) := by decide +kernel
theorem dX5_timesRed_64 : decode cX5_timesRed 64 = .ok (.istore_n 3, 1) := by decide +kernel
theorem dX5_timesRed_65 : decode cX5_timesRed 65 = .ok (.iload 5, 2) := by decide +kernel
theorem dX5_timesRed_67 : decode cX5_timesRed 67 = .ok (.ifCond .eq 7, 3) := by decide +kernel
theorem dX5_timesRed_70 : decode cX5_timesRed 70 = .ok (.iload_n 2, 1) := by decide +kernel
theorem dX5_timesRed_71 : decode cX5_timesRed 71 = .ok (.iload_n 3, 1) := by decide +kernel
theorem dX5_timesRed_72 : decode cX5_timesRed 72 = .ok (.iadd, 1) := by decide +kernel
theorem dX5_timesRed_73 : decode cX5_timesRed 73 = .ok (.istore_n 2, 1) := by decide +kernel
theorem dX5_timesRed_74 : decode cX5_timesRed 74 = .ok (.iload 4, 2) := by decide +kernel
theorem dX5_timesRed_76 : decode cX5_timesRed 76 = .ok (.iload_n 3, 1) := by decide +kernel
theorem dX5_timesRed_77 : decode cX5_timesRed 77 = .ok (.iadd, 1) := by decide +kernel
theorem dX5_timesRed_78 : decode cX5_timesRed 78 = .ok (.istore 4, 2) := by decide +kernel
theorem dX5_timesRed_80 : decode cX5_timesRed 80 = .ok (.goto (-62), 3) := by decide +kernel
theorem dX5_timesRed_83 : decode cX5_timesRed 83 = .ok (.iload_n 2, 1) := by decide +kernel
theorem dX5_timesRed_84 : decode cX5_timesRed 84 = .ok (.ireturn, 1) := by decide +kernel
theorem dX5_firstRed_0 : decode cX5_firstRed 0 = .ok (.iload_n 1, 1) := by decide +kernel
theorem dX5_firstRed_1 : decode cX5_firstRed 1 = .ok (.invokestatic 53, 3) := by decide +kernel
theorem dX5_firstRed_4 : decode cX5_firstRed 4 = .ok (.iconst 1, 1) := by decide +kernel
theorem dX5_firstRed_5 : decode cX5_firstRed 5 = .ok (.istore_n 2, 1) := by decide +kernel
theorem dX5_firstRed_6 : decode cX5_firstRed 6 = .ok (.aload_n 0, 1) := by decide +kernel
theorem dX5_firstRed_7 : decode cX5_firstRed 7 = .ok (.getfield 32, 3) := by decide +kernel
theorem dX5_firstRed_10 : decode cX5_firstRed 10 = .ok (.invokevirtual 126, 3) := by decide +kernel
theorem dX5_firstRed_13 : decode cX5_firstRed 13 = .ok (.iconst 0, 1) := by decide +kernel
theorem dX5_firstRed_14 : decode cX5_firstRed 14 = .ok (.istore_n 3, 1) := by decide +kernel
theorem dX5_firstRed_15 : decode cX5_firstRed 15 = .ok (.iload_n 3, 1) := by decide +kernel
theorem dX5_firstRed_16 : decode cX5_firstRed 16 = .ok (.aload_n 0, 1) := by decide +kernel
theorem dX5_firstRed_17 : decode cX5_firstRed 17 = .ok (.getfield 10, 3) := by decide +kernel
theorem dX5_firstRed_20 : decode cX5_firstRed 20 = .ok (.getfield 71, 3) := by decide +kernel
theorem dX5_firstRed_23 : decode cX5_firstRed 23 = .ok (.if_icmp .gt 47, 3) := by decide +kernel
theorem dX5_firstRed_26 : decode cX5_firstRed 26 = .ok (.aload_n 0, 1) := by decide +kernel
theorem dX5_firstRed_27 : decode cX5_firstRed 27 = .ok (.iload_n 3, 1) := by decide +kernel
theorem dX5_firstRed_28 : decode cX5_firstRed 28 = .ok (.invokevirtual 129, 3) := by decide +kernel
theorem dX5_firstRed_31 : decode cX5_firstRed 31 = .ok (.iload_n 1, 1) := by decide +kernel
theorem dX5_firstRed_32 : decode cX5_firstRed 32 = .ok (.invokestatic 132, 3) := by decide +kernel
theorem dX5_firstRed_35 : decode cX5_firstRed 35 = .ok (.ifCond .eq 5, 3) := by decide +kernel
theorem dX5_firstRed_38 : decode cX5_firstRed 38 = .ok (.iload_n 3, 1) := by decide +kernel
theorem dX5_firstRed_39 : decode cX5_firstRed 39 = .ok (.ireturn, 1) := by decide +kernel
theorem dX5_firstRed_40 : decode cX5_firstRed 40 = .ok (.iconst 1, 1) := by decide +kernel
theorem dX5_firstRed_41 : decode cX5_firstRed 41 = .ok (.aload_n 0, 1) := by decide +kernel
theorem dX5_firstRed_42 : decode cX5_firstRed 42 = .ok (.getfield 32, 3) := by decide +kernel
theorem dX5_firstRed_45 : decode cX5_firstRed 45 = .ok (.aload_n 0, 1) := by decide +kernel
theorem dX5_firstRed_46 : decode cX5_firstRed 46 = .ok (.getfield 25, 3) := by decide +kernel
theorem dX5_firstRed_49 : decode cX5_firstRed 49 = .ok (.aload_n 0, 1) := by decide +kernel
theorem dX5_firstRed_50 : decode cX5_firstRed 50 = .ok (.getfield 10, 3) := by decide +kernel
theorem dX5_firstRed_53 : decode cX5_firstRed 53 = .ok (.getfield 71, 3) := by decide +kernel
theorem dX5_firstRed_56 : decode cX5_firstRed 56 = .ok (.invokevirtual 136, 3) := by decide +kernel
theorem dX5_firstRed_59 : decode cX5_firstRed 59 = .ok (.invokestatic 140, 3) := by decide +kernel
theorem dX5_firstRed_62 : decode cX5_firstRed 62 = .ok (.istore_n 2, 1) := by decide +kernel
theorem dX5_firstRed_63 : decode cX5_firstRed 63 = .ok (.iload_n 3, 1) := by decide +kernel
theorem dX5_firstRed_64 : decode cX5_firstRed 64 = .ok (.iload_n 2, 1) := by decide +kernel
theorem dX5_firstRed_65 : decode cX5_firstRed 65 = .ok (.iadd, 1) := by decide +kernel
theorem dX5_firstRed_66 : decode cX5_firstRed 66 = .ok (.istore_n 3, 1) := by decide +kernel
theorem dX5_firstRed_67 : decode cX5_firstRed 67 = .ok (.goto (-52), 3) := by decide +kernel
theorem dX5_firstRed_70 : decode cX5_firstRed 70 = .ok (.iconst (-1), 1) := by decide +kernel
theorem dX5_firstRed_71 : decode cX5_firstRed 71 = .ok (.ireturn, 1) := by decide +kernel
theorem dX5_longestShot_0 : decode cX5_longestShot 0 = .ok (.iconst 0, 1) := by decide +kernel
theorem dX5_longestShot_1 : decode cX5_longestShot 1 = .ok (.istore_n 1, 1) := by decide +kernel
theorem dX5_longestShot_2 : decode cX5_longestShot 2 = .ok (.iconst 0, 1) := by decide +kernel
theorem dX5_longestShot_3 : decode cX5_longestShot 3 = .ok (.istore_n 2, 1) := by decide +kernel
theorem dX5_longestShot_4 : decode cX5_longestShot 4 = .ok (.iconst (-1), 1) := by decide +kernel
theorem dX5_longestShot_5 : decode cX5_longestShot 5 = .ok (.istore_n 3, 1) := by decide +kernel
theorem dX5_longestShot_6 : decode cX5_longestShot 6 = .ok (.iconst 1, 1) := by decide +kernel
theorem dX5_longestShot_7 : decode cX5_longestShot 7 = .ok (.istore 4, 2) := by decide +kernel
theorem dX5_longestShot_9 : decode cX5_longestShot 9 = .ok (.aload_n 0, 1) := by decide +kernel
theorem dX5_longestShot_10 : decode cX5_longestShot 10 = .ok (.getfield 32, 3) := by decide +kernel
theorem dX5_longestShot_13 : decode cX5_longestShot 13 = .ok (.invokevirtual 126, 3) := by decide +kernel
theorem dX5_longestShot_16 : decode cX5_longestShot 16 = .ok (.iconst 0, 1) := by decide +kernel
theorem dX5_longestShot_17 : decode cX5_longestShot 17 = .ok (.istore 5, 2) := by decide +kernel
theorem dX5_longestShot_19 : decode cX5_longestShot 19 = .ok (.iload 5, 2) := by decide +kernel
theorem dX5_longestShot_21 : decode cX5_longestShot 21 = .ok (.aload_n 0, 1) := by decide +kernel
theorem dX5_longestShot_22 : decode cX5_longestShot 22 = .ok (.getfield 10, 3) := by decide +kernel
theorem dX5_longestShot_25 : decode cX5_longestShot 25 = .ok (.getfield 71, 3) := by decide +kernel
theorem dX5_longestShot_28 : decode cX5_longestShot 28 = .ok (.if_icmp .gt 70, 3) := by decide +kernel
theorem dX5_longestShot_31 : decode cX5_longestShot 31 = .ok (.aload_n 0, 1) := by decide +kernel
theorem dX5_longestShot_32 : decode cX5_longestShot 32 = .ok (.iload 5, 2) := by decide +kernel
theorem dX5_longestShot_34 : decode cX5_longestShot 34 = .ok (.invokevirtual 129, 3) := by decide +kernel
theorem dX5_longestShot_37 : decode cX5_longestShot 37 = .ok (.istore 6, 2) := by decide +kernel
theorem dX5_longestShot_39 : decode cX5_longestShot 39 = .ok (.iconst 1, 1) := by decide +kernel
theorem dX5_longestShot_40 : decode cX5_longestShot 40 = .ok (.aload_n 0, 1) := by decide +kernel
theorem dX5_longestShot_41 : decode cX5_longestShot 41 = .ok (.getfield 32, 3) := by decide +kernel
theorem dX5_longestShot_44 : decode cX5_longestShot 44 = .ok (.aload_n 0, 1) := by decide +kernel
theorem dX5_longestShot_45 : decode cX5_longestShot 45 = .ok (.getfield 25, 3) := by decide +kernel
theorem dX5_longestShot_48 : decode cX5_longestShot 48 = .ok (.aload_n 0, 1) := by decide +kernel
theorem dX5_longestShot_49 : decode cX5_longestShot 49 = .ok (.getfield 10, 3) := by decide +kernel
theorem dX5_longestShot_52 : decode cX5_longestShot 52 = .ok (.getfield 71, 3) := by decide +kernel
theorem dX5_longestShot_55 : decode cX5_longestShot 55 = .ok (.invokevirtual 136, 3) := by decide +kernel
theorem dX5_longestShot_58 : decode cX5_longestShot 58 = .ok (.invokestatic 140, 3) := by decide +kernel
theorem dX5_longestShot_61 : decode cX5_longestShot 61 = .ok (.istore 4, 2) := by decide +kernel
theorem dX5_longestShot_63 : decode cX5_longestShot 63 = .ok (.iload 6, 2) := by decide +kernel
theorem dX5_longestShot_65 : decode cX5_longestShot 65 = .ok (.iload_n 3, 1) := by decide +kernel
theorem dX5_longestShot_66 : decode cX5_longestShot 66 = .ok (.if_icmp .ne 10, 3) := by decide +kernel
theorem dX5_longestShot_69 : decode cX5_longestShot 69 = .ok (.iload_n 2, 1) := by decide +kernel
theorem dX5_longestShot_70 : decode cX5_longestShot 70 = .ok (.iload 4, 2) := by decide +kernel
theorem dX5_longestShot_72 : decode cX5_longestShot 72 = .ok (.iadd, 1) := by decide +kernel
theorem dX5_longestShot_73 : decode cX5_longestShot 73 = .ok (.goto 5, 3) := by decide +kernel
theorem dX5_longestShot_76 : decode cX5_longestShot 76 = .ok (.iload 4, 2) := by decide +kernel
theorem dX5_longestShot_78 : decode cX5_longestShot 78 = .ok (.istore_n 2, 1) := by decide +kernel
theorem dX5_longestShot_79 : decode cX5_longestShot 79 = .ok (.iload_n 1, 1) := by decide +kernel
theorem dX5_longestShot_80 : decode cX5_longestShot 80 = .ok (.iload_n 2, 1) := by decide +kernel
theorem dX5_longestShot_81 : decode cX5_longestShot 81 = .ok (.invokestatic 140, 3) := by decide +kernel
theorem dX5_longestShot_84 : decode cX5_longestShot 84 = .ok (.istore_n 1, 1) := by decide +kernel
theorem dX5_longestShot_85 : decode cX5_longestShot 85 = .ok (.iload 6, 2) := by decide +kernel
theorem dX5_longestShot_87 : decode cX5_longestShot 87 = .ok (.istore_n 3, 1) := by decide +kernel
theorem dX5_longestShot_88 : decode cX5_longestShot 88 = .ok (.iload 5, 2) := by decide +kernel
theorem dX5_longestShot_90 : decode cX5_longestShot 90 = .ok (.iload 4, 2) := by decide +kernel
theorem dX5_longestShot_92 : decode cX5_longestShot 92 = .ok (.iadd, 1) := by decide +kernel
theorem dX5_longestShot_93 : decode cX5_longestShot 93 = .ok (.istore 5, 2) := by decide +kernel
theorem dX5_longestShot_95 : decode cX5_longestShot 95 = .ok (.goto (-76), 3) := by decide +kernel
theorem dX5_longestShot_98 : decode cX5_longestShot 98 = .ok (.iload_n 1, 1) := by decide +kernel
theorem dX5_longestShot_99 : decode cX5_longestShot 99 = .ok (.ireturn, 1) := by decide +kernel
theorem dX5_runs_0 : decode cX5_runs 0 = .ok (.aload_n 0, 1) := by decide +kernel
theorem dX5_runs_1 : decode cX5_runs 1 = .ok (.aload_n 0, 1) := by decide +kernel
theorem dX5_runs_2 : decode cX5_runs 2 = .ok (.getfield 10, 3) := by decide +kernel
theorem dX5_runs_5 : decode cX5_runs 5 = .ok (.getfield 71, 3) := by decide +kernel
theorem dX5_runs_8 : decode cX5_runs 8 = .ok (.iconst (-1), 1) := by decide +kernel
theorem dX5_runs_9 : decode cX5_runs 9 = .ok (.invokevirtual 116, 3) := by decide +kernel
theorem dX5_runs_12 : decode cX5_runs 12 = .ok (.aload_n 0, 1) := by decide +kernel
theorem dX5_runs_13 : decode cX5_runs 13 = .ok (.getfield 32, 3) := by decide +kernel
theorem dX5_runs_16 : decode cX5_runs 16 = .ok (.getfield 120, 3) := by decide +kernel
theorem dX5_runs_19 : decode cX5_runs 19 = .ok (.getfield 145, 3) := by decide +kernel
theorem dX5_runs_22 : decode cX5_runs 22 = .ok (.ireturn, 1) := by decide +kernel
theorem dX5_act_0 : decode cX5_act 0 = .ok (.aload_n 0, 1) := by decide +kernel
theorem dX5_act_1 : decode cX5_act 1 = .ok (.iload_n 1, 1) := by decide +kernel
theorem dX5_act_2 : decode cX5_act 2 = .ok (.invokevirtual 148, 3) := by decide +kernel
theorem dX5_act_5 : decode cX5_act 5 = .ok (.iload_n 2, 1) := by decide +kernel
theorem dX5_act_6 : decode cX5_act 6 = .ok (.iconst 0, 1) := by decide +kernel
theorem dX5_act_7 : decode cX5_act 7 = .ok (.iconst 3, 1) := by decide +kernel
theorem dX5_act_8 : decode cX5_act 8 = .ok (.invokestatic 61, 3) := by decide +kernel
theorem dX5_act_11 : decode cX5_act 11 = .ok (.aload_n 0, 1) := by decide +kernel
theorem dX5_act_12 : decode cX5_act 12 = .ok (.getfield 25, 3) := by decide +kernel
theorem dX5_act_15 : decode cX5_act 15 = .ok (.iload_n 1, 1) := by decide +kernel
theorem dX5_act_16 : decode cX5_act 16 = .ok (.iload_n 2, 1) := by decide +kernel
theorem dX5_act_17 : decode cX5_act 17 = .ok (.invokevirtual 151, 3) := by decide +kernel
theorem dX5_act_20 : decode cX5_act 20 = .ok (.ireturn, 1) := by decide +kernel
theorem dX5_takeOut_0 : decode cX5_takeOut 0 = .ok (.aload_n 0, 1) := by decide +kernel
theorem dX5_takeOut_1 : decode cX5_takeOut 1 = .ok (.iload_n 1, 1) := by decide +kernel
theorem dX5_takeOut_2 : decode cX5_takeOut 2 = .ok (.invokevirtual 148, 3) := by decide +kernel
theorem dX5_takeOut_5 : decode cX5_takeOut 5 = .ok (.aload_n 0, 1) := by decide +kernel
theorem dX5_takeOut_6 : decode cX5_takeOut 6 = .ok (.getfield 25, 3) := by decide +kernel
theorem dX5_takeOut_9 : decode cX5_takeOut 9 = .ok (.iload_n 1, 1) := by decide +kernel
theorem dX5_takeOut_10 : decode cX5_takeOut 10 = .ok (.invokevirtual 154, 3) := by decide +kernel
theorem dX5_takeOut_13 : decode cX5_takeOut 13 = .ok (.aload_n 0, 1) := by decide +kernel
theorem dX5_takeOut_14 : decode cX5_takeOut 14 = .ok (.invokevirtual 157, 3) := by decide +kernel
theorem dX5_takeOut_17 : decode cX5_takeOut 17 = .ok (.aload_n 0, 1) := by decide +kernel
theorem dX5_takeOut_18 : decode cX5_takeOut 18 = .ok (.getfield 25, 3) := by decide +kernel
theorem dX5_takeOut_21 : decode cX5_takeOut 21 = .ok (.invokevirtual 160, 3) := by decide +kernel
theorem dX5_takeOut_24 : decode cX5_takeOut 24 = .ok (.ireturn, 1) := by decide +kernel
theorem dX5_undo_0 : decode cX5_undo 0 = .ok (.aload_n 0, 1) := by decide +kernel
theorem dX5_undo_1 : decode cX5_undo 1 = .ok (.getfield 25, 3) := by decide +kernel
theorem dX5_undo_4 : decode cX5_undo 4 = .ok (.invokevirtual 160, 3) := by decide +kernel
theorem dX5_undo_7 : decode cX5_undo 7 = .ok (.ifCond .ne 11, 3) := by decide +kernel
theorem dX5_undo_10 : decode cX5_undo 10 = .ok (.new 75, 3) := by decide +kernel
theorem dX5_undo_13 : decode cX5_undo 13 = .ok (.dup, 1) := by decide +kernel
theorem dX5_undo_14 : decode cX5_undo 14 = .ok (.invokespecial 77, 3) := by decide +kernel
theorem dX5_undo_17 : decode cX5_undo 17 = .ok (.athrow, 1) := by decide +kernel
theorem dX5_undo_18 : decode cX5_undo 18 = .ok (.aload_n 0, 1) := by decide +kernel
theorem dX5_undo_19 : decode cX5_undo 19 = .ok (.getfield 25, 3) := by decide +kernel
theorem dX5_undo_22 : decode cX5_undo 22 = .ok (.aload_n 0, 1) := by decide +kernel
theorem dX5_undo_23 : decode cX5_undo 23 = .ok (.getfield 25, 3) := by decide +kernel
theorem dX5_undo_26 : decode cX5_undo 26 = .ok (.invokevirtual 160, 3) := by decide +kernel
theorem dX5_undo_29 : decode cX5_undo 29 = .ok (.iconst 1, 1) := by decide +kernel
theorem dX5_undo_30 : decode cX5_undo 30 = .ok (.isub, 1) := by decide +kernel
theorem dX5_undo_31 : decode cX5_undo 31 = .ok (.invokevirtual 154, 3) := by decide +kernel
theorem dX5_undo_34 : decode cX5_undo 34 = .ok (.aload_n 0, 1) := by decide +kernel
theorem dX5_undo_35 : decode cX5_undo 35 = .ok (.invokevirtual 157, 3) := by decide +kernel
theorem dX5_undo_38 : decode cX5_undo 38 = .ok (.aload_n 0, 1) := by decide +kernel
theorem dX5_undo_39 : decode cX5_undo 39 = .ok (.getfield 25, 3) := by decide +kernel
theorem dX5_undo_42 : decode cX5_undo 42 = .ok (.invokevirtual 160, 3) := by decide +kernel
theorem dX5_undo_45 : decode cX5_undo 45 = .ok (.ireturn, 1) := by decide +kernel
theorem dX5_idle_0 : decode cX5_idle 0 = .ok (.iconst 0, 1) := by decide +kernel
theorem dX5_idle_1 : decode cX5_idle 1 = .ok (.istore_n 1, 1) := by decide +kernel
theorem dX5_idle_2 : decode cX5_idle 2 = .ok (.aload_n 0, 1) := by decide +kernel
theorem dX5_idle_3 : decode cX5_idle 3 = .ok (.getfield 39, 3) := by decide +kernel
theorem dX5_idle_6 : decode cX5_idle 6 = .ok (.aload_n 0, 1) := by decide +kernel
theorem dX5_idle_7 : decode cX5_idle 7 = .ok (.getfield 10, 3) := by decide +kernel
theorem dX5_idle_10 : decode cX5_idle 10 = .ok (.invokevirtual 89, 3) := by decide +kernel
theorem dX5_idle_13 : decode cX5_idle 13 = .ok (.iconst 0, 1) := by decide +kernel
theorem dX5_idle_14 : decode cX5_idle 14 = .ok (.istore_n 2, 1) := by decide +kernel
theorem dX5_idle_15 : decode cX5_idle 15 = .ok (.iload_n 2, 1) := by decide +kernel
theorem dX5_idle_16 : decode cX5_idle 16 = .ok (.aload_n 0, 1) := by decide +kernel
theorem dX5_idle_17 : decode cX5_idle 17 = .ok (.getfield 25, 3) := by decide +kernel
theorem dX5_idle_20 : decode cX5_idle 20 = .ok (.invokevirtual 160, 3) := by decide +kernel
theorem dX5_idle_23 : decode cX5_idle 23 = .ok (.if_icmp .ge 52, 3) := by decide +kernel
theorem dX5_idle_26 : decode cX5_idle 26 = .ok (.aload_n 0, 1) := by decide +kernel
theorem dX5_idle_27 : decode cX5_idle 27 = .ok (.aload_n 0, 1) := by decide +kernel
theorem dX5_idle_28 : decode cX5_idle 28 = .ok (.getfield 10, 3) := by decide +kernel
theorem dX5_idle_31 : decode cX5_idle 31 = .ok (.getfield 71, 3) := by decide +kernel
theorem dX5_idle_34 : decode cX5_idle 34 = .ok (.iload_n 2, 1) := by decide +kernel
theorem dX5_idle_35 : decode cX5_idle 35 = .ok (.invokevirtual 116, 3) := by decide +kernel
theorem dX5_idle_38 : decode cX5_idle 38 = .ok (.aload_n 0, 1) := by decide +kernel
theorem dX5_idle_39 : decode cX5_idle 39 = .ok (.getfield 43, 3) := by decide +kernel
theorem dX5_idle_42 : decode cX5_idle 42 = .ok (.aload_n 0, 1) := by decide +kernel
theorem dX5_idle_43 : decode cX5_idle 43 = .ok (.getfield 32, 3) := by decide +kernel
theorem dX5_idle_46 : decode cX5_idle 46 = .ok (.getfield 120, 3) := by decide +kernel
theorem dX5_idle_49 : decode cX5_idle 49 = .ok (.invokevirtual 89, 3) := by decide +kernel
theorem dX5_idle_52 : decode cX5_idle 52 = .ok (.aload_n 0, 1) := by decide +kernel
theorem dX5_idle_53 : decode cX5_idle 53 = .ok (.getfield 43, 3) := by decide +kernel
theorem dX5_idle_56 : decode cX5_idle 56 = .ok (.aload_n 0, 1) := by decide +kernel
theorem dX5_idle_57 : decode cX5_idle 57 = .ok (.getfield 39, 3) := by decide +kernel
theorem dX5_idle_60 : decode cX5_idle 60 = .ok (.invokevirtual 167, 3) := by decide +kernel
theorem dX5_idle_63 : decode cX5_idle 63 = .ok (.ifCond .eq 6, 3) := by decide +kernel
theorem dX5_idle_66 : decode cX5_idle 66 = .ok (.iinc 1 1, 3) := by decide +kernel
theorem dX5_idle_69 : decode cX5_idle 69 = .ok (.iinc 2 1, 3) := by decide +kernel
theorem dX5_idle_72 : decode cX5_idle 72 = .ok (.goto (-57), 3) := by decide +kernel
theorem dX5_idle_75 : decode cX5_idle 75 = .ok (.iload_n 1, 1) := by decide +kernel
theorem dX5_idle_76 : decode cX5_idle 76 = .ok (.ireturn, 1) := by decide +kernel
theorem dX5_digest_0 : decode cX5_digest 0 = .ok (.ldc2_w 197, 3) := by decide +kernel
theorem dX5_digest_3 : decode cX5_digest 3 = .ok (.aload_n 0, 1) := by decide +kernel
theorem dX5_digest_4 : decode cX5_digest 4 = .ok (.getfield 49, 3) := by decide +kernel
theorem dX5_digest_7 : decode cX5_digest 7 = .ok (.invokevirtual 199, 3) := by decide +kernel
theorem dX5_digest_10 : decode cX5_digest 10 = .ok (.invokestatic 200, 3) := by decide +kernel
theorem dX5_digest_13 : decode cX5_digest 13 = .ok (.lstore_n 1, 1) := by decide +kernel
theorem dX5_digest_14 : decode cX5_digest 14 = .ok (.iconst 0, 1) := by decide +kernel
theorem dX5_digest_15 : decode cX5_digest 15 = .ok (.istore_n 3, 1) := by decide +kernel
theorem dX5_digest_16 : decode cX5_digest 16 = .ok (.iload_n 3, 1) := by decide +kernel
theorem dX5_digest_17 : decode cX5_digest 17 = .ok (.bipush 8, 2) := by decide +kernel
theorem dX5_digest_19 : decode cX5_digest 19 = .ok (.if_icmp .gt 19, 3) := by decide +kernel
theorem dX5_digest_22 : decode cX5_digest 22 = .ok (.lload_n 1, 1) := by decide +kernel
theorem dX5_digest_23 : decode cX5_digest 23 = .ok (.aload_n 0, 1) := by decide +kernel
theorem dX5_digest_24 : decode cX5_digest 24 = .ok (.iload_n 3, 1) := by decide +kernel
theorem dX5_digest_25 : decode cX5_digest 25 = .ok (.invokevirtual 81, 3) := by decide +kernel
theorem dX5_digest_28 : decode cX5_digest 28 = .ok (.invokestatic 200, 3) := by decide +kernel
theorem dX5_digest_31 : decode cX5_digest 31 = .ok (.lstore_n 1, 1) := by decide +kernel
theorem dX5_digest_32 : decode cX5_digest 32 = .ok (.iinc 3 1, 3) := by decide +kernel
theorem dX5_digest_35 : decode cX5_digest 35 = .ok (.goto (-19), 3) := by decide +kernel
theorem dX5_digest_38 : decode cX5_digest 38 = .ok (.aload_n 0, 1) := by decide +kernel
theorem dX5_digest_39 : decode cX5_digest 39 = .ok (.lload_n 1, 1) := by decide +kernel
theorem dX5_digest_40 : decode cX5_digest 40 = .ok (.invokevirtual 204, 3) := by decide +kernel
theorem dX5_digest_43 : decode cX5_digest 43 = .ok (.lstore_n 1, 1) := by decide +kernel
theorem dX5_digest_44 : decode cX5_digest 44 = .ok (.aload_n 0, 1) := by decide +kernel
theorem dX5_digest_45 : decode cX5_digest 45 = .ok (.lload_n 1, 1) := by decide +kernel
theorem dX5_digest_46 : decode cX5_digest 46 = .ok (.invokevirtual 208, 3) := by decide +kernel
theorem dX5_digest_49 : decode cX5_digest 49 = .ok (.lstore_n 1, 1) := by decide +kernel
theorem dX5_digest_50 : decode cX5_digest 50 = .ok (.aload_n 0, 1) := by decide +kernel
theorem dX5_digest_51 : decode cX5_digest 51 = .ok (.lload_n 1, 1) := by decide +kernel
theorem dX5_digest_52 : decode cX5_digest 52 = .ok (.invokevirtual 211, 3) := by decide +kernel
theorem dX5_digest_55 : decode cX5_digest 55 = .ok (.lreturn, 1) := by decide +kernel
theorem dX5_checkSource_0 : decode cX5_checkSource 0 = .ok (.iload_n 0, 1) := by decide +kernel
theorem dX5_checkSource_1 : decode cX5_checkSource 1 = .ok (.ifCond .lt 9, 3) := by decide +kernel
theorem dX5_checkSource_4 : decode cX5_checkSource 4 = .ok (.iload_n 0, 1) := by decide +kernel
theorem dX5_checkSource_5 : decode cX5_checkSource 5 = .ok (.bipush 10, 2) := by decide +kernel
theorem dX5_checkSource_7 : decode cX5_checkSource 7 = .ok (.if_icmp .lt 11, 3) := by decide +kernel
theorem dX5_checkSource_10 : decode cX5_checkSource 10 = .ok (.new 68, 3) := by decide +kernel
theorem dX5_checkSource_13 : decode cX5_checkSource 13 = .ok (.dup, 1) := by decide +kernel
theorem dX5_checkSource_14 : decode cX5_checkSource 14 = .ok (.invokespecial 70, 3) := by decide +kernel
theorem dX5_checkSource_17 : decode cX5_checkSource 17 = .ok (.athrow, 1) := by decide +kernel
theorem dX5_checkSource_18 : decode cX5_checkSource 18 = .ok (.return_, 1) := by decide +kernel
theorem dX5_checkKeyer_0 : decode cX5_checkKeyer 0 = .ok (.iload_n 0, 1) := by decide +kernel
theorem dX5_checkKeyer_1 : decode cX5_checkKeyer 1 = .ok (.ifCond .lt 8, 3) := by decide +kernel
theorem dX5_checkKeyer_4 : decode cX5_checkKeyer 4 = .ok (.iload_n 0, 1) := by decide +kernel
theorem dX5_checkKeyer_5 : decode cX5_checkKeyer 5 = .ok (.iconst 3, 1) := by decide +kernel
theorem dX5_checkKeyer_6 : decode cX5_checkKeyer 6 = .ok (.if_icmp .lt 11, 3) := by decide +kernel
theorem dX5_checkKeyer_9 : decode cX5_checkKeyer 9 = .ok (.new 68, 3) := by decide +kernel
theorem dX5_checkKeyer_12 : decode cX5_checkKeyer 12 = .ok (.dup, 1) := by decide +kernel
theorem dX5_checkKeyer_13 : decode cX5_checkKeyer 13 = .ok (.invokespecial 70, 3) := by decide +kernel
theorem dX5_checkKeyer_16 : decode cX5_checkKeyer 16 = .ok (.athrow, 1) := by decide +kernel
theorem dX5_checkKeyer_17 : decode cX5_checkKeyer 17 = .ok (.return_, 1) := by decide +kernel
theorem dX5_checkAct_0 : decode cX5_checkAct 0 = .ok (.iload_n 1, 1) := by decide +kernel
theorem dX5_checkAct_1 : decode cX5_checkAct 1 = .ok (.ifCond .lt 14, 3) := by decide +kernel
theorem dX5_checkAct_4 : decode cX5_checkAct 4 = .ok (.iload_n 1, 1) := by decide +kernel
theorem dX5_checkAct_5 : decode cX5_checkAct 5 = .ok (.aload_n 0, 1) := by decide +kernel
theorem dX5_checkAct_6 : decode cX5_checkAct 6 = .ok (.getfield 25, 3) := by decide +kernel
theorem dX5_checkAct_9 : decode cX5_checkAct 9 = .ok (.invokevirtual 160, 3) := by decide +kernel
theorem dX5_checkAct_12 : decode cX5_checkAct 12 = .ok (.if_icmp .lt 11, 3) := by decide +kernel
theorem dX5_checkAct_15 : decode cX5_checkAct 15 = .ok (.new 68, 3) := by decide +kernel
theorem dX5_checkAct_18 : decode cX5_checkAct 18 = .ok (.dup, 1) := by decide +kernel
theorem dX5_checkAct_19 : decode cX5_checkAct 19 = .ok (.invokespecial 70, 3) := by decide +kernel
theorem dX5_checkAct_22 : decode cX5_checkAct 22 = .ok (.athrow, 1) := by decide +kernel
theorem dX5_checkAct_23 : decode cX5_checkAct 23 = .ok (.return_, 1) := by decide +kernel
theorem dX5_checkRange_0 : decode cX5_checkRange 0 = .ok (.iload_n 0, 1) := by decide +kernel
theorem dX5_checkRange_1 : decode cX5_checkRange 1 = .ok (.iload_n 1, 1) := by decide +kernel
theorem dX5_checkRange_2 : decode cX5_checkRange 2 = .ok (.if_icmp .lt 8, 3) := by decide +kernel
theorem dX5_checkRange_5 : decode cX5_checkRange 5 = .ok (.iload_n 0, 1) := by decide +kernel
theorem dX5_checkRange_6 : decode cX5_checkRange 6 = .ok (.iload_n 2, 1) := by decide +kernel
theorem dX5_checkRange_7 : decode cX5_checkRange 7 = .ok (.if_icmp .le 11, 3) := by decide +kernel
theorem dX5_checkRange_10 : decode cX5_checkRange 10 = .ok (.new 214, 3) := by decide +kernel
theorem dX5_checkRange_13 : decode cX5_checkRange 13 = .ok (.dup, 1) := by decide +kernel
theorem dX5_checkRange_14 : decode cX5_checkRange 14 = .ok (.invokespecial 216, 3) := by decide +kernel
theorem dX5_checkRange_17 : decode cX5_checkRange 17 = .ok (.athrow, 1) := by decide +kernel
theorem dX5_checkRange_18 : decode cX5_checkRange 18 = .ok (.return_, 1) := by decide +kernel
theorem dX5_mayAct_0 : decode cX5_mayAct 0 = .ok (.aload_n 0, 1) := by decide +kernel
theorem dX5_mayAct_1 : decode cX5_mayAct 1 = .ok (.getfield 25, 3) := by decide +kernel
theorem dX5_mayAct_4 : decode cX5_mayAct 4 = .ok (.invokevirtual 217, 3) := by decide +kernel
theorem dX5_mayAct_7 : decode cX5_mayAct 7 = .ok (.ifCond .ne 18, 3) := by decide +kernel
theorem dX5_mayAct_10 : decode cX5_mayAct 10 = .ok (.aload_n 0, 1) := by decide +kernel
theorem dX5_mayAct_11 : decode cX5_mayAct 11 = .ok (.getfield 10, 3) := by decide +kernel
theorem dX5_mayAct_14 : decode cX5_mayAct 14 = .ok (.iload_n 1, 1) := by decide +kernel
theorem dX5_mayAct_15 : decode cX5_mayAct 15 = .ok (.invokevirtual 218, 3) := by decide +kernel
theorem dX5_mayAct_18 : decode cX5_mayAct 18 = .ok (.ifCond .eq 7, 3) := by decide +kernel
theorem dX5_mayAct_21 : decode cX5_mayAct 21 = .ok (.iconst 1, 1) := by decide +kernel
theorem dX5_mayAct_22 : decode cX5_mayAct 22 = .ok (.goto 4, 3) := by decide +kernel
theorem dX5_mayAct_25 : decode cX5_mayAct 25 = .ok (.iconst 0, 1) := by decide +kernel
theorem dX5_mayAct_26 : decode cX5_mayAct 26 = .ok (.ireturn, 1) := by decide +kernel
theorem dX5_enact_0 : decode cX5_enact 0 = .ok (.aload_n 0, 1) := by decide +kernel
theorem dX5_enact_1 : decode cX5_enact 1 = .ok (.iload_n 1, 1) := by decide +kernel
theorem dX5_enact_2 : decode cX5_enact 2 = .ok (.invokevirtual 221, 3) := by decide +kernel
theorem dX5_enact_5 : decode cX5_enact 5 = .ok (.ifCond .ne 11, 3) := by decide +kernel
theorem dX5_enact_8 : decode cX5_enact 8 = .ok (.new 75, 3) := by decide +kernel
theorem dX5_enact_11 : decode cX5_enact 11 = .ok (.dup, 1) := by decide +kernel
theorem dX5_enact_12 : decode cX5_enact 12 = .ok (.invokespecial 77, 3) := by decide +kernel
theorem dX5_enact_15 : decode cX5_enact 15 = .ok (.athrow, 1) := by decide +kernel
theorem dX5_enact_16 : decode cX5_enact 16 = .ok (.aload_n 0, 1) := by decide +kernel
theorem dX5_enact_17 : decode cX5_enact 17 = .ok (.getfield 25, 3) := by decide +kernel
theorem dX5_enact_20 : decode cX5_enact 20 = .ok (.aload_n 0, 1) := by decide +kernel
theorem dX5_enact_21 : decode cX5_enact 21 = .ok (.getfield 10, 3) := by decide +kernel
theorem dX5_enact_24 : decode cX5_enact 24 = .ok (.getfield 71, 3) := by decide +kernel
theorem dX5_enact_27 : decode cX5_enact 27 = .ok (.iload_n 1, 1) := by decide +kernel
theorem dX5_enact_28 : decode cX5_enact 28 = .ok (.iload_n 2, 1) := by decide +kernel
theorem dX5_enact_29 : decode cX5_enact 29 = .ok (.iload_n 3, 1) := by decide +kernel
theorem dX5_enact_30 : decode cX5_enact 30 = .ok (.iload 4, 2) := by decide +kernel
theorem dX5_enact_32 : decode cX5_enact 32 = .ok (.iload 5, 2) := by decide +kernel
theorem dX5_enact_34 : decode cX5_enact 34 = .ok (.invokevirtual 224, 3) := by decide +kernel
theorem dX5_enact_37 : decode cX5_enact 37 = .ok (.aload_n 0, 1) := by decide +kernel
theorem dX5_enact_38 : decode cX5_enact 38 = .ok (.getfield 10, 3) := by decide +kernel
theorem dX5_enact_41 : decode cX5_enact 41 = .ok (.iload_n 1, 1) := by decide +kernel
theorem dX5_enact_42 : decode cX5_enact 42 = .ok (.iload_n 2, 1) := by decide +kernel
theorem dX5_enact_43 : decode cX5_enact 43 = .ok (.iload_n 3, 1) := by decide +kernel
theorem dX5_enact_44 : decode cX5_enact 44 = .ok (.iload 4, 2) := by decide +kernel
theorem dX5_enact_46 : decode cX5_enact 46 = .ok (.iload 5, 2) := by decide +kernel
theorem dX5_enact_48 : decode cX5_enact 48 = .ok (.invokevirtual 227, 3) := by decide +kernel
theorem dX5_enact_51 : decode cX5_enact 51 = .ok (.ireturn, 1) := by decide +kernel
theorem dX5_replayTo_0 : decode cX5_replayTo 0 = .ok (.aload_n 0, 1) := by decide +kernel
theorem dX5_replayTo_1 : decode cX5_replayTo 1 = .ok (.getfield 32, 3) := by decide +kernel
theorem dX5_replayTo_4 : decode cX5_replayTo 4 = .ok (.invokevirtual 126, 3) := by decide +kernel
theorem dX5_replayTo_7 : decode cX5_replayTo 7 = .ok (.aload_n 0, 1) := by decide +kernel
theorem dX5_replayTo_8 : decode cX5_replayTo 8 = .ok (.getfield 32, 3) := by decide +kernel
theorem dX5_replayTo_11 : decode cX5_replayTo 11 = .ok (.aload_n 0, 1) := by decide +kernel
theorem dX5_replayTo_12 : decode cX5_replayTo 12 = .ok (.getfield 25, 3) := by decide +kernel
theorem dX5_replayTo_15 : decode cX5_replayTo 15 = .ok (.iload_n 1, 1) := by decide +kernel
theorem dX5_replayTo_16 : decode cX5_replayTo 16 = .ok (.iload_n 2, 1) := by decide +kernel
theorem dX5_replayTo_17 : decode cX5_replayTo 17 = .ok (.invokevirtual 239, 3) := by decide +kernel
theorem dX5_replayTo_20 : decode cX5_replayTo 20 = .ok (.return_, 1) := by decide +kernel
theorem dX5_replayPresent_0 : decode cX5_replayPresent 0 = .ok (.aload_n 0, 1) := by decide +kernel
theorem dX5_replayPresent_1 : decode cX5_replayPresent 1 = .ok (.getfield 32, 3) := by decide +kernel
theorem dX5_replayPresent_4 : decode cX5_replayPresent 4 = .ok (.invokevirtual 126, 3) := by decide +kernel
theorem dX5_replayPresent_7 : decode cX5_replayPresent 7 = .ok (.aload_n 0, 1) := by decide +kernel
theorem dX5_replayPresent_8 : decode cX5_replayPresent 8 = .ok (.getfield 32, 3) := by decide +kernel
theorem dX5_replayPresent_11 : decode cX5_replayPresent 11 = .ok (.aload_n 0, 1) := by decide +kernel
theorem dX5_replayPresent_12 : decode cX5_replayPresent 12 = .ok (.getfield 25, 3) := by decide +kernel
theorem dX5_replayPresent_15 : decode cX5_replayPresent 15 = .ok (.aload_n 0, 1) := by decide +kernel
theorem dX5_replayPresent_16 : decode cX5_replayPresent 16 = .ok (.getfield 10, 3) := by decide +kernel
theorem dX5_replayPresent_19 : decode cX5_replayPresent 19 = .ok (.getfield 71, 3) := by decide +kernel
theorem dX5_replayPresent_22 : decode cX5_replayPresent 22 = .ok (.iconst (-1), 1) := by decide +kernel
theorem dX5_replayPresent_23 : decode cX5_replayPresent 23 = .ok (.invokevirtual 239, 3) := by decide +kernel
theorem dX5_replayPresent_26 : decode cX5_replayPresent 26 = .ok (.aload_n 0, 1) := by decide +kernel
theorem dX5_replayPresent_27 : decode cX5_replayPresent 27 = .ok (.getfield 10, 3) := by decide +kernel
theorem dX5_replayPresent_30 : decode cX5_replayPresent 30 = .ok (.aload_n 0, 1) := by decide +kernel
theorem dX5_replayPresent_31 : decode cX5_replayPresent 31 = .ok (.getfield 32, 3) := by decide +kernel
theorem dX5_replayPresent_34 : decode cX5_replayPresent 34 = .ok (.getfield 120, 3) := by decide +kernel
theorem dX5_replayPresent_37 : decode cX5_replayPresent 37 = .ok (.invokevirtual 184, 3) := by decide +kernel
theorem dX5_replayPresent_40 : decode cX5_replayPresent 40 = .ok (.return_, 1) := by decide +kernel
theorem dX5_redsAt_0 : decode cX5_redsAt 0 = .ok (.aload_n 0, 1) := by decide +kernel
theorem dX5_redsAt_1 : decode cX5_redsAt 1 = .ok (.getfield 32, 3) := by decide +kernel
theorem dX5_redsAt_4 : decode cX5_redsAt 4 = .ok (.aload_n 0, 1) := by decide +kernel
theorem dX5_redsAt_5 : decode cX5_redsAt 5 = .ok (.getfield 25, 3) := by decide +kernel
theorem dX5_redsAt_8 : decode cX5_redsAt 8 = .ok (.iload_n 1, 1) := by decide +kernel
theorem dX5_redsAt_9 : decode cX5_redsAt 9 = .ok (.iconst (-1), 1) := by decide +kernel
theorem dX5_redsAt_10 : decode cX5_redsAt 10 = .ok (.invokevirtual 239, 3) := by decide +kernel
theorem dX5_redsAt_13 : decode cX5_redsAt 13 = .ok (.aload_n 0, 1) := by decide +kernel
theorem dX5_redsAt_14 : decode cX5_redsAt 14 = .ok (.getfield 43, 3) := by decide +kernel
theorem dX5_redsAt_17 : decode cX5_redsAt 17 = .ok (.aload_n 0, 1) := by decide +kernel
theorem dX5_redsAt_18 : decode cX5_redsAt 18 = .ok (.getfield 32, 3) := by decide +kernel
theorem dX5_redsAt_21 : decode cX5_redsAt 21 = .ok (.getfield 120, 3) := by decide +kernel
theorem dX5_redsAt_24 : decode cX5_redsAt 24 = .ok (.invokevirtual 89, 3) := by decide +kernel
theorem dX5_redsAt_27 : decode cX5_redsAt 27 = .ok (.aload_n 0, 1) := by decide +kernel
theorem dX5_redsAt_28 : decode cX5_redsAt 28 = .ok (.getfield 43, 3) := by decide +kernel
theorem dX5_redsAt_31 : decode cX5_redsAt 31 = .ok (.invokevirtual 164, 3) := by decide +kernel
theorem dX5_redsAt_34 : decode cX5_redsAt 34 = .ok (.ireturn, 1) := by decide +kernel
theorem dX5_presentSetting_0 : decode cX5_presentSetting 0 = .ok (.iload_n 1, 1) := by decide +kernel
theorem dX5_presentSetting_1 : decode cX5_presentSetting 1 = .ok (.bipush 8, 2) := by decide +kernel
theorem dX5_presentSetting_3 : decode cX5_presentSetting 3 = .ok (.if_icmp .ne 13, 3) := by decide +kernel
theorem dX5_presentSetting_6 : decode cX5_presentSetting 6 = .ok (.aload_n 0, 1) := by decide +kernel
theorem dX5_presentSetting_7 : decode cX5_presentSetting 7 = .ok (.getfield 25, 3) := by decide +kernel
theorem dX5_presentSetting_10 : decode cX5_presentSetting 10 = .ok (.invokevirtual 160, 3) := by decide +kernel
theorem dX5_presentSetting_13 : decode cX5_presentSetting 13 = .ok (.goto 11, 3) := by decide +kernel
theorem dX5_presentSetting_16 : decode cX5_presentSetting 16 = .ok (.aload_n 0, 1) := by decide +kernel
theorem dX5_presentSetting_17 : decode cX5_presentSetting 17 = .ok (.getfield 10, 3) := by decide +kernel
theorem dX5_presentSetting_20 : decode cX5_presentSetting 20 = .ok (.iload_n 1, 1) := by decide +kernel
theorem dX5_presentSetting_21 : decode cX5_presentSetting 21 = .ok (.invokevirtual 123, 3) := by decide +kernel
theorem dX5_presentSetting_24 : decode cX5_presentSetting 24 = .ok (.ireturn, 1) := by decide +kernel
theorem dX5_paintTallies_0 : decode cX5_paintTallies 0 = .ok (.aload_n 0, 1) := by decide +kernel
theorem dX5_paintTallies_1 : decode cX5_paintTallies 1 = .ok (.getfield 39, 3) := by decide +kernel
theorem dX5_paintTallies_4 : decode cX5_paintTallies 4 = .ok (.aload_n 0, 1) := by decide +kernel
theorem dX5_paintTallies_5 : decode cX5_paintTallies 5 = .ok (.getfield 10, 3) := by decide +kernel
theorem dX5_paintTallies_8 : decode cX5_paintTallies 8 = .ok (.invokevirtual 89, 3) := by decide +kernel
theorem dX5_paintTallies_11 : decode cX5_paintTallies 11 = .ok (.aload_n 0, 1) := by decide +kernel
theorem dX5_paintTallies_12 : decode cX5_paintTallies 12 = .ok (.getfield 19, 3) := by decide +kernel
theorem dX5_paintTallies_15 : decode cX5_paintTallies 15 = .ok (.aload_n 0, 1) := by decide +kernel
theorem dX5_paintTallies_16 : decode cX5_paintTallies 16 = .ok (.getfield 10, 3) := by decide +kernel
theorem dX5_paintTallies_19 : decode cX5_paintTallies 19 = .ok (.invokevirtual 184, 3) := by decide +kernel
theorem dX5_paintTallies_22 : decode cX5_paintTallies 22 = .ok (.aload_n 0, 1) := by decide +kernel
theorem dX5_paintTallies_23 : decode cX5_paintTallies 23 = .ok (.getfield 19, 3) := by decide +kernel
theorem dX5_paintTallies_26 : decode cX5_paintTallies 26 = .ok (.invokevirtual 243, 3) := by decide +kernel
theorem dX5_paintTallies_29 : decode cX5_paintTallies 29 = .ok (.aload_n 0, 1) := by decide +kernel
theorem dX5_paintTallies_30 : decode cX5_paintTallies 30 = .ok (.getfield 43, 3) := by decide +kernel
theorem dX5_paintTallies_33 : decode cX5_paintTallies 33 = .ok (.aload_n 0, 1) := by decide +kernel
theorem dX5_paintTallies_34 : decode cX5_paintTallies 34 = .ok (.getfield 19, 3) := by decide +kernel
theorem dX5_paintTallies_37 : decode cX5_paintTallies 37 = .ok (.invokevirtual 89, 3) := by decide +kernel
theorem dX5_paintTallies_40 : decode cX5_paintTallies 40 = .ok (.return_, 1) := by decide +kernel
theorem dX5_tallyPainted_0 : decode cX5_tallyPainted 0 = .ok (.aload_n 0, 1) := by decide +kernel
theorem dX5_tallyPainted_1 : decode cX5_tallyPainted 1 = .ok (.getfield 39, 3) := by decide +kernel
theorem dX5_tallyPainted_4 : decode cX5_tallyPainted 4 = .ok (.iload_n 1, 1) := by decide +kernel
theorem dX5_tallyPainted_5 : decode cX5_tallyPainted 5 = .ok (.invokevirtual 99, 3) := by decide +kernel
theorem dX5_tallyPainted_8 : decode cX5_tallyPainted 8 = .ok (.ifCond .le 5, 3) := by decide +kernel
theorem dX5_tallyPainted_11 : decode cX5_tallyPainted 11 = .ok (.iconst 2, 1) := by decide +kernel
theorem dX5_tallyPainted_12 : decode cX5_tallyPainted 12 = .ok (.ireturn, 1) := by decide +kernel
theorem dX5_tallyPainted_13 : decode cX5_tallyPainted 13 = .ok (.aload_n 0, 1) := by decide +kernel
theorem dX5_tallyPainted_14 : decode cX5_tallyPainted 14 = .ok (.getfield 43, 3) := by decide +kernel
theorem dX5_tallyPainted_17 : decode cX5_tallyPainted 17 = .ok (.iload_n 1, 1) := by decide +kernel
theorem dX5_tallyPainted_18 : decode cX5_tallyPainted 18 = .ok (.invokevirtual 99, 3) := by decide +kernel
theorem dX5_tallyPainted_21 : decode cX5_tallyPainted 21 = .ok (.ifCond .le 7, 3) := by decide +kernel
theorem dX5_tallyPainted_24 : decode cX5_tallyPainted 24 = .ok (.iconst 1, 1) := by decide +kernel
theorem dX5_tallyPainted_25 : decode cX5_tallyPainted 25 = .ok (.goto 4, 3) := by decide +kernel
theorem dX5_tallyPainted_28 : decode cX5_tallyPainted 28 = .ok (.iconst 0, 1) := by decide +kernel
theorem dX5_tallyPainted_29 : decode cX5_tallyPainted 29 = .ok (.ireturn, 1) := by decide +kernel
theorem dX5_hashKeyers_0 : decode cX5_hashKeyers 0 = .ok (.lload_n 1, 1) := by decide +kernel
theorem dX5_hashKeyers_1 : decode cX5_hashKeyers 1 = .ok (.lstore_n 3, 1) := by decide +kernel
theorem dX5_hashKeyers_2 : decode cX5_hashKeyers 2 = .ok (.iconst 0, 1) := by decide +kernel
theorem dX5_hashKeyers_3 : decode cX5_hashKeyers 3 = .ok (.istore 5, 2) := by decide +kernel
theorem dX5_hashKeyers_5 : decode cX5_hashKeyers 5 = .ok (.iload 5, 2) := by decide +kernel
theorem dX5_hashKeyers_7 : decode cX5_hashKeyers 7 = .ok (.iconst 3, 1) := by decide +kernel
theorem dX5_hashKeyers_8 : decode cX5_hashKeyers 8 = .ok (.if_icmp .ge 40, 3) := by decide +kernel
theorem dX5_hashKeyers_11 : decode cX5_hashKeyers 11 = .ok (.iconst 0, 1) := by decide +kernel
theorem dX5_hashKeyers_12 : decode cX5_hashKeyers 12 = .ok (.istore 6, 2) := by decide +kernel
theorem dX5_hashKeyers_14 : decode cX5_hashKeyers 14 = .ok (.iload 6, 2) := by decide +kernel
theorem dX5_hashKeyers_16 : decode cX5_hashKeyers 16 = .ok (.iconst 3, 1) := by decide +kernel
theorem dX5_hashKeyers_17 : decode cX5_hashKeyers 17 = .ok (.if_icmp .gt 25, 3) := by decide +kernel
theorem dX5_hashKeyers_20 : decode cX5_hashKeyers 20 = .ok (.lload_n 3, 1) := by decide +kernel
theorem dX5_hashKeyers_21 : decode cX5_hashKeyers 21 = .ok (.aload_n 0, 1) := by decide +kernel
theorem dX5_hashKeyers_22 : decode cX5_hashKeyers 22 = .ok (.getfield 10, 3) := by decide +kernel
theorem dX5_hashKeyers_25 : decode cX5_hashKeyers 25 = .ok (.iload 5, 2) := by decide +kernel
theorem dX5_hashKeyers_27 : decode cX5_hashKeyers 27 = .ok (.iload 6, 2) := by decide +kernel
theorem dX5_hashKeyers_29 : decode cX5_hashKeyers 29 = .ok (.invokevirtual 85, 3) := by decide +kernel
theorem dX5_hashKeyers_32 : decode cX5_hashKeyers 32 = .ok (.invokestatic 200, 3) := by decide +kernel
theorem dX5_hashKeyers_35 : decode cX5_hashKeyers 35 = .ok (.lstore_n 3, 1) := by decide +kernel
theorem dX5_hashKeyers_36 : decode cX5_hashKeyers 36 = .ok (.iinc 6 1, 3) := by decide +kernel
theorem dX5_hashKeyers_39 : decode cX5_hashKeyers 39 = .ok (.goto (-25), 3) := by decide +kernel
theorem dX5_hashKeyers_42 : decode cX5_hashKeyers 42 = .ok (.iinc 5 1, 3) := by decide +kernel
theorem dX5_hashKeyers_45 : decode cX5_hashKeyers 45 = .ok (.goto (-40), 3) := by decide +kernel
theorem dX5_hashKeyers_48 : decode cX5_hashKeyers 48 = .ok (.lload_n 3, 1) := by decide +kernel
theorem dX5_hashKeyers_49 : decode cX5_hashKeyers 49 = .ok (.lreturn, 1) := by decide +kernel
theorem dX5_hashSources_0 : decode cX5_hashSources 0 = .ok (.lload_n 1, 1) := by decide +kernel
theorem dX5_hashSources_1 : decode cX5_hashSources 1 = .ok (.lstore_n 3, 1) := by decide +kernel
theorem dX5_hashSources_2 : decode cX5_hashSources 2 = .ok (.aload_n 0, 1) := by decide +kernel
theorem dX5_hashSources_3 : decode cX5_hashSources 3 = .ok (.invokevirtual 102, 3) := by decide +kernel
theorem dX5_hashSources_6 : decode cX5_hashSources 6 = .ok (.iconst 0, 1) := by decide +kernel
theorem dX5_hashSources_7 : decode cX5_hashSources 7 = .ok (.istore 5, 2) := by decide +kernel
theorem dX5_hashSources_9 : decode cX5_hashSources 9 = .ok (.iload 5, 2) := by decide +kernel
theorem dX5_hashSources_11 : decode cX5_hashSources 11 = .ok (.bipush 10, 2) := by decide +kernel
theorem dX5_hashSources_13 : decode cX5_hashSources 13 = .ok (.if_icmp .ge 55, 3) := by decide +kernel
theorem dX5_hashSources_16 : decode cX5_hashSources 16 = .ok (.lload_n 3, 1) := by decide +kernel
theorem dX5_hashSources_17 : decode cX5_hashSources 17 = .ok (.aload_n 0, 1) := by decide +kernel
theorem dX5_hashSources_18 : decode cX5_hashSources 18 = .ok (.getfield 39, 3) := by decide +kernel
theorem dX5_hashSources_21 : decode cX5_hashSources 21 = .ok (.iload 5, 2) := by decide +kernel
theorem dX5_hashSources_23 : decode cX5_hashSources 23 = .ok (.invokevirtual 99, 3) := by decide +kernel
theorem dX5_hashSources_26 : decode cX5_hashSources 26 = .ok (.invokestatic 200, 3) := by decide +kernel
theorem dX5_hashSources_29 : decode cX5_hashSources 29 = .ok (.lstore_n 3, 1) := by decide +kernel
theorem dX5_hashSources_30 : decode cX5_hashSources 30 = .ok (.lload_n 3, 1) := by decide +kernel
theorem dX5_hashSources_31 : decode cX5_hashSources 31 = .ok (.aload_n 0, 1) := by decide +kernel
theorem dX5_hashSources_32 : decode cX5_hashSources 32 = .ok (.getfield 39, 3) := by decide +kernel
theorem dX5_hashSources_35 : decode cX5_hashSources 35 = .ok (.iload 5, 2) := by decide +kernel
theorem dX5_hashSources_37 : decode cX5_hashSources 37 = .ok (.aload_n 0, 1) := by decide +kernel
theorem dX5_hashSources_38 : decode cX5_hashSources 38 = .ok (.getfield 10, 3) := by decide +kernel
theorem dX5_hashSources_41 : decode cX5_hashSources 41 = .ok (.getfield 93, 3) := by decide +kernel
theorem dX5_hashSources_44 : decode cX5_hashSources 44 = .ok (.invokevirtual 96, 3) := by decide +kernel
theorem dX5_hashSources_47 : decode cX5_hashSources 47 = .ok (.invokestatic 200, 3) := by decide +kernel
theorem dX5_hashSources_50 : decode cX5_hashSources 50 = .ok (.lstore_n 3, 1) := by decide +kernel
theorem dX5_hashSources_51 : decode cX5_hashSources 51 = .ok (.lload_n 3, 1) := by decide +kernel
theorem dX5_hashSources_52 : decode cX5_hashSources 52 = .ok (.aload_n 0, 1) := by decide +kernel
theorem dX5_hashSources_53 : decode cX5_hashSources 53 = .ok (.iload 5, 2) := by decide +kernel
theorem dX5_hashSources_55 : decode cX5_hashSources 55 = .ok (.invokevirtual 105, 3) := by decide +kernel
theorem dX5_hashSources_58 : decode cX5_hashSources 58 = .ok (.invokestatic 200, 3) := by decide +kernel
theorem dX5_hashSources_61 : decode cX5_hashSources 61 = .ok (.lstore_n 3, 1) := by decide +kernel
theorem dX5_hashSources_62 : decode cX5_hashSources 62 = .ok (.iinc 5 1, 3) := by decide +kernel
theorem dX5_hashSources_65 : decode cX5_hashSources 65 = .ok (.goto (-56), 3) := by decide +kernel
theorem dX5_hashSources_68 : decode cX5_hashSources 68 = .ok (.lload_n 3, 1) := by decide +kernel
theorem dX5_hashSources_69 : decode cX5_hashSources 69 = .ok (.lreturn, 1) := by decide +kernel
theorem dX5_hashActs_0 : decode cX5_hashActs 0 = .ok (.lload_n 1, 1) := by decide +kernel
theorem dX5_hashActs_1 : decode cX5_hashActs 1 = .ok (.lstore_n 3, 1) := by decide +kernel
theorem dX5_hashActs_2 : decode cX5_hashActs 2 = .ok (.iconst 0, 1) := by decide +kernel
theorem dX5_hashActs_3 : decode cX5_hashActs 3 = .ok (.istore 5, 2) := by decide +kernel
theorem dX5_hashActs_5 : decode cX5_hashActs 5 = .ok (.iload 5, 2) := by decide +kernel
theorem dX5_hashActs_7 : decode cX5_hashActs 7 = .ok (.aload_n 0, 1) := by decide +kernel
theorem dX5_hashActs_8 : decode cX5_hashActs 8 = .ok (.getfield 25, 3) := by decide +kernel
theorem dX5_hashActs_11 : decode cX5_hashActs 11 = .ok (.invokevirtual 160, 3) := by decide +kernel
theorem dX5_hashActs_14 : decode cX5_hashActs 14 = .ok (.if_icmp .ge 40, 3) := by decide +kernel
theorem dX5_hashActs_17 : decode cX5_hashActs 17 = .ok (.iconst 0, 1) := by decide +kernel
theorem dX5_hashActs_18 : decode cX5_hashActs 18 = .ok (.istore 6, 2) := by decide +kernel
theorem dX5_hashActs_20 : decode cX5_hashActs 20 = .ok (.iload 6, 2) := by decide +kernel
theorem dX5_hashActs_22 : decode cX5_hashActs 22 = .ok (.iconst 3, 1) := by decide +kernel
theorem dX5_hashActs_23 : decode cX5_hashActs 23 = .ok (.if_icmp .gt 25, 3) := by decide +kernel
theorem dX5_hashActs_26 : decode cX5_hashActs 26 = .ok (.lload_n 3, 1) := by decide +kernel
theorem dX5_hashActs_27 : decode cX5_hashActs 27 = .ok (.aload_n 0, 1) := by decide +kernel
theorem dX5_hashActs_28 : decode cX5_hashActs 28 = .ok (.getfield 25, 3) := by decide +kernel
theorem dX5_hashActs_31 : decode cX5_hashActs 31 = .ok (.iload 5, 2) := by decide +kernel
theorem dX5_hashActs_33 : decode cX5_hashActs 33 = .ok (.iload 6, 2) := by decide +kernel
theorem dX5_hashActs_35 : decode cX5_hashActs 35 = .ok (.invokevirtual 151, 3) := by decide +kernel
theorem dX5_hashActs_38 : decode cX5_hashActs 38 = .ok (.invokestatic 200, 3) := by decide +kernel
theorem dX5_hashActs_41 : decode cX5_hashActs 41 = .ok (.lstore_n 3, 1) := by decide +kernel
theorem dX5_hashActs_42 : decode cX5_hashActs 42 = .ok (.iinc 6 1, 3) := by decide +kernel
theorem dX5_hashActs_45 : decode cX5_hashActs 45 = .ok (.goto (-25), 3) := by decide +kernel
theorem dX5_hashActs_48 : decode cX5_hashActs 48 = .ok (.iinc 5 1, 3) := by decide +kernel
theorem dX5_hashActs_51 : decode cX5_hashActs 51 = .ok (.goto (-46), 3) := by decide +kernel
theorem dX5_hashActs_54 : decode cX5_hashActs 54 = .ok (.lload_n 3, 1) := by decide +kernel
theorem dX5_hashActs_55 : decode cX5_hashActs 55 = .ok (.lreturn, 1) := by decide +kernel
theorem dX5_hashed_0 : decode cX5_hashed 0 = .ok (.ldc2_w 246, 3) := by decide +kernel
theorem dX5_hashed_3 : decode cX5_hashed 3 = .ok (.lload_n 0, 1) := by decide +kernel
theorem dX5_hashed_4 : decode cX5_hashed 4 = .ok (.lmul, 1) := by decide +kernel
theorem dX5_hashed_5 : decode cX5_hashed 5 = .ok (.iload_n 2, 1) := by decide +kernel
theorem dX5_hashed_6 : decode cX5_hashed 6 = .ok (.i2l, 1) := by decide +kernel
theorem dX5_hashed_7 : decode cX5_hashed 7 = .ok (.ladd, 1) := by decide +kernel
theorem dX5_hashed_8 : decode cX5_hashed 8 = .ok (.lreturn, 1) := by decide +kernel
theorem dX5_hasSource_0 : decode cX5_hasSource 0 = .ok (.iload_n 0, 1) := by decide +kernel
theorem dX5_hasSource_1 : decode cX5_hasSource 1 = .ok (.iload_n 1, 1) := by decide +kernel
theorem dX5_hasSource_2 : decode cX5_hasSource 2 = .ok (.ishr, 1) := by decide +kernel
theorem dX5_hasSource_3 : decode cX5_hasSource 3 = .ok (.iconst 1, 1) := by decide +kernel
theorem dX5_hasSource_4 : decode cX5_hasSource 4 = .ok (.iand, 1) := by decide +kernel
theorem dX5_hasSource_5 : decode cX5_hasSource 5 = .ok (.ifCond .eq 7, 3) := by decide +kernel
theorem dX5_hasSource_8 : decode cX5_hasSource 8 = .ok (.iconst 1, 1) := by decide +kernel
theorem dX5_hasSource_9 : decode cX5_hasSource 9 = .ok (.goto 4, 3) := by decide +kernel
theorem dX5_hasSource_12 : decode cX5_hasSource 12 = .ok (.iconst 0, 1) := by decide +kernel
theorem dX5_hasSource_13 : decode cX5_hasSource 13 = .ok (.ireturn, 1) := by decide +kernel
theorem dX5_cell_0 : decode cX5_cell 0 = .ok (.iload_n 1, 1) := by decide +kernel
theorem dX5_cell_1 : decode cX5_cell 1 = .ok (.ifCond .lt 15, 3) := by decide +kernel
theorem dX5_cell_4 : decode cX5_cell 4 = .ok (.iload_n 1, 1) := by decide +kernel
theorem dX5_cell_5 : decode cX5_cell 5 = .ok (.aload_n 0, 1) := by decide +kernel
theorem dX5_cell_6 : decode cX5_cell 6 = .ok (.arraylength, 1) := by decide +kernel
theorem dX5_cell_7 : decode cX5_cell 7 = .ok (.if_icmp .ge 9, 3) := by decide +kernel
theorem dX5_cell_10 : decode cX5_cell 10 = .ok (.aload_n 0, 1) := by decide +kernel
theorem dX5_cell_11 : decode cX5_cell 11 = .ok (.iload_n 1, 1) := by decide +kernel
theorem dX5_cell_12 : decode cX5_cell 12 = .ok (.iaload, 1) := by decide +kernel
theorem dX5_cell_13 : decode cX5_cell 13 = .ok (.goto 4, 3) := by decide +kernel
theorem dX5_cell_16 : decode cX5_cell 16 = .ok (.iconst (-1), 1) := by decide +kernel
theorem dX5_cell_17 : decode cX5_cell 17 = .ok (.ireturn, 1) := by decide +kernel
theorem dX5_put_0 : decode cX5_put 0 = .ok (.iload_n 1, 1) := by decide +kernel
theorem dX5_put_1 : decode cX5_put 1 = .ok (.ifCond .lt 13, 3) := by decide +kernel
theorem dX5_put_4 : decode cX5_put 4 = .ok (.iload_n 1, 1) := by decide +kernel
theorem dX5_put_5 : decode cX5_put 5 = .ok (.aload_n 0, 1) := by decide +kernel
theorem dX5_put_6 : decode cX5_put 6 = .ok (.arraylength, 1) := by decide +kernel
theorem dX5_put_7 : decode cX5_put 7 = .ok (.if_icmp .ge 7, 3) := by decide +kernel
theorem dX5_put_10 : decode cX5_put 10 = .ok (.aload_n 0, 1) := by decide +kernel
theorem dX5_put_11 : decode cX5_put 11 = .ok (.iload_n 1, 1) := by decide +kernel
theorem dX5_put_12 : decode cX5_put 12 = .ok (.iload_n 2, 1) := by decide +kernel
theorem dX5_put_13 : decode cX5_put 13 = .ok (.iastore, 1) := by decide +kernel
theorem dX5_put_14 : decode cX5_put 14 = .ok (.return_, 1) := by decide +kernel

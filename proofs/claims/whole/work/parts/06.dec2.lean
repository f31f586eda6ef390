theorem dX6_init_0 : decode cX6_init 0 = .ok (.aload_n 0, 1) := by decide +kernel
theorem dX6_init_1 : decode cX6_init 1 = .ok (.invokespecial 1, 3) := by decide +kernel
theorem dX6_init_4 : decode cX6_init 4 = .ok (.aload_n 0, 1) := by decide +kernel
theorem dX6_init_5 : decode cX6_init 5 = .ok (.bipush 20, 2) := by decide +kernel
theorem dX6_init_7 : decode cX6_init 7 = .ok (.newarray .int, 2) := by decide +kernel
theorem dX6_init_9 : decode cX6_init 9 = .ok (.putfield 7, 3) := by decide +kernel
theorem dX6_init_12 : decode cX6_init 12 = .ok (.aload_n 0, 1) := by decide +kernel
theorem dX6_init_13 : decode cX6_init 13 = .ok (.bipush 20, 2) := by decide +kernel
theorem dX6_init_15 : decode cX6_init 15 = .ok (.newarray .int, 2) := by decide +kernel
theorem dX6_init_17 : decode cX6_init 17 = .ok (.putfield 13, 3) := by decide +kernel
theorem dX6_init_20 : decode cX6_init 20 = .ok (.aload_n 0, 1) := by decide +kernel
theorem dX6_init_21 : decode cX6_init 21 = .ok (.sipush 600, 3) := by decide +kernel
theorem dX6_init_24 : decode cX6_init 24 = .ok (.newarray .int, 2) := by decide +kernel
theorem dX6_init_26 : decode cX6_init 26 = .ok (.putfield 16, 3) := by decide +kernel
theorem dX6_init_29 : decode cX6_init 29 = .ok (.aload_n 0, 1) := by decide +kernel
theorem dX6_init_30 : decode cX6_init 30 = .ok (.bipush 10, 2) := by decide +kernel
theorem dX6_init_32 : decode cX6_init 32 = .ok (.newarray .int, 2) := by decide +kernel
theorem dX6_init_34 : decode cX6_init 34 = .ok (.putfield 19, 3) := by decide +kernel
theorem dX6_init_37 : decode cX6_init 37 = .ok (.aload_n 0, 1) := by decide +kernel
theorem dX6_init_38 : decode cX6_init 38 = .ok (.bipush 10, 2) := by decide +kernel
theorem dX6_init_40 : decode cX6_init 40 = .ok (.newarray .int, 2) := by decide +kernel
theorem dX6_init_42 : decode cX6_init 42 = .ok (.putfield 22, 3) := by decide +kernel
theorem dX6_init_45 : decode cX6_init 45 = .ok (.aload_n 0, 1) := by decide +kernel
theorem dX6_init_46 : decode cX6_init 46 = .ok (.bipush 120, 2) := by decide +kernel
theorem dX6_init_48 : decode cX6_init 48 = .ok (.newarray .int, 2) := by decide +kernel
theorem dX6_init_50 : decode cX6_init 50 = .ok (.putfield 25, 3) := by decide +kernel
theorem dX6_init_53 : decode cX6_init 53 = .ok (.aload_n 0, 1) := by decide +kernel
theorem dX6_init_54 : decode cX6_init 54 = .ok (.invokevirtual 28, 3) := by decide +kernel
theorem dX6_init_57 : decode cX6_init 57 = .ok (.return_, 1) := by decide +kernel
theorem dX6_thrown_0 : decode cX6_thrown 0 = .ok (.aload_n 0, 1) := by decide +kernel
theorem dX6_thrown_1 : decode cX6_thrown 1 = .ok (.getfield 31, 3) := by decide +kernel
theorem dX6_thrown_4 : decode cX6_thrown 4 = .ok (.ireturn, 1) := by decide +kernel
theorem dX6_in_0 : decode cX6_in 0 = .ok (.lload_n 0, 1) := by decide +kernel
theorem dX6_in_1 : decode cX6_in 1 = .ok (.lload_n 2, 1) := by decide +kernel
theorem dX6_in_2 : decode cX6_in 2 = .ok (.lcmp, 1) := by decide +kernel
theorem dX6_in_3 : decode cX6_in 3 = .ok (.ifCond .lt 14, 3) := by decide +kernel
theorem dX6_in_6 : decode cX6_in 6 = .ok (.lload_n 0, 1) := by decide +kernel
theorem dX6_in_7 : decode cX6_in 7 = .ok (.lload 4, 2) := by decide +kernel
theorem dX6_in_9 : decode cX6_in 9 = .ok (.lcmp, 1) := by decide +kernel
theorem dX6_in_10 : decode cX6_in 10 = .ok (.ifCond .gt 7, 3) := by decide +kernel
theorem dX6_in_13 : decode cX6_in 13 = .ok (.iconst 1, 1) := by decide +kernel
theorem dX6_in_14 : decode cX6_in 14 = .ok (.goto 4, 3) := by decide +kernel
theorem dX6_in_17 : decode cX6_in 17 = .ok (.iconst 0, 1) := by decide +kernel
theorem dX6_in_18 : decode cX6_in 18 = .ok (.ireturn, 1) := by decide +kernel
theorem dX6_goes_0 : decode cX6_goes 0 = .ok (.aload_n 0, 1) := by decide +kernel
theorem dX6_goes_1 : decode cX6_goes 1 = .ok (.iload_n 1, 1) := by decide +kernel
theorem dX6_goes_2 : decode cX6_goes 2 = .ok (.ifCond .ne 7, 3) := by decide +kernel
theorem dX6_goes_5 : decode cX6_goes 5 = .ok (.iconst 1, 1) := by decide +kernel
theorem dX6_goes_6 : decode cX6_goes 6 = .ok (.goto 20, 3) := by decide +kernel
theorem dX6_goes_9 : decode cX6_goes 9 = .ok (.iload_n 2, 1) := by decide +kernel
theorem dX6_goes_10 : decode cX6_goes 10 = .ok (.ifCond .ne 7, 3) := by decide +kernel
theorem dX6_goes_13 : decode cX6_goes 13 = .ok (.iconst 2, 1) := by decide +kernel
theorem dX6_goes_14 : decode cX6_goes 14 = .ok (.goto 12, 3) := by decide +kernel
theorem dX6_goes_17 : decode cX6_goes 17 = .ok (.iload_n 3, 1) := by decide +kernel
theorem dX6_goes_18 : decode cX6_goes 18 = .ok (.ifCond .ne 7, 3) := by decide +kernel
theorem dX6_goes_21 : decode cX6_goes 21 = .ok (.iconst 3, 1) := by decide +kernel
theorem dX6_goes_22 : decode cX6_goes 22 = .ok (.goto 4, 3) := by decide +kernel
theorem dX6_goes_25 : decode cX6_goes 25 = .ok (.iconst 0, 1) := by decide +kernel
theorem dX6_goes_26 : decode cX6_goes 26 = .ok (.putfield 31, 3) := by decide +kernel
theorem dX6_goes_29 : decode cX6_goes 29 = .ok (.aload_n 0, 1) := by decide +kernel
theorem dX6_goes_30 : decode cX6_goes 30 = .ok (.getfield 31, 3) := by decide +kernel
theorem dX6_goes_33 : decode cX6_goes 33 = .ok (.ifCond .ne 7, 3) := by decide +kernel
theorem dX6_goes_36 : decode cX6_goes 36 = .ok (.iconst 1, 1) := by decide +kernel
theorem dX6_goes_37 : decode cX6_goes 37 = .ok (.goto 4, 3) := by decide +kernel
theorem dX6_goes_40 : decode cX6_goes 40 = .ok (.iconst 0, 1) := by decide +kernel
theorem dX6_goes_41 : decode cX6_goes 41 = .ok (.ireturn, 1) := by decide +kernel
theorem dX6_isSource_0 : decode cX6_isSource 0 = .ok (.iload_n 0, 1) := by decide +kernel
theorem dX6_isSource_1 : decode cX6_isSource 1 = .ok (.i2l, 1) := by decide +kernel
theorem dX6_isSource_2 : decode cX6_isSource 2 = .ok (.lconst 0, 1) := by decide +kernel
theorem dX6_isSource_3 : decode cX6_isSource 3 = .ok (.ldc2_w 35, 3) := by decide +kernel
theorem dX6_isSource_6 : decode cX6_isSource 6 = .ok (.invokestatic 37, 3) := by decide +kernel
theorem dX6_isSource_9 : decode cX6_isSource 9 = .ok (.ireturn, 1) := by decide +kernel
theorem dX6_isKeyer_0 : decode cX6_isKeyer 0 = .ok (.iload_n 0, 1) := by decide +kernel
theorem dX6_isKeyer_1 : decode cX6_isKeyer 1 = .ok (.i2l, 1) := by decide +kernel
theorem dX6_isKeyer_2 : decode cX6_isKeyer 2 = .ok (.lconst 0, 1) := by decide +kernel
theorem dX6_isKeyer_3 : decode cX6_isKeyer 3 = .ok (.ldc2_w 41, 3) := by decide +kernel
theorem dX6_isKeyer_6 : decode cX6_isKeyer 6 = .ok (.invokestatic 37, 3) := by decide +kernel
theorem dX6_isKeyer_9 : decode cX6_isKeyer 9 = .ok (.ireturn, 1) := by decide +kernel
theorem dX6_ofKeyer_0 : decode cX6_ofKeyer 0 = .ok (.aload_n 0, 1) := by decide +kernel
theorem dX6_ofKeyer_1 : decode cX6_ofKeyer 1 = .ok (.getfield 7, 3) := by decide +kernel
theorem dX6_ofKeyer_4 : decode cX6_ofKeyer 4 = .ok (.bipush 7, 2) := by decide +kernel
theorem dX6_ofKeyer_6 : decode cX6_ofKeyer 6 = .ok (.iconst 4, 1) := by decide +kernel
theorem dX6_ofKeyer_7 : decode cX6_ofKeyer 7 = .ok (.iload_n 1, 1) := by decide +kernel
theorem dX6_ofKeyer_8 : decode cX6_ofKeyer 8 = .ok (.imul, 1) := by decide +kernel
theorem dX6_ofKeyer_9 : decode cX6_ofKeyer 9 = .ok (.iadd, 1) := by decide +kernel
theorem dX6_ofKeyer_10 : decode cX6_ofKeyer 10 = .ok (.iload_n 2, 1) := by decide +kernel
theorem dX6_ofKeyer_11 : decode cX6_ofKeyer 11 = .ok (.iadd, 1) := by decide +kernel
theorem dX6_ofKeyer_12 : decode cX6_ofKeyer 12 = .ok (.iaload, 1) := by decide +kernel
theorem dX6_ofKeyer_13 : decode cX6_ofKeyer 13 = .ok (.ireturn, 1) := by decide +kernel
theorem dX6_begins_0 : decode cX6_begins 0 = .ok (.aload_n 0, 1) := by decide +kernel
theorem dX6_begins_1 : decode cX6_begins 1 = .ok (.getfield 7, 3) := by decide +kernel
theorem dX6_begins_4 : decode cX6_begins 4 = .ok (.iconst 0, 1) := by decide +kernel
theorem dX6_begins_5 : decode cX6_begins 5 = .ok (.iconst 1, 1) := by decide +kernel
theorem dX6_begins_6 : decode cX6_begins 6 = .ok (.iastore, 1) := by decide +kernel
theorem dX6_begins_7 : decode cX6_begins 7 = .ok (.aload_n 0, 1) := by decide +kernel
theorem dX6_begins_8 : decode cX6_begins 8 = .ok (.getfield 7, 3) := by decide +kernel
theorem dX6_begins_11 : decode cX6_begins 11 = .ok (.iconst 1, 1) := by decide +kernel
theorem dX6_begins_12 : decode cX6_begins 12 = .ok (.iconst 2, 1) := by decide +kernel
theorem dX6_begins_13 : decode cX6_begins 13 = .ok (.iastore, 1) := by decide +kernel
theorem dX6_begins_14 : decode cX6_begins 14 = .ok (.aload_n 0, 1) := by decide +kernel
theorem dX6_begins_15 : decode cX6_begins 15 = .ok (.getfield 7, 3) := by decide +kernel
theorem dX6_begins_18 : decode cX6_begins 18 = .ok (.iconst 2, 1) := by decide +kernel
theorem dX6_begins_19 : decode cX6_begins 19 = .ok (.iconst 0, 1) := by decide +kernel
theorem dX6_begins_20 : decode cX6_begins 20 = .ok (.iastore, 1) := by decide +kernel
theorem dX6_begins_21 : decode cX6_begins 21 = .ok (.aload_n 0, 1) := by decide +kernel
theorem dX6_begins_22 : decode cX6_begins 22 = .ok (.getfield 7, 3) := by decide +kernel
theorem dX6_begins_25 : decode cX6_begins 25 = .ok (.iconst 3, 1) := by decide +kernel
theorem dX6_begins_26 : decode cX6_begins 26 = .ok (.bipush 25, 2) := by decide +kernel
theorem dX6_begins_28 : decode cX6_begins 28 = .ok (.iastore, 1) := by decide +kernel
theorem dX6_begins_29 : decode cX6_begins 29 = .ok (.aload_n 0, 1) := by decide +kernel
theorem dX6_begins_30 : decode cX6_begins 30 = .ok (.getfield 7, 3) := by decide +kernel
theorem dX6_begins_33 : decode cX6_begins 33 = .ok (.iconst 4, 1) := by decide +kernel
theorem dX6_begins_34 : decode cX6_begins 34 = .ok (.iconst 1, 1) := by decide +kernel
theorem dX6_begins_35 : decode cX6_begins 35 = .ok (.iastore, 1) := by decide +kernel
theorem dX6_begins_36 : decode cX6_begins 36 = .ok (.aload_n 0, 1) := by decide +kernel
theorem dX6_begins_37 : decode cX6_begins 37 = .ok (.getfield 7, 3) := by decide +kernel
theorem dX6_begins_40 : decode cX6_begins 40 = .ok (.iconst 5, 1) := by decide +kernel
theorem dX6_begins_41 : decode cX6_begins 41 = .ok (.iconst 0, 1) := by decide +kernel
theorem dX6_begins_42 : decode cX6_begins 42 = .ok (.iastore, 1) := by decide +kernel
theorem dX6_begins_43 : decode cX6_begins 43 = .ok (.aload_n 0, 1) := by decide +kernel
theorem dX6_begins_44 : decode cX6_begins 44 = .ok (.getfield 7, 3) := by decide +kernel
theorem dX6_begins_47 : decode cX6_begins 47 = .ok (.bipush 6, 2) := by decide +kernel
theorem dX6_begins_49 : decode cX6_begins 49 = .ok (.iconst (-1), 1) := by decide +kernel
theorem dX6_begins_50 : decode cX6_begins 50 = .ok (.iastore, 1) := by decide +kernel
theorem dX6_begins_51 : decode cX6_begins 51 = .ok (.aload_n 0, 1) := by decide +kernel
theorem dX6_begins_52 : decode cX6_begins 52 = .ok (.getfield 7, 3) := by decide +kernel
theorem dX6_begins_55 : decode cX6_begins 55 = .ok (.bipush 19, 2) := by decide +kernel
theorem dX6_begins_57 : decode cX6_begins 57 = .ok (.iconst 0, 1) := by decide +kernel
theorem dX6_begins_58 : decode cX6_begins 58 = .ok (.iastore, 1) := by decide +kernel
theorem dX6_begins_59 : decode cX6_begins 59 = .ok (.iconst 0, 1) := by decide +kernel
theorem dX6_begins_60 : decode cX6_begins 60 = .ok (.istore_n 1, 1) := by decide +kernel
theorem dX6_begins_61 : decode cX6_begins 61 = .ok (.iload_n 1, 1) := by decide +kernel
theorem dX6_begins_62 : decode cX6_begins 62 = .ok (.iconst 3, 1) := by decide +kernel
theorem dX6_begins_63 : decode cX6_begins 63 = .ok (.if_icmp .ge 56, 3) := by decide +kernel
theorem dX6_begins_66 : decode cX6_begins 66 = .ok (.bipush 7, 2) := by decide +kernel
theorem dX6_begins_68 : decode cX6_begins 68 = .ok (.iconst 4, 1) := by decide +kernel
theorem dX6_begins_69 : decode cX6_begins 69 = .ok (.iload_n 1, 1) := by decide +kernel
theorem dX6_begins_70 : decode cX6_begins 70 = .ok (.imul, 1) := by decide +kernel
theorem dX6_begins_71 : decode cX6_begins 71 = .ok (.iadd, 1) := by decide +kernel
theorem dX6_begins_72 : decode cX6_begins 72 = .ok (.istore_n 2, 1) := by decide +kernel
theorem dX6_begins_73 : decode cX6_begins 73 = .ok (.aload_n 0, 1) := by decide +kernel
theorem dX6_begins_74 : decode cX6_begins 74 = .ok (.getfield 7, 3) := by decide +kernel
theorem dX6_begins_77 : decode cX6_begins 77 = .ok (.iload_n 2, 1) := by decide +kernel
theorem dX6_begins_78 : decode cX6_begins 78 = .ok (.iconst 0, 1) := by decide +kernel
theorem dX6_begins_79 : decode cX6_begins 79 = .ok (.iadd, 1) := by decide +kernel
theorem dX6_begins_80 : decode cX6_begins 80 = .ok (.iconst 3, 1) := by decide +kernel
theorem dX6_begins_81 : decode cX6_begins 81 = .ok (.iload_n 1, 1) := by decide +kernel
theorem dX6_begins_82 : decode cX6_begins 82 = .ok (.iadd, 1) := by decide +kernel
theorem dX6_begins_83 : decode cX6_begins 83 = .ok (.iastore, 1) := by decide +kernel
theorem dX6_begins_84 : decode cX6_begins 84 = .ok (.aload_n 0, 1) := by decide +kernel
theorem dX6_begins_85 : decode cX6_begins 85 = .ok (.getfield 7, 3) := by decide +kernel
theorem dX6_begins_88 : decode cX6_begins 88 = .ok (.iload_n 2, 1) := by decide +kernel
theorem dX6_begins_89 : decode cX6_begins 89 = .ok (.iconst 1, 1) := by decide +kernel
theorem dX6_begins_90 : decode cX6_begins 90 = .ok (.iadd, 1) := by decide +kernel
theorem dX6_begins_91 : decode cX6_begins 91 = .ok (.bipush 100, 2) := by decide +kernel
theorem dX6_begins_93 : decode cX6_begins 93 = .ok (.iastore, 1) := by decide +kernel
theorem dX6_begins_94 : decode cX6_begins 94 = .ok (.aload_n 0, 1) := by decide +kernel
theorem dX6_begins_95 : decode cX6_begins 95 = .ok (.getfield 7, 3) := by decide +kernel
theorem dX6_begins_98 : decode cX6_begins 98 = .ok (.iload_n 2, 1) := by decide +kernel
theorem dX6_begins_99 : decode cX6_begins 99 = .ok (.iconst 2, 1) := by decide +kernel
theorem dX6_begins_100 : decode cX6_begins 100 = .ok (.iadd, 1) := by decide +kernel
theorem dX6_begins_101 : decode cX6_begins 101 = .ok (.bipush 25, 2) := by decide +kernel
theorem dX6_begins_103 : decode cX6_begins 103 = .ok (.iastore, 1) := by decide +kernel
theorem dX6_begins_104 : decode cX6_begins 104 = .ok (.aload_n 0, 1) := by decide +kernel
theorem dX6_begins_105 : decode cX6_begins 105 = .ok (.getfield 7, 3) := by decide +kernel
theorem dX6_begins_108 : decode cX6_begins 108 = .ok (.iload_n 2, 1) := by decide +kernel
theorem dX6_begins_109 : decode cX6_begins 109 = .ok (.iconst 3, 1) := by decide +kernel
theorem dX6_begins_110 : decode cX6_begins 110 = .ok (.iadd, 1) := by decide +kernel
theorem dX6_begins_111 : decode cX6_begins 111 = .ok (.iconst 0, 1) := by decide +kernel
theorem dX6_begins_112 : decode cX6_begins 112 = .ok (.iastore, 1) := by decide +kernel
theorem dX6_begins_113 : decode cX6_begins 113 = .ok (.iinc 1 1, 3) := by decide +kernel
theorem dX6_begins_116 : decode cX6_begins 116 = .ok (.goto (-55), 3) := by decide +kernel
theorem dX6_begins_119 : decode cX6_begins 119 = .ok (.return_, 1) := by decide +kernel
theorem dX6_isUnderWay_0 : decode cX6_isUnderWay 0 = .ok (.aload_n 0, 1) := by decide +kernel
theorem dX6_isUnderWay_1 : decode cX6_isUnderWay 1 = .ok (.getfield 7, 3) := by decide +kernel
theorem dX6_isUnderWay_4 : decode cX6_isUnderWay 4 = .ok (.iconst 5, 1) := by decide +kernel
theorem dX6_isUnderWay_5 : decode cX6_isUnderWay 5 = .ok (.iaload, 1) := by decide +kernel
theorem dX6_isUnderWay_6 : decode cX6_isUnderWay 6 = .ok (.ifCond .gt 14, 3) := by decide +kernel
theorem dX6_isUnderWay_9 : decode cX6_isUnderWay 9 = .ok (.aload_n 0, 1) := by decide +kernel
theorem dX6_isUnderWay_10 : decode cX6_isUnderWay 10 = .ok (.getfield 7, 3) := by decide +kernel
theorem dX6_isUnderWay_13 : decode cX6_isUnderWay 13 = .ok (.bipush 6, 2) := by decide +kernel
theorem dX6_isUnderWay_15 : decode cX6_isUnderWay 15 = .ok (.iaload, 1) := by decide +kernel
theorem dX6_isUnderWay_16 : decode cX6_isUnderWay 16 = .ok (.iconst (-1), 1) := by decide +kernel
theorem dX6_isUnderWay_17 : decode cX6_isUnderWay 17 = .ok (.if_icmp .eq 7, 3) := by decide +kernel
theorem dX6_isUnderWay_20 : decode cX6_isUnderWay 20 = .ok (.iconst 1, 1) := by decide +kernel
theorem dX6_isUnderWay_21 : decode cX6_isUnderWay 21 = .ok (.goto 4, 3) := by decide +kernel
theorem dX6_isUnderWay_24 : decode cX6_isUnderWay 24 = .ok (.iconst 0, 1) := by decide +kernel
theorem dX6_isUnderWay_25 : decode cX6_isUnderWay 25 = .ok (.ireturn, 1) := by decide +kernel
theorem dX6_isElement_0 : decode cX6_isElement 0 = .ok (.aload_n 0, 1) := by decide +kernel
theorem dX6_isElement_1 : decode cX6_isElement 1 = .ok (.getfield 7, 3) := by decide +kernel
theorem dX6_isElement_4 : decode cX6_isElement 4 = .ok (.iconst 4, 1) := by decide +kernel
theorem dX6_isElement_5 : decode cX6_isElement 5 = .ok (.iaload, 1) := by decide +kernel
theorem dX6_isElement_6 : decode cX6_isElement 6 = .ok (.iload_n 1, 1) := by decide +kernel
theorem dX6_isElement_7 : decode cX6_isElement 7 = .ok (.ishr, 1) := by decide +kernel
theorem dX6_isElement_8 : decode cX6_isElement 8 = .ok (.iconst 1, 1) := by decide +kernel
theorem dX6_isElement_9 : decode cX6_isElement 9 = .ok (.iand, 1) := by decide +kernel
theorem dX6_isElement_10 : decode cX6_isElement 10 = .ok (.iconst 1, 1) := by decide +kernel
theorem dX6_isElement_11 : decode cX6_isElement 11 = .ok (.if_icmp .ne 7, 3) := by decide +kernel
theorem dX6_isElement_14 : decode cX6_isElement 14 = .ok (.iconst 1, 1) := by decide +kernel
theorem dX6_isElement_15 : decode cX6_isElement 15 = .ok (.goto 4, 3) := by decide +kernel
theorem dX6_isElement_18 : decode cX6_isElement 18 = .ok (.iconst 0, 1) := by decide +kernel
theorem dX6_isElement_19 : decode cX6_isElement 19 = .ok (.ireturn, 1) := by decide +kernel
theorem dX6_completes_0 : decode cX6_completes 0 = .ok (.aload_n 0, 1) := by decide +kernel
theorem dX6_completes_1 : decode cX6_completes 1 = .ok (.iconst 0, 1) := by decide +kernel
theorem dX6_completes_2 : decode cX6_completes 2 = .ok (.invokevirtual 43, 3) := by decide +kernel
theorem dX6_completes_5 : decode cX6_completes 5 = .ok (.ifCond .eq 29, 3) := by decide +kernel
theorem dX6_completes_8 : decode cX6_completes 8 = .ok (.aload_n 0, 1) := by decide +kernel
theorem dX6_completes_9 : decode cX6_completes 9 = .ok (.getfield 7, 3) := by decide +kernel
theorem dX6_completes_12 : decode cX6_completes 12 = .ok (.iconst 0, 1) := by decide +kernel
theorem dX6_completes_13 : decode cX6_completes 13 = .ok (.iaload, 1) := by decide +kernel
theorem dX6_completes_14 : decode cX6_completes 14 = .ok (.istore_n 1, 1) := by decide +kernel
theorem dX6_completes_15 : decode cX6_completes 15 = .ok (.aload_n 0, 1) := by decide +kernel
theorem dX6_completes_16 : decode cX6_completes 16 = .ok (.getfield 7, 3) := by decide +kernel
theorem dX6_completes_19 : decode cX6_completes 19 = .ok (.iconst 0, 1) := by decide +kernel
theorem dX6_completes_20 : decode cX6_completes 20 = .ok (.aload_n 0, 1) := by decide +kernel
theorem dX6_completes_21 : decode cX6_completes 21 = .ok (.getfield 7, 3) := by decide +kernel
theorem dX6_completes_24 : decode cX6_completes 24 = .ok (.iconst 1, 1) := by decide +kernel
theorem dX6_completes_25 : decode cX6_completes 25 = .ok (.iaload, 1) := by decide +kernel
theorem dX6_completes_26 : decode cX6_completes 26 = .ok (.iastore, 1) := by decide +kernel
theorem dX6_completes_27 : decode cX6_completes 27 = .ok (.aload_n 0, 1) := by decide +kernel
theorem dX6_completes_28 : decode cX6_completes 28 = .ok (.getfield 7, 3) := by decide +kernel
theorem dX6_completes_31 : decode cX6_completes 31 = .ok (.iconst 1, 1) := by decide +kernel
theorem dX6_completes_32 : decode cX6_completes 32 = .ok (.iload_n 1, 1) := by decide +kernel
theorem dX6_completes_33 : decode cX6_completes 33 = .ok (.iastore, 1) := by decide +kernel
theorem dX6_completes_34 : decode cX6_completes 34 = .ok (.iconst 0, 1) := by decide +kernel
theorem dX6_completes_35 : decode cX6_completes 35 = .ok (.istore_n 1, 1) := by decide +kernel
theorem dX6_completes_36 : decode cX6_completes 36 = .ok (.iload_n 1, 1) := by decide +kernel
theorem dX6_completes_37 : decode cX6_completes 37 = .ok (.iconst 3, 1) := by decide +kernel
theorem dX6_completes_38 : decode cX6_completes 38 = .ok (.if_icmp .ge 51, 3) := by decide +kernel
theorem dX6_completes_41 : decode cX6_completes 41 = .ok (.bipush 7, 2) := by decide +kernel
theorem dX6_completes_43 : decode cX6_completes 43 = .ok (.iconst 4, 1) := by decide +kernel
theorem dX6_completes_44 : decode cX6_completes 44 = .ok (.iload_n 1, 1) := by decide +kernel
theorem dX6_completes_45 : decode cX6_completes 45 = .ok (.imul, 1) := by decide +kernel
theorem dX6_completes_46 : decode cX6_completes 46 = .ok (.iadd, 1) := by decide +kernel
theorem dX6_completes_47 : decode cX6_completes 47 = .ok (.iconst 3, 1) := by decide +kernel
theorem dX6_completes_48 : decode cX6_completes 48 = .ok (.iadd, 1) := by decide +kernel
theorem dX6_completes_49 : decode cX6_completes 49 = .ok (.istore_n 2, 1) := by decide +kernel
theorem dX6_completes_50 : decode cX6_completes 50 = .ok (.aload_n 0, 1) := by decide +kernel
theorem dX6_completes_51 : decode cX6_completes 51 = .ok (.getfield 7, 3) := by decide +kernel
theorem dX6_completes_54 : decode cX6_completes 54 = .ok (.iload_n 2, 1) := by decide +kernel
theorem dX6_completes_55 : decode cX6_completes 55 = .ok (.aload_n 0, 1) := by decide +kernel
theorem dX6_completes_56 : decode cX6_completes 56 = .ok (.iconst 1, 1) := by decide +kernel
theorem dX6_completes_57 : decode cX6_completes 57 = .ok (.iload_n 1, 1) := by decide +kernel
theorem dX6_completes_58 : decode cX6_completes 58 = .ok (.iadd, 1) := by decide +kernel
theorem dX6_completes_59 : decode cX6_completes 59 = .ok (.invokevirtual 43, 3) := by decide +kernel
theorem dX6_completes_62 : decode cX6_completes 62 = .ok (.ifCond .eq 14, 3) := by decide +kernel
theorem dX6_completes_65 : decode cX6_completes 65 = .ok (.iconst 1, 1) := by decide +kernel
theorem dX6_completes_66 : decode cX6_completes 66 = .ok (.aload_n 0, 1) := by decide +kernel
theorem dX6_completes_67 : decode cX6_completes 67 = .ok (.getfield 7, 3) := by decide +kernel
theorem dX6_completes_70 : decode cX6_completes 70 = .ok (.iload_n 2, 1) := by decide +kernel
theorem dX6_completes_71 : decode cX6_completes 71 = .ok (.iaload, 1) := by decide +kernel
theorem dX6_completes_72 : decode cX6_completes 72 = .ok (.isub, 1) := by decide +kernel
theorem dX6_completes_73 : decode cX6_completes 73 = .ok (.goto 9, 3) := by decide +kernel
theorem dX6_completes_76 : decode cX6_completes 76 = .ok (.aload_n 0, 1) := by decide +kernel
theorem dX6_completes_77 : decode cX6_completes 77 = .ok (.getfield 7, 3) := by decide +kernel
theorem dX6_completes_80 : decode cX6_completes 80 = .ok (.iload_n 2, 1) := by decide +kernel
theorem dX6_completes_81 : decode cX6_completes 81 = .ok (.iaload, 1) := by decide +kernel
theorem dX6_completes_82 : decode cX6_completes 82 = .ok (.iastore, 1) := by decide +kernel
theorem dX6_completes_83 : decode cX6_completes 83 = .ok (.iinc 1 1, 3) := by decide +kernel
theorem dX6_completes_86 : decode cX6_completes 86 = .ok (.goto (-50), 3) := by decide +kernel
theorem dX6_completes_89 : decode cX6_completes 89 = .ok (.aload_n 0, 1) := by decide +kernel
theorem dX6_completes_90 : decode cX6_completes 90 = .ok (.getfield 7, 3) := by decide +kernel
theorem dX6_completes_93 : decode cX6_completes 93 = .ok (.iconst 5, 1) := by decide +kernel
theorem dX6_completes_94 : decode cX6_completes 94 = .ok (.iconst 0, 1) := by decide +kernel
theorem dX6_completes_95 : decode cX6_completes 95 = .ok (.iastore, 1) := by decide +kernel
theorem dX6_completes_96 : decode cX6_completes 96 = .ok (.aload_n 0, 1) := by decide +kernel
theorem dX6_completes_97 : decode cX6_completes 97 = .ok (.getfield 7, 3) := by decide +kernel
theorem dX6_completes_100 : decode cX6_completes 100 = .ok (.bipush 6, 2) := by decide +kernel
theorem dX6_completes_102 : decode cX6_completes 102 = .ok (.iconst (-1), 1) := by decide +kernel
theorem dX6_completes_103 : decode cX6_completes 103 = .ok (.iastore, 1) := by decide +kernel
theorem dX6_completes_104 : decode cX6_completes 104 = .ok (.return_, 1) := by decide +kernel
theorem dX6_frame_0 : decode cX6_frame 0 = .ok (.aload_n 0, 1) := by decide +kernel
theorem dX6_frame_1 : decode cX6_frame 1 = .ok (.getfield 7, 3) := by decide +kernel
theorem dX6_frame_4 : decode cX6_frame 4 = .ok (.bipush 6, 2) := by decide +kernel
theorem dX6_frame_6 : decode cX6_frame 6 = .ok (.iaload, 1) := by decide +kernel
theorem dX6_frame_7 : decode cX6_frame 7 = .ok (.iconst (-1), 1) := by decide +kernel
theorem dX6_frame_8 : decode cX6_frame 8 = .ok (.if_icmp .eq 71, 3) := by decide +kernel
theorem dX6_frame_11 : decode cX6_frame 11 = .ok (.aload_n 0, 1) := by decide +kernel
theorem dX6_frame_12 : decode cX6_frame 12 = .ok (.getfield 7, 3) := by decide +kernel
theorem dX6_frame_15 : decode cX6_frame 15 = .ok (.bipush 6, 2) := by decide +kernel
theorem dX6_frame_17 : decode cX6_frame 17 = .ok (.dup2, 1) := by decide +kernel
theorem dX6_frame_18 : decode cX6_frame 18 = .ok (.iaload, 1) := by decide +kernel
theorem dX6_frame_19 : decode cX6_frame 19 = .ok (.iconst 1, 1) := by decide +kernel
theorem dX6_frame_20 : decode cX6_frame 20 = .ok (.iadd, 1) := by decide +kernel
theorem dX6_frame_21 : decode cX6_frame 21 = .ok (.iastore, 1) := by decide +kernel
theorem dX6_frame_22 : decode cX6_frame 22 = .ok (.aload_n 0, 1) := by decide +kernel
theorem dX6_frame_23 : decode cX6_frame 23 = .ok (.getfield 7, 3) := by decide +kernel
theorem dX6_frame_26 : decode cX6_frame 26 = .ok (.bipush 6, 2) := by decide +kernel
theorem dX6_frame_28 : decode cX6_frame 28 = .ok (.iaload, 1) := by decide +kernel
theorem dX6_frame_29 : decode cX6_frame 29 = .ok (.aload_n 0, 1) := by decide +kernel
theorem dX6_frame_30 : decode cX6_frame 30 = .ok (.getfield 7, 3) := by decide +kernel
theorem dX6_frame_33 : decode cX6_frame 33 = .ok (.iconst 3, 1) := by decide +kernel
theorem dX6_frame_34 : decode cX6_frame 34 = .ok (.iaload, 1) := by decide +kernel
theorem dX6_frame_35 : decode cX6_frame 35 = .ok (.if_icmp .lt 20, 3) := by decide +kernel
theorem dX6_frame_38 : decode cX6_frame 38 = .ok (.aload_n 0, 1) := by decide +kernel
theorem dX6_frame_39 : decode cX6_frame 39 = .ok (.invokevirtual 47, 3) := by decide +kernel
theorem dX6_frame_42 : decode cX6_frame 42 = .ok (.aload_n 0, 1) := by decide +kernel
theorem dX6_frame_43 : decode cX6_frame 43 = .ok (.dup, 1) := by decide +kernel
theorem dX6_frame_44 : decode cX6_frame 44 = .ok (.getfield 50, 3) := by decide +kernel
theorem dX6_frame_47 : decode cX6_frame 47 = .ok (.iconst 1, 1) := by decide +kernel
theorem dX6_frame_48 : decode cX6_frame 48 = .ok (.iadd, 1) := by decide +kernel
theorem dX6_frame_49 : decode cX6_frame 49 = .ok (.putfield 50, 3) := by decide +kernel
theorem dX6_frame_52 : decode cX6_frame 52 = .ok (.goto 27, 3) := by decide +kernel
theorem dX6_frame_55 : decode cX6_frame 55 = .ok (.aload_n 0, 1) := by decide +kernel
theorem dX6_frame_56 : decode cX6_frame 56 = .ok (.getfield 7, 3) := by decide +kernel
theorem dX6_frame_59 : decode cX6_frame 59 = .ok (.iconst 5, 1) := by decide +kernel
theorem dX6_frame_60 : decode cX6_frame 60 = .ok (.aload_n 0, 1) := by decide +kernel
theorem dX6_frame_61 : decode cX6_frame 61 = .ok (.getfield 7, 3) := by decide +kernel
theorem dX6_frame_64 : decode cX6_frame 64 = .ok (.bipush 6, 2) := by decide +kernel
theorem dX6_frame_66 : decode cX6_frame 66 = .ok (.iaload, 1) := by decide +kernel
theorem dX6_frame_67 : decode cX6_frame 67 = .ok (.sipush 1000, 3) := by decide +kernel
theorem dX6_frame_70 : decode cX6_frame 70 = .ok (.imul, 1) := by decide +kernel
theorem dX6_frame_71 : decode cX6_frame 71 = .ok (.aload_n 0, 1) := by decide +kernel
theorem dX6_frame_72 : decode cX6_frame 72 = .ok (.getfield 7, 3) := by decide +kernel
theorem dX6_frame_75 : decode cX6_frame 75 = .ok (.iconst 3, 1) := by decide +kernel
theorem dX6_frame_76 : decode cX6_frame 76 = .ok (.iaload, 1) := by decide +kernel
theorem dX6_frame_77 : decode cX6_frame 77 = .ok (.idiv, 1) := by decide +kernel
theorem dX6_frame_78 : decode cX6_frame 78 = .ok (.iastore, 1) := by decide +kernel
theorem dX6_frame_79 : decode cX6_frame 79 = .ok (.return_, 1) := by decide +kernel
theorem dX6_isPossible_0 : decode cX6_isPossible 0 = .ok (.iload_n 1, 1) := by decide +kernel
theorem dX6_isPossible_1 : decode cX6_isPossible 1 = .ok (.iconst 3, 1) := by decide +kernel
theorem dX6_isPossible_2 : decode cX6_isPossible 2 = .ok (.if_icmp .eq 9, 3) := by decide +kernel
theorem dX6_isPossible_5 : decode cX6_isPossible 5 = .ok (.iload_n 1, 1) := by decide +kernel
theorem dX6_isPossible_6 : decode cX6_isPossible 6 = .ok (.bipush 7, 2) := by decide +kernel
theorem dX6_isPossible_8 : decode cX6_isPossible 8 = .ok (.if_icmp .ne 18, 3) := by decide +kernel
theorem dX6_isPossible_11 : decode cX6_isPossible 11 = .ok (.aload_n 0, 1) := by decide +kernel
theorem dX6_isPossible_12 : decode cX6_isPossible 12 = .ok (.invokevirtual 53, 3) := by decide +kernel
theorem dX6_isPossible_15 : decode cX6_isPossible 15 = .ok (.ifCond .ne 7, 3) := by decide +kernel
theorem dX6_isPossible_18 : decode cX6_isPossible 18 = .ok (.iconst 1, 1) := by decide +kernel
theorem dX6_isPossible_19 : decode cX6_isPossible 19 = .ok (.goto 29, 3) := by decide +kernel
theorem dX6_isPossible_22 : decode cX6_isPossible 22 = .ok (.iconst 0, 1) := by decide +kernel
theorem dX6_isPossible_23 : decode cX6_isPossible 23 = .ok (.goto 25, 3) := by decide +kernel
theorem dX6_isPossible_26 : decode cX6_isPossible 26 = .ok (.iload_n 1, 1) := by decide +kernel
theorem dX6_isPossible_27 : decode cX6_isPossible 27 = .ok (.bipush 8, 2) := by decide +kernel
theorem dX6_isPossible_29 : decode cX6_isPossible 29 = .ok (.if_icmp .ne 14, 3) := by decide +kernel
theorem dX6_isPossible_32 : decode cX6_isPossible 32 = .ok (.aload_n 0, 1) := by decide +kernel
theorem dX6_isPossible_33 : decode cX6_isPossible 33 = .ok (.getfield 7, 3) := by decide +kernel
theorem dX6_isPossible_36 : decode cX6_isPossible 36 = .ok (.bipush 6, 2) := by decide +kernel
theorem dX6_isPossible_38 : decode cX6_isPossible 38 = .ok (.iaload, 1) := by decide +kernel
theorem dX6_isPossible_39 : decode cX6_isPossible 39 = .ok (.iconst (-1), 1) := by decide +kernel
theorem dX6_isPossible_40 : decode cX6_isPossible 40 = .ok (.if_icmp .ne 7, 3) := by decide +kernel
theorem dX6_isPossible_43 : decode cX6_isPossible 43 = .ok (.iconst 1, 1) := by decide +kernel
theorem dX6_isPossible_44 : decode cX6_isPossible 44 = .ok (.goto 4, 3) := by decide +kernel
theorem dX6_isPossible_47 : decode cX6_isPossible 47 = .ok (.iconst 0, 1) := by decide +kernel
theorem dX6_isPossible_48 : decode cX6_isPossible 48 = .ok (.ireturn, 1) := by decide +kernel
theorem dX6_does_0 : decode cX6_does 0 = .ok (.aload_n 0, 1) := by decide +kernel
theorem dX6_does_1 : decode cX6_does 1 = .ok (.iload_n 1, 1) := by decide +kernel
theorem dX6_does_2 : decode cX6_does 2 = .ok (.invokevirtual 57, 3) := by decide +kernel
theorem dX6_does_5 : decode cX6_does 5 = .ok (.ifCond .ne 5, 3) := by decide +kernel
theorem dX6_does_8 : decode cX6_does 8 = .ok (.iconst 0, 1) := by decide +kernel
theorem dX6_does_9 : decode cX6_does 9 = .ok (.ireturn, 1) := by decide +kernel
theorem dX6_does_10 : decode cX6_does 10 = .ok (.iconst 0, 1) := by decide +kernel
theorem dX6_does_11 : decode cX6_does 11 = .ok (.istore 6, 2) := by decide +kernel
theorem dX6_does_13 : decode cX6_does 13 = .ok (.iload_n 1, 1) := by decide +kernel
theorem dX6_does_14 : decode cX6_does 14 = .ok (.tableswitch 226 0 8 #[50, 50, 68, 93, 111, 166, 194, 205, 220], 50) := by decide +kernel
theorem dX6_does_64 : decode cX6_does 64 = .ok (.aload_n 0, 1) := by decide +kernel
theorem dX6_does_65 : decode cX6_does 65 = .ok (.getfield 7, 3) := by decide +kernel
theorem dX6_does_68 : decode cX6_does 68 = .ok (.iload_n 1, 1) := by decide +kernel
theorem dX6_does_69 : decode cX6_does 69 = .ok (.iaload, 1) := by decide +kernel
theorem dX6_does_70 : decode cX6_does 70 = .ok (.istore 6, 2) := by decide +kernel
theorem dX6_does_72 : decode cX6_does 72 = .ok (.aload_n 0, 1) := by decide +kernel
theorem dX6_does_73 : decode cX6_does 73 = .ok (.getfield 7, 3) := by decide +kernel
theorem dX6_does_76 : decode cX6_does 76 = .ok (.iload_n 1, 1) := by decide +kernel
theorem dX6_does_77 : decode cX6_does 77 = .ok (.iload_n 2, 1) := by decide +kernel
theorem dX6_does_78 : decode cX6_does 78 = .ok (.iastore, 1) := by decide +kernel
theorem dX6_does_79 : decode cX6_does 79 = .ok (.iload 6, 2) := by decide +kernel
theorem dX6_does_81 : decode cX6_does 81 = .ok (.ireturn, 1) := by decide +kernel
theorem dX6_does_82 : decode cX6_does 82 = .ok (.aload_n 0, 1) := by decide +kernel
theorem dX6_does_83 : decode cX6_does 83 = .ok (.getfield 7, 3) := by decide +kernel
theorem dX6_does_86 : decode cX6_does 86 = .ok (.iconst 2, 1) := by decide +kernel
theorem dX6_does_87 : decode cX6_does 87 = .ok (.iaload, 1) := by decide +kernel
theorem dX6_does_88 : decode cX6_does 88 = .ok (.istore 6, 2) := by decide +kernel
theorem dX6_does_90 : decode cX6_does 90 = .ok (.aload_n 0, 1) := by decide +kernel
theorem dX6_does_91 : decode cX6_does 91 = .ok (.getfield 7, 3) := by decide +kernel
theorem dX6_does_94 : decode cX6_does 94 = .ok (.iconst 2, 1) := by decide +kernel
theorem dX6_does_95 : decode cX6_does 95 = .ok (.iload_n 2, 1) := by decide +kernel
theorem dX6_does_96 : decode cX6_does 96 = .ok (.iastore, 1) := by decide +kernel
theorem dX6_does_97 : decode cX6_does 97 = .ok (.aload_n 0, 1) := by decide +kernel
theorem dX6_does_98 : decode cX6_does 98 = .ok (.getfield 7, 3) := by decide +kernel
theorem dX6_does_101 : decode cX6_does 101 = .ok (.iconst 3, 1) := by decide +kernel
theorem dX6_does_102 : decode cX6_does 102 = .ok (.iload_n 3, 1) := by decide +kernel
theorem dX6_does_103 : decode cX6_does 103 = .ok (.iastore, 1) := by decide +kernel
theorem dX6_does_104 : decode cX6_does 104 = .ok (.iload 6, 2) := by decide +kernel
theorem dX6_does_106 : decode cX6_does 106 = .ok (.ireturn, 1) := by decide +kernel
theorem dX6_does_107 : decode cX6_does 107 = .ok (.aload_n 0, 1) := by decide +kernel
theorem dX6_does_108 : decode cX6_does 108 = .ok (.getfield 7, 3) := by decide +kernel
theorem dX6_does_111 : decode cX6_does 111 = .ok (.iconst 4, 1) := by decide +kernel
theorem dX6_does_112 : decode cX6_does 112 = .ok (.iaload, 1) := by decide +kernel
theorem dX6_does_113 : decode cX6_does 113 = .ok (.istore 6, 2) := by decide +kernel
theorem dX6_does_115 : decode cX6_does 115 = .ok (.aload_n 0, 1) := by decide +kernel
theorem dX6_does_116 : decode cX6_does 116 = .ok (.getfield 7, 3) := by decide +kernel
theorem dX6_does_119 : decode cX6_does 119 = .ok (.iconst 4, 1) := by decide +kernel
theorem dX6_does_120 : decode cX6_does 120 = .ok (.iload_n 2, 1) := by decide +kernel
theorem dX6_does_121 : decode cX6_does 121 = .ok (.iastore, 1) := by decide +kernel
theorem dX6_does_122 : decode cX6_does 122 = .ok (.iload 6, 2) := by decide +kernel
theorem dX6_does_124 : decode cX6_does 124 = .ok (.ireturn, 1) := by decide +kernel
theorem dX6_does_125 : decode cX6_does 125 = .ok (.aload_n 0, 1) := by decide +kernel
theorem dX6_does_126 : decode cX6_does 126 = .ok (.iload_n 2, 1) := by decide +kernel
theorem dX6_does_127 : decode cX6_does 127 = .ok (.iconst 0, 1) := by decide +kernel
theorem dX6_does_128 : decode cX6_does 128 = .ok (.invokevirtual 60, 3) := by decide +kernel
theorem dX6_does_131 : decode cX6_does 131 = .ok (.istore 6, 2) := by decide +kernel
theorem dX6_does_133 : decode cX6_does 133 = .ok (.aload_n 0, 1) := by decide +kernel
theorem dX6_does_134 : decode cX6_does 134 = .ok (.getfield 7, 3) := by decide +kernel
theorem dX6_does_137 : decode cX6_does 137 = .ok (.bipush 7, 2) := by decide +kernel
theorem dX6_does_139 : decode cX6_does 139 = .ok (.iconst 4, 1) := by decide +kernel
theorem dX6_does_140 : decode cX6_does 140 = .ok (.iload_n 2, 1) := by decide +kernel
theorem dX6_does_141 : decode cX6_does 141 = .ok (.imul, 1) := by decide +kernel
theorem dX6_does_142 : decode cX6_does 142 = .ok (.iadd, 1) := by decide +kernel
theorem dX6_does_143 : decode cX6_does 143 = .ok (.iconst 0, 1) := by decide +kernel
theorem dX6_does_144 : decode cX6_does 144 = .ok (.iadd, 1) := by decide +kernel
theorem dX6_does_145 : decode cX6_does 145 = .ok (.iload_n 3, 1) := by decide +kernel
theorem dX6_does_146 : decode cX6_does 146 = .ok (.iastore, 1) := by decide +kernel
theorem dX6_does_147 : decode cX6_does 147 = .ok (.aload_n 0, 1) := by decide +kernel
theorem dX6_does_148 : decode cX6_does 148 = .ok (.getfield 7, 3) := by decide +kernel
theorem dX6_does_151 : decode cX6_does 151 = .ok (.bipush 7, 2) := by decide +kernel
theorem dX6_does_153 : decode cX6_does 153 = .ok (.iconst 4, 1) := by decide +kernel
theorem dX6_does_154 : decode cX6_does 154 = .ok (.iload_n 2, 1) := by decide +kernel
theorem dX6_does_155 : decode cX6_does 155 = .ok (.imul, 1) := by decide +kernel
theorem dX6_does_156 : decode cX6_does 156 = .ok (.iadd, 1) := by decide +kernel
theorem dX6_does_157 : decode cX6_does 157 = .ok (.iconst 1, 1) := by decide +kernel
theorem dX6_does_158 : decode cX6_does 158 = .ok (.iadd, 1) := by decide +kernel
theorem dX6_does_159 : decode cX6_does 159 = .ok (.iload 4, 2) := by decide +kernel
theorem dX6_does_161 : decode cX6_does 161 = .ok (.iastore, 1) := by decide +kernel
theorem dX6_does_162 : decode cX6_does 162 = .ok (.aload_n 0, 1) := by decide +kernel
theorem dX6_does_163 : decode cX6_does 163 = .ok (.getfield 7, 3) := by decide +kernel
theorem dX6_does_166 : decode cX6_does 166 = .ok (.bipush 7, 2) := by decide +kernel
theorem dX6_does_168 : decode cX6_does 168 = .ok (.iconst 4, 1) := by decide +kernel
theorem dX6_does_169 : decode cX6_does 169 = .ok (.iload_n 2, 1) := by decide +kernel
theorem dX6_does_170 : decode cX6_does 170 = .ok (.imul, 1) := by decide +kernel
theorem dX6_does_171 : decode cX6_does 171 = .ok (.iadd, 1) := by decide +kernel
theorem dX6_does_172 : decode cX6_does 172 = .ok (.iconst 2, 1) := by decide +kernel
theorem dX6_does_173 : decode cX6_does 173 = .ok (.iadd, 1) := by decide +kernel
theorem dX6_does_174 : decode cX6_does 174 = .ok (.iload 5, 2) := by decide +kernel
theorem dX6_does_176 : decode cX6_does 176 = .ok (.iastore, 1) := by decide +kernel
theorem dX6_does_177 : decode cX6_does 177 = .ok (.iload 6, 2) := by decide +kernel
theorem dX6_does_179 : decode cX6_does 179 = .ok (.ireturn, 1) := by decide +kernel
theorem dX6_does_180 : decode cX6_does 180 = .ok (.aload_n 0, 1) := by decide +kernel
theorem dX6_does_181 : decode cX6_does 181 = .ok (.getfield 7, 3) := by decide +kernel
theorem dX6_does_184 : decode cX6_does 184 = .ok (.bipush 7, 2) := by decide +kernel
theorem dX6_does_186 : decode cX6_does 186 = .ok (.iconst 4, 1) := by decide +kernel
theorem dX6_does_187 : decode cX6_does 187 = .ok (.iload_n 2, 1) := by decide +kernel
theorem dX6_does_188 : decode cX6_does 188 = .ok (.imul, 1) := by decide +kernel
theorem dX6_does_189 : decode cX6_does 189 = .ok (.iadd, 1) := by decide +kernel
theorem dX6_does_190 : decode cX6_does 190 = .ok (.iconst 3, 1) := by decide +kernel
theorem dX6_does_191 : decode cX6_does 191 = .ok (.iadd, 1) := by decide +kernel
theorem dX6_does_192 : decode cX6_does 192 = .ok (.iconst 1, 1) := by decide +kernel
theorem dX6_does_193 : decode cX6_does 193 = .ok (.aload_n 0, 1) := by decide +kernel
theorem dX6_does_194 : decode cX6_does 194 = .ok (.iload_n 2, 1) := by decide +kernel
theorem dX6_does_195 : decode cX6_does 195 = .ok (.iconst 3, 1) := by decide +kernel
theorem dX6_does_196 : decode cX6_does 196 = .ok (.invokevirtual 60, 3) := by decide +kernel
theorem dX6_does_199 : decode cX6_does 199 = .ok (.isub, 1) := by decide +kernel
theorem dX6_does_200 : decode cX6_does 200 = .ok (.iastore, 1) := by decide +kernel
theorem dX6_does_201 : decode cX6_does 201 = .ok (.aload_n 0, 1) := by decide +kernel
theorem dX6_does_202 : decode cX6_does 202 = .ok (.iload_n 2, 1) := by decide +kernel
theorem dX6_does_203 : decode cX6_does 203 = .ok (.iconst 3, 1) := by decide +kernel
theorem dX6_does_204 : decode cX6_does 204 = .ok (.invokevirtual 60, 3) := by decide +kernel
theorem dX6_does_207 : decode cX6_does 207 = .ok (.ireturn, 1) := by decide +kernel
theorem dX6_does_208 : decode cX6_does 208 = .ok (.aload_n 0, 1) := by decide +kernel
theorem dX6_does_209 : decode cX6_does 209 = .ok (.invokevirtual 47, 3) := by decide +kernel
theorem dX6_does_212 : decode cX6_does 212 = .ok (.aload_n 0, 1) := by decide +kernel
theorem dX6_does_213 : decode cX6_does 213 = .ok (.getfield 7, 3) := by decide +kernel
theorem dX6_does_216 : decode cX6_does 216 = .ok (.iconst 0, 1) := by decide +kernel
theorem dX6_does_217 : decode cX6_does 217 = .ok (.iaload, 1) := by decide +kernel
theorem dX6_does_218 : decode cX6_does 218 = .ok (.ireturn, 1) := by decide +kernel
theorem dX6_does_219 : decode cX6_does 219 = .ok (.aload_n 0, 1) := by decide +kernel
theorem dX6_does_220 : decode cX6_does 220 = .ok (.getfield 7, 3) := by decide +kernel
theorem dX6_does_223 : decode cX6_does 223 = .ok (.bipush 6, 2) := by decide +kernel
theorem dX6_does_225 : decode cX6_does 225 = .ok (.iconst 0, 1) := by decide +kernel
theorem dX6_does_226 : decode cX6_does 226 = .ok (.iastore, 1) := by decide +kernel
theorem dX6_does_227 : decode cX6_does 227 = .ok (.aload_n 0, 1) := by decide +kernel
theorem dX6_does_228 : decode cX6_does 228 = .ok (.getfield 7, 3) := by decide +kernel
theorem dX6_does_231 : decode cX6_does 231 = .ok (.iconst 3, 1) := by decide +kernel
theorem dX6_does_232 : decode cX6_does 232 = .ok (.iaload, 1) := by decide +kernel
theorem dX6_does_233 : decode cX6_does 233 = .ok (.ireturn, 1) := by decide +kernel
theorem dX6_does_234 : decode cX6_does 234 = .ok (.aload_n 0, 1) := by decide +kernel
theorem dX6_does_235 : decode cX6_does 235 = .ok (.iload_n 2, 1) := by decide +kernel
theorem dX6_does_236 : decode cX6_does 236 = .ok (.invokevirtual 64, 3) := by decide +kernel
theorem dX6_does_239 : decode cX6_does 239 = .ok (.ireturn, 1) := by decide +kernel
theorem dX6_does_240 : decode cX6_does 240 = .ok (.aload_n 0, 1) := by decide +kernel
theorem dX6_does_241 : decode cX6_does 241 = .ok (.getfield 7, 3) := by decide +kernel
theorem dX6_does_244 : decode cX6_does 244 = .ok (.bipush 19, 2) := by decide +kernel
theorem dX6_does_246 : decode cX6_does 246 = .ok (.iaload, 1) := by decide +kernel
theorem dX6_does_247 : decode cX6_does 247 = .ok (.iload_n 2, 1) := by decide +kernel
theorem dX6_does_248 : decode cX6_does 248 = .ok (.ishr, 1) := by decide +kernel
theorem dX6_does_249 : decode cX6_does 249 = .ok (.iconst 1, 1) := by decide +kernel
theorem dX6_does_250 : decode cX6_does 250 = .ok (.iand, 1) := by decide +kernel
theorem dX6_does_251 : decode cX6_does 251 = .ok (.istore 6, 2) := by decide +kernel
theorem dX6_does_253 : decode cX6_does 253 = .ok (.aload_n 0, 1) := by decide +kernel
theorem dX6_does_254 : decode cX6_does 254 = .ok (.getfield 7, 3) := by decide +kernel
theorem dX6_does_257 : decode cX6_does 257 = .ok (.bipush 19, 2) := by decide +kernel
theorem dX6_does_259 : decode cX6_does 259 = .ok (.iload_n 3, 1) := by decide +kernel
theorem dX6_does_260 : decode cX6_does 260 = .ok (.iconst 1, 1) := by decide +kernel
theorem dX6_does_261 : decode cX6_does 261 = .ok (.if_icmp .ne 17, 3) := by decide +kernel
theorem dX6_does_264 : decode cX6_does 264 = .ok (.aload_n 0, 1) := by decide +kernel
theorem dX6_does_265 : decode cX6_does 265 = .ok (.getfield 7, 3) := by decide +kernel
theorem dX6_does_268 : decode cX6_does 268 = .ok (.bipush 19, 2) := by decide +kernel
theorem dX6_does_270 : decode cX6_does 270 = .ok (.iaload, 1) := by decide +kernel
theorem dX6_does_271 : decode cX6_does 271 = .ok (.iconst 1, 1) := by decide +kernel
theorem dX6_does_272 : decode cX6_does 272 = .ok (.iload_n 2, 1) := by decide +kernel
theorem dX6_does_273 : decode cX6_does 273 = .ok (.ishl, 1) := by decide +kernel
theorem dX6_does_274 : decode cX6_does 274 = .ok (.ior, 1) := by decide +kernel
theorem dX6_does_275 : decode cX6_does 275 = .ok (.goto 16, 3) := by decide +kernel
theorem dX6_does_278 : decode cX6_does 278 = .ok (.aload_n 0, 1) := by decide +kernel
theorem dX6_does_279 : decode cX6_does 279 = .ok (.getfield 7, 3) := by decide +kernel
theorem dX6_does_282 : decode cX6_does 282 = .ok (.bipush 19, 2) := by decide +kernel
theorem dX6_does_284 : decode cX6_does 284 = .ok (.iaload, 1) := by decide +kernel
theorem dX6_does_285 : decode cX6_does 285 = .ok (.iconst 1, 1) := by decide +kernel
theorem dX6_does_286 : decode cX6_does 286 = .ok (.iload_n 2, 1) := by decide +kernel
theorem dX6_does_287 : decode cX6_does 287 = .ok (.ishl, 1) := by decide +kernel
theorem dX6_does_288 : decode cX6_does 288 = .ok (.iconst (-1), 1) := by decide +kernel
theorem dX6_does_289 : decode cX6_does 289 = .ok (.ixor, 1) := by decide +kernel
theorem dX6_does_290 : decode cX6_does 290 = .ok (.iand, 1) := by decide +kernel
theorem dX6_does_291 : decode cX6_does 291 = .ok (.iastore, 1) := by decide +kernel
theorem dX6_does_292 : decode cX6_does 292 = .ok (.iload 6, 2) := by decide +kernel
theorem dX6_does_294 : decode cX6_does 294 = .ok (.ireturn, 1) := by decide +kernel
theorem dX6_moves_0 : decode cX6_moves 0 = .ok (.aload_n 0, 1) := by decide +kernel
theorem dX6_moves_1 : decode cX6_moves 1 = .ok (.getfield 7, 3) := by decide +kernel
theorem dX6_moves_4 : decode cX6_moves 4 = .ok (.iconst 5, 1) := by decide +kernel
theorem dX6_moves_5 : decode cX6_moves 5 = .ok (.iaload, 1) := by decide +kernel
theorem dX6_moves_6 : decode cX6_moves 6 = .ok (.istore_n 2, 1) := by decide +kernel
theorem dX6_moves_7 : decode cX6_moves 7 = .ok (.aload_n 0, 1) := by decide +kernel
theorem dX6_moves_8 : decode cX6_moves 8 = .ok (.getfield 7, 3) := by decide +kernel
theorem dX6_moves_11 : decode cX6_moves 11 = .ok (.iconst 5, 1) := by decide +kernel
theorem dX6_moves_12 : decode cX6_moves 12 = .ok (.iload_n 1, 1) := by decide +kernel
theorem dX6_moves_13 : decode cX6_moves 13 = .ok (.iastore, 1) := by decide +kernel
theorem dX6_moves_14 : decode cX6_moves 14 = .ok (.iload_n 1, 1) := by decide +kernel
theorem dX6_moves_15 : decode cX6_moves 15 = .ok (.sipush 1000, 3) := by decide +kernel
theorem dX6_moves_18 : decode cX6_moves 18 = .ok (.if_icmp .ne 7, 3) := by decide +kernel
theorem dX6_moves_21 : decode cX6_moves 21 = .ok (.aload_n 0, 1) := by decide +kernel
theorem dX6_moves_22 : decode cX6_moves 22 = .ok (.invokevirtual 47, 3) := by decide +kernel
theorem dX6_moves_25 : decode cX6_moves 25 = .ok (.iload_n 2, 1) := by decide +kernel
theorem dX6_moves_26 : decode cX6_moves 26 = .ok (.ireturn, 1) := by decide +kernel
theorem dX6_acts_0 : decode cX6_acts 0 = .ok (.bipush 6, 2) := by decide +kernel
theorem dX6_acts_2 : decode cX6_acts 2 = .ok (.aload_n 0, 1) := by decide +kernel
theorem dX6_acts_3 : decode cX6_acts 3 = .ok (.getfield 68, 3) := by decide +kernel
theorem dX6_acts_6 : decode cX6_acts 6 = .ok (.imul, 1) := by decide +kernel
theorem dX6_acts_7 : decode cX6_acts 7 = .ok (.istore 6, 2) := by decide +kernel
theorem dX6_acts_9 : decode cX6_acts 9 = .ok (.aload_n 0, 1) := by decide +kernel
theorem dX6_acts_10 : decode cX6_acts 10 = .ok (.getfield 16, 3) := by decide +kernel
theorem dX6_acts_13 : decode cX6_acts 13 = .ok (.iload 6, 2) := by decide +kernel
theorem dX6_acts_15 : decode cX6_acts 15 = .ok (.aload_n 0, 1) := by decide +kernel
theorem dX6_acts_16 : decode cX6_acts 16 = .ok (.getfield 71, 3) := by decide +kernel
theorem dX6_acts_19 : decode cX6_acts 19 = .ok (.iastore, 1) := by decide +kernel
theorem dX6_acts_20 : decode cX6_acts 20 = .ok (.aload_n 0, 1) := by decide +kernel
theorem dX6_acts_21 : decode cX6_acts 21 = .ok (.getfield 16, 3) := by decide +kernel
theorem dX6_acts_24 : decode cX6_acts 24 = .ok (.iload 6, 2) := by decide +kernel
theorem dX6_acts_26 : decode cX6_acts 26 = .ok (.iconst 1, 1) := by decide +kernel
theorem dX6_acts_27 : decode cX6_acts 27 = .ok (.iadd, 1) := by decide +kernel
theorem dX6_acts_28 : decode cX6_acts 28 = .ok (.iload_n 1, 1) := by decide +kernel
theorem dX6_acts_29 : decode cX6_acts 29 = .ok (.iastore, 1) := by decide +kernel
theorem dX6_acts_30 : decode cX6_acts 30 = .ok (.aload_n 0, 1) := by decide +kernel
theorem dX6_acts_31 : decode cX6_acts 31 = .ok (.getfield 16, 3) := by decide +kernel
theorem dX6_acts_34 : decode cX6_acts 34 = .ok (.iload 6, 2) := by decide +kernel
theorem dX6_acts_36 : decode cX6_acts 36 = .ok (.iconst 2, 1) := by decide +kernel
theorem dX6_acts_37 : decode cX6_acts 37 = .ok (.iadd, 1) := by decide +kernel
theorem dX6_acts_38 : decode cX6_acts 38 = .ok (.iload_n 2, 1) := by decide +kernel
theorem dX6_acts_39 : decode cX6_acts 39 = .ok (.iastore, 1) := by decide +kernel
theorem dX6_acts_40 : decode cX6_acts 40 = .ok (.aload_n 0, 1) := by decide +kernel
theorem dX6_acts_41 : decode cX6_acts 41 = .ok (.getfield 16, 3) := by decide +kernel
theorem dX6_acts_44 : decode cX6_acts 44 = .ok (.iload 6, 2) := by decide +kernel
theorem dX6_acts_46 : decode cX6_acts 46 = .ok (.iconst 3, 1) := by decide +kernel
theorem dX6_acts_47 : decode cX6_acts 47 = .ok (.iadd, 1) := by decide +kernel
theorem dX6_acts_48 : decode cX6_acts 48 = .ok (.iload_n 3, 1) := by decide +kernel
theorem dX6_acts_49 : decode cX6_acts 49 = .ok (.iastore, 1) := by decide +kernel
theorem dX6_acts_50 : decode cX6_acts 50 = .ok (.aload_n 0, 1) := by decide +kernel
theorem dX6_acts_51 : decode cX6_acts 51 = .ok (.getfield 16, 3) := by decide +kernel
theorem dX6_acts_54 : decode cX6_acts 54 = .ok (.iload 6, 2) := by decide +kernel
theorem dX6_acts_56 : decode cX6_acts 56 = .ok (.iconst 4, 1) := by decide +kernel
theorem dX6_acts_57 : decode cX6_acts 57 = .ok (.iadd, 1) := by decide +kernel
theorem dX6_acts_58 : decode cX6_acts 58 = .ok (.iload 4, 2) := by decide +kernel
theorem dX6_acts_60 : decode cX6_acts 60 = .ok (.iastore, 1) := by decide +kernel
theorem dX6_acts_61 : decode cX6_acts 61 = .ok (.aload_n 0, 1) := by decide +kernel
theorem dX6_acts_62 : decode cX6_acts 62 = .ok (.getfield 16, 3) := by decide +kernel
theorem dX6_acts_65 : decode cX6_acts 65 = .ok (.iload 6, 2) := by decide +kernel
theorem dX6_acts_67 : decode cX6_acts 67 = .ok (.iconst 5, 1) := by decide +kernel
theorem dX6_acts_68 : decode cX6_acts 68 = .ok (.iadd, 1) := by decide +kernel
theorem dX6_acts_69 : decode cX6_acts 69 = .ok (.iload 5, 2) := by decide +kernel
theorem dX6_acts_71 : decode cX6_acts 71 = .ok (.iastore, 1) := by decide +kernel
theorem dX6_acts_72 : decode cX6_acts 72 = .ok (.aload_n 0, 1) := by decide +kernel
theorem dX6_acts_73 : decode cX6_acts 73 = .ok (.dup, 1) := by decide +kernel
theorem dX6_acts_74 : decode cX6_acts 74 = .ok (.getfield 68, 3) := by decide +kernel
theorem dX6_acts_77 : decode cX6_acts 77 = .ok (.iconst 1, 1) := by decide +kernel
theorem dX6_acts_78 : decode cX6_acts 78 = .ok (.iadd, 1) := by decide +kernel
theorem dX6_acts_79 : decode cX6_acts 79 = .ok (.putfield 68, 3) := by decide +kernel
theorem dX6_acts_82 : decode cX6_acts 82 = .ok (.aload_n 0, 1) := by decide +kernel
theorem dX6_acts_83 : decode cX6_acts 83 = .ok (.iload_n 1, 1) := by decide +kernel
theorem dX6_acts_84 : decode cX6_acts 84 = .ok (.iload_n 2, 1) := by decide +kernel
theorem dX6_acts_85 : decode cX6_acts 85 = .ok (.iload_n 3, 1) := by decide +kernel
theorem dX6_acts_86 : decode cX6_acts 86 = .ok (.iload 4, 2) := by decide +kernel
theorem dX6_acts_88 : decode cX6_acts 88 = .ok (.iload 5, 2) := by decide +kernel
theorem dX6_acts_90 : decode cX6_acts 90 = .ok (.invokevirtual 74, 3) := by decide +kernel
theorem dX6_acts_93 : decode cX6_acts 93 = .ok (.ireturn, 1) := by decide +kernel
theorem dX6_hasRoom_0 : decode cX6_hasRoom 0 = .ok (.aload_n 0, 1) := by decide +kernel
theorem dX6_hasRoom_1 : decode cX6_hasRoom 1 = .ok (.getfield 68, 3) := by decide +kernel
theorem dX6_hasRoom_4 : decode cX6_hasRoom 4 = .ok (.bipush 100, 2) := by decide +kernel
theorem dX6_hasRoom_6 : decode cX6_hasRoom 6 = .ok (.if_icmp .ge 7, 3) := by decide +kernel
theorem dX6_hasRoom_9 : decode cX6_hasRoom 9 = .ok (.iconst 1, 1) := by decide +kernel
theorem dX6_hasRoom_10 : decode cX6_hasRoom 10 = .ok (.goto 4, 3) := by decide +kernel
theorem dX6_hasRoom_13 : decode cX6_hasRoom 13 = .ok (.iconst 0, 1) := by decide +kernel
theorem dX6_hasRoom_14 : decode cX6_hasRoom 14 = .ok (.ireturn, 1) := by decide +kernel
theorem dX6_program_0 : decode cX6_program 0 = .ok (.aload_n 0, 1) := by decide +kernel
theorem dX6_program_1 : decode cX6_program 1 = .ok (.iload_n 1, 1) := by decide +kernel
theorem dX6_program_2 : decode cX6_program 2 = .ok (.invokestatic 78, 3) := by decide +kernel
theorem dX6_program_5 : decode cX6_program 5 = .ok (.aload_n 0, 1) := by decide +kernel
theorem dX6_program_6 : decode cX6_program 6 = .ok (.invokevirtual 81, 3) := by decide +kernel
theorem dX6_program_9 : decode cX6_program 9 = .ok (.iconst 1, 1) := by decide +kernel
theorem dX6_program_10 : decode cX6_program 10 = .ok (.invokevirtual 84, 3) := by decide +kernel
theorem dX6_program_13 : decode cX6_program 13 = .ok (.ifCond .eq 15, 3) := by decide +kernel
theorem dX6_program_16 : decode cX6_program 16 = .ok (.aload_n 0, 1) := by decide +kernel
theorem dX6_program_17 : decode cX6_program 17 = .ok (.iconst 0, 1) := by decide +kernel
theorem dX6_program_18 : decode cX6_program 18 = .ok (.iload_n 1, 1) := by decide +kernel
theorem dX6_program_19 : decode cX6_program 19 = .ok (.iconst (-1), 1) := by decide +kernel
theorem dX6_program_20 : decode cX6_program 20 = .ok (.iconst (-1), 1) := by decide +kernel
theorem dX6_program_21 : decode cX6_program 21 = .ok (.iconst (-1), 1) := by decide +kernel
theorem dX6_program_22 : decode cX6_program 22 = .ok (.invokevirtual 88, 3) := by decide +kernel
theorem dX6_program_25 : decode cX6_program 25 = .ok (.goto 4, 3) := by decide +kernel
theorem dX6_program_28 : decode cX6_program 28 = .ok (.iconst 0, 1) := by decide +kernel
theorem dX6_program_29 : decode cX6_program 29 = .ok (.ireturn, 1) := by decide +kernel
theorem dX6_preview_0 : decode cX6_preview 0 = .ok (.aload_n 0, 1) := by decide +kernel
theorem dX6_preview_1 : decode cX6_preview 1 = .ok (.iload_n 1, 1) := by decide +kernel
theorem dX6_preview_2 : decode cX6_preview 2 = .ok (.invokestatic 78, 3) := by decide +kernel
theorem dX6_preview_5 : decode cX6_preview 5 = .ok (.aload_n 0, 1) := by decide +kernel
theorem dX6_preview_6 : decode cX6_preview 6 = .ok (.invokevirtual 81, 3) := by decide +kernel
theorem dX6_preview_9 : decode cX6_preview 9 = .ok (.iconst 1, 1) := by decide +kernel
theorem dX6_preview_10 : decode cX6_preview 10 = .ok (.invokevirtual 84, 3) := by decide +kernel
theorem dX6_preview_13 : decode cX6_preview 13 = .ok (.ifCond .eq 15, 3) := by decide +kernel
theorem dX6_preview_16 : decode cX6_preview 16 = .ok (.aload_n 0, 1) := by decide +kernel
theorem dX6_preview_17 : decode cX6_preview 17 = .ok (.iconst 1, 1) := by decide +kernel
theorem dX6_preview_18 : decode cX6_preview 18 = .ok (.iload_n 1, 1) := by decide +kernel
theorem dX6_preview_19 : decode cX6_preview 19 = .ok (.iconst (-1), 1) := by decide +kernel
theorem dX6_preview_20 : decode cX6_preview 20 = .ok (.iconst (-1), 1) := by decide +kernel
theorem dX6_preview_21 : decode cX6_preview 21 = .ok (.iconst (-1), 1) := by decide +kernel
theorem dX6_preview_22 : decode cX6_preview 22 = .ok (.invokevirtual 88, 3) := by decide +kernel
theorem dX6_preview_25 : decode cX6_preview 25 = .ok (.goto 4, 3) := by decide +kernel
theorem dX6_preview_28 : decode cX6_preview 28 = .ok (.iconst 0, 1) := by decide +kernel
theorem dX6_preview_29 : decode cX6_preview 29 = .ok (.ireturn, 1) := by decide +kernel
theorem dX6_transition_0 : decode cX6_transition 0 = .ok (.aload_n 0, 1) := by decide +kernel
theorem dX6_transition_1 : decode cX6_transition 1 = .ok (.iload_n 1, 1) := by decide +kernel
theorem dX6_transition_2 : decode cX6_transition 2 = .ok (.i2l, 1) := by decide +kernel
theorem dX6_transition_3 : decode cX6_transition 3 = .ok (.lconst 0, 1) := by decide +kernel
theorem dX6_transition_4 : decode cX6_transition 4 = .ok (.ldc2_w 41, 3) := by decide +kernel
theorem dX6_transition_7 : decode cX6_transition 7 = .ok (.invokestatic 37, 3) := by decide +kernel
theorem dX6_transition_10 : decode cX6_transition 10 = .ok (.ifCond .eq 19, 3) := by decide +kernel
theorem dX6_transition_13 : decode cX6_transition 13 = .ok (.iload_n 2, 1) := by decide +kernel
theorem dX6_transition_14 : decode cX6_transition 14 = .ok (.i2l, 1) := by decide +kernel
theorem dX6_transition_15 : decode cX6_transition 15 = .ok (.lconst 1, 1) := by decide +kernel
theorem dX6_transition_16 : decode cX6_transition 16 = .ok (.ldc2_w 90, 3) := by decide +kernel
theorem dX6_transition_19 : decode cX6_transition 19 = .ok (.invokestatic 37, 3) := by decide +kernel
theorem dX6_transition_22 : decode cX6_transition 22 = .ok (.ifCond .eq 7, 3) := by decide +kernel
theorem dX6_transition_25 : decode cX6_transition 25 = .ok (.iconst 1, 1) := by decide +kernel
theorem dX6_transition_26 : decode cX6_transition 26 = .ok (.goto 4, 3) := by decide +kernel
theorem dX6_transition_29 : decode cX6_transition 29 = .ok (.iconst 0, 1) := by decide +kernel
theorem dX6_transition_30 : decode cX6_transition 30 = .ok (.aload_n 0, 1) := by decide +kernel
theorem dX6_transition_31 : decode cX6_transition 31 = .ok (.invokevirtual 81, 3) := by decide +kernel
theorem dX6_transition_34 : decode cX6_transition 34 = .ok (.iconst 1, 1) := by decide +kernel
theorem dX6_transition_35 : decode cX6_transition 35 = .ok (.invokevirtual 84, 3) := by decide +kernel
theorem dX6_transition_38 : decode cX6_transition 38 = .ok (.ifCond .eq 15, 3) := by decide +kernel
theorem dX6_transition_41 : decode cX6_transition 41 = .ok (.aload_n 0, 1) := by decide +kernel
theorem dX6_transition_42 : decode cX6_transition 42 = .ok (.iconst 2, 1) := by decide +kernel
theorem dX6_transition_43 : decode cX6_transition 43 = .ok (.iload_n 1, 1) := by decide +kernel
theorem dX6_transition_44 : decode cX6_transition 44 = .ok (.iload_n 2, 1) := by decide +kernel
theorem dX6_transition_45 : decode cX6_transition 45 = .ok (.iconst (-1), 1) := by decide +kernel
theorem dX6_transition_46 : decode cX6_transition 46 = .ok (.iconst (-1), 1) := by decide +kernel
theorem dX6_transition_47 : decode cX6_transition 47 = .ok (.invokevirtual 88, 3) := by decide +kernel
theorem dX6_transition_50 : decode cX6_transition 50 = .ok (.goto 4, 3) := by decide +kernel
theorem dX6_transition_53 : decode cX6_transition 53 = .ok (.iconst 0, 1) := by decide +kernel
theorem dX6_transition_54 : decode cX6_transition 54 = .ok (.ireturn, 1) := by decide +kernel
theorem dX6_next_0 : decode cX6_next 0 = .ok (.aload_n 0, 1) := by decide +kernel
theorem dX6_next_1 : decode cX6_next 1 = .ok (.iload_n 1, 1) := by decide +kernel
theorem dX6_next_2 : decode cX6_next 2 = .ok (.i2l, 1) := by decide +kernel
theorem dX6_next_3 : decode cX6_next 3 = .ok (.lconst 0, 1) := by decide +kernel
theorem dX6_next_4 : decode cX6_next 4 = .ok (.ldc2_w 92, 3) := by decide +kernel
theorem dX6_next_7 : decode cX6_next 7 = .ok (.invokestatic 37, 3) := by decide +kernel
theorem dX6_next_10 : decode cX6_next 10 = .ok (.aload_n 0, 1) := by decide +kernel
theorem dX6_next_11 : decode cX6_next 11 = .ok (.invokevirtual 81, 3) := by decide +kernel
theorem dX6_next_14 : decode cX6_next 14 = .ok (.ifCond .eq 15, 3) := by decide +kernel
theorem dX6_next_17 : decode cX6_next 17 = .ok (.aload_n 0, 1) := by decide +kernel
theorem dX6_next_18 : decode cX6_next 18 = .ok (.iconst 3, 1) := by decide +kernel
theorem dX6_next_19 : decode cX6_next 19 = .ok (.invokevirtual 57, 3) := by decide +kernel
theorem dX6_next_22 : decode cX6_next 22 = .ok (.ifCond .eq 7, 3) := by decide +kernel
theorem dX6_next_25 : decode cX6_next 25 = .ok (.iconst 1, 1) := by decide +kernel
theorem dX6_next_26 : decode cX6_next 26 = .ok (.goto 4, 3) := by decide +kernel
theorem dX6_next_29 : decode cX6_next 29 = .ok (.iconst 0, 1) := by decide +kernel
theorem dX6_next_30 : decode cX6_next 30 = .ok (.iconst 1, 1) := by decide +kernel
theorem dX6_next_31 : decode cX6_next 31 = .ok (.invokevirtual 84, 3) := by decide +kernel
theorem dX6_next_34 : decode cX6_next 34 = .ok (.ifCond .eq 15, 3) := by decide +kernel
theorem dX6_next_37 : decode cX6_next 37 = .ok (.aload_n 0, 1) := by decide +kernel
theorem dX6_next_38 : decode cX6_next 38 = .ok (.iconst 3, 1) := by decide +kernel
theorem dX6_next_39 : decode cX6_next 39 = .ok (.iload_n 1, 1) := by decide +kernel
theorem dX6_next_40 : decode cX6_next 40 = .ok (.iconst (-1), 1) := by decide +kernel
theorem dX6_next_41 : decode cX6_next 41 = .ok (.iconst (-1), 1) := by decide +kernel
theorem dX6_next_42 : decode cX6_next 42 = .ok (.iconst (-1), 1) := by decide +kernel
theorem dX6_next_43 : decode cX6_next 43 = .ok (.invokevirtual 88, 3) := by decide +kernel
theorem dX6_next_46 : decode cX6_next 46 = .ok (.goto 4, 3) := by decide +kernel
theorem dX6_next_49 : decode cX6_next 49 = .ok (.iconst 0, 1) := by decide +kernel
theorem dX6_next_50 : decode cX6_next 50 = .ok (.ireturn, 1) := by decide +kernel
theorem dX6_key_0 : decode cX6_key 0 = .ok (.aload_n 0, 1) := by decide +kernel
theorem dX6_key_1 : decode cX6_key 1 = .ok (.iload_n 1, 1) := by decide +kernel
theorem dX6_key_2 : decode cX6_key 2 = .ok (.invokestatic 94, 3) := by decide +kernel
theorem dX6_key_5 : decode cX6_key 5 = .ok (.ifCond .eq 14, 3) := by decide +kernel
theorem dX6_key_8 : decode cX6_key 8 = .ok (.iload_n 2, 1) := by decide +kernel
theorem dX6_key_9 : decode cX6_key 9 = .ok (.invokestatic 78, 3) := by decide +kernel
theorem dX6_key_12 : decode cX6_key 12 = .ok (.ifCond .eq 7, 3) := by decide +kernel
theorem dX6_key_15 : decode cX6_key 15 = .ok (.iconst 1, 1) := by decide +kernel
theorem dX6_key_16 : decode cX6_key 16 = .ok (.goto 4, 3) := by decide +kernel
theorem dX6_key_19 : decode cX6_key 19 = .ok (.iconst 0, 1) := by decide +kernel
theorem dX6_key_20 : decode cX6_key 20 = .ok (.iload_n 3, 1) := by decide +kernel
theorem dX6_key_21 : decode cX6_key 21 = .ok (.i2l, 1) := by decide +kernel
theorem dX6_key_22 : decode cX6_key 22 = .ok (.lconst 0, 1) := by decide +kernel
theorem dX6_key_23 : decode cX6_key 23 = .ok (.ldc2_w 90, 3) := by decide +kernel
theorem dX6_key_26 : decode cX6_key 26 = .ok (.invokestatic 37, 3) := by decide +kernel
theorem dX6_key_29 : decode cX6_key 29 = .ok (.ifCond .eq 20, 3) := by decide +kernel
theorem dX6_key_32 : decode cX6_key 32 = .ok (.iload 4, 2) := by decide +kernel
theorem dX6_key_34 : decode cX6_key 34 = .ok (.i2l, 1) := by decide +kernel
theorem dX6_key_35 : decode cX6_key 35 = .ok (.lconst 1, 1) := by decide +kernel
theorem dX6_key_36 : decode cX6_key 36 = .ok (.ldc2_w 90, 3) := by decide +kernel
theorem dX6_key_39 : decode cX6_key 39 = .ok (.invokestatic 37, 3) := by decide +kernel
theorem dX6_key_42 : decode cX6_key 42 = .ok (.ifCond .eq 7, 3) := by decide +kernel
theorem dX6_key_45 : decode cX6_key 45 = .ok (.iconst 1, 1) := by decide +kernel
theorem dX6_key_46 : decode cX6_key 46 = .ok (.goto 4, 3) := by decide +kernel
theorem dX6_key_49 : decode cX6_key 49 = .ok (.iconst 0, 1) := by decide +kernel
theorem dX6_key_50 : decode cX6_key 50 = .ok (.aload_n 0, 1) := by decide +kernel
theorem dX6_key_51 : decode cX6_key 51 = .ok (.invokevirtual 81, 3) := by decide +kernel
theorem dX6_key_54 : decode cX6_key 54 = .ok (.invokevirtual 84, 3) := by decide +kernel
theorem dX6_key_57 : decode cX6_key 57 = .ok (.ifCond .eq 16, 3) := by decide +kernel
theorem dX6_key_60 : decode cX6_key 60 = .ok (.aload_n 0, 1) := by decide +kernel
theorem dX6_key_61 : decode cX6_key 61 = .ok (.iconst 4, 1) := by decide +kernel
theorem dX6_key_62 : decode cX6_key 62 = .ok (.iload_n 1, 1) := by decide +kernel
theorem dX6_key_63 : decode cX6_key 63 = .ok (.iload_n 2, 1) := by decide +kernel
theorem dX6_key_64 : decode cX6_key 64 = .ok (.iload_n 3, 1) := by decide +kernel
theorem dX6_key_65 : decode cX6_key 65 = .ok (.iload 4, 2) := by decide +kernel
theorem dX6_key_67 : decode cX6_key 67 = .ok (.invokevirtual 88, 3) := by decide +kernel
theorem dX6_key_70 : decode cX6_key 70 = .ok (.goto 4, 3) := by decide +kernel
theorem dX6_key_73 : decode cX6_key 73 = .ok (.iconst 0, 1) := by decide +kernel
theorem dX6_key_74 : decode cX6_key 74 = .ok (.ireturn, 1) := by decide +kernel
theorem dX6_toggle_0 : decode cX6_toggle 0 = .ok (.aload_n 0, 1) := by decide +kernel
theorem dX6_toggle_1 : decode cX6_toggle 1 = .ok (.iload_n 1, 1) := by decide +kernel
theorem dX6_toggle_2 : decode cX6_toggle 2 = .ok (.invokestatic 94, 3) := by decide +kernel
theorem dX6_toggle_5 : decode cX6_toggle 5 = .ok (.aload_n 0, 1) := by decide +kernel
theorem dX6_toggle_6 : decode cX6_toggle 6 = .ok (.invokevirtual 81, 3) := by decide +kernel
theorem dX6_toggle_9 : decode cX6_toggle 9 = .ok (.iconst 1, 1) := by decide +kernel
theorem dX6_toggle_10 : decode cX6_toggle 10 = .ok (.invokevirtual 84, 3) := by decide +kernel
theorem dX6_toggle_13 : decode cX6_toggle 13 = .ok (.ifCond .eq 15, 3) := by decide +kernel
theorem dX6_toggle_16 : decode cX6_toggle 16 = .ok (.aload_n 0, 1) := by decide +kernel
theorem dX6_toggle_17 : decode cX6_toggle 17 = .ok (.iconst 5, 1) := by decide +kernel
theorem dX6_toggle_18 : decode cX6_toggle 18 = .ok (.iload_n 1, 1) := by decide +kernel
theorem dX6_toggle_19 : decode cX6_toggle 19 = .ok (.iconst (-1), 1) := by decide +kernel
theorem dX6_toggle_20 : decode cX6_toggle 20 = .ok (.iconst (-1), 1) := by decide +kernel
theorem dX6_toggle_21 : decode cX6_toggle 21 = .ok (.iconst (-1), 1) := by decide +kernel
theorem dX6_toggle_22 : decode cX6_toggle 22 = .ok (.invokevirtual 88, 3) := by decide +kernel
theorem dX6_toggle_25 : decode cX6_toggle 25 = .ok (.goto 4, 3) := by decide +kernel
theorem dX6_toggle_28 : decode cX6_toggle 28 = .ok (.iconst 0, 1) := by decide +kernel
theorem dX6_toggle_29 : decode cX6_toggle 29 = .ok (.ireturn, 1) := by decide +kernel
theorem dX6_cut_0 : decode cX6_cut 0 = .ok (.aload_n 0, 1) := by decide +kernel
theorem dX6_cut_1 : decode cX6_cut 1 = .ok (.aload_n 0, 1) := by decide +kernel
theorem dX6_cut_2 : decode cX6_cut 2 = .ok (.invokevirtual 81, 3) := by decide +kernel
theorem dX6_cut_5 : decode cX6_cut 5 = .ok (.iconst 1, 1) := by decide +kernel
theorem dX6_cut_6 : decode cX6_cut 6 = .ok (.iconst 1, 1) := by decide +kernel
theorem dX6_cut_7 : decode cX6_cut 7 = .ok (.invokevirtual 84, 3) := by decide +kernel
theorem dX6_cut_10 : decode cX6_cut 10 = .ok (.ifCond .eq 16, 3) := by decide +kernel
theorem dX6_cut_13 : decode cX6_cut 13 = .ok (.aload_n 0, 1) := by decide +kernel
theorem dX6_cut_14 : decode cX6_cut 14 = .ok (.bipush 6, 2) := by decide +kernel
theorem dX6_cut_16 : decode cX6_cut 16 = .ok (.iconst (-1), 1) := by decide +kernel
theorem dX6_cut_17 : decode cX6_cut 17 = .ok (.iconst (-1), 1) := by decide +kernel
theorem dX6_cut_18 : decode cX6_cut 18 = .ok (.iconst (-1), 1) := by decide +kernel
theorem dX6_cut_19 : decode cX6_cut 19 = .ok (.iconst (-1), 1) := by decide +kernel
theorem dX6_cut_20 : decode cX6_cut 20 = .ok (.invokevirtual 88, 3) := by decide +kernel
theorem dX6_cut_23 : decode cX6_cut 23 = .ok (.goto 4, 3) := by decide +kernel
theorem dX6_cut_26 : decode cX6_cut 26 = .ok (.iconst 0, 1) := by decide +kernel
theorem dX6_cut_27 : decode cX6_cut 27 = .ok (.ireturn, 1) := by decide +kernel
theorem dX6_auto_0 : decode cX6_auto 0 = .ok (.aload_n 0, 1) := by decide +kernel
theorem dX6_auto_1 : decode cX6_auto 1 = .ok (.aload_n 0, 1) := by decide +kernel
theorem dX6_auto_2 : decode cX6_auto 2 = .ok (.invokevirtual 81, 3) := by decide +kernel
theorem dX6_auto_5 : decode cX6_auto 5 = .ok (.ifCond .eq 16, 3) := by decide +kernel
theorem dX6_auto_8 : decode cX6_auto 8 = .ok (.aload_n 0, 1) := by decide +kernel
theorem dX6_auto_9 : decode cX6_auto 9 = .ok (.bipush 7, 2) := by decide +kernel
theorem dX6_auto_11 : decode cX6_auto 11 = .ok (.invokevirtual 57, 3) := by decide +kernel
theorem dX6_auto_14 : decode cX6_auto 14 = .ok (.ifCond .eq 7, 3) := by decide +kernel
theorem dX6_auto_17 : decode cX6_auto 17 = .ok (.iconst 1, 1) := by decide +kernel
theorem dX6_auto_18 : decode cX6_auto 18 = .ok (.goto 4, 3) := by decide +kernel
theorem dX6_auto_21 : decode cX6_auto 21 = .ok (.iconst 0, 1) := by decide +kernel
theorem dX6_auto_22 : decode cX6_auto 22 = .ok (.iconst 1, 1) := by decide +kernel
theorem dX6_auto_23 : decode cX6_auto 23 = .ok (.iconst 1, 1) := by decide +kernel
theorem dX6_auto_24 : decode cX6_auto 24 = .ok (.invokevirtual 84, 3) := by decide +kernel
theorem dX6_auto_27 : decode cX6_auto 27 = .ok (.ifCond .eq 16, 3) := by decide +kernel
theorem dX6_auto_30 : decode cX6_auto 30 = .ok (.aload_n 0, 1) := by decide +kernel
theorem dX6_auto_31 : decode cX6_auto 31 = .ok (.bipush 7, 2) := by decide +kernel
theorem dX6_auto_33 : decode cX6_auto 33 = .ok (.iconst (-1), 1) := by decide +kernel
theorem dX6_auto_34 : decode cX6_auto 34 = .ok (.iconst (-1), 1) := by decide +kernel
theorem dX6_auto_35 : decode cX6_auto 35 = .ok (.iconst (-1), 1) := by decide +kernel
theorem dX6_auto_36 : decode cX6_auto 36 = .ok (.iconst (-1), 1) := by decide +kernel
theorem dX6_auto_37 : decode cX6_auto 37 = .ok (.invokevirtual 88, 3) := by decide +kernel
theorem dX6_auto_40 : decode cX6_auto 40 = .ok (.goto 4, 3) := by decide +kernel
theorem dX6_auto_43 : decode cX6_auto 43 = .ok (.iconst 0, 1) := by decide +kernel
theorem dX6_auto_44 : decode cX6_auto 44 = .ok (.ireturn, 1) := by decide +kernel
theorem dX6_bar_0 : decode cX6_bar 0 = .ok (.aload_n 0, 1) := by decide +kernel
theorem dX6_bar_1 : decode cX6_bar 1 = .ok (.iload_n 1, 1) := by decide +kernel
theorem dX6_bar_2 : decode cX6_bar 2 = .ok (.i2l, 1) := by decide +kernel
theorem dX6_bar_3 : decode cX6_bar 3 = .ok (.lconst 0, 1) := by decide +kernel
theorem dX6_bar_4 : decode cX6_bar 4 = .ok (.ldc2_w 97, 3) := by decide +kernel
theorem dX6_bar_7 : decode cX6_bar 7 = .ok (.invokestatic 37, 3) := by decide +kernel
theorem dX6_bar_10 : decode cX6_bar 10 = .ok (.aload_n 0, 1) := by decide +kernel
theorem dX6_bar_11 : decode cX6_bar 11 = .ok (.invokevirtual 81, 3) := by decide +kernel
theorem dX6_bar_14 : decode cX6_bar 14 = .ok (.ifCond .eq 16, 3) := by decide +kernel
theorem dX6_bar_17 : decode cX6_bar 17 = .ok (.aload_n 0, 1) := by decide +kernel
theorem dX6_bar_18 : decode cX6_bar 18 = .ok (.bipush 8, 2) := by decide +kernel
theorem dX6_bar_20 : decode cX6_bar 20 = .ok (.invokevirtual 57, 3) := by decide +kernel
theorem dX6_bar_23 : decode cX6_bar 23 = .ok (.ifCond .eq 7, 3) := by decide +kernel
theorem dX6_bar_26 : decode cX6_bar 26 = .ok (.iconst 1, 1) := by decide +kernel
theorem dX6_bar_27 : decode cX6_bar 27 = .ok (.goto 4, 3) := by decide +kernel
theorem dX6_bar_30 : decode cX6_bar 30 = .ok (.iconst 0, 1) := by decide +kernel
theorem dX6_bar_31 : decode cX6_bar 31 = .ok (.iconst 1, 1) := by decide +kernel
theorem dX6_bar_32 : decode cX6_bar 32 = .ok (.invokevirtual 84, 3) := by decide +kernel
theorem dX6_bar_35 : decode cX6_bar 35 = .ok (.ifCond .eq 16, 3) := by decide +kernel
theorem dX6_bar_38 : decode cX6_bar 38 = .ok (.aload_n 0, 1) := by decide +kernel
theorem dX6_bar_39 : decode cX6_bar 39 = .ok (.bipush 8, 2) := by decide +kernel
theorem dX6_bar_41 : decode cX6_bar 41 = .ok (.iload_n 1, 1) := by decide +kernel
theorem dX6_bar_42 : decode cX6_bar 42 = .ok (.iconst (-1), 1) := by decide +kernel
theorem dX6_bar_43 : decode cX6_bar 43 = .ok (.iconst (-1), 1) := by decide +kernel
theorem dX6_bar_44 : decode cX6_bar 44 = .ok (.iconst (-1), 1) := by decide +kernel
theorem dX6_bar_45 : decode cX6_bar 45 = .ok (.invokevirtual 88, 3) := by decide +kernel
theorem dX6_bar_48 : decode cX6_bar 48 = .ok (.goto 4, 3) := by decide +kernel
theorem dX6_bar_51 : decode cX6_bar 51 = .ok (.iconst 0, 1) := by decide +kernel
theorem dX6_bar_52 : decode cX6_bar 52 = .ok (.ireturn, 1) := by decide +kernel
theorem dX6_fault_0 : decode cX6_fault 0 = .ok (.aload_n 0, 1) := by decide +kernel
theorem dX6_fault_1 : decode cX6_fault 1 = .ok (.iload_n 1, 1) := by decide +kernel
theorem dX6_fault_2 : decode cX6_fault 2 = .ok (.i2l, 1) := by decide +kernel
theorem dX6_fault_3 : decode cX6_fault 3 = .ok (.lconst 1, 1) := by decide +kernel
theorem dX6_fault_4 : decode cX6_fault 4 = .ok (.ldc2_w 35, 3) := by decide +kernel
theorem dX6_fault_7 : decode cX6_fault 7 = .ok (.invokestatic 37, 3) := by decide +kernel
theorem dX6_fault_10 : decode cX6_fault 10 = .ok (.aload_n 0, 1) := by decide +kernel
theorem dX6_fault_11 : decode cX6_fault 11 = .ok (.invokevirtual 81, 3) := by decide +kernel
theorem dX6_fault_14 : decode cX6_fault 14 = .ok (.iconst 1, 1) := by decide +kernel
theorem dX6_fault_15 : decode cX6_fault 15 = .ok (.invokevirtual 84, 3) := by decide +kernel
theorem dX6_fault_18 : decode cX6_fault 18 = .ok (.ifCond .eq 24, 3) := by decide +kernel
theorem dX6_fault_21 : decode cX6_fault 21 = .ok (.aload_n 0, 1) := by decide +kernel
theorem dX6_fault_22 : decode cX6_fault 22 = .ok (.bipush 9, 2) := by decide +kernel
theorem dX6_fault_24 : decode cX6_fault 24 = .ok (.iload_n 1, 1) := by decide +kernel
theorem dX6_fault_25 : decode cX6_fault 25 = .ok (.iload_n 2, 1) := by decide +kernel
theorem dX6_fault_26 : decode cX6_fault 26 = .ok (.ifCond .eq 7, 3) := by decide +kernel
theorem dX6_fault_29 : decode cX6_fault 29 = .ok (.iconst 1, 1) := by decide +kernel
theorem dX6_fault_30 : decode cX6_fault 30 = .ok (.goto 4, 3) := by decide +kernel
theorem dX6_fault_33 : decode cX6_fault 33 = .ok (.iconst 0, 1) := by decide +kernel
theorem dX6_fault_34 : decode cX6_fault 34 = .ok (.iconst (-1), 1) := by decide +kernel
theorem dX6_fault_35 : decode cX6_fault 35 = .ok (.iconst (-1), 1) := by decide +kernel
theorem dX6_fault_36 : decode cX6_fault 36 = .ok (.invokevirtual 88, 3) := by decide +kernel
theorem dX6_fault_39 : decode cX6_fault 39 = .ok (.goto 4, 3) := by decide +kernel
theorem dX6_fault_42 : decode cX6_fault 42 = .ok (.iconst 0, 1) := by decide +kernel
theorem dX6_fault_43 : decode cX6_fault 43 = .ok (.ireturn, 1) := by decide +kernel
theorem dX6_pass_0 : decode cX6_pass 0 = .ok (.iload_n 1, 1) := by decide +kernel
theorem dX6_pass_1 : decode cX6_pass 1 = .ok (.i2l, 1) := by decide +kernel
theorem dX6_pass_2 : decode cX6_pass 2 = .ok (.lconst 0, 1) := by decide +kernel
theorem dX6_pass_3 : decode cX6_pass 3 = .ok (.ldc2_w 99, 3) := by decide +kernel
theorem dX6_pass_6 : decode cX6_pass 6 = .ok (.invokestatic 37, 3) := by decide +kernel
theorem dX6_pass_9 : decode cX6_pass 9 = .ok (.istore_n 2, 1) := by decide +kernel
theorem dX6_pass_10 : decode cX6_pass 10 = .ok (.aload_n 0, 1) := by decide +kernel
theorem dX6_pass_11 : decode cX6_pass 11 = .ok (.iload_n 2, 1) := by decide +kernel
theorem dX6_pass_12 : decode cX6_pass 12 = .ok (.iload_n 2, 1) := by decide +kernel
theorem dX6_pass_13 : decode cX6_pass 13 = .ok (.ifCond .eq 19, 3) := by decide +kernel
theorem dX6_pass_16 : decode cX6_pass 16 = .ok (.aload_n 0, 1) := by decide +kernel
theorem dX6_pass_17 : decode cX6_pass 17 = .ok (.getfield 71, 3) := by decide +kernel
theorem dX6_pass_20 : decode cX6_pass 20 = .ok (.iload_n 1, 1) := by decide +kernel
theorem dX6_pass_21 : decode cX6_pass 21 = .ok (.iadd, 1) := by decide +kernel
theorem dX6_pass_22 : decode cX6_pass 22 = .ok (.sipush 5000, 3) := by decide +kernel
theorem dX6_pass_25 : decode cX6_pass 25 = .ok (.if_icmp .gt 7, 3) := by decide +kernel
theorem dX6_pass_28 : decode cX6_pass 28 = .ok (.iconst 1, 1) := by decide +kernel
theorem dX6_pass_29 : decode cX6_pass 29 = .ok (.goto 4, 3) := by decide +kernel
theorem dX6_pass_32 : decode cX6_pass 32 = .ok (.iconst 0, 1) := by decide +kernel
theorem dX6_pass_33 : decode cX6_pass 33 = .ok (.iconst 1, 1) := by decide +kernel
theorem dX6_pass_34 : decode cX6_pass 34 = .ok (.invokevirtual 84, 3) := by decide +kernel
theorem dX6_pass_37 : decode cX6_pass 37 = .ok (.ifCond .ne 5, 3) := by decide +kernel
theorem dX6_pass_40 : decode cX6_pass 40 = .ok (.iconst 0, 1) := by decide +kernel
theorem dX6_pass_41 : decode cX6_pass 41 = .ok (.ireturn, 1) := by decide +kernel
theorem dX6_pass_42 : decode cX6_pass 42 = .ok (.aload_n 0, 1) := by decide +kernel
theorem dX6_pass_43 : decode cX6_pass 43 = .ok (.iload_n 1, 1) := by decide +kernel
theorem dX6_pass_44 : decode cX6_pass 44 = .ok (.invokevirtual 101, 3) := by decide +kernel
theorem dX6_pass_47 : decode cX6_pass 47 = .ok (.aload_n 0, 1) := by decide +kernel
theorem dX6_pass_48 : decode cX6_pass 48 = .ok (.getfield 71, 3) := by decide +kernel
theorem dX6_pass_51 : decode cX6_pass 51 = .ok (.ireturn, 1) := by decide +kernel
theorem dX6_passes_0 : decode cX6_passes 0 = .ok (.iconst 0, 1) := by decide +kernel
theorem dX6_passes_1 : decode cX6_passes 1 = .ok (.istore_n 2, 1) := by decide +kernel
theorem dX6_passes_2 : decode cX6_passes 2 = .ok (.iload_n 2, 1) := by decide +kernel
theorem dX6_passes_3 : decode cX6_passes 3 = .ok (.iload_n 1, 1) := by decide +kernel
theorem dX6_passes_4 : decode cX6_passes 4 = .ok (.if_icmp .ge 23, 3) := by decide +kernel
theorem dX6_passes_7 : decode cX6_passes 7 = .ok (.aload_n 0, 1) := by decide +kernel
theorem dX6_passes_8 : decode cX6_passes 8 = .ok (.dup, 1) := by decide +kernel
theorem dX6_passes_9 : decode cX6_passes 9 = .ok (.getfield 71, 3) := by decide +kernel
theorem dX6_passes_12 : decode cX6_passes 12 = .ok (.iconst 1, 1) := by decide +kernel
theorem dX6_passes_13 : decode cX6_passes 13 = .ok (.iadd, 1) := by decide +kernel
theorem dX6_passes_14 : decode cX6_passes 14 = .ok (.putfield 71, 3) := by decide +kernel
theorem dX6_passes_17 : decode cX6_passes 17 = .ok (.aload_n 0, 1) := by decide +kernel
theorem dX6_passes_18 : decode cX6_passes 18 = .ok (.invokevirtual 105, 3) := by decide +kernel
theorem dX6_passes_21 : decode cX6_passes 21 = .ok (.iinc 2 1, 3) := by decide +kernel
theorem dX6_passes_24 : decode cX6_passes 24 = .ok (.goto (-22), 3) := by decide +kernel
theorem dX6_passes_27 : decode cX6_passes 27 = .ok (.return_, 1) := by decide +kernel
theorem dX6_laysShares_0 : decode cX6_laysShares 0 = .ok (.iconst 0, 1) := by decide +kernel
theorem dX6_laysShares_1 : decode cX6_laysShares 1 = .ok (.istore_n 1, 1) := by decide +kernel
theorem dX6_laysShares_2 : decode cX6_laysShares 2 = .ok (.iload_n 1, 1) := by decide +kernel
theorem dX6_laysShares_3 : decode cX6_laysShares 3 = .ok (.bipush 10, 2) := by decide +kernel
theorem dX6_laysShares_5 : decode cX6_laysShares 5 = .ok (.if_icmp .ge 16, 3) := by decide +kernel
theorem dX6_laysShares_8 : decode cX6_laysShares 8 = .ok (.aload_n 0, 1) := by decide +kernel
theorem dX6_laysShares_9 : decode cX6_laysShares 9 = .ok (.getfield 19, 3) := by decide +kernel
theorem dX6_laysShares_12 : decode cX6_laysShares 12 = .ok (.iload_n 1, 1) := by decide +kernel
theorem dX6_laysShares_13 : decode cX6_laysShares 13 = .ok (.iconst 0, 1) := by decide +kernel
theorem dX6_laysShares_14 : decode cX6_laysShares 14 = .ok (.iastore, 1) := by decide +kernel
theorem dX6_laysShares_15 : decode cX6_laysShares 15 = .ok (.iinc 1 1, 3) := by decide +kernel
theorem dX6_laysShares_18 : decode cX6_laysShares 18 = .ok (.goto (-16), 3) := by decide +kernel
theorem dX6_laysShares_21 : decode cX6_laysShares 21 = .ok (.aload_n 0, 1) := by decide +kernel
theorem dX6_laysShares_22 : decode cX6_laysShares 22 = .ok (.getfield 7, 3) := by decide +kernel
theorem dX6_laysShares_25 : decode cX6_laysShares 25 = .ok (.iconst 5, 1) := by decide +kernel
theorem dX6_laysShares_26 : decode cX6_laysShares 26 = .ok (.iaload, 1) := by decide +kernel
theorem dX6_laysShares_27 : decode cX6_laysShares 27 = .ok (.istore_n 1, 1) := by decide +kernel
theorem dX6_laysShares_28 : decode cX6_laysShares 28 = .ok (.aload_n 0, 1) := by decide +kernel
theorem dX6_laysShares_29 : decode cX6_laysShares 29 = .ok (.iconst 0, 1) := by decide +kernel
theorem dX6_laysShares_30 : decode cX6_laysShares 30 = .ok (.invokevirtual 43, 3) := by decide +kernel
theorem dX6_laysShares_33 : decode cX6_laysShares 33 = .ok (.ifCond .ne 22, 3) := by decide +kernel
theorem dX6_laysShares_36 : decode cX6_laysShares 36 = .ok (.aload_n 0, 1) := by decide +kernel
theorem dX6_laysShares_37 : decode cX6_laysShares 37 = .ok (.getfield 19, 3) := by decide +kernel
theorem dX6_laysShares_40 : decode cX6_laysShares 40 = .ok (.aload_n 0, 1) := by decide +kernel
theorem dX6_laysShares_41 : decode cX6_laysShares 41 = .ok (.getfield 7, 3) := by decide +kernel
theorem dX6_laysShares_44 : decode cX6_laysShares 44 = .ok (.iconst 0, 1) := by decide +kernel
theorem dX6_laysShares_45 : decode cX6_laysShares 45 = .ok (.iaload, 1) := by decide +kernel
theorem dX6_laysShares_46 : decode cX6_laysShares 46 = .ok (.dup2, 1) := by decide +kernel
theorem dX6_laysShares_47 : decode cX6_laysShares 47 = .ok (.iaload, 1) := by decide +kernel
theorem dX6_laysShares_48 : decode cX6_laysShares 48 = .ok (.ldc 108, 2) := by decide +kernel
theorem dX6_laysShares_50 : decode cX6_laysShares 50 = .ok (.iadd, 1) := by decide +kernel
theorem dX6_laysShares_51 : decode cX6_laysShares 51 = .ok (.iastore, 1) := by decide +kernel
theorem dX6_laysShares_52 : decode cX6_laysShares 52 = .ok (.goto 154, 3) := by decide +kernel
theorem dX6_laysShares_55 : decode cX6_laysShares 55 = .ok (.aload_n 0, 1) := by decide +kernel
theorem dX6_laysShares_56 : decode cX6_laysShares 56 = .ok (.getfield 7, 3) := by decide +kernel
theorem dX6_laysShares_59 : decode cX6_laysShares 59 = .ok (.iconst 2, 1) := by decide +kernel
theorem dX6_laysShares_60 : decode cX6_laysShares 60 = .ok (.iaload, 1) := by decide +kernel
theorem dX6_laysShares_61 : decode cX6_laysShares 61 = .ok (.iconst 2, 1) := by decide +kernel
theorem dX6_laysShares_62 : decode cX6_laysShares 62 = .ok (.if_icmp .ge 48, 3) := by decide +kernel
theorem dX6_laysShares_65 : decode cX6_laysShares 65 = .ok (.aload_n 0, 1) := by decide +kernel
theorem dX6_laysShares_66 : decode cX6_laysShares 66 = .ok (.getfield 19, 3) := by decide +kernel
theorem dX6_laysShares_69 : decode cX6_laysShares 69 = .ok (.aload_n 0, 1) := by decide +kernel
theorem dX6_laysShares_70 : decode cX6_laysShares 70 = .ok (.getfield 7, 3) := by decide +kernel
theorem dX6_laysShares_73 : decode cX6_laysShares 73 = .ok (.iconst 0, 1) := by decide +kernel
theorem dX6_laysShares_74 : decode cX6_laysShares 74 = .ok (.iaload, 1) := by decide +kernel
theorem dX6_laysShares_75 : decode cX6_laysShares 75 = .ok (.dup2, 1) := by decide +kernel
theorem dX6_laysShares_76 : decode cX6_laysShares 76 = .ok (.iaload, 1) := by decide +kernel
theorem dX6_laysShares_77 : decode cX6_laysShares 77 = .ok (.sipush 1000, 3) := by decide +kernel
theorem dX6_laysShares_80 : decode cX6_laysShares 80 = .ok (.iload_n 1, 1) := by decide +kernel
theorem dX6_laysShares_81 : decode cX6_laysShares 81 = .ok (.isub, 1) := by decide +kernel
theorem dX6_laysShares_82 : decode cX6_laysShares 82 = .ok (.sipush 1000, 3) := by decide +kernel
theorem dX6_laysShares_85 : decode cX6_laysShares 85 = .ok (.imul, 1) := by decide +kernel
theorem dX6_laysShares_86 : decode cX6_laysShares 86 = .ok (.iadd, 1) := by decide +kernel
theorem dX6_laysShares_87 : decode cX6_laysShares 87 = .ok (.iastore, 1) := by decide +kernel
theorem dX6_laysShares_88 : decode cX6_laysShares 88 = .ok (.aload_n 0, 1) := by decide +kernel
theorem dX6_laysShares_89 : decode cX6_laysShares 89 = .ok (.getfield 19, 3) := by decide +kernel
theorem dX6_laysShares_92 : decode cX6_laysShares 92 = .ok (.aload_n 0, 1) := by decide +kernel
theorem dX6_laysShares_93 : decode cX6_laysShares 93 = .ok (.getfield 7, 3) := by decide +kernel
theorem dX6_laysShares_96 : decode cX6_laysShares 96 = .ok (.iconst 1, 1) := by decide +kernel
theorem dX6_laysShares_97 : decode cX6_laysShares 97 = .ok (.iaload, 1) := by decide +kernel
theorem dX6_laysShares_98 : decode cX6_laysShares 98 = .ok (.dup2, 1) := by decide +kernel
theorem dX6_laysShares_99 : decode cX6_laysShares 99 = .ok (.iaload, 1) := by decide +kernel
theorem dX6_laysShares_100 : decode cX6_laysShares 100 = .ok (.iload_n 1, 1) := by decide +kernel
theorem dX6_laysShares_101 : decode cX6_laysShares 101 = .ok (.sipush 1000, 3) := by decide +kernel
theorem dX6_laysShares_104 : decode cX6_laysShares 104 = .ok (.imul, 1) := by decide +kernel
theorem dX6_laysShares_105 : decode cX6_laysShares 105 = .ok (.iadd, 1) := by decide +kernel
theorem dX6_laysShares_106 : decode cX6_laysShares 106 = .ok (.iastore, 1) := by decide +kernel
theorem dX6_laysShares_107 : decode cX6_laysShares 107 = .ok (.goto 99, 3) := by decide +kernel
theorem dX6_laysShares_110 : decode cX6_laysShares 110 = .ok (.iload_n 1, 1) := by decide +kernel
theorem dX6_laysShares_111 : decode cX6_laysShares 111 = .ok (.sipush 500, 3) := by decide +kernel
theorem dX6_laysShares_114 : decode cX6_laysShares 114 = .ok (.if_icmp .gt 47, 3) := by decide +kernel
theorem dX6_laysShares_117 : decode cX6_laysShares 117 = .ok (.aload_n 0, 1) := by decide +kernel
theorem dX6_laysShares_118 : decode cX6_laysShares 118 = .ok (.getfield 19, 3) := by decide +kernel
theorem dX6_laysShares_121 : decode cX6_laysShares 121 = .ok (.aload_n 0, 1) := by decide +kernel
theorem dX6_laysShares_122 : decode cX6_laysShares 122 = .ok (.getfield 7, 3) := by decide +kernel
theorem dX6_laysShares_125 : decode cX6_laysShares 125 = .ok (.iconst 0, 1) := by decide +kernel
theorem dX6_laysShares_126 : decode cX6_laysShares 126 = .ok (.iaload, 1) := by decide +kernel
theorem dX6_laysShares_127 : decode cX6_laysShares 127 = .ok (.dup2, 1) := by decide +kernel
theorem dX6_laysShares_128 : decode cX6_laysShares 128 = .ok (.iaload, 1) := by decide +kernel
theorem dX6_laysShares_129 : decode cX6_laysShares 129 = .ok (.sipush 1000, 3) := by decide +kernel
theorem dX6_laysShares_132 : decode cX6_laysShares 132 = .ok (.iconst 2, 1) := by decide +kernel
theorem dX6_laysShares_133 : decode cX6_laysShares 133 = .ok (.iload_n 1, 1) := by decide +kernel
theorem dX6_laysShares_134 : decode cX6_laysShares 134 = .ok (.imul, 1) := by decide +kernel
theorem dX6_laysShares_135 : decode cX6_laysShares 135 = .ok (.isub, 1) := by decide +kernel
theorem dX6_laysShares_136 : decode cX6_laysShares 136 = .ok (.sipush 1000, 3) := by decide +kernel
theorem dX6_laysShares_139 : decode cX6_laysShares 139 = .ok (.imul, 1) := by decide +kernel
theorem dX6_laysShares_140 : decode cX6_laysShares 140 = .ok (.iadd, 1) := by decide +kernel
theorem dX6_laysShares_141 : decode cX6_laysShares 141 = .ok (.iastore, 1) := by decide +kernel
theorem dX6_laysShares_142 : decode cX6_laysShares 142 = .ok (.aload_n 0, 1) := by decide +kernel
theorem dX6_laysShares_143 : decode cX6_laysShares 143 = .ok (.getfield 19, 3) := by decide +kernel
theorem dX6_laysShares_146 : decode cX6_laysShares 146 = .ok (.iconst 0, 1) := by decide +kernel
theorem dX6_laysShares_147 : decode cX6_laysShares 147 = .ok (.dup2, 1) := by decide +kernel
theorem dX6_laysShares_148 : decode cX6_laysShares 148 = .ok (.iaload, 1) := by decide +kernel
theorem dX6_laysShares_149 : decode cX6_laysShares 149 = .ok (.iconst 2, 1) := by decide +kernel
theorem dX6_laysShares_150 : decode cX6_laysShares 150 = .ok (.iload_n 1, 1) := by decide +kernel
theorem dX6_laysShares_151 : decode cX6_laysShares 151 = .ok (.imul, 1) := by decide +kernel
theorem dX6_laysShares_152 : decode cX6_laysShares 152 = .ok (.sipush 1000, 3) := by decide +kernel
theorem dX6_laysShares_155 : decode cX6_laysShares 155 = .ok (.imul, 1) := by decide +kernel
theorem dX6_laysShares_156 : decode cX6_laysShares 156 = .ok (.iadd, 1) := by decide +kernel
theorem dX6_laysShares_157 : decode cX6_laysShares 157 = .ok (.iastore, 1) := by decide +kernel
theorem dX6_laysShares_158 : decode cX6_laysShares 158 = .ok (.goto 48, 3) := by decide +kernel
theorem dX6_laysShares_161 : decode cX6_laysShares 161 = .ok (.aload_n 0, 1) := by decide +kernel
theorem dX6_laysShares_162 : decode cX6_laysShares 162 = .ok (.getfield 19, 3) := by decide +kernel
theorem dX6_laysShares_165 : decode cX6_laysShares 165 = .ok (.iconst 0, 1) := by decide +kernel
theorem dX6_laysShares_166 : decode cX6_laysShares 166 = .ok (.dup2, 1) := by decide +kernel
theorem dX6_laysShares_167 : decode cX6_laysShares 167 = .ok (.iaload, 1) := by decide +kernel
theorem dX6_laysShares_168 : decode cX6_laysShares 168 = .ok (.sipush 2000, 3) := by decide +kernel
theorem dX6_laysShares_171 : decode cX6_laysShares 171 = .ok (.iconst 2, 1) := by decide +kernel
theorem dX6_laysShares_172 : decode cX6_laysShares 172 = .ok (.iload_n 1, 1) := by decide +kernel
theorem dX6_laysShares_173 : decode cX6_laysShares 173 = .ok (.imul, 1) := by decide +kernel
theorem dX6_laysShares_174 : decode cX6_laysShares 174 = .ok (.isub, 1) := by decide +kernel
theorem dX6_laysShares_175 : decode cX6_laysShares 175 = .ok (.sipush 1000, 3) := by decide +kernel
theorem dX6_laysShares_178 : decode cX6_laysShares 178 = .ok (.imul, 1) := by decide +kernel
theorem dX6_laysShares_179 : decode cX6_laysShares 179 = .ok (.iadd, 1) := by decide +kernel
theorem dX6_laysShares_180 : decode cX6_laysShares 180 = .ok (.iastore, 1) := by decide +kernel
theorem dX6_laysShares_181 : decode cX6_laysShares 181 = .ok (.aload_n 0, 1) := by decide +kernel
theorem dX6_laysShares_182 : decode cX6_laysShares 182 = .ok (.getfield 19, 3) := by decide +kernel
theorem dX6_laysShares_185 : decode cX6_laysShares 185 = .ok (.aload_n 0, 1) := by decide +kernel
theorem dX6_laysShares_186 : decode cX6_laysShares 186 = .ok (.getfield 7, 3) := by decide +kernel
theorem dX6_laysShares_189 : decode cX6_laysShares 189 = .ok (.iconst 1, 1) := by decide +kernel
theorem dX6_laysShares_190 : decode cX6_laysShares 190 = .ok (.iaload, 1) := by decide +kernel
theorem dX6_laysShares_191 : decode cX6_laysShares 191 = .ok (.dup2, 1) := by decide +kernel
theorem dX6_laysShares_192 : decode cX6_laysShares 192 = .ok (.iaload, 1) := by decide +kernel
theorem dX6_laysShares_193 : decode cX6_laysShares 193 = .ok (.iconst 2, 1) := by decide +kernel
theorem dX6_laysShares_194 : decode cX6_laysShares 194 = .ok (.iload_n 1, 1) := by decide +kernel
theorem dX6_laysShares_195 : decode cX6_laysShares 195 = .ok (.imul, 1) := by decide +kernel
theorem dX6_laysShares_196 : decode cX6_laysShares 196 = .ok (.sipush 1000, 3) := by decide +kernel
theorem dX6_laysShares_199 : decode cX6_laysShares 199 = .ok (.isub, 1) := by decide +kernel
theorem dX6_laysShares_200 : decode cX6_laysShares 200 = .ok (.sipush 1000, 3) := by decide +kernel
theorem dX6_laysShares_203 : decode cX6_laysShares 203 = .ok (.imul, 1) := by decide +kernel
theorem dX6_laysShares_204 : decode cX6_laysShares 204 = .ok (.iadd, 1) := by decide +kernel
theorem dX6_laysShares_205 : decode cX6_laysShares 205 = .ok (.iastore, 1) := by decide +kernel
theorem dX6_laysShares_206 : decode cX6_laysShares 206 = .ok (.iconst 0, 1) := by decide +kernel
theorem dX6_laysShares_207 : decode cX6_laysShares 207 = .ok (.istore_n 2, 1) := by decide +kernel
theorem dX6_laysShares_208 : decode cX6_laysShares 208 = .ok (.iload_n 2, 1) := by decide +kernel
theorem dX6_laysShares_209 : decode cX6_laysShares 209 = .ok (.iconst 3, 1) := by decide +kernel
theorem dX6_laysShares_210 : decode cX6_laysShares 210 = .ok (.if_icmp .ge 20, 3) := by decide +kernel
theorem dX6_laysShares_213 : decode cX6_laysShares 213 = .ok (.aload_n 0, 1) := by decide +kernel
theorem dX6_laysShares_214 : decode cX6_laysShares 214 = .ok (.iload_n 2, 1) := by decide +kernel
theorem dX6_laysShares_215 : decode cX6_laysShares 215 = .ok (.aload_n 0, 1) := by decide +kernel
theorem dX6_laysShares_216 : decode cX6_laysShares 216 = .ok (.iload_n 2, 1) := by decide +kernel
theorem dX6_laysShares_217 : decode cX6_laysShares 217 = .ok (.iload_n 1, 1) := by decide +kernel
theorem dX6_laysShares_218 : decode cX6_laysShares 218 = .ok (.invokevirtual 109, 3) := by decide +kernel
theorem dX6_laysShares_221 : decode cX6_laysShares 221 = .ok (.invokevirtual 112, 3) := by decide +kernel
theorem dX6_laysShares_224 : decode cX6_laysShares 224 = .ok (.iinc 2 1, 3) := by decide +kernel
theorem dX6_laysShares_227 : decode cX6_laysShares 227 = .ok (.goto (-19), 3) := by decide +kernel
theorem dX6_laysShares_230 : decode cX6_laysShares 230 = .ok (.return_, 1) := by decide +kernel
theorem dX6_coverOf_0 : decode cX6_coverOf 0 = .ok (.aload_n 0, 1) := by decide +kernel
theorem dX6_coverOf_1 : decode cX6_coverOf 1 = .ok (.iload_n 1, 1) := by decide +kernel
theorem dX6_coverOf_2 : decode cX6_coverOf 2 = .ok (.iconst 1, 1) := by decide +kernel
theorem dX6_coverOf_3 : decode cX6_coverOf 3 = .ok (.invokevirtual 60, 3) := by decide +kernel
theorem dX6_coverOf_6 : decode cX6_coverOf 6 = .ok (.aload_n 0, 1) := by decide +kernel
theorem dX6_coverOf_7 : decode cX6_coverOf 7 = .ok (.iload_n 1, 1) := by decide +kernel
theorem dX6_coverOf_8 : decode cX6_coverOf 8 = .ok (.iconst 2, 1) := by decide +kernel
theorem dX6_coverOf_9 : decode cX6_coverOf 9 = .ok (.invokevirtual 60, 3) := by decide +kernel
theorem dX6_coverOf_12 : decode cX6_coverOf 12 = .ok (.imul, 1) := by decide +kernel
theorem dX6_coverOf_13 : decode cX6_coverOf 13 = .ok (.istore_n 3, 1) := by decide +kernel
theorem dX6_coverOf_14 : decode cX6_coverOf 14 = .ok (.aload_n 0, 1) := by decide +kernel
theorem dX6_coverOf_15 : decode cX6_coverOf 15 = .ok (.iconst 1, 1) := by decide +kernel
theorem dX6_coverOf_16 : decode cX6_coverOf 16 = .ok (.iload_n 1, 1) := by decide +kernel
theorem dX6_coverOf_17 : decode cX6_coverOf 17 = .ok (.iadd, 1) := by decide +kernel
theorem dX6_coverOf_18 : decode cX6_coverOf 18 = .ok (.invokevirtual 43, 3) := by decide +kernel
theorem dX6_coverOf_21 : decode cX6_coverOf 21 = .ok (.ifCond .ne 12, 3) := by decide +kernel
theorem dX6_coverOf_24 : decode cX6_coverOf 24 = .ok (.iload_n 3, 1) := by decide +kernel
theorem dX6_coverOf_25 : decode cX6_coverOf 25 = .ok (.aload_n 0, 1) := by decide +kernel
theorem dX6_coverOf_26 : decode cX6_coverOf 26 = .ok (.iload_n 1, 1) := by decide +kernel
theorem dX6_coverOf_27 : decode cX6_coverOf 27 = .ok (.iconst 3, 1) := by decide +kernel
theorem dX6_coverOf_28 : decode cX6_coverOf 28 = .ok (.invokevirtual 60, 3) := by decide +kernel
theorem dX6_coverOf_31 : decode cX6_coverOf 31 = .ok (.imul, 1) := by decide +kernel
theorem dX6_coverOf_32 : decode cX6_coverOf 32 = .ok (.ireturn, 1) := by decide +kernel
theorem dX6_coverOf_33 : decode cX6_coverOf 33 = .ok (.iload_n 3, 1) := by decide +kernel
theorem dX6_coverOf_34 : decode cX6_coverOf 34 = .ok (.aload_n 0, 1) := by decide +kernel
theorem dX6_coverOf_35 : decode cX6_coverOf 35 = .ok (.iload_n 1, 1) := by decide +kernel
theorem dX6_coverOf_36 : decode cX6_coverOf 36 = .ok (.iconst 3, 1) := by decide +kernel
theorem dX6_coverOf_37 : decode cX6_coverOf 37 = .ok (.invokevirtual 60, 3) := by decide +kernel
theorem dX6_coverOf_40 : decode cX6_coverOf 40 = .ok (.iconst 1, 1) := by decide +kernel
theorem dX6_coverOf_41 : decode cX6_coverOf 41 = .ok (.if_icmp .ne 11, 3) := by decide +kernel
theorem dX6_coverOf_44 : decode cX6_coverOf 44 = .ok (.sipush 1000, 3) := by decide +kernel
theorem dX6_coverOf_47 : decode cX6_coverOf 47 = .ok (.iload_n 2, 1) := by decide +kernel
theorem dX6_coverOf_48 : decode cX6_coverOf 48 = .ok (.isub, 1) := by decide +kernel
theorem dX6_coverOf_49 : decode cX6_coverOf 49 = .ok (.goto 4, 3) := by decide +kernel
theorem dX6_coverOf_52 : decode cX6_coverOf 52 = .ok (.iload_n 2, 1) := by decide +kernel
theorem dX6_coverOf_53 : decode cX6_coverOf 53 = .ok (.imul, 1) := by decide +kernel
theorem dX6_coverOf_54 : decode cX6_coverOf 54 = .ok (.sipush 1000, 3) := by decide +kernel
theorem dX6_coverOf_57 : decode cX6_coverOf 57 = .ok (.idiv, 1) := by decide +kernel
theorem dX6_coverOf_58 : decode cX6_coverOf 58 = .ok (.ireturn, 1) := by decide +kernel
theorem dX6_covers_0 : decode cX6_covers 0 = .ok (.iconst 0, 1) := by decide +kernel
theorem dX6_covers_1 : decode cX6_covers 1 = .ok (.istore_n 3, 1) := by decide +kernel
theorem dX6_covers_2 : decode cX6_covers 2 = .ok (.iconst 0, 1) := by decide +kernel
theorem dX6_covers_3 : decode cX6_covers 3 = .ok (.istore 4, 2) := by decide +kernel
theorem dX6_covers_5 : decode cX6_covers 5 = .ok (.iload 4, 2) := by decide +kernel
theorem dX6_covers_7 : decode cX6_covers 7 = .ok (.bipush 10, 2) := by decide +kernel
theorem dX6_covers_9 : decode cX6_covers 9 = .ok (.if_icmp .ge 44, 3) := by decide +kernel
theorem dX6_covers_12 : decode cX6_covers 12 = .ok (.aload_n 0, 1) := by decide +kernel
theorem dX6_covers_13 : decode cX6_covers 13 = .ok (.getfield 19, 3) := by decide +kernel
theorem dX6_covers_16 : decode cX6_covers 16 = .ok (.iload 4, 2) := by decide +kernel
theorem dX6_covers_18 : decode cX6_covers 18 = .ok (.iaload, 1) := by decide +kernel
theorem dX6_covers_19 : decode cX6_covers 19 = .ok (.i2l, 1) := by decide +kernel
theorem dX6_covers_20 : decode cX6_covers 20 = .ok (.iload_n 2, 1) := by decide +kernel
theorem dX6_covers_21 : decode cX6_covers 21 = .ok (.i2l, 1) := by decide +kernel
theorem dX6_covers_22 : decode cX6_covers 22 = .ok (.lmul, 1) := by decide +kernel
theorem dX6_covers_23 : decode cX6_covers 23 = .ok (.ldc2_w 116, 3) := by decide +kernel
theorem dX6_covers_26 : decode cX6_covers 26 = .ok (.ldiv, 1) := by decide +kernel
theorem dX6_covers_27 : decode cX6_covers 27 = .ok (.l2i, 1) := by decide +kernel
theorem dX6_covers_28 : decode cX6_covers 28 = .ok (.istore 5, 2) := by decide +kernel
theorem dX6_covers_30 : decode cX6_covers 30 = .ok (.aload_n 0, 1) := by decide +kernel
theorem dX6_covers_31 : decode cX6_covers 31 = .ok (.getfield 19, 3) := by decide +kernel
theorem dX6_covers_34 : decode cX6_covers 34 = .ok (.iload 4, 2) := by decide +kernel
theorem dX6_covers_36 : decode cX6_covers 36 = .ok (.dup2, 1) := by decide +kernel
theorem dX6_covers_37 : decode cX6_covers 37 = .ok (.iaload, 1) := by decide +kernel
theorem dX6_covers_38 : decode cX6_covers 38 = .ok (.iload 5, 2) := by decide +kernel
theorem dX6_covers_40 : decode cX6_covers 40 = .ok (.isub, 1) := by decide +kernel
theorem dX6_covers_41 : decode cX6_covers 41 = .ok (.iastore, 1) := by decide +kernel
theorem dX6_covers_42 : decode cX6_covers 42 = .ok (.iload_n 3, 1) := by decide +kernel
theorem dX6_covers_43 : decode cX6_covers 43 = .ok (.iload 5, 2) := by decide +kernel
theorem dX6_covers_45 : decode cX6_covers 45 = .ok (.iadd, 1) := by decide +kernel
theorem dX6_covers_46 : decode cX6_covers 46 = .ok (.istore_n 3, 1) := by decide +kernel
theorem dX6_covers_47 : decode cX6_covers 47 = .ok (.iinc 4 1, 3) := by decide +kernel
theorem dX6_covers_50 : decode cX6_covers 50 = .ok (.goto (-45), 3) := by decide +kernel
theorem dX6_covers_53 : decode cX6_covers 53 = .ok (.aload_n 0, 1) := by decide +kernel
theorem dX6_covers_54 : decode cX6_covers 54 = .ok (.getfield 19, 3) := by decide +kernel
theorem dX6_covers_57 : decode cX6_covers 57 = .ok (.aload_n 0, 1) := by decide +kernel
theorem dX6_covers_58 : decode cX6_covers 58 = .ok (.iload_n 1, 1) := by decide +kernel
theorem dX6_covers_59 : decode cX6_covers 59 = .ok (.iconst 0, 1) := by decide +kernel
theorem dX6_covers_60 : decode cX6_covers 60 = .ok (.invokevirtual 60, 3) := by decide +kernel
theorem dX6_covers_63 : decode cX6_covers 63 = .ok (.dup2, 1) := by decide +kernel
theorem dX6_covers_64 : decode cX6_covers 64 = .ok (.iaload, 1) := by decide +kernel
theorem dX6_covers_65 : decode cX6_covers 65 = .ok (.iload_n 3, 1) := by decide +kernel
theorem dX6_covers_66 : decode cX6_covers 66 = .ok (.iadd, 1) := by decide +kernel
theorem dX6_covers_67 : decode cX6_covers 67 = .ok (.iastore, 1) := by decide +kernel
theorem dX6_covers_68 : decode cX6_covers 68 = .ok (.return_, 1) := by decide +kernel
theorem dX6_reds_0 : decode cX6_reds 0 = .ok (.aload_n 0, 1) := by decide +kernel
theorem dX6_reds_1 : decode cX6_reds 1 = .ok (.invokevirtual 118, 3) := by decide +kernel
theorem dX6_reds_4 : decode cX6_reds 4 = .ok (.iconst 0, 1) := by decide +kernel
theorem dX6_reds_5 : decode cX6_reds 5 = .ok (.istore_n 1, 1) := by decide +kernel
theorem dX6_reds_6 : decode cX6_reds 6 = .ok (.iconst 0, 1) := by decide +kernel
theorem dX6_reds_7 : decode cX6_reds 7 = .ok (.istore_n 2, 1) := by decide +kernel
theorem dX6_reds_8 : decode cX6_reds 8 = .ok (.iload_n 2, 1) := by decide +kernel
theorem dX6_reds_9 : decode cX6_reds 9 = .ok (.bipush 10, 2) := by decide +kernel
theorem dX6_reds_11 : decode cX6_reds 11 = .ok (.if_icmp .ge 28, 3) := by decide +kernel
theorem dX6_reds_14 : decode cX6_reds 14 = .ok (.iload_n 1, 1) := by decide +kernel
theorem dX6_reds_15 : decode cX6_reds 15 = .ok (.aload_n 0, 1) := by decide +kernel
theorem dX6_reds_16 : decode cX6_reds 16 = .ok (.getfield 19, 3) := by decide +kernel
theorem dX6_reds_19 : decode cX6_reds 19 = .ok (.iload_n 2, 1) := by decide +kernel
theorem dX6_reds_20 : decode cX6_reds 20 = .ok (.iaload, 1) := by decide +kernel
theorem dX6_reds_21 : decode cX6_reds 21 = .ok (.ifCond .le 9, 3) := by decide +kernel
theorem dX6_reds_24 : decode cX6_reds 24 = .ok (.iconst 1, 1) := by decide +kernel
theorem dX6_reds_25 : decode cX6_reds 25 = .ok (.iload_n 2, 1) := by decide +kernel
theorem dX6_reds_26 : decode cX6_reds 26 = .ok (.ishl, 1) := by decide +kernel
theorem dX6_reds_27 : decode cX6_reds 27 = .ok (.goto 4, 3) := by decide +kernel
theorem dX6_reds_30 : decode cX6_reds 30 = .ok (.iconst 0, 1) := by decide +kernel
theorem dX6_reds_31 : decode cX6_reds 31 = .ok (.ior, 1) := by decide +kernel
theorem dX6_reds_32 : decode cX6_reds 32 = .ok (.istore_n 1, 1) := by decide +kernel
theorem dX6_reds_33 : decode cX6_reds 33 = .ok (.iinc 2 1, 3) := by decide +kernel
theorem dX6_reds_36 : decode cX6_reds 36 = .ok (.goto (-28), 3) := by decide +kernel
theorem dX6_reds_39 : decode cX6_reds 39 = .ok (.iload_n 1, 1) := by decide +kernel
theorem dX6_reds_40 : decode cX6_reds 40 = .ok (.ireturn, 1) := by decide +kernel
theorem dX6_lays_0 : decode cX6_lays 0 = .ok (.iconst 0, 1) := by decide +kernel
theorem dX6_lays_1 : decode cX6_lays 1 = .ok (.istore_n 1, 1) := by decide +kernel
theorem dX6_lays_2 : decode cX6_lays 2 = .ok (.iload_n 1, 1) := by decide +kernel
theorem dX6_lays_3 : decode cX6_lays 3 = .ok (.bipush 20, 2) := by decide +kernel
theorem dX6_lays_5 : decode cX6_lays 5 = .ok (.if_icmp .ge 21, 3) := by decide +kernel
theorem dX6_lays_8 : decode cX6_lays 8 = .ok (.aload_n 0, 1) := by decide +kernel
theorem dX6_lays_9 : decode cX6_lays 9 = .ok (.getfield 13, 3) := by decide +kernel
theorem dX6_lays_12 : decode cX6_lays 12 = .ok (.iload_n 1, 1) := by decide +kernel
theorem dX6_lays_13 : decode cX6_lays 13 = .ok (.aload_n 0, 1) := by decide +kernel
theorem dX6_lays_14 : decode cX6_lays 14 = .ok (.getfield 7, 3) := by decide +kernel
theorem dX6_lays_17 : decode cX6_lays 17 = .ok (.iload_n 1, 1) := by decide +kernel
theorem dX6_lays_18 : decode cX6_lays 18 = .ok (.iaload, 1) := by decide +kernel
theorem dX6_lays_19 : decode cX6_lays 19 = .ok (.iastore, 1) := by decide +kernel
theorem dX6_lays_20 : decode cX6_lays 20 = .ok (.iinc 1 1, 3) := by decide +kernel
theorem dX6_lays_23 : decode cX6_lays 23 = .ok (.goto (-21), 3) := by decide +kernel
theorem dX6_lays_26 : decode cX6_lays 26 = .ok (.return_, 1) := by decide +kernel
theorem dX6_takesBack_0 : decode cX6_takesBack 0 = .ok (.iconst 0, 1) := by decide +kernel
theorem dX6_takesBack_1 : decode cX6_takesBack 1 = .ok (.istore_n 1, 1) := by decide +kernel
theorem dX6_takesBack_2 : decode cX6_takesBack 2 = .ok (.iload_n 1, 1) := by decide +kernel
theorem dX6_takesBack_3 : decode cX6_takesBack 3 = .ok (.bipush 20, 2) := by decide +kernel
theorem dX6_takesBack_5 : decode cX6_takesBack 5 = .ok (.if_icmp .ge 21, 3) := by decide +kernel
theorem dX6_takesBack_8 : decode cX6_takesBack 8 = .ok (.aload_n 0, 1) := by decide +kernel
theorem dX6_takesBack_9 : decode cX6_takesBack 9 = .ok (.getfield 7, 3) := by decide +kernel
theorem dX6_takesBack_12 : decode cX6_takesBack 12 = .ok (.iload_n 1, 1) := by decide +kernel
theorem dX6_takesBack_13 : decode cX6_takesBack 13 = .ok (.aload_n 0, 1) := by decide +kernel
theorem dX6_takesBack_14 : decode cX6_takesBack 14 = .ok (.getfield 13, 3) := by decide +kernel
theorem dX6_takesBack_17 : decode cX6_takesBack 17 = .ok (.iload_n 1, 1) := by decide +kernel
theorem dX6_takesBack_18 : decode cX6_takesBack 18 = .ok (.iaload, 1) := by decide +kernel
theorem dX6_takesBack_19 : decode cX6_takesBack 19 = .ok (.iastore, 1) := by decide +kernel
theorem dX6_takesBack_20 : decode cX6_takesBack 20 = .ok (.iinc 1 1, 3) := by decide +kernel
theorem dX6_takesBack_23 : decode cX6_takesBack 23 = .ok (.goto (-21), 3) := by decide +kernel
theorem dX6_takesBack_26 : decode cX6_takesBack 26 = .ok (.return_, 1) := by decide +kernel
theorem dX6_redsBehind_0 : decode cX6_redsBehind 0 = .ok (.aload_n 0, 1) := by decide +kernel
theorem dX6_redsBehind_1 : decode cX6_redsBehind 1 = .ok (.invokevirtual 121, 3) := by decide +kernel
theorem dX6_redsBehind_4 : decode cX6_redsBehind 4 = .ok (.aload_n 0, 1) := by decide +kernel
theorem dX6_redsBehind_5 : decode cX6_redsBehind 5 = .ok (.invokevirtual 47, 3) := by decide +kernel
theorem dX6_redsBehind_8 : decode cX6_redsBehind 8 = .ok (.aload_n 0, 1) := by decide +kernel
theorem dX6_redsBehind_9 : decode cX6_redsBehind 9 = .ok (.invokevirtual 124, 3) := by decide +kernel
theorem dX6_redsBehind_12 : decode cX6_redsBehind 12 = .ok (.istore_n 1, 1) := by decide +kernel
theorem dX6_redsBehind_13 : decode cX6_redsBehind 13 = .ok (.aload_n 0, 1) := by decide +kernel
theorem dX6_redsBehind_14 : decode cX6_redsBehind 14 = .ok (.invokevirtual 128, 3) := by decide +kernel
theorem dX6_redsBehind_17 : decode cX6_redsBehind 17 = .ok (.iload_n 1, 1) := by decide +kernel
theorem dX6_redsBehind_18 : decode cX6_redsBehind 18 = .ok (.ireturn, 1) := by decide +kernel
theorem dX6_tallyOf_0 : decode cX6_tallyOf 0 = .ok (.aload_n 0, 1) := by decide +kernel
theorem dX6_tallyOf_1 : decode cX6_tallyOf 1 = .ok (.invokevirtual 124, 3) := by decide +kernel
theorem dX6_tallyOf_4 : decode cX6_tallyOf 4 = .ok (.iload_n 1, 1) := by decide +kernel
theorem dX6_tallyOf_5 : decode cX6_tallyOf 5 = .ok (.ishr, 1) := by decide +kernel
theorem dX6_tallyOf_6 : decode cX6_tallyOf 6 = .ok (.iconst 1, 1) := by decide +kernel
theorem dX6_tallyOf_7 : decode cX6_tallyOf 7 = .ok (.iand, 1) := by decide +kernel
theorem dX6_tallyOf_8 : decode cX6_tallyOf 8 = .ok (.iconst 1, 1) := by decide +kernel
theorem dX6_tallyOf_9 : decode cX6_tallyOf 9 = .ok (.if_icmp .ne 7, 3) := by decide +kernel
theorem dX6_tallyOf_12 : decode cX6_tallyOf 12 = .ok (.iconst 2, 1) := by decide +kernel
theorem dX6_tallyOf_13 : decode cX6_tallyOf 13 = .ok (.goto 11, 3) := by decide +kernel
theorem dX6_tallyOf_16 : decode cX6_tallyOf 16 = .ok (.aload_n 0, 1) := by decide +kernel
theorem dX6_tallyOf_17 : decode cX6_tallyOf 17 = .ok (.invokevirtual 131, 3) := by decide +kernel
theorem dX6_tallyOf_20 : decode cX6_tallyOf 20 = .ok (.iload_n 1, 1) := by decide +kernel
theorem dX6_tallyOf_21 : decode cX6_tallyOf 21 = .ok (.ishr, 1) := by decide +kernel
theorem dX6_tallyOf_22 : decode cX6_tallyOf 22 = .ok (.iconst 1, 1) := by decide +kernel
theorem dX6_tallyOf_23 : decode cX6_tallyOf 23 = .ok (.iand, 1) := by decide +kernel
theorem dX6_tallyOf_24 : decode cX6_tallyOf 24 = .ok (.ireturn, 1) := by decide +kernel
theorem dX6_shareOf_0 : decode cX6_shareOf 0 = .ok (.aload_n 0, 1) := by decide +kernel
theorem dX6_shareOf_1 : decode cX6_shareOf 1 = .ok (.invokevirtual 118, 3) := by decide +kernel
theorem dX6_shareOf_4 : decode cX6_shareOf 4 = .ok (.aload_n 0, 1) := by decide +kernel
theorem dX6_shareOf_5 : decode cX6_shareOf 5 = .ok (.getfield 19, 3) := by decide +kernel
theorem dX6_shareOf_8 : decode cX6_shareOf 8 = .ok (.iload_n 1, 1) := by decide +kernel
theorem dX6_shareOf_9 : decode cX6_shareOf 9 = .ok (.iaload, 1) := by decide +kernel
theorem dX6_shareOf_10 : decode cX6_shareOf 10 = .ok (.istore_n 3, 1) := by decide +kernel
theorem dX6_shareOf_11 : decode cX6_shareOf 11 = .ok (.iload_n 2, 1) := by decide +kernel
theorem dX6_shareOf_12 : decode cX6_shareOf 12 = .ok (.ifCond .ne 5, 3) := by decide +kernel
theorem dX6_shareOf_15 : decode cX6_shareOf 15 = .ok (.iload_n 3, 1) := by decide +kernel
theorem dX6_shareOf_16 : decode cX6_shareOf 16 = .ok (.ireturn, 1) := by decide +kernel
theorem dX6_shareOf_17 : decode cX6_shareOf 17 = .ok (.iconst 1, 1) := by decide +kernel
theorem dX6_shareOf_18 : decode cX6_shareOf 18 = .ok (.istore 4, 2) := by decide +kernel
theorem dX6_shareOf_20 : decode cX6_shareOf 20 = .ok (.iload 4, 2) := by decide +kernel
theorem dX6_shareOf_22 : decode cX6_shareOf 22 = .ok (.bipush 10, 2) := by decide +kernel
theorem dX6_shareOf_24 : decode cX6_shareOf 24 = .ok (.if_icmp .ge 43, 3) := by decide +kernel
theorem dX6_shareOf_27 : decode cX6_shareOf 27 = .ok (.iload_n 1, 1) := by decide +kernel
theorem dX6_shareOf_28 : decode cX6_shareOf 28 = .ok (.ifCond .ne 39, 3) := by decide +kernel
theorem dX6_shareOf_31 : decode cX6_shareOf 31 = .ok (.iload_n 3, 1) := by decide +kernel
theorem dX6_shareOf_32 : decode cX6_shareOf 32 = .ok (.aload_n 0, 1) := by decide +kernel
theorem dX6_shareOf_33 : decode cX6_shareOf 33 = .ok (.getfield 7, 3) := by decide +kernel
theorem dX6_shareOf_36 : decode cX6_shareOf 36 = .ok (.bipush 19, 2) := by decide +kernel
theorem dX6_shareOf_38 : decode cX6_shareOf 38 = .ok (.iaload, 1) := by decide +kernel
theorem dX6_shareOf_39 : decode cX6_shareOf 39 = .ok (.iload 4, 2) := by decide +kernel
theorem dX6_shareOf_41 : decode cX6_shareOf 41 = .ok (.ishr, 1) := by decide +kernel
theorem dX6_shareOf_42 : decode cX6_shareOf 42 = .ok (.iconst 1, 1) := by decide +kernel
theorem dX6_shareOf_43 : decode cX6_shareOf 43 = .ok (.iand, 1) := by decide +kernel
theorem dX6_shareOf_44 : decode cX6_shareOf 44 = .ok (.iconst 1, 1) := by decide +kernel
theorem dX6_shareOf_45 : decode cX6_shareOf 45 = .ok (.if_icmp .ne 13, 3) := by decide +kernel
theorem dX6_shareOf_48 : decode cX6_shareOf 48 = .ok (.aload_n 0, 1) := by decide +kernel
theorem dX6_shareOf_49 : decode cX6_shareOf 49 = .ok (.getfield 19, 3) := by decide +kernel
theorem dX6_shareOf_52 : decode cX6_shareOf 52 = .ok (.iload 4, 2) := by decide +kernel
theorem dX6_shareOf_54 : decode cX6_shareOf 54 = .ok (.iaload, 1) := by decide +kernel
theorem dX6_shareOf_55 : decode cX6_shareOf 55 = .ok (.goto 4, 3) := by decide +kernel
theorem dX6_shareOf_58 : decode cX6_shareOf 58 = .ok (.iconst 0, 1) := by decide +kernel
theorem dX6_shareOf_59 : decode cX6_shareOf 59 = .ok (.iadd, 1) := by decide +kernel
theorem dX6_shareOf_60 : decode cX6_shareOf 60 = .ok (.istore_n 3, 1) := by decide +kernel
theorem dX6_shareOf_61 : decode cX6_shareOf 61 = .ok (.iinc 4 1, 3) := by decide +kernel
theorem dX6_shareOf_64 : decode cX6_shareOf 64 = .ok (.goto (-44), 3) := by decide +kernel
theorem dX6_shareOf_67 : decode cX6_shareOf 67 = .ok (.aload_n 0, 1) := by decide +kernel
theorem dX6_shareOf_68 : decode cX6_shareOf 68 = .ok (.getfield 7, 3) := by decide +kernel
theorem dX6_shareOf_71 : decode cX6_shareOf 71 = .ok (.bipush 19, 2) := by decide +kernel
theorem dX6_shareOf_73 : decode cX6_shareOf 73 = .ok (.iaload, 1) := by decide +kernel
theorem dX6_shareOf_74 : decode cX6_shareOf 74 = .ok (.iload_n 1, 1) := by decide +kernel
theorem dX6_shareOf_75 : decode cX6_shareOf 75 = .ok (.ishr, 1) := by decide +kernel
theorem dX6_shareOf_76 : decode cX6_shareOf 76 = .ok (.iconst 1, 1) := by decide +kernel
theorem dX6_shareOf_77 : decode cX6_shareOf 77 = .ok (.iand, 1) := by decide +kernel
theorem dX6_shareOf_78 : decode cX6_shareOf 78 = .ok (.iconst 1, 1) := by decide +kernel
theorem dX6_shareOf_79 : decode cX6_shareOf 79 = .ok (.if_icmp .ne 7, 3) := by decide +kernel
theorem dX6_shareOf_82 : decode cX6_shareOf 82 = .ok (.iconst 0, 1) := by decide +kernel
theorem dX6_shareOf_83 : decode cX6_shareOf 83 = .ok (.goto 4, 3) := by decide +kernel
theorem dX6_shareOf_86 : decode cX6_shareOf 86 = .ok (.iload_n 3, 1) := by decide +kernel
theorem dX6_shareOf_87 : decode cX6_shareOf 87 = .ok (.ireturn, 1) := by decide +kernel
theorem dX6_share_0 : decode cX6_share 0 = .ok (.aload_n 0, 1) := by decide +kernel
theorem dX6_share_1 : decode cX6_share 1 = .ok (.iload_n 1, 1) := by decide +kernel
theorem dX6_share_2 : decode cX6_share 2 = .ok (.invokestatic 78, 3) := by decide +kernel
theorem dX6_share_5 : decode cX6_share 5 = .ok (.iconst 1, 1) := by decide +kernel
theorem dX6_share_6 : decode cX6_share 6 = .ok (.iconst 1, 1) := by decide +kernel
theorem dX6_share_7 : decode cX6_share 7 = .ok (.invokevirtual 84, 3) := by decide +kernel
theorem dX6_share_10 : decode cX6_share 10 = .ok (.ifCond .eq 12, 3) := by decide +kernel
theorem dX6_share_13 : decode cX6_share 13 = .ok (.aload_n 0, 1) := by decide +kernel
theorem dX6_share_14 : decode cX6_share 14 = .ok (.iload_n 1, 1) := by decide +kernel
theorem dX6_share_15 : decode cX6_share 15 = .ok (.iload_n 2, 1) := by decide +kernel
theorem dX6_share_16 : decode cX6_share 16 = .ok (.invokevirtual 134, 3) := by decide +kernel
theorem dX6_share_19 : decode cX6_share 19 = .ok (.goto 4, 3) := by decide +kernel
theorem dX6_share_22 : decode cX6_share 22 = .ok (.iconst 0, 1) := by decide +kernel
theorem dX6_share_23 : decode cX6_share 23 = .ok (.ireturn, 1) := by decide +kernel
theorem dX6_tally_0 : decode cX6_tally 0 = .ok (.aload_n 0, 1) := by decide +kernel
theorem dX6_tally_1 : decode cX6_tally 1 = .ok (.iload_n 1, 1) := by decide +kernel
theorem dX6_tally_2 : decode cX6_tally 2 = .ok (.invokestatic 78, 3) := by decide +kernel
theorem dX6_tally_5 : decode cX6_tally 5 = .ok (.iconst 1, 1) := by decide +kernel
theorem dX6_tally_6 : decode cX6_tally 6 = .ok (.iconst 1, 1) := by decide +kernel
theorem dX6_tally_7 : decode cX6_tally 7 = .ok (.invokevirtual 84, 3) := by decide +kernel
theorem dX6_tally_10 : decode cX6_tally 10 = .ok (.ifCond .eq 11, 3) := by decide +kernel
theorem dX6_tally_13 : decode cX6_tally 13 = .ok (.aload_n 0, 1) := by decide +kernel
theorem dX6_tally_14 : decode cX6_tally 14 = .ok (.iload_n 1, 1) := by decide +kernel
theorem dX6_tally_15 : decode cX6_tally 15 = .ok (.invokevirtual 138, 3) := by decide +kernel
theorem dX6_tally_18 : decode cX6_tally 18 = .ok (.goto 4, 3) := by decide +kernel
theorem dX6_tally_21 : decode cX6_tally 21 = .ok (.iconst 0, 1) := by decide +kernel
theorem dX6_tally_22 : decode cX6_tally 22 = .ok (.ireturn, 1) := by decide +kernel
theorem dX6_faulty_0 : decode cX6_faulty 0 = .ok (.aload_n 0, 1) := by decide +kernel
theorem dX6_faulty_1 : decode cX6_faulty 1 = .ok (.iconst 0, 1) := by decide +kernel
theorem dX6_faulty_2 : decode cX6_faulty 2 = .ok (.putfield 31, 3) := by decide +kernel
theorem dX6_faulty_5 : decode cX6_faulty 5 = .ok (.aload_n 0, 1) := by decide +kernel
theorem dX6_faulty_6 : decode cX6_faulty 6 = .ok (.invokevirtual 118, 3) := by decide +kernel
theorem dX6_faulty_9 : decode cX6_faulty 9 = .ok (.iconst 0, 1) := by decide +kernel
theorem dX6_faulty_10 : decode cX6_faulty 10 = .ok (.istore_n 1, 1) := by decide +kernel
theorem dX6_faulty_11 : decode cX6_faulty 11 = .ok (.iconst 1, 1) := by decide +kernel
theorem dX6_faulty_12 : decode cX6_faulty 12 = .ok (.istore_n 2, 1) := by decide +kernel
theorem dX6_faulty_13 : decode cX6_faulty 13 = .ok (.iload_n 2, 1) := by decide +kernel
theorem dX6_faulty_14 : decode cX6_faulty 14 = .ok (.bipush 10, 2) := by decide +kernel
theorem dX6_faulty_16 : decode cX6_faulty 16 = .ok (.if_icmp .ge 37, 3) := by decide +kernel
theorem dX6_faulty_19 : decode cX6_faulty 19 = .ok (.iload_n 1, 1) := by decide +kernel
theorem dX6_faulty_20 : decode cX6_faulty 20 = .ok (.aload_n 0, 1) := by decide +kernel
theorem dX6_faulty_21 : decode cX6_faulty 21 = .ok (.getfield 7, 3) := by decide +kernel
theorem dX6_faulty_24 : decode cX6_faulty 24 = .ok (.bipush 19, 2) := by decide +kernel
theorem dX6_faulty_26 : decode cX6_faulty 26 = .ok (.iaload, 1) := by decide +kernel
theorem dX6_faulty_27 : decode cX6_faulty 27 = .ok (.iload_n 2, 1) := by decide +kernel
theorem dX6_faulty_28 : decode cX6_faulty 28 = .ok (.ishr, 1) := by decide +kernel
theorem dX6_faulty_29 : decode cX6_faulty 29 = .ok (.iconst 1, 1) := by decide +kernel
theorem dX6_faulty_30 : decode cX6_faulty 30 = .ok (.iand, 1) := by decide +kernel
theorem dX6_faulty_31 : decode cX6_faulty 31 = .ok (.iconst 1, 1) := by decide +kernel
theorem dX6_faulty_32 : decode cX6_faulty 32 = .ok (.if_icmp .ne 12, 3) := by decide +kernel
theorem dX6_faulty_35 : decode cX6_faulty 35 = .ok (.aload_n 0, 1) := by decide +kernel
theorem dX6_faulty_36 : decode cX6_faulty 36 = .ok (.getfield 19, 3) := by decide +kernel
theorem dX6_faulty_39 : decode cX6_faulty 39 = .ok (.iload_n 2, 1) := by decide +kernel
theorem dX6_faulty_40 : decode cX6_faulty 40 = .ok (.iaload, 1) := by decide +kernel
theorem dX6_faulty_41 : decode cX6_faulty 41 = .ok (.goto 4, 3) := by decide +kernel
theorem dX6_faulty_44 : decode cX6_faulty 44 = .ok (.iconst 0, 1) := by decide +kernel
theorem dX6_faulty_45 : decode cX6_faulty 45 = .ok (.iadd, 1) := by decide +kernel
theorem dX6_faulty_46 : decode cX6_faulty 46 = .ok (.istore_n 1, 1) := by decide +kernel
theorem dX6_faulty_47 : decode cX6_faulty 47 = .ok (.iinc 2 1, 3) := by decide +kernel
theorem dX6_faulty_50 : decode cX6_faulty 50 = .ok (.goto (-37), 3) := by decide +kernel
theorem dX6_faulty_53 : decode cX6_faulty 53 = .ok (.iload_n 1, 1) := by decide +kernel
theorem dX6_faulty_54 : decode cX6_faulty 54 = .ok (.i2d, 1) := by decide +kernel
theorem dX6_faulty_55 : decode cX6_faulty 55 = .ok (.ldc2_w 141, 3) := by decide +kernel
theorem dX6_faulty_58 : decode cX6_faulty 58 = .ok (.ddiv, 1) := by decide +kernel
theorem dX6_faulty_59 : decode cX6_faulty 59 = .ok (.dreturn, 1) := by decide +kernel
theorem dX6_settingOf_0 : decode cX6_settingOf 0 = .ok (.iload_n 1, 1) := by decide +kernel
theorem dX6_settingOf_1 : decode cX6_settingOf 1 = .ok (.bipush 7, 2) := by decide +kernel
theorem dX6_settingOf_3 : decode cX6_settingOf 3 = .ok (.if_icmp .ge 12, 3) := by decide +kernel
theorem dX6_settingOf_6 : decode cX6_settingOf 6 = .ok (.aload_n 0, 1) := by decide +kernel
theorem dX6_settingOf_7 : decode cX6_settingOf 7 = .ok (.getfield 7, 3) := by decide +kernel
theorem dX6_settingOf_10 : decode cX6_settingOf 10 = .ok (.iload_n 1, 1) := by decide +kernel
theorem dX6_settingOf_11 : decode cX6_settingOf 11 = .ok (.iaload, 1) := by decide +kernel
theorem dX6_settingOf_12 : decode cX6_settingOf 12 = .ok (.goto 20, 3) := by decide +kernel
theorem dX6_settingOf_15 : decode cX6_settingOf 15 = .ok (.iload_n 1, 1) := by decide +kernel
theorem dX6_settingOf_16 : decode cX6_settingOf 16 = .ok (.bipush 7, 2) := by decide +kernel
theorem dX6_settingOf_18 : decode cX6_settingOf 18 = .ok (.if_icmp .ne 10, 3) := by decide +kernel
theorem dX6_settingOf_21 : decode cX6_settingOf 21 = .ok (.aload_n 0, 1) := by decide +kernel
theorem dX6_settingOf_22 : decode cX6_settingOf 22 = .ok (.getfield 71, 3) := by decide +kernel
theorem dX6_settingOf_25 : decode cX6_settingOf 25 = .ok (.goto 7, 3) := by decide +kernel
theorem dX6_settingOf_28 : decode cX6_settingOf 28 = .ok (.aload_n 0, 1) := by decide +kernel
theorem dX6_settingOf_29 : decode cX6_settingOf 29 = .ok (.getfield 68, 3) := by decide +kernel
theorem dX6_settingOf_32 : decode cX6_settingOf 32 = .ok (.ireturn, 1) := by decide +kernel
theorem dX6_setting_0 : decode cX6_setting 0 = .ok (.aload_n 0, 1) := by decide +kernel
theorem dX6_setting_1 : decode cX6_setting 1 = .ok (.iload_n 1, 1) := by decide +kernel
theorem dX6_setting_2 : decode cX6_setting 2 = .ok (.i2l, 1) := by decide +kernel
theorem dX6_setting_3 : decode cX6_setting 3 = .ok (.lconst 0, 1) := by decide +kernel
theorem dX6_setting_4 : decode cX6_setting 4 = .ok (.ldc2_w 143, 3) := by decide +kernel
theorem dX6_setting_7 : decode cX6_setting 7 = .ok (.invokestatic 37, 3) := by decide +kernel
theorem dX6_setting_10 : decode cX6_setting 10 = .ok (.iconst 1, 1) := by decide +kernel
theorem dX6_setting_11 : decode cX6_setting 11 = .ok (.iconst 1, 1) := by decide +kernel
theorem dX6_setting_12 : decode cX6_setting 12 = .ok (.invokevirtual 84, 3) := by decide +kernel
theorem dX6_setting_15 : decode cX6_setting 15 = .ok (.ifCond .eq 11, 3) := by decide +kernel
theorem dX6_setting_18 : decode cX6_setting 18 = .ok (.aload_n 0, 1) := by decide +kernel
theorem dX6_setting_19 : decode cX6_setting 19 = .ok (.iload_n 1, 1) := by decide +kernel
theorem dX6_setting_20 : decode cX6_setting 20 = .ok (.invokevirtual 145, 3) := by decide +kernel
theorem dX6_setting_23 : decode cX6_setting 23 = .ok (.goto 4, 3) := by decide +kernel
theorem dX6_setting_26 : decode cX6_setting 26 = .ok (.iconst 0, 1) := by decide +kernel
theorem dX6_setting_27 : decode cX6_setting 27 = .ok (.ireturn, 1) := by decide +kernel
theorem dX6_keyer_0 : decode cX6_keyer 0 = .ok (.aload_n 0, 1) := by decide +kernel
theorem dX6_keyer_1 : decode cX6_keyer 1 = .ok (.iload_n 1, 1) := by decide +kernel
theorem dX6_keyer_2 : decode cX6_keyer 2 = .ok (.invokestatic 94, 3) := by decide +kernel
theorem dX6_keyer_5 : decode cX6_keyer 5 = .ok (.iload_n 2, 1) := by decide +kernel
theorem dX6_keyer_6 : decode cX6_keyer 6 = .ok (.i2l, 1) := by decide +kernel
theorem dX6_keyer_7 : decode cX6_keyer 7 = .ok (.lconst 0, 1) := by decide +kernel
theorem dX6_keyer_8 : decode cX6_keyer 8 = .ok (.ldc2_w 148, 3) := by decide +kernel
theorem dX6_keyer_11 : decode cX6_keyer 11 = .ok (.invokestatic 37, 3) := by decide +kernel
theorem dX6_keyer_14 : decode cX6_keyer 14 = .ok (.iconst 1, 1) := by decide +kernel
theorem dX6_keyer_15 : decode cX6_keyer 15 = .ok (.invokevirtual 84, 3) := by decide +kernel
theorem dX6_keyer_18 : decode cX6_keyer 18 = .ok (.ifCond .eq 12, 3) := by decide +kernel
theorem dX6_keyer_21 : decode cX6_keyer 21 = .ok (.aload_n 0, 1) := by decide +kernel
theorem dX6_keyer_22 : decode cX6_keyer 22 = .ok (.iload_n 1, 1) := by decide +kernel
theorem dX6_keyer_23 : decode cX6_keyer 23 = .ok (.iload_n 2, 1) := by decide +kernel
theorem dX6_keyer_24 : decode cX6_keyer 24 = .ok (.invokevirtual 60, 3) := by decide +kernel
theorem dX6_keyer_27 : decode cX6_keyer 27 = .ok (.goto 4, 3) := by decide +kernel
theorem dX6_keyer_30 : decode cX6_keyer 30 = .ok (.iconst 0, 1) := by decide +kernel
theorem dX6_keyer_31 : decode cX6_keyer 31 = .ok (.ireturn, 1) := by decide +kernel
theorem dX6_doesAll_0 : decode cX6_doesAll 0 = .ok (.aload_n 0, 1) := by decide +kernel
theorem dX6_doesAll_1 : decode cX6_doesAll 1 = .ok (.getfield 150, 3) := by decide +kernel
theorem dX6_doesAll_4 : decode cX6_doesAll 4 = .ok (.aload_n 0, 1) := by decide +kernel
theorem dX6_doesAll_5 : decode cX6_doesAll 5 = .ok (.getfield 68, 3) := by decide +kernel
theorem dX6_doesAll_8 : decode cX6_doesAll 8 = .ok (.if_icmp .ge 98, 3) := by decide +kernel
theorem dX6_doesAll_11 : decode cX6_doesAll 11 = .ok (.aload_n 0, 1) := by decide +kernel
theorem dX6_doesAll_12 : decode cX6_doesAll 12 = .ok (.getfield 16, 3) := by decide +kernel
theorem dX6_doesAll_15 : decode cX6_doesAll 15 = .ok (.bipush 6, 2) := by decide +kernel
theorem dX6_doesAll_17 : decode cX6_doesAll 17 = .ok (.aload_n 0, 1) := by decide +kernel
theorem dX6_doesAll_18 : decode cX6_doesAll 18 = .ok (.getfield 150, 3) := by decide +kernel
theorem dX6_doesAll_21 : decode cX6_doesAll 21 = .ok (.imul, 1) := by decide +kernel
theorem dX6_doesAll_22 : decode cX6_doesAll 22 = .ok (.iaload, 1) := by decide +kernel
theorem dX6_doesAll_23 : decode cX6_doesAll 23 = .ok (.iload_n 1, 1) := by decide +kernel
theorem dX6_doesAll_24 : decode cX6_doesAll 24 = .ok (.if_icmp .ne 82, 3) := by decide +kernel
theorem dX6_doesAll_27 : decode cX6_doesAll 27 = .ok (.bipush 6, 2) := by decide +kernel
theorem dX6_doesAll_29 : decode cX6_doesAll 29 = .ok (.aload_n 0, 1) := by decide +kernel
theorem dX6_doesAll_30 : decode cX6_doesAll 30 = .ok (.getfield 150, 3) := by decide +kernel
theorem dX6_doesAll_33 : decode cX6_doesAll 33 = .ok (.imul, 1) := by decide +kernel
theorem dX6_doesAll_34 : decode cX6_doesAll 34 = .ok (.istore_n 3, 1) := by decide +kernel
theorem dX6_doesAll_35 : decode cX6_doesAll 35 = .ok (.aload_n 0, 1) := by decide +kernel
theorem dX6_doesAll_36 : decode cX6_doesAll 36 = .ok (.getfield 150, 3) := by decide +kernel
theorem dX6_doesAll_39 : decode cX6_doesAll 39 = .ok (.iload_n 2, 1) := by decide +kernel
theorem dX6_doesAll_40 : decode cX6_doesAll 40 = .ok (.if_icmp .ne 7, 3) := by decide +kernel
theorem dX6_doesAll_43 : decode cX6_doesAll 43 = .ok (.iconst 0, 1) := by decide +kernel
theorem dX6_doesAll_44 : decode cX6_doesAll 44 = .ok (.goto 47, 3) := by decide +kernel
theorem dX6_doesAll_47 : decode cX6_doesAll 47 = .ok (.aload_n 0, 1) := by decide +kernel
theorem dX6_doesAll_48 : decode cX6_doesAll 48 = .ok (.aload_n 0, 1) := by decide +kernel
theorem dX6_doesAll_49 : decode cX6_doesAll 49 = .ok (.getfield 16, 3) := by decide +kernel
theorem dX6_doesAll_52 : decode cX6_doesAll 52 = .ok (.iload_n 3, 1) := by decide +kernel
theorem dX6_doesAll_53 : decode cX6_doesAll 53 = .ok (.iconst 1, 1) := by decide +kernel
theorem dX6_doesAll_54 : decode cX6_doesAll 54 = .ok (.iadd, 1) := by decide +kernel
theorem dX6_doesAll_55 : decode cX6_doesAll 55 = .ok (.iaload, 1) := by decide +kernel
theorem dX6_doesAll_56 : decode cX6_doesAll 56 = .ok (.aload_n 0, 1) := by decide +kernel
theorem dX6_doesAll_57 : decode cX6_doesAll 57 = .ok (.getfield 16, 3) := by decide +kernel
theorem dX6_doesAll_60 : decode cX6_doesAll 60 = .ok (.iload_n 3, 1) := by decide +kernel
theorem dX6_doesAll_61 : decode cX6_doesAll 61 = .ok (.iconst 2, 1) := by decide +kernel
theorem dX6_doesAll_62 : decode cX6_doesAll 62 = .ok (.iadd, 1) := by decide +kernel
theorem dX6_doesAll_63 : decode cX6_doesAll 63 = .ok (.iaload, 1) := by decide +kernel
theorem dX6_doesAll_64 : decode cX6_doesAll 64 = .ok (.aload_n 0, 1) := by decide +kernel
theorem dX6_doesAll_65 : decode cX6_doesAll 65 = .ok (.getfield 16, 3) := by decide +kernel
theorem dX6_doesAll_68 : decode cX6_doesAll 68 = .ok (.iload_n 3, 1) := by decide +kernel
theorem dX6_doesAll_69 : decode cX6_doesAll 69 = .ok (.iconst 3, 1) := by decide +kernel
theorem dX6_doesAll_70 : decode cX6_doesAll 70 = .ok (.iadd, 1) := by decide +kernel
theorem dX6_doesAll_71 : decode cX6_doesAll 71 = .ok (.iaload, 1) := by decide +kernel
theorem dX6_doesAll_72 : decode cX6_doesAll 72 = .ok (.aload_n 0, 1) := by decide +kernel
theorem dX6_doesAll_73 : decode cX6_doesAll 73 = .ok (.getfield 16, 3) := by decide +kernel
theorem dX6_doesAll_76 : decode cX6_doesAll 76 = .ok (.iload_n 3, 1) := by decide +kernel
theorem dX6_doesAll_77 : decode cX6_doesAll 77 = .ok (.iconst 4, 1) := by decide +kernel
theorem dX6_doesAll_78 : decode cX6_doesAll 78 = .ok (.iadd, 1) := by decide +kernel
theorem dX6_doesAll_79 : decode cX6_doesAll 79 = .ok (.iaload, 1) := by decide +kernel
theorem dX6_doesAll_80 : decode cX6_doesAll 80 = .ok (.aload_n 0, 1) := by decide +kernel
theorem dX6_doesAll_81 : decode cX6_doesAll 81 = .ok (.getfield 16, 3) := by decide +kernel
theorem dX6_doesAll_84 : decode cX6_doesAll 84 = .ok (.iload_n 3, 1) := by decide +kernel
theorem dX6_doesAll_85 : decode cX6_doesAll 85 = .ok (.iconst 5, 1) := by decide +kernel
theorem dX6_doesAll_86 : decode cX6_doesAll 86 = .ok (.iadd, 1) := by decide +kernel
theorem dX6_doesAll_87 : decode cX6_doesAll 87 = .ok (.iaload, 1) := by decide +kernel
theorem dX6_doesAll_88 : decode cX6_doesAll 88 = .ok (.invokevirtual 74, 3) := by decide +kernel
theorem dX6_doesAll_91 : decode cX6_doesAll 91 = .ok (.istore 4, 2) := by decide +kernel
theorem dX6_doesAll_93 : decode cX6_doesAll 93 = .ok (.aload_n 0, 1) := by decide +kernel
theorem dX6_doesAll_94 : decode cX6_doesAll 94 = .ok (.dup, 1) := by decide +kernel
theorem dX6_doesAll_95 : decode cX6_doesAll 95 = .ok (.getfield 150, 3) := by decide +kernel
theorem dX6_doesAll_98 : decode cX6_doesAll 98 = .ok (.iconst 1, 1) := by decide +kernel
theorem dX6_doesAll_99 : decode cX6_doesAll 99 = .ok (.iadd, 1) := by decide +kernel
theorem dX6_doesAll_100 : decode cX6_doesAll 100 = .ok (.putfield 150, 3) := by decide +kernel
theorem dX6_doesAll_103 : decode cX6_doesAll 103 = .ok (.goto (-103), 3) := by decide +kernel
theorem dX6_doesAll_106 : decode cX6_doesAll 106 = .ok (.return_, 1) := by decide +kernel
theorem dX6_goesTo_0 : decode cX6_goesTo 0 = .ok (.aload_n 0, 1) := by decide +kernel
theorem dX6_goesTo_1 : decode cX6_goesTo 1 = .ok (.invokevirtual 28, 3) := by decide +kernel
theorem dX6_goesTo_4 : decode cX6_goesTo 4 = .ok (.aload_n 0, 1) := by decide +kernel
theorem dX6_goesTo_5 : decode cX6_goesTo 5 = .ok (.iconst 0, 1) := by decide +kernel
theorem dX6_goesTo_6 : decode cX6_goesTo 6 = .ok (.putfield 150, 3) := by decide +kernel
theorem dX6_goesTo_9 : decode cX6_goesTo 9 = .ok (.aload_n 0, 1) := by decide +kernel
theorem dX6_goesTo_10 : decode cX6_goesTo 10 = .ok (.iconst 0, 1) := by decide +kernel
theorem dX6_goesTo_11 : decode cX6_goesTo 11 = .ok (.putfield 50, 3) := by decide +kernel
theorem dX6_goesTo_14 : decode cX6_goesTo 14 = .ok (.aload_n 0, 1) := by decide +kernel
theorem dX6_goesTo_15 : decode cX6_goesTo 15 = .ok (.iconst 0, 1) := by decide +kernel
theorem dX6_goesTo_16 : decode cX6_goesTo 16 = .ok (.iload_n 2, 1) := by decide +kernel
theorem dX6_goesTo_17 : decode cX6_goesTo 17 = .ok (.invokevirtual 153, 3) := by decide +kernel
theorem dX6_goesTo_20 : decode cX6_goesTo 20 = .ok (.iconst 1, 1) := by decide +kernel
theorem dX6_goesTo_21 : decode cX6_goesTo 21 = .ok (.istore_n 3, 1) := by decide +kernel
theorem dX6_goesTo_22 : decode cX6_goesTo 22 = .ok (.iload_n 3, 1) := by decide +kernel
theorem dX6_goesTo_23 : decode cX6_goesTo 23 = .ok (.iload_n 1, 1) := by decide +kernel
theorem dX6_goesTo_24 : decode cX6_goesTo 24 = .ok (.if_icmp .gt 19, 3) := by decide +kernel
theorem dX6_goesTo_27 : decode cX6_goesTo 27 = .ok (.aload_n 0, 1) := by decide +kernel
theorem dX6_goesTo_28 : decode cX6_goesTo 28 = .ok (.invokevirtual 105, 3) := by decide +kernel
theorem dX6_goesTo_31 : decode cX6_goesTo 31 = .ok (.aload_n 0, 1) := by decide +kernel
theorem dX6_goesTo_32 : decode cX6_goesTo 32 = .ok (.iload_n 3, 1) := by decide +kernel
theorem dX6_goesTo_33 : decode cX6_goesTo 33 = .ok (.iload_n 2, 1) := by decide +kernel
theorem dX6_goesTo_34 : decode cX6_goesTo 34 = .ok (.invokevirtual 153, 3) := by decide +kernel
theorem dX6_goesTo_37 : decode cX6_goesTo 37 = .ok (.iinc 3 1, 3) := by decide +kernel
theorem dX6_goesTo_40 : decode cX6_goesTo 40 = .ok (.goto (-18), 3) := by decide +kernel
theorem dX6_goesTo_43 : decode cX6_goesTo 43 = .ok (.return_, 1) := by decide +kernel
theorem dX6_isTime_0 : decode cX6_isTime 0 = .ok (.iload_n 1, 1) := by decide +kernel
theorem dX6_isTime_1 : decode cX6_isTime 1 = .ok (.i2l, 1) := by decide +kernel
theorem dX6_isTime_2 : decode cX6_isTime 2 = .ok (.lconst 0, 1) := by decide +kernel
theorem dX6_isTime_3 : decode cX6_isTime 3 = .ok (.aload_n 0, 1) := by decide +kernel
theorem dX6_isTime_4 : decode cX6_isTime 4 = .ok (.getfield 71, 3) := by decide +kernel
theorem dX6_isTime_7 : decode cX6_isTime 7 = .ok (.i2l, 1) := by decide +kernel
theorem dX6_isTime_8 : decode cX6_isTime 8 = .ok (.invokestatic 37, 3) := by decide +kernel
theorem dX6_isTime_11 : decode cX6_isTime 11 = .ok (.ireturn, 1) := by decide +kernel
theorem dX6_settingAt_0 : decode cX6_settingAt 0 = .ok (.aload_n 0, 1) := by decide +kernel
theorem dX6_settingAt_1 : decode cX6_settingAt 1 = .ok (.aload_n 0, 1) := by decide +kernel
theorem dX6_settingAt_2 : decode cX6_settingAt 2 = .ok (.iload_n 1, 1) := by decide +kernel
theorem dX6_settingAt_3 : decode cX6_settingAt 3 = .ok (.invokevirtual 156, 3) := by decide +kernel
theorem dX6_settingAt_6 : decode cX6_settingAt 6 = .ok (.iload_n 2, 1) := by decide +kernel
theorem dX6_settingAt_7 : decode cX6_settingAt 7 = .ok (.i2l, 1) := by decide +kernel
theorem dX6_settingAt_8 : decode cX6_settingAt 8 = .ok (.lconst 0, 1) := by decide +kernel
theorem dX6_settingAt_9 : decode cX6_settingAt 9 = .ok (.ldc2_w 159, 3) := by decide +kernel
theorem dX6_settingAt_12 : decode cX6_settingAt 12 = .ok (.invokestatic 37, 3) := by decide +kernel
theorem dX6_settingAt_15 : decode cX6_settingAt 15 = .ok (.iconst 1, 1) := by decide +kernel
theorem dX6_settingAt_16 : decode cX6_settingAt 16 = .ok (.invokevirtual 84, 3) := by decide +kernel
theorem dX6_settingAt_19 : decode cX6_settingAt 19 = .ok (.ifCond .ne 5, 3) := by decide +kernel
theorem dX6_settingAt_22 : decode cX6_settingAt 22 = .ok (.iconst 0, 1) := by decide +kernel
theorem dX6_settingAt_23 : decode cX6_settingAt 23 = .ok (.ireturn, 1) := by decide +kernel
theorem dX6_settingAt_24 : decode cX6_settingAt 24 = .ok (.aload_n 0, 1) := by decide +kernel
theorem dX6_settingAt_25 : decode cX6_settingAt 25 = .ok (.iload_n 1, 1) := by decide +kernel
theorem dX6_settingAt_26 : decode cX6_settingAt 26 = .ok (.iconst (-1), 1) := by decide +kernel
theorem dX6_settingAt_27 : decode cX6_settingAt 27 = .ok (.invokevirtual 161, 3) := by decide +kernel
theorem dX6_settingAt_30 : decode cX6_settingAt 30 = .ok (.aload_n 0, 1) := by decide +kernel
theorem dX6_settingAt_31 : decode cX6_settingAt 31 = .ok (.getfield 7, 3) := by decide +kernel
theorem dX6_settingAt_34 : decode cX6_settingAt 34 = .ok (.iload_n 2, 1) := by decide +kernel
theorem dX6_settingAt_35 : decode cX6_settingAt 35 = .ok (.iaload, 1) := by decide +kernel
theorem dX6_settingAt_36 : decode cX6_settingAt 36 = .ok (.istore_n 3, 1) := by decide +kernel
theorem dX6_settingAt_37 : decode cX6_settingAt 37 = .ok (.aload_n 0, 1) := by decide +kernel
theorem dX6_settingAt_38 : decode cX6_settingAt 38 = .ok (.aload_n 0, 1) := by decide +kernel
theorem dX6_settingAt_39 : decode cX6_settingAt 39 = .ok (.getfield 71, 3) := by decide +kernel
theorem dX6_settingAt_42 : decode cX6_settingAt 42 = .ok (.iconst (-1), 1) := by decide +kernel
theorem dX6_settingAt_43 : decode cX6_settingAt 43 = .ok (.invokevirtual 161, 3) := by decide +kernel
theorem dX6_settingAt_46 : decode cX6_settingAt 46 = .ok (.iload_n 3, 1) := by decide +kernel
theorem dX6_settingAt_47 : decode cX6_settingAt 47 = .ok (.ireturn, 1) := by decide +kernel
theorem dX6_shareAt_0 : decode cX6_shareAt 0 = .ok (.aload_n 0, 1) := by decide +kernel
theorem dX6_shareAt_1 : decode cX6_shareAt 1 = .ok (.aload_n 0, 1) := by decide +kernel
theorem dX6_shareAt_2 : decode cX6_shareAt 2 = .ok (.iload_n 1, 1) := by decide +kernel
theorem dX6_shareAt_3 : decode cX6_shareAt 3 = .ok (.invokevirtual 156, 3) := by decide +kernel
theorem dX6_shareAt_6 : decode cX6_shareAt 6 = .ok (.ifCond .eq 14, 3) := by decide +kernel
theorem dX6_shareAt_9 : decode cX6_shareAt 9 = .ok (.iload_n 2, 1) := by decide +kernel
theorem dX6_shareAt_10 : decode cX6_shareAt 10 = .ok (.invokestatic 78, 3) := by decide +kernel
theorem dX6_shareAt_13 : decode cX6_shareAt 13 = .ok (.ifCond .eq 7, 3) := by decide +kernel
theorem dX6_shareAt_16 : decode cX6_shareAt 16 = .ok (.iconst 1, 1) := by decide +kernel
theorem dX6_shareAt_17 : decode cX6_shareAt 17 = .ok (.goto 4, 3) := by decide +kernel
theorem dX6_shareAt_20 : decode cX6_shareAt 20 = .ok (.iconst 0, 1) := by decide +kernel
theorem dX6_shareAt_21 : decode cX6_shareAt 21 = .ok (.iconst 1, 1) := by decide +kernel
theorem dX6_shareAt_22 : decode cX6_shareAt 22 = .ok (.iconst 1, 1) := by decide +kernel
theorem dX6_shareAt_23 : decode cX6_shareAt 23 = .ok (.invokevirtual 84, 3) := by decide +kernel
theorem dX6_shareAt_26 : decode cX6_shareAt 26 = .ok (.ifCond .ne 5, 3) := by decide +kernel
theorem dX6_shareAt_29 : decode cX6_shareAt 29 = .ok (.iconst 0, 1) := by decide +kernel
theorem dX6_shareAt_30 : decode cX6_shareAt 30 = .ok (.ireturn, 1) := by decide +kernel
theorem dX6_shareAt_31 : decode cX6_shareAt 31 = .ok (.aload_n 0, 1) := by decide +kernel
theorem dX6_shareAt_32 : decode cX6_shareAt 32 = .ok (.iload_n 1, 1) := by decide +kernel
theorem dX6_shareAt_33 : decode cX6_shareAt 33 = .ok (.iconst (-1), 1) := by decide +kernel
theorem dX6_shareAt_34 : decode cX6_shareAt 34 = .ok (.invokevirtual 161, 3) := by decide +kernel
theorem dX6_shareAt_37 : decode cX6_shareAt 37 = .ok (.aload_n 0, 1) := by decide +kernel
theorem dX6_shareAt_38 : decode cX6_shareAt 38 = .ok (.iload_n 2, 1) := by decide +kernel
theorem dX6_shareAt_39 : decode cX6_shareAt 39 = .ok (.iconst 0, 1) := by decide +kernel
theorem dX6_shareAt_40 : decode cX6_shareAt 40 = .ok (.invokevirtual 134, 3) := by decide +kernel
theorem dX6_shareAt_43 : decode cX6_shareAt 43 = .ok (.istore_n 3, 1) := by decide +kernel
theorem dX6_shareAt_44 : decode cX6_shareAt 44 = .ok (.aload_n 0, 1) := by decide +kernel
theorem dX6_shareAt_45 : decode cX6_shareAt 45 = .ok (.aload_n 0, 1) := by decide +kernel
theorem dX6_shareAt_46 : decode cX6_shareAt 46 = .ok (.getfield 71, 3) := by decide +kernel
theorem dX6_shareAt_49 : decode cX6_shareAt 49 = .ok (.iconst (-1), 1) := by decide +kernel
theorem dX6_shareAt_50 : decode cX6_shareAt 50 = .ok (.invokevirtual 161, 3) := by decide +kernel
theorem dX6_shareAt_53 : decode cX6_shareAt 53 = .ok (.iload_n 3, 1) := by decide +kernel
theorem dX6_shareAt_54 : decode cX6_shareAt 54 = .ok (.ireturn, 1) := by decide +kernel
theorem dX6_goesThrough_0 : decode cX6_goesThrough 0 = .ok (.aload_n 0, 1) := by decide +kernel
theorem dX6_goesThrough_1 : decode cX6_goesThrough 1 = .ok (.iconst 0, 1) := by decide +kernel
theorem dX6_goesThrough_2 : decode cX6_goesThrough 2 = .ok (.putfield 164, 3) := by decide +kernel
theorem dX6_goesThrough_5 : decode cX6_goesThrough 5 = .ok (.aload_n 0, 1) := by decide +kernel
theorem dX6_goesThrough_6 : decode cX6_goesThrough 6 = .ok (.iconst (-1), 1) := by decide +kernel
theorem dX6_goesThrough_7 : decode cX6_goesThrough 7 = .ok (.putfield 167, 3) := by decide +kernel
theorem dX6_goesThrough_10 : decode cX6_goesThrough 10 = .ok (.aload_n 0, 1) := by decide +kernel
theorem dX6_goesThrough_11 : decode cX6_goesThrough 11 = .ok (.iconst 0, 1) := by decide +kernel
theorem dX6_goesThrough_12 : decode cX6_goesThrough 12 = .ok (.putfield 170, 3) := by decide +kernel
theorem dX6_goesThrough_15 : decode cX6_goesThrough 15 = .ok (.iconst 0, 1) := by decide +kernel
theorem dX6_goesThrough_16 : decode cX6_goesThrough 16 = .ok (.istore_n 2, 1) := by decide +kernel
theorem dX6_goesThrough_17 : decode cX6_goesThrough 17 = .ok (.iconst (-1), 1) := by decide +kernel
theorem dX6_goesThrough_18 : decode cX6_goesThrough 18 = .ok (.istore_n 3, 1) := by decide +kernel
theorem dX6_goesThrough_19 : decode cX6_goesThrough 19 = .ok (.aload_n 0, 1) := by decide +kernel
theorem dX6_goesThrough_20 : decode cX6_goesThrough 20 = .ok (.invokevirtual 28, 3) := by decide +kernel
theorem dX6_goesThrough_23 : decode cX6_goesThrough 23 = .ok (.aload_n 0, 1) := by decide +kernel
theorem dX6_goesThrough_24 : decode cX6_goesThrough 24 = .ok (.iconst 0, 1) := by decide +kernel
theorem dX6_goesThrough_25 : decode cX6_goesThrough 25 = .ok (.putfield 150, 3) := by decide +kernel
theorem dX6_goesThrough_28 : decode cX6_goesThrough 28 = .ok (.iconst 0, 1) := by decide +kernel
theorem dX6_goesThrough_29 : decode cX6_goesThrough 29 = .ok (.istore 4, 2) := by decide +kernel
theorem dX6_goesThrough_31 : decode cX6_goesThrough 31 = .ok (.iload 4, 2) := by decide +kernel
theorem dX6_goesThrough_33 : decode cX6_goesThrough 33 = .ok (.aload_n 0, 1) := by decide +kernel
theorem dX6_goesThrough_34 : decode cX6_goesThrough 34 = .ok (.getfield 71, 3) := by decide +kernel
theorem dX6_goesThrough_37 : decode cX6_goesThrough 37 = .ok (.if_icmp .gt 130, 3) := by decide +kernel
theorem dX6_goesThrough_40 : decode cX6_goesThrough 40 = .ok (.iload 4, 2) := by decide +kernel
theorem dX6_goesThrough_42 : decode cX6_goesThrough 42 = .ok (.ifCond .le 7, 3) := by decide +kernel
theorem dX6_goesThrough_45 : decode cX6_goesThrough 45 = .ok (.aload_n 0, 1) := by decide +kernel
theorem dX6_goesThrough_46 : decode cX6_goesThrough 46 = .ok (.invokevirtual 105, 3) := by decide +kernel
theorem dX6_goesThrough_49 : decode cX6_goesThrough 49 = .ok (.aload_n 0, 1) := by decide +kernel
theorem dX6_goesThrough_50 : decode cX6_goesThrough 50 = .ok (.iload 4, 2) := by decide +kernel
theorem dX6_goesThrough_52 : decode cX6_goesThrough 52 = .ok (.iconst (-1), 1) := by decide +kernel
theorem dX6_goesThrough_53 : decode cX6_goesThrough 53 = .ok (.invokevirtual 153, 3) := by decide +kernel
theorem dX6_goesThrough_56 : decode cX6_goesThrough 56 = .ok (.aload_n 0, 1) := by decide +kernel
theorem dX6_goesThrough_57 : decode cX6_goesThrough 57 = .ok (.invokevirtual 124, 3) := by decide +kernel
theorem dX6_goesThrough_60 : decode cX6_goesThrough 60 = .ok (.istore 5, 2) := by decide +kernel
theorem dX6_goesThrough_62 : decode cX6_goesThrough 62 = .ok (.iload 5, 2) := by decide +kernel
theorem dX6_goesThrough_64 : decode cX6_goesThrough 64 = .ok (.iload_n 1, 1) := by decide +kernel
theorem dX6_goesThrough_65 : decode cX6_goesThrough 65 = .ok (.ishr, 1) := by decide +kernel
theorem dX6_goesThrough_66 : decode cX6_goesThrough 66 = .ok (.iconst 1, 1) := by decide +kernel
theorem dX6_goesThrough_67 : decode cX6_goesThrough 67 = .ok (.iand, 1) := by decide +kernel
theorem dX6_goesThrough_68 : decode cX6_goesThrough 68 = .ok (.iconst 1, 1) := by decide +kernel
theorem dX6_goesThrough_69 : decode cX6_goesThrough 69 = .ok (.if_icmp .ne 7, 3) := by decide +kernel
theorem dX6_goesThrough_72 : decode cX6_goesThrough 72 = .ok (.iconst 1, 1) := by decide +kernel
theorem dX6_goesThrough_73 : decode cX6_goesThrough 73 = .ok (.goto 4, 3) := by decide +kernel
theorem dX6_goesThrough_76 : decode cX6_goesThrough 76 = .ok (.iconst 0, 1) := by decide +kernel
theorem dX6_goesThrough_77 : decode cX6_goesThrough 77 = .ok (.istore 6, 2) := by decide +kernel
theorem dX6_goesThrough_79 : decode cX6_goesThrough 79 = .ok (.aload_n 0, 1) := by decide +kernel
theorem dX6_goesThrough_80 : decode cX6_goesThrough 80 = .ok (.dup, 1) := by decide +kernel
theorem dX6_goesThrough_81 : decode cX6_goesThrough 81 = .ok (.getfield 164, 3) := by decide +kernel
theorem dX6_goesThrough_84 : decode cX6_goesThrough 84 = .ok (.iload 6, 2) := by decide +kernel
theorem dX6_goesThrough_86 : decode cX6_goesThrough 86 = .ok (.ifCond .eq 7, 3) := by decide +kernel
theorem dX6_goesThrough_89 : decode cX6_goesThrough 89 = .ok (.iconst 1, 1) := by decide +kernel
theorem dX6_goesThrough_90 : decode cX6_goesThrough 90 = .ok (.goto 4, 3) := by decide +kernel
theorem dX6_goesThrough_93 : decode cX6_goesThrough 93 = .ok (.iconst 0, 1) := by decide +kernel
theorem dX6_goesThrough_94 : decode cX6_goesThrough 94 = .ok (.iadd, 1) := by decide +kernel
theorem dX6_goesThrough_95 : decode cX6_goesThrough 95 = .ok (.putfield 164, 3) := by decide +kernel
theorem dX6_goesThrough_98 : decode cX6_goesThrough 98 = .ok (.aload_n 0, 1) := by decide +kernel
theorem dX6_goesThrough_99 : decode cX6_goesThrough 99 = .ok (.iload 6, 2) := by decide +kernel
theorem dX6_goesThrough_101 : decode cX6_goesThrough 101 = .ok (.ifCond .eq 16, 3) := by decide +kernel
theorem dX6_goesThrough_104 : decode cX6_goesThrough 104 = .ok (.aload_n 0, 1) := by decide +kernel
theorem dX6_goesThrough_105 : decode cX6_goesThrough 105 = .ok (.getfield 167, 3) := by decide +kernel
theorem dX6_goesThrough_108 : decode cX6_goesThrough 108 = .ok (.iconst (-1), 1) := by decide +kernel
theorem dX6_goesThrough_109 : decode cX6_goesThrough 109 = .ok (.if_icmp .ne 8, 3) := by decide +kernel
theorem dX6_goesThrough_112 : decode cX6_goesThrough 112 = .ok (.iload 4, 2) := by decide +kernel
theorem dX6_goesThrough_114 : decode cX6_goesThrough 114 = .ok (.goto 7, 3) := by decide +kernel
theorem dX6_goesThrough_117 : decode cX6_goesThrough 117 = .ok (.aload_n 0, 1) := by decide +kernel
theorem dX6_goesThrough_118 : decode cX6_goesThrough 118 = .ok (.getfield 167, 3) := by decide +kernel
theorem dX6_goesThrough_121 : decode cX6_goesThrough 121 = .ok (.putfield 167, 3) := by decide +kernel
theorem dX6_goesThrough_124 : decode cX6_goesThrough 124 = .ok (.iload 5, 2) := by decide +kernel
theorem dX6_goesThrough_126 : decode cX6_goesThrough 126 = .ok (.iload_n 3, 1) := by decide +kernel
theorem dX6_goesThrough_127 : decode cX6_goesThrough 127 = .ok (.if_icmp .ne 9, 3) := by decide +kernel
theorem dX6_goesThrough_130 : decode cX6_goesThrough 130 = .ok (.iload_n 2, 1) := by decide +kernel
theorem dX6_goesThrough_131 : decode cX6_goesThrough 131 = .ok (.iconst 1, 1) := by decide +kernel
theorem dX6_goesThrough_132 : decode cX6_goesThrough 132 = .ok (.iadd, 1) := by decide +kernel
theorem dX6_goesThrough_133 : decode cX6_goesThrough 133 = .ok (.goto 4, 3) := by decide +kernel
theorem dX6_goesThrough_136 : decode cX6_goesThrough 136 = .ok (.iconst 1, 1) := by decide +kernel
theorem dX6_goesThrough_137 : decode cX6_goesThrough 137 = .ok (.istore_n 2, 1) := by decide +kernel
theorem dX6_goesThrough_138 : decode cX6_goesThrough 138 = .ok (.iload 5, 2) := by decide +kernel
theorem dX6_goesThrough_140 : decode cX6_goesThrough 140 = .ok (.istore_n 3, 1) := by decide +kernel
theorem dX6_goesThrough_141 : decode cX6_goesThrough 141 = .ok (.aload_n 0, 1) := by decide +kernel
theorem dX6_goesThrough_142 : decode cX6_goesThrough 142 = .ok (.iload_n 2, 1) := by decide +kernel
theorem dX6_goesThrough_143 : decode cX6_goesThrough 143 = .ok (.aload_n 0, 1) := by decide +kernel
theorem dX6_goesThrough_144 : decode cX6_goesThrough 144 = .ok (.getfield 170, 3) := by decide +kernel
theorem dX6_goesThrough_147 : decode cX6_goesThrough 147 = .ok (.if_icmp .le 7, 3) := by decide +kernel
theorem dX6_goesThrough_150 : decode cX6_goesThrough 150 = .ok (.iload_n 2, 1) := by decide +kernel
theorem dX6_goesThrough_151 : decode cX6_goesThrough 151 = .ok (.goto 7, 3) := by decide +kernel
theorem dX6_goesThrough_154 : decode cX6_goesThrough 154 = .ok (.aload_n 0, 1) := by decide +kernel
theorem dX6_goesThrough_155 : decode cX6_goesThrough 155 = .ok (.getfield 170, 3) := by decide +kernel
theorem dX6_goesThrough_158 : decode cX6_goesThrough 158 = .ok (.putfield 170, 3) := by decide +kernel
theorem dX6_goesThrough_161 : decode cX6_goesThrough 161 = .ok (.iinc 4 1, 3) := by decide +kernel
theorem dX6_goesThrough_164 : decode cX6_goesThrough 164 = .ok (.goto (-133), 3) := by decide +kernel
theorem dX6_goesThrough_167 : decode cX6_goesThrough 167 = .ok (.return_, 1) := by decide +kernel
theorem dX6_timesRed_0 : decode cX6_timesRed 0 = .ok (.aload_n 0, 1) := by decide +kernel
theorem dX6_timesRed_1 : decode cX6_timesRed 1 = .ok (.iload_n 1, 1) := by decide +kernel
theorem dX6_timesRed_2 : decode cX6_timesRed 2 = .ok (.invokestatic 78, 3) := by decide +kernel
theorem dX6_timesRed_5 : decode cX6_timesRed 5 = .ok (.iconst 1, 1) := by decide +kernel
theorem dX6_timesRed_6 : decode cX6_timesRed 6 = .ok (.iconst 1, 1) := by decide +kernel
theorem dX6_timesRed_7 : decode cX6_timesRed 7 = .ok (.invokevirtual 84, 3) := by decide +kernel
theorem dX6_timesRed_10 : decode cX6_timesRed 10 = .ok (.ifCond .ne 5, 3) := by decide +kernel
theorem dX6_timesRed_13 : decode cX6_timesRed 13 = .ok (.iconst 0, 1) := by decide +kernel
theorem dX6_timesRed_14 : decode cX6_timesRed 14 = .ok (.ireturn, 1) := by decide +kernel
theorem dX6_timesRed_15 : decode cX6_timesRed 15 = .ok (.aload_n 0, 1) := by decide +kernel
theorem dX6_timesRed_16 : decode cX6_timesRed 16 = .ok (.iload_n 1, 1) := by decide +kernel
theorem dX6_timesRed_17 : decode cX6_timesRed 17 = .ok (.invokevirtual 173, 3) := by decide +kernel
theorem dX6_timesRed_20 : decode cX6_timesRed 20 = .ok (.aload_n 0, 1) := by decide +kernel
theorem dX6_timesRed_21 : decode cX6_timesRed 21 = .ok (.getfield 164, 3) := by decide +kernel
theorem dX6_timesRed_24 : decode cX6_timesRed 24 = .ok (.ireturn, 1) := by decide +kernel
theorem dX6_firstRed_0 : decode cX6_firstRed 0 = .ok (.aload_n 0, 1) := by decide +kernel
theorem dX6_firstRed_1 : decode cX6_firstRed 1 = .ok (.iload_n 1, 1) := by decide +kernel
theorem dX6_firstRed_2 : decode cX6_firstRed 2 = .ok (.invokestatic 78, 3) := by decide +kernel
theorem dX6_firstRed_5 : decode cX6_firstRed 5 = .ok (.iconst 1, 1) := by decide +kernel
theorem dX6_firstRed_6 : decode cX6_firstRed 6 = .ok (.iconst 1, 1) := by decide +kernel
theorem dX6_firstRed_7 : decode cX6_firstRed 7 = .ok (.invokevirtual 84, 3) := by decide +kernel
theorem dX6_firstRed_10 : decode cX6_firstRed 10 = .ok (.ifCond .ne 5, 3) := by decide +kernel
theorem dX6_firstRed_13 : decode cX6_firstRed 13 = .ok (.iconst 0, 1) := by decide +kernel
theorem dX6_firstRed_14 : decode cX6_firstRed 14 = .ok (.ireturn, 1) := by decide +kernel
theorem dX6_firstRed_15 : decode cX6_firstRed 15 = .ok (.aload_n 0, 1) := by decide +kernel
theorem dX6_firstRed_16 : decode cX6_firstRed 16 = .ok (.iload_n 1, 1) := by decide +kernel
theorem dX6_firstRed_17 : decode cX6_firstRed 17 = .ok (.invokevirtual 173, 3) := by decide +kernel
theorem dX6_firstRed_20 : decode cX6_firstRed 20 = .ok (.aload_n 0, 1) := by decide +kernel
theorem dX6_firstRed_21 : decode cX6_firstRed 21 = .ok (.getfield 167, 3) := by decide +kernel
theorem dX6_firstRed_24 : decode cX6_firstRed 24 = .ok (.ireturn, 1) := by decide +kernel
theorem dX6_longestShot_0 : decode cX6_longestShot 0 = .ok (.aload_n 0, 1) := by decide +kernel
theorem dX6_longestShot_1 : decode cX6_longestShot 1 = .ok (.iconst 0, 1) := by decide +kernel
theorem dX6_longestShot_2 : decode cX6_longestShot 2 = .ok (.putfield 31, 3) := by decide +kernel
theorem dX6_longestShot_5 : decode cX6_longestShot 5 = .ok (.aload_n 0, 1) := by decide +kernel
theorem dX6_longestShot_6 : decode cX6_longestShot 6 = .ok (.iconst 0, 1) := by decide +kernel
theorem dX6_longestShot_7 : decode cX6_longestShot 7 = .ok (.invokevirtual 173, 3) := by decide +kernel
theorem dX6_longestShot_10 : decode cX6_longestShot 10 = .ok (.aload_n 0, 1) := by decide +kernel
theorem dX6_longestShot_11 : decode cX6_longestShot 11 = .ok (.getfield 170, 3) := by decide +kernel
theorem dX6_longestShot_14 : decode cX6_longestShot 14 = .ok (.ireturn, 1) := by decide +kernel
theorem dX6_runs_0 : decode cX6_runs 0 = .ok (.aload_n 0, 1) := by decide +kernel
theorem dX6_runs_1 : decode cX6_runs 1 = .ok (.iconst 0, 1) := by decide +kernel
theorem dX6_runs_2 : decode cX6_runs 2 = .ok (.putfield 31, 3) := by decide +kernel
theorem dX6_runs_5 : decode cX6_runs 5 = .ok (.aload_n 0, 1) := by decide +kernel
theorem dX6_runs_6 : decode cX6_runs 6 = .ok (.aload_n 0, 1) := by decide +kernel
theorem dX6_runs_7 : decode cX6_runs 7 = .ok (.getfield 71, 3) := by decide +kernel
theorem dX6_runs_10 : decode cX6_runs 10 = .ok (.iconst (-1), 1) := by decide +kernel
theorem dX6_runs_11 : decode cX6_runs 11 = .ok (.invokevirtual 161, 3) := by decide +kernel
theorem dX6_runs_14 : decode cX6_runs 14 = .ok (.aload_n 0, 1) := by decide +kernel
theorem dX6_runs_15 : decode cX6_runs 15 = .ok (.getfield 50, 3) := by decide +kernel
theorem dX6_runs_18 : decode cX6_runs 18 = .ok (.ireturn, 1) := by decide +kernel
theorem dX6_isAct_0 : decode cX6_isAct 0 = .ok (.iload_n 1, 1) := by decide +kernel
theorem dX6_isAct_1 : decode cX6_isAct 1 = .ok (.i2l, 1) := by decide +kernel
theorem dX6_isAct_2 : decode cX6_isAct 2 = .ok (.lconst 0, 1) := by decide +kernel
theorem dX6_isAct_3 : decode cX6_isAct 3 = .ok (.aload_n 0, 1) := by decide +kernel
theorem dX6_isAct_4 : decode cX6_isAct 4 = .ok (.getfield 68, 3) := by decide +kernel
theorem dX6_isAct_7 : decode cX6_isAct 7 = .ok (.i2l, 1) := by decide +kernel
theorem dX6_isAct_8 : decode cX6_isAct 8 = .ok (.lconst 1, 1) := by decide +kernel
theorem dX6_isAct_9 : decode cX6_isAct 9 = .ok (.lsub, 1) := by decide +kernel
theorem dX6_isAct_10 : decode cX6_isAct 10 = .ok (.invokestatic 37, 3) := by decide +kernel
theorem dX6_isAct_13 : decode cX6_isAct 13 = .ok (.ireturn, 1) := by decide +kernel
theorem dX6_act_0 : decode cX6_act 0 = .ok (.aload_n 0, 1) := by decide +kernel
theorem dX6_act_1 : decode cX6_act 1 = .ok (.aload_n 0, 1) := by decide +kernel
theorem dX6_act_2 : decode cX6_act 2 = .ok (.iload_n 1, 1) := by decide +kernel
theorem dX6_act_3 : decode cX6_act 3 = .ok (.invokevirtual 176, 3) := by decide +kernel
theorem dX6_act_6 : decode cX6_act 6 = .ok (.iload_n 2, 1) := by decide +kernel
theorem dX6_act_7 : decode cX6_act 7 = .ok (.i2l, 1) := by decide +kernel
theorem dX6_act_8 : decode cX6_act 8 = .ok (.lconst 0, 1) := by decide +kernel
theorem dX6_act_9 : decode cX6_act 9 = .ok (.ldc2_w 148, 3) := by decide +kernel
theorem dX6_act_12 : decode cX6_act 12 = .ok (.invokestatic 37, 3) := by decide +kernel
theorem dX6_act_15 : decode cX6_act 15 = .ok (.iconst 1, 1) := by decide +kernel
theorem dX6_act_16 : decode cX6_act 16 = .ok (.invokevirtual 84, 3) := by decide +kernel
theorem dX6_act_19 : decode cX6_act 19 = .ok (.ifCond .eq 17, 3) := by decide +kernel
theorem dX6_act_22 : decode cX6_act 22 = .ok (.aload_n 0, 1) := by decide +kernel
theorem dX6_act_23 : decode cX6_act 23 = .ok (.getfield 16, 3) := by decide +kernel
theorem dX6_act_26 : decode cX6_act 26 = .ok (.bipush 6, 2) := by decide +kernel
theorem dX6_act_28 : decode cX6_act 28 = .ok (.iload_n 1, 1) := by decide +kernel
theorem dX6_act_29 : decode cX6_act 29 = .ok (.imul, 1) := by decide +kernel
theorem dX6_act_30 : decode cX6_act 30 = .ok (.iload_n 2, 1) := by decide +kernel
theorem dX6_act_31 : decode cX6_act 31 = .ok (.iadd, 1) := by decide +kernel
theorem dX6_act_32 : decode cX6_act 32 = .ok (.iaload, 1) := by decide +kernel
theorem dX6_act_33 : decode cX6_act 33 = .ok (.goto 4, 3) := by decide +kernel
theorem dX6_act_36 : decode cX6_act 36 = .ok (.iconst 0, 1) := by decide +kernel
theorem dX6_act_37 : decode cX6_act 37 = .ok (.ireturn, 1) := by decide +kernel
theorem dX6_takesOut_0 : decode cX6_takesOut 0 = .ok (.aload_n 0, 1) := by decide +kernel
theorem dX6_takesOut_1 : decode cX6_takesOut 1 = .ok (.dup, 1) := by decide +kernel
theorem dX6_takesOut_2 : decode cX6_takesOut 2 = .ok (.getfield 68, 3) := by decide +kernel
theorem dX6_takesOut_5 : decode cX6_takesOut 5 = .ok (.iconst 1, 1) := by decide +kernel
theorem dX6_takesOut_6 : decode cX6_takesOut 6 = .ok (.isub, 1) := by decide +kernel
theorem dX6_takesOut_7 : decode cX6_takesOut 7 = .ok (.putfield 68, 3) := by decide +kernel
theorem dX6_takesOut_10 : decode cX6_takesOut 10 = .ok (.bipush 6, 2) := by decide +kernel
theorem dX6_takesOut_12 : decode cX6_takesOut 12 = .ok (.iload_n 1, 1) := by decide +kernel
theorem dX6_takesOut_13 : decode cX6_takesOut 13 = .ok (.imul, 1) := by decide +kernel
theorem dX6_takesOut_14 : decode cX6_takesOut 14 = .ok (.istore_n 2, 1) := by decide +kernel
theorem dX6_takesOut_15 : decode cX6_takesOut 15 = .ok (.iload_n 2, 1) := by decide +kernel
theorem dX6_takesOut_16 : decode cX6_takesOut 16 = .ok (.bipush 6, 2) := by decide +kernel
theorem dX6_takesOut_18 : decode cX6_takesOut 18 = .ok (.aload_n 0, 1) := by decide +kernel
theorem dX6_takesOut_19 : decode cX6_takesOut 19 = .ok (.getfield 68, 3) := by decide +kernel
theorem dX6_takesOut_22 : decode cX6_takesOut 22 = .ok (.imul, 1) := by decide +kernel
theorem dX6_takesOut_23 : decode cX6_takesOut 23 = .ok (.if_icmp .ge 24, 3) := by decide +kernel
theorem dX6_takesOut_26 : decode cX6_takesOut 26 = .ok (.aload_n 0, 1) := by decide +kernel
theorem dX6_takesOut_27 : decode cX6_takesOut 27 = .ok (.getfield 16, 3) := by decide +kernel
theorem dX6_takesOut_30 : decode cX6_takesOut 30 = .ok (.iload_n 2, 1) := by decide +kernel
theorem dX6_takesOut_31 : decode cX6_takesOut 31 = .ok (.aload_n 0, 1) := by decide +kernel
theorem dX6_takesOut_32 : decode cX6_takesOut 32 = .ok (.getfield 16, 3) := by decide +kernel
theorem dX6_takesOut_35 : decode cX6_takesOut 35 = .ok (.iload_n 2, 1) := by decide +kernel
theorem dX6_takesOut_36 : decode cX6_takesOut 36 = .ok (.bipush 6, 2) := by decide +kernel
theorem dX6_takesOut_38 : decode cX6_takesOut 38 = .ok (.iadd, 1) := by decide +kernel
theorem dX6_takesOut_39 : decode cX6_takesOut 39 = .ok (.iaload, 1) := by decide +kernel
theorem dX6_takesOut_40 : decode cX6_takesOut 40 = .ok (.iastore, 1) := by decide +kernel
theorem dX6_takesOut_41 : decode cX6_takesOut 41 = .ok (.iinc 2 1, 3) := by decide +kernel
theorem dX6_takesOut_44 : decode cX6_takesOut 44 = .ok (.goto (-29), 3) := by decide +kernel
theorem dX6_takesOut_47 : decode cX6_takesOut 47 = .ok (.aload_n 0, 1) := by decide +kernel
theorem dX6_takesOut_48 : decode cX6_takesOut 48 = .ok (.aload_n 0, 1) := by decide +kernel
theorem dX6_takesOut_49 : decode cX6_takesOut 49 = .ok (.getfield 71, 3) := by decide +kernel
theorem dX6_takesOut_52 : decode cX6_takesOut 52 = .ok (.iconst (-1), 1) := by decide +kernel
theorem dX6_takesOut_53 : decode cX6_takesOut 53 = .ok (.invokevirtual 161, 3) := by decide +kernel
theorem dX6_takesOut_56 : decode cX6_takesOut 56 = .ok (.aload_n 0, 1) := by decide +kernel
theorem dX6_takesOut_57 : decode cX6_takesOut 57 = .ok (.getfield 68, 3) := by decide +kernel
theorem dX6_takesOut_60 : decode cX6_takesOut 60 = .ok (.ireturn, 1) := by decide +kernel
theorem dX6_takeOut_0 : decode cX6_takeOut 0 = .ok (.aload_n 0, 1) := by decide +kernel
theorem dX6_takeOut_1 : decode cX6_takeOut 1 = .ok (.aload_n 0, 1) := by decide +kernel
theorem dX6_takeOut_2 : decode cX6_takeOut 2 = .ok (.iload_n 1, 1) := by decide +kernel
theorem dX6_takeOut_3 : decode cX6_takeOut 3 = .ok (.invokevirtual 176, 3) := by decide +kernel
theorem dX6_takeOut_6 : decode cX6_takeOut 6 = .ok (.iconst 1, 1) := by decide +kernel
theorem dX6_takeOut_7 : decode cX6_takeOut 7 = .ok (.iconst 1, 1) := by decide +kernel
theorem dX6_takeOut_8 : decode cX6_takeOut 8 = .ok (.invokevirtual 84, 3) := by decide +kernel
theorem dX6_takeOut_11 : decode cX6_takeOut 11 = .ok (.ifCond .eq 11, 3) := by decide +kernel
theorem dX6_takeOut_14 : decode cX6_takeOut 14 = .ok (.aload_n 0, 1) := by decide +kernel
theorem dX6_takeOut_15 : decode cX6_takeOut 15 = .ok (.iload_n 1, 1) := by decide +kernel
theorem dX6_takeOut_16 : decode cX6_takeOut 16 = .ok (.invokevirtual 179, 3) := by decide +kernel
theorem dX6_takeOut_19 : decode cX6_takeOut 19 = .ok (.goto 4, 3) := by decide +kernel
theorem dX6_takeOut_22 : decode cX6_takeOut 22 = .ok (.iconst 0, 1) := by decide +kernel
theorem dX6_takeOut_23 : decode cX6_takeOut 23 = .ok (.ireturn, 1) := by decide +kernel
theorem dX6_undo_0 : decode cX6_undo 0 = .ok (.aload_n 0, 1) := by decide +kernel
theorem dX6_undo_1 : decode cX6_undo 1 = .ok (.aload_n 0, 1) := by decide +kernel
theorem dX6_undo_2 : decode cX6_undo 2 = .ok (.getfield 68, 3) := by decide +kernel
theorem dX6_undo_5 : decode cX6_undo 5 = .ok (.ifCond .le 7, 3) := by decide +kernel
theorem dX6_undo_8 : decode cX6_undo 8 = .ok (.iconst 1, 1) := by decide +kernel
theorem dX6_undo_9 : decode cX6_undo 9 = .ok (.goto 4, 3) := by decide +kernel
theorem dX6_undo_12 : decode cX6_undo 12 = .ok (.iconst 0, 1) := by decide +kernel
theorem dX6_undo_13 : decode cX6_undo 13 = .ok (.iconst 1, 1) := by decide +kernel
theorem dX6_undo_14 : decode cX6_undo 14 = .ok (.iconst 1, 1) := by decide +kernel
theorem dX6_undo_15 : decode cX6_undo 15 = .ok (.invokevirtual 84, 3) := by decide +kernel
theorem dX6_undo_18 : decode cX6_undo 18 = .ok (.ifCond .eq 16, 3) := by decide +kernel
theorem dX6_undo_21 : decode cX6_undo 21 = .ok (.aload_n 0, 1) := by decide +kernel
theorem dX6_undo_22 : decode cX6_undo 22 = .ok (.aload_n 0, 1) := by decide +kernel
theorem dX6_undo_23 : decode cX6_undo 23 = .ok (.getfield 68, 3) := by decide +kernel
theorem dX6_undo_26 : decode cX6_undo 26 = .ok (.iconst 1, 1) := by decide +kernel
theorem dX6_undo_27 : decode cX6_undo 27 = .ok (.isub, 1) := by decide +kernel
theorem dX6_undo_28 : decode cX6_undo 28 = .ok (.invokevirtual 179, 3) := by decide +kernel
theorem dX6_undo_31 : decode cX6_undo 31 = .ok (.goto 4, 3) := by decide +kernel
theorem dX6_undo_34 : decode cX6_undo 34 = .ok (.iconst 0, 1) := by decide +kernel
theorem dX6_undo_35 : decode cX6_undo 35 = .ok (.ireturn, 1) := by decide +kernel
theorem dX6_redWithout_0 : decode cX6_redWithout 0 = .ok (.aload_n 0, 1) := by decide +kernel
theorem dX6_redWithout_1 : decode cX6_redWithout 1 = .ok (.aload_n 0, 1) := by decide +kernel
theorem dX6_redWithout_2 : decode cX6_redWithout 2 = .ok (.iload_n 1, 1) := by decide +kernel
theorem dX6_redWithout_3 : decode cX6_redWithout 3 = .ok (.invokevirtual 176, 3) := by decide +kernel
theorem dX6_redWithout_6 : decode cX6_redWithout 6 = .ok (.iconst 1, 1) := by decide +kernel
theorem dX6_redWithout_7 : decode cX6_redWithout 7 = .ok (.iconst 1, 1) := by decide +kernel
theorem dX6_redWithout_8 : decode cX6_redWithout 8 = .ok (.invokevirtual 84, 3) := by decide +kernel
theorem dX6_redWithout_11 : decode cX6_redWithout 11 = .ok (.ifCond .ne 5, 3) := by decide +kernel
theorem dX6_redWithout_14 : decode cX6_redWithout 14 = .ok (.iconst 0, 1) := by decide +kernel
theorem dX6_redWithout_15 : decode cX6_redWithout 15 = .ok (.ireturn, 1) := by decide +kernel
theorem dX6_redWithout_16 : decode cX6_redWithout 16 = .ok (.aload_n 0, 1) := by decide +kernel
theorem dX6_redWithout_17 : decode cX6_redWithout 17 = .ok (.aload_n 0, 1) := by decide +kernel
theorem dX6_redWithout_18 : decode cX6_redWithout 18 = .ok (.getfield 71, 3) := by decide +kernel
theorem dX6_redWithout_21 : decode cX6_redWithout 21 = .ok (.iload_n 1, 1) := by decide +kernel
theorem dX6_redWithout_22 : decode cX6_redWithout 22 = .ok (.invokevirtual 161, 3) := by decide +kernel
theorem dX6_redWithout_25 : decode cX6_redWithout 25 = .ok (.aload_n 0, 1) := by decide +kernel
theorem dX6_redWithout_26 : decode cX6_redWithout 26 = .ok (.invokevirtual 124, 3) := by decide +kernel
theorem dX6_redWithout_29 : decode cX6_redWithout 29 = .ok (.istore_n 2, 1) := by decide +kernel
theorem dX6_redWithout_30 : decode cX6_redWithout 30 = .ok (.aload_n 0, 1) := by decide +kernel
theorem dX6_redWithout_31 : decode cX6_redWithout 31 = .ok (.aload_n 0, 1) := by decide +kernel
theorem dX6_redWithout_32 : decode cX6_redWithout 32 = .ok (.getfield 71, 3) := by decide +kernel
theorem dX6_redWithout_35 : decode cX6_redWithout 35 = .ok (.iconst (-1), 1) := by decide +kernel
theorem dX6_redWithout_36 : decode cX6_redWithout 36 = .ok (.invokevirtual 161, 3) := by decide +kernel
theorem dX6_redWithout_39 : decode cX6_redWithout 39 = .ok (.iload_n 2, 1) := by decide +kernel
theorem dX6_redWithout_40 : decode cX6_redWithout 40 = .ok (.ireturn, 1) := by decide +kernel
theorem dX6_idle_0 : decode cX6_idle 0 = .ok (.aload_n 0, 1) := by decide +kernel
theorem dX6_idle_1 : decode cX6_idle 1 = .ok (.iconst 0, 1) := by decide +kernel
theorem dX6_idle_2 : decode cX6_idle 2 = .ok (.putfield 31, 3) := by decide +kernel
theorem dX6_idle_5 : decode cX6_idle 5 = .ok (.aload_n 0, 1) := by decide +kernel
theorem dX6_idle_6 : decode cX6_idle 6 = .ok (.invokevirtual 118, 3) := by decide +kernel
theorem dX6_idle_9 : decode cX6_idle 9 = .ok (.iconst 0, 1) := by decide +kernel
theorem dX6_idle_10 : decode cX6_idle 10 = .ok (.istore_n 1, 1) := by decide +kernel
theorem dX6_idle_11 : decode cX6_idle 11 = .ok (.iload_n 1, 1) := by decide +kernel
theorem dX6_idle_12 : decode cX6_idle 12 = .ok (.bipush 10, 2) := by decide +kernel
theorem dX6_idle_14 : decode cX6_idle 14 = .ok (.if_icmp .ge 21, 3) := by decide +kernel
theorem dX6_idle_17 : decode cX6_idle 17 = .ok (.aload_n 0, 1) := by decide +kernel
theorem dX6_idle_18 : decode cX6_idle 18 = .ok (.getfield 22, 3) := by decide +kernel
theorem dX6_idle_21 : decode cX6_idle 21 = .ok (.iload_n 1, 1) := by decide +kernel
theorem dX6_idle_22 : decode cX6_idle 22 = .ok (.aload_n 0, 1) := by decide +kernel
theorem dX6_idle_23 : decode cX6_idle 23 = .ok (.getfield 19, 3) := by decide +kernel
theorem dX6_idle_26 : decode cX6_idle 26 = .ok (.iload_n 1, 1) := by decide +kernel
theorem dX6_idle_27 : decode cX6_idle 27 = .ok (.iaload, 1) := by decide +kernel
theorem dX6_idle_28 : decode cX6_idle 28 = .ok (.iastore, 1) := by decide +kernel
theorem dX6_idle_29 : decode cX6_idle 29 = .ok (.iinc 1 1, 3) := by decide +kernel
theorem dX6_idle_32 : decode cX6_idle 32 = .ok (.goto (-21), 3) := by decide +kernel
theorem dX6_idle_35 : decode cX6_idle 35 = .ok (.iconst 0, 1) := by decide +kernel
theorem dX6_idle_36 : decode cX6_idle 36 = .ok (.istore_n 1, 1) := by decide +kernel
theorem dX6_idle_37 : decode cX6_idle 37 = .ok (.iconst 0, 1) := by decide +kernel
theorem dX6_idle_38 : decode cX6_idle 38 = .ok (.istore_n 2, 1) := by decide +kernel
theorem dX6_idle_39 : decode cX6_idle 39 = .ok (.iload_n 2, 1) := by decide +kernel
theorem dX6_idle_40 : decode cX6_idle 40 = .ok (.aload_n 0, 1) := by decide +kernel
theorem dX6_idle_41 : decode cX6_idle 41 = .ok (.getfield 68, 3) := by decide +kernel
theorem dX6_idle_44 : decode cX6_idle 44 = .ok (.if_icmp .ge 79, 3) := by decide +kernel
theorem dX6_idle_47 : decode cX6_idle 47 = .ok (.aload_n 0, 1) := by decide +kernel
theorem dX6_idle_48 : decode cX6_idle 48 = .ok (.aload_n 0, 1) := by decide +kernel
theorem dX6_idle_49 : decode cX6_idle 49 = .ok (.getfield 71, 3) := by decide +kernel
theorem dX6_idle_52 : decode cX6_idle 52 = .ok (.iload_n 2, 1) := by decide +kernel
theorem dX6_idle_53 : decode cX6_idle 53 = .ok (.invokevirtual 161, 3) := by decide +kernel
theorem dX6_idle_56 : decode cX6_idle 56 = .ok (.aload_n 0, 1) := by decide +kernel
theorem dX6_idle_57 : decode cX6_idle 57 = .ok (.invokevirtual 118, 3) := by decide +kernel
theorem dX6_idle_60 : decode cX6_idle 60 = .ok (.iconst 1, 1) := by decide +kernel
theorem dX6_idle_61 : decode cX6_idle 61 = .ok (.istore_n 3, 1) := by decide +kernel
theorem dX6_idle_62 : decode cX6_idle 62 = .ok (.iconst 0, 1) := by decide +kernel
theorem dX6_idle_63 : decode cX6_idle 63 = .ok (.istore 4, 2) := by decide +kernel
theorem dX6_idle_65 : decode cX6_idle 65 = .ok (.iload 4, 2) := by decide +kernel
theorem dX6_idle_67 : decode cX6_idle 67 = .ok (.bipush 10, 2) := by decide +kernel
theorem dX6_idle_69 : decode cX6_idle 69 = .ok (.if_icmp .ge 36, 3) := by decide +kernel
theorem dX6_idle_72 : decode cX6_idle 72 = .ok (.iload_n 3, 1) := by decide +kernel
theorem dX6_idle_73 : decode cX6_idle 73 = .ok (.ifCond .eq 24, 3) := by decide +kernel
theorem dX6_idle_76 : decode cX6_idle 76 = .ok (.aload_n 0, 1) := by decide +kernel
theorem dX6_idle_77 : decode cX6_idle 77 = .ok (.getfield 19, 3) := by decide +kernel
theorem dX6_idle_80 : decode cX6_idle 80 = .ok (.iload 4, 2) := by decide +kernel
theorem dX6_idle_82 : decode cX6_idle 82 = .ok (.iaload, 1) := by decide +kernel
theorem dX6_idle_83 : decode cX6_idle 83 = .ok (.aload_n 0, 1) := by decide +kernel
theorem dX6_idle_84 : decode cX6_idle 84 = .ok (.getfield 22, 3) := by decide +kernel
theorem dX6_idle_87 : decode cX6_idle 87 = .ok (.iload 4, 2) := by decide +kernel
theorem dX6_idle_89 : decode cX6_idle 89 = .ok (.iaload, 1) := by decide +kernel
theorem dX6_idle_90 : decode cX6_idle 90 = .ok (.if_icmp .ne 7, 3) := by decide +kernel
theorem dX6_idle_93 : decode cX6_idle 93 = .ok (.iconst 1, 1) := by decide +kernel
theorem dX6_idle_94 : decode cX6_idle 94 = .ok (.goto 4, 3) := by decide +kernel
theorem dX6_idle_97 : decode cX6_idle 97 = .ok (.iconst 0, 1) := by decide +kernel
theorem dX6_idle_98 : decode cX6_idle 98 = .ok (.istore_n 3, 1) := by decide +kernel
theorem dX6_idle_99 : decode cX6_idle 99 = .ok (.iinc 4 1, 3) := by decide +kernel
theorem dX6_idle_102 : decode cX6_idle 102 = .ok (.goto (-37), 3) := by decide +kernel
theorem dX6_idle_105 : decode cX6_idle 105 = .ok (.iload_n 1, 1) := by decide +kernel
theorem dX6_idle_106 : decode cX6_idle 106 = .ok (.iload_n 3, 1) := by decide +kernel
theorem dX6_idle_107 : decode cX6_idle 107 = .ok (.ifCond .eq 7, 3) := by decide +kernel
theorem dX6_idle_110 : decode cX6_idle 110 = .ok (.iconst 1, 1) := by decide +kernel
theorem dX6_idle_111 : decode cX6_idle 111 = .ok (.goto 4, 3) := by decide +kernel
theorem dX6_idle_114 : decode cX6_idle 114 = .ok (.iconst 0, 1) := by decide +kernel
theorem dX6_idle_115 : decode cX6_idle 115 = .ok (.iadd, 1) := by decide +kernel
theorem dX6_idle_116 : decode cX6_idle 116 = .ok (.istore_n 1, 1) := by decide +kernel
theorem dX6_idle_117 : decode cX6_idle 117 = .ok (.iinc 2 1, 3) := by decide +kernel
theorem dX6_idle_120 : decode cX6_idle 120 = .ok (.goto (-81), 3) := by decide +kernel
theorem dX6_idle_123 : decode cX6_idle 123 = .ok (.aload_n 0, 1) := by decide +kernel
theorem dX6_idle_124 : decode cX6_idle 124 = .ok (.aload_n 0, 1) := by decide +kernel
theorem dX6_idle_125 : decode cX6_idle 125 = .ok (.getfield 71, 3) := by decide +kernel
theorem dX6_idle_128 : decode cX6_idle 128 = .ok (.iconst (-1), 1) := by decide +kernel
theorem dX6_idle_129 : decode cX6_idle 129 = .ok (.invokevirtual 161, 3) := by decide +kernel
theorem dX6_idle_132 : decode cX6_idle 132 = .ok (.iload_n 1, 1) := by decide +kernel
theorem dX6_idle_133 : decode cX6_idle 133 = .ok (.ireturn, 1) := by decide +kernel
theorem dX6_append_0 : decode cX6_append 0 = .ok (.aload_n 0, 1) := by decide +kernel
theorem dX6_append_1 : decode cX6_append 1 = .ok (.iload_n 1, 1) := by decide +kernel
theorem dX6_append_2 : decode cX6_append 2 = .ok (.i2l, 1) := by decide +kernel
theorem dX6_append_3 : decode cX6_append 3 = .ok (.lconst 0, 1) := by decide +kernel
theorem dX6_append_4 : decode cX6_append 4 = .ok (.ldc2_w 182, 3) := by decide +kernel
theorem dX6_append_7 : decode cX6_append 7 = .ok (.invokestatic 37, 3) := by decide +kernel
theorem dX6_append_10 : decode cX6_append 10 = .ok (.aload_n 0, 1) := by decide +kernel
theorem dX6_append_11 : decode cX6_append 11 = .ok (.getfield 184, 3) := by decide +kernel
theorem dX6_append_14 : decode cX6_append 14 = .ok (.bipush 120, 2) := by decide +kernel
theorem dX6_append_16 : decode cX6_append 16 = .ok (.if_icmp .ge 7, 3) := by decide +kernel
theorem dX6_append_19 : decode cX6_append 19 = .ok (.iconst 1, 1) := by decide +kernel
theorem dX6_append_20 : decode cX6_append 20 = .ok (.goto 4, 3) := by decide +kernel
theorem dX6_append_23 : decode cX6_append 23 = .ok (.iconst 0, 1) := by decide +kernel
theorem dX6_append_24 : decode cX6_append 24 = .ok (.iconst 1, 1) := by decide +kernel
theorem dX6_append_25 : decode cX6_append 25 = .ok (.invokevirtual 84, 3) := by decide +kernel
theorem dX6_append_28 : decode cX6_append 28 = .ok (.ifCond .ne 5, 3) := by decide +kernel
theorem dX6_append_31 : decode cX6_append 31 = .ok (.iconst 0, 1) := by decide +kernel
theorem dX6_append_32 : decode cX6_append 32 = .ok (.ireturn, 1) := by decide +kernel
theorem dX6_append_33 : decode cX6_append 33 = .ok (.aload_n 0, 1) := by decide +kernel
theorem dX6_append_34 : decode cX6_append 34 = .ok (.getfield 25, 3) := by decide +kernel
theorem dX6_append_37 : decode cX6_append 37 = .ok (.aload_n 0, 1) := by decide +kernel
theorem dX6_append_38 : decode cX6_append 38 = .ok (.getfield 184, 3) := by decide +kernel
theorem dX6_append_41 : decode cX6_append 41 = .ok (.iload_n 1, 1) := by decide +kernel
theorem dX6_append_42 : decode cX6_append 42 = .ok (.iastore, 1) := by decide +kernel
theorem dX6_append_43 : decode cX6_append 43 = .ok (.aload_n 0, 1) := by decide +kernel
theorem dX6_append_44 : decode cX6_append 44 = .ok (.dup, 1) := by decide +kernel
theorem dX6_append_45 : decode cX6_append 45 = .ok (.getfield 184, 3) := by decide +kernel
theorem dX6_append_48 : decode cX6_append 48 = .ok (.iconst 1, 1) := by decide +kernel
theorem dX6_append_49 : decode cX6_append 49 = .ok (.iadd, 1) := by decide +kernel
theorem dX6_append_50 : decode cX6_append 50 = .ok (.putfield 184, 3) := by decide +kernel
theorem dX6_append_53 : decode cX6_append 53 = .ok (.aload_n 0, 1) := by decide +kernel
theorem dX6_append_54 : decode cX6_append 54 = .ok (.getfield 184, 3) := by decide +kernel
theorem dX6_append_57 : decode cX6_append 57 = .ok (.ireturn, 1) := by decide +kernel
theorem dX6_clearText_0 : decode cX6_clearText 0 = .ok (.aload_n 0, 1) := by decide +kernel
theorem dX6_clearText_1 : decode cX6_clearText 1 = .ok (.iconst 0, 1) := by decide +kernel
theorem dX6_clearText_2 : decode cX6_clearText 2 = .ok (.putfield 31, 3) := by decide +kernel
theorem dX6_clearText_5 : decode cX6_clearText 5 = .ok (.aload_n 0, 1) := by decide +kernel
theorem dX6_clearText_6 : decode cX6_clearText 6 = .ok (.getfield 184, 3) := by decide +kernel
theorem dX6_clearText_9 : decode cX6_clearText 9 = .ok (.istore_n 1, 1) := by decide +kernel
theorem dX6_clearText_10 : decode cX6_clearText 10 = .ok (.aload_n 0, 1) := by decide +kernel
theorem dX6_clearText_11 : decode cX6_clearText 11 = .ok (.iconst 0, 1) := by decide +kernel
theorem dX6_clearText_12 : decode cX6_clearText 12 = .ok (.putfield 184, 3) := by decide +kernel
theorem dX6_clearText_15 : decode cX6_clearText 15 = .ok (.iload_n 1, 1) := by decide +kernel
theorem dX6_clearText_16 : decode cX6_clearText 16 = .ok (.ireturn, 1) := by decide +kernel
theorem dX6_here_0 : decode cX6_here 0 = .ok (.aload_n 0, 1) := by decide +kernel
theorem dX6_here_1 : decode cX6_here 1 = .ok (.getfield 187, 3) := by decide +kernel
theorem dX6_here_4 : decode cX6_here 4 = .ok (.aload_n 0, 1) := by decide +kernel
theorem dX6_here_5 : decode cX6_here 5 = .ok (.getfield 184, 3) := by decide +kernel
theorem dX6_here_8 : decode cX6_here 8 = .ok (.if_icmp .ge 15, 3) := by decide +kernel
theorem dX6_here_11 : decode cX6_here 11 = .ok (.aload_n 0, 1) := by decide +kernel
theorem dX6_here_12 : decode cX6_here 12 = .ok (.getfield 25, 3) := by decide +kernel
theorem dX6_here_15 : decode cX6_here 15 = .ok (.aload_n 0, 1) := by decide +kernel
theorem dX6_here_16 : decode cX6_here 16 = .ok (.getfield 187, 3) := by decide +kernel
theorem dX6_here_19 : decode cX6_here 19 = .ok (.iaload, 1) := by decide +kernel
theorem dX6_here_20 : decode cX6_here 20 = .ok (.goto 4, 3) := by decide +kernel
theorem dX6_here_23 : decode cX6_here 23 = .ok (.iconst (-1), 1) := by decide +kernel
theorem dX6_here_24 : decode cX6_here 24 = .ok (.ireturn, 1) := by decide +kernel
theorem dX6_passesByte_0 : decode cX6_passesByte 0 = .ok (.aload_n 0, 1) := by decide +kernel
theorem dX6_passesByte_1 : decode cX6_passesByte 1 = .ok (.invokevirtual 190, 3) := by decide +kernel
theorem dX6_passesByte_4 : decode cX6_passesByte 4 = .ok (.iload_n 1, 1) := by decide +kernel
theorem dX6_passesByte_5 : decode cX6_passesByte 5 = .ok (.if_icmp .ne 7, 3) := by decide +kernel
theorem dX6_passesByte_8 : decode cX6_passesByte 8 = .ok (.iconst 1, 1) := by decide +kernel
theorem dX6_passesByte_9 : decode cX6_passesByte 9 = .ok (.goto 4, 3) := by decide +kernel
theorem dX6_passesByte_12 : decode cX6_passesByte 12 = .ok (.iconst 0, 1) := by decide +kernel
theorem dX6_passesByte_13 : decode cX6_passesByte 13 = .ok (.istore_n 2, 1) := by decide +kernel
theorem dX6_passesByte_14 : decode cX6_passesByte 14 = .ok (.aload_n 0, 1) := by decide +kernel
theorem dX6_passesByte_15 : decode cX6_passesByte 15 = .ok (.dup, 1) := by decide +kernel
theorem dX6_passesByte_16 : decode cX6_passesByte 16 = .ok (.getfield 187, 3) := by decide +kernel
theorem dX6_passesByte_19 : decode cX6_passesByte 19 = .ok (.iload_n 2, 1) := by decide +kernel
theorem dX6_passesByte_20 : decode cX6_passesByte 20 = .ok (.ifCond .eq 7, 3) := by decide +kernel
theorem dX6_passesByte_23 : decode cX6_passesByte 23 = .ok (.iconst 1, 1) := by decide +kernel
theorem dX6_passesByte_24 : decode cX6_passesByte 24 = .ok (.goto 4, 3) := by decide +kernel
theorem dX6_passesByte_27 : decode cX6_passesByte 27 = .ok (.iconst 0, 1) := by decide +kernel
theorem dX6_passesByte_28 : decode cX6_passesByte 28 = .ok (.iadd, 1) := by decide +kernel
theorem dX6_passesByte_29 : decode cX6_passesByte 29 = .ok (.putfield 187, 3) := by decide +kernel
theorem dX6_passesByte_32 : decode cX6_passesByte 32 = .ok (.iload_n 2, 1) := by decide +kernel
theorem dX6_passesByte_33 : decode cX6_passesByte 33 = .ok (.ireturn, 1) := by decide +kernel
theorem dX6_figure_0 : decode cX6_figure 0 = .ok (.aload_n 0, 1) := by decide +kernel
theorem dX6_figure_1 : decode cX6_figure 1 = .ok (.invokevirtual 190, 3) := by decide +kernel
theorem dX6_figure_4 : decode cX6_figure 4 = .ok (.i2l, 1) := by decide +kernel
theorem dX6_figure_5 : decode cX6_figure 5 = .ok (.ldc2_w 193, 3) := by decide +kernel
theorem dX6_figure_8 : decode cX6_figure 8 = .ok (.bipush 48, 2) := by decide +kernel
theorem dX6_figure_10 : decode cX6_figure 10 = .ok (.iload_n 1, 1) := by decide +kernel
theorem dX6_figure_11 : decode cX6_figure 11 = .ok (.iadd, 1) := by decide +kernel
theorem dX6_figure_12 : decode cX6_figure 12 = .ok (.i2l, 1) := by decide +kernel
theorem dX6_figure_13 : decode cX6_figure 13 = .ok (.invokestatic 37, 3) := by decide +kernel
theorem dX6_figure_16 : decode cX6_figure 16 = .ok (.istore_n 2, 1) := by decide +kernel
theorem dX6_figure_17 : decode cX6_figure 17 = .ok (.iload_n 2, 1) := by decide +kernel
theorem dX6_figure_18 : decode cX6_figure 18 = .ok (.ifCond .eq 13, 3) := by decide +kernel
theorem dX6_figure_21 : decode cX6_figure 21 = .ok (.aload_n 0, 1) := by decide +kernel
theorem dX6_figure_22 : decode cX6_figure 22 = .ok (.invokevirtual 190, 3) := by decide +kernel
theorem dX6_figure_25 : decode cX6_figure 25 = .ok (.bipush 48, 2) := by decide +kernel
theorem dX6_figure_27 : decode cX6_figure 27 = .ok (.isub, 1) := by decide +kernel
theorem dX6_figure_28 : decode cX6_figure 28 = .ok (.goto 4, 3) := by decide +kernel
theorem dX6_figure_31 : decode cX6_figure 31 = .ok (.iconst (-1), 1) := by decide +kernel
theorem dX6_figure_32 : decode cX6_figure 32 = .ok (.istore_n 3, 1) := by decide +kernel
theorem dX6_figure_33 : decode cX6_figure 33 = .ok (.aload_n 0, 1) := by decide +kernel
theorem dX6_figure_34 : decode cX6_figure 34 = .ok (.dup, 1) := by decide +kernel
theorem dX6_figure_35 : decode cX6_figure 35 = .ok (.getfield 187, 3) := by decide +kernel
theorem dX6_figure_38 : decode cX6_figure 38 = .ok (.iload_n 2, 1) := by decide +kernel
theorem dX6_figure_39 : decode cX6_figure 39 = .ok (.ifCond .eq 7, 3) := by decide +kernel
theorem dX6_figure_42 : decode cX6_figure 42 = .ok (.iconst 1, 1) := by decide +kernel
theorem dX6_figure_43 : decode cX6_figure 43 = .ok (.goto 4, 3) := by decide +kernel
theorem dX6_figure_46 : decode cX6_figure 46 = .ok (.iconst 0, 1) := by decide +kernel
theorem dX6_figure_47 : decode cX6_figure 47 = .ok (.iadd, 1) := by decide +kernel
theorem dX6_figure_48 : decode cX6_figure 48 = .ok (.putfield 187, 3) := by decide +kernel
theorem dX6_figure_51 : decode cX6_figure 51 = .ok (.iload_n 3, 1) := by decide +kernel
theorem dX6_figure_52 : decode cX6_figure 52 = .ok (.ireturn, 1) := by decide +kernel
theorem dX6_reads_0 : decode cX6_reads 0 = .ok (.aload_n 0, 1) := by decide +kernel
theorem dX6_reads_1 : decode cX6_reads 1 = .ok (.getfield 187, 3) := by decide +kernel
theorem dX6_reads_4 : decode cX6_reads 4 = .ok (.istore 4, 2) := by decide +kernel
theorem dX6_reads_6 : decode cX6_reads 6 = .ok (.aload_n 0, 1) := by decide +kernel
theorem dX6_reads_7 : decode cX6_reads 7 = .ok (.iconst 0, 1) := by decide +kernel
theorem dX6_reads_8 : decode cX6_reads 8 = .ok (.putfield 195, 3) := by decide +kernel
theorem dX6_reads_11 : decode cX6_reads 11 = .ok (.aload_n 0, 1) := by decide +kernel
theorem dX6_reads_12 : decode cX6_reads 12 = .ok (.invokevirtual 190, 3) := by decide +kernel
theorem dX6_reads_15 : decode cX6_reads 15 = .ok (.i2l, 1) := by decide +kernel
theorem dX6_reads_16 : decode cX6_reads 16 = .ok (.ldc2_w 193, 3) := by decide +kernel
theorem dX6_reads_19 : decode cX6_reads 19 = .ok (.ldc2_w 198, 3) := by decide +kernel
theorem dX6_reads_22 : decode cX6_reads 22 = .ok (.invokestatic 37, 3) := by decide +kernel
theorem dX6_reads_25 : decode cX6_reads 25 = .ok (.ifCond .eq 46, 3) := by decide +kernel
theorem dX6_reads_28 : decode cX6_reads 28 = .ok (.aload_n 0, 1) := by decide +kernel
theorem dX6_reads_29 : decode cX6_reads 29 = .ok (.getfield 187, 3) := by decide +kernel
theorem dX6_reads_32 : decode cX6_reads 32 = .ok (.iload 4, 2) := by decide +kernel
theorem dX6_reads_34 : decode cX6_reads 34 = .ok (.iload_n 1, 1) := by decide +kernel
theorem dX6_reads_35 : decode cX6_reads 35 = .ok (.iadd, 1) := by decide +kernel
theorem dX6_reads_36 : decode cX6_reads 36 = .ok (.if_icmp .ge 35, 3) := by decide +kernel
theorem dX6_reads_39 : decode cX6_reads 39 = .ok (.aload_n 0, 1) := by decide +kernel
theorem dX6_reads_40 : decode cX6_reads 40 = .ok (.bipush 10, 2) := by decide +kernel
theorem dX6_reads_42 : decode cX6_reads 42 = .ok (.aload_n 0, 1) := by decide +kernel
theorem dX6_reads_43 : decode cX6_reads 43 = .ok (.getfield 195, 3) := by decide +kernel
theorem dX6_reads_46 : decode cX6_reads 46 = .ok (.imul, 1) := by decide +kernel
theorem dX6_reads_47 : decode cX6_reads 47 = .ok (.aload_n 0, 1) := by decide +kernel
theorem dX6_reads_48 : decode cX6_reads 48 = .ok (.invokevirtual 190, 3) := by decide +kernel
theorem dX6_reads_51 : decode cX6_reads 51 = .ok (.iadd, 1) := by decide +kernel
theorem dX6_reads_52 : decode cX6_reads 52 = .ok (.bipush 48, 2) := by decide +kernel
theorem dX6_reads_54 : decode cX6_reads 54 = .ok (.isub, 1) := by decide +kernel
theorem dX6_reads_55 : decode cX6_reads 55 = .ok (.putfield 195, 3) := by decide +kernel
theorem dX6_reads_58 : decode cX6_reads 58 = .ok (.aload_n 0, 1) := by decide +kernel
theorem dX6_reads_59 : decode cX6_reads 59 = .ok (.dup, 1) := by decide +kernel
theorem dX6_reads_60 : decode cX6_reads 60 = .ok (.getfield 187, 3) := by decide +kernel
theorem dX6_reads_63 : decode cX6_reads 63 = .ok (.iconst 1, 1) := by decide +kernel
theorem dX6_reads_64 : decode cX6_reads 64 = .ok (.iadd, 1) := by decide +kernel
theorem dX6_reads_65 : decode cX6_reads 65 = .ok (.putfield 187, 3) := by decide +kernel
theorem dX6_reads_68 : decode cX6_reads 68 = .ok (.goto (-57), 3) := by decide +kernel
theorem dX6_reads_71 : decode cX6_reads 71 = .ok (.aload_n 0, 1) := by decide +kernel
theorem dX6_reads_72 : decode cX6_reads 72 = .ok (.getfield 187, 3) := by decide +kernel
theorem dX6_reads_75 : decode cX6_reads 75 = .ok (.iload 4, 2) := by decide +kernel
theorem dX6_reads_77 : decode cX6_reads 77 = .ok (.if_icmp .eq 20, 3) := by decide +kernel
theorem dX6_reads_80 : decode cX6_reads 80 = .ok (.aload_n 0, 1) := by decide +kernel
theorem dX6_reads_81 : decode cX6_reads 81 = .ok (.invokevirtual 190, 3) := by decide +kernel
theorem dX6_reads_84 : decode cX6_reads 84 = .ok (.i2l, 1) := by decide +kernel
theorem dX6_reads_85 : decode cX6_reads 85 = .ok (.ldc2_w 193, 3) := by decide +kernel
theorem dX6_reads_88 : decode cX6_reads 88 = .ok (.ldc2_w 198, 3) := by decide +kernel
theorem dX6_reads_91 : decode cX6_reads 91 = .ok (.invokestatic 37, 3) := by decide +kernel
theorem dX6_reads_94 : decode cX6_reads 94 = .ok (.ifCond .eq 5, 3) := by decide +kernel
theorem dX6_reads_97 : decode cX6_reads 97 = .ok (.iconst 0, 1) := by decide +kernel
theorem dX6_reads_98 : decode cX6_reads 98 = .ok (.ireturn, 1) := by decide +kernel
theorem dX6_reads_99 : decode cX6_reads 99 = .ok (.aload_n 0, 1) := by decide +kernel
theorem dX6_reads_100 : decode cX6_reads 100 = .ok (.getfield 195, 3) := by decide +kernel
theorem dX6_reads_103 : decode cX6_reads 103 = .ok (.i2l, 1) := by decide +kernel
theorem dX6_reads_104 : decode cX6_reads 104 = .ok (.iload_n 2, 1) := by decide +kernel
theorem dX6_reads_105 : decode cX6_reads 105 = .ok (.i2l, 1) := by decide +kernel
theorem dX6_reads_106 : decode cX6_reads 106 = .ok (.iload_n 3, 1) := by decide +kernel
theorem dX6_reads_107 : decode cX6_reads 107 = .ok (.i2l, 1) := by decide +kernel
theorem dX6_reads_108 : decode cX6_reads 108 = .ok (.invokestatic 37, 3) := by decide +kernel
theorem dX6_reads_111 : decode cX6_reads 111 = .ok (.istore 5, 2) := by decide +kernel
theorem dX6_reads_113 : decode cX6_reads 113 = .ok (.aload_n 0, 1) := by decide +kernel
theorem dX6_reads_114 : decode cX6_reads 114 = .ok (.iload 5, 2) := by decide +kernel
theorem dX6_reads_116 : decode cX6_reads 116 = .ok (.ifCond .eq 10, 3) := by decide +kernel
theorem dX6_reads_119 : decode cX6_reads 119 = .ok (.aload_n 0, 1) := by decide +kernel
theorem dX6_reads_120 : decode cX6_reads 120 = .ok (.getfield 187, 3) := by decide +kernel
theorem dX6_reads_123 : decode cX6_reads 123 = .ok (.goto 5, 3) := by decide +kernel
theorem dX6_reads_126 : decode cX6_reads 126 = .ok (.iload 4, 2) := by decide +kernel
theorem dX6_reads_128 : decode cX6_reads 128 = .ok (.putfield 187, 3) := by decide +kernel
theorem dX6_reads_131 : decode cX6_reads 131 = .ok (.iload 5, 2) := by decide +kernel
theorem dX6_reads_133 : decode cX6_reads 133 = .ok (.ireturn, 1) := by decide +kernel
theorem dX6_readsOrder_0 : decode cX6_readsOrder 0 = .ok (.aload_n 0, 1) := by decide +kernel
theorem dX6_readsOrder_1 : decode cX6_readsOrder 1 = .ok (.aload_n 0, 1) := by decide +kernel
theorem dX6_readsOrder_2 : decode cX6_readsOrder 2 = .ok (.invokevirtual 190, 3) := by decide +kernel
theorem dX6_readsOrder_5 : decode cX6_readsOrder 5 = .ok (.putfield 200, 3) := by decide +kernel
theorem dX6_readsOrder_8 : decode cX6_readsOrder 8 = .ok (.aload_n 0, 1) := by decide +kernel
theorem dX6_readsOrder_9 : decode cX6_readsOrder 9 = .ok (.dup, 1) := by decide +kernel
theorem dX6_readsOrder_10 : decode cX6_readsOrder 10 = .ok (.getfield 187, 3) := by decide +kernel
theorem dX6_readsOrder_13 : decode cX6_readsOrder 13 = .ok (.iconst 1, 1) := by decide +kernel
theorem dX6_readsOrder_14 : decode cX6_readsOrder 14 = .ok (.iadd, 1) := by decide +kernel
theorem dX6_readsOrder_15 : decode cX6_readsOrder 15 = .ok (.putfield 187, 3) := by decide +kernel
theorem dX6_readsOrder_18 : decode cX6_readsOrder 18 = .ok (.aload_n 0, 1) := by decide +kernel
theorem dX6_readsOrder_19 : decode cX6_readsOrder 19 = .ok (.iconst 0, 1) := by decide +kernel
theorem dX6_readsOrder_20 : decode cX6_readsOrder 20 = .ok (.putfield 203, 3) := by decide +kernel
theorem dX6_readsOrder_23 : decode cX6_readsOrder 23 = .ok (.iconst 1, 1) := by decide +kernel
theorem dX6_readsOrder_24 : decode cX6_readsOrder 24 = .ok (.istore_n 1, 1) := by decide +kernel
theorem dX6_readsOrder_25 : decode cX6_readsOrder 25 = .ok (.aload_n 0, 1) := by decide +kernel
theorem dX6_readsOrder_26 : decode cX6_readsOrder 26 = .ok (.getfield 200, 3) := by decide +kernel
theorem dX6_readsOrder_29 : decode cX6_readsOrder 29 = .ok (.tableswitch 227 97 119 #[224, 198, 224, 227, 227, 227, 227, 227, 227, 227, 134, 227, 227, 171, 227, 107, 227, 227, 227, 227, 227, 107, 211], 107) := by decide +kernel
theorem dX6_readsOrder_136 : decode cX6_readsOrder 136 = .ok (.aload_n 0, 1) := by decide +kernel
theorem dX6_readsOrder_137 : decode cX6_readsOrder 137 = .ok (.aload_n 0, 1) := by decide +kernel
theorem dX6_readsOrder_138 : decode cX6_readsOrder 138 = .ok (.bipush 9, 2) := by decide +kernel
theorem dX6_readsOrder_140 : decode cX6_readsOrder 140 = .ok (.invokevirtual 206, 3) := by decide +kernel
theorem dX6_readsOrder_143 : decode cX6_readsOrder 143 = .ok (.putfield 203, 3) := by decide +kernel
theorem dX6_readsOrder_146 : decode cX6_readsOrder 146 = .ok (.aload_n 0, 1) := by decide +kernel
theorem dX6_readsOrder_147 : decode cX6_readsOrder 147 = .ok (.getfield 203, 3) := by decide +kernel
theorem dX6_readsOrder_150 : decode cX6_readsOrder 150 = .ok (.iconst (-1), 1) := by decide +kernel
theorem dX6_readsOrder_151 : decode cX6_readsOrder 151 = .ok (.if_icmp .eq 7, 3) := by decide +kernel
theorem dX6_readsOrder_154 : decode cX6_readsOrder 154 = .ok (.iconst 1, 1) := by decide +kernel
theorem dX6_readsOrder_155 : decode cX6_readsOrder 155 = .ok (.goto 4, 3) := by decide +kernel
theorem dX6_readsOrder_158 : decode cX6_readsOrder 158 = .ok (.iconst 0, 1) := by decide +kernel
theorem dX6_readsOrder_159 : decode cX6_readsOrder 159 = .ok (.istore_n 1, 1) := by decide +kernel
theorem dX6_readsOrder_160 : decode cX6_readsOrder 160 = .ok (.goto 108, 3) := by decide +kernel
theorem dX6_readsOrder_163 : decode cX6_readsOrder 163 = .ok (.aload_n 0, 1) := by decide +kernel
theorem dX6_readsOrder_164 : decode cX6_readsOrder 164 = .ok (.aload_n 0, 1) := by decide +kernel
theorem dX6_readsOrder_165 : decode cX6_readsOrder 165 = .ok (.iconst 2, 1) := by decide +kernel
theorem dX6_readsOrder_166 : decode cX6_readsOrder 166 = .ok (.invokevirtual 206, 3) := by decide +kernel
theorem dX6_readsOrder_169 : decode cX6_readsOrder 169 = .ok (.putfield 203, 3) := by decide +kernel
theorem dX6_readsOrder_172 : decode cX6_readsOrder 172 = .ok (.aload_n 0, 1) := by decide +kernel
theorem dX6_readsOrder_173 : decode cX6_readsOrder 173 = .ok (.getfield 203, 3) := by decide +kernel
theorem dX6_readsOrder_176 : decode cX6_readsOrder 176 = .ok (.iconst (-1), 1) := by decide +kernel
theorem dX6_readsOrder_177 : decode cX6_readsOrder 177 = .ok (.if_icmp .eq 18, 3) := by decide +kernel
theorem dX6_readsOrder_180 : decode cX6_readsOrder 180 = .ok (.aload_n 0, 1) := by decide +kernel
theorem dX6_readsOrder_181 : decode cX6_readsOrder 181 = .ok (.iconst 3, 1) := by decide +kernel
theorem dX6_readsOrder_182 : decode cX6_readsOrder 182 = .ok (.iconst 1, 1) := by decide +kernel
theorem dX6_readsOrder_183 : decode cX6_readsOrder 183 = .ok (.bipush 100, 2) := by decide +kernel
theorem dX6_readsOrder_185 : decode cX6_readsOrder 185 = .ok (.invokevirtual 209, 3) := by decide +kernel
theorem dX6_readsOrder_188 : decode cX6_readsOrder 188 = .ok (.ifCond .eq 7, 3) := by decide +kernel
theorem dX6_readsOrder_191 : decode cX6_readsOrder 191 = .ok (.iconst 1, 1) := by decide +kernel
theorem dX6_readsOrder_192 : decode cX6_readsOrder 192 = .ok (.goto 4, 3) := by decide +kernel
theorem dX6_readsOrder_195 : decode cX6_readsOrder 195 = .ok (.iconst 0, 1) := by decide +kernel
theorem dX6_readsOrder_196 : decode cX6_readsOrder 196 = .ok (.istore_n 1, 1) := by decide +kernel
theorem dX6_readsOrder_197 : decode cX6_readsOrder 197 = .ok (.goto 71, 3) := by decide +kernel
theorem dX6_readsOrder_200 : decode cX6_readsOrder 200 = .ok (.aload_n 0, 1) := by decide +kernel
theorem dX6_readsOrder_201 : decode cX6_readsOrder 201 = .ok (.aload_n 0, 1) := by decide +kernel
theorem dX6_readsOrder_202 : decode cX6_readsOrder 202 = .ok (.bipush 7, 2) := by decide +kernel
theorem dX6_readsOrder_204 : decode cX6_readsOrder 204 = .ok (.invokevirtual 206, 3) := by decide +kernel
theorem dX6_readsOrder_207 : decode cX6_readsOrder 207 = .ok (.putfield 203, 3) := by decide +kernel
theorem dX6_readsOrder_210 : decode cX6_readsOrder 210 = .ok (.aload_n 0, 1) := by decide +kernel
theorem dX6_readsOrder_211 : decode cX6_readsOrder 211 = .ok (.getfield 203, 3) := by decide +kernel
theorem dX6_readsOrder_214 : decode cX6_readsOrder 214 = .ok (.iconst (-1), 1) := by decide +kernel
theorem dX6_readsOrder_215 : decode cX6_readsOrder 215 = .ok (.if_icmp .eq 7, 3) := by decide +kernel
theorem dX6_readsOrder_218 : decode cX6_readsOrder 218 = .ok (.iconst 1, 1) := by decide +kernel
theorem dX6_readsOrder_219 : decode cX6_readsOrder 219 = .ok (.goto 4, 3) := by decide +kernel
theorem dX6_readsOrder_222 : decode cX6_readsOrder 222 = .ok (.iconst 0, 1) := by decide +kernel
theorem dX6_readsOrder_223 : decode cX6_readsOrder 223 = .ok (.istore_n 1, 1) := by decide +kernel
theorem dX6_readsOrder_224 : decode cX6_readsOrder 224 = .ok (.goto 44, 3) := by decide +kernel
theorem dX6_readsOrder_227 : decode cX6_readsOrder 227 = .ok (.aload_n 0, 1) := by decide +kernel
theorem dX6_readsOrder_228 : decode cX6_readsOrder 228 = .ok (.iconst 4, 1) := by decide +kernel
theorem dX6_readsOrder_229 : decode cX6_readsOrder 229 = .ok (.iconst 0, 1) := by decide +kernel
theorem dX6_readsOrder_230 : decode cX6_readsOrder 230 = .ok (.sipush 1000, 3) := by decide +kernel
theorem dX6_readsOrder_233 : decode cX6_readsOrder 233 = .ok (.invokevirtual 209, 3) := by decide +kernel
theorem dX6_readsOrder_236 : decode cX6_readsOrder 236 = .ok (.istore_n 1, 1) := by decide +kernel
theorem dX6_readsOrder_237 : decode cX6_readsOrder 237 = .ok (.goto 31, 3) := by decide +kernel
theorem dX6_readsOrder_240 : decode cX6_readsOrder 240 = .ok (.aload_n 0, 1) := by decide +kernel
theorem dX6_readsOrder_241 : decode cX6_readsOrder 241 = .ok (.iconst 3, 1) := by decide +kernel
theorem dX6_readsOrder_242 : decode cX6_readsOrder 242 = .ok (.iconst 0, 1) := by decide +kernel
theorem dX6_readsOrder_243 : decode cX6_readsOrder 243 = .ok (.sipush 999, 3) := by decide +kernel
theorem dX6_readsOrder_246 : decode cX6_readsOrder 246 = .ok (.invokevirtual 209, 3) := by decide +kernel
theorem dX6_readsOrder_249 : decode cX6_readsOrder 249 = .ok (.istore_n 1, 1) := by decide +kernel
theorem dX6_readsOrder_250 : decode cX6_readsOrder 250 = .ok (.goto 18, 3) := by decide +kernel
theorem dX6_readsOrder_253 : decode cX6_readsOrder 253 = .ok (.goto 15, 3) := by decide +kernel
theorem dX6_readsOrder_256 : decode cX6_readsOrder 256 = .ok (.aload_n 0, 1) := by decide +kernel
theorem dX6_readsOrder_257 : decode cX6_readsOrder 257 = .ok (.dup, 1) := by decide +kernel
theorem dX6_readsOrder_258 : decode cX6_readsOrder 258 = .ok (.getfield 187, 3) := by decide +kernel
theorem dX6_readsOrder_261 : decode cX6_readsOrder 261 = .ok (.iconst 1, 1) := by decide +kernel
theorem dX6_readsOrder_262 : decode cX6_readsOrder 262 = .ok (.isub, 1) := by decide +kernel
theorem dX6_readsOrder_263 : decode cX6_readsOrder 263 = .ok (.putfield 187, 3) := by decide +kernel
theorem dX6_readsOrder_266 : decode cX6_readsOrder 266 = .ok (.iconst 0, 1) := by decide +kernel
theorem dX6_readsOrder_267 : decode cX6_readsOrder 267 = .ok (.istore_n 1, 1) := by decide +kernel
theorem dX6_readsOrder_268 : decode cX6_readsOrder 268 = .ok (.iload_n 1, 1) := by decide +kernel
theorem dX6_readsOrder_269 : decode cX6_readsOrder 269 = .ok (.ifCond .eq 16, 3) := by decide +kernel
theorem dX6_readsOrder_272 : decode cX6_readsOrder 272 = .ok (.aload_n 0, 1) := by decide +kernel
theorem dX6_readsOrder_273 : decode cX6_readsOrder 273 = .ok (.bipush 59, 2) := by decide +kernel
theorem dX6_readsOrder_275 : decode cX6_readsOrder 275 = .ok (.invokevirtual 213, 3) := by decide +kernel
theorem dX6_readsOrder_278 : decode cX6_readsOrder 278 = .ok (.ifCond .eq 7, 3) := by decide +kernel
theorem dX6_readsOrder_281 : decode cX6_readsOrder 281 = .ok (.iconst 1, 1) := by decide +kernel
theorem dX6_readsOrder_282 : decode cX6_readsOrder 282 = .ok (.goto 4, 3) := by decide +kernel
theorem dX6_readsOrder_285 : decode cX6_readsOrder 285 = .ok (.iconst 0, 1) := by decide +kernel
theorem dX6_readsOrder_286 : decode cX6_readsOrder 286 = .ok (.ireturn, 1) := by decide +kernel
theorem dX6_orders_0 : decode cX6_orders 0 = .ok (.iconst 0, 1) := by decide +kernel
theorem dX6_orders_1 : decode cX6_orders 1 = .ok (.istore_n 1, 1) := by decide +kernel
theorem dX6_orders_2 : decode cX6_orders 2 = .ok (.aload_n 0, 1) := by decide +kernel
theorem dX6_orders_3 : decode cX6_orders 3 = .ok (.getfield 200, 3) := by decide +kernel
theorem dX6_orders_6 : decode cX6_orders 6 = .ok (.tableswitch 182 97 118 #[162, 170, 154, 182, 182, 182, 182, 182, 182, 182, 126, 182, 182, 142, 182, 102, 182, 182, 182, 182, 182, 114], 102) := by decide +kernel
theorem dX6_orders_108 : decode cX6_orders 108 = .ok (.aload_n 0, 1) := by decide +kernel
theorem dX6_orders_109 : decode cX6_orders 109 = .ok (.aload_n 0, 1) := by decide +kernel
theorem dX6_orders_110 : decode cX6_orders 110 = .ok (.getfield 203, 3) := by decide +kernel
theorem dX6_orders_113 : decode cX6_orders 113 = .ok (.invokevirtual 216, 3) := by decide +kernel
theorem dX6_orders_116 : decode cX6_orders 116 = .ok (.istore_n 1, 1) := by decide +kernel
theorem dX6_orders_117 : decode cX6_orders 117 = .ok (.goto 80, 3) := by decide +kernel
theorem dX6_orders_120 : decode cX6_orders 120 = .ok (.aload_n 0, 1) := by decide +kernel
theorem dX6_orders_121 : decode cX6_orders 121 = .ok (.aload_n 0, 1) := by decide +kernel
theorem dX6_orders_122 : decode cX6_orders 122 = .ok (.getfield 203, 3) := by decide +kernel
theorem dX6_orders_125 : decode cX6_orders 125 = .ok (.invokevirtual 219, 3) := by decide +kernel
theorem dX6_orders_128 : decode cX6_orders 128 = .ok (.istore_n 1, 1) := by decide +kernel
theorem dX6_orders_129 : decode cX6_orders 129 = .ok (.goto 68, 3) := by decide +kernel
theorem dX6_orders_132 : decode cX6_orders 132 = .ok (.aload_n 0, 1) := by decide +kernel
theorem dX6_orders_133 : decode cX6_orders 133 = .ok (.aload_n 0, 1) := by decide +kernel
theorem dX6_orders_134 : decode cX6_orders 134 = .ok (.getfield 203, 3) := by decide +kernel
theorem dX6_orders_137 : decode cX6_orders 137 = .ok (.aload_n 0, 1) := by decide +kernel
theorem dX6_orders_138 : decode cX6_orders 138 = .ok (.getfield 195, 3) := by decide +kernel
theorem dX6_orders_141 : decode cX6_orders 141 = .ok (.invokevirtual 222, 3) := by decide +kernel
theorem dX6_orders_144 : decode cX6_orders 144 = .ok (.istore_n 1, 1) := by decide +kernel
theorem dX6_orders_145 : decode cX6_orders 145 = .ok (.goto 52, 3) := by decide +kernel
theorem dX6_orders_148 : decode cX6_orders 148 = .ok (.aload_n 0, 1) := by decide +kernel
theorem dX6_orders_149 : decode cX6_orders 149 = .ok (.aload_n 0, 1) := by decide +kernel
theorem dX6_orders_150 : decode cX6_orders 150 = .ok (.getfield 203, 3) := by decide +kernel
theorem dX6_orders_153 : decode cX6_orders 153 = .ok (.invokevirtual 225, 3) := by decide +kernel
theorem dX6_orders_156 : decode cX6_orders 156 = .ok (.istore_n 1, 1) := by decide +kernel
theorem dX6_orders_157 : decode cX6_orders 157 = .ok (.goto 40, 3) := by decide +kernel
theorem dX6_orders_160 : decode cX6_orders 160 = .ok (.aload_n 0, 1) := by decide +kernel
theorem dX6_orders_161 : decode cX6_orders 161 = .ok (.invokevirtual 228, 3) := by decide +kernel
theorem dX6_orders_164 : decode cX6_orders 164 = .ok (.istore_n 1, 1) := by decide +kernel
theorem dX6_orders_165 : decode cX6_orders 165 = .ok (.goto 32, 3) := by decide +kernel
theorem dX6_orders_168 : decode cX6_orders 168 = .ok (.aload_n 0, 1) := by decide +kernel
theorem dX6_orders_169 : decode cX6_orders 169 = .ok (.invokevirtual 231, 3) := by decide +kernel
theorem dX6_orders_172 : decode cX6_orders 172 = .ok (.istore_n 1, 1) := by decide +kernel
theorem dX6_orders_173 : decode cX6_orders 173 = .ok (.goto 24, 3) := by decide +kernel
theorem dX6_orders_176 : decode cX6_orders 176 = .ok (.aload_n 0, 1) := by decide +kernel
theorem dX6_orders_177 : decode cX6_orders 177 = .ok (.aload_n 0, 1) := by decide +kernel
theorem dX6_orders_178 : decode cX6_orders 178 = .ok (.getfield 195, 3) := by decide +kernel
theorem dX6_orders_181 : decode cX6_orders 181 = .ok (.invokevirtual 234, 3) := by decide +kernel
theorem dX6_orders_184 : decode cX6_orders 184 = .ok (.istore_n 1, 1) := by decide +kernel
theorem dX6_orders_185 : decode cX6_orders 185 = .ok (.goto 12, 3) := by decide +kernel
theorem dX6_orders_188 : decode cX6_orders 188 = .ok (.aload_n 0, 1) := by decide +kernel
theorem dX6_orders_189 : decode cX6_orders 189 = .ok (.aload_n 0, 1) := by decide +kernel
theorem dX6_orders_190 : decode cX6_orders 190 = .ok (.getfield 195, 3) := by decide +kernel
theorem dX6_orders_193 : decode cX6_orders 193 = .ok (.invokevirtual 237, 3) := by decide +kernel
theorem dX6_orders_196 : decode cX6_orders 196 = .ok (.istore_n 1, 1) := by decide +kernel
theorem dX6_orders_197 : decode cX6_orders 197 = .ok (.aload_n 0, 1) := by decide +kernel
theorem dX6_orders_198 : decode cX6_orders 198 = .ok (.getfield 31, 3) := by decide +kernel
theorem dX6_orders_201 : decode cX6_orders 201 = .ok (.ifCond .ne 7, 3) := by decide +kernel
theorem dX6_orders_204 : decode cX6_orders 204 = .ok (.iconst 1, 1) := by decide +kernel
theorem dX6_orders_205 : decode cX6_orders 205 = .ok (.goto 4, 3) := by decide +kernel
theorem dX6_orders_208 : decode cX6_orders 208 = .ok (.iconst 0, 1) := by decide +kernel
theorem dX6_orders_209 : decode cX6_orders 209 = .ok (.ireturn, 1) := by decide +kernel
theorem dX6_faultOf_0 : decode cX6_faultOf 0 = .ok (.aload_n 0, 1) := by decide +kernel
theorem dX6_faultOf_1 : decode cX6_faultOf 1 = .ok (.iconst 0, 1) := by decide +kernel
theorem dX6_faultOf_2 : decode cX6_faultOf 2 = .ok (.putfield 187, 3) := by decide +kernel
theorem dX6_faultOf_5 : decode cX6_faultOf 5 = .ok (.aload_n 0, 1) := by decide +kernel
theorem dX6_faultOf_6 : decode cX6_faultOf 6 = .ok (.getfield 187, 3) := by decide +kernel
theorem dX6_faultOf_9 : decode cX6_faultOf 9 = .ok (.aload_n 0, 1) := by decide +kernel
theorem dX6_faultOf_10 : decode cX6_faultOf 10 = .ok (.getfield 184, 3) := by decide +kernel
theorem dX6_faultOf_13 : decode cX6_faultOf 13 = .ok (.if_icmp .ge 15, 3) := by decide +kernel
theorem dX6_faultOf_16 : decode cX6_faultOf 16 = .ok (.aload_n 0, 1) := by decide +kernel
theorem dX6_faultOf_17 : decode cX6_faultOf 17 = .ok (.invokevirtual 240, 3) := by decide +kernel
theorem dX6_faultOf_20 : decode cX6_faultOf 20 = .ok (.ifCond .ne (-15), 3) := by decide +kernel
theorem dX6_faultOf_23 : decode cX6_faultOf 23 = .ok (.aload_n 0, 1) := by decide +kernel
theorem dX6_faultOf_24 : decode cX6_faultOf 24 = .ok (.getfield 187, 3) := by decide +kernel
theorem dX6_faultOf_27 : decode cX6_faultOf 27 = .ok (.ireturn, 1) := by decide +kernel
theorem dX6_faultOf_28 : decode cX6_faultOf 28 = .ok (.iconst (-1), 1) := by decide +kernel
theorem dX6_faultOf_29 : decode cX6_faultOf 29 = .ok (.ireturn, 1) := by decide +kernel
theorem dX6_carryOut_0 : decode cX6_carryOut 0 = .ok (.aload_n 0, 1) := by decide +kernel
theorem dX6_carryOut_1 : decode cX6_carryOut 1 = .ok (.invokevirtual 243, 3) := by decide +kernel
theorem dX6_carryOut_4 : decode cX6_carryOut 4 = .ok (.istore_n 1, 1) := by decide +kernel
theorem dX6_carryOut_5 : decode cX6_carryOut 5 = .ok (.aload_n 0, 1) := by decide +kernel
theorem dX6_carryOut_6 : decode cX6_carryOut 6 = .ok (.getfield 68, 3) := by decide +kernel
theorem dX6_carryOut_9 : decode cX6_carryOut 9 = .ok (.istore_n 2, 1) := by decide +kernel
theorem dX6_carryOut_10 : decode cX6_carryOut 10 = .ok (.aload_n 0, 1) := by decide +kernel
theorem dX6_carryOut_11 : decode cX6_carryOut 11 = .ok (.getfield 71, 3) := by decide +kernel
theorem dX6_carryOut_14 : decode cX6_carryOut 14 = .ok (.istore_n 3, 1) := by decide +kernel
theorem dX6_carryOut_15 : decode cX6_carryOut 15 = .ok (.aload_n 0, 1) := by decide +kernel
theorem dX6_carryOut_16 : decode cX6_carryOut 16 = .ok (.iconst 0, 1) := by decide +kernel
theorem dX6_carryOut_17 : decode cX6_carryOut 17 = .ok (.putfield 187, 3) := by decide +kernel
theorem dX6_carryOut_20 : decode cX6_carryOut 20 = .ok (.iconst 0, 1) := by decide +kernel
theorem dX6_carryOut_21 : decode cX6_carryOut 21 = .ok (.istore 4, 2) := by decide +kernel
theorem dX6_carryOut_23 : decode cX6_carryOut 23 = .ok (.iload_n 1, 1) := by decide +kernel
theorem dX6_carryOut_24 : decode cX6_carryOut 24 = .ok (.iconst (-1), 1) := by decide +kernel
theorem dX6_carryOut_25 : decode cX6_carryOut 25 = .ok (.if_icmp .ne 7, 3) := by decide +kernel
theorem dX6_carryOut_28 : decode cX6_carryOut 28 = .ok (.iconst 1, 1) := by decide +kernel
theorem dX6_carryOut_29 : decode cX6_carryOut 29 = .ok (.goto 4, 3) := by decide +kernel
theorem dX6_carryOut_32 : decode cX6_carryOut 32 = .ok (.iconst 0, 1) := by decide +kernel
theorem dX6_carryOut_33 : decode cX6_carryOut 33 = .ok (.istore 5, 2) := by decide +kernel
theorem dX6_carryOut_35 : decode cX6_carryOut 35 = .ok (.iload 5, 2) := by decide +kernel
theorem dX6_carryOut_37 : decode cX6_carryOut 37 = .ok (.ifCond .eq 44, 3) := by decide +kernel
theorem dX6_carryOut_40 : decode cX6_carryOut 40 = .ok (.aload_n 0, 1) := by decide +kernel
theorem dX6_carryOut_41 : decode cX6_carryOut 41 = .ok (.getfield 187, 3) := by decide +kernel
theorem dX6_carryOut_44 : decode cX6_carryOut 44 = .ok (.aload_n 0, 1) := by decide +kernel
theorem dX6_carryOut_45 : decode cX6_carryOut 45 = .ok (.getfield 184, 3) := by decide +kernel
theorem dX6_carryOut_48 : decode cX6_carryOut 48 = .ok (.if_icmp .ge 33, 3) := by decide +kernel
theorem dX6_carryOut_51 : decode cX6_carryOut 51 = .ok (.aload_n 0, 1) := by decide +kernel
theorem dX6_carryOut_52 : decode cX6_carryOut 52 = .ok (.invokevirtual 240, 3) := by decide +kernel
theorem dX6_carryOut_55 : decode cX6_carryOut 55 = .ok (.istore 6, 2) := by decide +kernel
theorem dX6_carryOut_57 : decode cX6_carryOut 57 = .ok (.aload_n 0, 1) := by decide +kernel
theorem dX6_carryOut_58 : decode cX6_carryOut 58 = .ok (.invokevirtual 246, 3) := by decide +kernel
theorem dX6_carryOut_61 : decode cX6_carryOut 61 = .ok (.istore 5, 2) := by decide +kernel
theorem dX6_carryOut_63 : decode cX6_carryOut 63 = .ok (.iload 4, 2) := by decide +kernel
theorem dX6_carryOut_65 : decode cX6_carryOut 65 = .ok (.iload 5, 2) := by decide +kernel
theorem dX6_carryOut_67 : decode cX6_carryOut 67 = .ok (.ifCond .eq 7, 3) := by decide +kernel
theorem dX6_carryOut_70 : decode cX6_carryOut 70 = .ok (.iconst 1, 1) := by decide +kernel
theorem dX6_carryOut_71 : decode cX6_carryOut 71 = .ok (.goto 4, 3) := by decide +kernel
theorem dX6_carryOut_74 : decode cX6_carryOut 74 = .ok (.iconst 0, 1) := by decide +kernel
theorem dX6_carryOut_75 : decode cX6_carryOut 75 = .ok (.iadd, 1) := by decide +kernel
theorem dX6_carryOut_76 : decode cX6_carryOut 76 = .ok (.istore 4, 2) := by decide +kernel
theorem dX6_carryOut_78 : decode cX6_carryOut 78 = .ok (.goto (-43), 3) := by decide +kernel
theorem dX6_carryOut_81 : decode cX6_carryOut 81 = .ok (.aload_n 0, 1) := by decide +kernel
theorem dX6_carryOut_82 : decode cX6_carryOut 82 = .ok (.iconst 0, 1) := by decide +kernel
theorem dX6_carryOut_83 : decode cX6_carryOut 83 = .ok (.putfield 31, 3) := by decide +kernel
theorem dX6_carryOut_86 : decode cX6_carryOut 86 = .ok (.iload 5, 2) := by decide +kernel
theorem dX6_carryOut_88 : decode cX6_carryOut 88 = .ok (.ifCond .ne 22, 3) := by decide +kernel
theorem dX6_carryOut_91 : decode cX6_carryOut 91 = .ok (.aload_n 0, 1) := by decide +kernel
theorem dX6_carryOut_92 : decode cX6_carryOut 92 = .ok (.iload_n 2, 1) := by decide +kernel
theorem dX6_carryOut_93 : decode cX6_carryOut 93 = .ok (.putfield 68, 3) := by decide +kernel
theorem dX6_carryOut_96 : decode cX6_carryOut 96 = .ok (.aload_n 0, 1) := by decide +kernel
theorem dX6_carryOut_97 : decode cX6_carryOut 97 = .ok (.iload_n 3, 1) := by decide +kernel
theorem dX6_carryOut_98 : decode cX6_carryOut 98 = .ok (.putfield 71, 3) := by decide +kernel
theorem dX6_carryOut_101 : decode cX6_carryOut 101 = .ok (.aload_n 0, 1) := by decide +kernel
theorem dX6_carryOut_102 : decode cX6_carryOut 102 = .ok (.aload_n 0, 1) := by decide +kernel
theorem dX6_carryOut_103 : decode cX6_carryOut 103 = .ok (.getfield 71, 3) := by decide +kernel
theorem dX6_carryOut_106 : decode cX6_carryOut 106 = .ok (.iconst (-1), 1) := by decide +kernel
theorem dX6_carryOut_107 : decode cX6_carryOut 107 = .ok (.invokevirtual 161, 3) := by decide +kernel
theorem dX6_carryOut_110 : decode cX6_carryOut 110 = .ok (.iload_n 1, 1) := by decide +kernel
theorem dX6_carryOut_111 : decode cX6_carryOut 111 = .ok (.iconst (-1), 1) := by decide +kernel
theorem dX6_carryOut_112 : decode cX6_carryOut 112 = .ok (.if_icmp .eq 10, 3) := by decide +kernel
theorem dX6_carryOut_115 : decode cX6_carryOut 115 = .ok (.bipush (-10), 2) := by decide +kernel
theorem dX6_carryOut_117 : decode cX6_carryOut 117 = .ok (.iload_n 1, 1) := by decide +kernel
theorem dX6_carryOut_118 : decode cX6_carryOut 118 = .ok (.isub, 1) := by decide +kernel
theorem dX6_carryOut_119 : decode cX6_carryOut 119 = .ok (.goto 19, 3) := by decide +kernel
theorem dX6_carryOut_122 : decode cX6_carryOut 122 = .ok (.iload 5, 2) := by decide +kernel
theorem dX6_carryOut_124 : decode cX6_carryOut 124 = .ok (.ifCond .eq 8, 3) := by decide +kernel
theorem dX6_carryOut_127 : decode cX6_carryOut 127 = .ok (.iload 4, 2) := by decide +kernel
theorem dX6_carryOut_129 : decode cX6_carryOut 129 = .ok (.goto 9, 3) := by decide +kernel
theorem dX6_carryOut_132 : decode cX6_carryOut 132 = .ok (.sipush (-1000), 3) := by decide +kernel
theorem dX6_carryOut_135 : decode cX6_carryOut 135 = .ok (.iload 4, 2) := by decide +kernel
theorem dX6_carryOut_137 : decode cX6_carryOut 137 = .ok (.isub, 1) := by decide +kernel
theorem dX6_carryOut_138 : decode cX6_carryOut 138 = .ok (.ireturn, 1) := by decide +kernel
theorem dX6_sums_0 : decode cX6_sums 0 = .ok (.ldc2_w 249, 3) := by decide +kernel
theorem dX6_sums_3 : decode cX6_sums 3 = .ok (.lload_n 0, 1) := by decide +kernel
theorem dX6_sums_4 : decode cX6_sums 4 = .ok (.lmul, 1) := by decide +kernel
theorem dX6_sums_5 : decode cX6_sums 5 = .ok (.lload_n 2, 1) := by decide +kernel
theorem dX6_sums_6 : decode cX6_sums 6 = .ok (.ladd, 1) := by decide +kernel
theorem dX6_sums_7 : decode cX6_sums 7 = .ok (.lreturn, 1) := by decide +kernel
theorem dX6_digest_0 : decode cX6_digest 0 = .ok (.aload_n 0, 1) := by decide +kernel
theorem dX6_digest_1 : decode cX6_digest 1 = .ok (.iconst 0, 1) := by decide +kernel
theorem dX6_digest_2 : decode cX6_digest 2 = .ok (.putfield 31, 3) := by decide +kernel
theorem dX6_digest_5 : decode cX6_digest 5 = .ok (.ldc2_w 251, 3) := by decide +kernel
theorem dX6_digest_8 : decode cX6_digest 8 = .ok (.aload_n 0, 1) := by decide +kernel
theorem dX6_digest_9 : decode cX6_digest 9 = .ok (.getfield 184, 3) := by decide +kernel
theorem dX6_digest_12 : decode cX6_digest 12 = .ok (.i2l, 1) := by decide +kernel
theorem dX6_digest_13 : decode cX6_digest 13 = .ok (.invokestatic 253, 3) := by decide +kernel
theorem dX6_digest_16 : decode cX6_digest 16 = .ok (.lstore_n 1, 1) := by decide +kernel
theorem dX6_digest_17 : decode cX6_digest 17 = .ok (.iconst 0, 1) := by decide +kernel
theorem dX6_digest_18 : decode cX6_digest 18 = .ok (.istore_n 3, 1) := by decide +kernel
theorem dX6_digest_19 : decode cX6_digest 19 = .ok (.iload_n 3, 1) := by decide +kernel
theorem dX6_digest_20 : decode cX6_digest 20 = .ok (.bipush 9, 2) := by decide +kernel
theorem dX6_digest_22 : decode cX6_digest 22 = .ok (.if_icmp .ge 20, 3) := by decide +kernel
theorem dX6_digest_25 : decode cX6_digest 25 = .ok (.lload_n 1, 1) := by decide +kernel
theorem dX6_digest_26 : decode cX6_digest 26 = .ok (.aload_n 0, 1) := by decide +kernel
theorem dX6_digest_27 : decode cX6_digest 27 = .ok (.iload_n 3, 1) := by decide +kernel
theorem dX6_digest_28 : decode cX6_digest 28 = .ok (.invokevirtual 145, 3) := by decide +kernel
theorem dX6_digest_31 : decode cX6_digest 31 = .ok (.i2l, 1) := by decide +kernel
theorem dX6_digest_32 : decode cX6_digest 32 = .ok (.invokestatic 253, 3) := by decide +kernel
theorem dX6_digest_35 : decode cX6_digest 35 = .ok (.lstore_n 1, 1) := by decide +kernel
theorem dX6_digest_36 : decode cX6_digest 36 = .ok (.iinc 3 1, 3) := by decide +kernel
theorem dX6_digest_39 : decode cX6_digest 39 = .ok (.goto (-20), 3) := by decide +kernel
theorem dX6_digest_42 : decode cX6_digest 42 = .ok (.iconst 0, 1) := by decide +kernel
theorem dX6_digest_43 : decode cX6_digest 43 = .ok (.istore_n 3, 1) := by decide +kernel
theorem dX6_digest_44 : decode cX6_digest 44 = .ok (.iload_n 3, 1) := by decide +kernel
theorem dX6_digest_45 : decode cX6_digest 45 = .ok (.bipush 12, 2) := by decide +kernel
theorem dX6_digest_47 : decode cX6_digest 47 = .ok (.if_icmp .ge 24, 3) := by decide +kernel
theorem dX6_digest_50 : decode cX6_digest 50 = .ok (.lload_n 1, 1) := by decide +kernel
theorem dX6_digest_51 : decode cX6_digest 51 = .ok (.aload_n 0, 1) := by decide +kernel
theorem dX6_digest_52 : decode cX6_digest 52 = .ok (.getfield 7, 3) := by decide +kernel
theorem dX6_digest_55 : decode cX6_digest 55 = .ok (.bipush 7, 2) := by decide +kernel
theorem dX6_digest_57 : decode cX6_digest 57 = .ok (.iload_n 3, 1) := by decide +kernel
theorem dX6_digest_58 : decode cX6_digest 58 = .ok (.iadd, 1) := by decide +kernel
theorem dX6_digest_59 : decode cX6_digest 59 = .ok (.iaload, 1) := by decide +kernel
theorem dX6_digest_60 : decode cX6_digest 60 = .ok (.i2l, 1) := by decide +kernel
theorem dX6_digest_61 : decode cX6_digest 61 = .ok (.invokestatic 253, 3) := by decide +kernel
theorem dX6_digest_64 : decode cX6_digest 64 = .ok (.lstore_n 1, 1) := by decide +kernel
theorem dX6_digest_65 : decode cX6_digest 65 = .ok (.iinc 3 1, 3) := by decide +kernel
theorem dX6_digest_68 : decode cX6_digest 68 = .ok (.goto (-24), 3) := by decide +kernel
theorem dX6_digest_71 : decode cX6_digest 71 = .ok (.iconst 0, 1) := by decide +kernel
theorem dX6_digest_72 : decode cX6_digest 72 = .ok (.istore_n 3, 1) := by decide +kernel
theorem dX6_digest_73 : decode cX6_digest 73 = .ok (.iload_n 3, 1) := by decide +kernel
theorem dX6_digest_74 : decode cX6_digest 74 = .ok (.bipush 10, 2) := by decide +kernel
theorem dX6_digest_76 : decode cX6_digest 76 = .ok (.if_icmp .ge 42, 3) := by decide +kernel
theorem dX6_digest_79 : decode cX6_digest 79 = .ok (.lload_n 1, 1) := by decide +kernel
theorem dX6_digest_80 : decode cX6_digest 80 = .ok (.aload_n 0, 1) := by decide +kernel
theorem dX6_digest_81 : decode cX6_digest 81 = .ok (.iload_n 3, 1) := by decide +kernel
theorem dX6_digest_82 : decode cX6_digest 82 = .ok (.iconst 0, 1) := by decide +kernel
theorem dX6_digest_83 : decode cX6_digest 83 = .ok (.invokevirtual 134, 3) := by decide +kernel
theorem dX6_digest_86 : decode cX6_digest 86 = .ok (.i2l, 1) := by decide +kernel
theorem dX6_digest_87 : decode cX6_digest 87 = .ok (.invokestatic 253, 3) := by decide +kernel
theorem dX6_digest_90 : decode cX6_digest 90 = .ok (.aload_n 0, 1) := by decide +kernel
theorem dX6_digest_91 : decode cX6_digest 91 = .ok (.iload_n 3, 1) := by decide +kernel
theorem dX6_digest_92 : decode cX6_digest 92 = .ok (.iconst 1, 1) := by decide +kernel
theorem dX6_digest_93 : decode cX6_digest 93 = .ok (.invokevirtual 134, 3) := by decide +kernel
theorem dX6_digest_96 : decode cX6_digest 96 = .ok (.i2l, 1) := by decide +kernel
theorem dX6_digest_97 : decode cX6_digest 97 = .ok (.invokestatic 253, 3) := by decide +kernel
theorem dX6_digest_100 : decode cX6_digest 100 = .ok (.lstore_n 1, 1) := by decide +kernel
theorem dX6_digest_101 : decode cX6_digest 101 = .ok (.lload_n 1, 1) := by decide +kernel
theorem dX6_digest_102 : decode cX6_digest 102 = .ok (.aload_n 0, 1) := by decide +kernel
theorem dX6_digest_103 : decode cX6_digest 103 = .ok (.iload_n 3, 1) := by decide +kernel
theorem dX6_digest_104 : decode cX6_digest 104 = .ok (.invokevirtual 138, 3) := by decide +kernel
theorem dX6_digest_107 : decode cX6_digest 107 = .ok (.i2l, 1) := by decide +kernel
theorem dX6_digest_108 : decode cX6_digest 108 = .ok (.invokestatic 253, 3) := by decide +kernel
theorem dX6_digest_111 : decode cX6_digest 111 = .ok (.lstore_n 1, 1) := by decide +kernel
theorem dX6_digest_112 : decode cX6_digest 112 = .ok (.iinc 3 1, 3) := by decide +kernel
theorem dX6_digest_115 : decode cX6_digest 115 = .ok (.goto (-42), 3) := by decide +kernel
theorem dX6_digest_118 : decode cX6_digest 118 = .ok (.iconst 0, 1) := by decide +kernel
theorem dX6_digest_119 : decode cX6_digest 119 = .ok (.istore_n 3, 1) := by decide +kernel
theorem dX6_digest_120 : decode cX6_digest 120 = .ok (.iload_n 3, 1) := by decide +kernel
theorem dX6_digest_121 : decode cX6_digest 121 = .ok (.aload_n 0, 1) := by decide +kernel
theorem dX6_digest_122 : decode cX6_digest 122 = .ok (.getfield 68, 3) := by decide +kernel
theorem dX6_digest_125 : decode cX6_digest 125 = .ok (.if_icmp .ge 42, 3) := by decide +kernel
theorem dX6_digest_128 : decode cX6_digest 128 = .ok (.iconst 0, 1) := by decide +kernel
theorem dX6_digest_129 : decode cX6_digest 129 = .ok (.istore 4, 2) := by decide +kernel
theorem dX6_digest_131 : decode cX6_digest 131 = .ok (.iload 4, 2) := by decide +kernel
theorem dX6_digest_133 : decode cX6_digest 133 = .ok (.iconst 4, 1) := by decide +kernel
theorem dX6_digest_134 : decode cX6_digest 134 = .ok (.if_icmp .ge 27, 3) := by decide +kernel
theorem dX6_digest_137 : decode cX6_digest 137 = .ok (.lload_n 1, 1) := by decide +kernel
theorem dX6_digest_138 : decode cX6_digest 138 = .ok (.aload_n 0, 1) := by decide +kernel
theorem dX6_digest_139 : decode cX6_digest 139 = .ok (.getfield 16, 3) := by decide +kernel
theorem dX6_digest_142 : decode cX6_digest 142 = .ok (.bipush 6, 2) := by decide +kernel
theorem dX6_digest_144 : decode cX6_digest 144 = .ok (.iload_n 3, 1) := by decide +kernel
theorem dX6_digest_145 : decode cX6_digest 145 = .ok (.imul, 1) := by decide +kernel
theorem dX6_digest_146 : decode cX6_digest 146 = .ok (.iload 4, 2) := by decide +kernel
theorem dX6_digest_148 : decode cX6_digest 148 = .ok (.iadd, 1) := by decide +kernel
theorem dX6_digest_149 : decode cX6_digest 149 = .ok (.iaload, 1) := by decide +kernel
theorem dX6_digest_150 : decode cX6_digest 150 = .ok (.i2l, 1) := by decide +kernel
theorem dX6_digest_151 : decode cX6_digest 151 = .ok (.invokestatic 253, 3) := by decide +kernel
theorem dX6_digest_154 : decode cX6_digest 154 = .ok (.lstore_n 1, 1) := by decide +kernel
theorem dX6_digest_155 : decode cX6_digest 155 = .ok (.iinc 4 1, 3) := by decide +kernel
theorem dX6_digest_158 : decode cX6_digest 158 = .ok (.goto (-27), 3) := by decide +kernel
theorem dX6_digest_161 : decode cX6_digest 161 = .ok (.iinc 3 1, 3) := by decide +kernel
theorem dX6_digest_164 : decode cX6_digest 164 = .ok (.goto (-44), 3) := by decide +kernel
theorem dX6_digest_167 : decode cX6_digest 167 = .ok (.lload_n 1, 1) := by decide +kernel
theorem dX6_digest_168 : decode cX6_digest 168 = .ok (.lreturn, 1) := by decide +kernel

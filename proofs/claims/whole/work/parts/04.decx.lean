theorem dJ13_bitCount_95d88_0 : decode cJ13_bitCount_95d88 0 = .ok (.lload_n 0, 1) := by decide +kernel
theorem dJ13_bitCount_95d88_1 : decode cJ13_bitCount_95d88 1 = .ok (.lload_n 0, 1) := by decide +kernel
theorem dJ13_bitCount_95d88_2 : decode cJ13_bitCount_95d88 2 = .ok (.iconst 1, 1) := by decide +kernel
theorem dJ13_bitCount_95d88_3 : decode cJ13_bitCount_95d88 3 = .ok (.lushr, 1) := by decide +kernel
theorem dJ13_bitCount_95d88_4 : decode cJ13_bitCount_95d88 4 = .ok (.ldc2_w 314, 3) := by decide +kernel
theorem dJ13_bitCount_95d88_7 : decode cJ13_bitCount_95d88 7 = .ok (.land, 1) := by decide +kernel
theorem dJ13_bitCount_95d88_8 : decode cJ13_bitCount_95d88 8 = .ok (.lsub, 1) := by decide +kernel
theorem dJ13_bitCount_95d88_9 : decode cJ13_bitCount_95d88 9 = .ok (.lstore_n 0, 1) := by decide +kernel
theorem dJ13_bitCount_95d88_10 : decode cJ13_bitCount_95d88 10 = .ok (.lload_n 0, 1) := by decide +kernel
theorem dJ13_bitCount_95d88_11 : decode cJ13_bitCount_95d88 11 = .ok (.ldc2_w 316, 3) := by decide +kernel
theorem dJ13_bitCount_95d88_14 : decode cJ13_bitCount_95d88 14 = .ok (.land, 1) := by decide +kernel
theorem dJ13_bitCount_95d88_15 : decode cJ13_bitCount_95d88 15 = .ok (.lload_n 0, 1) := by decide +kernel
theorem dJ13_bitCount_95d88_16 : decode cJ13_bitCount_95d88 16 = .ok (.iconst 2, 1) := by decide +kernel
theorem dJ13_bitCount_95d88_17 : decode cJ13_bitCount_95d88 17 = .ok (.lushr, 1) := by decide +kernel
theorem dJ13_bitCount_95d88_18 : decode cJ13_bitCount_95d88 18 = .ok (.ldc2_w 316, 3) := by decide +kernel
theorem dJ13_bitCount_95d88_21 : decode cJ13_bitCount_95d88 21 = .ok (.land, 1) := by decide +kernel
theorem dJ13_bitCount_95d88_22 : decode cJ13_bitCount_95d88 22 = .ok (.ladd, 1) := by decide +kernel
theorem dJ13_bitCount_95d88_23 : decode cJ13_bitCount_95d88 23 = .ok (.lstore_n 0, 1) := by decide +kernel
theorem dJ13_bitCount_95d88_24 : decode cJ13_bitCount_95d88 24 = .ok (.lload_n 0, 1) := by decide +kernel
theorem dJ13_bitCount_95d88_25 : decode cJ13_bitCount_95d88 25 = .ok (.lload_n 0, 1) := by decide +kernel
theorem dJ13_bitCount_95d88_26 : decode cJ13_bitCount_95d88 26 = .ok (.iconst 4, 1) := by decide +kernel
theorem dJ13_bitCount_95d88_27 : decode cJ13_bitCount_95d88 27 = .ok (.lushr, 1) := by decide +kernel
theorem dJ13_bitCount_95d88_28 : decode cJ13_bitCount_95d88 28 = .ok (.ladd, 1) := by decide +kernel
theorem dJ13_bitCount_95d88_29 : decode cJ13_bitCount_95d88 29 = .ok (.ldc2_w 318, 3) := by decide +kernel
theorem dJ13_bitCount_95d88_32 : decode cJ13_bitCount_95d88 32 = .ok (.land, 1) := by decide +kernel
theorem dJ13_bitCount_95d88_33 : decode cJ13_bitCount_95d88 33 = .ok (.lstore_n 0, 1) := by decide +kernel
theorem dJ13_bitCount_95d88_34 : decode cJ13_bitCount_95d88 34 = .ok (.lload_n 0, 1) := by decide +kernel
theorem dJ13_bitCount_95d88_35 : decode cJ13_bitCount_95d88 35 = .ok (.lload_n 0, 1) := by decide +kernel
theorem dJ13_bitCount_95d88_36 : decode cJ13_bitCount_95d88 36 = .ok (.bipush 8, 2) := by decide +kernel
theorem dJ13_bitCount_95d88_38 : decode cJ13_bitCount_95d88 38 = .ok (.lushr, 1) := by decide +kernel
theorem dJ13_bitCount_95d88_39 : decode cJ13_bitCount_95d88 39 = .ok (.ladd, 1) := by decide +kernel
theorem dJ13_bitCount_95d88_40 : decode cJ13_bitCount_95d88 40 = .ok (.lstore_n 0, 1) := by decide +kernel
theorem dJ13_bitCount_95d88_41 : decode cJ13_bitCount_95d88 41 = .ok (.lload_n 0, 1) := by decide +kernel
theorem dJ13_bitCount_95d88_42 : decode cJ13_bitCount_95d88 42 = .ok (.lload_n 0, 1) := by decide +kernel
theorem dJ13_bitCount_95d88_43 : decode cJ13_bitCount_95d88 43 = .ok (.bipush 16, 2) := by decide +kernel
theorem dJ13_bitCount_95d88_45 : decode cJ13_bitCount_95d88 45 = .ok (.lushr, 1) := by decide +kernel
theorem dJ13_bitCount_95d88_46 : decode cJ13_bitCount_95d88 46 = .ok (.ladd, 1) := by decide +kernel
theorem dJ13_bitCount_95d88_47 : decode cJ13_bitCount_95d88 47 = .ok (.lstore_n 0, 1) := by decide +kernel
theorem dJ13_bitCount_95d88_48 : decode cJ13_bitCount_95d88 48 = .ok (.lload_n 0, 1) := by decide +kernel
theorem dJ13_bitCount_95d88_49 : decode cJ13_bitCount_95d88 49 = .ok (.lload_n 0, 1) := by decide +kernel
theorem dJ13_bitCount_95d88_50 : decode cJ13_bitCount_95d88 50 = .ok (.bipush 32, 2) := by decide +kernel
theorem dJ13_bitCount_95d88_52 : decode cJ13_bitCount_95d88 52 = .ok (.lushr, 1) := by decide +kernel
theorem dJ13_bitCount_95d88_53 : decode cJ13_bitCount_95d88 53 = .ok (.ladd, 1) := by decide +kernel
theorem dJ13_bitCount_95d88_54 : decode cJ13_bitCount_95d88 54 = .ok (.lstore_n 0, 1) := by decide +kernel
theorem dJ13_bitCount_95d88_55 : decode cJ13_bitCount_95d88 55 = .ok (.lload_n 0, 1) := by decide +kernel
theorem dJ13_bitCount_95d88_56 : decode cJ13_bitCount_95d88 56 = .ok (.l2i, 1) := by decide +kernel
theorem dJ13_bitCount_95d88_57 : decode cJ13_bitCount_95d88 57 = .ok (.bipush 127, 2) := by decide +kernel
theorem dJ13_bitCount_95d88_59 : decode cJ13_bitCount_95d88 59 = .ok (.iand, 1) := by decide +kernel
theorem dJ13_bitCount_95d88_60 : decode cJ13_bitCount_95d88 60 = .ok (.ireturn, 1) := by decide +kernel
theorem dJx00060_init_a7421_0 : decode cJx00060_init_a7421 0 = .ok (.aload_n 0, 1) := by decide +kernel
theorem dJx00060_init_a7421_1 : decode cJx00060_init_a7421 1 = .ok (.aload_n 1, 1) := by decide +kernel
theorem dJx00060_init_a7421_2 : decode cJx00060_init_a7421 2 = .ok (.invokespecial 7, 3) := by decide +kernel
theorem dJx00060_init_a7421_5 : decode cJx00060_init_a7421 5 = .ok (.return_, 1) := by decide +kernel
theorem dX0_init_0 : decode cX0_init 0 = .ok (.aload_n 0, 1) := by decide +kernel
theorem dX0_init_1 : decode cX0_init 1 = .ok (.invokespecial 3, 3) := by decide +kernel
theorem dX0_init_4 : decode cX0_init 4 = .ok (.aload_n 0, 1) := by decide +kernel
theorem dX0_init_5 : decode cX0_init 5 = .ok (.new 9, 3) := by decide +kernel
theorem dX0_init_8 : decode cX0_init 8 = .ok (.dup, 1) := by decide +kernel
theorem dX0_init_9 : decode cX0_init 9 = .ok (.invokespecial 11, 3) := by decide +kernel
theorem dX0_init_12 : decode cX0_init 12 = .ok (.putfield 12, 3) := by decide +kernel
theorem dX0_init_15 : decode cX0_init 15 = .ok (.aload_n 0, 1) := by decide +kernel
theorem dX0_init_16 : decode cX0_init 16 = .ok (.new 18, 3) := by decide +kernel
theorem dX0_init_19 : decode cX0_init 19 = .ok (.dup, 1) := by decide +kernel
theorem dX0_init_20 : decode cX0_init 20 = .ok (.invokespecial 20, 3) := by decide +kernel
theorem dX0_init_23 : decode cX0_init 23 = .ok (.putfield 21, 3) := by decide +kernel
theorem dX0_init_26 : decode cX0_init 26 = .ok (.aload_n 0, 1) := by decide +kernel
theorem dX0_init_27 : decode cX0_init 27 = .ok (.new 18, 3) := by decide +kernel
theorem dX0_init_30 : decode cX0_init 30 = .ok (.dup, 1) := by decide +kernel
theorem dX0_init_31 : decode cX0_init 31 = .ok (.invokespecial 20, 3) := by decide +kernel
theorem dX0_init_34 : decode cX0_init 34 = .ok (.putfield 25, 3) := by decide +kernel
theorem dX0_init_37 : decode cX0_init 37 = .ok (.aload_n 0, 1) := by decide +kernel
theorem dX0_init_38 : decode cX0_init 38 = .ok (.new 18, 3) := by decide +kernel
theorem dX0_init_41 : decode cX0_init 41 = .ok (.dup, 1) := by decide +kernel
theorem dX0_init_42 : decode cX0_init 42 = .ok (.invokespecial 20, 3) := by decide +kernel
theorem dX0_init_45 : decode cX0_init 45 = .ok (.putfield 28, 3) := by decide +kernel
theorem dX0_init_48 : decode cX0_init 48 = .ok (.aload_n 0, 1) := by decide +kernel
theorem dX0_init_49 : decode cX0_init 49 = .ok (.iconst 0, 1) := by decide +kernel
theorem dX0_init_50 : decode cX0_init 50 = .ok (.putfield 31, 3) := by decide +kernel
theorem dX0_init_53 : decode cX0_init 53 = .ok (.aload_n 0, 1) := by decide +kernel
theorem dX0_init_54 : decode cX0_init 54 = .ok (.bipush 64, 2) := by decide +kernel
theorem dX0_init_56 : decode cX0_init 56 = .ok (.newarray .int, 2) := by decide +kernel
theorem dX0_init_58 : decode cX0_init 58 = .ok (.putfield 35, 3) := by decide +kernel
theorem dX0_init_61 : decode cX0_init 61 = .ok (.aload_n 0, 1) := by decide +kernel
theorem dX0_init_62 : decode cX0_init 62 = .ok (.lconst 0, 1) := by decide +kernel
theorem dX0_init_63 : decode cX0_init 63 = .ok (.putfield 39, 3) := by decide +kernel
theorem dX0_init_66 : decode cX0_init 66 = .ok (.aload_n 0, 1) := by decide +kernel
theorem dX0_init_67 : decode cX0_init 67 = .ok (.bipush 64, 2) := by decide +kernel
theorem dX0_init_69 : decode cX0_init 69 = .ok (.newarray .int, 2) := by decide +kernel
theorem dX0_init_71 : decode cX0_init 71 = .ok (.putfield 43, 3) := by decide +kernel
theorem dX0_init_74 : decode cX0_init 74 = .ok (.aload_n 0, 1) := by decide +kernel
theorem dX0_init_75 : decode cX0_init 75 = .ok (.bipush 64, 2) := by decide +kernel
theorem dX0_init_77 : decode cX0_init 77 = .ok (.newarray .int, 2) := by decide +kernel
theorem dX0_init_79 : decode cX0_init 79 = .ok (.putfield 46, 3) := by decide +kernel
theorem dX0_init_82 : decode cX0_init 82 = .ok (.aload_n 0, 1) := by decide +kernel
theorem dX0_init_83 : decode cX0_init 83 = .ok (.bipush 64, 2) := by decide +kernel
theorem dX0_init_85 : decode cX0_init 85 = .ok (.newarray .long, 2) := by decide +kernel
theorem dX0_init_87 : decode cX0_init 87 = .ok (.putfield 49, 3) := by decide +kernel
theorem dX0_init_90 : decode cX0_init 90 = .ok (.aload_n 0, 1) := by decide +kernel
theorem dX0_init_91 : decode cX0_init 91 = .ok (.bipush 64, 2) := by decide +kernel
theorem dX0_init_93 : decode cX0_init 93 = .ok (.newarray .long, 2) := by decide +kernel
theorem dX0_init_95 : decode cX0_init 95 = .ok (.putfield 53, 3) := by decide +kernel
theorem dX0_init_98 : decode cX0_init 98 = .ok (.aload_n 0, 1) := by decide +kernel
theorem dX0_init_99 : decode cX0_init 99 = .ok (.sipush 730, 3) := by decide +kernel
theorem dX0_init_102 : decode cX0_init 102 = .ok (.newarray .int, 2) := by decide +kernel
theorem dX0_init_104 : decode cX0_init 104 = .ok (.putfield 56, 3) := by decide +kernel
theorem dX0_init_107 : decode cX0_init 107 = .ok (.aload_n 0, 1) := by decide +kernel
theorem dX0_init_108 : decode cX0_init 108 = .ok (.bipush 64, 2) := by decide +kernel
theorem dX0_init_110 : decode cX0_init 110 = .ok (.newarray .int, 2) := by decide +kernel
theorem dX0_init_112 : decode cX0_init 112 = .ok (.putfield 59, 3) := by decide +kernel
theorem dX0_init_115 : decode cX0_init 115 = .ok (.aload_n 0, 1) := by decide +kernel
theorem dX0_init_116 : decode cX0_init 116 = .ok (.aload_n 1, 1) := by decide +kernel
theorem dX0_init_117 : decode cX0_init 117 = .ok (.putfield 62, 3) := by decide +kernel
theorem dX0_init_120 : decode cX0_init 120 = .ok (.return_, 1) := by decide +kernel
theorem dX0_codeBound_0 : decode cX0_codeBound 0 = .ok (.bipush 64, 2) := by decide +kernel
theorem dX0_codeBound_2 : decode cX0_codeBound 2 = .ok (.ireturn, 1) := by decide +kernel
theorem dX0_startCode_0 : decode cX0_startCode 0 = .ok (.aload_n 0, 1) := by decide +kernel
theorem dX0_startCode_1 : decode cX0_startCode 1 = .ok (.getfield 12, 3) := by decide +kernel
theorem dX0_startCode_4 : decode cX0_startCode 4 = .ok (.getfield 66, 3) := by decide +kernel
theorem dX0_startCode_7 : decode cX0_startCode 7 = .ok (.ireturn, 1) := by decide +kernel
theorem dX0_follow_0 : decode cX0_follow 0 = .ok (.aload_n 0, 1) := by decide +kernel
theorem dX0_follow_1 : decode cX0_follow 1 = .ok (.getfield 25, 3) := by decide +kernel
theorem dX0_follow_4 : decode cX0_follow 4 = .ok (.iload_n 2, 1) := by decide +kernel
theorem dX0_follow_5 : decode cX0_follow 5 = .ok (.iload_n 1, 1) := by decide +kernel
theorem dX0_follow_6 : decode cX0_follow 6 = .ok (.invokevirtual 69, 3) := by decide +kernel
theorem dX0_follow_9 : decode cX0_follow 9 = .ok (.ireturn, 1) := by decide +kernel
theorem dX0_isAccepting_0 : decode cX0_isAccepting 0 = .ok (.iload_n 1, 1) := by decide +kernel
theorem dX0_isAccepting_1 : decode cX0_isAccepting 1 = .ok (.iconst 1, 1) := by decide +kernel
theorem dX0_isAccepting_2 : decode cX0_isAccepting 2 = .ok (.iand, 1) := by decide +kernel
theorem dX0_isAccepting_3 : decode cX0_isAccepting 3 = .ok (.iconst 1, 1) := by decide +kernel
theorem dX0_isAccepting_4 : decode cX0_isAccepting 4 = .ok (.if_icmp .ne 7, 3) := by decide +kernel
theorem dX0_isAccepting_7 : decode cX0_isAccepting 7 = .ok (.iconst 1, 1) := by decide +kernel
theorem dX0_isAccepting_8 : decode cX0_isAccepting 8 = .ok (.goto 4, 3) := by decide +kernel
theorem dX0_isAccepting_11 : decode cX0_isAccepting 11 = .ok (.iconst 0, 1) := by decide +kernel
theorem dX0_isAccepting_12 : decode cX0_isAccepting 12 = .ok (.ireturn, 1) := by decide +kernel
theorem dX0_find_0 : decode cX0_find 0 = .ok (.aload_n 0, 1) := by decide +kernel
theorem dX0_find_1 : decode cX0_find 1 = .ok (.getfield 25, 3) := by decide +kernel
theorem dX0_find_4 : decode cX0_find 4 = .ok (.aload_n 0, 1) := by decide +kernel
theorem dX0_find_5 : decode cX0_find 5 = .ok (.getfield 12, 3) := by decide +kernel
theorem dX0_find_8 : decode cX0_find 8 = .ok (.invokevirtual 73, 3) := by decide +kernel
theorem dX0_find_11 : decode cX0_find 11 = .ok (.aload_n 0, 1) := by decide +kernel
theorem dX0_find_12 : decode cX0_find 12 = .ok (.lconst 0, 1) := by decide +kernel
theorem dX0_find_13 : decode cX0_find 13 = .ok (.putfield 39, 3) := by decide +kernel
theorem dX0_find_16 : decode cX0_find 16 = .ok (.aload_n 0, 1) := by decide +kernel
theorem dX0_find_17 : decode cX0_find 17 = .ok (.iconst 0, 1) := by decide +kernel
theorem dX0_find_18 : decode cX0_find 18 = .ok (.putfield 31, 3) := by decide +kernel
theorem dX0_find_21 : decode cX0_find 21 = .ok (.aload_n 0, 1) := by decide +kernel
theorem dX0_find_22 : decode cX0_find 22 = .ok (.aload_n 0, 1) := by decide +kernel
theorem dX0_find_23 : decode cX0_find 23 = .ok (.invokevirtual 77, 3) := by decide +kernel
theorem dX0_find_26 : decode cX0_find 26 = .ok (.iconst 0, 1) := by decide +kernel
theorem dX0_find_27 : decode cX0_find 27 = .ok (.aload_n 0, 1) := by decide +kernel
theorem dX0_find_28 : decode cX0_find 28 = .ok (.invokevirtual 77, 3) := by decide +kernel
theorem dX0_find_31 : decode cX0_find 31 = .ok (.invokevirtual 81, 3) := by decide +kernel
theorem dX0_find_34 : decode cX0_find 34 = .ok (.iconst 0, 1) := by decide +kernel
theorem dX0_find_35 : decode cX0_find 35 = .ok (.istore_n 1, 1) := by decide +kernel
theorem dX0_find_36 : decode cX0_find 36 = .ok (.iconst 0, 1) := by decide +kernel
theorem dX0_find_37 : decode cX0_find 37 = .ok (.istore_n 2, 1) := by decide +kernel
theorem dX0_find_38 : decode cX0_find 38 = .ok (.iload_n 2, 1) := by decide +kernel
theorem dX0_find_39 : decode cX0_find 39 = .ok (.bipush 64, 2) := by decide +kernel
theorem dX0_find_41 : decode cX0_find 41 = .ok (.if_icmp .ge 80, 3) := by decide +kernel
theorem dX0_find_44 : decode cX0_find 44 = .ok (.iload_n 1, 1) := by decide +kernel
theorem dX0_find_45 : decode cX0_find 45 = .ok (.aload_n 0, 1) := by decide +kernel
theorem dX0_find_46 : decode cX0_find 46 = .ok (.getfield 31, 3) := by decide +kernel
theorem dX0_find_49 : decode cX0_find 49 = .ok (.if_icmp .ge 72, 3) := by decide +kernel
theorem dX0_find_52 : decode cX0_find 52 = .ok (.aload_n 0, 1) := by decide +kernel
theorem dX0_find_53 : decode cX0_find 53 = .ok (.getfield 31, 3) := by decide +kernel
theorem dX0_find_56 : decode cX0_find 56 = .ok (.istore_n 3, 1) := by decide +kernel
theorem dX0_find_57 : decode cX0_find 57 = .ok (.iconst 0, 1) := by decide +kernel
theorem dX0_find_58 : decode cX0_find 58 = .ok (.istore 4, 2) := by decide +kernel
theorem dX0_find_60 : decode cX0_find 60 = .ok (.iload 4, 2) := by decide +kernel
theorem dX0_find_62 : decode cX0_find 62 = .ok (.iconst 3, 1) := by decide +kernel
theorem dX0_find_63 : decode cX0_find 63 = .ok (.if_icmp .ge 50, 3) := by decide +kernel
theorem dX0_find_66 : decode cX0_find 66 = .ok (.iload_n 1, 1) := by decide +kernel
theorem dX0_find_67 : decode cX0_find 67 = .ok (.istore 5, 2) := by decide +kernel
theorem dX0_find_69 : decode cX0_find 69 = .ok (.iload 5, 2) := by decide +kernel
theorem dX0_find_71 : decode cX0_find 71 = .ok (.iload_n 3, 1) := by decide +kernel
theorem dX0_find_72 : decode cX0_find 72 = .ok (.if_icmp .ge 35, 3) := by decide +kernel
theorem dX0_find_75 : decode cX0_find 75 = .ok (.aload_n 0, 1) := by decide +kernel
theorem dX0_find_76 : decode cX0_find 76 = .ok (.aload_n 0, 1) := by decide +kernel
theorem dX0_find_77 : decode cX0_find 77 = .ok (.aload_n 0, 1) := by decide +kernel
theorem dX0_find_78 : decode cX0_find 78 = .ok (.getfield 35, 3) := by decide +kernel
theorem dX0_find_81 : decode cX0_find 81 = .ok (.iload 5, 2) := by decide +kernel
theorem dX0_find_83 : decode cX0_find 83 = .ok (.iaload, 1) := by decide +kernel
theorem dX0_find_84 : decode cX0_find 84 = .ok (.iload 4, 2) := by decide +kernel
theorem dX0_find_86 : decode cX0_find 86 = .ok (.invokevirtual 85, 3) := by decide +kernel
theorem dX0_find_89 : decode cX0_find 89 = .ok (.iload 4, 2) := by decide +kernel
theorem dX0_find_91 : decode cX0_find 91 = .ok (.aload_n 0, 1) := by decide +kernel
theorem dX0_find_92 : decode cX0_find 92 = .ok (.getfield 35, 3) := by decide +kernel
theorem dX0_find_95 : decode cX0_find 95 = .ok (.iload 5, 2) := by decide +kernel
theorem dX0_find_97 : decode cX0_find 97 = .ok (.iaload, 1) := by decide +kernel
theorem dX0_find_98 : decode cX0_find 98 = .ok (.invokevirtual 81, 3) := by decide +kernel
theorem dX0_find_101 : decode cX0_find 101 = .ok (.iinc 5 1, 3) := by decide +kernel
theorem dX0_find_104 : decode cX0_find 104 = .ok (.goto (-35), 3) := by decide +kernel
theorem dX0_find_107 : decode cX0_find 107 = .ok (.iinc 4 1, 3) := by decide +kernel
theorem dX0_find_110 : decode cX0_find 110 = .ok (.goto (-50), 3) := by decide +kernel
theorem dX0_find_113 : decode cX0_find 113 = .ok (.iload_n 3, 1) := by decide +kernel
theorem dX0_find_114 : decode cX0_find 114 = .ok (.istore_n 1, 1) := by decide +kernel
theorem dX0_find_115 : decode cX0_find 115 = .ok (.iinc 2 1, 3) := by decide +kernel
theorem dX0_find_118 : decode cX0_find 118 = .ok (.goto (-80), 3) := by decide +kernel
theorem dX0_find_121 : decode cX0_find 121 = .ok (.return_, 1) := by decide +kernel
theorem dX0_addAtom_0 : decode cX0_addAtom 0 = .ok (.aload_n 0, 1) := by decide +kernel
theorem dX0_addAtom_1 : decode cX0_addAtom 1 = .ok (.getfield 39, 3) := by decide +kernel
theorem dX0_addAtom_4 : decode cX0_addAtom 4 = .ok (.iload_n 1, 1) := by decide +kernel
theorem dX0_addAtom_5 : decode cX0_addAtom 5 = .ok (.invokestatic 88, 3) := by decide +kernel
theorem dX0_addAtom_8 : decode cX0_addAtom 8 = .ok (.ifCond .ne 49, 3) := by decide +kernel
theorem dX0_addAtom_11 : decode cX0_addAtom 11 = .ok (.aload_n 0, 1) := by decide +kernel
theorem dX0_addAtom_12 : decode cX0_addAtom 12 = .ok (.dup, 1) := by decide +kernel
theorem dX0_addAtom_13 : decode cX0_addAtom 13 = .ok (.getfield 39, 3) := by decide +kernel
theorem dX0_addAtom_16 : decode cX0_addAtom 16 = .ok (.lconst 1, 1) := by decide +kernel
theorem dX0_addAtom_17 : decode cX0_addAtom 17 = .ok (.iload_n 1, 1) := by decide +kernel
theorem dX0_addAtom_18 : decode cX0_addAtom 18 = .ok (.lshl, 1) := by decide +kernel
theorem dX0_addAtom_19 : decode cX0_addAtom 19 = .ok (.lor, 1) := by decide +kernel
theorem dX0_addAtom_20 : decode cX0_addAtom 20 = .ok (.putfield 39, 3) := by decide +kernel
theorem dX0_addAtom_23 : decode cX0_addAtom 23 = .ok (.aload_n 0, 1) := by decide +kernel
theorem dX0_addAtom_24 : decode cX0_addAtom 24 = .ok (.getfield 43, 3) := by decide +kernel
theorem dX0_addAtom_27 : decode cX0_addAtom 27 = .ok (.iload_n 1, 1) := by decide +kernel
theorem dX0_addAtom_28 : decode cX0_addAtom 28 = .ok (.iload_n 2, 1) := by decide +kernel
theorem dX0_addAtom_29 : decode cX0_addAtom 29 = .ok (.iastore, 1) := by decide +kernel
theorem dX0_addAtom_30 : decode cX0_addAtom 30 = .ok (.aload_n 0, 1) := by decide +kernel
theorem dX0_addAtom_31 : decode cX0_addAtom 31 = .ok (.getfield 46, 3) := by decide +kernel
theorem dX0_addAtom_34 : decode cX0_addAtom 34 = .ok (.iload_n 1, 1) := by decide +kernel
theorem dX0_addAtom_35 : decode cX0_addAtom 35 = .ok (.iload_n 3, 1) := by decide +kernel
theorem dX0_addAtom_36 : decode cX0_addAtom 36 = .ok (.iastore, 1) := by decide +kernel
theorem dX0_addAtom_37 : decode cX0_addAtom 37 = .ok (.aload_n 0, 1) := by decide +kernel
theorem dX0_addAtom_38 : decode cX0_addAtom 38 = .ok (.getfield 35, 3) := by decide +kernel
theorem dX0_addAtom_41 : decode cX0_addAtom 41 = .ok (.aload_n 0, 1) := by decide +kernel
theorem dX0_addAtom_42 : decode cX0_addAtom 42 = .ok (.getfield 31, 3) := by decide +kernel
theorem dX0_addAtom_45 : decode cX0_addAtom 45 = .ok (.iload_n 1, 1) := by decide +kernel
theorem dX0_addAtom_46 : decode cX0_addAtom 46 = .ok (.iastore, 1) := by decide +kernel
theorem dX0_addAtom_47 : decode cX0_addAtom 47 = .ok (.aload_n 0, 1) := by decide +kernel
theorem dX0_addAtom_48 : decode cX0_addAtom 48 = .ok (.dup, 1) := by decide +kernel
theorem dX0_addAtom_49 : decode cX0_addAtom 49 = .ok (.getfield 31, 3) := by decide +kernel
theorem dX0_addAtom_52 : decode cX0_addAtom 52 = .ok (.iconst 1, 1) := by decide +kernel
theorem dX0_addAtom_53 : decode cX0_addAtom 53 = .ok (.iadd, 1) := by decide +kernel
theorem dX0_addAtom_54 : decode cX0_addAtom 54 = .ok (.putfield 31, 3) := by decide +kernel
theorem dX0_addAtom_57 : decode cX0_addAtom 57 = .ok (.return_, 1) := by decide +kernel
theorem dX0_holds_0 : decode cX0_holds 0 = .ok (.lload_n 0, 1) := by decide +kernel
theorem dX0_holds_1 : decode cX0_holds 1 = .ok (.iload_n 2, 1) := by decide +kernel
theorem dX0_holds_2 : decode cX0_holds 2 = .ok (.lushr, 1) := by decide +kernel
theorem dX0_holds_3 : decode cX0_holds 3 = .ok (.lconst 1, 1) := by decide +kernel
theorem dX0_holds_4 : decode cX0_holds 4 = .ok (.land, 1) := by decide +kernel
theorem dX0_holds_5 : decode cX0_holds 5 = .ok (.lconst 1, 1) := by decide +kernel
theorem dX0_holds_6 : decode cX0_holds 6 = .ok (.lcmp, 1) := by decide +kernel
theorem dX0_holds_7 : decode cX0_holds 7 = .ok (.ifCond .ne 7, 3) := by decide +kernel
theorem dX0_holds_10 : decode cX0_holds 10 = .ok (.iconst 1, 1) := by decide +kernel
theorem dX0_holds_11 : decode cX0_holds 11 = .ok (.goto 4, 3) := by decide +kernel
theorem dX0_holds_14 : decode cX0_holds 14 = .ok (.iconst 0, 1) := by decide +kernel
theorem dX0_holds_15 : decode cX0_holds 15 = .ok (.ireturn, 1) := by decide +kernel
theorem dX0_numberOf_0 : decode cX0_numberOf 0 = .ok (.aload_n 0, 1) := by decide +kernel
theorem dX0_numberOf_1 : decode cX0_numberOf 1 = .ok (.getfield 39, 3) := by decide +kernel
theorem dX0_numberOf_4 : decode cX0_numberOf 4 = .ok (.lconst 1, 1) := by decide +kernel
theorem dX0_numberOf_5 : decode cX0_numberOf 5 = .ok (.iload_n 1, 1) := by decide +kernel
theorem dX0_numberOf_6 : decode cX0_numberOf 6 = .ok (.lshl, 1) := by decide +kernel
theorem dX0_numberOf_7 : decode cX0_numberOf 7 = .ok (.lconst 1, 1) := by decide +kernel
theorem dX0_numberOf_8 : decode cX0_numberOf 8 = .ok (.lsub, 1) := by decide +kernel
theorem dX0_numberOf_9 : decode cX0_numberOf 9 = .ok (.land, 1) := by decide +kernel
theorem dX0_numberOf_10 : decode cX0_numberOf 10 = .ok (.invokestatic 92, 3) := by decide +kernel
theorem dX0_numberOf_13 : decode cX0_numberOf 13 = .ok (.ireturn, 1) := by decide +kernel
theorem dX0_setOf_0 : decode cX0_setOf 0 = .ok (.iconst 0, 1) := by decide +kernel
theorem dX0_setOf_1 : decode cX0_setOf 1 = .ok (.istore_n 2, 1) := by decide +kernel
theorem dX0_setOf_2 : decode cX0_setOf 2 = .ok (.iconst 0, 1) := by decide +kernel
theorem dX0_setOf_3 : decode cX0_setOf 3 = .ok (.istore_n 3, 1) := by decide +kernel
theorem dX0_setOf_4 : decode cX0_setOf 4 = .ok (.iload_n 3, 1) := by decide +kernel
theorem dX0_setOf_5 : decode cX0_setOf 5 = .ok (.bipush 64, 2) := by decide +kernel
theorem dX0_setOf_7 : decode cX0_setOf 7 = .ok (.if_icmp .ge 30, 3) := by decide +kernel
theorem dX0_setOf_10 : decode cX0_setOf 10 = .ok (.aload_n 0, 1) := by decide +kernel
theorem dX0_setOf_11 : decode cX0_setOf 11 = .ok (.getfield 39, 3) := by decide +kernel
theorem dX0_setOf_14 : decode cX0_setOf 14 = .ok (.iload_n 3, 1) := by decide +kernel
theorem dX0_setOf_15 : decode cX0_setOf 15 = .ok (.invokestatic 88, 3) := by decide +kernel
theorem dX0_setOf_18 : decode cX0_setOf 18 = .ok (.ifCond .eq 13, 3) := by decide +kernel
theorem dX0_setOf_21 : decode cX0_setOf 21 = .ok (.iload_n 2, 1) := by decide +kernel
theorem dX0_setOf_22 : decode cX0_setOf 22 = .ok (.iload_n 1, 1) := by decide +kernel
theorem dX0_setOf_23 : decode cX0_setOf 23 = .ok (.if_icmp .ne 5, 3) := by decide +kernel
theorem dX0_setOf_26 : decode cX0_setOf 26 = .ok (.iload_n 3, 1) := by decide +kernel
theorem dX0_setOf_27 : decode cX0_setOf 27 = .ok (.ireturn, 1) := by decide +kernel
theorem dX0_setOf_28 : decode cX0_setOf 28 = .ok (.iinc 2 1, 3) := by decide +kernel
theorem dX0_setOf_31 : decode cX0_setOf 31 = .ok (.iinc 3 1, 3) := by decide +kernel
theorem dX0_setOf_34 : decode cX0_setOf 34 = .ok (.goto (-30), 3) := by decide +kernel
theorem dX0_setOf_37 : decode cX0_setOf 37 = .ok (.iconst 0, 1) := by decide +kernel
theorem dX0_setOf_38 : decode cX0_setOf 38 = .ok (.ireturn, 1) := by decide +kernel
theorem dX0_setOfWord_0 : decode cX0_setOfWord 0 = .ok (.aload_n 0, 1) := by decide +kernel
theorem dX0_setOfWord_1 : decode cX0_setOfWord 1 = .ok (.invokevirtual 77, 3) := by decide +kernel
theorem dX0_setOfWord_4 : decode cX0_setOfWord 4 = .ok (.istore_n 2, 1) := by decide +kernel
theorem dX0_setOfWord_5 : decode cX0_setOfWord 5 = .ok (.aload_n 1, 1) := by decide +kernel
theorem dX0_setOfWord_6 : decode cX0_setOfWord 6 = .ok (.getfield 98, 3) := by decide +kernel
theorem dX0_setOfWord_9 : decode cX0_setOfWord 9 = .ok (.iconst 1, 1) := by decide +kernel
theorem dX0_setOfWord_10 : decode cX0_setOfWord 10 = .ok (.isub, 1) := by decide +kernel
theorem dX0_setOfWord_11 : decode cX0_setOfWord 11 = .ok (.istore_n 3, 1) := by decide +kernel
theorem dX0_setOfWord_12 : decode cX0_setOfWord 12 = .ok (.iload_n 3, 1) := by decide +kernel
theorem dX0_setOfWord_13 : decode cX0_setOfWord 13 = .ok (.ifCond .lt 21, 3) := by decide +kernel
theorem dX0_setOfWord_16 : decode cX0_setOfWord 16 = .ok (.aload_n 0, 1) := by decide +kernel
theorem dX0_setOfWord_17 : decode cX0_setOfWord 17 = .ok (.iload_n 2, 1) := by decide +kernel
theorem dX0_setOfWord_18 : decode cX0_setOfWord 18 = .ok (.aload_n 1, 1) := by decide +kernel
theorem dX0_setOfWord_19 : decode cX0_setOfWord 19 = .ok (.getfield 103, 3) := by decide +kernel
theorem dX0_setOfWord_22 : decode cX0_setOfWord 22 = .ok (.iload_n 3, 1) := by decide +kernel
theorem dX0_setOfWord_23 : decode cX0_setOfWord 23 = .ok (.iaload, 1) := by decide +kernel
theorem dX0_setOfWord_24 : decode cX0_setOfWord 24 = .ok (.invokevirtual 85, 3) := by decide +kernel
theorem dX0_setOfWord_27 : decode cX0_setOfWord 27 = .ok (.istore_n 2, 1) := by decide +kernel
theorem dX0_setOfWord_28 : decode cX0_setOfWord 28 = .ok (.iinc 3 (-1), 3) := by decide +kernel
theorem dX0_setOfWord_31 : decode cX0_setOfWord 31 = .ok (.goto (-19), 3) := by decide +kernel
theorem dX0_setOfWord_34 : decode cX0_setOfWord 34 = .ok (.iload_n 2, 1) := by decide +kernel
theorem dX0_setOfWord_35 : decode cX0_setOfWord 35 = .ok (.ireturn, 1) := by decide +kernel
theorem dX0_targetsOf_0 : decode cX0_targetsOf 0 = .ok (.lconst 0, 1) := by decide +kernel
theorem dX0_targetsOf_1 : decode cX0_targetsOf 1 = .ok (.lstore_n 3, 1) := by decide +kernel
theorem dX0_targetsOf_2 : decode cX0_targetsOf 2 = .ok (.iconst 0, 1) := by decide +kernel
theorem dX0_targetsOf_3 : decode cX0_targetsOf 3 = .ok (.istore 5, 2) := by decide +kernel
theorem dX0_targetsOf_5 : decode cX0_targetsOf 5 = .ok (.iload 5, 2) := by decide +kernel
theorem dX0_targetsOf_7 : decode cX0_targetsOf 7 = .ok (.aload_n 0, 1) := by decide +kernel
theorem dX0_targetsOf_8 : decode cX0_targetsOf 8 = .ok (.getfield 31, 3) := by decide +kernel
theorem dX0_targetsOf_11 : decode cX0_targetsOf 11 = .ok (.if_icmp .ge 41, 3) := by decide +kernel
theorem dX0_targetsOf_14 : decode cX0_targetsOf 14 = .ok (.aload_n 0, 1) := by decide +kernel
theorem dX0_targetsOf_15 : decode cX0_targetsOf 15 = .ok (.aload_n 0, 1) := by decide +kernel
theorem dX0_targetsOf_16 : decode cX0_targetsOf 16 = .ok (.getfield 35, 3) := by decide +kernel
theorem dX0_targetsOf_19 : decode cX0_targetsOf 19 = .ok (.iload 5, 2) := by decide +kernel
theorem dX0_targetsOf_21 : decode cX0_targetsOf 21 = .ok (.iaload, 1) := by decide +kernel
theorem dX0_targetsOf_22 : decode cX0_targetsOf 22 = .ok (.iload_n 2, 1) := by decide +kernel
theorem dX0_targetsOf_23 : decode cX0_targetsOf 23 = .ok (.invokevirtual 85, 3) := by decide +kernel
theorem dX0_targetsOf_26 : decode cX0_targetsOf 26 = .ok (.iload_n 1, 1) := by decide +kernel
theorem dX0_targetsOf_27 : decode cX0_targetsOf 27 = .ok (.if_icmp .ne 19, 3) := by decide +kernel
theorem dX0_targetsOf_30 : decode cX0_targetsOf 30 = .ok (.lload_n 3, 1) := by decide +kernel
theorem dX0_targetsOf_31 : decode cX0_targetsOf 31 = .ok (.lconst 1, 1) := by decide +kernel
theorem dX0_targetsOf_32 : decode cX0_targetsOf 32 = .ok (.aload_n 0, 1) := by decide +kernel
theorem dX0_targetsOf_33 : decode cX0_targetsOf 33 = .ok (.aload_n 0, 1) := by decide +kernel
theorem dX0_targetsOf_34 : decode cX0_targetsOf 34 = .ok (.getfield 35, 3) := by decide +kernel
theorem dX0_targetsOf_37 : decode cX0_targetsOf 37 = .ok (.iload 5, 2) := by decide +kernel
theorem dX0_targetsOf_39 : decode cX0_targetsOf 39 = .ok (.iaload, 1) := by decide +kernel
theorem dX0_targetsOf_40 : decode cX0_targetsOf 40 = .ok (.invokevirtual 106, 3) := by decide +kernel
theorem dX0_targetsOf_43 : decode cX0_targetsOf 43 = .ok (.lshl, 1) := by decide +kernel
theorem dX0_targetsOf_44 : decode cX0_targetsOf 44 = .ok (.lor, 1) := by decide +kernel
theorem dX0_targetsOf_45 : decode cX0_targetsOf 45 = .ok (.lstore_n 3, 1) := by decide +kernel
theorem dX0_targetsOf_46 : decode cX0_targetsOf 46 = .ok (.iinc 5 1, 3) := by decide +kernel
theorem dX0_targetsOf_49 : decode cX0_targetsOf 49 = .ok (.goto (-44), 3) := by decide +kernel
theorem dX0_targetsOf_52 : decode cX0_targetsOf 52 = .ok (.lload_n 3, 1) := by decide +kernel
theorem dX0_targetsOf_53 : decode cX0_targetsOf 53 = .ok (.lreturn, 1) := by decide +kernel
theorem dX0_initialOnes_0 : decode cX0_initialOnes 0 = .ok (.lconst 0, 1) := by decide +kernel
theorem dX0_initialOnes_1 : decode cX0_initialOnes 1 = .ok (.lstore_n 1, 1) := by decide +kernel
theorem dX0_initialOnes_2 : decode cX0_initialOnes 2 = .ok (.iconst 0, 1) := by decide +kernel
theorem dX0_initialOnes_3 : decode cX0_initialOnes 3 = .ok (.istore_n 3, 1) := by decide +kernel
theorem dX0_initialOnes_4 : decode cX0_initialOnes 4 = .ok (.iload_n 3, 1) := by decide +kernel
theorem dX0_initialOnes_5 : decode cX0_initialOnes 5 = .ok (.aload_n 0, 1) := by decide +kernel
theorem dX0_initialOnes_6 : decode cX0_initialOnes 6 = .ok (.getfield 31, 3) := by decide +kernel
theorem dX0_initialOnes_9 : decode cX0_initialOnes 9 = .ok (.if_icmp .ge 37, 3) := by decide +kernel
theorem dX0_initialOnes_12 : decode cX0_initialOnes 12 = .ok (.aload_n 0, 1) := by decide +kernel
theorem dX0_initialOnes_13 : decode cX0_initialOnes 13 = .ok (.aload_n 0, 1) := by decide +kernel
theorem dX0_initialOnes_14 : decode cX0_initialOnes 14 = .ok (.getfield 35, 3) := by decide +kernel
theorem dX0_initialOnes_17 : decode cX0_initialOnes 17 = .ok (.iload_n 3, 1) := by decide +kernel
theorem dX0_initialOnes_18 : decode cX0_initialOnes 18 = .ok (.iaload, 1) := by decide +kernel
theorem dX0_initialOnes_19 : decode cX0_initialOnes 19 = .ok (.invokevirtual 110, 3) := by decide +kernel
theorem dX0_initialOnes_22 : decode cX0_initialOnes 22 = .ok (.ifCond .eq 18, 3) := by decide +kernel
theorem dX0_initialOnes_25 : decode cX0_initialOnes 25 = .ok (.lload_n 1, 1) := by decide +kernel
theorem dX0_initialOnes_26 : decode cX0_initialOnes 26 = .ok (.lconst 1, 1) := by decide +kernel
theorem dX0_initialOnes_27 : decode cX0_initialOnes 27 = .ok (.aload_n 0, 1) := by decide +kernel
theorem dX0_initialOnes_28 : decode cX0_initialOnes 28 = .ok (.aload_n 0, 1) := by decide +kernel
theorem dX0_initialOnes_29 : decode cX0_initialOnes 29 = .ok (.getfield 35, 3) := by decide +kernel
theorem dX0_initialOnes_32 : decode cX0_initialOnes 32 = .ok (.iload_n 3, 1) := by decide +kernel
theorem dX0_initialOnes_33 : decode cX0_initialOnes 33 = .ok (.iaload, 1) := by decide +kernel
theorem dX0_initialOnes_34 : decode cX0_initialOnes 34 = .ok (.invokevirtual 106, 3) := by decide +kernel
theorem dX0_initialOnes_37 : decode cX0_initialOnes 37 = .ok (.lshl, 1) := by decide +kernel
theorem dX0_initialOnes_38 : decode cX0_initialOnes 38 = .ok (.lor, 1) := by decide +kernel
theorem dX0_initialOnes_39 : decode cX0_initialOnes 39 = .ok (.lstore_n 1, 1) := by decide +kernel
theorem dX0_initialOnes_40 : decode cX0_initialOnes 40 = .ok (.iinc 3 1, 3) := by decide +kernel
theorem dX0_initialOnes_43 : decode cX0_initialOnes 43 = .ok (.goto (-39), 3) := by decide +kernel
theorem dX0_initialOnes_46 : decode cX0_initialOnes 46 = .ok (.lload_n 1, 1) := by decide +kernel
theorem dX0_initialOnes_47 : decode cX0_initialOnes 47 = .ok (.lreturn, 1) := by decide +kernel
theorem dX0_firstWordLength_0 : decode cX0_firstWordLength 0 = .ok (.iconst 0, 1) := by decide +kernel
theorem dX0_firstWordLength_1 : decode cX0_firstWordLength 1 = .ok (.istore_n 2, 1) := by decide +kernel
theorem dX0_firstWordLength_2 : decode cX0_firstWordLength 2 = .ok (.iload_n 1, 1) := by decide +kernel
theorem dX0_firstWordLength_3 : decode cX0_firstWordLength 3 = .ok (.istore_n 3, 1) := by decide +kernel
theorem dX0_firstWordLength_4 : decode cX0_firstWordLength 4 = .ok (.iload_n 3, 1) := by decide +kernel
theorem dX0_firstWordLength_5 : decode cX0_firstWordLength 5 = .ok (.aload_n 0, 1) := by decide +kernel
theorem dX0_firstWordLength_6 : decode cX0_firstWordLength 6 = .ok (.invokevirtual 77, 3) := by decide +kernel
theorem dX0_firstWordLength_9 : decode cX0_firstWordLength 9 = .ok (.if_icmp .eq 22, 3) := by decide +kernel
theorem dX0_firstWordLength_12 : decode cX0_firstWordLength 12 = .ok (.iload_n 2, 1) := by decide +kernel
theorem dX0_firstWordLength_13 : decode cX0_firstWordLength 13 = .ok (.bipush 64, 2) := by decide +kernel
theorem dX0_firstWordLength_15 : decode cX0_firstWordLength 15 = .ok (.if_icmp .ge 16, 3) := by decide +kernel
theorem dX0_firstWordLength_18 : decode cX0_firstWordLength 18 = .ok (.aload_n 0, 1) := by decide +kernel
theorem dX0_firstWordLength_19 : decode cX0_firstWordLength 19 = .ok (.getfield 46, 3) := by decide +kernel
theorem dX0_firstWordLength_22 : decode cX0_firstWordLength 22 = .ok (.iload_n 3, 1) := by decide +kernel
theorem dX0_firstWordLength_23 : decode cX0_firstWordLength 23 = .ok (.iaload, 1) := by decide +kernel
theorem dX0_firstWordLength_24 : decode cX0_firstWordLength 24 = .ok (.istore_n 3, 1) := by decide +kernel
theorem dX0_firstWordLength_25 : decode cX0_firstWordLength 25 = .ok (.iinc 2 1, 3) := by decide +kernel
theorem dX0_firstWordLength_28 : decode cX0_firstWordLength 28 = .ok (.goto (-24), 3) := by decide +kernel
theorem dX0_firstWordLength_31 : decode cX0_firstWordLength 31 = .ok (.iload_n 2, 1) := by decide +kernel
theorem dX0_firstWordLength_32 : decode cX0_firstWordLength 32 = .ok (.ireturn, 1) := by decide +kernel
theorem dX0_writeFirstWord_0 : decode cX0_writeFirstWord 0 = .ok (.aload_n 0, 1) := by decide +kernel
theorem dX0_writeFirstWord_1 : decode cX0_writeFirstWord 1 = .ok (.iload_n 1, 1) := by decide +kernel
theorem dX0_writeFirstWord_2 : decode cX0_writeFirstWord 2 = .ok (.invokevirtual 114, 3) := by decide +kernel
theorem dX0_writeFirstWord_5 : decode cX0_writeFirstWord 5 = .ok (.istore_n 3, 1) := by decide +kernel
theorem dX0_writeFirstWord_6 : decode cX0_writeFirstWord 6 = .ok (.iload_n 1, 1) := by decide +kernel
theorem dX0_writeFirstWord_7 : decode cX0_writeFirstWord 7 = .ok (.istore 4, 2) := by decide +kernel
theorem dX0_writeFirstWord_9 : decode cX0_writeFirstWord 9 = .ok (.aload_n 2, 1) := by decide +kernel
theorem dX0_writeFirstWord_10 : decode cX0_writeFirstWord 10 = .ok (.iconst 0, 1) := by decide +kernel
theorem dX0_writeFirstWord_11 : decode cX0_writeFirstWord 11 = .ok (.putfield 98, 3) := by decide +kernel
theorem dX0_writeFirstWord_14 : decode cX0_writeFirstWord 14 = .ok (.iconst 0, 1) := by decide +kernel
theorem dX0_writeFirstWord_15 : decode cX0_writeFirstWord 15 = .ok (.istore 5, 2) := by decide +kernel
theorem dX0_writeFirstWord_17 : decode cX0_writeFirstWord 17 = .ok (.iload 5, 2) := by decide +kernel
theorem dX0_writeFirstWord_19 : decode cX0_writeFirstWord 19 = .ok (.iload_n 3, 1) := by decide +kernel
theorem dX0_writeFirstWord_20 : decode cX0_writeFirstWord 20 = .ok (.if_icmp .ge 29, 3) := by decide +kernel
theorem dX0_writeFirstWord_23 : decode cX0_writeFirstWord 23 = .ok (.aload_n 2, 1) := by decide +kernel
theorem dX0_writeFirstWord_24 : decode cX0_writeFirstWord 24 = .ok (.aload_n 0, 1) := by decide +kernel
theorem dX0_writeFirstWord_25 : decode cX0_writeFirstWord 25 = .ok (.getfield 43, 3) := by decide +kernel
theorem dX0_writeFirstWord_28 : decode cX0_writeFirstWord 28 = .ok (.iload 4, 2) := by decide +kernel
theorem dX0_writeFirstWord_30 : decode cX0_writeFirstWord 30 = .ok (.iaload, 1) := by decide +kernel
theorem dX0_writeFirstWord_31 : decode cX0_writeFirstWord 31 = .ok (.invokevirtual 117, 3) := by decide +kernel
theorem dX0_writeFirstWord_34 : decode cX0_writeFirstWord 34 = .ok (.aload_n 0, 1) := by decide +kernel
theorem dX0_writeFirstWord_35 : decode cX0_writeFirstWord 35 = .ok (.getfield 46, 3) := by decide +kernel
theorem dX0_writeFirstWord_38 : decode cX0_writeFirstWord 38 = .ok (.iload 4, 2) := by decide +kernel
theorem dX0_writeFirstWord_40 : decode cX0_writeFirstWord 40 = .ok (.iaload, 1) := by decide +kernel
theorem dX0_writeFirstWord_41 : decode cX0_writeFirstWord 41 = .ok (.istore 4, 2) := by decide +kernel
theorem dX0_writeFirstWord_43 : decode cX0_writeFirstWord 43 = .ok (.iinc 5 1, 3) := by decide +kernel
theorem dX0_writeFirstWord_46 : decode cX0_writeFirstWord 46 = .ok (.goto (-29), 3) := by decide +kernel
theorem dX0_writeFirstWord_49 : decode cX0_writeFirstWord 49 = .ok (.return_, 1) := by decide +kernel
theorem dX0_countQuotients_0 : decode cX0_countQuotients 0 = .ok (.aload_n 0, 1) := by decide +kernel
theorem dX0_countQuotients_1 : decode cX0_countQuotients 1 = .ok (.getfield 21, 3) := by decide +kernel
theorem dX0_countQuotients_4 : decode cX0_countQuotients 4 = .ok (.aload_n 0, 1) := by decide +kernel
theorem dX0_countQuotients_5 : decode cX0_countQuotients 5 = .ok (.getfield 12, 3) := by decide +kernel
theorem dX0_countQuotients_8 : decode cX0_countQuotients 8 = .ok (.invokevirtual 121, 3) := by decide +kernel
theorem dX0_countQuotients_11 : decode cX0_countQuotients 11 = .ok (.aload_n 0, 1) := by decide +kernel
theorem dX0_countQuotients_12 : decode cX0_countQuotients 12 = .ok (.invokevirtual 124, 3) := by decide +kernel
theorem dX0_countQuotients_15 : decode cX0_countQuotients 15 = .ok (.aload_n 0, 1) := by decide +kernel
theorem dX0_countQuotients_16 : decode cX0_countQuotients 16 = .ok (.getfield 62, 3) := by decide +kernel
theorem dX0_countQuotients_19 : decode cX0_countQuotients 19 = .ok (.sipush 730, 3) := by decide +kernel
theorem dX0_countQuotients_22 : decode cX0_countQuotients 22 = .ok (.invokevirtual 127, 3) := by decide +kernel
theorem dX0_countQuotients_25 : decode cX0_countQuotients 25 = .ok (.aload_n 0, 1) := by decide +kernel
theorem dX0_countQuotients_26 : decode cX0_countQuotients 26 = .ok (.iload_n 1, 1) := by decide +kernel
theorem dX0_countQuotients_27 : decode cX0_countQuotients 27 = .ok (.iconst 1, 1) := by decide +kernel
theorem dX0_countQuotients_28 : decode cX0_countQuotients 28 = .ok (.aload_n 0, 1) := by decide +kernel
theorem dX0_countQuotients_29 : decode cX0_countQuotients 29 = .ok (.getfield 12, 3) := by decide +kernel
theorem dX0_countQuotients_32 : decode cX0_countQuotients 32 = .ok (.getfield 132, 3) := by decide +kernel
theorem dX0_countQuotients_35 : decode cX0_countQuotients 35 = .ok (.ishl, 1) := by decide +kernel
theorem dX0_countQuotients_36 : decode cX0_countQuotients 36 = .ok (.iconst 1, 1) := by decide +kernel
theorem dX0_countQuotients_37 : decode cX0_countQuotients 37 = .ok (.isub, 1) := by decide +kernel
theorem dX0_countQuotients_38 : decode cX0_countQuotients 38 = .ok (.iload_n 1, 1) := by decide +kernel
theorem dX0_countQuotients_39 : decode cX0_countQuotients 39 = .ok (.iconst (-1), 1) := by decide +kernel
theorem dX0_countQuotients_40 : decode cX0_countQuotients 40 = .ok (.ixor, 1) := by decide +kernel
theorem dX0_countQuotients_41 : decode cX0_countQuotients 41 = .ok (.iand, 1) := by decide +kernel
theorem dX0_countQuotients_42 : decode cX0_countQuotients 42 = .ok (.invokevirtual 135, 3) := by decide +kernel
theorem dX0_countQuotients_45 : decode cX0_countQuotients 45 = .ok (.iconst 0, 1) := by decide +kernel
theorem dX0_countQuotients_46 : decode cX0_countQuotients 46 = .ok (.istore_n 2, 1) := by decide +kernel
theorem dX0_countQuotients_47 : decode cX0_countQuotients 47 = .ok (.iload_n 2, 1) := by decide +kernel
theorem dX0_countQuotients_48 : decode cX0_countQuotients 48 = .ok (.aload_n 0, 1) := by decide +kernel
theorem dX0_countQuotients_49 : decode cX0_countQuotients 49 = .ok (.getfield 62, 3) := by decide +kernel
theorem dX0_countQuotients_52 : decode cX0_countQuotients 52 = .ok (.getfield 139, 3) := by decide +kernel
theorem dX0_countQuotients_55 : decode cX0_countQuotients 55 = .ok (.if_icmp .ge 77, 3) := by decide +kernel
theorem dX0_countQuotients_58 : decode cX0_countQuotients 58 = .ok (.iload_n 2, 1) := by decide +kernel
theorem dX0_countQuotients_59 : decode cX0_countQuotients 59 = .ok (.sipush 730, 3) := by decide +kernel
theorem dX0_countQuotients_62 : decode cX0_countQuotients 62 = .ok (.if_icmp .ge 70, 3) := by decide +kernel
theorem dX0_countQuotients_65 : decode cX0_countQuotients 65 = .ok (.aload_n 0, 1) := by decide +kernel
theorem dX0_countQuotients_66 : decode cX0_countQuotients 66 = .ok (.getfield 56, 3) := by decide +kernel
theorem dX0_countQuotients_69 : decode cX0_countQuotients 69 = .ok (.iload_n 2, 1) := by decide +kernel
theorem dX0_countQuotients_70 : decode cX0_countQuotients 70 = .ok (.iaload, 1) := by decide +kernel
theorem dX0_countQuotients_71 : decode cX0_countQuotients 71 = .ok (.bipush 64, 2) := by decide +kernel
theorem dX0_countQuotients_73 : decode cX0_countQuotients 73 = .ok (.idiv, 1) := by decide +kernel
theorem dX0_countQuotients_74 : decode cX0_countQuotients 74 = .ok (.istore_n 3, 1) := by decide +kernel
theorem dX0_countQuotients_75 : decode cX0_countQuotients 75 = .ok (.aload_n 0, 1) := by decide +kernel
theorem dX0_countQuotients_76 : decode cX0_countQuotients 76 = .ok (.getfield 56, 3) := by decide +kernel
theorem dX0_countQuotients_79 : decode cX0_countQuotients 79 = .ok (.iload_n 2, 1) := by decide +kernel
theorem dX0_countQuotients_80 : decode cX0_countQuotients 80 = .ok (.iaload, 1) := by decide +kernel
theorem dX0_countQuotients_81 : decode cX0_countQuotients 81 = .ok (.bipush 64, 2) := by decide +kernel
theorem dX0_countQuotients_83 : decode cX0_countQuotients 83 = .ok (.irem, 1) := by decide +kernel
theorem dX0_countQuotients_84 : decode cX0_countQuotients 84 = .ok (.istore 4, 2) := by decide +kernel
theorem dX0_countQuotients_86 : decode cX0_countQuotients 86 = .ok (.iconst 0, 1) := by decide +kernel
theorem dX0_countQuotients_87 : decode cX0_countQuotients 87 = .ok (.istore 5, 2) := by decide +kernel
theorem dX0_countQuotients_89 : decode cX0_countQuotients 89 = .ok (.iload 5, 2) := by decide +kernel
theorem dX0_countQuotients_91 : decode cX0_countQuotients 91 = .ok (.iconst 3, 1) := by decide +kernel
theorem dX0_countQuotients_92 : decode cX0_countQuotients 92 = .ok (.if_icmp .ge 34, 3) := by decide +kernel
theorem dX0_countQuotients_95 : decode cX0_countQuotients 95 = .ok (.aload_n 0, 1) := by decide +kernel
theorem dX0_countQuotients_96 : decode cX0_countQuotients 96 = .ok (.aload_n 0, 1) := by decide +kernel
theorem dX0_countQuotients_97 : decode cX0_countQuotients 97 = .ok (.getfield 21, 3) := by decide +kernel
theorem dX0_countQuotients_100 : decode cX0_countQuotients 100 = .ok (.iload 5, 2) := by decide +kernel
theorem dX0_countQuotients_102 : decode cX0_countQuotients 102 = .ok (.iload_n 3, 1) := by decide +kernel
theorem dX0_countQuotients_103 : decode cX0_countQuotients 103 = .ok (.invokevirtual 69, 3) := by decide +kernel
theorem dX0_countQuotients_106 : decode cX0_countQuotients 106 = .ok (.aload_n 0, 1) := by decide +kernel
theorem dX0_countQuotients_107 : decode cX0_countQuotients 107 = .ok (.getfield 21, 3) := by decide +kernel
theorem dX0_countQuotients_110 : decode cX0_countQuotients 110 = .ok (.iload 5, 2) := by decide +kernel
theorem dX0_countQuotients_112 : decode cX0_countQuotients 112 = .ok (.iload 4, 2) := by decide +kernel
theorem dX0_countQuotients_114 : decode cX0_countQuotients 114 = .ok (.invokevirtual 69, 3) := by decide +kernel
theorem dX0_countQuotients_117 : decode cX0_countQuotients 117 = .ok (.invokevirtual 135, 3) := by decide +kernel
theorem dX0_countQuotients_120 : decode cX0_countQuotients 120 = .ok (.iinc 5 1, 3) := by decide +kernel
theorem dX0_countQuotients_123 : decode cX0_countQuotients 123 = .ok (.goto (-34), 3) := by decide +kernel
theorem dX0_countQuotients_126 : decode cX0_countQuotients 126 = .ok (.iinc 2 1, 3) := by decide +kernel
theorem dX0_countQuotients_129 : decode cX0_countQuotients 129 = .ok (.goto (-82), 3) := by decide +kernel
theorem dX0_countQuotients_132 : decode cX0_countQuotients 132 = .ok (.aload_n 0, 1) := by decide +kernel
theorem dX0_countQuotients_133 : decode cX0_countQuotients 133 = .ok (.getfield 62, 3) := by decide +kernel
theorem dX0_countQuotients_136 : decode cX0_countQuotients 136 = .ok (.getfield 139, 3) := by decide +kernel
theorem dX0_countQuotients_139 : decode cX0_countQuotients 139 = .ok (.ireturn, 1) := by decide +kernel
theorem dX0_addPair_0 : decode cX0_addPair 0 = .ok (.aload_n 0, 1) := by decide +kernel
theorem dX0_addPair_1 : decode cX0_addPair 1 = .ok (.getfield 62, 3) := by decide +kernel
theorem dX0_addPair_4 : decode cX0_addPair 4 = .ok (.getfield 139, 3) := by decide +kernel
theorem dX0_addPair_7 : decode cX0_addPair 7 = .ok (.istore_n 3, 1) := by decide +kernel
theorem dX0_addPair_8 : decode cX0_addPair 8 = .ok (.aload_n 0, 1) := by decide +kernel
theorem dX0_addPair_9 : decode cX0_addPair 9 = .ok (.getfield 62, 3) := by decide +kernel
theorem dX0_addPair_12 : decode cX0_addPair 12 = .ok (.aload_n 0, 1) := by decide +kernel
theorem dX0_addPair_13 : decode cX0_addPair 13 = .ok (.getfield 49, 3) := by decide +kernel
theorem dX0_addPair_16 : decode cX0_addPair 16 = .ok (.iload_n 1, 1) := by decide +kernel
theorem dX0_addPair_17 : decode cX0_addPair 17 = .ok (.laload, 1) := by decide +kernel
theorem dX0_addPair_18 : decode cX0_addPair 18 = .ok (.aload_n 0, 1) := by decide +kernel
theorem dX0_addPair_19 : decode cX0_addPair 19 = .ok (.getfield 53, 3) := by decide +kernel
theorem dX0_addPair_22 : decode cX0_addPair 22 = .ok (.iload_n 2, 1) := by decide +kernel
theorem dX0_addPair_23 : decode cX0_addPair 23 = .ok (.laload, 1) := by decide +kernel
theorem dX0_addPair_24 : decode cX0_addPair 24 = .ok (.land, 1) := by decide +kernel
theorem dX0_addPair_25 : decode cX0_addPair 25 = .ok (.invokevirtual 140, 3) := by decide +kernel
theorem dX0_addPair_28 : decode cX0_addPair 28 = .ok (.pop, 1) := by decide +kernel
theorem dX0_addPair_29 : decode cX0_addPair 29 = .ok (.aload_n 0, 1) := by decide +kernel
theorem dX0_addPair_30 : decode cX0_addPair 30 = .ok (.getfield 62, 3) := by decide +kernel
theorem dX0_addPair_33 : decode cX0_addPair 33 = .ok (.getfield 139, 3) := by decide +kernel
theorem dX0_addPair_36 : decode cX0_addPair 36 = .ok (.iload_n 3, 1) := by decide +kernel
theorem dX0_addPair_37 : decode cX0_addPair 37 = .ok (.if_icmp .le 15, 3) := by decide +kernel
theorem dX0_addPair_40 : decode cX0_addPair 40 = .ok (.aload_n 0, 1) := by decide +kernel
theorem dX0_addPair_41 : decode cX0_addPair 41 = .ok (.getfield 56, 3) := by decide +kernel
theorem dX0_addPair_44 : decode cX0_addPair 44 = .ok (.iload_n 3, 1) := by decide +kernel
theorem dX0_addPair_45 : decode cX0_addPair 45 = .ok (.iload_n 1, 1) := by decide +kernel
theorem dX0_addPair_46 : decode cX0_addPair 46 = .ok (.bipush 64, 2) := by decide +kernel
theorem dX0_addPair_48 : decode cX0_addPair 48 = .ok (.imul, 1) := by decide +kernel
theorem dX0_addPair_49 : decode cX0_addPair 49 = .ok (.iload_n 2, 1) := by decide +kernel
theorem dX0_addPair_50 : decode cX0_addPair 50 = .ok (.iadd, 1) := by decide +kernel
theorem dX0_addPair_51 : decode cX0_addPair 51 = .ok (.iastore, 1) := by decide +kernel
theorem dX0_addPair_52 : decode cX0_addPair 52 = .ok (.return_, 1) := by decide +kernel
theorem dX0_fillLanguages_0 : decode cX0_fillLanguages 0 = .ok (.aload_n 0, 1) := by decide +kernel
theorem dX0_fillLanguages_1 : decode cX0_fillLanguages 1 = .ok (.getfield 49, 3) := by decide +kernel
theorem dX0_fillLanguages_4 : decode cX0_fillLanguages 4 = .ok (.iconst 0, 1) := by decide +kernel
theorem dX0_fillLanguages_5 : decode cX0_fillLanguages 5 = .ok (.aload_n 0, 1) := by decide +kernel
theorem dX0_fillLanguages_6 : decode cX0_fillLanguages 6 = .ok (.getfield 39, 3) := by decide +kernel
theorem dX0_fillLanguages_9 : decode cX0_fillLanguages 9 = .ok (.lastore, 1) := by decide +kernel
theorem dX0_fillLanguages_10 : decode cX0_fillLanguages 10 = .ok (.aload_n 0, 1) := by decide +kernel
theorem dX0_fillLanguages_11 : decode cX0_fillLanguages 11 = .ok (.getfield 53, 3) := by decide +kernel
theorem dX0_fillLanguages_14 : decode cX0_fillLanguages 14 = .ok (.iconst 0, 1) := by decide +kernel
theorem dX0_fillLanguages_15 : decode cX0_fillLanguages 15 = .ok (.aload_n 0, 1) := by decide +kernel
theorem dX0_fillLanguages_16 : decode cX0_fillLanguages 16 = .ok (.getfield 39, 3) := by decide +kernel
theorem dX0_fillLanguages_19 : decode cX0_fillLanguages 19 = .ok (.lastore, 1) := by decide +kernel
theorem dX0_fillLanguages_20 : decode cX0_fillLanguages 20 = .ok (.iconst 1, 1) := by decide +kernel
theorem dX0_fillLanguages_21 : decode cX0_fillLanguages 21 = .ok (.istore_n 1, 1) := by decide +kernel
theorem dX0_fillLanguages_22 : decode cX0_fillLanguages 22 = .ok (.iload_n 1, 1) := by decide +kernel
theorem dX0_fillLanguages_23 : decode cX0_fillLanguages 23 = .ok (.iconst 1, 1) := by decide +kernel
theorem dX0_fillLanguages_24 : decode cX0_fillLanguages 24 = .ok (.aload_n 0, 1) := by decide +kernel
theorem dX0_fillLanguages_25 : decode cX0_fillLanguages 25 = .ok (.getfield 12, 3) := by decide +kernel
theorem dX0_fillLanguages_28 : decode cX0_fillLanguages 28 = .ok (.getfield 132, 3) := by decide +kernel
theorem dX0_fillLanguages_31 : decode cX0_fillLanguages 31 = .ok (.ishl, 1) := by decide +kernel
theorem dX0_fillLanguages_32 : decode cX0_fillLanguages 32 = .ok (.if_icmp .ge 97, 3) := by decide +kernel
theorem dX0_fillLanguages_35 : decode cX0_fillLanguages 35 = .ok (.iload_n 1, 1) := by decide +kernel
theorem dX0_fillLanguages_36 : decode cX0_fillLanguages 36 = .ok (.iload_n 1, 1) := by decide +kernel
theorem dX0_fillLanguages_37 : decode cX0_fillLanguages 37 = .ok (.iconst 1, 1) := by decide +kernel
theorem dX0_fillLanguages_38 : decode cX0_fillLanguages 38 = .ok (.isub, 1) := by decide +kernel
theorem dX0_fillLanguages_39 : decode cX0_fillLanguages 39 = .ok (.iand, 1) := by decide +kernel
theorem dX0_fillLanguages_40 : decode cX0_fillLanguages 40 = .ok (.istore_n 2, 1) := by decide +kernel
theorem dX0_fillLanguages_41 : decode cX0_fillLanguages 41 = .ok (.iload_n 1, 1) := by decide +kernel
theorem dX0_fillLanguages_42 : decode cX0_fillLanguages 42 = .ok (.iload_n 1, 1) := by decide +kernel
theorem dX0_fillLanguages_43 : decode cX0_fillLanguages 43 = .ok (.ineg, 1) := by decide +kernel
theorem dX0_fillLanguages_44 : decode cX0_fillLanguages 44 = .ok (.iand, 1) := by decide +kernel
theorem dX0_fillLanguages_45 : decode cX0_fillLanguages 45 = .ok (.istore_n 3, 1) := by decide +kernel
theorem dX0_fillLanguages_46 : decode cX0_fillLanguages 46 = .ok (.iload_n 2, 1) := by decide +kernel
theorem dX0_fillLanguages_47 : decode cX0_fillLanguages 47 = .ok (.ifCond .ne 38, 3) := by decide +kernel
theorem dX0_fillLanguages_50 : decode cX0_fillLanguages 50 = .ok (.aload_n 0, 1) := by decide +kernel
theorem dX0_fillLanguages_51 : decode cX0_fillLanguages 51 = .ok (.getfield 49, 3) := by decide +kernel
theorem dX0_fillLanguages_54 : decode cX0_fillLanguages 54 = .ok (.iload_n 1, 1) := by decide +kernel
theorem dX0_fillLanguages_55 : decode cX0_fillLanguages 55 = .ok (.aload_n 0, 1) := by decide +kernel
theorem dX0_fillLanguages_56 : decode cX0_fillLanguages 56 = .ok (.iload_n 1, 1) := by decide +kernel
theorem dX0_fillLanguages_57 : decode cX0_fillLanguages 57 = .ok (.invokevirtual 143, 3) := by decide +kernel
theorem dX0_fillLanguages_60 : decode cX0_fillLanguages 60 = .ok (.lastore, 1) := by decide +kernel
theorem dX0_fillLanguages_61 : decode cX0_fillLanguages 61 = .ok (.aload_n 0, 1) := by decide +kernel
theorem dX0_fillLanguages_62 : decode cX0_fillLanguages 62 = .ok (.getfield 53, 3) := by decide +kernel
theorem dX0_fillLanguages_65 : decode cX0_fillLanguages 65 = .ok (.iload_n 1, 1) := by decide +kernel
theorem dX0_fillLanguages_66 : decode cX0_fillLanguages 66 = .ok (.aload_n 0, 1) := by decide +kernel
theorem dX0_fillLanguages_67 : decode cX0_fillLanguages 67 = .ok (.getfield 39, 3) := by decide +kernel
theorem dX0_fillLanguages_70 : decode cX0_fillLanguages 70 = .ok (.aload_n 0, 1) := by decide +kernel
theorem dX0_fillLanguages_71 : decode cX0_fillLanguages 71 = .ok (.getfield 49, 3) := by decide +kernel
theorem dX0_fillLanguages_74 : decode cX0_fillLanguages 74 = .ok (.iload_n 1, 1) := by decide +kernel
theorem dX0_fillLanguages_75 : decode cX0_fillLanguages 75 = .ok (.laload, 1) := by decide +kernel
theorem dX0_fillLanguages_76 : decode cX0_fillLanguages 76 = .ok (.ldc2_w 147, 3) := by decide +kernel
theorem dX0_fillLanguages_79 : decode cX0_fillLanguages 79 = .ok (.lxor, 1) := by decide +kernel
theorem dX0_fillLanguages_80 : decode cX0_fillLanguages 80 = .ok (.land, 1) := by decide +kernel
theorem dX0_fillLanguages_81 : decode cX0_fillLanguages 81 = .ok (.lastore, 1) := by decide +kernel
theorem dX0_fillLanguages_82 : decode cX0_fillLanguages 82 = .ok (.goto 41, 3) := by decide +kernel
theorem dX0_fillLanguages_85 : decode cX0_fillLanguages 85 = .ok (.aload_n 0, 1) := by decide +kernel
theorem dX0_fillLanguages_86 : decode cX0_fillLanguages 86 = .ok (.getfield 49, 3) := by decide +kernel
theorem dX0_fillLanguages_89 : decode cX0_fillLanguages 89 = .ok (.iload_n 1, 1) := by decide +kernel
theorem dX0_fillLanguages_90 : decode cX0_fillLanguages 90 = .ok (.aload_n 0, 1) := by decide +kernel
theorem dX0_fillLanguages_91 : decode cX0_fillLanguages 91 = .ok (.getfield 49, 3) := by decide +kernel
theorem dX0_fillLanguages_94 : decode cX0_fillLanguages 94 = .ok (.iload_n 2, 1) := by decide +kernel
theorem dX0_fillLanguages_95 : decode cX0_fillLanguages 95 = .ok (.laload, 1) := by decide +kernel
theorem dX0_fillLanguages_96 : decode cX0_fillLanguages 96 = .ok (.aload_n 0, 1) := by decide +kernel
theorem dX0_fillLanguages_97 : decode cX0_fillLanguages 97 = .ok (.getfield 49, 3) := by decide +kernel
theorem dX0_fillLanguages_100 : decode cX0_fillLanguages 100 = .ok (.iload_n 3, 1) := by decide +kernel
theorem dX0_fillLanguages_101 : decode cX0_fillLanguages 101 = .ok (.laload, 1) := by decide +kernel
theorem dX0_fillLanguages_102 : decode cX0_fillLanguages 102 = .ok (.land, 1) := by decide +kernel
theorem dX0_fillLanguages_103 : decode cX0_fillLanguages 103 = .ok (.lastore, 1) := by decide +kernel
theorem dX0_fillLanguages_104 : decode cX0_fillLanguages 104 = .ok (.aload_n 0, 1) := by decide +kernel
theorem dX0_fillLanguages_105 : decode cX0_fillLanguages 105 = .ok (.getfield 53, 3) := by decide +kernel
theorem dX0_fillLanguages_108 : decode cX0_fillLanguages 108 = .ok (.iload_n 1, 1) := by decide +kernel
theorem dX0_fillLanguages_109 : decode cX0_fillLanguages 109 = .ok (.aload_n 0, 1) := by decide +kernel
theorem dX0_fillLanguages_110 : decode cX0_fillLanguages 110 = .ok (.getfield 53, 3) := by decide +kernel
theorem dX0_fillLanguages_113 : decode cX0_fillLanguages 113 = .ok (.iload_n 2, 1) := by decide +kernel
theorem dX0_fillLanguages_114 : decode cX0_fillLanguages 114 = .ok (.laload, 1) := by decide +kernel
theorem dX0_fillLanguages_115 : decode cX0_fillLanguages 115 = .ok (.aload_n 0, 1) := by decide +kernel
theorem dX0_fillLanguages_116 : decode cX0_fillLanguages 116 = .ok (.getfield 53, 3) := by decide +kernel
theorem dX0_fillLanguages_119 : decode cX0_fillLanguages 119 = .ok (.iload_n 3, 1) := by decide +kernel
theorem dX0_fillLanguages_120 : decode cX0_fillLanguages 120 = .ok (.laload, 1) := by decide +kernel
theorem dX0_fillLanguages_121 : decode cX0_fillLanguages 121 = .ok (.land, 1) := by decide +kernel
theorem dX0_fillLanguages_122 : decode cX0_fillLanguages 122 = .ok (.lastore, 1) := by decide +kernel
theorem dX0_fillLanguages_123 : decode cX0_fillLanguages 123 = .ok (.iinc 1 1, 3) := by decide +kernel
theorem dX0_fillLanguages_126 : decode cX0_fillLanguages 126 = .ok (.goto (-104), 3) := by decide +kernel
theorem dX0_fillLanguages_129 : decode cX0_fillLanguages 129 = .ok (.return_, 1) := by decide +kernel
theorem dX0_atomsWith_0 : decode cX0_atomsWith 0 = .ok (.lconst 0, 1) := by decide +kernel
theorem dX0_atomsWith_1 : decode cX0_atomsWith 1 = .ok (.lstore_n 2, 1) := by decide +kernel
theorem dX0_atomsWith_2 : decode cX0_atomsWith 2 = .ok (.iconst 0, 1) := by decide +kernel
theorem dX0_atomsWith_3 : decode cX0_atomsWith 3 = .ok (.istore 4, 2) := by decide +kernel
theorem dX0_atomsWith_5 : decode cX0_atomsWith 5 = .ok (.iload 4, 2) := by decide +kernel
theorem dX0_atomsWith_7 : decode cX0_atomsWith 7 = .ok (.aload_n 0, 1) := by decide +kernel
theorem dX0_atomsWith_8 : decode cX0_atomsWith 8 = .ok (.getfield 31, 3) := by decide +kernel
theorem dX0_atomsWith_11 : decode cX0_atomsWith 11 = .ok (.if_icmp .ge 33, 3) := by decide +kernel
theorem dX0_atomsWith_14 : decode cX0_atomsWith 14 = .ok (.aload_n 0, 1) := by decide +kernel
theorem dX0_atomsWith_15 : decode cX0_atomsWith 15 = .ok (.getfield 35, 3) := by decide +kernel
theorem dX0_atomsWith_18 : decode cX0_atomsWith 18 = .ok (.iload 4, 2) := by decide +kernel
theorem dX0_atomsWith_20 : decode cX0_atomsWith 20 = .ok (.iaload, 1) := by decide +kernel
theorem dX0_atomsWith_21 : decode cX0_atomsWith 21 = .ok (.iload_n 1, 1) := by decide +kernel
theorem dX0_atomsWith_22 : decode cX0_atomsWith 22 = .ok (.iand, 1) := by decide +kernel
theorem dX0_atomsWith_23 : decode cX0_atomsWith 23 = .ok (.ifCond .eq 15, 3) := by decide +kernel
theorem dX0_atomsWith_26 : decode cX0_atomsWith 26 = .ok (.lload_n 2, 1) := by decide +kernel
theorem dX0_atomsWith_27 : decode cX0_atomsWith 27 = .ok (.lconst 1, 1) := by decide +kernel
theorem dX0_atomsWith_28 : decode cX0_atomsWith 28 = .ok (.aload_n 0, 1) := by decide +kernel
theorem dX0_atomsWith_29 : decode cX0_atomsWith 29 = .ok (.getfield 35, 3) := by decide +kernel
theorem dX0_atomsWith_32 : decode cX0_atomsWith 32 = .ok (.iload 4, 2) := by decide +kernel
theorem dX0_atomsWith_34 : decode cX0_atomsWith 34 = .ok (.iaload, 1) := by decide +kernel
theorem dX0_atomsWith_35 : decode cX0_atomsWith 35 = .ok (.lshl, 1) := by decide +kernel
theorem dX0_atomsWith_36 : decode cX0_atomsWith 36 = .ok (.lor, 1) := by decide +kernel
theorem dX0_atomsWith_37 : decode cX0_atomsWith 37 = .ok (.lstore_n 2, 1) := by decide +kernel
theorem dX0_atomsWith_38 : decode cX0_atomsWith 38 = .ok (.iinc 4 1, 3) := by decide +kernel
theorem dX0_atomsWith_41 : decode cX0_atomsWith 41 = .ok (.goto (-36), 3) := by decide +kernel
theorem dX0_atomsWith_44 : decode cX0_atomsWith 44 = .ok (.lload_n 2, 1) := by decide +kernel
theorem dX0_atomsWith_45 : decode cX0_atomsWith 45 = .ok (.lreturn, 1) := by decide +kernel
theorem dX0_writeUnion_0 : decode cX0_writeUnion 0 = .ok (.aload_n 0, 1) := by decide +kernel
theorem dX0_writeUnion_1 : decode cX0_writeUnion 1 = .ok (.getfield 62, 3) := by decide +kernel
theorem dX0_writeUnion_4 : decode cX0_writeUnion 4 = .ok (.bipush 7, 2) := by decide +kernel
theorem dX0_writeUnion_6 : decode cX0_writeUnion 6 = .ok (.invokevirtual 127, 3) := by decide +kernel
theorem dX0_writeUnion_9 : decode cX0_writeUnion 9 = .ok (.aload_n 0, 1) := by decide +kernel
theorem dX0_writeUnion_10 : decode cX0_writeUnion 10 = .ok (.getfield 62, 3) := by decide +kernel
theorem dX0_writeUnion_13 : decode cX0_writeUnion 13 = .ok (.aload_n 0, 1) := by decide +kernel
theorem dX0_writeUnion_14 : decode cX0_writeUnion 14 = .ok (.lload_n 1, 1) := by decide +kernel
theorem dX0_writeUnion_15 : decode cX0_writeUnion 15 = .ok (.invokevirtual 149, 3) := by decide +kernel
theorem dX0_writeUnion_18 : decode cX0_writeUnion 18 = .ok (.invokevirtual 140, 3) := by decide +kernel
theorem dX0_writeUnion_21 : decode cX0_writeUnion 21 = .ok (.pop, 1) := by decide +kernel
theorem dX0_writeUnion_22 : decode cX0_writeUnion 22 = .ok (.aload_n 3, 1) := by decide +kernel
theorem dX0_writeUnion_23 : decode cX0_writeUnion 23 = .ok (.iconst 1, 1) := by decide +kernel
theorem dX0_writeUnion_24 : decode cX0_writeUnion 24 = .ok (.invokevirtual 153, 3) := by decide +kernel
theorem dX0_writeUnion_27 : decode cX0_writeUnion 27 = .ok (.iconst 0, 1) := by decide +kernel
theorem dX0_writeUnion_28 : decode cX0_writeUnion 28 = .ok (.istore 4, 2) := by decide +kernel
theorem dX0_writeUnion_30 : decode cX0_writeUnion 30 = .ok (.iload 4, 2) := by decide +kernel
theorem dX0_writeUnion_32 : decode cX0_writeUnion 32 = .ok (.aload_n 0, 1) := by decide +kernel
theorem dX0_writeUnion_33 : decode cX0_writeUnion 33 = .ok (.getfield 62, 3) := by decide +kernel
theorem dX0_writeUnion_36 : decode cX0_writeUnion 36 = .ok (.getfield 139, 3) := by decide +kernel
theorem dX0_writeUnion_39 : decode cX0_writeUnion 39 = .ok (.if_icmp .ge 95, 3) := by decide +kernel
theorem dX0_writeUnion_42 : decode cX0_writeUnion 42 = .ok (.iload 4, 2) := by decide +kernel
theorem dX0_writeUnion_44 : decode cX0_writeUnion 44 = .ok (.bipush 6, 2) := by decide +kernel
theorem dX0_writeUnion_46 : decode cX0_writeUnion 46 = .ok (.if_icmp .ge 88, 3) := by decide +kernel
theorem dX0_writeUnion_49 : decode cX0_writeUnion 49 = .ok (.aload_n 0, 1) := by decide +kernel
theorem dX0_writeUnion_50 : decode cX0_writeUnion 50 = .ok (.getfield 62, 3) := by decide +kernel
theorem dX0_writeUnion_53 : decode cX0_writeUnion 53 = .ok (.getfield 156, 3) := by decide +kernel
theorem dX0_writeUnion_56 : decode cX0_writeUnion 56 = .ok (.iload 4, 2) := by decide +kernel
theorem dX0_writeUnion_58 : decode cX0_writeUnion 58 = .ok (.laload, 1) := by decide +kernel
theorem dX0_writeUnion_59 : decode cX0_writeUnion 59 = .ok (.lstore 5, 2) := by decide +kernel
theorem dX0_writeUnion_61 : decode cX0_writeUnion 61 = .ok (.aload_n 3, 1) := by decide +kernel
theorem dX0_writeUnion_62 : decode cX0_writeUnion 62 = .ok (.iload 4, 2) := by decide +kernel
theorem dX0_writeUnion_64 : decode cX0_writeUnion 64 = .ok (.lload 5, 2) := by decide +kernel
theorem dX0_writeUnion_66 : decode cX0_writeUnion 66 = .ok (.aload_n 0, 1) := by decide +kernel
theorem dX0_writeUnion_67 : decode cX0_writeUnion 67 = .ok (.invokevirtual 77, 3) := by decide +kernel
theorem dX0_writeUnion_70 : decode cX0_writeUnion 70 = .ok (.invokestatic 88, 3) := by decide +kernel
theorem dX0_writeUnion_73 : decode cX0_writeUnion 73 = .ok (.invokevirtual 158, 3) := by decide +kernel
theorem dX0_writeUnion_76 : decode cX0_writeUnion 76 = .ok (.iconst 0, 1) := by decide +kernel
theorem dX0_writeUnion_77 : decode cX0_writeUnion 77 = .ok (.istore 7, 2) := by decide +kernel
theorem dX0_writeUnion_79 : decode cX0_writeUnion 79 = .ok (.iload 7, 2) := by decide +kernel
theorem dX0_writeUnion_81 : decode cX0_writeUnion 81 = .ok (.iconst 3, 1) := by decide +kernel
theorem dX0_writeUnion_82 : decode cX0_writeUnion 82 = .ok (.if_icmp .ge 46, 3) := by decide +kernel
theorem dX0_writeUnion_85 : decode cX0_writeUnion 85 = .ok (.aload_n 0, 1) := by decide +kernel
theorem dX0_writeUnion_86 : decode cX0_writeUnion 86 = .ok (.getfield 62, 3) := by decide +kernel
theorem dX0_writeUnion_89 : decode cX0_writeUnion 89 = .ok (.aload_n 0, 1) := by decide +kernel
theorem dX0_writeUnion_90 : decode cX0_writeUnion 90 = .ok (.lload 5, 2) := by decide +kernel
theorem dX0_writeUnion_92 : decode cX0_writeUnion 92 = .ok (.iload 7, 2) := by decide +kernel
theorem dX0_writeUnion_94 : decode cX0_writeUnion 94 = .ok (.invokevirtual 162, 3) := by decide +kernel
theorem dX0_writeUnion_97 : decode cX0_writeUnion 97 = .ok (.invokevirtual 140, 3) := by decide +kernel
theorem dX0_writeUnion_100 : decode cX0_writeUnion 100 = .ok (.istore 8, 2) := by decide +kernel
theorem dX0_writeUnion_102 : decode cX0_writeUnion 102 = .ok (.iload 8, 2) := by decide +kernel
theorem dX0_writeUnion_104 : decode cX0_writeUnion 104 = .ok (.bipush 6, 2) := by decide +kernel
theorem dX0_writeUnion_106 : decode cX0_writeUnion 106 = .ok (.if_icmp .lt 6, 3) := by decide +kernel
theorem dX0_writeUnion_109 : decode cX0_writeUnion 109 = .ok (.bipush 7, 2) := by decide +kernel
theorem dX0_writeUnion_111 : decode cX0_writeUnion 111 = .ok (.ireturn, 1) := by decide +kernel
theorem dX0_writeUnion_112 : decode cX0_writeUnion 112 = .ok (.aload_n 3, 1) := by decide +kernel
theorem dX0_writeUnion_113 : decode cX0_writeUnion 113 = .ok (.iload 4, 2) := by decide +kernel
theorem dX0_writeUnion_115 : decode cX0_writeUnion 115 = .ok (.iload 7, 2) := by decide +kernel
theorem dX0_writeUnion_117 : decode cX0_writeUnion 117 = .ok (.iload 8, 2) := by decide +kernel
theorem dX0_writeUnion_119 : decode cX0_writeUnion 119 = .ok (.invokevirtual 166, 3) := by decide +kernel
theorem dX0_writeUnion_122 : decode cX0_writeUnion 122 = .ok (.iinc 7 1, 3) := by decide +kernel
theorem dX0_writeUnion_125 : decode cX0_writeUnion 125 = .ok (.goto (-46), 3) := by decide +kernel
theorem dX0_writeUnion_128 : decode cX0_writeUnion 128 = .ok (.iinc 4 1, 3) := by decide +kernel
theorem dX0_writeUnion_131 : decode cX0_writeUnion 131 = .ok (.goto (-101), 3) := by decide +kernel
theorem dX0_writeUnion_134 : decode cX0_writeUnion 134 = .ok (.aload_n 3, 1) := by decide +kernel
theorem dX0_writeUnion_135 : decode cX0_writeUnion 135 = .ok (.aload_n 0, 1) := by decide +kernel
theorem dX0_writeUnion_136 : decode cX0_writeUnion 136 = .ok (.getfield 62, 3) := by decide +kernel
theorem dX0_writeUnion_139 : decode cX0_writeUnion 139 = .ok (.getfield 139, 3) := by decide +kernel
theorem dX0_writeUnion_142 : decode cX0_writeUnion 142 = .ok (.putfield 132, 3) := by decide +kernel
theorem dX0_writeUnion_145 : decode cX0_writeUnion 145 = .ok (.aload_n 0, 1) := by decide +kernel
theorem dX0_writeUnion_146 : decode cX0_writeUnion 146 = .ok (.getfield 62, 3) := by decide +kernel
theorem dX0_writeUnion_149 : decode cX0_writeUnion 149 = .ok (.getfield 139, 3) := by decide +kernel
theorem dX0_writeUnion_152 : decode cX0_writeUnion 152 = .ok (.ireturn, 1) := by decide +kernel
theorem dX0_languageOf_0 : decode cX0_languageOf 0 = .ok (.lconst 0, 1) := by decide +kernel
theorem dX0_languageOf_1 : decode cX0_languageOf 1 = .ok (.lstore_n 3, 1) := by decide +kernel
theorem dX0_languageOf_2 : decode cX0_languageOf 2 = .ok (.iconst 0, 1) := by decide +kernel
theorem dX0_languageOf_3 : decode cX0_languageOf 3 = .ok (.istore 5, 2) := by decide +kernel
theorem dX0_languageOf_5 : decode cX0_languageOf 5 = .ok (.iload 5, 2) := by decide +kernel
theorem dX0_languageOf_7 : decode cX0_languageOf 7 = .ok (.aload_n 0, 1) := by decide +kernel
theorem dX0_languageOf_8 : decode cX0_languageOf 8 = .ok (.getfield 31, 3) := by decide +kernel
theorem dX0_languageOf_11 : decode cX0_languageOf 11 = .ok (.if_icmp .ge 39, 3) := by decide +kernel
theorem dX0_languageOf_14 : decode cX0_languageOf 14 = .ok (.lload_n 1, 1) := by decide +kernel
theorem dX0_languageOf_15 : decode cX0_languageOf 15 = .ok (.aload_n 0, 1) := by decide +kernel
theorem dX0_languageOf_16 : decode cX0_languageOf 16 = .ok (.aload_n 0, 1) := by decide +kernel
theorem dX0_languageOf_17 : decode cX0_languageOf 17 = .ok (.getfield 35, 3) := by decide +kernel
theorem dX0_languageOf_20 : decode cX0_languageOf 20 = .ok (.iload 5, 2) := by decide +kernel
theorem dX0_languageOf_22 : decode cX0_languageOf 22 = .ok (.iaload, 1) := by decide +kernel
theorem dX0_languageOf_23 : decode cX0_languageOf 23 = .ok (.invokevirtual 106, 3) := by decide +kernel
theorem dX0_languageOf_26 : decode cX0_languageOf 26 = .ok (.invokestatic 88, 3) := by decide +kernel
theorem dX0_languageOf_29 : decode cX0_languageOf 29 = .ok (.ifCond .eq 15, 3) := by decide +kernel
theorem dX0_languageOf_32 : decode cX0_languageOf 32 = .ok (.lload_n 3, 1) := by decide +kernel
theorem dX0_languageOf_33 : decode cX0_languageOf 33 = .ok (.lconst 1, 1) := by decide +kernel
theorem dX0_languageOf_34 : decode cX0_languageOf 34 = .ok (.aload_n 0, 1) := by decide +kernel
theorem dX0_languageOf_35 : decode cX0_languageOf 35 = .ok (.getfield 35, 3) := by decide +kernel
theorem dX0_languageOf_38 : decode cX0_languageOf 38 = .ok (.iload 5, 2) := by decide +kernel
theorem dX0_languageOf_40 : decode cX0_languageOf 40 = .ok (.iaload, 1) := by decide +kernel
theorem dX0_languageOf_41 : decode cX0_languageOf 41 = .ok (.lshl, 1) := by decide +kernel
theorem dX0_languageOf_42 : decode cX0_languageOf 42 = .ok (.lor, 1) := by decide +kernel
theorem dX0_languageOf_43 : decode cX0_languageOf 43 = .ok (.lstore_n 3, 1) := by decide +kernel
theorem dX0_languageOf_44 : decode cX0_languageOf 44 = .ok (.iinc 5 1, 3) := by decide +kernel
theorem dX0_languageOf_47 : decode cX0_languageOf 47 = .ok (.goto (-42), 3) := by decide +kernel
theorem dX0_languageOf_50 : decode cX0_languageOf 50 = .ok (.lload_n 3, 1) := by decide +kernel
theorem dX0_languageOf_51 : decode cX0_languageOf 51 = .ok (.lreturn, 1) := by decide +kernel
theorem dX0_quotient_0 : decode cX0_quotient 0 = .ok (.lconst 0, 1) := by decide +kernel
theorem dX0_quotient_1 : decode cX0_quotient 1 = .ok (.lstore 4, 2) := by decide +kernel
theorem dX0_quotient_3 : decode cX0_quotient 3 = .ok (.iconst 0, 1) := by decide +kernel
theorem dX0_quotient_4 : decode cX0_quotient 4 = .ok (.istore 6, 2) := by decide +kernel
theorem dX0_quotient_6 : decode cX0_quotient 6 = .ok (.iload 6, 2) := by decide +kernel
theorem dX0_quotient_8 : decode cX0_quotient 8 = .ok (.aload_n 0, 1) := by decide +kernel
theorem dX0_quotient_9 : decode cX0_quotient 9 = .ok (.getfield 31, 3) := by decide +kernel
theorem dX0_quotient_12 : decode cX0_quotient 12 = .ok (.if_icmp .ge 42, 3) := by decide +kernel
theorem dX0_quotient_15 : decode cX0_quotient 15 = .ok (.lload_n 1, 1) := by decide +kernel
theorem dX0_quotient_16 : decode cX0_quotient 16 = .ok (.aload_n 0, 1) := by decide +kernel
theorem dX0_quotient_17 : decode cX0_quotient 17 = .ok (.aload_n 0, 1) := by decide +kernel
theorem dX0_quotient_18 : decode cX0_quotient 18 = .ok (.getfield 35, 3) := by decide +kernel
theorem dX0_quotient_21 : decode cX0_quotient 21 = .ok (.iload 6, 2) := by decide +kernel
theorem dX0_quotient_23 : decode cX0_quotient 23 = .ok (.iaload, 1) := by decide +kernel
theorem dX0_quotient_24 : decode cX0_quotient 24 = .ok (.iload_n 3, 1) := by decide +kernel
theorem dX0_quotient_25 : decode cX0_quotient 25 = .ok (.invokevirtual 85, 3) := by decide +kernel
theorem dX0_quotient_28 : decode cX0_quotient 28 = .ok (.invokestatic 88, 3) := by decide +kernel
theorem dX0_quotient_31 : decode cX0_quotient 31 = .ok (.ifCond .eq 17, 3) := by decide +kernel
theorem dX0_quotient_34 : decode cX0_quotient 34 = .ok (.lload 4, 2) := by decide +kernel
theorem dX0_quotient_36 : decode cX0_quotient 36 = .ok (.lconst 1, 1) := by decide +kernel
theorem dX0_quotient_37 : decode cX0_quotient 37 = .ok (.aload_n 0, 1) := by decide +kernel
theorem dX0_quotient_38 : decode cX0_quotient 38 = .ok (.getfield 35, 3) := by decide +kernel
theorem dX0_quotient_41 : decode cX0_quotient 41 = .ok (.iload 6, 2) := by decide +kernel
theorem dX0_quotient_43 : decode cX0_quotient 43 = .ok (.iaload, 1) := by decide +kernel
theorem dX0_quotient_44 : decode cX0_quotient 44 = .ok (.lshl, 1) := by decide +kernel
theorem dX0_quotient_45 : decode cX0_quotient 45 = .ok (.lor, 1) := by decide +kernel
theorem dX0_quotient_46 : decode cX0_quotient 46 = .ok (.lstore 4, 2) := by decide +kernel
theorem dX0_quotient_48 : decode cX0_quotient 48 = .ok (.iinc 6 1, 3) := by decide +kernel
theorem dX0_quotient_51 : decode cX0_quotient 51 = .ok (.goto (-45), 3) := by decide +kernel
theorem dX0_quotient_54 : decode cX0_quotient 54 = .ok (.lload 4, 2) := by decide +kernel
theorem dX0_quotient_56 : decode cX0_quotient 56 = .ok (.lreturn, 1) := by decide +kernel
theorem dX0_determine_0 : decode cX0_determine 0 = .ok (.aload_n 0, 1) := by decide +kernel
theorem dX0_determine_1 : decode cX0_determine 1 = .ok (.getfield 28, 3) := by decide +kernel
theorem dX0_determine_4 : decode cX0_determine 4 = .ok (.aload_n 1, 1) := by decide +kernel
theorem dX0_determine_5 : decode cX0_determine 5 = .ok (.invokevirtual 73, 3) := by decide +kernel
theorem dX0_determine_8 : decode cX0_determine 8 = .ok (.iconst 0, 1) := by decide +kernel
theorem dX0_determine_9 : decode cX0_determine 9 = .ok (.istore_n 2, 1) := by decide +kernel
theorem dX0_determine_10 : decode cX0_determine 10 = .ok (.iload_n 2, 1) := by decide +kernel
theorem dX0_determine_11 : decode cX0_determine 11 = .ok (.bipush 64, 2) := by decide +kernel
theorem dX0_determine_13 : decode cX0_determine 13 = .ok (.if_icmp .ge 16, 3) := by decide +kernel
theorem dX0_determine_16 : decode cX0_determine 16 = .ok (.aload_n 0, 1) := by decide +kernel
theorem dX0_determine_17 : decode cX0_determine 17 = .ok (.getfield 59, 3) := by decide +kernel
theorem dX0_determine_20 : decode cX0_determine 20 = .ok (.iload_n 2, 1) := by decide +kernel
theorem dX0_determine_21 : decode cX0_determine 21 = .ok (.iconst (-1), 1) := by decide +kernel
theorem dX0_determine_22 : decode cX0_determine 22 = .ok (.iastore, 1) := by decide +kernel
theorem dX0_determine_23 : decode cX0_determine 23 = .ok (.iinc 2 1, 3) := by decide +kernel
theorem dX0_determine_26 : decode cX0_determine 26 = .ok (.goto (-16), 3) := by decide +kernel
theorem dX0_determine_29 : decode cX0_determine 29 = .ok (.aload_n 0, 1) := by decide +kernel
theorem dX0_determine_30 : decode cX0_determine 30 = .ok (.getfield 59, 3) := by decide +kernel
theorem dX0_determine_33 : decode cX0_determine 33 = .ok (.aload_n 0, 1) := by decide +kernel
theorem dX0_determine_34 : decode cX0_determine 34 = .ok (.invokevirtual 77, 3) := by decide +kernel
theorem dX0_determine_37 : decode cX0_determine 37 = .ok (.aload_n 1, 1) := by decide +kernel
theorem dX0_determine_38 : decode cX0_determine 38 = .ok (.getfield 66, 3) := by decide +kernel
theorem dX0_determine_41 : decode cX0_determine 41 = .ok (.iastore, 1) := by decide +kernel
theorem dX0_determine_42 : decode cX0_determine 42 = .ok (.iconst 0, 1) := by decide +kernel
theorem dX0_determine_43 : decode cX0_determine 43 = .ok (.istore_n 2, 1) := by decide +kernel
theorem dX0_determine_44 : decode cX0_determine 44 = .ok (.iload_n 2, 1) := by decide +kernel
theorem dX0_determine_45 : decode cX0_determine 45 = .ok (.aload_n 0, 1) := by decide +kernel
theorem dX0_determine_46 : decode cX0_determine 46 = .ok (.getfield 31, 3) := by decide +kernel
theorem dX0_determine_49 : decode cX0_determine 49 = .ok (.if_icmp .ge 93, 3) := by decide +kernel
theorem dX0_determine_52 : decode cX0_determine 52 = .ok (.iconst 0, 1) := by decide +kernel
theorem dX0_determine_53 : decode cX0_determine 53 = .ok (.istore_n 3, 1) := by decide +kernel
theorem dX0_determine_54 : decode cX0_determine 54 = .ok (.iload_n 3, 1) := by decide +kernel
theorem dX0_determine_55 : decode cX0_determine 55 = .ok (.iconst 3, 1) := by decide +kernel
theorem dX0_determine_56 : decode cX0_determine 56 = .ok (.if_icmp .ge 80, 3) := by decide +kernel
theorem dX0_determine_59 : decode cX0_determine 59 = .ok (.aload_n 0, 1) := by decide +kernel
theorem dX0_determine_60 : decode cX0_determine 60 = .ok (.aload_n 0, 1) := by decide +kernel
theorem dX0_determine_61 : decode cX0_determine 61 = .ok (.getfield 35, 3) := by decide +kernel
theorem dX0_determine_64 : decode cX0_determine 64 = .ok (.iload_n 2, 1) := by decide +kernel
theorem dX0_determine_65 : decode cX0_determine 65 = .ok (.iaload, 1) := by decide +kernel
theorem dX0_determine_66 : decode cX0_determine 66 = .ok (.iload_n 3, 1) := by decide +kernel
theorem dX0_determine_67 : decode cX0_determine 67 = .ok (.invokevirtual 85, 3) := by decide +kernel
theorem dX0_determine_70 : decode cX0_determine 70 = .ok (.istore 4, 2) := by decide +kernel
theorem dX0_determine_72 : decode cX0_determine 72 = .ok (.aload_n 0, 1) := by decide +kernel
theorem dX0_determine_73 : decode cX0_determine 73 = .ok (.getfield 28, 3) := by decide +kernel
theorem dX0_determine_76 : decode cX0_determine 76 = .ok (.iload_n 3, 1) := by decide +kernel
theorem dX0_determine_77 : decode cX0_determine 77 = .ok (.aload_n 0, 1) := by decide +kernel
theorem dX0_determine_78 : decode cX0_determine 78 = .ok (.getfield 59, 3) := by decide +kernel
theorem dX0_determine_81 : decode cX0_determine 81 = .ok (.aload_n 0, 1) := by decide +kernel
theorem dX0_determine_82 : decode cX0_determine 82 = .ok (.getfield 35, 3) := by decide +kernel
theorem dX0_determine_85 : decode cX0_determine 85 = .ok (.iload_n 2, 1) := by decide +kernel
theorem dX0_determine_86 : decode cX0_determine 86 = .ok (.iaload, 1) := by decide +kernel
theorem dX0_determine_87 : decode cX0_determine 87 = .ok (.iaload, 1) := by decide +kernel
theorem dX0_determine_88 : decode cX0_determine 88 = .ok (.invokevirtual 69, 3) := by decide +kernel
theorem dX0_determine_91 : decode cX0_determine 91 = .ok (.istore 5, 2) := by decide +kernel
theorem dX0_determine_93 : decode cX0_determine 93 = .ok (.aload_n 0, 1) := by decide +kernel
theorem dX0_determine_94 : decode cX0_determine 94 = .ok (.getfield 59, 3) := by decide +kernel
theorem dX0_determine_97 : decode cX0_determine 97 = .ok (.iload 4, 2) := by decide +kernel
theorem dX0_determine_99 : decode cX0_determine 99 = .ok (.iaload, 1) := by decide +kernel
theorem dX0_determine_100 : decode cX0_determine 100 = .ok (.iconst (-1), 1) := by decide +kernel
theorem dX0_determine_101 : decode cX0_determine 101 = .ok (.if_icmp .ne 15, 3) := by decide +kernel
theorem dX0_determine_104 : decode cX0_determine 104 = .ok (.aload_n 0, 1) := by decide +kernel
theorem dX0_determine_105 : decode cX0_determine 105 = .ok (.getfield 59, 3) := by decide +kernel
theorem dX0_determine_108 : decode cX0_determine 108 = .ok (.iload 4, 2) := by decide +kernel
theorem dX0_determine_110 : decode cX0_determine 110 = .ok (.iload 5, 2) := by decide +kernel
theorem dX0_determine_112 : decode cX0_determine 112 = .ok (.iastore, 1) := by decide +kernel
theorem dX0_determine_113 : decode cX0_determine 113 = .ok (.goto 17, 3) := by decide +kernel
theorem dX0_determine_116 : decode cX0_determine 116 = .ok (.aload_n 0, 1) := by decide +kernel
theorem dX0_determine_117 : decode cX0_determine 117 = .ok (.getfield 59, 3) := by decide +kernel
theorem dX0_determine_120 : decode cX0_determine 120 = .ok (.iload 4, 2) := by decide +kernel
theorem dX0_determine_122 : decode cX0_determine 122 = .ok (.iaload, 1) := by decide +kernel
theorem dX0_determine_123 : decode cX0_determine 123 = .ok (.iload 5, 2) := by decide +kernel
theorem dX0_determine_125 : decode cX0_determine 125 = .ok (.if_icmp .eq 5, 3) := by decide +kernel
theorem dX0_determine_128 : decode cX0_determine 128 = .ok (.iconst 0, 1) := by decide +kernel
theorem dX0_determine_129 : decode cX0_determine 129 = .ok (.ireturn, 1) := by decide +kernel
theorem dX0_determine_130 : decode cX0_determine 130 = .ok (.iinc 3 1, 3) := by decide +kernel
theorem dX0_determine_133 : decode cX0_determine 133 = .ok (.goto (-79), 3) := by decide +kernel
theorem dX0_determine_136 : decode cX0_determine 136 = .ok (.iinc 2 1, 3) := by decide +kernel
theorem dX0_determine_139 : decode cX0_determine 139 = .ok (.goto (-95), 3) := by decide +kernel
theorem dX0_determine_142 : decode cX0_determine 142 = .ok (.iconst 1, 1) := by decide +kernel
theorem dX0_determine_143 : decode cX0_determine 143 = .ok (.ireturn, 1) := by decide +kernel
theorem dX1_init_0 : decode cX1_init 0 = .ok (.aload_n 0, 1) := by decide +kernel
theorem dX1_init_1 : decode cX1_init 1 = .ok (.invokespecial 3, 3) := by decide +kernel
theorem dX1_init_4 : decode cX1_init 4 = .ok (.aload_n 0, 1) := by decide +kernel
theorem dX1_init_5 : decode cX1_init 5 = .ok (.iconst 1, 1) := by decide +kernel
theorem dX1_init_6 : decode cX1_init 6 = .ok (.putfield 9, 3) := by decide +kernel
theorem dX1_init_9 : decode cX1_init 9 = .ok (.aload_n 0, 1) := by decide +kernel
theorem dX1_init_10 : decode cX1_init 10 = .ok (.bipush 18, 2) := by decide +kernel
theorem dX1_init_12 : decode cX1_init 12 = .ok (.newarray .int, 2) := by decide +kernel
theorem dX1_init_14 : decode cX1_init 14 = .ok (.putfield 15, 3) := by decide +kernel
theorem dX1_init_17 : decode cX1_init 17 = .ok (.aload_n 0, 1) := by decide +kernel
theorem dX1_init_18 : decode cX1_init 18 = .ok (.iconst 0, 1) := by decide +kernel
theorem dX1_init_19 : decode cX1_init 19 = .ok (.putfield 19, 3) := by decide +kernel
theorem dX1_init_22 : decode cX1_init 22 = .ok (.return_, 1) := by decide +kernel
theorem dX1_codeBound_0 : decode cX1_codeBound 0 = .ok (.bipush 6, 2) := by decide +kernel
theorem dX1_codeBound_2 : decode cX1_codeBound 2 = .ok (.ireturn, 1) := by decide +kernel
theorem dX1_startCode_0 : decode cX1_startCode 0 = .ok (.iconst 0, 1) := by decide +kernel
theorem dX1_startCode_1 : decode cX1_startCode 1 = .ok (.ireturn, 1) := by decide +kernel
theorem dX1_follow_0 : decode cX1_follow 0 = .ok (.aload_n 0, 1) := by decide +kernel
theorem dX1_follow_1 : decode cX1_follow 1 = .ok (.getfield 15, 3) := by decide +kernel
theorem dX1_follow_4 : decode cX1_follow 4 = .ok (.iload_n 1, 1) := by decide +kernel
theorem dX1_follow_5 : decode cX1_follow 5 = .ok (.iconst 3, 1) := by decide +kernel
theorem dX1_follow_6 : decode cX1_follow 6 = .ok (.imul, 1) := by decide +kernel
theorem dX1_follow_7 : decode cX1_follow 7 = .ok (.iload_n 2, 1) := by decide +kernel
theorem dX1_follow_8 : decode cX1_follow 8 = .ok (.iadd, 1) := by decide +kernel
theorem dX1_follow_9 : decode cX1_follow 9 = .ok (.iaload, 1) := by decide +kernel
theorem dX1_follow_10 : decode cX1_follow 10 = .ok (.ireturn, 1) := by decide +kernel
theorem dX1_isAccepting_0 : decode cX1_isAccepting 0 = .ok (.aload_n 0, 1) := by decide +kernel
theorem dX1_isAccepting_1 : decode cX1_isAccepting 1 = .ok (.getfield 19, 3) := by decide +kernel
theorem dX1_isAccepting_4 : decode cX1_isAccepting 4 = .ok (.iload_n 1, 1) := by decide +kernel
theorem dX1_isAccepting_5 : decode cX1_isAccepting 5 = .ok (.ishr, 1) := by decide +kernel
theorem dX1_isAccepting_6 : decode cX1_isAccepting 6 = .ok (.iconst 1, 1) := by decide +kernel
theorem dX1_isAccepting_7 : decode cX1_isAccepting 7 = .ok (.iand, 1) := by decide +kernel
theorem dX1_isAccepting_8 : decode cX1_isAccepting 8 = .ok (.iconst 1, 1) := by decide +kernel
theorem dX1_isAccepting_9 : decode cX1_isAccepting 9 = .ok (.if_icmp .ne 7, 3) := by decide +kernel
theorem dX1_isAccepting_12 : decode cX1_isAccepting 12 = .ok (.iconst 1, 1) := by decide +kernel
theorem dX1_isAccepting_13 : decode cX1_isAccepting 13 = .ok (.goto 4, 3) := by decide +kernel
theorem dX1_isAccepting_16 : decode cX1_isAccepting 16 = .ok (.iconst 0, 1) := by decide +kernel
theorem dX1_isAccepting_17 : decode cX1_isAccepting 17 = .ok (.ireturn, 1) := by decide +kernel
theorem dX1_clear_0 : decode cX1_clear 0 = .ok (.aload_n 0, 1) := by decide +kernel
theorem dX1_clear_1 : decode cX1_clear 1 = .ok (.iload_n 1, 1) := by decide +kernel
theorem dX1_clear_2 : decode cX1_clear 2 = .ok (.putfield 9, 3) := by decide +kernel
theorem dX1_clear_5 : decode cX1_clear 5 = .ok (.aload_n 0, 1) := by decide +kernel
theorem dX1_clear_6 : decode cX1_clear 6 = .ok (.iconst 0, 1) := by decide +kernel
theorem dX1_clear_7 : decode cX1_clear 7 = .ok (.putfield 19, 3) := by decide +kernel
theorem dX1_clear_10 : decode cX1_clear 10 = .ok (.iconst 0, 1) := by decide +kernel
theorem dX1_clear_11 : decode cX1_clear 11 = .ok (.istore_n 2, 1) := by decide +kernel
theorem dX1_clear_12 : decode cX1_clear 12 = .ok (.iload_n 2, 1) := by decide +kernel
theorem dX1_clear_13 : decode cX1_clear 13 = .ok (.bipush 18, 2) := by decide +kernel
theorem dX1_clear_15 : decode cX1_clear 15 = .ok (.if_icmp .ge 16, 3) := by decide +kernel
theorem dX1_clear_18 : decode cX1_clear 18 = .ok (.aload_n 0, 1) := by decide +kernel
theorem dX1_clear_19 : decode cX1_clear 19 = .ok (.getfield 15, 3) := by decide +kernel
theorem dX1_clear_22 : decode cX1_clear 22 = .ok (.iload_n 2, 1) := by decide +kernel
theorem dX1_clear_23 : decode cX1_clear 23 = .ok (.iconst 0, 1) := by decide +kernel
theorem dX1_clear_24 : decode cX1_clear 24 = .ok (.iastore, 1) := by decide +kernel
theorem dX1_clear_25 : decode cX1_clear 25 = .ok (.iinc 2 1, 3) := by decide +kernel
theorem dX1_clear_28 : decode cX1_clear 28 = .ok (.goto (-16), 3) := by decide +kernel
theorem dX1_clear_31 : decode cX1_clear 31 = .ok (.return_, 1) := by decide +kernel
theorem dX1_lead_0 : decode cX1_lead 0 = .ok (.aload_n 0, 1) := by decide +kernel
theorem dX1_lead_1 : decode cX1_lead 1 = .ok (.getfield 15, 3) := by decide +kernel
theorem dX1_lead_4 : decode cX1_lead 4 = .ok (.iload_n 1, 1) := by decide +kernel
theorem dX1_lead_5 : decode cX1_lead 5 = .ok (.iconst 3, 1) := by decide +kernel
theorem dX1_lead_6 : decode cX1_lead 6 = .ok (.imul, 1) := by decide +kernel
theorem dX1_lead_7 : decode cX1_lead 7 = .ok (.iload_n 2, 1) := by decide +kernel
theorem dX1_lead_8 : decode cX1_lead 8 = .ok (.iadd, 1) := by decide +kernel
theorem dX1_lead_9 : decode cX1_lead 9 = .ok (.iload_n 3, 1) := by decide +kernel
theorem dX1_lead_10 : decode cX1_lead 10 = .ok (.iastore, 1) := by decide +kernel
theorem dX1_lead_11 : decode cX1_lead 11 = .ok (.return_, 1) := by decide +kernel
theorem dX1_mark_0 : decode cX1_mark 0 = .ok (.aload_n 0, 1) := by decide +kernel
theorem dX1_mark_1 : decode cX1_mark 1 = .ok (.iload_n 2, 1) := by decide +kernel
theorem dX1_mark_2 : decode cX1_mark 2 = .ok (.ifCond .eq 14, 3) := by decide +kernel
theorem dX1_mark_5 : decode cX1_mark 5 = .ok (.aload_n 0, 1) := by decide +kernel
theorem dX1_mark_6 : decode cX1_mark 6 = .ok (.getfield 19, 3) := by decide +kernel
theorem dX1_mark_9 : decode cX1_mark 9 = .ok (.iconst 1, 1) := by decide +kernel
theorem dX1_mark_10 : decode cX1_mark 10 = .ok (.iload_n 1, 1) := by decide +kernel
theorem dX1_mark_11 : decode cX1_mark 11 = .ok (.ishl, 1) := by decide +kernel
theorem dX1_mark_12 : decode cX1_mark 12 = .ok (.ior, 1) := by decide +kernel
theorem dX1_mark_13 : decode cX1_mark 13 = .ok (.goto 13, 3) := by decide +kernel
theorem dX1_mark_16 : decode cX1_mark 16 = .ok (.aload_n 0, 1) := by decide +kernel
theorem dX1_mark_17 : decode cX1_mark 17 = .ok (.getfield 19, 3) := by decide +kernel
theorem dX1_mark_20 : decode cX1_mark 20 = .ok (.iconst 1, 1) := by decide +kernel
theorem dX1_mark_21 : decode cX1_mark 21 = .ok (.iload_n 1, 1) := by decide +kernel
theorem dX1_mark_22 : decode cX1_mark 22 = .ok (.ishl, 1) := by decide +kernel
theorem dX1_mark_23 : decode cX1_mark 23 = .ok (.iconst (-1), 1) := by decide +kernel
theorem dX1_mark_24 : decode cX1_mark 24 = .ok (.ixor, 1) := by decide +kernel
theorem dX1_mark_25 : decode cX1_mark 25 = .ok (.iand, 1) := by decide +kernel
theorem dX1_mark_26 : decode cX1_mark 26 = .ok (.putfield 19, 3) := by decide +kernel
theorem dX1_mark_29 : decode cX1_mark 29 = .ok (.return_, 1) := by decide +kernel
theorem dX1_copyFrom_0 : decode cX1_copyFrom 0 = .ok (.aload_n 0, 1) := by decide +kernel
theorem dX1_copyFrom_1 : decode cX1_copyFrom 1 = .ok (.aload_n 1, 1) := by decide +kernel
theorem dX1_copyFrom_2 : decode cX1_copyFrom 2 = .ok (.getfield 9, 3) := by decide +kernel
theorem dX1_copyFrom_5 : decode cX1_copyFrom 5 = .ok (.putfield 9, 3) := by decide +kernel
theorem dX1_copyFrom_8 : decode cX1_copyFrom 8 = .ok (.aload_n 0, 1) := by decide +kernel
theorem dX1_copyFrom_9 : decode cX1_copyFrom 9 = .ok (.aload_n 1, 1) := by decide +kernel
theorem dX1_copyFrom_10 : decode cX1_copyFrom 10 = .ok (.getfield 19, 3) := by decide +kernel
theorem dX1_copyFrom_13 : decode cX1_copyFrom 13 = .ok (.putfield 19, 3) := by decide +kernel
theorem dX1_copyFrom_16 : decode cX1_copyFrom 16 = .ok (.aload_n 1, 1) := by decide +kernel
theorem dX1_copyFrom_17 : decode cX1_copyFrom 17 = .ok (.getfield 15, 3) := by decide +kernel
theorem dX1_copyFrom_20 : decode cX1_copyFrom 20 = .ok (.iconst 0, 1) := by decide +kernel
theorem dX1_copyFrom_21 : decode cX1_copyFrom 21 = .ok (.aload_n 0, 1) := by decide +kernel
theorem dX1_copyFrom_22 : decode cX1_copyFrom 22 = .ok (.getfield 15, 3) := by decide +kernel
theorem dX1_copyFrom_25 : decode cX1_copyFrom 25 = .ok (.iconst 0, 1) := by decide +kernel
theorem dX1_copyFrom_26 : decode cX1_copyFrom 26 = .ok (.bipush 18, 2) := by decide +kernel
theorem dX1_copyFrom_28 : decode cX1_copyFrom 28 = .ok (.invokestatic 22, 3) := by decide +kernel
theorem dX1_copyFrom_31 : decode cX1_copyFrom 31 = .ok (.return_, 1) := by decide +kernel
theorem dX1_stateAfter_0 : decode cX1_stateAfter 0 = .ok (.iconst 0, 1) := by decide +kernel
theorem dX1_stateAfter_1 : decode cX1_stateAfter 1 = .ok (.istore_n 2, 1) := by decide +kernel
theorem dX1_stateAfter_2 : decode cX1_stateAfter 2 = .ok (.iconst 0, 1) := by decide +kernel
theorem dX1_stateAfter_3 : decode cX1_stateAfter 3 = .ok (.istore_n 3, 1) := by decide +kernel
theorem dX1_stateAfter_4 : decode cX1_stateAfter 4 = .ok (.iload_n 3, 1) := by decide +kernel
theorem dX1_stateAfter_5 : decode cX1_stateAfter 5 = .ok (.aload_n 1, 1) := by decide +kernel
theorem dX1_stateAfter_6 : decode cX1_stateAfter 6 = .ok (.getfield 28, 3) := by decide +kernel
theorem dX1_stateAfter_9 : decode cX1_stateAfter 9 = .ok (.if_icmp .ge 21, 3) := by decide +kernel
theorem dX1_stateAfter_12 : decode cX1_stateAfter 12 = .ok (.aload_n 0, 1) := by decide +kernel
theorem dX1_stateAfter_13 : decode cX1_stateAfter 13 = .ok (.iload_n 2, 1) := by decide +kernel
theorem dX1_stateAfter_14 : decode cX1_stateAfter 14 = .ok (.aload_n 1, 1) := by decide +kernel
theorem dX1_stateAfter_15 : decode cX1_stateAfter 15 = .ok (.getfield 33, 3) := by decide +kernel
theorem dX1_stateAfter_18 : decode cX1_stateAfter 18 = .ok (.iload_n 3, 1) := by decide +kernel
theorem dX1_stateAfter_19 : decode cX1_stateAfter 19 = .ok (.iaload, 1) := by decide +kernel
theorem dX1_stateAfter_20 : decode cX1_stateAfter 20 = .ok (.invokevirtual 36, 3) := by decide +kernel
theorem dX1_stateAfter_23 : decode cX1_stateAfter 23 = .ok (.istore_n 2, 1) := by decide +kernel
theorem dX1_stateAfter_24 : decode cX1_stateAfter 24 = .ok (.iinc 3 1, 3) := by decide +kernel
theorem dX1_stateAfter_27 : decode cX1_stateAfter 27 = .ok (.goto (-23), 3) := by decide +kernel
theorem dX1_stateAfter_30 : decode cX1_stateAfter 30 = .ok (.iload_n 2, 1) := by decide +kernel
theorem dX1_stateAfter_31 : decode cX1_stateAfter 31 = .ok (.ireturn, 1) := by decide +kernel
theorem dX1_drawAll_0 : decode cX1_drawAll 0 = .ok (.iload_n 1, 1) := by decide +kernel
theorem dX1_drawAll_1 : decode cX1_drawAll 1 = .ok (.istore_n 2, 1) := by decide +kernel
theorem dX1_drawAll_2 : decode cX1_drawAll 2 = .ok (.iconst 0, 1) := by decide +kernel
theorem dX1_drawAll_3 : decode cX1_drawAll 3 = .ok (.istore_n 3, 1) := by decide +kernel
theorem dX1_drawAll_4 : decode cX1_drawAll 4 = .ok (.iload_n 3, 1) := by decide +kernel
theorem dX1_drawAll_5 : decode cX1_drawAll 5 = .ok (.aload_n 0, 1) := by decide +kernel
theorem dX1_drawAll_6 : decode cX1_drawAll 6 = .ok (.getfield 9, 3) := by decide +kernel
theorem dX1_drawAll_9 : decode cX1_drawAll 9 = .ok (.iconst 3, 1) := by decide +kernel
theorem dX1_drawAll_10 : decode cX1_drawAll 10 = .ok (.imul, 1) := by decide +kernel
theorem dX1_drawAll_11 : decode cX1_drawAll 11 = .ok (.if_icmp .ge 28, 3) := by decide +kernel
theorem dX1_drawAll_14 : decode cX1_drawAll 14 = .ok (.iload_n 2, 1) := by decide +kernel
theorem dX1_drawAll_15 : decode cX1_drawAll 15 = .ok (.invokestatic 40, 3) := by decide +kernel
theorem dX1_drawAll_18 : decode cX1_drawAll 18 = .ok (.istore_n 2, 1) := by decide +kernel
theorem dX1_drawAll_19 : decode cX1_drawAll 19 = .ok (.aload_n 0, 1) := by decide +kernel
theorem dX1_drawAll_20 : decode cX1_drawAll 20 = .ok (.getfield 15, 3) := by decide +kernel
theorem dX1_drawAll_23 : decode cX1_drawAll 23 = .ok (.iload_n 3, 1) := by decide +kernel
theorem dX1_drawAll_24 : decode cX1_drawAll 24 = .ok (.iload_n 2, 1) := by decide +kernel
theorem dX1_drawAll_25 : decode cX1_drawAll 25 = .ok (.aload_n 0, 1) := by decide +kernel
theorem dX1_drawAll_26 : decode cX1_drawAll 26 = .ok (.getfield 9, 3) := by decide +kernel
theorem dX1_drawAll_29 : decode cX1_drawAll 29 = .ok (.invokestatic 44, 3) := by decide +kernel
theorem dX1_drawAll_32 : decode cX1_drawAll 32 = .ok (.iastore, 1) := by decide +kernel
theorem dX1_drawAll_33 : decode cX1_drawAll 33 = .ok (.iinc 3 1, 3) := by decide +kernel
theorem dX1_drawAll_36 : decode cX1_drawAll 36 = .ok (.goto (-32), 3) := by decide +kernel
theorem dX1_drawAll_39 : decode cX1_drawAll 39 = .ok (.iconst 0, 1) := by decide +kernel
theorem dX1_drawAll_40 : decode cX1_drawAll 40 = .ok (.istore_n 3, 1) := by decide +kernel
theorem dX1_drawAll_41 : decode cX1_drawAll 41 = .ok (.iload_n 3, 1) := by decide +kernel
theorem dX1_drawAll_42 : decode cX1_drawAll 42 = .ok (.aload_n 0, 1) := by decide +kernel
theorem dX1_drawAll_43 : decode cX1_drawAll 43 = .ok (.getfield 9, 3) := by decide +kernel
theorem dX1_drawAll_46 : decode cX1_drawAll 46 = .ok (.if_icmp .ge 33, 3) := by decide +kernel
theorem dX1_drawAll_49 : decode cX1_drawAll 49 = .ok (.iload_n 2, 1) := by decide +kernel
theorem dX1_drawAll_50 : decode cX1_drawAll 50 = .ok (.invokestatic 40, 3) := by decide +kernel
theorem dX1_drawAll_53 : decode cX1_drawAll 53 = .ok (.istore_n 2, 1) := by decide +kernel
theorem dX1_drawAll_54 : decode cX1_drawAll 54 = .ok (.aload_n 0, 1) := by decide +kernel
theorem dX1_drawAll_55 : decode cX1_drawAll 55 = .ok (.iload_n 3, 1) := by decide +kernel
theorem dX1_drawAll_56 : decode cX1_drawAll 56 = .ok (.iload_n 2, 1) := by decide +kernel
theorem dX1_drawAll_57 : decode cX1_drawAll 57 = .ok (.iconst 2, 1) := by decide +kernel
theorem dX1_drawAll_58 : decode cX1_drawAll 58 = .ok (.invokestatic 44, 3) := by decide +kernel
theorem dX1_drawAll_61 : decode cX1_drawAll 61 = .ok (.iconst 1, 1) := by decide +kernel
theorem dX1_drawAll_62 : decode cX1_drawAll 62 = .ok (.if_icmp .ne 7, 3) := by decide +kernel
theorem dX1_drawAll_65 : decode cX1_drawAll 65 = .ok (.iconst 1, 1) := by decide +kernel
theorem dX1_drawAll_66 : decode cX1_drawAll 66 = .ok (.goto 4, 3) := by decide +kernel
theorem dX1_drawAll_69 : decode cX1_drawAll 69 = .ok (.iconst 0, 1) := by decide +kernel
theorem dX1_drawAll_70 : decode cX1_drawAll 70 = .ok (.invokevirtual 47, 3) := by decide +kernel
theorem dX1_drawAll_73 : decode cX1_drawAll 73 = .ok (.iinc 3 1, 3) := by decide +kernel
theorem dX1_drawAll_76 : decode cX1_drawAll 76 = .ok (.goto (-35), 3) := by decide +kernel
theorem dX1_drawAll_79 : decode cX1_drawAll 79 = .ok (.return_, 1) := by decide +kernel
theorem dX1_nextValue_0 : decode cX1_nextValue 0 = .ok (.iload_n 0, 1) := by decide +kernel
theorem dX1_nextValue_1 : decode cX1_nextValue 1 = .ok (.ldc 51, 2) := by decide +kernel
theorem dX1_nextValue_3 : decode cX1_nextValue 3 = .ok (.imul, 1) := by decide +kernel
theorem dX1_nextValue_4 : decode cX1_nextValue 4 = .ok (.sipush 12345, 3) := by decide +kernel
theorem dX1_nextValue_7 : decode cX1_nextValue 7 = .ok (.iadd, 1) := by decide +kernel
theorem dX1_nextValue_8 : decode cX1_nextValue 8 = .ok (.ireturn, 1) := by decide +kernel
theorem dX1_draw_0 : decode cX1_draw 0 = .ok (.iload_n 1, 1) := by decide +kernel
theorem dX1_draw_1 : decode cX1_draw 1 = .ok (.ifCond .le 12, 3) := by decide +kernel
theorem dX1_draw_4 : decode cX1_draw 4 = .ok (.iload_n 0, 1) := by decide +kernel
theorem dX1_draw_5 : decode cX1_draw 5 = .ok (.bipush 16, 2) := by decide +kernel
theorem dX1_draw_7 : decode cX1_draw 7 = .ok (.iushr, 1) := by decide +kernel
theorem dX1_draw_8 : decode cX1_draw 8 = .ok (.iload_n 1, 1) := by decide +kernel
theorem dX1_draw_9 : decode cX1_draw 9 = .ok (.irem, 1) := by decide +kernel
theorem dX1_draw_10 : decode cX1_draw 10 = .ok (.goto 4, 3) := by decide +kernel
theorem dX1_draw_13 : decode cX1_draw 13 = .ok (.iconst 0, 1) := by decide +kernel
theorem dX1_draw_14 : decode cX1_draw 14 = .ok (.ireturn, 1) := by decide +kernel
theorem dX1_becomeWitness_0 : decode cX1_becomeWitness 0 = .ok (.aload_n 0, 1) := by decide +kernel
theorem dX1_becomeWitness_1 : decode cX1_becomeWitness 1 = .ok (.iload_n 1, 1) := by decide +kernel
theorem dX1_becomeWitness_2 : decode cX1_becomeWitness 2 = .ok (.invokevirtual 52, 3) := by decide +kernel
theorem dX1_becomeWitness_5 : decode cX1_becomeWitness 5 = .ok (.iload_n 1, 1) := by decide +kernel
theorem dX1_becomeWitness_6 : decode cX1_becomeWitness 6 = .ok (.iconst 1, 1) := by decide +kernel
theorem dX1_becomeWitness_7 : decode cX1_becomeWitness 7 = .ok (.isub, 1) := by decide +kernel
theorem dX1_becomeWitness_8 : decode cX1_becomeWitness 8 = .ok (.istore_n 2, 1) := by decide +kernel
theorem dX1_becomeWitness_9 : decode cX1_becomeWitness 9 = .ok (.iconst 0, 1) := by decide +kernel
theorem dX1_becomeWitness_10 : decode cX1_becomeWitness 10 = .ok (.istore_n 3, 1) := by decide +kernel
theorem dX1_becomeWitness_11 : decode cX1_becomeWitness 11 = .ok (.iload_n 3, 1) := by decide +kernel
theorem dX1_becomeWitness_12 : decode cX1_becomeWitness 12 = .ok (.iload_n 1, 1) := by decide +kernel
theorem dX1_becomeWitness_13 : decode cX1_becomeWitness 13 = .ok (.if_icmp .ge 66, 3) := by decide +kernel
theorem dX1_becomeWitness_16 : decode cX1_becomeWitness 16 = .ok (.aload_n 0, 1) := by decide +kernel
theorem dX1_becomeWitness_17 : decode cX1_becomeWitness 17 = .ok (.iload_n 3, 1) := by decide +kernel
theorem dX1_becomeWitness_18 : decode cX1_becomeWitness 18 = .ok (.iconst 0, 1) := by decide +kernel
theorem dX1_becomeWitness_19 : decode cX1_becomeWitness 19 = .ok (.iload_n 3, 1) := by decide +kernel
theorem dX1_becomeWitness_20 : decode cX1_becomeWitness 20 = .ok (.iload_n 2, 1) := by decide +kernel
theorem dX1_becomeWitness_21 : decode cX1_becomeWitness 21 = .ok (.if_icmp .ne 7, 3) := by decide +kernel
theorem dX1_becomeWitness_24 : decode cX1_becomeWitness 24 = .ok (.iconst 0, 1) := by decide +kernel
theorem dX1_becomeWitness_25 : decode cX1_becomeWitness 25 = .ok (.goto 6, 3) := by decide +kernel
theorem dX1_becomeWitness_28 : decode cX1_becomeWitness 28 = .ok (.iload_n 3, 1) := by decide +kernel
theorem dX1_becomeWitness_29 : decode cX1_becomeWitness 29 = .ok (.iconst 1, 1) := by decide +kernel
theorem dX1_becomeWitness_30 : decode cX1_becomeWitness 30 = .ok (.iadd, 1) := by decide +kernel
theorem dX1_becomeWitness_31 : decode cX1_becomeWitness 31 = .ok (.invokevirtual 56, 3) := by decide +kernel
theorem dX1_becomeWitness_34 : decode cX1_becomeWitness 34 = .ok (.aload_n 0, 1) := by decide +kernel
theorem dX1_becomeWitness_35 : decode cX1_becomeWitness 35 = .ok (.iload_n 3, 1) := by decide +kernel
theorem dX1_becomeWitness_36 : decode cX1_becomeWitness 36 = .ok (.iconst 1, 1) := by decide +kernel
theorem dX1_becomeWitness_37 : decode cX1_becomeWitness 37 = .ok (.iload_n 3, 1) := by decide +kernel
theorem dX1_becomeWitness_38 : decode cX1_becomeWitness 38 = .ok (.iconst 2, 1) := by decide +kernel
theorem dX1_becomeWitness_39 : decode cX1_becomeWitness 39 = .ok (.if_icmp .ge 14, 3) := by decide +kernel
theorem dX1_becomeWitness_42 : decode cX1_becomeWitness 42 = .ok (.iload_n 1, 1) := by decide +kernel
theorem dX1_becomeWitness_43 : decode cX1_becomeWitness 43 = .ok (.iconst 1, 1) := by decide +kernel
theorem dX1_becomeWitness_44 : decode cX1_becomeWitness 44 = .ok (.if_icmp .le 9, 3) := by decide +kernel
theorem dX1_becomeWitness_47 : decode cX1_becomeWitness 47 = .ok (.iconst 1, 1) := by decide +kernel
theorem dX1_becomeWitness_48 : decode cX1_becomeWitness 48 = .ok (.iload_n 3, 1) := by decide +kernel
theorem dX1_becomeWitness_49 : decode cX1_becomeWitness 49 = .ok (.isub, 1) := by decide +kernel
theorem dX1_becomeWitness_50 : decode cX1_becomeWitness 50 = .ok (.goto 4, 3) := by decide +kernel
theorem dX1_becomeWitness_53 : decode cX1_becomeWitness 53 = .ok (.iload_n 3, 1) := by decide +kernel
theorem dX1_becomeWitness_54 : decode cX1_becomeWitness 54 = .ok (.invokevirtual 56, 3) := by decide +kernel
theorem dX1_becomeWitness_57 : decode cX1_becomeWitness 57 = .ok (.aload_n 0, 1) := by decide +kernel
theorem dX1_becomeWitness_58 : decode cX1_becomeWitness 58 = .ok (.iload_n 3, 1) := by decide +kernel
theorem dX1_becomeWitness_59 : decode cX1_becomeWitness 59 = .ok (.iconst 2, 1) := by decide +kernel
theorem dX1_becomeWitness_60 : decode cX1_becomeWitness 60 = .ok (.iload_n 3, 1) := by decide +kernel
theorem dX1_becomeWitness_61 : decode cX1_becomeWitness 61 = .ok (.iload_n 2, 1) := by decide +kernel
theorem dX1_becomeWitness_62 : decode cX1_becomeWitness 62 = .ok (.if_icmp .ne 7, 3) := by decide +kernel
theorem dX1_becomeWitness_65 : decode cX1_becomeWitness 65 = .ok (.iconst 0, 1) := by decide +kernel
theorem dX1_becomeWitness_66 : decode cX1_becomeWitness 66 = .ok (.goto 4, 3) := by decide +kernel
theorem dX1_becomeWitness_69 : decode cX1_becomeWitness 69 = .ok (.iload_n 3, 1) := by decide +kernel
theorem dX1_becomeWitness_70 : decode cX1_becomeWitness 70 = .ok (.invokevirtual 56, 3) := by decide +kernel
theorem dX1_becomeWitness_73 : decode cX1_becomeWitness 73 = .ok (.iinc 3 1, 3) := by decide +kernel
theorem dX1_becomeWitness_76 : decode cX1_becomeWitness 76 = .ok (.goto (-65), 3) := by decide +kernel
theorem dX1_becomeWitness_79 : decode cX1_becomeWitness 79 = .ok (.aload_n 0, 1) := by decide +kernel
theorem dX1_becomeWitness_80 : decode cX1_becomeWitness 80 = .ok (.iload_n 2, 1) := by decide +kernel
theorem dX1_becomeWitness_81 : decode cX1_becomeWitness 81 = .ok (.iconst 1, 1) := by decide +kernel
theorem dX1_becomeWitness_82 : decode cX1_becomeWitness 82 = .ok (.invokevirtual 47, 3) := by decide +kernel
theorem dX1_becomeWitness_85 : decode cX1_becomeWitness 85 = .ok (.return_, 1) := by decide +kernel
theorem dX10_init_0 : decode cX10_init 0 = .ok (.aload_n 0, 1) := by decide +kernel
theorem dX10_init_1 : decode cX10_init 1 = .ok (.invokespecial 3, 3) := by decide +kernel
theorem dX10_init_4 : decode cX10_init 4 = .ok (.aload_n 0, 1) := by decide +kernel
theorem dX10_init_5 : decode cX10_init 5 = .ok (.iconst 0, 1) := by decide +kernel
theorem dX10_init_6 : decode cX10_init 6 = .ok (.putfield 9, 3) := by decide +kernel
theorem dX10_init_9 : decode cX10_init 9 = .ok (.aload_n 0, 1) := by decide +kernel
theorem dX10_init_10 : decode cX10_init 10 = .ok (.bipush 12, 2) := by decide +kernel
theorem dX10_init_12 : decode cX10_init 12 = .ok (.newarray .int, 2) := by decide +kernel
theorem dX10_init_14 : decode cX10_init 14 = .ok (.putfield 15, 3) := by decide +kernel
theorem dX10_init_17 : decode cX10_init 17 = .ok (.return_, 1) := by decide +kernel
theorem dX10_add_0 : decode cX10_add 0 = .ok (.aload_n 0, 1) := by decide +kernel
theorem dX10_add_1 : decode cX10_add 1 = .ok (.getfield 9, 3) := by decide +kernel
theorem dX10_add_4 : decode cX10_add 4 = .ok (.bipush 12, 2) := by decide +kernel
theorem dX10_add_6 : decode cX10_add 6 = .ok (.if_icmp .ge 23, 3) := by decide +kernel
theorem dX10_add_9 : decode cX10_add 9 = .ok (.aload_n 0, 1) := by decide +kernel
theorem dX10_add_10 : decode cX10_add 10 = .ok (.getfield 15, 3) := by decide +kernel
theorem dX10_add_13 : decode cX10_add 13 = .ok (.aload_n 0, 1) := by decide +kernel
theorem dX10_add_14 : decode cX10_add 14 = .ok (.getfield 9, 3) := by decide +kernel
theorem dX10_add_17 : decode cX10_add 17 = .ok (.iload_n 1, 1) := by decide +kernel
theorem dX10_add_18 : decode cX10_add 18 = .ok (.iastore, 1) := by decide +kernel
theorem dX10_add_19 : decode cX10_add 19 = .ok (.aload_n 0, 1) := by decide +kernel
theorem dX10_add_20 : decode cX10_add 20 = .ok (.dup, 1) := by decide +kernel
theorem dX10_add_21 : decode cX10_add 21 = .ok (.getfield 9, 3) := by decide +kernel
theorem dX10_add_24 : decode cX10_add 24 = .ok (.iconst 1, 1) := by decide +kernel
theorem dX10_add_25 : decode cX10_add 25 = .ok (.iadd, 1) := by decide +kernel
theorem dX10_add_26 : decode cX10_add 26 = .ok (.putfield 9, 3) := by decide +kernel
theorem dX10_add_29 : decode cX10_add 29 = .ok (.return_, 1) := by decide +kernel
theorem dX10_copyFrom_0 : decode cX10_copyFrom 0 = .ok (.aload_n 0, 1) := by decide +kernel
theorem dX10_copyFrom_1 : decode cX10_copyFrom 1 = .ok (.aload_n 1, 1) := by decide +kernel
theorem dX10_copyFrom_2 : decode cX10_copyFrom 2 = .ok (.getfield 9, 3) := by decide +kernel
theorem dX10_copyFrom_5 : decode cX10_copyFrom 5 = .ok (.putfield 9, 3) := by decide +kernel
theorem dX10_copyFrom_8 : decode cX10_copyFrom 8 = .ok (.aload_n 1, 1) := by decide +kernel
theorem dX10_copyFrom_9 : decode cX10_copyFrom 9 = .ok (.getfield 15, 3) := by decide +kernel
theorem dX10_copyFrom_12 : decode cX10_copyFrom 12 = .ok (.iconst 0, 1) := by decide +kernel
theorem dX10_copyFrom_13 : decode cX10_copyFrom 13 = .ok (.aload_n 0, 1) := by decide +kernel
theorem dX10_copyFrom_14 : decode cX10_copyFrom 14 = .ok (.getfield 15, 3) := by decide +kernel
theorem dX10_copyFrom_17 : decode cX10_copyFrom 17 = .ok (.iconst 0, 1) := by decide +kernel
theorem dX10_copyFrom_18 : decode cX10_copyFrom 18 = .ok (.bipush 12, 2) := by decide +kernel
theorem dX10_copyFrom_20 : decode cX10_copyFrom 20 = .ok (.invokestatic 19, 3) := by decide +kernel
theorem dX10_copyFrom_23 : decode cX10_copyFrom 23 = .ok (.return_, 1) := by decide +kernel
theorem dX11_init_0 : decode cX11_init 0 = .ok (.aload_n 0, 1) := by decide +kernel
theorem dX11_init_1 : decode cX11_init 1 = .ok (.invokespecial 3, 3) := by decide +kernel
theorem dX11_init_4 : decode cX11_init 4 = .ok (.aload_n 0, 1) := by decide +kernel
theorem dX11_init_5 : decode cX11_init 5 = .ok (.iconst 3, 1) := by decide +kernel
theorem dX11_init_6 : decode cX11_init 6 = .ok (.anewarray 9, 3) := by decide +kernel
theorem dX11_init_9 : decode cX11_init 9 = .ok (.putfield 11, 3) := by decide +kernel
theorem dX11_init_12 : decode cX11_init 12 = .ok (.aload_n 0, 1) := by decide +kernel
theorem dX11_init_13 : decode cX11_init 13 = .ok (.iconst 3, 1) := by decide +kernel
theorem dX11_init_14 : decode cX11_init 14 = .ok (.anewarray 9, 3) := by decide +kernel
theorem dX11_init_17 : decode cX11_init 17 = .ok (.putfield 15, 3) := by decide +kernel
theorem dX11_init_20 : decode cX11_init 20 = .ok (.aload_n 0, 1) := by decide +kernel
theorem dX11_init_21 : decode cX11_init 21 = .ok (.new 18, 3) := by decide +kernel
theorem dX11_init_24 : decode cX11_init 24 = .ok (.dup, 1) := by decide +kernel
theorem dX11_init_25 : decode cX11_init 25 = .ok (.invokespecial 20, 3) := by decide +kernel
theorem dX11_init_28 : decode cX11_init 28 = .ok (.putfield 21, 3) := by decide +kernel
theorem dX11_init_31 : decode cX11_init 31 = .ok (.aload_n 0, 1) := by decide +kernel
theorem dX11_init_32 : decode cX11_init 32 = .ok (.new 18, 3) := by decide +kernel
theorem dX11_init_35 : decode cX11_init 35 = .ok (.dup, 1) := by decide +kernel
theorem dX11_init_36 : decode cX11_init 36 = .ok (.invokespecial 20, 3) := by decide +kernel
theorem dX11_init_39 : decode cX11_init 39 = .ok (.putfield 25, 3) := by decide +kernel
theorem dX11_init_42 : decode cX11_init 42 = .ok (.aload_n 0, 1) := by decide +kernel
theorem dX11_init_43 : decode cX11_init 43 = .ok (.iconst 0, 1) := by decide +kernel
theorem dX11_init_44 : decode cX11_init 44 = .ok (.putfield 28, 3) := by decide +kernel
theorem dX11_init_47 : decode cX11_init 47 = .ok (.aload_n 0, 1) := by decide +kernel
theorem dX11_init_48 : decode cX11_init 48 = .ok (.iconst 2, 1) := by decide +kernel
theorem dX11_init_49 : decode cX11_init 49 = .ok (.anewarray 32, 3) := by decide +kernel
theorem dX11_init_52 : decode cX11_init 52 = .ok (.putfield 34, 3) := by decide +kernel
theorem dX11_init_55 : decode cX11_init 55 = .ok (.aload_n 0, 1) := by decide +kernel
theorem dX11_init_56 : decode cX11_init 56 = .ok (.new 38, 3) := by decide +kernel
theorem dX11_init_59 : decode cX11_init 59 = .ok (.dup, 1) := by decide +kernel
theorem dX11_init_60 : decode cX11_init 60 = .ok (.invokespecial 40, 3) := by decide +kernel
theorem dX11_init_63 : decode cX11_init 63 = .ok (.putfield 41, 3) := by decide +kernel
theorem dX11_init_66 : decode cX11_init 66 = .ok (.aload_n 0, 1) := by decide +kernel
theorem dX11_init_67 : decode cX11_init 67 = .ok (.new 45, 3) := by decide +kernel
theorem dX11_init_70 : decode cX11_init 70 = .ok (.dup, 1) := by decide +kernel
theorem dX11_init_71 : decode cX11_init 71 = .ok (.invokespecial 47, 3) := by decide +kernel
theorem dX11_init_74 : decode cX11_init 74 = .ok (.putfield 48, 3) := by decide +kernel
theorem dX11_init_77 : decode cX11_init 77 = .ok (.aload_n 0, 1) := by decide +kernel
theorem dX11_init_78 : decode cX11_init 78 = .ok (.new 52, 3) := by decide +kernel
theorem dX11_init_81 : decode cX11_init 81 = .ok (.dup, 1) := by decide +kernel
theorem dX11_init_82 : decode cX11_init 82 = .ok (.invokespecial 54, 3) := by decide +kernel
theorem dX11_init_85 : decode cX11_init 85 = .ok (.putfield 55, 3) := by decide +kernel
theorem dX11_init_88 : decode cX11_init 88 = .ok (.aload_n 0, 1) := by decide +kernel
theorem dX11_init_89 : decode cX11_init 89 = .ok (.new 9, 3) := by decide +kernel
theorem dX11_init_92 : decode cX11_init 92 = .ok (.dup, 1) := by decide +kernel
theorem dX11_init_93 : decode cX11_init 93 = .ok (.invokespecial 59, 3) := by decide +kernel
theorem dX11_init_96 : decode cX11_init 96 = .ok (.putfield 60, 3) := by decide +kernel
theorem dX11_init_99 : decode cX11_init 99 = .ok (.aload_n 0, 1) := by decide +kernel
theorem dX11_init_100 : decode cX11_init 100 = .ok (.new 32, 3) := by decide +kernel
theorem dX11_init_103 : decode cX11_init 103 = .ok (.dup, 1) := by decide +kernel
theorem dX11_init_104 : decode cX11_init 104 = .ok (.invokespecial 64, 3) := by decide +kernel
theorem dX11_init_107 : decode cX11_init 107 = .ok (.putfield 65, 3) := by decide +kernel
theorem dX11_init_110 : decode cX11_init 110 = .ok (.new 69, 3) := by decide +kernel
theorem dX11_init_113 : decode cX11_init 113 = .ok (.dup, 1) := by decide +kernel
theorem dX11_init_114 : decode cX11_init 114 = .ok (.invokespecial 71, 3) := by decide +kernel
theorem dX11_init_117 : decode cX11_init 117 = .ok (.astore_n 1, 1) := by decide +kernel
theorem dX11_init_118 : decode cX11_init 118 = .ok (.aload_n 0, 1) := by decide +kernel
theorem dX11_init_119 : decode cX11_init 119 = .ok (.new 72, 3) := by decide +kernel
theorem dX11_init_122 : decode cX11_init 122 = .ok (.dup, 1) := by decide +kernel
theorem dX11_init_123 : decode cX11_init 123 = .ok (.aload_n 1, 1) := by decide +kernel
theorem dX11_init_124 : decode cX11_init 124 = .ok (.invokespecial 74, 3) := by decide +kernel
theorem dX11_init_127 : decode cX11_init 127 = .ok (.putfield 77, 3) := by decide +kernel
theorem dX11_init_130 : decode cX11_init 130 = .ok (.aload_n 0, 1) := by decide +kernel
theorem dX11_init_131 : decode cX11_init 131 = .ok (.new 81, 3) := by decide +kernel
theorem dX11_init_134 : decode cX11_init 134 = .ok (.dup, 1) := by decide +kernel
theorem dX11_init_135 : decode cX11_init 135 = .ok (.aload_n 1, 1) := by decide +kernel
theorem dX11_init_136 : decode cX11_init 136 = .ok (.invokespecial 83, 3) := by decide +kernel
theorem dX11_init_139 : decode cX11_init 139 = .ok (.putfield 84, 3) := by decide +kernel
theorem dX11_init_142 : decode cX11_init 142 = .ok (.iconst 0, 1) := by decide +kernel
theorem dX11_init_143 : decode cX11_init 143 = .ok (.istore_n 2, 1) := by decide +kernel
theorem dX11_init_144 : decode cX11_init 144 = .ok (.iload_n 2, 1) := by decide +kernel
theorem dX11_init_145 : decode cX11_init 145 = .ok (.iconst 3, 1) := by decide +kernel
theorem dX11_init_146 : decode cX11_init 146 = .ok (.if_icmp .ge 35, 3) := by decide +kernel
theorem dX11_init_149 : decode cX11_init 149 = .ok (.aload_n 0, 1) := by decide +kernel
theorem dX11_init_150 : decode cX11_init 150 = .ok (.getfield 11, 3) := by decide +kernel
theorem dX11_init_153 : decode cX11_init 153 = .ok (.iload_n 2, 1) := by decide +kernel
theorem dX11_init_154 : decode cX11_init 154 = .ok (.new 9, 3) := by decide +kernel
theorem dX11_init_157 : decode cX11_init 157 = .ok (.dup, 1) := by decide +kernel
theorem dX11_init_158 : decode cX11_init 158 = .ok (.invokespecial 59, 3) := by decide +kernel
theorem dX11_init_161 : decode cX11_init 161 = .ok (.aastore, 1) := by decide +kernel
theorem dX11_init_162 : decode cX11_init 162 = .ok (.aload_n 0, 1) := by decide +kernel
theorem dX11_init_163 : decode cX11_init 163 = .ok (.getfield 15, 3) := by decide +kernel
theorem dX11_init_166 : decode cX11_init 166 = .ok (.iload_n 2, 1) := by decide +kernel
theorem dX11_init_167 : decode cX11_init 167 = .ok (.new 9, 3) := by decide +kernel
theorem dX11_init_170 : decode cX11_init 170 = .ok (.dup, 1) := by decide +kernel
theorem dX11_init_171 : decode cX11_init 171 = .ok (.invokespecial 59, 3) := by decide +kernel
theorem dX11_init_174 : decode cX11_init 174 = .ok (.aastore, 1) := by decide +kernel
theorem dX11_init_175 : decode cX11_init 175 = .ok (.iinc 2 1, 3) := by decide +kernel
theorem dX11_init_178 : decode cX11_init 178 = .ok (.goto (-34), 3) := by decide +kernel
theorem dX11_init_181 : decode cX11_init 181 = .ok (.iconst 0, 1) := by decide +kernel
theorem dX11_init_182 : decode cX11_init 182 = .ok (.istore_n 2, 1) := by decide +kernel
theorem dX11_init_183 : decode cX11_init 183 = .ok (.iload_n 2, 1) := by decide +kernel
theorem dX11_init_184 : decode cX11_init 184 = .ok (.iconst 2, 1) := by decide +kernel
theorem dX11_init_185 : decode cX11_init 185 = .ok (.if_icmp .ge 22, 3) := by decide +kernel
theorem dX11_init_188 : decode cX11_init 188 = .ok (.aload_n 0, 1) := by decide +kernel
theorem dX11_init_189 : decode cX11_init 189 = .ok (.getfield 34, 3) := by decide +kernel
theorem dX11_init_192 : decode cX11_init 192 = .ok (.iload_n 2, 1) := by decide +kernel
theorem dX11_init_193 : decode cX11_init 193 = .ok (.new 32, 3) := by decide +kernel
theorem dX11_init_196 : decode cX11_init 196 = .ok (.dup, 1) := by decide +kernel
theorem dX11_init_197 : decode cX11_init 197 = .ok (.invokespecial 64, 3) := by decide +kernel
theorem dX11_init_200 : decode cX11_init 200 = .ok (.aastore, 1) := by decide +kernel
theorem dX11_init_201 : decode cX11_init 201 = .ok (.iinc 2 1, 3) := by decide +kernel
theorem dX11_init_204 : decode cX11_init 204 = .ok (.goto (-21), 3) := by decide +kernel
theorem dX11_init_207 : decode cX11_init 207 = .ok (.return_, 1) := by decide +kernel
theorem dX11_reset_0 : decode cX11_reset 0 = .ok (.iload_n 1, 1) := by decide +kernel
theorem dX11_reset_1 : decode cX11_reset 1 = .ok (.invokestatic 88, 3) := by decide +kernel
theorem dX11_reset_4 : decode cX11_reset 4 = .ok (.iload_n 2, 1) := by decide +kernel
theorem dX11_reset_5 : decode cX11_reset 5 = .ok (.invokestatic 92, 3) := by decide +kernel
theorem dX11_reset_8 : decode cX11_reset 8 = .ok (.aload_n 0, 1) := by decide +kernel
theorem dX11_reset_9 : decode cX11_reset 9 = .ok (.getfield 11, 3) := by decide +kernel
theorem dX11_reset_12 : decode cX11_reset 12 = .ok (.iload_n 1, 1) := by decide +kernel
theorem dX11_reset_13 : decode cX11_reset 13 = .ok (.aaload, 1) := by decide +kernel
theorem dX11_reset_14 : decode cX11_reset 14 = .ok (.iload_n 2, 1) := by decide +kernel
theorem dX11_reset_15 : decode cX11_reset 15 = .ok (.invokevirtual 95, 3) := by decide +kernel
theorem dX11_reset_18 : decode cX11_reset 18 = .ok (.return_, 1) := by decide +kernel
theorem dX11_setTarget_0 : decode cX11_setTarget 0 = .ok (.aload_n 0, 1) := by decide +kernel
theorem dX11_setTarget_1 : decode cX11_setTarget 1 = .ok (.iload_n 1, 1) := by decide +kernel
theorem dX11_setTarget_2 : decode cX11_setTarget 2 = .ok (.iload_n 2, 1) := by decide +kernel
theorem dX11_setTarget_3 : decode cX11_setTarget 3 = .ok (.invokevirtual 98, 3) := by decide +kernel
theorem dX11_setTarget_6 : decode cX11_setTarget 6 = .ok (.iload_n 3, 1) := by decide +kernel
theorem dX11_setTarget_7 : decode cX11_setTarget 7 = .ok (.invokestatic 102, 3) := by decide +kernel
theorem dX11_setTarget_10 : decode cX11_setTarget 10 = .ok (.aload_n 0, 1) := by decide +kernel
theorem dX11_setTarget_11 : decode cX11_setTarget 11 = .ok (.iload_n 1, 1) := by decide +kernel
theorem dX11_setTarget_12 : decode cX11_setTarget 12 = .ok (.iload 4, 2) := by decide +kernel
theorem dX11_setTarget_14 : decode cX11_setTarget 14 = .ok (.invokevirtual 98, 3) := by decide +kernel
theorem dX11_setTarget_17 : decode cX11_setTarget 17 = .ok (.aload_n 0, 1) := by decide +kernel
theorem dX11_setTarget_18 : decode cX11_setTarget 18 = .ok (.getfield 11, 3) := by decide +kernel
theorem dX11_setTarget_21 : decode cX11_setTarget 21 = .ok (.iload_n 1, 1) := by decide +kernel
theorem dX11_setTarget_22 : decode cX11_setTarget 22 = .ok (.aaload, 1) := by decide +kernel
theorem dX11_setTarget_23 : decode cX11_setTarget 23 = .ok (.iload_n 2, 1) := by decide +kernel
theorem dX11_setTarget_24 : decode cX11_setTarget 24 = .ok (.iload_n 3, 1) := by decide +kernel
theorem dX11_setTarget_25 : decode cX11_setTarget 25 = .ok (.iload 4, 2) := by decide +kernel
theorem dX11_setTarget_27 : decode cX11_setTarget 27 = .ok (.invokevirtual 105, 3) := by decide +kernel
theorem dX11_setTarget_30 : decode cX11_setTarget 30 = .ok (.return_, 1) := by decide +kernel
theorem dX11_setFinal_0 : decode cX11_setFinal 0 = .ok (.aload_n 0, 1) := by decide +kernel
theorem dX11_setFinal_1 : decode cX11_setFinal 1 = .ok (.iload_n 1, 1) := by decide +kernel
theorem dX11_setFinal_2 : decode cX11_setFinal 2 = .ok (.iload_n 2, 1) := by decide +kernel
theorem dX11_setFinal_3 : decode cX11_setFinal 3 = .ok (.invokevirtual 98, 3) := by decide +kernel
theorem dX11_setFinal_6 : decode cX11_setFinal 6 = .ok (.aload_n 0, 1) := by decide +kernel
theorem dX11_setFinal_7 : decode cX11_setFinal 7 = .ok (.getfield 11, 3) := by decide +kernel
theorem dX11_setFinal_10 : decode cX11_setFinal 10 = .ok (.iload_n 1, 1) := by decide +kernel
theorem dX11_setFinal_11 : decode cX11_setFinal 11 = .ok (.aaload, 1) := by decide +kernel
theorem dX11_setFinal_12 : decode cX11_setFinal 12 = .ok (.iload_n 2, 1) := by decide +kernel
theorem dX11_setFinal_13 : decode cX11_setFinal 13 = .ok (.invokevirtual 109, 3) := by decide +kernel
theorem dX11_setFinal_16 : decode cX11_setFinal 16 = .ok (.istore 4, 2) := by decide +kernel
theorem dX11_setFinal_18 : decode cX11_setFinal 18 = .ok (.aload_n 0, 1) := by decide +kernel
theorem dX11_setFinal_19 : decode cX11_setFinal 19 = .ok (.getfield 11, 3) := by decide +kernel
theorem dX11_setFinal_22 : decode cX11_setFinal 22 = .ok (.iload_n 1, 1) := by decide +kernel
theorem dX11_setFinal_23 : decode cX11_setFinal 23 = .ok (.aaload, 1) := by decide +kernel
theorem dX11_setFinal_24 : decode cX11_setFinal 24 = .ok (.iload_n 2, 1) := by decide +kernel
theorem dX11_setFinal_25 : decode cX11_setFinal 25 = .ok (.iload_n 3, 1) := by decide +kernel
theorem dX11_setFinal_26 : decode cX11_setFinal 26 = .ok (.invokevirtual 113, 3) := by decide +kernel
theorem dX11_setFinal_29 : decode cX11_setFinal 29 = .ok (.iload 4, 2) := by decide +kernel
theorem dX11_setFinal_31 : decode cX11_setFinal 31 = .ok (.ireturn, 1) := by decide +kernel
theorem dX11_stateCount_0 : decode cX11_stateCount 0 = .ok (.iload_n 1, 1) := by decide +kernel
theorem dX11_stateCount_1 : decode cX11_stateCount 1 = .ok (.invokestatic 88, 3) := by decide +kernel
theorem dX11_stateCount_4 : decode cX11_stateCount 4 = .ok (.aload_n 0, 1) := by decide +kernel
theorem dX11_stateCount_5 : decode cX11_stateCount 5 = .ok (.getfield 11, 3) := by decide +kernel
theorem dX11_stateCount_8 : decode cX11_stateCount 8 = .ok (.iload_n 1, 1) := by decide +kernel
theorem dX11_stateCount_9 : decode cX11_stateCount 9 = .ok (.aaload, 1) := by decide +kernel
theorem dX11_stateCount_10 : decode cX11_stateCount 10 = .ok (.getfield 117, 3) := by decide +kernel
theorem dX11_stateCount_13 : decode cX11_stateCount 13 = .ok (.ireturn, 1) := by decide +kernel
theorem dX11_target_0 : decode cX11_target 0 = .ok (.aload_n 0, 1) := by decide +kernel
theorem dX11_target_1 : decode cX11_target 1 = .ok (.iload_n 1, 1) := by decide +kernel
theorem dX11_target_2 : decode cX11_target 2 = .ok (.iload_n 2, 1) := by decide +kernel
theorem dX11_target_3 : decode cX11_target 3 = .ok (.invokevirtual 98, 3) := by decide +kernel
theorem dX11_target_6 : decode cX11_target 6 = .ok (.iload_n 3, 1) := by decide +kernel
theorem dX11_target_7 : decode cX11_target 7 = .ok (.invokestatic 102, 3) := by decide +kernel
theorem dX11_target_10 : decode cX11_target 10 = .ok (.aload_n 0, 1) := by decide +kernel
theorem dX11_target_11 : decode cX11_target 11 = .ok (.getfield 11, 3) := by decide +kernel
theorem dX11_target_14 : decode cX11_target 14 = .ok (.iload_n 1, 1) := by decide +kernel
theorem dX11_target_15 : decode cX11_target 15 = .ok (.aaload, 1) := by decide +kernel
theorem dX11_target_16 : decode cX11_target 16 = .ok (.iload_n 2, 1) := by decide +kernel
theorem dX11_target_17 : decode cX11_target 17 = .ok (.iload_n 3, 1) := by decide +kernel
theorem dX11_target_18 : decode cX11_target 18 = .ok (.invokevirtual 121, 3) := by decide +kernel
theorem dX11_target_21 : decode cX11_target 21 = .ok (.ireturn, 1) := by decide +kernel
theorem dX11_isFinal_0 : decode cX11_isFinal 0 = .ok (.aload_n 0, 1) := by decide +kernel
theorem dX11_isFinal_1 : decode cX11_isFinal 1 = .ok (.iload_n 1, 1) := by decide +kernel
theorem dX11_isFinal_2 : decode cX11_isFinal 2 = .ok (.iload_n 2, 1) := by decide +kernel
theorem dX11_isFinal_3 : decode cX11_isFinal 3 = .ok (.invokevirtual 98, 3) := by decide +kernel
theorem dX11_isFinal_6 : decode cX11_isFinal 6 = .ok (.aload_n 0, 1) := by decide +kernel
theorem dX11_isFinal_7 : decode cX11_isFinal 7 = .ok (.getfield 11, 3) := by decide +kernel
theorem dX11_isFinal_10 : decode cX11_isFinal 10 = .ok (.iload_n 1, 1) := by decide +kernel
theorem dX11_isFinal_11 : decode cX11_isFinal 11 = .ok (.aaload, 1) := by decide +kernel
theorem dX11_isFinal_12 : decode cX11_isFinal 12 = .ok (.iload_n 2, 1) := by decide +kernel
theorem dX11_isFinal_13 : decode cX11_isFinal 13 = .ok (.invokevirtual 109, 3) := by decide +kernel
theorem dX11_isFinal_16 : decode cX11_isFinal 16 = .ok (.ireturn, 1) := by decide +kernel
theorem dX11_randomize_0 : decode cX11_randomize 0 = .ok (.iload_n 1, 1) := by decide +kernel
theorem dX11_randomize_1 : decode cX11_randomize 1 = .ok (.invokestatic 88, 3) := by decide +kernel
theorem dX11_randomize_4 : decode cX11_randomize 4 = .ok (.aload_n 0, 1) := by decide +kernel
theorem dX11_randomize_5 : decode cX11_randomize 5 = .ok (.getfield 11, 3) := by decide +kernel
theorem dX11_randomize_8 : decode cX11_randomize 8 = .ok (.iload_n 1, 1) := by decide +kernel
theorem dX11_randomize_9 : decode cX11_randomize 9 = .ok (.aaload, 1) := by decide +kernel
theorem dX11_randomize_10 : decode cX11_randomize 10 = .ok (.iload_n 2, 1) := by decide +kernel
theorem dX11_randomize_11 : decode cX11_randomize 11 = .ok (.invokevirtual 125, 3) := by decide +kernel
theorem dX11_randomize_14 : decode cX11_randomize 14 = .ok (.return_, 1) := by decide +kernel
theorem dX11_makeWitness_0 : decode cX11_makeWitness 0 = .ok (.iload_n 1, 1) := by decide +kernel
theorem dX11_makeWitness_1 : decode cX11_makeWitness 1 = .ok (.invokestatic 88, 3) := by decide +kernel
theorem dX11_makeWitness_4 : decode cX11_makeWitness 4 = .ok (.iload_n 2, 1) := by decide +kernel
theorem dX11_makeWitness_5 : decode cX11_makeWitness 5 = .ok (.invokestatic 92, 3) := by decide +kernel
theorem dX11_makeWitness_8 : decode cX11_makeWitness 8 = .ok (.aload_n 0, 1) := by decide +kernel
theorem dX11_makeWitness_9 : decode cX11_makeWitness 9 = .ok (.getfield 11, 3) := by decide +kernel
theorem dX11_makeWitness_12 : decode cX11_makeWitness 12 = .ok (.iload_n 1, 1) := by decide +kernel
theorem dX11_makeWitness_13 : decode cX11_makeWitness 13 = .ok (.aaload, 1) := by decide +kernel
theorem dX11_makeWitness_14 : decode cX11_makeWitness 14 = .ok (.iload_n 2, 1) := by decide +kernel
theorem dX11_makeWitness_15 : decode cX11_makeWitness 15 = .ok (.invokevirtual 128, 3) := by decide +kernel
theorem dX11_makeWitness_18 : decode cX11_makeWitness 18 = .ok (.return_, 1) := by decide +kernel
theorem dX11_appendLetter_0 : decode cX11_appendLetter 0 = .ok (.iload_n 1, 1) := by decide +kernel
theorem dX11_appendLetter_1 : decode cX11_appendLetter 1 = .ok (.invokestatic 102, 3) := by decide +kernel
theorem dX11_appendLetter_4 : decode cX11_appendLetter 4 = .ok (.aload_n 0, 1) := by decide +kernel
theorem dX11_appendLetter_5 : decode cX11_appendLetter 5 = .ok (.getfield 21, 3) := by decide +kernel
theorem dX11_appendLetter_8 : decode cX11_appendLetter 8 = .ok (.getfield 131, 3) := by decide +kernel
theorem dX11_appendLetter_11 : decode cX11_appendLetter 11 = .ok (.iconst 1, 1) := by decide +kernel
theorem dX11_appendLetter_12 : decode cX11_appendLetter 12 = .ok (.iadd, 1) := by decide +kernel
theorem dX11_appendLetter_13 : decode cX11_appendLetter 13 = .ok (.invokestatic 134, 3) := by decide +kernel
theorem dX11_appendLetter_16 : decode cX11_appendLetter 16 = .ok (.aload_n 0, 1) := by decide +kernel
theorem dX11_appendLetter_17 : decode cX11_appendLetter 17 = .ok (.getfield 21, 3) := by decide +kernel
theorem dX11_appendLetter_20 : decode cX11_appendLetter 20 = .ok (.iload_n 1, 1) := by decide +kernel
theorem dX11_appendLetter_21 : decode cX11_appendLetter 21 = .ok (.invokevirtual 137, 3) := by decide +kernel
theorem dX11_appendLetter_24 : decode cX11_appendLetter 24 = .ok (.aload_n 0, 1) := by decide +kernel
theorem dX11_appendLetter_25 : decode cX11_appendLetter 25 = .ok (.getfield 21, 3) := by decide +kernel
theorem dX11_appendLetter_28 : decode cX11_appendLetter 28 = .ok (.getfield 131, 3) := by decide +kernel
theorem dX11_appendLetter_31 : decode cX11_appendLetter 31 = .ok (.ireturn, 1) := by decide +kernel
theorem dX11_clearWord_0 : decode cX11_clearWord 0 = .ok (.aload_n 0, 1) := by decide +kernel
theorem dX11_clearWord_1 : decode cX11_clearWord 1 = .ok (.getfield 21, 3) := by decide +kernel
theorem dX11_clearWord_4 : decode cX11_clearWord 4 = .ok (.getfield 131, 3) := by decide +kernel
theorem dX11_clearWord_7 : decode cX11_clearWord 7 = .ok (.istore_n 1, 1) := by decide +kernel
theorem dX11_clearWord_8 : decode cX11_clearWord 8 = .ok (.aload_n 0, 1) := by decide +kernel
theorem dX11_clearWord_9 : decode cX11_clearWord 9 = .ok (.getfield 21, 3) := by decide +kernel
theorem dX11_clearWord_12 : decode cX11_clearWord 12 = .ok (.iconst 0, 1) := by decide +kernel
theorem dX11_clearWord_13 : decode cX11_clearWord 13 = .ok (.putfield 131, 3) := by decide +kernel
theorem dX11_clearWord_16 : decode cX11_clearWord 16 = .ok (.iload_n 1, 1) := by decide +kernel
theorem dX11_clearWord_17 : decode cX11_clearWord 17 = .ok (.ireturn, 1) := by decide +kernel
theorem dX11_wordLetter_0 : decode cX11_wordLetter 0 = .ok (.iload_n 1, 1) := by decide +kernel
theorem dX11_wordLetter_1 : decode cX11_wordLetter 1 = .ok (.aload_n 0, 1) := by decide +kernel
theorem dX11_wordLetter_2 : decode cX11_wordLetter 2 = .ok (.getfield 21, 3) := by decide +kernel
theorem dX11_wordLetter_5 : decode cX11_wordLetter 5 = .ok (.getfield 131, 3) := by decide +kernel
theorem dX11_wordLetter_8 : decode cX11_wordLetter 8 = .ok (.invokestatic 140, 3) := by decide +kernel
theorem dX11_wordLetter_11 : decode cX11_wordLetter 11 = .ok (.aload_n 0, 1) := by decide +kernel
theorem dX11_wordLetter_12 : decode cX11_wordLetter 12 = .ok (.getfield 21, 3) := by decide +kernel
theorem dX11_wordLetter_15 : decode cX11_wordLetter 15 = .ok (.getfield 143, 3) := by decide +kernel
theorem dX11_wordLetter_18 : decode cX11_wordLetter 18 = .ok (.iload_n 1, 1) := by decide +kernel
theorem dX11_wordLetter_19 : decode cX11_wordLetter 19 = .ok (.iaload, 1) := by decide +kernel
theorem dX11_wordLetter_20 : decode cX11_wordLetter 20 = .ok (.ireturn, 1) := by decide +kernel
theorem dX11_accepts_0 : decode cX11_accepts 0 = .ok (.iload_n 1, 1) := by decide +kernel
theorem dX11_accepts_1 : decode cX11_accepts 1 = .ok (.invokestatic 88, 3) := by decide +kernel
theorem dX11_accepts_4 : decode cX11_accepts 4 = .ok (.aload_n 0, 1) := by decide +kernel
theorem dX11_accepts_5 : decode cX11_accepts 5 = .ok (.getfield 11, 3) := by decide +kernel
theorem dX11_accepts_8 : decode cX11_accepts 8 = .ok (.iload_n 1, 1) := by decide +kernel
theorem dX11_accepts_9 : decode cX11_accepts 9 = .ok (.aaload, 1) := by decide +kernel
theorem dX11_accepts_10 : decode cX11_accepts 10 = .ok (.astore_n 2, 1) := by decide +kernel
theorem dX11_accepts_11 : decode cX11_accepts 11 = .ok (.aload_n 2, 1) := by decide +kernel
theorem dX11_accepts_12 : decode cX11_accepts 12 = .ok (.aload_n 2, 1) := by decide +kernel
theorem dX11_accepts_13 : decode cX11_accepts 13 = .ok (.aload_n 0, 1) := by decide +kernel
theorem dX11_accepts_14 : decode cX11_accepts 14 = .ok (.getfield 21, 3) := by decide +kernel
theorem dX11_accepts_17 : decode cX11_accepts 17 = .ok (.invokevirtual 147, 3) := by decide +kernel
theorem dX11_accepts_20 : decode cX11_accepts 20 = .ok (.invokevirtual 109, 3) := by decide +kernel
theorem dX11_accepts_23 : decode cX11_accepts 23 = .ok (.ireturn, 1) := by decide +kernel
theorem dX11_size_0 : decode cX11_size 0 = .ok (.iload_n 1, 1) := by decide +kernel
theorem dX11_size_1 : decode cX11_size 1 = .ok (.invokestatic 88, 3) := by decide +kernel
theorem dX11_size_4 : decode cX11_size 4 = .ok (.aload_n 0, 1) := by decide +kernel
theorem dX11_size_5 : decode cX11_size 5 = .ok (.getfield 77, 3) := by decide +kernel
theorem dX11_size_8 : decode cX11_size 8 = .ok (.aload_n 0, 1) := by decide +kernel
theorem dX11_size_9 : decode cX11_size 9 = .ok (.getfield 11, 3) := by decide +kernel
theorem dX11_size_12 : decode cX11_size 12 = .ok (.iload_n 1, 1) := by decide +kernel
theorem dX11_size_13 : decode cX11_size 13 = .ok (.aaload, 1) := by decide +kernel
theorem dX11_size_14 : decode cX11_size 14 = .ok (.invokevirtual 151, 3) := by decide +kernel
theorem dX11_size_17 : decode cX11_size 17 = .ok (.ireturn, 1) := by decide +kernel
theorem dX11_minimize_0 : decode cX11_minimize 0 = .ok (.iload_n 1, 1) := by decide +kernel
theorem dX11_minimize_1 : decode cX11_minimize 1 = .ok (.invokestatic 88, 3) := by decide +kernel
theorem dX11_minimize_4 : decode cX11_minimize 4 = .ok (.aload_n 0, 1) := by decide +kernel
theorem dX11_minimize_5 : decode cX11_minimize 5 = .ok (.getfield 77, 3) := by decide +kernel
theorem dX11_minimize_8 : decode cX11_minimize 8 = .ok (.aload_n 0, 1) := by decide +kernel
theorem dX11_minimize_9 : decode cX11_minimize 9 = .ok (.getfield 11, 3) := by decide +kernel
theorem dX11_minimize_12 : decode cX11_minimize 12 = .ok (.iload_n 1, 1) := by decide +kernel
theorem dX11_minimize_13 : decode cX11_minimize 13 = .ok (.aaload, 1) := by decide +kernel
theorem dX11_minimize_14 : decode cX11_minimize 14 = .ok (.invokevirtual 151, 3) := by decide +kernel
theorem dX11_minimize_17 : decode cX11_minimize 17 = .ok (.pop, 1) := by decide +kernel
theorem dX11_minimize_18 : decode cX11_minimize 18 = .ok (.aload_n 0, 1) := by decide +kernel
theorem dX11_minimize_19 : decode cX11_minimize 19 = .ok (.getfield 77, 3) := by decide +kernel
theorem dX11_minimize_22 : decode cX11_minimize 22 = .ok (.aload_n 0, 1) := by decide +kernel
theorem dX11_minimize_23 : decode cX11_minimize 23 = .ok (.getfield 11, 3) := by decide +kernel
theorem dX11_minimize_26 : decode cX11_minimize 26 = .ok (.iload_n 1, 1) := by decide +kernel
theorem dX11_minimize_27 : decode cX11_minimize 27 = .ok (.aaload, 1) := by decide +kernel
theorem dX11_minimize_28 : decode cX11_minimize 28 = .ok (.invokevirtual 155, 3) := by decide +kernel
theorem dX11_minimize_31 : decode cX11_minimize 31 = .ok (.aload_n 0, 1) := by decide +kernel
theorem dX11_minimize_32 : decode cX11_minimize 32 = .ok (.getfield 11, 3) := by decide +kernel
theorem dX11_minimize_35 : decode cX11_minimize 35 = .ok (.iload_n 1, 1) := by decide +kernel
theorem dX11_minimize_36 : decode cX11_minimize 36 = .ok (.aaload, 1) := by decide +kernel
theorem dX11_minimize_37 : decode cX11_minimize 37 = .ok (.getfield 117, 3) := by decide +kernel
theorem dX11_minimize_40 : decode cX11_minimize 40 = .ok (.ireturn, 1) := by decide +kernel
theorem dX11_quotientOfWord_0 : decode cX11_quotientOfWord 0 = .ok (.iload_n 1, 1) := by decide +kernel
theorem dX11_quotientOfWord_1 : decode cX11_quotientOfWord 1 = .ok (.invokestatic 88, 3) := by decide +kernel
theorem dX11_quotientOfWord_4 : decode cX11_quotientOfWord 4 = .ok (.aload_n 0, 1) := by decide +kernel
theorem dX11_quotientOfWord_5 : decode cX11_quotientOfWord 5 = .ok (.getfield 77, 3) := by decide +kernel
theorem dX11_quotientOfWord_8 : decode cX11_quotientOfWord 8 = .ok (.aload_n 0, 1) := by decide +kernel
theorem dX11_quotientOfWord_9 : decode cX11_quotientOfWord 9 = .ok (.getfield 11, 3) := by decide +kernel
theorem dX11_quotientOfWord_12 : decode cX11_quotientOfWord 12 = .ok (.iload_n 1, 1) := by decide +kernel
theorem dX11_quotientOfWord_13 : decode cX11_quotientOfWord 13 = .ok (.aaload, 1) := by decide +kernel
theorem dX11_quotientOfWord_14 : decode cX11_quotientOfWord 14 = .ok (.invokevirtual 151, 3) := by decide +kernel
theorem dX11_quotientOfWord_17 : decode cX11_quotientOfWord 17 = .ok (.pop, 1) := by decide +kernel
theorem dX11_quotientOfWord_18 : decode cX11_quotientOfWord 18 = .ok (.aload_n 0, 1) := by decide +kernel
theorem dX11_quotientOfWord_19 : decode cX11_quotientOfWord 19 = .ok (.getfield 77, 3) := by decide +kernel
theorem dX11_quotientOfWord_22 : decode cX11_quotientOfWord 22 = .ok (.aload_n 0, 1) := by decide +kernel
theorem dX11_quotientOfWord_23 : decode cX11_quotientOfWord 23 = .ok (.getfield 60, 3) := by decide +kernel
theorem dX11_quotientOfWord_26 : decode cX11_quotientOfWord 26 = .ok (.invokevirtual 155, 3) := by decide +kernel
theorem dX11_quotientOfWord_29 : decode cX11_quotientOfWord 29 = .ok (.aload_n 0, 1) := by decide +kernel
theorem dX11_quotientOfWord_30 : decode cX11_quotientOfWord 30 = .ok (.getfield 60, 3) := by decide +kernel
theorem dX11_quotientOfWord_33 : decode cX11_quotientOfWord 33 = .ok (.aload_n 0, 1) := by decide +kernel
theorem dX11_quotientOfWord_34 : decode cX11_quotientOfWord 34 = .ok (.getfield 21, 3) := by decide +kernel
theorem dX11_quotientOfWord_37 : decode cX11_quotientOfWord 37 = .ok (.invokevirtual 147, 3) := by decide +kernel
theorem dX11_quotientOfWord_40 : decode cX11_quotientOfWord 40 = .ok (.ireturn, 1) := by decide +kernel
theorem dX11_atomCount_0 : decode cX11_atomCount 0 = .ok (.aload_n 0, 1) := by decide +kernel
theorem dX11_atomCount_1 : decode cX11_atomCount 1 = .ok (.iload_n 1, 1) := by decide +kernel
theorem dX11_atomCount_2 : decode cX11_atomCount 2 = .ok (.invokevirtual 159, 3) := by decide +kernel
theorem dX11_atomCount_5 : decode cX11_atomCount 5 = .ok (.aload_n 0, 1) := by decide +kernel
theorem dX11_atomCount_6 : decode cX11_atomCount 6 = .ok (.getfield 84, 3) := by decide +kernel
theorem dX11_atomCount_9 : decode cX11_atomCount 9 = .ok (.getfield 162, 3) := by decide +kernel
theorem dX11_atomCount_12 : decode cX11_atomCount 12 = .ok (.ireturn, 1) := by decide +kernel
theorem dX11_atomSet_0 : decode cX11_atomSet 0 = .ok (.aload_n 0, 1) := by decide +kernel
theorem dX11_atomSet_1 : decode cX11_atomSet 1 = .ok (.iload_n 1, 1) := by decide +kernel
theorem dX11_atomSet_2 : decode cX11_atomSet 2 = .ok (.invokevirtual 159, 3) := by decide +kernel
theorem dX11_atomSet_5 : decode cX11_atomSet 5 = .ok (.iload_n 2, 1) := by decide +kernel
theorem dX11_atomSet_6 : decode cX11_atomSet 6 = .ok (.aload_n 0, 1) := by decide +kernel
theorem dX11_atomSet_7 : decode cX11_atomSet 7 = .ok (.getfield 84, 3) := by decide +kernel
theorem dX11_atomSet_10 : decode cX11_atomSet 10 = .ok (.getfield 162, 3) := by decide +kernel
theorem dX11_atomSet_13 : decode cX11_atomSet 13 = .ok (.invokestatic 140, 3) := by decide +kernel
theorem dX11_atomSet_16 : decode cX11_atomSet 16 = .ok (.aload_n 0, 1) := by decide +kernel
theorem dX11_atomSet_17 : decode cX11_atomSet 17 = .ok (.getfield 84, 3) := by decide +kernel
theorem dX11_atomSet_20 : decode cX11_atomSet 20 = .ok (.iload_n 2, 1) := by decide +kernel
theorem dX11_atomSet_21 : decode cX11_atomSet 21 = .ok (.invokevirtual 165, 3) := by decide +kernel
theorem dX11_atomSet_24 : decode cX11_atomSet 24 = .ok (.ireturn, 1) := by decide +kernel
theorem dX11_atomOfWord_0 : decode cX11_atomOfWord 0 = .ok (.aload_n 0, 1) := by decide +kernel
theorem dX11_atomOfWord_1 : decode cX11_atomOfWord 1 = .ok (.iload_n 1, 1) := by decide +kernel
theorem dX11_atomOfWord_2 : decode cX11_atomOfWord 2 = .ok (.invokevirtual 159, 3) := by decide +kernel
theorem dX11_atomOfWord_5 : decode cX11_atomOfWord 5 = .ok (.aload_n 0, 1) := by decide +kernel
theorem dX11_atomOfWord_6 : decode cX11_atomOfWord 6 = .ok (.getfield 84, 3) := by decide +kernel
theorem dX11_atomOfWord_9 : decode cX11_atomOfWord 9 = .ok (.aload_n 0, 1) := by decide +kernel
theorem dX11_atomOfWord_10 : decode cX11_atomOfWord 10 = .ok (.getfield 84, 3) := by decide +kernel
theorem dX11_atomOfWord_13 : decode cX11_atomOfWord 13 = .ok (.aload_n 0, 1) := by decide +kernel
theorem dX11_atomOfWord_14 : decode cX11_atomOfWord 14 = .ok (.getfield 21, 3) := by decide +kernel
theorem dX11_atomOfWord_17 : decode cX11_atomOfWord 17 = .ok (.invokevirtual 169, 3) := by decide +kernel
theorem dX11_atomOfWord_20 : decode cX11_atomOfWord 20 = .ok (.invokevirtual 172, 3) := by decide +kernel
theorem dX11_atomOfWord_23 : decode cX11_atomOfWord 23 = .ok (.ireturn, 1) := by decide +kernel
theorem dX11_atomTargets_0 : decode cX11_atomTargets 0 = .ok (.iload_n 3, 1) := by decide +kernel
theorem dX11_atomTargets_1 : decode cX11_atomTargets 1 = .ok (.invokestatic 102, 3) := by decide +kernel
theorem dX11_atomTargets_4 : decode cX11_atomTargets 4 = .ok (.aload_n 0, 1) := by decide +kernel
theorem dX11_atomTargets_5 : decode cX11_atomTargets 5 = .ok (.iload_n 1, 1) := by decide +kernel
theorem dX11_atomTargets_6 : decode cX11_atomTargets 6 = .ok (.invokevirtual 159, 3) := by decide +kernel
theorem dX11_atomTargets_9 : decode cX11_atomTargets 9 = .ok (.iload_n 2, 1) := by decide +kernel
theorem dX11_atomTargets_10 : decode cX11_atomTargets 10 = .ok (.aload_n 0, 1) := by decide +kernel
theorem dX11_atomTargets_11 : decode cX11_atomTargets 11 = .ok (.getfield 84, 3) := by decide +kernel
theorem dX11_atomTargets_14 : decode cX11_atomTargets 14 = .ok (.getfield 162, 3) := by decide +kernel
theorem dX11_atomTargets_17 : decode cX11_atomTargets 17 = .ok (.invokestatic 140, 3) := by decide +kernel
theorem dX11_atomTargets_20 : decode cX11_atomTargets 20 = .ok (.aload_n 0, 1) := by decide +kernel
theorem dX11_atomTargets_21 : decode cX11_atomTargets 21 = .ok (.getfield 84, 3) := by decide +kernel
theorem dX11_atomTargets_24 : decode cX11_atomTargets 24 = .ok (.aload_n 0, 1) := by decide +kernel
theorem dX11_atomTargets_25 : decode cX11_atomTargets 25 = .ok (.getfield 84, 3) := by decide +kernel
theorem dX11_atomTargets_28 : decode cX11_atomTargets 28 = .ok (.iload_n 2, 1) := by decide +kernel
theorem dX11_atomTargets_29 : decode cX11_atomTargets 29 = .ok (.invokevirtual 165, 3) := by decide +kernel
theorem dX11_atomTargets_32 : decode cX11_atomTargets 32 = .ok (.iload_n 3, 1) := by decide +kernel
theorem dX11_atomTargets_33 : decode cX11_atomTargets 33 = .ok (.invokevirtual 175, 3) := by decide +kernel
theorem dX11_atomTargets_36 : decode cX11_atomTargets 36 = .ok (.lreturn, 1) := by decide +kernel
theorem dX11_initialAtoms_0 : decode cX11_initialAtoms 0 = .ok (.aload_n 0, 1) := by decide +kernel
theorem dX11_initialAtoms_1 : decode cX11_initialAtoms 1 = .ok (.iload_n 1, 1) := by decide +kernel
theorem dX11_initialAtoms_2 : decode cX11_initialAtoms 2 = .ok (.invokevirtual 159, 3) := by decide +kernel
theorem dX11_initialAtoms_5 : decode cX11_initialAtoms 5 = .ok (.aload_n 0, 1) := by decide +kernel
theorem dX11_initialAtoms_6 : decode cX11_initialAtoms 6 = .ok (.getfield 84, 3) := by decide +kernel
theorem dX11_initialAtoms_9 : decode cX11_initialAtoms 9 = .ok (.invokevirtual 179, 3) := by decide +kernel
theorem dX11_initialAtoms_12 : decode cX11_initialAtoms 12 = .ok (.lreturn, 1) := by decide +kernel
theorem dX11_finalAtom_0 : decode cX11_finalAtom 0 = .ok (.aload_n 0, 1) := by decide +kernel
theorem dX11_finalAtom_1 : decode cX11_finalAtom 1 = .ok (.iload_n 1, 1) := by decide +kernel
theorem dX11_finalAtom_2 : decode cX11_finalAtom 2 = .ok (.invokevirtual 159, 3) := by decide +kernel
theorem dX11_finalAtom_5 : decode cX11_finalAtom 5 = .ok (.aload_n 0, 1) := by decide +kernel
theorem dX11_finalAtom_6 : decode cX11_finalAtom 6 = .ok (.getfield 84, 3) := by decide +kernel
theorem dX11_finalAtom_9 : decode cX11_finalAtom 9 = .ok (.aload_n 0, 1) := by decide +kernel
theorem dX11_finalAtom_10 : decode cX11_finalAtom 10 = .ok (.getfield 84, 3) := by decide +kernel
theorem dX11_finalAtom_13 : decode cX11_finalAtom 13 = .ok (.invokevirtual 183, 3) := by decide +kernel
theorem dX11_finalAtom_16 : decode cX11_finalAtom 16 = .ok (.invokevirtual 172, 3) := by decide +kernel
theorem dX11_finalAtom_19 : decode cX11_finalAtom 19 = .ok (.ireturn, 1) := by decide +kernel
theorem dX11_takeAtomWord_0 : decode cX11_takeAtomWord 0 = .ok (.aload_n 0, 1) := by decide +kernel
theorem dX11_takeAtomWord_1 : decode cX11_takeAtomWord 1 = .ok (.iload_n 1, 1) := by decide +kernel
theorem dX11_takeAtomWord_2 : decode cX11_takeAtomWord 2 = .ok (.invokevirtual 159, 3) := by decide +kernel
theorem dX11_takeAtomWord_5 : decode cX11_takeAtomWord 5 = .ok (.iload_n 2, 1) := by decide +kernel
theorem dX11_takeAtomWord_6 : decode cX11_takeAtomWord 6 = .ok (.aload_n 0, 1) := by decide +kernel
theorem dX11_takeAtomWord_7 : decode cX11_takeAtomWord 7 = .ok (.getfield 84, 3) := by decide +kernel
theorem dX11_takeAtomWord_10 : decode cX11_takeAtomWord 10 = .ok (.getfield 162, 3) := by decide +kernel
theorem dX11_takeAtomWord_13 : decode cX11_takeAtomWord 13 = .ok (.invokestatic 140, 3) := by decide +kernel
theorem dX11_takeAtomWord_16 : decode cX11_takeAtomWord 16 = .ok (.aload_n 0, 1) := by decide +kernel
theorem dX11_takeAtomWord_17 : decode cX11_takeAtomWord 17 = .ok (.getfield 84, 3) := by decide +kernel
theorem dX11_takeAtomWord_20 : decode cX11_takeAtomWord 20 = .ok (.iload_n 2, 1) := by decide +kernel
theorem dX11_takeAtomWord_21 : decode cX11_takeAtomWord 21 = .ok (.invokevirtual 165, 3) := by decide +kernel
theorem dX11_takeAtomWord_24 : decode cX11_takeAtomWord 24 = .ok (.istore_n 3, 1) := by decide +kernel
theorem dX11_takeAtomWord_25 : decode cX11_takeAtomWord 25 = .ok (.aload_n 0, 1) := by decide +kernel
theorem dX11_takeAtomWord_26 : decode cX11_takeAtomWord 26 = .ok (.getfield 84, 3) := by decide +kernel
theorem dX11_takeAtomWord_29 : decode cX11_takeAtomWord 29 = .ok (.iload_n 3, 1) := by decide +kernel
theorem dX11_takeAtomWord_30 : decode cX11_takeAtomWord 30 = .ok (.invokevirtual 187, 3) := by decide +kernel
theorem dX11_takeAtomWord_33 : decode cX11_takeAtomWord 33 = .ok (.invokestatic 134, 3) := by decide +kernel
theorem dX11_takeAtomWord_36 : decode cX11_takeAtomWord 36 = .ok (.aload_n 0, 1) := by decide +kernel
theorem dX11_takeAtomWord_37 : decode cX11_takeAtomWord 37 = .ok (.getfield 84, 3) := by decide +kernel
theorem dX11_takeAtomWord_40 : decode cX11_takeAtomWord 40 = .ok (.iload_n 3, 1) := by decide +kernel
theorem dX11_takeAtomWord_41 : decode cX11_takeAtomWord 41 = .ok (.aload_n 0, 1) := by decide +kernel
theorem dX11_takeAtomWord_42 : decode cX11_takeAtomWord 42 = .ok (.getfield 21, 3) := by decide +kernel
theorem dX11_takeAtomWord_45 : decode cX11_takeAtomWord 45 = .ok (.invokevirtual 190, 3) := by decide +kernel
theorem dX11_takeAtomWord_48 : decode cX11_takeAtomWord 48 = .ok (.aload_n 0, 1) := by decide +kernel
theorem dX11_takeAtomWord_49 : decode cX11_takeAtomWord 49 = .ok (.getfield 21, 3) := by decide +kernel
theorem dX11_takeAtomWord_52 : decode cX11_takeAtomWord 52 = .ok (.getfield 131, 3) := by decide +kernel
theorem dX11_takeAtomWord_55 : decode cX11_takeAtomWord 55 = .ok (.ireturn, 1) := by decide +kernel
theorem dX11_atomSize_0 : decode cX11_atomSize 0 = .ok (.aload_n 0, 1) := by decide +kernel
theorem dX11_atomSize_1 : decode cX11_atomSize 1 = .ok (.iload_n 1, 1) := by decide +kernel
theorem dX11_atomSize_2 : decode cX11_atomSize 2 = .ok (.invokevirtual 159, 3) := by decide +kernel
theorem dX11_atomSize_5 : decode cX11_atomSize 5 = .ok (.iload_n 2, 1) := by decide +kernel
theorem dX11_atomSize_6 : decode cX11_atomSize 6 = .ok (.aload_n 0, 1) := by decide +kernel
theorem dX11_atomSize_7 : decode cX11_atomSize 7 = .ok (.getfield 84, 3) := by decide +kernel
theorem dX11_atomSize_10 : decode cX11_atomSize 10 = .ok (.getfield 162, 3) := by decide +kernel
theorem dX11_atomSize_13 : decode cX11_atomSize 13 = .ok (.invokestatic 140, 3) := by decide +kernel
theorem dX11_atomSize_16 : decode cX11_atomSize 16 = .ok (.aload_n 0, 1) := by decide +kernel
theorem dX11_atomSize_17 : decode cX11_atomSize 17 = .ok (.getfield 84, 3) := by decide +kernel
theorem dX11_atomSize_20 : decode cX11_atomSize 20 = .ok (.aload_n 0, 1) := by decide +kernel
theorem dX11_atomSize_21 : decode cX11_atomSize 21 = .ok (.getfield 84, 3) := by decide +kernel
theorem dX11_atomSize_24 : decode cX11_atomSize 24 = .ok (.iload_n 2, 1) := by decide +kernel
theorem dX11_atomSize_25 : decode cX11_atomSize 25 = .ok (.invokevirtual 165, 3) := by decide +kernel
theorem dX11_atomSize_28 : decode cX11_atomSize 28 = .ok (.invokevirtual 194, 3) := by decide +kernel
theorem dX11_atomSize_31 : decode cX11_atomSize 31 = .ok (.ireturn, 1) := by decide +kernel
theorem dX11_resultSize_0 : decode cX11_resultSize 0 = .ok (.iload_n 1, 1) := by decide +kernel
theorem dX11_resultSize_1 : decode cX11_resultSize 1 = .ok (.invokestatic 197, 3) := by decide +kernel
theorem dX11_resultSize_4 : decode cX11_resultSize 4 = .ok (.iload_n 2, 1) := by decide +kernel
theorem dX11_resultSize_5 : decode cX11_resultSize 5 = .ok (.invokestatic 88, 3) := by decide +kernel
theorem dX11_resultSize_8 : decode cX11_resultSize 8 = .ok (.iload_n 3, 1) := by decide +kernel
theorem dX11_resultSize_9 : decode cX11_resultSize 9 = .ok (.invokestatic 88, 3) := by decide +kernel
theorem dX11_resultSize_12 : decode cX11_resultSize 12 = .ok (.aload_n 0, 1) := by decide +kernel
theorem dX11_resultSize_13 : decode cX11_resultSize 13 = .ok (.iload_n 1, 1) := by decide +kernel
theorem dX11_resultSize_14 : decode cX11_resultSize 14 = .ok (.iload_n 2, 1) := by decide +kernel
theorem dX11_resultSize_15 : decode cX11_resultSize 15 = .ok (.iload_n 3, 1) := by decide +kernel
theorem dX11_resultSize_16 : decode cX11_resultSize 16 = .ok (.invokevirtual 200, 3) := by decide +kernel
theorem dX11_resultSize_19 : decode cX11_resultSize 19 = .ok (.ireturn, 1) := by decide +kernel
theorem dX11_starSize_0 : decode cX11_starSize 0 = .ok (.iload_n 1, 1) := by decide +kernel
theorem dX11_starSize_1 : decode cX11_starSize 1 = .ok (.invokestatic 88, 3) := by decide +kernel
theorem dX11_starSize_4 : decode cX11_starSize 4 = .ok (.aload_n 0, 1) := by decide +kernel
theorem dX11_starSize_5 : decode cX11_starSize 5 = .ok (.getfield 55, 3) := by decide +kernel
theorem dX11_starSize_8 : decode cX11_starSize 8 = .ok (.aload_n 0, 1) := by decide +kernel
theorem dX11_starSize_9 : decode cX11_starSize 9 = .ok (.getfield 11, 3) := by decide +kernel
theorem dX11_starSize_12 : decode cX11_starSize 12 = .ok (.iload_n 1, 1) := by decide +kernel
theorem dX11_starSize_13 : decode cX11_starSize 13 = .ok (.aaload, 1) := by decide +kernel
theorem dX11_starSize_14 : decode cX11_starSize 14 = .ok (.invokevirtual 204, 3) := by decide +kernel
theorem dX11_starSize_17 : decode cX11_starSize 17 = .ok (.aload_n 0, 1) := by decide +kernel
theorem dX11_starSize_18 : decode cX11_starSize 18 = .ok (.getfield 77, 3) := by decide +kernel
theorem dX11_starSize_21 : decode cX11_starSize 21 = .ok (.aload_n 0, 1) := by decide +kernel
theorem dX11_starSize_22 : decode cX11_starSize 22 = .ok (.getfield 55, 3) := by decide +kernel
theorem dX11_starSize_25 : decode cX11_starSize 25 = .ok (.invokevirtual 151, 3) := by decide +kernel
theorem dX11_starSize_28 : decode cX11_starSize 28 = .ok (.ireturn, 1) := by decide +kernel
theorem dX11_combine_0 : decode cX11_combine 0 = .ok (.iload_n 1, 1) := by decide +kernel
theorem dX11_combine_1 : decode cX11_combine 1 = .ok (.invokestatic 197, 3) := by decide +kernel
theorem dX11_combine_4 : decode cX11_combine 4 = .ok (.iload_n 2, 1) := by decide +kernel
theorem dX11_combine_5 : decode cX11_combine 5 = .ok (.invokestatic 88, 3) := by decide +kernel
theorem dX11_combine_8 : decode cX11_combine 8 = .ok (.iload_n 3, 1) := by decide +kernel
theorem dX11_combine_9 : decode cX11_combine 9 = .ok (.invokestatic 88, 3) := by decide +kernel
theorem dX11_combine_12 : decode cX11_combine 12 = .ok (.iload 4, 2) := by decide +kernel
theorem dX11_combine_14 : decode cX11_combine 14 = .ok (.invokestatic 88, 3) := by decide +kernel
theorem dX11_combine_17 : decode cX11_combine 17 = .ok (.aload_n 0, 1) := by decide +kernel
theorem dX11_combine_18 : decode cX11_combine 18 = .ok (.iload_n 1, 1) := by decide +kernel
theorem dX11_combine_19 : decode cX11_combine 19 = .ok (.iload_n 2, 1) := by decide +kernel
theorem dX11_combine_20 : decode cX11_combine 20 = .ok (.iload_n 3, 1) := by decide +kernel
theorem dX11_combine_21 : decode cX11_combine 21 = .ok (.invokevirtual 200, 3) := by decide +kernel
theorem dX11_combine_24 : decode cX11_combine 24 = .ok (.invokestatic 207, 3) := by decide +kernel
theorem dX11_combine_27 : decode cX11_combine 27 = .ok (.aload_n 0, 1) := by decide +kernel
theorem dX11_combine_28 : decode cX11_combine 28 = .ok (.getfield 77, 3) := by decide +kernel
theorem dX11_combine_31 : decode cX11_combine 31 = .ok (.aload_n 0, 1) := by decide +kernel
theorem dX11_combine_32 : decode cX11_combine 32 = .ok (.getfield 11, 3) := by decide +kernel
theorem dX11_combine_35 : decode cX11_combine 35 = .ok (.iload 4, 2) := by decide +kernel
theorem dX11_combine_37 : decode cX11_combine 37 = .ok (.aaload, 1) := by decide +kernel
theorem dX11_combine_38 : decode cX11_combine 38 = .ok (.invokevirtual 155, 3) := by decide +kernel
theorem dX11_combine_41 : decode cX11_combine 41 = .ok (.aload_n 0, 1) := by decide +kernel
theorem dX11_combine_42 : decode cX11_combine 42 = .ok (.getfield 11, 3) := by decide +kernel
theorem dX11_combine_45 : decode cX11_combine 45 = .ok (.iload 4, 2) := by decide +kernel
theorem dX11_combine_47 : decode cX11_combine 47 = .ok (.aaload, 1) := by decide +kernel
theorem dX11_combine_48 : decode cX11_combine 48 = .ok (.getfield 117, 3) := by decide +kernel
theorem dX11_combine_51 : decode cX11_combine 51 = .ok (.ireturn, 1) := by decide +kernel
theorem dX11_star_0 : decode cX11_star 0 = .ok (.iload_n 1, 1) := by decide +kernel
theorem dX11_star_1 : decode cX11_star 1 = .ok (.invokestatic 88, 3) := by decide +kernel
theorem dX11_star_4 : decode cX11_star 4 = .ok (.iload_n 2, 1) := by decide +kernel
theorem dX11_star_5 : decode cX11_star 5 = .ok (.invokestatic 88, 3) := by decide +kernel
theorem dX11_star_8 : decode cX11_star 8 = .ok (.aload_n 0, 1) := by decide +kernel
theorem dX11_star_9 : decode cX11_star 9 = .ok (.getfield 55, 3) := by decide +kernel
theorem dX11_star_12 : decode cX11_star 12 = .ok (.aload_n 0, 1) := by decide +kernel
theorem dX11_star_13 : decode cX11_star 13 = .ok (.getfield 11, 3) := by decide +kernel
theorem dX11_star_16 : decode cX11_star 16 = .ok (.iload_n 1, 1) := by decide +kernel
theorem dX11_star_17 : decode cX11_star 17 = .ok (.aaload, 1) := by decide +kernel
theorem dX11_star_18 : decode cX11_star 18 = .ok (.invokevirtual 204, 3) := by decide +kernel
theorem dX11_star_21 : decode cX11_star 21 = .ok (.aload_n 0, 1) := by decide +kernel
theorem dX11_star_22 : decode cX11_star 22 = .ok (.getfield 77, 3) := by decide +kernel
theorem dX11_star_25 : decode cX11_star 25 = .ok (.aload_n 0, 1) := by decide +kernel
theorem dX11_star_26 : decode cX11_star 26 = .ok (.getfield 55, 3) := by decide +kernel
theorem dX11_star_29 : decode cX11_star 29 = .ok (.invokevirtual 151, 3) := by decide +kernel
theorem dX11_star_32 : decode cX11_star 32 = .ok (.invokestatic 207, 3) := by decide +kernel
theorem dX11_star_35 : decode cX11_star 35 = .ok (.aload_n 0, 1) := by decide +kernel
theorem dX11_star_36 : decode cX11_star 36 = .ok (.getfield 77, 3) := by decide +kernel
theorem dX11_star_39 : decode cX11_star 39 = .ok (.aload_n 0, 1) := by decide +kernel
theorem dX11_star_40 : decode cX11_star 40 = .ok (.getfield 11, 3) := by decide +kernel
theorem dX11_star_43 : decode cX11_star 43 = .ok (.iload_n 2, 1) := by decide +kernel
theorem dX11_star_44 : decode cX11_star 44 = .ok (.aaload, 1) := by decide +kernel
theorem dX11_star_45 : decode cX11_star 45 = .ok (.invokevirtual 155, 3) := by decide +kernel
theorem dX11_star_48 : decode cX11_star 48 = .ok (.aload_n 0, 1) := by decide +kernel
theorem dX11_star_49 : decode cX11_star 49 = .ok (.getfield 11, 3) := by decide +kernel
theorem dX11_star_52 : decode cX11_star 52 = .ok (.iload_n 2, 1) := by decide +kernel
theorem dX11_star_53 : decode cX11_star 53 = .ok (.aaload, 1) := by decide +kernel
theorem dX11_star_54 : decode cX11_star 54 = .ok (.getfield 117, 3) := by decide +kernel
theorem dX11_star_57 : decode cX11_star 57 = .ok (.ireturn, 1) := by decide +kernel
theorem dX11_reverse_0 : decode cX11_reverse 0 = .ok (.iload_n 2, 1) := by decide +kernel
theorem dX11_reverse_1 : decode cX11_reverse 1 = .ok (.invokestatic 88, 3) := by decide +kernel
theorem dX11_reverse_4 : decode cX11_reverse 4 = .ok (.aload_n 0, 1) := by decide +kernel
theorem dX11_reverse_5 : decode cX11_reverse 5 = .ok (.iload_n 1, 1) := by decide +kernel
theorem dX11_reverse_6 : decode cX11_reverse 6 = .ok (.invokevirtual 159, 3) := by decide +kernel
theorem dX11_reverse_9 : decode cX11_reverse 9 = .ok (.aload_n 0, 1) := by decide +kernel
theorem dX11_reverse_10 : decode cX11_reverse 10 = .ok (.getfield 84, 3) := by decide +kernel
theorem dX11_reverse_13 : decode cX11_reverse 13 = .ok (.getfield 162, 3) := by decide +kernel
theorem dX11_reverse_16 : decode cX11_reverse 16 = .ok (.invokestatic 207, 3) := by decide +kernel
theorem dX11_reverse_19 : decode cX11_reverse 19 = .ok (.aload_n 0, 1) := by decide +kernel
theorem dX11_reverse_20 : decode cX11_reverse 20 = .ok (.getfield 77, 3) := by decide +kernel
theorem dX11_reverse_23 : decode cX11_reverse 23 = .ok (.aload_n 0, 1) := by decide +kernel
theorem dX11_reverse_24 : decode cX11_reverse 24 = .ok (.getfield 84, 3) := by decide +kernel
theorem dX11_reverse_27 : decode cX11_reverse 27 = .ok (.invokevirtual 151, 3) := by decide +kernel
theorem dX11_reverse_30 : decode cX11_reverse 30 = .ok (.pop, 1) := by decide +kernel
theorem dX11_reverse_31 : decode cX11_reverse 31 = .ok (.aload_n 0, 1) := by decide +kernel
theorem dX11_reverse_32 : decode cX11_reverse 32 = .ok (.getfield 77, 3) := by decide +kernel
theorem dX11_reverse_35 : decode cX11_reverse 35 = .ok (.aload_n 0, 1) := by decide +kernel
theorem dX11_reverse_36 : decode cX11_reverse 36 = .ok (.getfield 11, 3) := by decide +kernel
theorem dX11_reverse_39 : decode cX11_reverse 39 = .ok (.iload_n 2, 1) := by decide +kernel
theorem dX11_reverse_40 : decode cX11_reverse 40 = .ok (.aaload, 1) := by decide +kernel
theorem dX11_reverse_41 : decode cX11_reverse 41 = .ok (.invokevirtual 155, 3) := by decide +kernel
theorem dX11_reverse_44 : decode cX11_reverse 44 = .ok (.aload_n 0, 1) := by decide +kernel
theorem dX11_reverse_45 : decode cX11_reverse 45 = .ok (.getfield 11, 3) := by decide +kernel
theorem dX11_reverse_48 : decode cX11_reverse 48 = .ok (.iload_n 2, 1) := by decide +kernel
theorem dX11_reverse_49 : decode cX11_reverse 49 = .ok (.aaload, 1) := by decide +kernel
theorem dX11_reverse_50 : decode cX11_reverse 50 = .ok (.getfield 117, 3) := by decide +kernel
theorem dX11_reverse_53 : decode cX11_reverse 53 = .ok (.ireturn, 1) := by decide +kernel
theorem dX11_uniteAtoms_0 : decode cX11_uniteAtoms 0 = .ok (.iload 4, 2) := by decide +kernel
theorem dX11_uniteAtoms_2 : decode cX11_uniteAtoms 2 = .ok (.invokestatic 88, 3) := by decide +kernel
theorem dX11_uniteAtoms_5 : decode cX11_uniteAtoms 5 = .ok (.aload_n 0, 1) := by decide +kernel
theorem dX11_uniteAtoms_6 : decode cX11_uniteAtoms 6 = .ok (.iload_n 1, 1) := by decide +kernel
theorem dX11_uniteAtoms_7 : decode cX11_uniteAtoms 7 = .ok (.invokevirtual 159, 3) := by decide +kernel
theorem dX11_uniteAtoms_10 : decode cX11_uniteAtoms 10 = .ok (.aload_n 0, 1) := by decide +kernel
theorem dX11_uniteAtoms_11 : decode cX11_uniteAtoms 11 = .ok (.lload_n 2, 1) := by decide +kernel
theorem dX11_uniteAtoms_12 : decode cX11_uniteAtoms 12 = .ok (.invokevirtual 210, 3) := by decide +kernel
theorem dX11_uniteAtoms_15 : decode cX11_uniteAtoms 15 = .ok (.aload_n 0, 1) := by decide +kernel
theorem dX11_uniteAtoms_16 : decode cX11_uniteAtoms 16 = .ok (.getfield 84, 3) := by decide +kernel
theorem dX11_uniteAtoms_19 : decode cX11_uniteAtoms 19 = .ok (.lload_n 2, 1) := by decide +kernel
theorem dX11_uniteAtoms_20 : decode cX11_uniteAtoms 20 = .ok (.aload_n 0, 1) := by decide +kernel
theorem dX11_uniteAtoms_21 : decode cX11_uniteAtoms 21 = .ok (.getfield 60, 3) := by decide +kernel
theorem dX11_uniteAtoms_24 : decode cX11_uniteAtoms 24 = .ok (.invokevirtual 214, 3) := by decide +kernel
theorem dX11_uniteAtoms_27 : decode cX11_uniteAtoms 27 = .ok (.invokestatic 207, 3) := by decide +kernel
theorem dX11_uniteAtoms_30 : decode cX11_uniteAtoms 30 = .ok (.aload_n 0, 1) := by decide +kernel
theorem dX11_uniteAtoms_31 : decode cX11_uniteAtoms 31 = .ok (.getfield 11, 3) := by decide +kernel
theorem dX11_uniteAtoms_34 : decode cX11_uniteAtoms 34 = .ok (.iload 4, 2) := by decide +kernel
theorem dX11_uniteAtoms_36 : decode cX11_uniteAtoms 36 = .ok (.aaload, 1) := by decide +kernel
theorem dX11_uniteAtoms_37 : decode cX11_uniteAtoms 37 = .ok (.aload_n 0, 1) := by decide +kernel
theorem dX11_uniteAtoms_38 : decode cX11_uniteAtoms 38 = .ok (.getfield 60, 3) := by decide +kernel
theorem dX11_uniteAtoms_41 : decode cX11_uniteAtoms 41 = .ok (.invokevirtual 218, 3) := by decide +kernel
theorem dX11_uniteAtoms_44 : decode cX11_uniteAtoms 44 = .ok (.aload_n 0, 1) := by decide +kernel
theorem dX11_uniteAtoms_45 : decode cX11_uniteAtoms 45 = .ok (.getfield 60, 3) := by decide +kernel
theorem dX11_uniteAtoms_48 : decode cX11_uniteAtoms 48 = .ok (.getfield 117, 3) := by decide +kernel
theorem dX11_uniteAtoms_51 : decode cX11_uniteAtoms 51 = .ok (.ireturn, 1) := by decide +kernel
theorem dX11_isUnionOfAtoms_0 : decode cX11_isUnionOfAtoms 0 = .ok (.iload_n 2, 1) := by decide +kernel
theorem dX11_isUnionOfAtoms_1 : decode cX11_isUnionOfAtoms 1 = .ok (.invokestatic 88, 3) := by decide +kernel
theorem dX11_isUnionOfAtoms_4 : decode cX11_isUnionOfAtoms 4 = .ok (.aload_n 0, 1) := by decide +kernel
theorem dX11_isUnionOfAtoms_5 : decode cX11_isUnionOfAtoms 5 = .ok (.iload_n 1, 1) := by decide +kernel
theorem dX11_isUnionOfAtoms_6 : decode cX11_isUnionOfAtoms 6 = .ok (.invokevirtual 159, 3) := by decide +kernel
theorem dX11_isUnionOfAtoms_9 : decode cX11_isUnionOfAtoms 9 = .ok (.aload_n 0, 1) := by decide +kernel
theorem dX11_isUnionOfAtoms_10 : decode cX11_isUnionOfAtoms 10 = .ok (.getfield 77, 3) := by decide +kernel
theorem dX11_isUnionOfAtoms_13 : decode cX11_isUnionOfAtoms 13 = .ok (.aload_n 0, 1) := by decide +kernel
theorem dX11_isUnionOfAtoms_14 : decode cX11_isUnionOfAtoms 14 = .ok (.getfield 11, 3) := by decide +kernel
theorem dX11_isUnionOfAtoms_17 : decode cX11_isUnionOfAtoms 17 = .ok (.iload_n 2, 1) := by decide +kernel
theorem dX11_isUnionOfAtoms_18 : decode cX11_isUnionOfAtoms 18 = .ok (.aaload, 1) := by decide +kernel
theorem dX11_isUnionOfAtoms_19 : decode cX11_isUnionOfAtoms 19 = .ok (.invokevirtual 151, 3) := by decide +kernel
theorem dX11_isUnionOfAtoms_22 : decode cX11_isUnionOfAtoms 22 = .ok (.pop, 1) := by decide +kernel
theorem dX11_isUnionOfAtoms_23 : decode cX11_isUnionOfAtoms 23 = .ok (.aload_n 0, 1) := by decide +kernel
theorem dX11_isUnionOfAtoms_24 : decode cX11_isUnionOfAtoms 24 = .ok (.getfield 77, 3) := by decide +kernel
theorem dX11_isUnionOfAtoms_27 : decode cX11_isUnionOfAtoms 27 = .ok (.aload_n 0, 1) := by decide +kernel
theorem dX11_isUnionOfAtoms_28 : decode cX11_isUnionOfAtoms 28 = .ok (.getfield 60, 3) := by decide +kernel
theorem dX11_isUnionOfAtoms_31 : decode cX11_isUnionOfAtoms 31 = .ok (.invokevirtual 155, 3) := by decide +kernel
theorem dX11_isUnionOfAtoms_34 : decode cX11_isUnionOfAtoms 34 = .ok (.aload_n 0, 1) := by decide +kernel
theorem dX11_isUnionOfAtoms_35 : decode cX11_isUnionOfAtoms 35 = .ok (.getfield 84, 3) := by decide +kernel
theorem dX11_isUnionOfAtoms_38 : decode cX11_isUnionOfAtoms 38 = .ok (.aload_n 0, 1) := by decide +kernel
theorem dX11_isUnionOfAtoms_39 : decode cX11_isUnionOfAtoms 39 = .ok (.getfield 60, 3) := by decide +kernel
theorem dX11_isUnionOfAtoms_42 : decode cX11_isUnionOfAtoms 42 = .ok (.invokevirtual 221, 3) := by decide +kernel
theorem dX11_isUnionOfAtoms_45 : decode cX11_isUnionOfAtoms 45 = .ok (.ireturn, 1) := by decide +kernel
theorem dX11_takeDifference_0 : decode cX11_takeDifference 0 = .ok (.iload_n 1, 1) := by decide +kernel
theorem dX11_takeDifference_1 : decode cX11_takeDifference 1 = .ok (.invokestatic 88, 3) := by decide +kernel
theorem dX11_takeDifference_4 : decode cX11_takeDifference 4 = .ok (.iload_n 2, 1) := by decide +kernel
theorem dX11_takeDifference_5 : decode cX11_takeDifference 5 = .ok (.invokestatic 88, 3) := by decide +kernel
theorem dX11_takeDifference_8 : decode cX11_takeDifference 8 = .ok (.aload_n 0, 1) := by decide +kernel
theorem dX11_takeDifference_9 : decode cX11_takeDifference 9 = .ok (.getfield 41, 3) := by decide +kernel
theorem dX11_takeDifference_12 : decode cX11_takeDifference 12 = .ok (.iconst 3, 1) := by decide +kernel
theorem dX11_takeDifference_13 : decode cX11_takeDifference 13 = .ok (.aload_n 0, 1) := by decide +kernel
theorem dX11_takeDifference_14 : decode cX11_takeDifference 14 = .ok (.getfield 11, 3) := by decide +kernel
theorem dX11_takeDifference_17 : decode cX11_takeDifference 17 = .ok (.iload_n 1, 1) := by decide +kernel
theorem dX11_takeDifference_18 : decode cX11_takeDifference 18 = .ok (.aaload, 1) := by decide +kernel
theorem dX11_takeDifference_19 : decode cX11_takeDifference 19 = .ok (.aload_n 0, 1) := by decide +kernel
theorem dX11_takeDifference_20 : decode cX11_takeDifference 20 = .ok (.getfield 11, 3) := by decide +kernel
theorem dX11_takeDifference_23 : decode cX11_takeDifference 23 = .ok (.iload_n 2, 1) := by decide +kernel
theorem dX11_takeDifference_24 : decode cX11_takeDifference 24 = .ok (.aaload, 1) := by decide +kernel
theorem dX11_takeDifference_25 : decode cX11_takeDifference 25 = .ok (.invokevirtual 225, 3) := by decide +kernel
theorem dX11_takeDifference_28 : decode cX11_takeDifference 28 = .ok (.aload_n 0, 1) := by decide +kernel
theorem dX11_takeDifference_29 : decode cX11_takeDifference 29 = .ok (.getfield 77, 3) := by decide +kernel
theorem dX11_takeDifference_32 : decode cX11_takeDifference 32 = .ok (.aload_n 0, 1) := by decide +kernel
theorem dX11_takeDifference_33 : decode cX11_takeDifference 33 = .ok (.getfield 41, 3) := by decide +kernel
theorem dX11_takeDifference_36 : decode cX11_takeDifference 36 = .ok (.invokevirtual 228, 3) := by decide +kernel
theorem dX11_takeDifference_39 : decode cX11_takeDifference 39 = .ok (.aload_n 0, 1) := by decide +kernel
theorem dX11_takeDifference_40 : decode cX11_takeDifference 40 = .ok (.getfield 77, 3) := by decide +kernel
theorem dX11_takeDifference_43 : decode cX11_takeDifference 43 = .ok (.invokevirtual 232, 3) := by decide +kernel
theorem dX11_takeDifference_46 : decode cX11_takeDifference 46 = .ok (.istore_n 3, 1) := by decide +kernel
theorem dX11_takeDifference_47 : decode cX11_takeDifference 47 = .ok (.iload_n 3, 1) := by decide +kernel
theorem dX11_takeDifference_48 : decode cX11_takeDifference 48 = .ok (.ifCond .ge 13, 3) := by decide +kernel
theorem dX11_takeDifference_51 : decode cX11_takeDifference 51 = .ok (.new 235, 3) := by decide +kernel
theorem dX11_takeDifference_54 : decode cX11_takeDifference 54 = .ok (.dup, 1) := by decide +kernel
theorem dX11_takeDifference_55 : decode cX11_takeDifference 55 = .ok (.ldc 237, 2) := by decide +kernel
theorem dX11_takeDifference_57 : decode cX11_takeDifference 57 = .ok (.invokespecial 239, 3) := by decide +kernel
theorem dX11_takeDifference_60 : decode cX11_takeDifference 60 = .ok (.athrow, 1) := by decide +kernel
theorem dX11_takeDifference_61 : decode cX11_takeDifference 61 = .ok (.aload_n 0, 1) := by decide +kernel
theorem dX11_takeDifference_62 : decode cX11_takeDifference 62 = .ok (.getfield 77, 3) := by decide +kernel
theorem dX11_takeDifference_65 : decode cX11_takeDifference 65 = .ok (.iload_n 3, 1) := by decide +kernel
theorem dX11_takeDifference_66 : decode cX11_takeDifference 66 = .ok (.invokevirtual 242, 3) := by decide +kernel
theorem dX11_takeDifference_69 : decode cX11_takeDifference 69 = .ok (.invokestatic 134, 3) := by decide +kernel
theorem dX11_takeDifference_72 : decode cX11_takeDifference 72 = .ok (.aload_n 0, 1) := by decide +kernel
theorem dX11_takeDifference_73 : decode cX11_takeDifference 73 = .ok (.getfield 77, 3) := by decide +kernel
theorem dX11_takeDifference_76 : decode cX11_takeDifference 76 = .ok (.iload_n 3, 1) := by decide +kernel
theorem dX11_takeDifference_77 : decode cX11_takeDifference 77 = .ok (.aload_n 0, 1) := by decide +kernel
theorem dX11_takeDifference_78 : decode cX11_takeDifference 78 = .ok (.getfield 21, 3) := by decide +kernel
theorem dX11_takeDifference_81 : decode cX11_takeDifference 81 = .ok (.invokevirtual 243, 3) := by decide +kernel
theorem dX11_takeDifference_84 : decode cX11_takeDifference 84 = .ok (.aload_n 0, 1) := by decide +kernel
theorem dX11_takeDifference_85 : decode cX11_takeDifference 85 = .ok (.getfield 21, 3) := by decide +kernel
theorem dX11_takeDifference_88 : decode cX11_takeDifference 88 = .ok (.getfield 131, 3) := by decide +kernel
theorem dX11_takeDifference_91 : decode cX11_takeDifference 91 = .ok (.ireturn, 1) := by decide +kernel
theorem dX11_share_0 : decode cX11_share 0 = .ok (.iload_n 1, 1) := by decide +kernel
theorem dX11_share_1 : decode cX11_share 1 = .ok (.invokestatic 88, 3) := by decide +kernel
theorem dX11_share_4 : decode cX11_share 4 = .ok (.iload_n 2, 1) := by decide +kernel
theorem dX11_share_5 : decode cX11_share 5 = .ok (.invokestatic 244, 3) := by decide +kernel
theorem dX11_share_8 : decode cX11_share 8 = .ok (.aload_n 0, 1) := by decide +kernel
theorem dX11_share_9 : decode cX11_share 9 = .ok (.getfield 65, 3) := by decide +kernel
theorem dX11_share_12 : decode cX11_share 12 = .ok (.aload_n 0, 1) := by decide +kernel
theorem dX11_share_13 : decode cX11_share 13 = .ok (.getfield 11, 3) := by decide +kernel
theorem dX11_share_16 : decode cX11_share 16 = .ok (.iload_n 1, 1) := by decide +kernel
theorem dX11_share_17 : decode cX11_share 17 = .ok (.aaload, 1) := by decide +kernel
theorem dX11_share_18 : decode cX11_share 18 = .ok (.iload_n 2, 1) := by decide +kernel
theorem dX11_share_19 : decode cX11_share 19 = .ok (.iconst 0, 1) := by decide +kernel
theorem dX11_share_20 : decode cX11_share 20 = .ok (.invokevirtual 247, 3) := by decide +kernel
theorem dX11_share_23 : decode cX11_share 23 = .ok (.aload_n 0, 1) := by decide +kernel
theorem dX11_share_24 : decode cX11_share 24 = .ok (.getfield 65, 3) := by decide +kernel
theorem dX11_share_27 : decode cX11_share 27 = .ok (.getfield 251, 3) := by decide +kernel
theorem dX11_share_30 : decode cX11_share 30 = .ok (.iload_n 2, 1) := by decide +kernel
theorem dX11_share_31 : decode cX11_share 31 = .ok (.daload, 1) := by decide +kernel
theorem dX11_share_32 : decode cX11_share 32 = .ok (.dreturn, 1) := by decide +kernel
theorem dX11_keepShares_0 : decode cX11_keepShares 0 = .ok (.iload_n 1, 1) := by decide +kernel
theorem dX11_keepShares_1 : decode cX11_keepShares 1 = .ok (.iconst 2, 1) := by decide +kernel
theorem dX11_keepShares_2 : decode cX11_keepShares 2 = .ok (.invokestatic 140, 3) := by decide +kernel
theorem dX11_keepShares_5 : decode cX11_keepShares 5 = .ok (.iload_n 2, 1) := by decide +kernel
theorem dX11_keepShares_6 : decode cX11_keepShares 6 = .ok (.invokestatic 88, 3) := by decide +kernel
theorem dX11_keepShares_9 : decode cX11_keepShares 9 = .ok (.iload_n 3, 1) := by decide +kernel
theorem dX11_keepShares_10 : decode cX11_keepShares 10 = .ok (.invokestatic 244, 3) := by decide +kernel
theorem dX11_keepShares_13 : decode cX11_keepShares 13 = .ok (.aload_n 0, 1) := by decide +kernel
theorem dX11_keepShares_14 : decode cX11_keepShares 14 = .ok (.getfield 34, 3) := by decide +kernel
theorem dX11_keepShares_17 : decode cX11_keepShares 17 = .ok (.iload_n 1, 1) := by decide +kernel
theorem dX11_keepShares_18 : decode cX11_keepShares 18 = .ok (.aaload, 1) := by decide +kernel
theorem dX11_keepShares_19 : decode cX11_keepShares 19 = .ok (.aload_n 0, 1) := by decide +kernel
theorem dX11_keepShares_20 : decode cX11_keepShares 20 = .ok (.getfield 11, 3) := by decide +kernel
theorem dX11_keepShares_23 : decode cX11_keepShares 23 = .ok (.iload_n 2, 1) := by decide +kernel
theorem dX11_keepShares_24 : decode cX11_keepShares 24 = .ok (.aaload, 1) := by decide +kernel
theorem dX11_keepShares_25 : decode cX11_keepShares 25 = .ok (.iload_n 3, 1) := by decide +kernel
theorem dX11_keepShares_26 : decode cX11_keepShares 26 = .ok (.iload 4, 2) := by decide +kernel
theorem dX11_keepShares_28 : decode cX11_keepShares 28 = .ok (.invokevirtual 247, 3) := by decide +kernel
theorem dX11_keepShares_31 : decode cX11_keepShares 31 = .ok (.return_, 1) := by decide +kernel
theorem dX11_remainder_0 : decode cX11_remainder 0 = .ok (.iload_n 1, 1) := by decide +kernel
theorem dX11_remainder_1 : decode cX11_remainder 1 = .ok (.ifCond .lt 8, 3) := by decide +kernel
theorem dX11_remainder_4 : decode cX11_remainder 4 = .ok (.iload_n 1, 1) := by decide +kernel
theorem dX11_remainder_5 : decode cX11_remainder 5 = .ok (.iconst 2, 1) := by decide +kernel
theorem dX11_remainder_6 : decode cX11_remainder 6 = .ok (.if_icmp .lt 14, 3) := by decide +kernel
theorem dX11_remainder_9 : decode cX11_remainder 9 = .ok (.new 255, 3) := by decide +kernel
theorem dX11_remainder_12 : decode cX11_remainder 12 = .ok (.dup, 1) := by decide +kernel
theorem dX11_remainder_13 : decode cX11_remainder 13 = .ok (.ldc_w 257, 3) := by decide +kernel
theorem dX11_remainder_16 : decode cX11_remainder 16 = .ok (.invokespecial 259, 3) := by decide +kernel
theorem dX11_remainder_19 : decode cX11_remainder 19 = .ok (.athrow, 1) := by decide +kernel
theorem dX11_remainder_20 : decode cX11_remainder 20 = .ok (.aload_n 0, 1) := by decide +kernel
theorem dX11_remainder_21 : decode cX11_remainder 21 = .ok (.getfield 34, 3) := by decide +kernel
theorem dX11_remainder_24 : decode cX11_remainder 24 = .ok (.iload_n 1, 1) := by decide +kernel
theorem dX11_remainder_25 : decode cX11_remainder 25 = .ok (.aaload, 1) := by decide +kernel
theorem dX11_remainder_26 : decode cX11_remainder 26 = .ok (.getfield 260, 3) := by decide +kernel
theorem dX11_remainder_29 : decode cX11_remainder 29 = .ok (.ifCond .ne 14, 3) := by decide +kernel
theorem dX11_remainder_32 : decode cX11_remainder 32 = .ok (.new 261, 3) := by decide +kernel
theorem dX11_remainder_35 : decode cX11_remainder 35 = .ok (.dup, 1) := by decide +kernel
theorem dX11_remainder_36 : decode cX11_remainder 36 = .ok (.ldc_w 263, 3) := by decide +kernel
theorem dX11_remainder_39 : decode cX11_remainder 39 = .ok (.invokespecial 265, 3) := by decide +kernel
theorem dX11_remainder_42 : decode cX11_remainder 42 = .ok (.athrow, 1) := by decide +kernel
theorem dX11_remainder_43 : decode cX11_remainder 43 = .ok (.iload_n 2, 1) := by decide +kernel
theorem dX11_remainder_44 : decode cX11_remainder 44 = .ok (.aload_n 0, 1) := by decide +kernel
theorem dX11_remainder_45 : decode cX11_remainder 45 = .ok (.getfield 34, 3) := by decide +kernel
theorem dX11_remainder_48 : decode cX11_remainder 48 = .ok (.iload_n 1, 1) := by decide +kernel
theorem dX11_remainder_49 : decode cX11_remainder 49 = .ok (.aaload, 1) := by decide +kernel
theorem dX11_remainder_50 : decode cX11_remainder 50 = .ok (.getfield 260, 3) := by decide +kernel
theorem dX11_remainder_53 : decode cX11_remainder 53 = .ok (.invokestatic 140, 3) := by decide +kernel
theorem dX11_remainder_56 : decode cX11_remainder 56 = .ok (.iload_n 3, 1) := by decide +kernel
theorem dX11_remainder_57 : decode cX11_remainder 57 = .ok (.aload_n 0, 1) := by decide +kernel
theorem dX11_remainder_58 : decode cX11_remainder 58 = .ok (.getfield 34, 3) := by decide +kernel
theorem dX11_remainder_61 : decode cX11_remainder 61 = .ok (.iload_n 1, 1) := by decide +kernel
theorem dX11_remainder_62 : decode cX11_remainder 62 = .ok (.aaload, 1) := by decide +kernel
theorem dX11_remainder_63 : decode cX11_remainder 63 = .ok (.getfield 260, 3) := by decide +kernel
theorem dX11_remainder_66 : decode cX11_remainder 66 = .ok (.invokestatic 140, 3) := by decide +kernel
theorem dX11_remainder_69 : decode cX11_remainder 69 = .ok (.aload_n 0, 1) := by decide +kernel
theorem dX11_remainder_70 : decode cX11_remainder 70 = .ok (.getfield 34, 3) := by decide +kernel
theorem dX11_remainder_73 : decode cX11_remainder 73 = .ok (.iload_n 1, 1) := by decide +kernel
theorem dX11_remainder_74 : decode cX11_remainder 74 = .ok (.aaload, 1) := by decide +kernel
theorem dX11_remainder_75 : decode cX11_remainder 75 = .ok (.iload_n 3, 1) := by decide +kernel
theorem dX11_remainder_76 : decode cX11_remainder 76 = .ok (.invokevirtual 266, 3) := by decide +kernel
theorem dX11_remainder_79 : decode cX11_remainder 79 = .ok (.ifCond .eq 14, 3) := by decide +kernel
theorem dX11_remainder_82 : decode cX11_remainder 82 = .ok (.new 269, 3) := by decide +kernel
theorem dX11_remainder_85 : decode cX11_remainder 85 = .ok (.dup, 1) := by decide +kernel
theorem dX11_remainder_86 : decode cX11_remainder 86 = .ok (.ldc_w 271, 3) := by decide +kernel
theorem dX11_remainder_89 : decode cX11_remainder 89 = .ok (.invokespecial 273, 3) := by decide +kernel
theorem dX11_remainder_92 : decode cX11_remainder 92 = .ok (.athrow, 1) := by decide +kernel
theorem dX11_remainder_93 : decode cX11_remainder 93 = .ok (.aload_n 0, 1) := by decide +kernel
theorem dX11_remainder_94 : decode cX11_remainder 94 = .ok (.getfield 34, 3) := by decide +kernel
theorem dX11_remainder_97 : decode cX11_remainder 97 = .ok (.iload_n 1, 1) := by decide +kernel
theorem dX11_remainder_98 : decode cX11_remainder 98 = .ok (.aaload, 1) := by decide +kernel
theorem dX11_remainder_99 : decode cX11_remainder 99 = .ok (.iload_n 2, 1) := by decide +kernel
theorem dX11_remainder_100 : decode cX11_remainder 100 = .ok (.iload_n 3, 1) := by decide +kernel
theorem dX11_remainder_101 : decode cX11_remainder 101 = .ok (.invokevirtual 274, 3) := by decide +kernel
theorem dX11_remainder_104 : decode cX11_remainder 104 = .ok (.dreturn, 1) := by decide +kernel
theorem dX11_save_0 : decode cX11_save 0 = .ok (.iconst 0, 1) := by decide +kernel
theorem dX11_save_1 : decode cX11_save 1 = .ok (.istore_n 1, 1) := by decide +kernel
theorem dX11_save_2 : decode cX11_save 2 = .ok (.iload_n 1, 1) := by decide +kernel
theorem dX11_save_3 : decode cX11_save 3 = .ok (.iconst 3, 1) := by decide +kernel
theorem dX11_save_4 : decode cX11_save 4 = .ok (.if_icmp .ge 24, 3) := by decide +kernel
theorem dX11_save_7 : decode cX11_save 7 = .ok (.aload_n 0, 1) := by decide +kernel
theorem dX11_save_8 : decode cX11_save 8 = .ok (.getfield 15, 3) := by decide +kernel
theorem dX11_save_11 : decode cX11_save 11 = .ok (.iload_n 1, 1) := by decide +kernel
theorem dX11_save_12 : decode cX11_save 12 = .ok (.aaload, 1) := by decide +kernel
theorem dX11_save_13 : decode cX11_save 13 = .ok (.aload_n 0, 1) := by decide +kernel
theorem dX11_save_14 : decode cX11_save 14 = .ok (.getfield 11, 3) := by decide +kernel
theorem dX11_save_17 : decode cX11_save 17 = .ok (.iload_n 1, 1) := by decide +kernel
theorem dX11_save_18 : decode cX11_save 18 = .ok (.aaload, 1) := by decide +kernel
theorem dX11_save_19 : decode cX11_save 19 = .ok (.invokevirtual 218, 3) := by decide +kernel
theorem dX11_save_22 : decode cX11_save 22 = .ok (.iinc 1 1, 3) := by decide +kernel
theorem dX11_save_25 : decode cX11_save 25 = .ok (.goto (-23), 3) := by decide +kernel
theorem dX11_save_28 : decode cX11_save 28 = .ok (.aload_n 0, 1) := by decide +kernel
theorem dX11_save_29 : decode cX11_save 29 = .ok (.getfield 25, 3) := by decide +kernel
theorem dX11_save_32 : decode cX11_save 32 = .ok (.aload_n 0, 1) := by decide +kernel
theorem dX11_save_33 : decode cX11_save 33 = .ok (.getfield 21, 3) := by decide +kernel
theorem dX11_save_36 : decode cX11_save 36 = .ok (.invokevirtual 278, 3) := by decide +kernel
theorem dX11_save_39 : decode cX11_save 39 = .ok (.aload_n 0, 1) := by decide +kernel
theorem dX11_save_40 : decode cX11_save 40 = .ok (.iconst 1, 1) := by decide +kernel
theorem dX11_save_41 : decode cX11_save 41 = .ok (.putfield 28, 3) := by decide +kernel
theorem dX11_save_44 : decode cX11_save 44 = .ok (.return_, 1) := by decide +kernel
theorem dX11_restore_0 : decode cX11_restore 0 = .ok (.aload_n 0, 1) := by decide +kernel
theorem dX11_restore_1 : decode cX11_restore 1 = .ok (.getfield 28, 3) := by decide +kernel
theorem dX11_restore_4 : decode cX11_restore 4 = .ok (.ifCond .ne 14, 3) := by decide +kernel
theorem dX11_restore_7 : decode cX11_restore 7 = .ok (.new 261, 3) := by decide +kernel
theorem dX11_restore_10 : decode cX11_restore 10 = .ok (.dup, 1) := by decide +kernel
theorem dX11_restore_11 : decode cX11_restore 11 = .ok (.ldc_w 281, 3) := by decide +kernel
theorem dX11_restore_14 : decode cX11_restore 14 = .ok (.invokespecial 265, 3) := by decide +kernel
theorem dX11_restore_17 : decode cX11_restore 17 = .ok (.athrow, 1) := by decide +kernel
theorem dX11_restore_18 : decode cX11_restore 18 = .ok (.iconst 0, 1) := by decide +kernel
theorem dX11_restore_19 : decode cX11_restore 19 = .ok (.istore_n 1, 1) := by decide +kernel
theorem dX11_restore_20 : decode cX11_restore 20 = .ok (.iload_n 1, 1) := by decide +kernel
theorem dX11_restore_21 : decode cX11_restore 21 = .ok (.iconst 3, 1) := by decide +kernel
theorem dX11_restore_22 : decode cX11_restore 22 = .ok (.if_icmp .ge 24, 3) := by decide +kernel
theorem dX11_restore_25 : decode cX11_restore 25 = .ok (.aload_n 0, 1) := by decide +kernel
theorem dX11_restore_26 : decode cX11_restore 26 = .ok (.getfield 11, 3) := by decide +kernel
theorem dX11_restore_29 : decode cX11_restore 29 = .ok (.iload_n 1, 1) := by decide +kernel
theorem dX11_restore_30 : decode cX11_restore 30 = .ok (.aaload, 1) := by decide +kernel
theorem dX11_restore_31 : decode cX11_restore 31 = .ok (.aload_n 0, 1) := by decide +kernel
theorem dX11_restore_32 : decode cX11_restore 32 = .ok (.getfield 15, 3) := by decide +kernel
theorem dX11_restore_35 : decode cX11_restore 35 = .ok (.iload_n 1, 1) := by decide +kernel
theorem dX11_restore_36 : decode cX11_restore 36 = .ok (.aaload, 1) := by decide +kernel
theorem dX11_restore_37 : decode cX11_restore 37 = .ok (.invokevirtual 218, 3) := by decide +kernel
theorem dX11_restore_40 : decode cX11_restore 40 = .ok (.iinc 1 1, 3) := by decide +kernel
theorem dX11_restore_43 : decode cX11_restore 43 = .ok (.goto (-23), 3) := by decide +kernel
theorem dX11_restore_46 : decode cX11_restore 46 = .ok (.aload_n 0, 1) := by decide +kernel
theorem dX11_restore_47 : decode cX11_restore 47 = .ok (.getfield 21, 3) := by decide +kernel
theorem dX11_restore_50 : decode cX11_restore 50 = .ok (.aload_n 0, 1) := by decide +kernel
theorem dX11_restore_51 : decode cX11_restore 51 = .ok (.getfield 25, 3) := by decide +kernel
theorem dX11_restore_54 : decode cX11_restore 54 = .ok (.invokevirtual 278, 3) := by decide +kernel
theorem dX11_restore_57 : decode cX11_restore 57 = .ok (.return_, 1) := by decide +kernel
theorem dX11_checkIndex_0 : decode cX11_checkIndex 0 = .ok (.iload_n 0, 1) := by decide +kernel
theorem dX11_checkIndex_1 : decode cX11_checkIndex 1 = .ok (.ifCond .lt 8, 3) := by decide +kernel
theorem dX11_checkIndex_4 : decode cX11_checkIndex 4 = .ok (.iload_n 0, 1) := by decide +kernel
theorem dX11_checkIndex_5 : decode cX11_checkIndex 5 = .ok (.iload_n 1, 1) := by decide +kernel
theorem dX11_checkIndex_6 : decode cX11_checkIndex 6 = .ok (.if_icmp .lt 14, 3) := by decide +kernel
theorem dX11_checkIndex_9 : decode cX11_checkIndex 9 = .ok (.new 283, 3) := by decide +kernel
theorem dX11_checkIndex_12 : decode cX11_checkIndex 12 = .ok (.dup, 1) := by decide +kernel
theorem dX11_checkIndex_13 : decode cX11_checkIndex 13 = .ok (.ldc_w 285, 3) := by decide +kernel
theorem dX11_checkIndex_16 : decode cX11_checkIndex 16 = .ok (.invokespecial 287, 3) := by decide +kernel
theorem dX11_checkIndex_19 : decode cX11_checkIndex 19 = .ok (.athrow, 1) := by decide +kernel
theorem dX11_checkIndex_20 : decode cX11_checkIndex 20 = .ok (.return_, 1) := by decide +kernel
theorem dX11_checkRegister_0 : decode cX11_checkRegister 0 = .ok (.iload_n 0, 1) := by decide +kernel
theorem dX11_checkRegister_1 : decode cX11_checkRegister 1 = .ok (.iconst 3, 1) := by decide +kernel
theorem dX11_checkRegister_2 : decode cX11_checkRegister 2 = .ok (.invokestatic 140, 3) := by decide +kernel
theorem dX11_checkRegister_5 : decode cX11_checkRegister 5 = .ok (.return_, 1) := by decide +kernel
theorem dX11_checkLetter_0 : decode cX11_checkLetter 0 = .ok (.iload_n 0, 1) := by decide +kernel
theorem dX11_checkLetter_1 : decode cX11_checkLetter 1 = .ok (.iconst 3, 1) := by decide +kernel
theorem dX11_checkLetter_2 : decode cX11_checkLetter 2 = .ok (.invokestatic 140, 3) := by decide +kernel
theorem dX11_checkLetter_5 : decode cX11_checkLetter 5 = .ok (.return_, 1) := by decide +kernel
theorem dX11_checkState_0 : decode cX11_checkState 0 = .ok (.iload_n 1, 1) := by decide +kernel
theorem dX11_checkState_1 : decode cX11_checkState 1 = .ok (.invokestatic 88, 3) := by decide +kernel
theorem dX11_checkState_4 : decode cX11_checkState 4 = .ok (.iload_n 2, 1) := by decide +kernel
theorem dX11_checkState_5 : decode cX11_checkState 5 = .ok (.aload_n 0, 1) := by decide +kernel
theorem dX11_checkState_6 : decode cX11_checkState 6 = .ok (.getfield 11, 3) := by decide +kernel
theorem dX11_checkState_9 : decode cX11_checkState 9 = .ok (.iload_n 1, 1) := by decide +kernel
theorem dX11_checkState_10 : decode cX11_checkState 10 = .ok (.aaload, 1) := by decide +kernel
theorem dX11_checkState_11 : decode cX11_checkState 11 = .ok (.getfield 117, 3) := by decide +kernel
theorem dX11_checkState_14 : decode cX11_checkState 14 = .ok (.invokestatic 140, 3) := by decide +kernel
theorem dX11_checkState_17 : decode cX11_checkState 17 = .ok (.return_, 1) := by decide +kernel
theorem dX11_checkStates_0 : decode cX11_checkStates 0 = .ok (.iload_n 0, 1) := by decide +kernel
theorem dX11_checkStates_1 : decode cX11_checkStates 1 = .ok (.iconst 1, 1) := by decide +kernel
theorem dX11_checkStates_2 : decode cX11_checkStates 2 = .ok (.if_icmp .lt 9, 3) := by decide +kernel
theorem dX11_checkStates_5 : decode cX11_checkStates 5 = .ok (.iload_n 0, 1) := by decide +kernel
theorem dX11_checkStates_6 : decode cX11_checkStates 6 = .ok (.bipush 6, 2) := by decide +kernel
theorem dX11_checkStates_8 : decode cX11_checkStates 8 = .ok (.if_icmp .le 14, 3) := by decide +kernel
theorem dX11_checkStates_11 : decode cX11_checkStates 11 = .ok (.new 255, 3) := by decide +kernel
theorem dX11_checkStates_14 : decode cX11_checkStates 14 = .ok (.dup, 1) := by decide +kernel
theorem dX11_checkStates_15 : decode cX11_checkStates 15 = .ok (.ldc_w 288, 3) := by decide +kernel
theorem dX11_checkStates_18 : decode cX11_checkStates 18 = .ok (.invokespecial 259, 3) := by decide +kernel
theorem dX11_checkStates_21 : decode cX11_checkStates 21 = .ok (.athrow, 1) := by decide +kernel
theorem dX11_checkStates_22 : decode cX11_checkStates 22 = .ok (.return_, 1) := by decide +kernel
theorem dX11_checkOperation_0 : decode cX11_checkOperation 0 = .ok (.iload_n 0, 1) := by decide +kernel
theorem dX11_checkOperation_1 : decode cX11_checkOperation 1 = .ok (.ifCond .lt 8, 3) := by decide +kernel
theorem dX11_checkOperation_4 : decode cX11_checkOperation 4 = .ok (.iload_n 0, 1) := by decide +kernel
theorem dX11_checkOperation_5 : decode cX11_checkOperation 5 = .ok (.iconst 5, 1) := by decide +kernel
theorem dX11_checkOperation_6 : decode cX11_checkOperation 6 = .ok (.if_icmp .lt 14, 3) := by decide +kernel
theorem dX11_checkOperation_9 : decode cX11_checkOperation 9 = .ok (.new 255, 3) := by decide +kernel
theorem dX11_checkOperation_12 : decode cX11_checkOperation 12 = .ok (.dup, 1) := by decide +kernel
theorem dX11_checkOperation_13 : decode cX11_checkOperation 13 = .ok (.ldc_w 290, 3) := by decide +kernel
theorem dX11_checkOperation_16 : decode cX11_checkOperation 16 = .ok (.invokespecial 259, 3) := by decide +kernel
theorem dX11_checkOperation_19 : decode cX11_checkOperation 19 = .ok (.athrow, 1) := by decide +kernel
theorem dX11_checkOperation_20 : decode cX11_checkOperation 20 = .ok (.return_, 1) := by decide +kernel
theorem dX11_checkLength_0 : decode cX11_checkLength 0 = .ok (.iload_n 0, 1) := by decide +kernel
theorem dX11_checkLength_1 : decode cX11_checkLength 1 = .ok (.ifCond .lt 9, 3) := by decide +kernel
theorem dX11_checkLength_4 : decode cX11_checkLength 4 = .ok (.iload_n 0, 1) := by decide +kernel
theorem dX11_checkLength_5 : decode cX11_checkLength 5 = .ok (.bipush 20, 2) := by decide +kernel
theorem dX11_checkLength_7 : decode cX11_checkLength 7 = .ok (.if_icmp .le 14, 3) := by decide +kernel
theorem dX11_checkLength_10 : decode cX11_checkLength 10 = .ok (.new 255, 3) := by decide +kernel
theorem dX11_checkLength_13 : decode cX11_checkLength 13 = .ok (.dup, 1) := by decide +kernel
theorem dX11_checkLength_14 : decode cX11_checkLength 14 = .ok (.ldc_w 292, 3) := by decide +kernel
theorem dX11_checkLength_17 : decode cX11_checkLength 17 = .ok (.invokespecial 259, 3) := by decide +kernel
theorem dX11_checkLength_20 : decode cX11_checkLength 20 = .ok (.athrow, 1) := by decide +kernel
theorem dX11_checkLength_21 : decode cX11_checkLength 21 = .ok (.return_, 1) := by decide +kernel
theorem dX11_checkAtoms_0 : decode cX11_checkAtoms 0 = .ok (.aload_n 0, 1) := by decide +kernel
theorem dX11_checkAtoms_1 : decode cX11_checkAtoms 1 = .ok (.getfield 84, 3) := by decide +kernel
theorem dX11_checkAtoms_4 : decode cX11_checkAtoms 4 = .ok (.getfield 162, 3) := by decide +kernel
theorem dX11_checkAtoms_7 : decode cX11_checkAtoms 7 = .ok (.bipush 64, 2) := by decide +kernel
theorem dX11_checkAtoms_9 : decode cX11_checkAtoms 9 = .ok (.if_icmp .ge 28, 3) := by decide +kernel
theorem dX11_checkAtoms_12 : decode cX11_checkAtoms 12 = .ok (.lload_n 1, 1) := by decide +kernel
theorem dX11_checkAtoms_13 : decode cX11_checkAtoms 13 = .ok (.aload_n 0, 1) := by decide +kernel
theorem dX11_checkAtoms_14 : decode cX11_checkAtoms 14 = .ok (.getfield 84, 3) := by decide +kernel
theorem dX11_checkAtoms_17 : decode cX11_checkAtoms 17 = .ok (.getfield 162, 3) := by decide +kernel
theorem dX11_checkAtoms_20 : decode cX11_checkAtoms 20 = .ok (.lushr, 1) := by decide +kernel
theorem dX11_checkAtoms_21 : decode cX11_checkAtoms 21 = .ok (.lconst 0, 1) := by decide +kernel
theorem dX11_checkAtoms_22 : decode cX11_checkAtoms 22 = .ok (.lcmp, 1) := by decide +kernel
theorem dX11_checkAtoms_23 : decode cX11_checkAtoms 23 = .ok (.ifCond .eq 14, 3) := by decide +kernel
theorem dX11_checkAtoms_26 : decode cX11_checkAtoms 26 = .ok (.new 255, 3) := by decide +kernel
theorem dX11_checkAtoms_29 : decode cX11_checkAtoms 29 = .ok (.dup, 1) := by decide +kernel
theorem dX11_checkAtoms_30 : decode cX11_checkAtoms 30 = .ok (.ldc_w 294, 3) := by decide +kernel
theorem dX11_checkAtoms_33 : decode cX11_checkAtoms 33 = .ok (.invokespecial 259, 3) := by decide +kernel
theorem dX11_checkAtoms_36 : decode cX11_checkAtoms 36 = .ok (.athrow, 1) := by decide +kernel
theorem dX11_checkAtoms_37 : decode cX11_checkAtoms 37 = .ok (.return_, 1) := by decide +kernel
theorem dX11_checkWordLength_0 : decode cX11_checkWordLength 0 = .ok (.iload_n 0, 1) := by decide +kernel
theorem dX11_checkWordLength_1 : decode cX11_checkWordLength 1 = .ok (.bipush 12, 2) := by decide +kernel
theorem dX11_checkWordLength_3 : decode cX11_checkWordLength 3 = .ok (.if_icmp .le 14, 3) := by decide +kernel
theorem dX11_checkWordLength_6 : decode cX11_checkWordLength 6 = .ok (.new 261, 3) := by decide +kernel
theorem dX11_checkWordLength_9 : decode cX11_checkWordLength 9 = .ok (.dup, 1) := by decide +kernel
theorem dX11_checkWordLength_10 : decode cX11_checkWordLength 10 = .ok (.ldc_w 296, 3) := by decide +kernel
theorem dX11_checkWordLength_13 : decode cX11_checkWordLength 13 = .ok (.invokespecial 265, 3) := by decide +kernel
theorem dX11_checkWordLength_16 : decode cX11_checkWordLength 16 = .ok (.athrow, 1) := by decide +kernel
theorem dX11_checkWordLength_17 : decode cX11_checkWordLength 17 = .ok (.return_, 1) := by decide +kernel
theorem dX11_checkResult_0 : decode cX11_checkResult 0 = .ok (.iload_n 0, 1) := by decide +kernel
theorem dX11_checkResult_1 : decode cX11_checkResult 1 = .ok (.bipush 6, 2) := by decide +kernel
theorem dX11_checkResult_3 : decode cX11_checkResult 3 = .ok (.if_icmp .le 14, 3) := by decide +kernel
theorem dX11_checkResult_6 : decode cX11_checkResult 6 = .ok (.new 261, 3) := by decide +kernel
theorem dX11_checkResult_9 : decode cX11_checkResult 9 = .ok (.dup, 1) := by decide +kernel
theorem dX11_checkResult_10 : decode cX11_checkResult 10 = .ok (.ldc_w 298, 3) := by decide +kernel
theorem dX11_checkResult_13 : decode cX11_checkResult 13 = .ok (.invokespecial 265, 3) := by decide +kernel
theorem dX11_checkResult_16 : decode cX11_checkResult 16 = .ok (.athrow, 1) := by decide +kernel
theorem dX11_checkResult_17 : decode cX11_checkResult 17 = .ok (.return_, 1) := by decide +kernel
theorem dX11_findAtoms_0 : decode cX11_findAtoms 0 = .ok (.iload_n 1, 1) := by decide +kernel
theorem dX11_findAtoms_1 : decode cX11_findAtoms 1 = .ok (.invokestatic 88, 3) := by decide +kernel
theorem dX11_findAtoms_4 : decode cX11_findAtoms 4 = .ok (.aload_n 0, 1) := by decide +kernel
theorem dX11_findAtoms_5 : decode cX11_findAtoms 5 = .ok (.getfield 77, 3) := by decide +kernel
theorem dX11_findAtoms_8 : decode cX11_findAtoms 8 = .ok (.aload_n 0, 1) := by decide +kernel
theorem dX11_findAtoms_9 : decode cX11_findAtoms 9 = .ok (.getfield 11, 3) := by decide +kernel
theorem dX11_findAtoms_12 : decode cX11_findAtoms 12 = .ok (.iload_n 1, 1) := by decide +kernel
theorem dX11_findAtoms_13 : decode cX11_findAtoms 13 = .ok (.aaload, 1) := by decide +kernel
theorem dX11_findAtoms_14 : decode cX11_findAtoms 14 = .ok (.invokevirtual 151, 3) := by decide +kernel
theorem dX11_findAtoms_17 : decode cX11_findAtoms 17 = .ok (.pop, 1) := by decide +kernel
theorem dX11_findAtoms_18 : decode cX11_findAtoms 18 = .ok (.aload_n 0, 1) := by decide +kernel
theorem dX11_findAtoms_19 : decode cX11_findAtoms 19 = .ok (.getfield 77, 3) := by decide +kernel
theorem dX11_findAtoms_22 : decode cX11_findAtoms 22 = .ok (.aload_n 0, 1) := by decide +kernel
theorem dX11_findAtoms_23 : decode cX11_findAtoms 23 = .ok (.getfield 84, 3) := by decide +kernel
theorem dX11_findAtoms_26 : decode cX11_findAtoms 26 = .ok (.getfield 300, 3) := by decide +kernel
theorem dX11_findAtoms_29 : decode cX11_findAtoms 29 = .ok (.invokevirtual 155, 3) := by decide +kernel
theorem dX11_findAtoms_32 : decode cX11_findAtoms 32 = .ok (.aload_n 0, 1) := by decide +kernel
theorem dX11_findAtoms_33 : decode cX11_findAtoms 33 = .ok (.getfield 84, 3) := by decide +kernel
theorem dX11_findAtoms_36 : decode cX11_findAtoms 36 = .ok (.invokevirtual 303, 3) := by decide +kernel
theorem dX11_findAtoms_39 : decode cX11_findAtoms 39 = .ok (.return_, 1) := by decide +kernel
theorem dX11_operate_0 : decode cX11_operate 0 = .ok (.iload_n 1, 1) := by decide +kernel
theorem dX11_operate_1 : decode cX11_operate 1 = .ok (.iconst 4, 1) := by decide +kernel
theorem dX11_operate_2 : decode cX11_operate 2 = .ok (.if_icmp .ne 34, 3) := by decide +kernel
theorem dX11_operate_5 : decode cX11_operate 5 = .ok (.aload_n 0, 1) := by decide +kernel
theorem dX11_operate_6 : decode cX11_operate 6 = .ok (.getfield 48, 3) := by decide +kernel
theorem dX11_operate_9 : decode cX11_operate 9 = .ok (.aload_n 0, 1) := by decide +kernel
theorem dX11_operate_10 : decode cX11_operate 10 = .ok (.getfield 11, 3) := by decide +kernel
theorem dX11_operate_13 : decode cX11_operate 13 = .ok (.iload_n 2, 1) := by decide +kernel
theorem dX11_operate_14 : decode cX11_operate 14 = .ok (.aaload, 1) := by decide +kernel
theorem dX11_operate_15 : decode cX11_operate 15 = .ok (.aload_n 0, 1) := by decide +kernel
theorem dX11_operate_16 : decode cX11_operate 16 = .ok (.getfield 11, 3) := by decide +kernel
theorem dX11_operate_19 : decode cX11_operate 19 = .ok (.iload_n 3, 1) := by decide +kernel
theorem dX11_operate_20 : decode cX11_operate 20 = .ok (.aaload, 1) := by decide +kernel
theorem dX11_operate_21 : decode cX11_operate 21 = .ok (.invokevirtual 306, 3) := by decide +kernel
theorem dX11_operate_24 : decode cX11_operate 24 = .ok (.aload_n 0, 1) := by decide +kernel
theorem dX11_operate_25 : decode cX11_operate 25 = .ok (.getfield 77, 3) := by decide +kernel
theorem dX11_operate_28 : decode cX11_operate 28 = .ok (.aload_n 0, 1) := by decide +kernel
theorem dX11_operate_29 : decode cX11_operate 29 = .ok (.getfield 48, 3) := by decide +kernel
theorem dX11_operate_32 : decode cX11_operate 32 = .ok (.invokevirtual 151, 3) := by decide +kernel
theorem dX11_operate_35 : decode cX11_operate 35 = .ok (.ireturn, 1) := by decide +kernel
theorem dX11_operate_36 : decode cX11_operate 36 = .ok (.aload_n 0, 1) := by decide +kernel
theorem dX11_operate_37 : decode cX11_operate 37 = .ok (.getfield 41, 3) := by decide +kernel
theorem dX11_operate_40 : decode cX11_operate 40 = .ok (.iload_n 1, 1) := by decide +kernel
theorem dX11_operate_41 : decode cX11_operate 41 = .ok (.aload_n 0, 1) := by decide +kernel
theorem dX11_operate_42 : decode cX11_operate 42 = .ok (.getfield 11, 3) := by decide +kernel
theorem dX11_operate_45 : decode cX11_operate 45 = .ok (.iload_n 2, 1) := by decide +kernel
theorem dX11_operate_46 : decode cX11_operate 46 = .ok (.aaload, 1) := by decide +kernel
theorem dX11_operate_47 : decode cX11_operate 47 = .ok (.aload_n 0, 1) := by decide +kernel
theorem dX11_operate_48 : decode cX11_operate 48 = .ok (.getfield 11, 3) := by decide +kernel
theorem dX11_operate_51 : decode cX11_operate 51 = .ok (.iload_n 3, 1) := by decide +kernel
theorem dX11_operate_52 : decode cX11_operate 52 = .ok (.aaload, 1) := by decide +kernel
theorem dX11_operate_53 : decode cX11_operate 53 = .ok (.invokevirtual 225, 3) := by decide +kernel
theorem dX11_operate_56 : decode cX11_operate 56 = .ok (.aload_n 0, 1) := by decide +kernel
theorem dX11_operate_57 : decode cX11_operate 57 = .ok (.getfield 77, 3) := by decide +kernel
theorem dX11_operate_60 : decode cX11_operate 60 = .ok (.aload_n 0, 1) := by decide +kernel
theorem dX11_operate_61 : decode cX11_operate 61 = .ok (.getfield 41, 3) := by decide +kernel
theorem dX11_operate_64 : decode cX11_operate 64 = .ok (.invokevirtual 151, 3) := by decide +kernel
theorem dX11_operate_67 : decode cX11_operate 67 = .ok (.ireturn, 1) := by decide +kernel
theorem dX2_init_0 : decode cX2_init 0 = .ok (.aload_n 0, 1) := by decide +kernel
theorem dX2_init_1 : decode cX2_init 1 = .ok (.invokespecial 3, 3) := by decide +kernel
theorem dX2_init_4 : decode cX2_init 4 = .ok (.aload_n 0, 1) := by decide +kernel
theorem dX2_init_5 : decode cX2_init 5 = .ok (.new 9, 3) := by decide +kernel
theorem dX2_init_8 : decode cX2_init 8 = .ok (.dup, 1) := by decide +kernel
theorem dX2_init_9 : decode cX2_init 9 = .ok (.invokespecial 11, 3) := by decide +kernel
theorem dX2_init_12 : decode cX2_init 12 = .ok (.putfield 12, 3) := by decide +kernel
theorem dX2_init_15 : decode cX2_init 15 = .ok (.aload_n 0, 1) := by decide +kernel
theorem dX2_init_16 : decode cX2_init 16 = .ok (.iconst 0, 1) := by decide +kernel
theorem dX2_init_17 : decode cX2_init 17 = .ok (.putfield 18, 3) := by decide +kernel
theorem dX2_init_20 : decode cX2_init 20 = .ok (.aload_n 0, 1) := by decide +kernel
theorem dX2_init_21 : decode cX2_init 21 = .ok (.new 22, 3) := by decide +kernel
theorem dX2_init_24 : decode cX2_init 24 = .ok (.dup, 1) := by decide +kernel
theorem dX2_init_25 : decode cX2_init 25 = .ok (.invokespecial 24, 3) := by decide +kernel
theorem dX2_init_28 : decode cX2_init 28 = .ok (.putfield 25, 3) := by decide +kernel
theorem dX2_init_31 : decode cX2_init 31 = .ok (.return_, 1) := by decide +kernel
theorem dX2_prepare_0 : decode cX2_prepare 0 = .ok (.aload_n 0, 1) := by decide +kernel
theorem dX2_prepare_1 : decode cX2_prepare 1 = .ok (.aload_n 1, 1) := by decide +kernel
theorem dX2_prepare_2 : decode cX2_prepare 2 = .ok (.putfield 12, 3) := by decide +kernel
theorem dX2_prepare_5 : decode cX2_prepare 5 = .ok (.aload_n 0, 1) := by decide +kernel
theorem dX2_prepare_6 : decode cX2_prepare 6 = .ok (.aload_n 2, 1) := by decide +kernel
theorem dX2_prepare_7 : decode cX2_prepare 7 = .ok (.getfield 29, 3) := by decide +kernel
theorem dX2_prepare_10 : decode cX2_prepare 10 = .ok (.putfield 18, 3) := by decide +kernel
theorem dX2_prepare_13 : decode cX2_prepare 13 = .ok (.aload_n 0, 1) := by decide +kernel
theorem dX2_prepare_14 : decode cX2_prepare 14 = .ok (.getfield 25, 3) := by decide +kernel
theorem dX2_prepare_17 : decode cX2_prepare 17 = .ok (.aload_n 2, 1) := by decide +kernel
theorem dX2_prepare_18 : decode cX2_prepare 18 = .ok (.invokevirtual 32, 3) := by decide +kernel
theorem dX2_prepare_21 : decode cX2_prepare 21 = .ok (.return_, 1) := by decide +kernel
theorem dX2_codeBound_0 : decode cX2_codeBound 0 = .ok (.sipush 384, 3) := by decide +kernel
theorem dX2_codeBound_3 : decode cX2_codeBound 3 = .ok (.ireturn, 1) := by decide +kernel
theorem dX2_startCode_0 : decode cX2_startCode 0 = .ok (.aload_n 0, 1) := by decide +kernel
theorem dX2_startCode_1 : decode cX2_startCode 1 = .ok (.iconst 0, 1) := by decide +kernel
theorem dX2_startCode_2 : decode cX2_startCode 2 = .ok (.iconst 0, 1) := by decide +kernel
theorem dX2_startCode_3 : decode cX2_startCode 3 = .ok (.invokevirtual 36, 3) := by decide +kernel
theorem dX2_startCode_6 : decode cX2_startCode 6 = .ok (.ireturn, 1) := by decide +kernel
theorem dX2_follow_0 : decode cX2_follow 0 = .ok (.aload_n 0, 1) := by decide +kernel
theorem dX2_follow_1 : decode cX2_follow 1 = .ok (.aload_n 0, 1) := by decide +kernel
theorem dX2_follow_2 : decode cX2_follow 2 = .ok (.getfield 12, 3) := by decide +kernel
theorem dX2_follow_5 : decode cX2_follow 5 = .ok (.iload_n 1, 1) := by decide +kernel
theorem dX2_follow_6 : decode cX2_follow 6 = .ok (.bipush 64, 2) := by decide +kernel
theorem dX2_follow_8 : decode cX2_follow 8 = .ok (.idiv, 1) := by decide +kernel
theorem dX2_follow_9 : decode cX2_follow 9 = .ok (.iload_n 2, 1) := by decide +kernel
theorem dX2_follow_10 : decode cX2_follow 10 = .ok (.invokevirtual 40, 3) := by decide +kernel
theorem dX2_follow_13 : decode cX2_follow 13 = .ok (.aload_n 0, 1) := by decide +kernel
theorem dX2_follow_14 : decode cX2_follow 14 = .ok (.getfield 25, 3) := by decide +kernel
theorem dX2_follow_17 : decode cX2_follow 17 = .ok (.iload_n 2, 1) := by decide +kernel
theorem dX2_follow_18 : decode cX2_follow 18 = .ok (.iload_n 1, 1) := by decide +kernel
theorem dX2_follow_19 : decode cX2_follow 19 = .ok (.bipush 64, 2) := by decide +kernel
theorem dX2_follow_21 : decode cX2_follow 21 = .ok (.irem, 1) := by decide +kernel
theorem dX2_follow_22 : decode cX2_follow 22 = .ok (.invokevirtual 43, 3) := by decide +kernel
theorem dX2_follow_25 : decode cX2_follow 25 = .ok (.invokevirtual 36, 3) := by decide +kernel
theorem dX2_follow_28 : decode cX2_follow 28 = .ok (.ireturn, 1) := by decide +kernel
theorem dX2_isAccepting_0 : decode cX2_isAccepting 0 = .ok (.iload_n 1, 1) := by decide +kernel
theorem dX2_isAccepting_1 : decode cX2_isAccepting 1 = .ok (.bipush 64, 2) := by decide +kernel
theorem dX2_isAccepting_3 : decode cX2_isAccepting 3 = .ok (.irem, 1) := by decide +kernel
theorem dX2_isAccepting_4 : decode cX2_isAccepting 4 = .ok (.aload_n 0, 1) := by decide +kernel
theorem dX2_isAccepting_5 : decode cX2_isAccepting 5 = .ok (.getfield 18, 3) := by decide +kernel
theorem dX2_isAccepting_8 : decode cX2_isAccepting 8 = .ok (.iand, 1) := by decide +kernel
theorem dX2_isAccepting_9 : decode cX2_isAccepting 9 = .ok (.ifCond .eq 7, 3) := by decide +kernel
theorem dX2_isAccepting_12 : decode cX2_isAccepting 12 = .ok (.iconst 1, 1) := by decide +kernel
theorem dX2_isAccepting_13 : decode cX2_isAccepting 13 = .ok (.goto 4, 3) := by decide +kernel
theorem dX2_isAccepting_16 : decode cX2_isAccepting 16 = .ok (.iconst 0, 1) := by decide +kernel
theorem dX2_isAccepting_17 : decode cX2_isAccepting 17 = .ok (.ireturn, 1) := by decide +kernel
theorem dX2_enter_0 : decode cX2_enter 0 = .ok (.iload_n 1, 1) := by decide +kernel
theorem dX2_enter_1 : decode cX2_enter 1 = .ok (.bipush 64, 2) := by decide +kernel
theorem dX2_enter_3 : decode cX2_enter 3 = .ok (.imul, 1) := by decide +kernel
theorem dX2_enter_4 : decode cX2_enter 4 = .ok (.aload_n 0, 1) := by decide +kernel
theorem dX2_enter_5 : decode cX2_enter 5 = .ok (.getfield 12, 3) := by decide +kernel
theorem dX2_enter_8 : decode cX2_enter 8 = .ok (.iload_n 1, 1) := by decide +kernel
theorem dX2_enter_9 : decode cX2_enter 9 = .ok (.invokevirtual 46, 3) := by decide +kernel
theorem dX2_enter_12 : decode cX2_enter 12 = .ok (.ifCond .eq 9, 3) := by decide +kernel
theorem dX2_enter_15 : decode cX2_enter 15 = .ok (.iload_n 2, 1) := by decide +kernel
theorem dX2_enter_16 : decode cX2_enter 16 = .ok (.iconst 1, 1) := by decide +kernel
theorem dX2_enter_17 : decode cX2_enter 17 = .ok (.ior, 1) := by decide +kernel
theorem dX2_enter_18 : decode cX2_enter 18 = .ok (.goto 4, 3) := by decide +kernel
theorem dX2_enter_21 : decode cX2_enter 21 = .ok (.iload_n 2, 1) := by decide +kernel
theorem dX2_enter_22 : decode cX2_enter 22 = .ok (.iadd, 1) := by decide +kernel
theorem dX2_enter_23 : decode cX2_enter 23 = .ok (.ireturn, 1) := by decide +kernel
theorem dX3_init_0 : decode cX3_init 0 = .ok (.aload_n 0, 1) := by decide +kernel
theorem dX3_init_1 : decode cX3_init 1 = .ok (.invokespecial 3, 3) := by decide +kernel
theorem dX3_init_4 : decode cX3_init 4 = .ok (.aload_n 0, 1) := by decide +kernel
theorem dX3_init_5 : decode cX3_init 5 = .ok (.iconst 0, 1) := by decide +kernel
theorem dX3_init_6 : decode cX3_init 6 = .ok (.putfield 9, 3) := by decide +kernel
theorem dX3_init_9 : decode cX3_init 9 = .ok (.aload_n 0, 1) := by decide +kernel
theorem dX3_init_10 : decode cX3_init 10 = .ok (.sipush 730, 3) := by decide +kernel
theorem dX3_init_13 : decode cX3_init 13 = .ok (.newarray .long, 2) := by decide +kernel
theorem dX3_init_15 : decode cX3_init 15 = .ok (.putfield 15, 3) := by decide +kernel
theorem dX3_init_18 : decode cX3_init 18 = .ok (.aload_n 0, 1) := by decide +kernel
theorem dX3_init_19 : decode cX3_init 19 = .ok (.sipush 1024, 3) := by decide +kernel
theorem dX3_init_22 : decode cX3_init 22 = .ok (.newarray .int, 2) := by decide +kernel
theorem dX3_init_24 : decode cX3_init 24 = .ok (.putfield 19, 3) := by decide +kernel
theorem dX3_init_27 : decode cX3_init 27 = .ok (.aload_n 0, 1) := by decide +kernel
theorem dX3_init_28 : decode cX3_init 28 = .ok (.bipush 15, 2) := by decide +kernel
theorem dX3_init_30 : decode cX3_init 30 = .ok (.putfield 23, 3) := by decide +kernel
theorem dX3_init_33 : decode cX3_init 33 = .ok (.return_, 1) := by decide +kernel
theorem dX3_begin_0 : decode cX3_begin 0 = .ok (.bipush 16, 2) := by decide +kernel
theorem dX3_begin_2 : decode cX3_begin 2 = .ok (.istore_n 2, 1) := by decide +kernel
theorem dX3_begin_3 : decode cX3_begin 3 = .ok (.iload_n 2, 1) := by decide +kernel
theorem dX3_begin_4 : decode cX3_begin 4 = .ok (.sipush 1024, 3) := by decide +kernel
theorem dX3_begin_7 : decode cX3_begin 7 = .ok (.if_icmp .ge 17, 3) := by decide +kernel
theorem dX3_begin_10 : decode cX3_begin 10 = .ok (.iload_n 2, 1) := by decide +kernel
theorem dX3_begin_11 : decode cX3_begin 11 = .ok (.iconst 2, 1) := by decide +kernel
theorem dX3_begin_12 : decode cX3_begin 12 = .ok (.iload_n 1, 1) := by decide +kernel
theorem dX3_begin_13 : decode cX3_begin 13 = .ok (.imul, 1) := by decide +kernel
theorem dX3_begin_14 : decode cX3_begin 14 = .ok (.if_icmp .ge 10, 3) := by decide +kernel
theorem dX3_begin_17 : decode cX3_begin 17 = .ok (.iconst 2, 1) := by decide +kernel
theorem dX3_begin_18 : decode cX3_begin 18 = .ok (.iload_n 2, 1) := by decide +kernel
theorem dX3_begin_19 : decode cX3_begin 19 = .ok (.imul, 1) := by decide +kernel
theorem dX3_begin_20 : decode cX3_begin 20 = .ok (.istore_n 2, 1) := by decide +kernel
theorem dX3_begin_21 : decode cX3_begin 21 = .ok (.goto (-18), 3) := by decide +kernel
theorem dX3_begin_24 : decode cX3_begin 24 = .ok (.iconst 0, 1) := by decide +kernel
theorem dX3_begin_25 : decode cX3_begin 25 = .ok (.istore_n 3, 1) := by decide +kernel
theorem dX3_begin_26 : decode cX3_begin 26 = .ok (.iload_n 3, 1) := by decide +kernel
theorem dX3_begin_27 : decode cX3_begin 27 = .ok (.iload_n 2, 1) := by decide +kernel
theorem dX3_begin_28 : decode cX3_begin 28 = .ok (.if_icmp .ge 16, 3) := by decide +kernel
theorem dX3_begin_31 : decode cX3_begin 31 = .ok (.aload_n 0, 1) := by decide +kernel
theorem dX3_begin_32 : decode cX3_begin 32 = .ok (.getfield 19, 3) := by decide +kernel
theorem dX3_begin_35 : decode cX3_begin 35 = .ok (.iload_n 3, 1) := by decide +kernel
theorem dX3_begin_36 : decode cX3_begin 36 = .ok (.iconst 0, 1) := by decide +kernel
theorem dX3_begin_37 : decode cX3_begin 37 = .ok (.iastore, 1) := by decide +kernel
theorem dX3_begin_38 : decode cX3_begin 38 = .ok (.iinc 3 1, 3) := by decide +kernel
theorem dX3_begin_41 : decode cX3_begin 41 = .ok (.goto (-15), 3) := by decide +kernel
theorem dX3_begin_44 : decode cX3_begin 44 = .ok (.aload_n 0, 1) := by decide +kernel
theorem dX3_begin_45 : decode cX3_begin 45 = .ok (.iload_n 2, 1) := by decide +kernel
theorem dX3_begin_46 : decode cX3_begin 46 = .ok (.iconst 1, 1) := by decide +kernel
theorem dX3_begin_47 : decode cX3_begin 47 = .ok (.isub, 1) := by decide +kernel
theorem dX3_begin_48 : decode cX3_begin 48 = .ok (.putfield 23, 3) := by decide +kernel
theorem dX3_begin_51 : decode cX3_begin 51 = .ok (.aload_n 0, 1) := by decide +kernel
theorem dX3_begin_52 : decode cX3_begin 52 = .ok (.iconst 0, 1) := by decide +kernel
theorem dX3_begin_53 : decode cX3_begin 53 = .ok (.putfield 9, 3) := by decide +kernel
theorem dX3_begin_56 : decode cX3_begin 56 = .ok (.return_, 1) := by decide +kernel
theorem dX3_place_0 : decode cX3_place 0 = .ok (.lload_n 1, 1) := by decide +kernel
theorem dX3_place_1 : decode cX3_place 1 = .ok (.ldc2_w 26, 3) := by decide +kernel
theorem dX3_place_4 : decode cX3_place 4 = .ok (.lmul, 1) := by decide +kernel
theorem dX3_place_5 : decode cX3_place 5 = .ok (.bipush 40, 2) := by decide +kernel
theorem dX3_place_7 : decode cX3_place 7 = .ok (.lushr, 1) := by decide +kernel
theorem dX3_place_8 : decode cX3_place 8 = .ok (.l2i, 1) := by decide +kernel
theorem dX3_place_9 : decode cX3_place 9 = .ok (.aload_n 0, 1) := by decide +kernel
theorem dX3_place_10 : decode cX3_place 10 = .ok (.getfield 23, 3) := by decide +kernel
theorem dX3_place_13 : decode cX3_place 13 = .ok (.iand, 1) := by decide +kernel
theorem dX3_place_14 : decode cX3_place 14 = .ok (.istore_n 3, 1) := by decide +kernel
theorem dX3_place_15 : decode cX3_place 15 = .ok (.iconst 0, 1) := by decide +kernel
theorem dX3_place_16 : decode cX3_place 16 = .ok (.istore 4, 2) := by decide +kernel
theorem dX3_place_18 : decode cX3_place 18 = .ok (.iload 4, 2) := by decide +kernel
theorem dX3_place_20 : decode cX3_place 20 = .ok (.aload_n 0, 1) := by decide +kernel
theorem dX3_place_21 : decode cX3_place 21 = .ok (.getfield 23, 3) := by decide +kernel
theorem dX3_place_24 : decode cX3_place 24 = .ok (.if_icmp .gt 57, 3) := by decide +kernel
theorem dX3_place_27 : decode cX3_place 27 = .ok (.aload_n 0, 1) := by decide +kernel
theorem dX3_place_28 : decode cX3_place 28 = .ok (.getfield 19, 3) := by decide +kernel
theorem dX3_place_31 : decode cX3_place 31 = .ok (.iload_n 3, 1) := by decide +kernel
theorem dX3_place_32 : decode cX3_place 32 = .ok (.iaload, 1) := by decide +kernel
theorem dX3_place_33 : decode cX3_place 33 = .ok (.istore 5, 2) := by decide +kernel
theorem dX3_place_35 : decode cX3_place 35 = .ok (.iload 5, 2) := by decide +kernel
theorem dX3_place_37 : decode cX3_place 37 = .ok (.ifCond .ne 10, 3) := by decide +kernel
theorem dX3_place_40 : decode cX3_place 40 = .ok (.aload_n 0, 1) := by decide +kernel
theorem dX3_place_41 : decode cX3_place 41 = .ok (.iload_n 3, 1) := by decide +kernel
theorem dX3_place_42 : decode cX3_place 42 = .ok (.lload_n 1, 1) := by decide +kernel
theorem dX3_place_43 : decode cX3_place 43 = .ok (.invokevirtual 28, 3) := by decide +kernel
theorem dX3_place_46 : decode cX3_place 46 = .ok (.ireturn, 1) := by decide +kernel
theorem dX3_place_47 : decode cX3_place 47 = .ok (.aload_n 0, 1) := by decide +kernel
theorem dX3_place_48 : decode cX3_place 48 = .ok (.getfield 15, 3) := by decide +kernel
theorem dX3_place_51 : decode cX3_place 51 = .ok (.iload 5, 2) := by decide +kernel
theorem dX3_place_53 : decode cX3_place 53 = .ok (.iconst 1, 1) := by decide +kernel
theorem dX3_place_54 : decode cX3_place 54 = .ok (.isub, 1) := by decide +kernel
theorem dX3_place_55 : decode cX3_place 55 = .ok (.laload, 1) := by decide +kernel
theorem dX3_place_56 : decode cX3_place 56 = .ok (.lload_n 1, 1) := by decide +kernel
theorem dX3_place_57 : decode cX3_place 57 = .ok (.lcmp, 1) := by decide +kernel
theorem dX3_place_58 : decode cX3_place 58 = .ok (.ifCond .ne 8, 3) := by decide +kernel
theorem dX3_place_61 : decode cX3_place 61 = .ok (.iload 5, 2) := by decide +kernel
theorem dX3_place_63 : decode cX3_place 63 = .ok (.iconst 1, 1) := by decide +kernel
theorem dX3_place_64 : decode cX3_place 64 = .ok (.isub, 1) := by decide +kernel
theorem dX3_place_65 : decode cX3_place 65 = .ok (.ireturn, 1) := by decide +kernel
theorem dX3_place_66 : decode cX3_place 66 = .ok (.iload_n 3, 1) := by decide +kernel
theorem dX3_place_67 : decode cX3_place 67 = .ok (.iconst 1, 1) := by decide +kernel
theorem dX3_place_68 : decode cX3_place 68 = .ok (.iadd, 1) := by decide +kernel
theorem dX3_place_69 : decode cX3_place 69 = .ok (.aload_n 0, 1) := by decide +kernel
theorem dX3_place_70 : decode cX3_place 70 = .ok (.getfield 23, 3) := by decide +kernel
theorem dX3_place_73 : decode cX3_place 73 = .ok (.iand, 1) := by decide +kernel
theorem dX3_place_74 : decode cX3_place 74 = .ok (.istore_n 3, 1) := by decide +kernel
theorem dX3_place_75 : decode cX3_place 75 = .ok (.iinc 4 1, 3) := by decide +kernel
theorem dX3_place_78 : decode cX3_place 78 = .ok (.goto (-60), 3) := by decide +kernel
theorem dX3_place_81 : decode cX3_place 81 = .ok (.iconst (-1), 1) := by decide +kernel
theorem dX3_place_82 : decode cX3_place 82 = .ok (.ireturn, 1) := by decide +kernel
theorem dX3_insert_0 : decode cX3_insert 0 = .ok (.aload_n 0, 1) := by decide +kernel
theorem dX3_insert_1 : decode cX3_insert 1 = .ok (.getfield 9, 3) := by decide +kernel
theorem dX3_insert_4 : decode cX3_insert 4 = .ok (.sipush 730, 3) := by decide +kernel
theorem dX3_insert_7 : decode cX3_insert 7 = .ok (.if_icmp .lt 5, 3) := by decide +kernel
theorem dX3_insert_10 : decode cX3_insert 10 = .ok (.iconst (-1), 1) := by decide +kernel
theorem dX3_insert_11 : decode cX3_insert 11 = .ok (.ireturn, 1) := by decide +kernel
theorem dX3_insert_12 : decode cX3_insert 12 = .ok (.aload_n 0, 1) := by decide +kernel
theorem dX3_insert_13 : decode cX3_insert 13 = .ok (.getfield 15, 3) := by decide +kernel
theorem dX3_insert_16 : decode cX3_insert 16 = .ok (.aload_n 0, 1) := by decide +kernel
theorem dX3_insert_17 : decode cX3_insert 17 = .ok (.getfield 9, 3) := by decide +kernel
theorem dX3_insert_20 : decode cX3_insert 20 = .ok (.lload_n 2, 1) := by decide +kernel
theorem dX3_insert_21 : decode cX3_insert 21 = .ok (.lastore, 1) := by decide +kernel
theorem dX3_insert_22 : decode cX3_insert 22 = .ok (.aload_n 0, 1) := by decide +kernel
theorem dX3_insert_23 : decode cX3_insert 23 = .ok (.dup, 1) := by decide +kernel
theorem dX3_insert_24 : decode cX3_insert 24 = .ok (.getfield 9, 3) := by decide +kernel
theorem dX3_insert_27 : decode cX3_insert 27 = .ok (.iconst 1, 1) := by decide +kernel
theorem dX3_insert_28 : decode cX3_insert 28 = .ok (.iadd, 1) := by decide +kernel
theorem dX3_insert_29 : decode cX3_insert 29 = .ok (.putfield 9, 3) := by decide +kernel
theorem dX3_insert_32 : decode cX3_insert 32 = .ok (.aload_n 0, 1) := by decide +kernel
theorem dX3_insert_33 : decode cX3_insert 33 = .ok (.getfield 19, 3) := by decide +kernel
theorem dX3_insert_36 : decode cX3_insert 36 = .ok (.iload_n 1, 1) := by decide +kernel
theorem dX3_insert_37 : decode cX3_insert 37 = .ok (.aload_n 0, 1) := by decide +kernel
theorem dX3_insert_38 : decode cX3_insert 38 = .ok (.getfield 9, 3) := by decide +kernel
theorem dX3_insert_41 : decode cX3_insert 41 = .ok (.iastore, 1) := by decide +kernel
theorem dX3_insert_42 : decode cX3_insert 42 = .ok (.aload_n 0, 1) := by decide +kernel
theorem dX3_insert_43 : decode cX3_insert 43 = .ok (.getfield 9, 3) := by decide +kernel
theorem dX3_insert_46 : decode cX3_insert 46 = .ok (.iconst 1, 1) := by decide +kernel
theorem dX3_insert_47 : decode cX3_insert 47 = .ok (.isub, 1) := by decide +kernel
theorem dX3_insert_48 : decode cX3_insert 48 = .ok (.ireturn, 1) := by decide +kernel
theorem dX4_init_0 : decode cX4_init 0 = .ok (.aload_n 0, 1) := by decide +kernel
theorem dX4_init_1 : decode cX4_init 1 = .ok (.invokespecial 1, 3) := by decide +kernel
theorem dX4_init_4 : decode cX4_init 4 = .ok (.return_, 1) := by decide +kernel
theorem dX5_init_0 : decode cX5_init 0 = .ok (.aload_n 0, 1) := by decide +kernel
theorem dX5_init_1 : decode cX5_init 1 = .ok (.invokespecial 3, 3) := by decide +kernel
theorem dX5_init_4 : decode cX5_init 4 = .ok (.aload_n 0, 1) := by decide +kernel
theorem dX5_init_5 : decode cX5_init 5 = .ok (.iconst 0, 1) := by decide +kernel
theorem dX5_init_6 : decode cX5_init 6 = .ok (.putfield 9, 3) := by decide +kernel
theorem dX5_init_9 : decode cX5_init 9 = .ok (.aload_n 0, 1) := by decide +kernel
theorem dX5_init_10 : decode cX5_init 10 = .ok (.sipush 384, 3) := by decide +kernel
theorem dX5_init_13 : decode cX5_init 13 = .ok (.newarray .int, 2) := by decide +kernel
theorem dX5_init_15 : decode cX5_init 15 = .ok (.putfield 15, 3) := by decide +kernel
theorem dX5_init_18 : decode cX5_init 18 = .ok (.aload_n 0, 1) := by decide +kernel
theorem dX5_init_19 : decode cX5_init 19 = .ok (.sipush 384, 3) := by decide +kernel
theorem dX5_init_22 : decode cX5_init 22 = .ok (.newarray .int, 2) := by decide +kernel
theorem dX5_init_24 : decode cX5_init 24 = .ok (.putfield 19, 3) := by decide +kernel
theorem dX5_init_27 : decode cX5_init 27 = .ok (.aload_n 0, 1) := by decide +kernel
theorem dX5_init_28 : decode cX5_init 28 = .ok (.sipush 1152, 3) := by decide +kernel
theorem dX5_init_31 : decode cX5_init 31 = .ok (.newarray .int, 2) := by decide +kernel
theorem dX5_init_33 : decode cX5_init 33 = .ok (.putfield 22, 3) := by decide +kernel
theorem dX5_init_36 : decode cX5_init 36 = .ok (.aload_n 0, 1) := by decide +kernel
theorem dX5_init_37 : decode cX5_init 37 = .ok (.sipush 384, 3) := by decide +kernel
theorem dX5_init_40 : decode cX5_init 40 = .ok (.newarray .int, 2) := by decide +kernel
theorem dX5_init_42 : decode cX5_init 42 = .ok (.putfield 25, 3) := by decide +kernel
theorem dX5_init_45 : decode cX5_init 45 = .ok (.aload_n 0, 1) := by decide +kernel
theorem dX5_init_46 : decode cX5_init 46 = .ok (.sipush 384, 3) := by decide +kernel
theorem dX5_init_49 : decode cX5_init 49 = .ok (.newarray .boolean, 2) := by decide +kernel
theorem dX5_init_51 : decode cX5_init 51 = .ok (.putfield 28, 3) := by decide +kernel
theorem dX5_init_54 : decode cX5_init 54 = .ok (.aload_n 0, 1) := by decide +kernel
theorem dX5_init_55 : decode cX5_init 55 = .ok (.iconst 0, 1) := by decide +kernel
theorem dX5_init_56 : decode cX5_init 56 = .ok (.putfield 32, 3) := by decide +kernel
theorem dX5_init_59 : decode cX5_init 59 = .ok (.aload_n 0, 1) := by decide +kernel
theorem dX5_init_60 : decode cX5_init 60 = .ok (.sipush 384, 3) := by decide +kernel
theorem dX5_init_63 : decode cX5_init 63 = .ok (.newarray .int, 2) := by decide +kernel
theorem dX5_init_65 : decode cX5_init 65 = .ok (.putfield 35, 3) := by decide +kernel
theorem dX5_init_68 : decode cX5_init 68 = .ok (.aload_n 0, 1) := by decide +kernel
theorem dX5_init_69 : decode cX5_init 69 = .ok (.sipush 384, 3) := by decide +kernel
theorem dX5_init_72 : decode cX5_init 72 = .ok (.newarray .int, 2) := by decide +kernel
theorem dX5_init_74 : decode cX5_init 74 = .ok (.putfield 38, 3) := by decide +kernel
theorem dX5_init_77 : decode cX5_init 77 = .ok (.aload_n 0, 1) := by decide +kernel
theorem dX5_init_78 : decode cX5_init 78 = .ok (.aload_n 1, 1) := by decide +kernel
theorem dX5_init_79 : decode cX5_init 79 = .ok (.putfield 41, 3) := by decide +kernel
theorem dX5_init_82 : decode cX5_init 82 = .ok (.return_, 1) := by decide +kernel
theorem dX5_run_0 : decode cX5_run 0 = .ok (.aload_n 0, 1) := by decide +kernel
theorem dX5_run_1 : decode cX5_run 1 = .ok (.aload_n 1, 1) := by decide +kernel
theorem dX5_run_2 : decode cX5_run 2 = .ok (.invokevirtual 45, 3) := by decide +kernel
theorem dX5_run_5 : decode cX5_run 5 = .ok (.aload_n 0, 1) := by decide +kernel
theorem dX5_run_6 : decode cX5_run 6 = .ok (.invokevirtual 49, 3) := by decide +kernel
theorem dX5_run_9 : decode cX5_run 9 = .ok (.iconst 1, 1) := by decide +kernel
theorem dX5_run_10 : decode cX5_run 10 = .ok (.istore_n 2, 1) := by decide +kernel
theorem dX5_run_11 : decode cX5_run 11 = .ok (.iconst 0, 1) := by decide +kernel
theorem dX5_run_12 : decode cX5_run 12 = .ok (.istore_n 3, 1) := by decide +kernel
theorem dX5_run_13 : decode cX5_run 13 = .ok (.iload_n 3, 1) := by decide +kernel
theorem dX5_run_14 : decode cX5_run 14 = .ok (.sipush 384, 3) := by decide +kernel
theorem dX5_run_17 : decode cX5_run 17 = .ok (.if_icmp .ge 29, 3) := by decide +kernel
theorem dX5_run_20 : decode cX5_run 20 = .ok (.iload_n 2, 1) := by decide +kernel
theorem dX5_run_21 : decode cX5_run 21 = .ok (.ifCond .eq 25, 3) := by decide +kernel
theorem dX5_run_24 : decode cX5_run 24 = .ok (.aload_n 0, 1) := by decide +kernel
theorem dX5_run_25 : decode cX5_run 25 = .ok (.getfield 32, 3) := by decide +kernel
theorem dX5_run_28 : decode cX5_run 28 = .ok (.aload_n 0, 1) := by decide +kernel
theorem dX5_run_29 : decode cX5_run 29 = .ok (.getfield 9, 3) := by decide +kernel
theorem dX5_run_32 : decode cX5_run 32 = .ok (.if_icmp .ge 14, 3) := by decide +kernel
theorem dX5_run_35 : decode cX5_run 35 = .ok (.aload_n 0, 1) := by decide +kernel
theorem dX5_run_36 : decode cX5_run 36 = .ok (.invokevirtual 52, 3) := by decide +kernel
theorem dX5_run_39 : decode cX5_run 39 = .ok (.istore_n 2, 1) := by decide +kernel
theorem dX5_run_40 : decode cX5_run 40 = .ok (.iinc 3 1, 3) := by decide +kernel
theorem dX5_run_43 : decode cX5_run 43 = .ok (.goto (-30), 3) := by decide +kernel
theorem dX5_run_46 : decode cX5_run 46 = .ok (.aload_n 0, 1) := by decide +kernel
theorem dX5_run_47 : decode cX5_run 47 = .ok (.getfield 32, 3) := by decide +kernel
theorem dX5_run_50 : decode cX5_run 50 = .ok (.ireturn, 1) := by decide +kernel
theorem dX5_explore_0 : decode cX5_explore 0 = .ok (.aload_n 1, 1) := by decide +kernel
theorem dX5_explore_1 : decode cX5_explore 1 = .ok (.invokevirtual 56, 3) := by decide +kernel
theorem dX5_explore_4 : decode cX5_explore 4 = .ok (.istore_n 2, 1) := by decide +kernel
theorem dX5_explore_5 : decode cX5_explore 5 = .ok (.iconst 0, 1) := by decide +kernel
theorem dX5_explore_6 : decode cX5_explore 6 = .ok (.istore_n 3, 1) := by decide +kernel
theorem dX5_explore_7 : decode cX5_explore 7 = .ok (.iload_n 3, 1) := by decide +kernel
theorem dX5_explore_8 : decode cX5_explore 8 = .ok (.iload_n 2, 1) := by decide +kernel
theorem dX5_explore_9 : decode cX5_explore 9 = .ok (.if_icmp .ge 16, 3) := by decide +kernel
theorem dX5_explore_12 : decode cX5_explore 12 = .ok (.aload_n 0, 1) := by decide +kernel
theorem dX5_explore_13 : decode cX5_explore 13 = .ok (.getfield 19, 3) := by decide +kernel
theorem dX5_explore_16 : decode cX5_explore 16 = .ok (.iload_n 3, 1) := by decide +kernel
theorem dX5_explore_17 : decode cX5_explore 17 = .ok (.iconst (-1), 1) := by decide +kernel
theorem dX5_explore_18 : decode cX5_explore 18 = .ok (.iastore, 1) := by decide +kernel
theorem dX5_explore_19 : decode cX5_explore 19 = .ok (.iinc 3 1, 3) := by decide +kernel
theorem dX5_explore_22 : decode cX5_explore 22 = .ok (.goto (-15), 3) := by decide +kernel
theorem dX5_explore_25 : decode cX5_explore 25 = .ok (.aload_n 0, 1) := by decide +kernel
theorem dX5_explore_26 : decode cX5_explore 26 = .ok (.iconst 0, 1) := by decide +kernel
theorem dX5_explore_27 : decode cX5_explore 27 = .ok (.putfield 9, 3) := by decide +kernel
theorem dX5_explore_30 : decode cX5_explore 30 = .ok (.aload_n 0, 1) := by decide +kernel
theorem dX5_explore_31 : decode cX5_explore 31 = .ok (.aload_n 1, 1) := by decide +kernel
theorem dX5_explore_32 : decode cX5_explore 32 = .ok (.invokevirtual 62, 3) := by decide +kernel
theorem dX5_explore_35 : decode cX5_explore 35 = .ok (.iconst 0, 1) := by decide +kernel
theorem dX5_explore_36 : decode cX5_explore 36 = .ok (.invokevirtual 65, 3) := by decide +kernel
theorem dX5_explore_39 : decode cX5_explore 39 = .ok (.pop, 1) := by decide +kernel
theorem dX5_explore_40 : decode cX5_explore 40 = .ok (.iconst 0, 1) := by decide +kernel
theorem dX5_explore_41 : decode cX5_explore 41 = .ok (.istore_n 3, 1) := by decide +kernel
theorem dX5_explore_42 : decode cX5_explore 42 = .ok (.iload_n 3, 1) := by decide +kernel
theorem dX5_explore_43 : decode cX5_explore 43 = .ok (.aload_n 0, 1) := by decide +kernel
theorem dX5_explore_44 : decode cX5_explore 44 = .ok (.getfield 9, 3) := by decide +kernel
theorem dX5_explore_47 : decode cX5_explore 47 = .ok (.if_icmp .ge 80, 3) := by decide +kernel
theorem dX5_explore_50 : decode cX5_explore 50 = .ok (.iload_n 3, 1) := by decide +kernel
theorem dX5_explore_51 : decode cX5_explore 51 = .ok (.sipush 384, 3) := by decide +kernel
theorem dX5_explore_54 : decode cX5_explore 54 = .ok (.if_icmp .ge 73, 3) := by decide +kernel
theorem dX5_explore_57 : decode cX5_explore 57 = .ok (.aload_n 0, 1) := by decide +kernel
theorem dX5_explore_58 : decode cX5_explore 58 = .ok (.getfield 28, 3) := by decide +kernel
theorem dX5_explore_61 : decode cX5_explore 61 = .ok (.iload_n 3, 1) := by decide +kernel
theorem dX5_explore_62 : decode cX5_explore 62 = .ok (.aload_n 1, 1) := by decide +kernel
theorem dX5_explore_63 : decode cX5_explore 63 = .ok (.aload_n 0, 1) := by decide +kernel
theorem dX5_explore_64 : decode cX5_explore 64 = .ok (.getfield 15, 3) := by decide +kernel
theorem dX5_explore_67 : decode cX5_explore 67 = .ok (.iload_n 3, 1) := by decide +kernel
theorem dX5_explore_68 : decode cX5_explore 68 = .ok (.iaload, 1) := by decide +kernel
theorem dX5_explore_69 : decode cX5_explore 69 = .ok (.invokevirtual 69, 3) := by decide +kernel
theorem dX5_explore_72 : decode cX5_explore 72 = .ok (.bastore, 1) := by decide +kernel
theorem dX5_explore_73 : decode cX5_explore 73 = .ok (.iconst 0, 1) := by decide +kernel
theorem dX5_explore_74 : decode cX5_explore 74 = .ok (.istore 4, 2) := by decide +kernel
theorem dX5_explore_76 : decode cX5_explore 76 = .ok (.iload 4, 2) := by decide +kernel
theorem dX5_explore_78 : decode cX5_explore 78 = .ok (.iconst 3, 1) := by decide +kernel
theorem dX5_explore_79 : decode cX5_explore 79 = .ok (.if_icmp .ge 42, 3) := by decide +kernel
theorem dX5_explore_82 : decode cX5_explore 82 = .ok (.iload_n 3, 1) := by decide +kernel
theorem dX5_explore_83 : decode cX5_explore 83 = .ok (.iconst 3, 1) := by decide +kernel
theorem dX5_explore_84 : decode cX5_explore 84 = .ok (.imul, 1) := by decide +kernel
theorem dX5_explore_85 : decode cX5_explore 85 = .ok (.iload 4, 2) := by decide +kernel
theorem dX5_explore_87 : decode cX5_explore 87 = .ok (.iadd, 1) := by decide +kernel
theorem dX5_explore_88 : decode cX5_explore 88 = .ok (.istore 5, 2) := by decide +kernel
theorem dX5_explore_90 : decode cX5_explore 90 = .ok (.aload_n 0, 1) := by decide +kernel
theorem dX5_explore_91 : decode cX5_explore 91 = .ok (.getfield 22, 3) := by decide +kernel
theorem dX5_explore_94 : decode cX5_explore 94 = .ok (.iload 5, 2) := by decide +kernel
theorem dX5_explore_96 : decode cX5_explore 96 = .ok (.aload_n 0, 1) := by decide +kernel
theorem dX5_explore_97 : decode cX5_explore 97 = .ok (.aload_n 1, 1) := by decide +kernel
theorem dX5_explore_98 : decode cX5_explore 98 = .ok (.aload_n 0, 1) := by decide +kernel
theorem dX5_explore_99 : decode cX5_explore 99 = .ok (.getfield 15, 3) := by decide +kernel
theorem dX5_explore_102 : decode cX5_explore 102 = .ok (.iload_n 3, 1) := by decide +kernel
theorem dX5_explore_103 : decode cX5_explore 103 = .ok (.iaload, 1) := by decide +kernel
theorem dX5_explore_104 : decode cX5_explore 104 = .ok (.iload 4, 2) := by decide +kernel
theorem dX5_explore_106 : decode cX5_explore 106 = .ok (.invokevirtual 73, 3) := by decide +kernel
theorem dX5_explore_109 : decode cX5_explore 109 = .ok (.iload 5, 2) := by decide +kernel
theorem dX5_explore_111 : decode cX5_explore 111 = .ok (.invokevirtual 65, 3) := by decide +kernel
theorem dX5_explore_114 : decode cX5_explore 114 = .ok (.iastore, 1) := by decide +kernel
theorem dX5_explore_115 : decode cX5_explore 115 = .ok (.iinc 4 1, 3) := by decide +kernel
theorem dX5_explore_118 : decode cX5_explore 118 = .ok (.goto (-42), 3) := by decide +kernel
theorem dX5_explore_121 : decode cX5_explore 121 = .ok (.iinc 3 1, 3) := by decide +kernel
theorem dX5_explore_124 : decode cX5_explore 124 = .ok (.goto (-82), 3) := by decide +kernel
theorem dX5_explore_127 : decode cX5_explore 127 = .ok (.return_, 1) := by decide +kernel
theorem dX5_numberOf_0 : decode cX5_numberOf 0 = .ok (.aload_n 0, 1) := by decide +kernel
theorem dX5_numberOf_1 : decode cX5_numberOf 1 = .ok (.getfield 19, 3) := by decide +kernel
theorem dX5_numberOf_4 : decode cX5_numberOf 4 = .ok (.iload_n 1, 1) := by decide +kernel
theorem dX5_numberOf_5 : decode cX5_numberOf 5 = .ok (.iaload, 1) := by decide +kernel
theorem dX5_numberOf_6 : decode cX5_numberOf 6 = .ok (.iconst (-1), 1) := by decide +kernel
theorem dX5_numberOf_7 : decode cX5_numberOf 7 = .ok (.if_icmp .ne 43, 3) := by decide +kernel
theorem dX5_numberOf_10 : decode cX5_numberOf 10 = .ok (.aload_n 0, 1) := by decide +kernel
theorem dX5_numberOf_11 : decode cX5_numberOf 11 = .ok (.getfield 19, 3) := by decide +kernel
theorem dX5_numberOf_14 : decode cX5_numberOf 14 = .ok (.iload_n 1, 1) := by decide +kernel
theorem dX5_numberOf_15 : decode cX5_numberOf 15 = .ok (.aload_n 0, 1) := by decide +kernel
theorem dX5_numberOf_16 : decode cX5_numberOf 16 = .ok (.getfield 9, 3) := by decide +kernel
theorem dX5_numberOf_19 : decode cX5_numberOf 19 = .ok (.iastore, 1) := by decide +kernel
theorem dX5_numberOf_20 : decode cX5_numberOf 20 = .ok (.aload_n 0, 1) := by decide +kernel
theorem dX5_numberOf_21 : decode cX5_numberOf 21 = .ok (.getfield 15, 3) := by decide +kernel
theorem dX5_numberOf_24 : decode cX5_numberOf 24 = .ok (.aload_n 0, 1) := by decide +kernel
theorem dX5_numberOf_25 : decode cX5_numberOf 25 = .ok (.getfield 9, 3) := by decide +kernel
theorem dX5_numberOf_28 : decode cX5_numberOf 28 = .ok (.iload_n 1, 1) := by decide +kernel
theorem dX5_numberOf_29 : decode cX5_numberOf 29 = .ok (.iastore, 1) := by decide +kernel
theorem dX5_numberOf_30 : decode cX5_numberOf 30 = .ok (.aload_n 0, 1) := by decide +kernel
theorem dX5_numberOf_31 : decode cX5_numberOf 31 = .ok (.getfield 25, 3) := by decide +kernel
theorem dX5_numberOf_34 : decode cX5_numberOf 34 = .ok (.aload_n 0, 1) := by decide +kernel
theorem dX5_numberOf_35 : decode cX5_numberOf 35 = .ok (.getfield 9, 3) := by decide +kernel
theorem dX5_numberOf_38 : decode cX5_numberOf 38 = .ok (.iload_n 2, 1) := by decide +kernel
theorem dX5_numberOf_39 : decode cX5_numberOf 39 = .ok (.iastore, 1) := by decide +kernel
theorem dX5_numberOf_40 : decode cX5_numberOf 40 = .ok (.aload_n 0, 1) := by decide +kernel
theorem dX5_numberOf_41 : decode cX5_numberOf 41 = .ok (.dup, 1) := by decide +kernel
theorem dX5_numberOf_42 : decode cX5_numberOf 42 = .ok (.getfield 9, 3) := by decide +kernel
theorem dX5_numberOf_45 : decode cX5_numberOf 45 = .ok (.iconst 1, 1) := by decide +kernel
theorem dX5_numberOf_46 : decode cX5_numberOf 46 = .ok (.iadd, 1) := by decide +kernel
theorem dX5_numberOf_47 : decode cX5_numberOf 47 = .ok (.putfield 9, 3) := by decide +kernel
theorem dX5_numberOf_50 : decode cX5_numberOf 50 = .ok (.aload_n 0, 1) := by decide +kernel
theorem dX5_numberOf_51 : decode cX5_numberOf 51 = .ok (.getfield 19, 3) := by decide +kernel
theorem dX5_numberOf_54 : decode cX5_numberOf 54 = .ok (.iload_n 1, 1) := by decide +kernel
theorem dX5_numberOf_55 : decode cX5_numberOf 55 = .ok (.iaload, 1) := by decide +kernel
theorem dX5_numberOf_56 : decode cX5_numberOf 56 = .ok (.ireturn, 1) := by decide +kernel
theorem dX5_splitByAcceptance_0 : decode cX5_splitByAcceptance 0 = .ok (.aload_n 0, 1) := by decide +kernel
theorem dX5_splitByAcceptance_1 : decode cX5_splitByAcceptance 1 = .ok (.iconst 1, 1) := by decide +kernel
theorem dX5_splitByAcceptance_2 : decode cX5_splitByAcceptance 2 = .ok (.putfield 32, 3) := by decide +kernel
theorem dX5_splitByAcceptance_5 : decode cX5_splitByAcceptance 5 = .ok (.iconst 0, 1) := by decide +kernel
theorem dX5_splitByAcceptance_6 : decode cX5_splitByAcceptance 6 = .ok (.istore_n 1, 1) := by decide +kernel
theorem dX5_splitByAcceptance_7 : decode cX5_splitByAcceptance 7 = .ok (.iload_n 1, 1) := by decide +kernel
theorem dX5_splitByAcceptance_8 : decode cX5_splitByAcceptance 8 = .ok (.aload_n 0, 1) := by decide +kernel
theorem dX5_splitByAcceptance_9 : decode cX5_splitByAcceptance 9 = .ok (.getfield 9, 3) := by decide +kernel
theorem dX5_splitByAcceptance_12 : decode cX5_splitByAcceptance 12 = .ok (.if_icmp .ge 61, 3) := by decide +kernel
theorem dX5_splitByAcceptance_15 : decode cX5_splitByAcceptance 15 = .ok (.aload_n 0, 1) := by decide +kernel
theorem dX5_splitByAcceptance_16 : decode cX5_splitByAcceptance 16 = .ok (.getfield 28, 3) := by decide +kernel
theorem dX5_splitByAcceptance_19 : decode cX5_splitByAcceptance 19 = .ok (.iload_n 1, 1) := by decide +kernel
theorem dX5_splitByAcceptance_20 : decode cX5_splitByAcceptance 20 = .ok (.baload, 1) := by decide +kernel
theorem dX5_splitByAcceptance_21 : decode cX5_splitByAcceptance 21 = .ok (.aload_n 0, 1) := by decide +kernel
theorem dX5_splitByAcceptance_22 : decode cX5_splitByAcceptance 22 = .ok (.getfield 28, 3) := by decide +kernel
theorem dX5_splitByAcceptance_25 : decode cX5_splitByAcceptance 25 = .ok (.iconst 0, 1) := by decide +kernel
theorem dX5_splitByAcceptance_26 : decode cX5_splitByAcceptance 26 = .ok (.baload, 1) := by decide +kernel
theorem dX5_splitByAcceptance_27 : decode cX5_splitByAcceptance 27 = .ok (.if_icmp .eq 7, 3) := by decide +kernel
theorem dX5_splitByAcceptance_30 : decode cX5_splitByAcceptance 30 = .ok (.iconst 1, 1) := by decide +kernel
theorem dX5_splitByAcceptance_31 : decode cX5_splitByAcceptance 31 = .ok (.goto 4, 3) := by decide +kernel
theorem dX5_splitByAcceptance_34 : decode cX5_splitByAcceptance 34 = .ok (.iconst 0, 1) := by decide +kernel
theorem dX5_splitByAcceptance_35 : decode cX5_splitByAcceptance 35 = .ok (.istore_n 2, 1) := by decide +kernel
theorem dX5_splitByAcceptance_36 : decode cX5_splitByAcceptance 36 = .ok (.aload_n 0, 1) := by decide +kernel
theorem dX5_splitByAcceptance_37 : decode cX5_splitByAcceptance 37 = .ok (.getfield 35, 3) := by decide +kernel
theorem dX5_splitByAcceptance_40 : decode cX5_splitByAcceptance 40 = .ok (.iload_n 1, 1) := by decide +kernel
theorem dX5_splitByAcceptance_41 : decode cX5_splitByAcceptance 41 = .ok (.iload_n 2, 1) := by decide +kernel
theorem dX5_splitByAcceptance_42 : decode cX5_splitByAcceptance 42 = .ok (.ifCond .eq 7, 3) := by decide +kernel
theorem dX5_splitByAcceptance_45 : decode cX5_splitByAcceptance 45 = .ok (.iconst 1, 1) := by decide +kernel
theorem dX5_splitByAcceptance_46 : decode cX5_splitByAcceptance 46 = .ok (.goto 4, 3) := by decide +kernel
theorem dX5_splitByAcceptance_49 : decode cX5_splitByAcceptance 49 = .ok (.iconst 0, 1) := by decide +kernel
theorem dX5_splitByAcceptance_50 : decode cX5_splitByAcceptance 50 = .ok (.iastore, 1) := by decide +kernel
theorem dX5_splitByAcceptance_51 : decode cX5_splitByAcceptance 51 = .ok (.aload_n 0, 1) := by decide +kernel
theorem dX5_splitByAcceptance_52 : decode cX5_splitByAcceptance 52 = .ok (.iload_n 2, 1) := by decide +kernel
theorem dX5_splitByAcceptance_53 : decode cX5_splitByAcceptance 53 = .ok (.ifCond .eq 7, 3) := by decide +kernel
theorem dX5_splitByAcceptance_56 : decode cX5_splitByAcceptance 56 = .ok (.iconst 2, 1) := by decide +kernel
theorem dX5_splitByAcceptance_57 : decode cX5_splitByAcceptance 57 = .ok (.goto 7, 3) := by decide +kernel
theorem dX5_splitByAcceptance_60 : decode cX5_splitByAcceptance 60 = .ok (.aload_n 0, 1) := by decide +kernel
theorem dX5_splitByAcceptance_61 : decode cX5_splitByAcceptance 61 = .ok (.getfield 32, 3) := by decide +kernel
theorem dX5_splitByAcceptance_64 : decode cX5_splitByAcceptance 64 = .ok (.putfield 32, 3) := by decide +kernel
theorem dX5_splitByAcceptance_67 : decode cX5_splitByAcceptance 67 = .ok (.iinc 1 1, 3) := by decide +kernel
theorem dX5_splitByAcceptance_70 : decode cX5_splitByAcceptance 70 = .ok (.goto (-63), 3) := by decide +kernel
theorem dX5_splitByAcceptance_73 : decode cX5_splitByAcceptance 73 = .ok (.return_, 1) := by decide +kernel
theorem dX5_splitByTargets_0 : decode cX5_splitByTargets 0 = .ok (.aload_n 0, 1) := by decide +kernel
theorem dX5_splitByTargets_1 : decode cX5_splitByTargets 1 = .ok (.getfield 41, 3) := by decide +kernel
theorem dX5_splitByTargets_4 : decode cX5_splitByTargets 4 = .ok (.aload_n 0, 1) := by decide +kernel
theorem dX5_splitByTargets_5 : decode cX5_splitByTargets 5 = .ok (.getfield 9, 3) := by decide +kernel
theorem dX5_splitByTargets_8 : decode cX5_splitByTargets 8 = .ok (.invokevirtual 76, 3) := by decide +kernel
theorem dX5_splitByTargets_11 : decode cX5_splitByTargets 11 = .ok (.iconst 0, 1) := by decide +kernel
theorem dX5_splitByTargets_12 : decode cX5_splitByTargets 12 = .ok (.istore_n 1, 1) := by decide +kernel
theorem dX5_splitByTargets_13 : decode cX5_splitByTargets 13 = .ok (.iload_n 1, 1) := by decide +kernel
theorem dX5_splitByTargets_14 : decode cX5_splitByTargets 14 = .ok (.aload_n 0, 1) := by decide +kernel
theorem dX5_splitByTargets_15 : decode cX5_splitByTargets 15 = .ok (.getfield 9, 3) := by decide +kernel
theorem dX5_splitByTargets_18 : decode cX5_splitByTargets 18 = .ok (.if_icmp .ge 70, 3) := by decide +kernel
theorem dX5_splitByTargets_21 : decode cX5_splitByTargets 21 = .ok (.aload_n 0, 1) := by decide +kernel
theorem dX5_splitByTargets_22 : decode cX5_splitByTargets 22 = .ok (.getfield 35, 3) := by decide +kernel
theorem dX5_splitByTargets_25 : decode cX5_splitByTargets 25 = .ok (.iload_n 1, 1) := by decide +kernel
theorem dX5_splitByTargets_26 : decode cX5_splitByTargets 26 = .ok (.iaload, 1) := by decide +kernel
theorem dX5_splitByTargets_27 : decode cX5_splitByTargets 27 = .ok (.i2l, 1) := by decide +kernel
theorem dX5_splitByTargets_28 : decode cX5_splitByTargets 28 = .ok (.lstore_n 2, 1) := by decide +kernel
theorem dX5_splitByTargets_29 : decode cX5_splitByTargets 29 = .ok (.iconst 0, 1) := by decide +kernel
theorem dX5_splitByTargets_30 : decode cX5_splitByTargets 30 = .ok (.istore 4, 2) := by decide +kernel
theorem dX5_splitByTargets_32 : decode cX5_splitByTargets 32 = .ok (.iload 4, 2) := by decide +kernel
theorem dX5_splitByTargets_34 : decode cX5_splitByTargets 34 = .ok (.iconst 3, 1) := by decide +kernel
theorem dX5_splitByTargets_35 : decode cX5_splitByTargets 35 = .ok (.if_icmp .ge 33, 3) := by decide +kernel
theorem dX5_splitByTargets_38 : decode cX5_splitByTargets 38 = .ok (.lload_n 2, 1) := by decide +kernel
theorem dX5_splitByTargets_39 : decode cX5_splitByTargets 39 = .ok (.ldc2_w 82, 3) := by decide +kernel
theorem dX5_splitByTargets_42 : decode cX5_splitByTargets 42 = .ok (.lmul, 1) := by decide +kernel
theorem dX5_splitByTargets_43 : decode cX5_splitByTargets 43 = .ok (.aload_n 0, 1) := by decide +kernel
theorem dX5_splitByTargets_44 : decode cX5_splitByTargets 44 = .ok (.getfield 35, 3) := by decide +kernel
theorem dX5_splitByTargets_47 : decode cX5_splitByTargets 47 = .ok (.aload_n 0, 1) := by decide +kernel
theorem dX5_splitByTargets_48 : decode cX5_splitByTargets 48 = .ok (.getfield 22, 3) := by decide +kernel
theorem dX5_splitByTargets_51 : decode cX5_splitByTargets 51 = .ok (.iload_n 1, 1) := by decide +kernel
theorem dX5_splitByTargets_52 : decode cX5_splitByTargets 52 = .ok (.iconst 3, 1) := by decide +kernel
theorem dX5_splitByTargets_53 : decode cX5_splitByTargets 53 = .ok (.imul, 1) := by decide +kernel
theorem dX5_splitByTargets_54 : decode cX5_splitByTargets 54 = .ok (.iload 4, 2) := by decide +kernel
theorem dX5_splitByTargets_56 : decode cX5_splitByTargets 56 = .ok (.iadd, 1) := by decide +kernel
theorem dX5_splitByTargets_57 : decode cX5_splitByTargets 57 = .ok (.iaload, 1) := by decide +kernel
theorem dX5_splitByTargets_58 : decode cX5_splitByTargets 58 = .ok (.iaload, 1) := by decide +kernel
theorem dX5_splitByTargets_59 : decode cX5_splitByTargets 59 = .ok (.i2l, 1) := by decide +kernel
theorem dX5_splitByTargets_60 : decode cX5_splitByTargets 60 = .ok (.ladd, 1) := by decide +kernel
theorem dX5_splitByTargets_61 : decode cX5_splitByTargets 61 = .ok (.lstore_n 2, 1) := by decide +kernel
theorem dX5_splitByTargets_62 : decode cX5_splitByTargets 62 = .ok (.iinc 4 1, 3) := by decide +kernel
theorem dX5_splitByTargets_65 : decode cX5_splitByTargets 65 = .ok (.goto (-33), 3) := by decide +kernel
theorem dX5_splitByTargets_68 : decode cX5_splitByTargets 68 = .ok (.aload_n 0, 1) := by decide +kernel
theorem dX5_splitByTargets_69 : decode cX5_splitByTargets 69 = .ok (.getfield 38, 3) := by decide +kernel
theorem dX5_splitByTargets_72 : decode cX5_splitByTargets 72 = .ok (.iload_n 1, 1) := by decide +kernel
theorem dX5_splitByTargets_73 : decode cX5_splitByTargets 73 = .ok (.aload_n 0, 1) := by decide +kernel
theorem dX5_splitByTargets_74 : decode cX5_splitByTargets 74 = .ok (.getfield 41, 3) := by decide +kernel
theorem dX5_splitByTargets_77 : decode cX5_splitByTargets 77 = .ok (.lload_n 2, 1) := by decide +kernel
theorem dX5_splitByTargets_78 : decode cX5_splitByTargets 78 = .ok (.invokevirtual 84, 3) := by decide +kernel
theorem dX5_splitByTargets_81 : decode cX5_splitByTargets 81 = .ok (.iastore, 1) := by decide +kernel
theorem dX5_splitByTargets_82 : decode cX5_splitByTargets 82 = .ok (.iinc 1 1, 3) := by decide +kernel
theorem dX5_splitByTargets_85 : decode cX5_splitByTargets 85 = .ok (.goto (-72), 3) := by decide +kernel
theorem dX5_splitByTargets_88 : decode cX5_splitByTargets 88 = .ok (.aload_n 0, 1) := by decide +kernel
theorem dX5_splitByTargets_89 : decode cX5_splitByTargets 89 = .ok (.getfield 35, 3) := by decide +kernel
theorem dX5_splitByTargets_92 : decode cX5_splitByTargets 92 = .ok (.astore_n 1, 1) := by decide +kernel
theorem dX5_splitByTargets_93 : decode cX5_splitByTargets 93 = .ok (.aload_n 0, 1) := by decide +kernel
theorem dX5_splitByTargets_94 : decode cX5_splitByTargets 94 = .ok (.aload_n 0, 1) := by decide +kernel
theorem dX5_splitByTargets_95 : decode cX5_splitByTargets 95 = .ok (.getfield 38, 3) := by decide +kernel
theorem dX5_splitByTargets_98 : decode cX5_splitByTargets 98 = .ok (.putfield 35, 3) := by decide +kernel
theorem dX5_splitByTargets_101 : decode cX5_splitByTargets 101 = .ok (.aload_n 0, 1) := by decide +kernel
theorem dX5_splitByTargets_102 : decode cX5_splitByTargets 102 = .ok (.aload_n 1, 1) := by decide +kernel
theorem dX5_splitByTargets_103 : decode cX5_splitByTargets 103 = .ok (.putfield 38, 3) := by decide +kernel
theorem dX5_splitByTargets_106 : decode cX5_splitByTargets 106 = .ok (.aload_n 0, 1) := by decide +kernel
theorem dX5_splitByTargets_107 : decode cX5_splitByTargets 107 = .ok (.getfield 41, 3) := by decide +kernel
theorem dX5_splitByTargets_110 : decode cX5_splitByTargets 110 = .ok (.getfield 88, 3) := by decide +kernel
theorem dX5_splitByTargets_113 : decode cX5_splitByTargets 113 = .ok (.aload_n 0, 1) := by decide +kernel
theorem dX5_splitByTargets_114 : decode cX5_splitByTargets 114 = .ok (.getfield 32, 3) := by decide +kernel
theorem dX5_splitByTargets_117 : decode cX5_splitByTargets 117 = .ok (.if_icmp .le 7, 3) := by decide +kernel
theorem dX5_splitByTargets_120 : decode cX5_splitByTargets 120 = .ok (.iconst 1, 1) := by decide +kernel
theorem dX5_splitByTargets_121 : decode cX5_splitByTargets 121 = .ok (.goto 4, 3) := by decide +kernel
theorem dX5_splitByTargets_124 : decode cX5_splitByTargets 124 = .ok (.iconst 0, 1) := by decide +kernel
theorem dX5_splitByTargets_125 : decode cX5_splitByTargets 125 = .ok (.istore_n 2, 1) := by decide +kernel
theorem dX5_splitByTargets_126 : decode cX5_splitByTargets 126 = .ok (.aload_n 0, 1) := by decide +kernel
theorem dX5_splitByTargets_127 : decode cX5_splitByTargets 127 = .ok (.aload_n 0, 1) := by decide +kernel
theorem dX5_splitByTargets_128 : decode cX5_splitByTargets 128 = .ok (.getfield 41, 3) := by decide +kernel
theorem dX5_splitByTargets_131 : decode cX5_splitByTargets 131 = .ok (.getfield 88, 3) := by decide +kernel
theorem dX5_splitByTargets_134 : decode cX5_splitByTargets 134 = .ok (.putfield 32, 3) := by decide +kernel
theorem dX5_splitByTargets_137 : decode cX5_splitByTargets 137 = .ok (.iload_n 2, 1) := by decide +kernel
theorem dX5_splitByTargets_138 : decode cX5_splitByTargets 138 = .ok (.ireturn, 1) := by decide +kernel
theorem dX5_storeIn_0 : decode cX5_storeIn 0 = .ok (.aload_n 1, 1) := by decide +kernel
theorem dX5_storeIn_1 : decode cX5_storeIn 1 = .ok (.aload_n 0, 1) := by decide +kernel
theorem dX5_storeIn_2 : decode cX5_storeIn 2 = .ok (.getfield 32, 3) := by decide +kernel
theorem dX5_storeIn_5 : decode cX5_storeIn 5 = .ok (.invokevirtual 89, 3) := by decide +kernel
theorem dX5_storeIn_8 : decode cX5_storeIn 8 = .ok (.iconst 0, 1) := by decide +kernel
theorem dX5_storeIn_9 : decode cX5_storeIn 9 = .ok (.istore_n 2, 1) := by decide +kernel
theorem dX5_storeIn_10 : decode cX5_storeIn 10 = .ok (.iconst 0, 1) := by decide +kernel
theorem dX5_storeIn_11 : decode cX5_storeIn 11 = .ok (.istore_n 3, 1) := by decide +kernel
theorem dX5_storeIn_12 : decode cX5_storeIn 12 = .ok (.iload_n 3, 1) := by decide +kernel
theorem dX5_storeIn_13 : decode cX5_storeIn 13 = .ok (.aload_n 0, 1) := by decide +kernel
theorem dX5_storeIn_14 : decode cX5_storeIn 14 = .ok (.getfield 9, 3) := by decide +kernel
theorem dX5_storeIn_17 : decode cX5_storeIn 17 = .ok (.if_icmp .ge 77, 3) := by decide +kernel
theorem dX5_storeIn_20 : decode cX5_storeIn 20 = .ok (.iload_n 2, 1) := by decide +kernel
theorem dX5_storeIn_21 : decode cX5_storeIn 21 = .ok (.bipush 6, 2) := by decide +kernel
theorem dX5_storeIn_23 : decode cX5_storeIn 23 = .ok (.if_icmp .ge 71, 3) := by decide +kernel
theorem dX5_storeIn_26 : decode cX5_storeIn 26 = .ok (.aload_n 0, 1) := by decide +kernel
theorem dX5_storeIn_27 : decode cX5_storeIn 27 = .ok (.getfield 35, 3) := by decide +kernel
theorem dX5_storeIn_30 : decode cX5_storeIn 30 = .ok (.iload_n 3, 1) := by decide +kernel
theorem dX5_storeIn_31 : decode cX5_storeIn 31 = .ok (.iaload, 1) := by decide +kernel
theorem dX5_storeIn_32 : decode cX5_storeIn 32 = .ok (.iload_n 2, 1) := by decide +kernel
theorem dX5_storeIn_33 : decode cX5_storeIn 33 = .ok (.if_icmp .ne 55, 3) := by decide +kernel
theorem dX5_storeIn_36 : decode cX5_storeIn 36 = .ok (.iconst 0, 1) := by decide +kernel
theorem dX5_storeIn_37 : decode cX5_storeIn 37 = .ok (.istore 4, 2) := by decide +kernel
theorem dX5_storeIn_39 : decode cX5_storeIn 39 = .ok (.iload 4, 2) := by decide +kernel
theorem dX5_storeIn_41 : decode cX5_storeIn 41 = .ok (.iconst 3, 1) := by decide +kernel
theorem dX5_storeIn_42 : decode cX5_storeIn 42 = .ok (.if_icmp .ge 32, 3) := by decide +kernel
theorem dX5_storeIn_45 : decode cX5_storeIn 45 = .ok (.aload_n 1, 1) := by decide +kernel
theorem dX5_storeIn_46 : decode cX5_storeIn 46 = .ok (.iload_n 2, 1) := by decide +kernel
theorem dX5_storeIn_47 : decode cX5_storeIn 47 = .ok (.iload 4, 2) := by decide +kernel
theorem dX5_storeIn_49 : decode cX5_storeIn 49 = .ok (.aload_n 0, 1) := by decide +kernel
theorem dX5_storeIn_50 : decode cX5_storeIn 50 = .ok (.getfield 35, 3) := by decide +kernel
theorem dX5_storeIn_53 : decode cX5_storeIn 53 = .ok (.aload_n 0, 1) := by decide +kernel
theorem dX5_storeIn_54 : decode cX5_storeIn 54 = .ok (.getfield 22, 3) := by decide +kernel
theorem dX5_storeIn_57 : decode cX5_storeIn 57 = .ok (.iload_n 3, 1) := by decide +kernel
theorem dX5_storeIn_58 : decode cX5_storeIn 58 = .ok (.iconst 3, 1) := by decide +kernel
theorem dX5_storeIn_59 : decode cX5_storeIn 59 = .ok (.imul, 1) := by decide +kernel
theorem dX5_storeIn_60 : decode cX5_storeIn 60 = .ok (.iload 4, 2) := by decide +kernel
theorem dX5_storeIn_62 : decode cX5_storeIn 62 = .ok (.iadd, 1) := by decide +kernel
theorem dX5_storeIn_63 : decode cX5_storeIn 63 = .ok (.iaload, 1) := by decide +kernel
theorem dX5_storeIn_64 : decode cX5_storeIn 64 = .ok (.iaload, 1) := by decide +kernel
theorem dX5_storeIn_65 : decode cX5_storeIn 65 = .ok (.invokevirtual 94, 3) := by decide +kernel
theorem dX5_storeIn_68 : decode cX5_storeIn 68 = .ok (.iinc 4 1, 3) := by decide +kernel
theorem dX5_storeIn_71 : decode cX5_storeIn 71 = .ok (.goto (-32), 3) := by decide +kernel
theorem dX5_storeIn_74 : decode cX5_storeIn 74 = .ok (.aload_n 1, 1) := by decide +kernel
theorem dX5_storeIn_75 : decode cX5_storeIn 75 = .ok (.iload_n 2, 1) := by decide +kernel
theorem dX5_storeIn_76 : decode cX5_storeIn 76 = .ok (.aload_n 0, 1) := by decide +kernel
theorem dX5_storeIn_77 : decode cX5_storeIn 77 = .ok (.getfield 28, 3) := by decide +kernel
theorem dX5_storeIn_80 : decode cX5_storeIn 80 = .ok (.iload_n 3, 1) := by decide +kernel
theorem dX5_storeIn_81 : decode cX5_storeIn 81 = .ok (.baload, 1) := by decide +kernel
theorem dX5_storeIn_82 : decode cX5_storeIn 82 = .ok (.invokevirtual 98, 3) := by decide +kernel
theorem dX5_storeIn_85 : decode cX5_storeIn 85 = .ok (.iinc 2 1, 3) := by decide +kernel
theorem dX5_storeIn_88 : decode cX5_storeIn 88 = .ok (.iinc 3 1, 3) := by decide +kernel
theorem dX5_storeIn_91 : decode cX5_storeIn 91 = .ok (.goto (-79), 3) := by decide +kernel
theorem dX5_storeIn_94 : decode cX5_storeIn 94 = .ok (.return_, 1) := by decide +kernel
theorem dX5_firstAccepting_0 : decode cX5_firstAccepting 0 = .ok (.iconst 0, 1) := by decide +kernel
theorem dX5_firstAccepting_1 : decode cX5_firstAccepting 1 = .ok (.istore_n 1, 1) := by decide +kernel
theorem dX5_firstAccepting_2 : decode cX5_firstAccepting 2 = .ok (.iload_n 1, 1) := by decide +kernel
theorem dX5_firstAccepting_3 : decode cX5_firstAccepting 3 = .ok (.aload_n 0, 1) := by decide +kernel
theorem dX5_firstAccepting_4 : decode cX5_firstAccepting 4 = .ok (.getfield 9, 3) := by decide +kernel
theorem dX5_firstAccepting_7 : decode cX5_firstAccepting 7 = .ok (.if_icmp .ge 20, 3) := by decide +kernel
theorem dX5_firstAccepting_10 : decode cX5_firstAccepting 10 = .ok (.aload_n 0, 1) := by decide +kernel
theorem dX5_firstAccepting_11 : decode cX5_firstAccepting 11 = .ok (.getfield 28, 3) := by decide +kernel
theorem dX5_firstAccepting_14 : decode cX5_firstAccepting 14 = .ok (.iload_n 1, 1) := by decide +kernel
theorem dX5_firstAccepting_15 : decode cX5_firstAccepting 15 = .ok (.baload, 1) := by decide +kernel
theorem dX5_firstAccepting_16 : decode cX5_firstAccepting 16 = .ok (.ifCond .eq 5, 3) := by decide +kernel
theorem dX5_firstAccepting_19 : decode cX5_firstAccepting 19 = .ok (.iload_n 1, 1) := by decide +kernel
theorem dX5_firstAccepting_20 : decode cX5_firstAccepting 20 = .ok (.ireturn, 1) := by decide +kernel
theorem dX5_firstAccepting_21 : decode cX5_firstAccepting 21 = .ok (.iinc 1 1, 3) := by decide +kernel
theorem dX5_firstAccepting_24 : decode cX5_firstAccepting 24 = .ok (.goto (-22), 3) := by decide +kernel
theorem dX5_firstAccepting_27 : decode cX5_firstAccepting 27 = .ok (.iconst (-1), 1) := by decide +kernel
theorem dX5_firstAccepting_28 : decode cX5_firstAccepting 28 = .ok (.ireturn, 1) := by decide +kernel
theorem dX5_firstWordLength_0 : decode cX5_firstWordLength 0 = .ok (.iconst 0, 1) := by decide +kernel
theorem dX5_firstWordLength_1 : decode cX5_firstWordLength 1 = .ok (.istore_n 2, 1) := by decide +kernel
theorem dX5_firstWordLength_2 : decode cX5_firstWordLength 2 = .ok (.iload_n 1, 1) := by decide +kernel
theorem dX5_firstWordLength_3 : decode cX5_firstWordLength 3 = .ok (.istore_n 3, 1) := by decide +kernel
theorem dX5_firstWordLength_4 : decode cX5_firstWordLength 4 = .ok (.iload_n 3, 1) := by decide +kernel
theorem dX5_firstWordLength_5 : decode cX5_firstWordLength 5 = .ok (.ifCond .le 25, 3) := by decide +kernel
theorem dX5_firstWordLength_8 : decode cX5_firstWordLength 8 = .ok (.iload_n 2, 1) := by decide +kernel
theorem dX5_firstWordLength_9 : decode cX5_firstWordLength 9 = .ok (.sipush 384, 3) := by decide +kernel
theorem dX5_firstWordLength_12 : decode cX5_firstWordLength 12 = .ok (.if_icmp .ge 18, 3) := by decide +kernel
theorem dX5_firstWordLength_15 : decode cX5_firstWordLength 15 = .ok (.aload_n 0, 1) := by decide +kernel
theorem dX5_firstWordLength_16 : decode cX5_firstWordLength 16 = .ok (.getfield 25, 3) := by decide +kernel
theorem dX5_firstWordLength_19 : decode cX5_firstWordLength 19 = .ok (.iload_n 3, 1) := by decide +kernel
theorem dX5_firstWordLength_20 : decode cX5_firstWordLength 20 = .ok (.iaload, 1) := by decide +kernel
theorem dX5_firstWordLength_21 : decode cX5_firstWordLength 21 = .ok (.iconst 3, 1) := by decide +kernel
theorem dX5_firstWordLength_22 : decode cX5_firstWordLength 22 = .ok (.idiv, 1) := by decide +kernel
theorem dX5_firstWordLength_23 : decode cX5_firstWordLength 23 = .ok (.istore_n 3, 1) := by decide +kernel
theorem dX5_firstWordLength_24 : decode cX5_firstWordLength 24 = .ok (.iinc 2 1, 3) := by decide +kernel
theorem dX5_firstWordLength_27 : decode cX5_firstWordLength 27 = .ok (.goto (-23), 3) := by decide +kernel
theorem dX5_firstWordLength_30 : decode cX5_firstWordLength 30 = .ok (.iload_n 2, 1) := by decide +kernel
theorem dX5_firstWordLength_31 : decode cX5_firstWordLength 31 = .ok (.ireturn, 1) := by decide +kernel
theorem dX5_writeFirstWord_0 : decode cX5_writeFirstWord 0 = .ok (.aload_n 2, 1) := by decide +kernel
theorem dX5_writeFirstWord_1 : decode cX5_writeFirstWord 1 = .ok (.aload_n 0, 1) := by decide +kernel
theorem dX5_writeFirstWord_2 : decode cX5_writeFirstWord 2 = .ok (.iload_n 1, 1) := by decide +kernel
theorem dX5_writeFirstWord_3 : decode cX5_writeFirstWord 3 = .ok (.invokevirtual 102, 3) := by decide +kernel
theorem dX5_writeFirstWord_6 : decode cX5_writeFirstWord 6 = .ok (.putfield 106, 3) := by decide +kernel
theorem dX5_writeFirstWord_9 : decode cX5_writeFirstWord 9 = .ok (.iload_n 1, 1) := by decide +kernel
theorem dX5_writeFirstWord_10 : decode cX5_writeFirstWord 10 = .ok (.istore_n 3, 1) := by decide +kernel
theorem dX5_writeFirstWord_11 : decode cX5_writeFirstWord 11 = .ok (.aload_n 2, 1) := by decide +kernel
theorem dX5_writeFirstWord_12 : decode cX5_writeFirstWord 12 = .ok (.getfield 106, 3) := by decide +kernel
theorem dX5_writeFirstWord_15 : decode cX5_writeFirstWord 15 = .ok (.iconst 1, 1) := by decide +kernel
theorem dX5_writeFirstWord_16 : decode cX5_writeFirstWord 16 = .ok (.isub, 1) := by decide +kernel
theorem dX5_writeFirstWord_17 : decode cX5_writeFirstWord 17 = .ok (.istore 4, 2) := by decide +kernel
theorem dX5_writeFirstWord_19 : decode cX5_writeFirstWord 19 = .ok (.iload 4, 2) := by decide +kernel
theorem dX5_writeFirstWord_21 : decode cX5_writeFirstWord 21 = .ok (.ifCond .lt 33, 3) := by decide +kernel
theorem dX5_writeFirstWord_24 : decode cX5_writeFirstWord 24 = .ok (.aload_n 2, 1) := by decide +kernel
theorem dX5_writeFirstWord_25 : decode cX5_writeFirstWord 25 = .ok (.getfield 111, 3) := by decide +kernel
theorem dX5_writeFirstWord_28 : decode cX5_writeFirstWord 28 = .ok (.iload 4, 2) := by decide +kernel
theorem dX5_writeFirstWord_30 : decode cX5_writeFirstWord 30 = .ok (.aload_n 0, 1) := by decide +kernel
theorem dX5_writeFirstWord_31 : decode cX5_writeFirstWord 31 = .ok (.getfield 25, 3) := by decide +kernel
theorem dX5_writeFirstWord_34 : decode cX5_writeFirstWord 34 = .ok (.iload_n 3, 1) := by decide +kernel
theorem dX5_writeFirstWord_35 : decode cX5_writeFirstWord 35 = .ok (.iaload, 1) := by decide +kernel
theorem dX5_writeFirstWord_36 : decode cX5_writeFirstWord 36 = .ok (.iconst 3, 1) := by decide +kernel
theorem dX5_writeFirstWord_37 : decode cX5_writeFirstWord 37 = .ok (.irem, 1) := by decide +kernel
theorem dX5_writeFirstWord_38 : decode cX5_writeFirstWord 38 = .ok (.iastore, 1) := by decide +kernel
theorem dX5_writeFirstWord_39 : decode cX5_writeFirstWord 39 = .ok (.aload_n 0, 1) := by decide +kernel
theorem dX5_writeFirstWord_40 : decode cX5_writeFirstWord 40 = .ok (.getfield 25, 3) := by decide +kernel
theorem dX5_writeFirstWord_43 : decode cX5_writeFirstWord 43 = .ok (.iload_n 3, 1) := by decide +kernel
theorem dX5_writeFirstWord_44 : decode cX5_writeFirstWord 44 = .ok (.iaload, 1) := by decide +kernel
theorem dX5_writeFirstWord_45 : decode cX5_writeFirstWord 45 = .ok (.iconst 3, 1) := by decide +kernel
theorem dX5_writeFirstWord_46 : decode cX5_writeFirstWord 46 = .ok (.idiv, 1) := by decide +kernel
theorem dX5_writeFirstWord_47 : decode cX5_writeFirstWord 47 = .ok (.istore_n 3, 1) := by decide +kernel
theorem dX5_writeFirstWord_48 : decode cX5_writeFirstWord 48 = .ok (.iinc 4 (-1), 3) := by decide +kernel
theorem dX5_writeFirstWord_51 : decode cX5_writeFirstWord 51 = .ok (.goto (-32), 3) := by decide +kernel
theorem dX5_writeFirstWord_54 : decode cX5_writeFirstWord 54 = .ok (.return_, 1) := by decide +kernel
theorem dX6_init_0 : decode cX6_init 0 = .ok (.aload_n 0, 1) := by decide +kernel
theorem dX6_init_1 : decode cX6_init 1 = .ok (.invokespecial 3, 3) := by decide +kernel
theorem dX6_init_4 : decode cX6_init 4 = .ok (.aload_n 0, 1) := by decide +kernel
theorem dX6_init_5 : decode cX6_init 5 = .ok (.iconst 0, 1) := by decide +kernel
theorem dX6_init_6 : decode cX6_init 6 = .ok (.putfield 9, 3) := by decide +kernel
theorem dX6_init_9 : decode cX6_init 9 = .ok (.aload_n 0, 1) := by decide +kernel
theorem dX6_init_10 : decode cX6_init 10 = .ok (.new 15, 3) := by decide +kernel
theorem dX6_init_13 : decode cX6_init 13 = .ok (.dup, 1) := by decide +kernel
theorem dX6_init_14 : decode cX6_init 14 = .ok (.invokespecial 17, 3) := by decide +kernel
theorem dX6_init_17 : decode cX6_init 17 = .ok (.putfield 18, 3) := by decide +kernel
theorem dX6_init_20 : decode cX6_init 20 = .ok (.aload_n 0, 1) := by decide +kernel
theorem dX6_init_21 : decode cX6_init 21 = .ok (.aload_n 0, 1) := by decide +kernel
theorem dX6_init_22 : decode cX6_init 22 = .ok (.getfield 18, 3) := by decide +kernel
theorem dX6_init_25 : decode cX6_init 25 = .ok (.putfield 22, 3) := by decide +kernel
theorem dX6_init_28 : decode cX6_init 28 = .ok (.return_, 1) := by decide +kernel
theorem dX6_prepare_0 : decode cX6_prepare 0 = .ok (.aload_n 0, 1) := by decide +kernel
theorem dX6_prepare_1 : decode cX6_prepare 1 = .ok (.iload_n 1, 1) := by decide +kernel
theorem dX6_prepare_2 : decode cX6_prepare 2 = .ok (.putfield 9, 3) := by decide +kernel
theorem dX6_prepare_5 : decode cX6_prepare 5 = .ok (.aload_n 0, 1) := by decide +kernel
theorem dX6_prepare_6 : decode cX6_prepare 6 = .ok (.aload_n 2, 1) := by decide +kernel
theorem dX6_prepare_7 : decode cX6_prepare 7 = .ok (.putfield 18, 3) := by decide +kernel
theorem dX6_prepare_10 : decode cX6_prepare 10 = .ok (.aload_n 0, 1) := by decide +kernel
theorem dX6_prepare_11 : decode cX6_prepare 11 = .ok (.aload_n 3, 1) := by decide +kernel
theorem dX6_prepare_12 : decode cX6_prepare 12 = .ok (.putfield 22, 3) := by decide +kernel
theorem dX6_prepare_15 : decode cX6_prepare 15 = .ok (.return_, 1) := by decide +kernel
theorem dX6_codeBound_0 : decode cX6_codeBound 0 = .ok (.bipush 36, 2) := by decide +kernel
theorem dX6_codeBound_2 : decode cX6_codeBound 2 = .ok (.ireturn, 1) := by decide +kernel
theorem dX6_startCode_0 : decode cX6_startCode 0 = .ok (.iconst 0, 1) := by decide +kernel
theorem dX6_startCode_1 : decode cX6_startCode 1 = .ok (.ireturn, 1) := by decide +kernel
theorem dX6_follow_0 : decode cX6_follow 0 = .ok (.aload_n 0, 1) := by decide +kernel
theorem dX6_follow_1 : decode cX6_follow 1 = .ok (.getfield 18, 3) := by decide +kernel
theorem dX6_follow_4 : decode cX6_follow 4 = .ok (.iload_n 1, 1) := by decide +kernel
theorem dX6_follow_5 : decode cX6_follow 5 = .ok (.bipush 6, 2) := by decide +kernel
theorem dX6_follow_7 : decode cX6_follow 7 = .ok (.idiv, 1) := by decide +kernel
theorem dX6_follow_8 : decode cX6_follow 8 = .ok (.iload_n 2, 1) := by decide +kernel
theorem dX6_follow_9 : decode cX6_follow 9 = .ok (.invokevirtual 25, 3) := by decide +kernel
theorem dX6_follow_12 : decode cX6_follow 12 = .ok (.istore_n 3, 1) := by decide +kernel
theorem dX6_follow_13 : decode cX6_follow 13 = .ok (.aload_n 0, 1) := by decide +kernel
theorem dX6_follow_14 : decode cX6_follow 14 = .ok (.getfield 22, 3) := by decide +kernel
theorem dX6_follow_17 : decode cX6_follow 17 = .ok (.iload_n 1, 1) := by decide +kernel
theorem dX6_follow_18 : decode cX6_follow 18 = .ok (.bipush 6, 2) := by decide +kernel
theorem dX6_follow_20 : decode cX6_follow 20 = .ok (.irem, 1) := by decide +kernel
theorem dX6_follow_21 : decode cX6_follow 21 = .ok (.iload_n 2, 1) := by decide +kernel
theorem dX6_follow_22 : decode cX6_follow 22 = .ok (.invokevirtual 25, 3) := by decide +kernel
theorem dX6_follow_25 : decode cX6_follow 25 = .ok (.istore 4, 2) := by decide +kernel
theorem dX6_follow_27 : decode cX6_follow 27 = .ok (.iload_n 3, 1) := by decide +kernel
theorem dX6_follow_28 : decode cX6_follow 28 = .ok (.bipush 6, 2) := by decide +kernel
theorem dX6_follow_30 : decode cX6_follow 30 = .ok (.imul, 1) := by decide +kernel
theorem dX6_follow_31 : decode cX6_follow 31 = .ok (.iload 4, 2) := by decide +kernel
theorem dX6_follow_33 : decode cX6_follow 33 = .ok (.iadd, 1) := by decide +kernel
theorem dX6_follow_34 : decode cX6_follow 34 = .ok (.ireturn, 1) := by decide +kernel
theorem dX6_isAccepting_0 : decode cX6_isAccepting 0 = .ok (.aload_n 0, 1) := by decide +kernel
theorem dX6_isAccepting_1 : decode cX6_isAccepting 1 = .ok (.getfield 18, 3) := by decide +kernel
theorem dX6_isAccepting_4 : decode cX6_isAccepting 4 = .ok (.iload_n 1, 1) := by decide +kernel
theorem dX6_isAccepting_5 : decode cX6_isAccepting 5 = .ok (.bipush 6, 2) := by decide +kernel
theorem dX6_isAccepting_7 : decode cX6_isAccepting 7 = .ok (.idiv, 1) := by decide +kernel
theorem dX6_isAccepting_8 : decode cX6_isAccepting 8 = .ok (.invokevirtual 29, 3) := by decide +kernel
theorem dX6_isAccepting_11 : decode cX6_isAccepting 11 = .ok (.istore_n 2, 1) := by decide +kernel
theorem dX6_isAccepting_12 : decode cX6_isAccepting 12 = .ok (.aload_n 0, 1) := by decide +kernel
theorem dX6_isAccepting_13 : decode cX6_isAccepting 13 = .ok (.getfield 22, 3) := by decide +kernel
theorem dX6_isAccepting_16 : decode cX6_isAccepting 16 = .ok (.iload_n 1, 1) := by decide +kernel
theorem dX6_isAccepting_17 : decode cX6_isAccepting 17 = .ok (.bipush 6, 2) := by decide +kernel
theorem dX6_isAccepting_19 : decode cX6_isAccepting 19 = .ok (.irem, 1) := by decide +kernel
theorem dX6_isAccepting_20 : decode cX6_isAccepting 20 = .ok (.invokevirtual 29, 3) := by decide +kernel
theorem dX6_isAccepting_23 : decode cX6_isAccepting 23 = .ok (.istore_n 3, 1) := by decide +kernel
theorem dX6_isAccepting_24 : decode cX6_isAccepting 24 = .ok (.aload_n 0, 1) := by decide +kernel
theorem dX6_isAccepting_25 : decode cX6_isAccepting 25 = .ok (.getfield 9, 3) := by decide +kernel
theorem dX6_isAccepting_28 : decode cX6_isAccepting 28 = .ok (.tableswitch 70 0 2 #[28, 42, 56], 28) := by decide +kernel
theorem dX6_isAccepting_56 : decode cX6_isAccepting 56 = .ok (.iload_n 2, 1) := by decide +kernel
theorem dX6_isAccepting_57 : decode cX6_isAccepting 57 = .ok (.ifCond .ne 7, 3) := by decide +kernel
theorem dX6_isAccepting_60 : decode cX6_isAccepting 60 = .ok (.iload_n 3, 1) := by decide +kernel
theorem dX6_isAccepting_61 : decode cX6_isAccepting 61 = .ok (.ifCond .eq 7, 3) := by decide +kernel
theorem dX6_isAccepting_64 : decode cX6_isAccepting 64 = .ok (.iconst 1, 1) := by decide +kernel
theorem dX6_isAccepting_65 : decode cX6_isAccepting 65 = .ok (.goto 4, 3) := by decide +kernel
theorem dX6_isAccepting_68 : decode cX6_isAccepting 68 = .ok (.iconst 0, 1) := by decide +kernel
theorem dX6_isAccepting_69 : decode cX6_isAccepting 69 = .ok (.ireturn, 1) := by decide +kernel
theorem dX6_isAccepting_70 : decode cX6_isAccepting 70 = .ok (.iload_n 2, 1) := by decide +kernel
theorem dX6_isAccepting_71 : decode cX6_isAccepting 71 = .ok (.ifCond .eq 11, 3) := by decide +kernel
theorem dX6_isAccepting_74 : decode cX6_isAccepting 74 = .ok (.iload_n 3, 1) := by decide +kernel
theorem dX6_isAccepting_75 : decode cX6_isAccepting 75 = .ok (.ifCond .eq 7, 3) := by decide +kernel
theorem dX6_isAccepting_78 : decode cX6_isAccepting 78 = .ok (.iconst 1, 1) := by decide +kernel
theorem dX6_isAccepting_79 : decode cX6_isAccepting 79 = .ok (.goto 4, 3) := by decide +kernel
theorem dX6_isAccepting_82 : decode cX6_isAccepting 82 = .ok (.iconst 0, 1) := by decide +kernel
theorem dX6_isAccepting_83 : decode cX6_isAccepting 83 = .ok (.ireturn, 1) := by decide +kernel
theorem dX6_isAccepting_84 : decode cX6_isAccepting 84 = .ok (.iload_n 2, 1) := by decide +kernel
theorem dX6_isAccepting_85 : decode cX6_isAccepting 85 = .ok (.ifCond .eq 11, 3) := by decide +kernel
theorem dX6_isAccepting_88 : decode cX6_isAccepting 88 = .ok (.iload_n 3, 1) := by decide +kernel
theorem dX6_isAccepting_89 : decode cX6_isAccepting 89 = .ok (.ifCond .ne 7, 3) := by decide +kernel
theorem dX6_isAccepting_92 : decode cX6_isAccepting 92 = .ok (.iconst 1, 1) := by decide +kernel
theorem dX6_isAccepting_93 : decode cX6_isAccepting 93 = .ok (.goto 4, 3) := by decide +kernel
theorem dX6_isAccepting_96 : decode cX6_isAccepting 96 = .ok (.iconst 0, 1) := by decide +kernel
theorem dX6_isAccepting_97 : decode cX6_isAccepting 97 = .ok (.ireturn, 1) := by decide +kernel
theorem dX6_isAccepting_98 : decode cX6_isAccepting 98 = .ok (.iload_n 2, 1) := by decide +kernel
theorem dX6_isAccepting_99 : decode cX6_isAccepting 99 = .ok (.iload_n 3, 1) := by decide +kernel
theorem dX6_isAccepting_100 : decode cX6_isAccepting 100 = .ok (.if_icmp .eq 7, 3) := by decide +kernel
theorem dX6_isAccepting_103 : decode cX6_isAccepting 103 = .ok (.iconst 1, 1) := by decide +kernel
theorem dX6_isAccepting_104 : decode cX6_isAccepting 104 = .ok (.goto 4, 3) := by decide +kernel
theorem dX6_isAccepting_107 : decode cX6_isAccepting 107 = .ok (.iconst 0, 1) := by decide +kernel
theorem dX6_isAccepting_108 : decode cX6_isAccepting 108 = .ok (.ireturn, 1) := by decide +kernel
theorem dX7_init_0 : decode cX7_init 0 = .ok (.aload_n 0, 1) := by decide +kernel
theorem dX7_init_1 : decode cX7_init 1 = .ok (.invokespecial 3, 3) := by decide +kernel
theorem dX7_init_4 : decode cX7_init 4 = .ok (.aload_n 0, 1) := by decide +kernel
theorem dX7_init_5 : decode cX7_init 5 = .ok (.iconst 0, 1) := by decide +kernel
theorem dX7_init_6 : decode cX7_init 6 = .ok (.putfield 9, 3) := by decide +kernel
theorem dX7_init_9 : decode cX7_init 9 = .ok (.aload_n 0, 1) := by decide +kernel
theorem dX7_init_10 : decode cX7_init 10 = .ok (.iconst 0, 1) := by decide +kernel
theorem dX7_init_11 : decode cX7_init 11 = .ok (.putfield 15, 3) := by decide +kernel
theorem dX7_init_14 : decode cX7_init 14 = .ok (.aload_n 0, 1) := by decide +kernel
theorem dX7_init_15 : decode cX7_init 15 = .ok (.bipush 21, 2) := by decide +kernel
theorem dX7_init_17 : decode cX7_init 17 = .ok (.newarray .float, 2) := by decide +kernel
theorem dX7_init_19 : decode cX7_init 19 = .ok (.putfield 19, 3) := by decide +kernel
theorem dX7_init_22 : decode cX7_init 22 = .ok (.aload_n 0, 1) := by decide +kernel
theorem dX7_init_23 : decode cX7_init 23 = .ok (.bipush 21, 2) := by decide +kernel
theorem dX7_init_25 : decode cX7_init 25 = .ok (.newarray .double, 2) := by decide +kernel
theorem dX7_init_27 : decode cX7_init 27 = .ok (.putfield 23, 3) := by decide +kernel
theorem dX7_init_30 : decode cX7_init 30 = .ok (.aload_n 0, 1) := by decide +kernel
theorem dX7_init_31 : decode cX7_init 31 = .ok (.bipush 6, 2) := by decide +kernel
theorem dX7_init_33 : decode cX7_init 33 = .ok (.newarray .long, 2) := by decide +kernel
theorem dX7_init_35 : decode cX7_init 35 = .ok (.putfield 27, 3) := by decide +kernel
theorem dX7_init_38 : decode cX7_init 38 = .ok (.aload_n 0, 1) := by decide +kernel
theorem dX7_init_39 : decode cX7_init 39 = .ok (.bipush 6, 2) := by decide +kernel
theorem dX7_init_41 : decode cX7_init 41 = .ok (.newarray .long, 2) := by decide +kernel
theorem dX7_init_43 : decode cX7_init 43 = .ok (.putfield 31, 3) := by decide +kernel
theorem dX7_init_46 : decode cX7_init 46 = .ok (.return_, 1) := by decide +kernel
theorem dX7_fill_0 : decode cX7_fill 0 = .ok (.aload_n 0, 1) := by decide +kernel
theorem dX7_fill_1 : decode cX7_fill 1 = .ok (.iload_n 3, 1) := by decide +kernel
theorem dX7_fill_2 : decode cX7_fill 2 = .ok (.putfield 9, 3) := by decide +kernel
theorem dX7_fill_5 : decode cX7_fill 5 = .ok (.aload_n 0, 1) := by decide +kernel
theorem dX7_fill_6 : decode cX7_fill 6 = .ok (.iconst 0, 1) := by decide +kernel
theorem dX7_fill_7 : decode cX7_fill 7 = .ok (.putfield 15, 3) := by decide +kernel
theorem dX7_fill_10 : decode cX7_fill 10 = .ok (.iconst 0, 1) := by decide +kernel
theorem dX7_fill_11 : decode cX7_fill 11 = .ok (.istore 4, 2) := by decide +kernel
theorem dX7_fill_13 : decode cX7_fill 13 = .ok (.iload 4, 2) := by decide +kernel
theorem dX7_fill_15 : decode cX7_fill 15 = .ok (.aload_n 1, 1) := by decide +kernel
theorem dX7_fill_16 : decode cX7_fill 16 = .ok (.getfield 34, 3) := by decide +kernel
theorem dX7_fill_19 : decode cX7_fill 19 = .ok (.if_icmp .ge 30, 3) := by decide +kernel
theorem dX7_fill_22 : decode cX7_fill 22 = .ok (.aload_n 0, 1) := by decide +kernel
theorem dX7_fill_23 : decode cX7_fill 23 = .ok (.getfield 27, 3) := by decide +kernel
theorem dX7_fill_26 : decode cX7_fill 26 = .ok (.iload 4, 2) := by decide +kernel
theorem dX7_fill_28 : decode cX7_fill 28 = .ok (.aload_n 1, 1) := by decide +kernel
theorem dX7_fill_29 : decode cX7_fill 29 = .ok (.iload 4, 2) := by decide +kernel
theorem dX7_fill_31 : decode cX7_fill 31 = .ok (.invokevirtual 39, 3) := by decide +kernel
theorem dX7_fill_34 : decode cX7_fill 34 = .ok (.ifCond .eq 7, 3) := by decide +kernel
theorem dX7_fill_37 : decode cX7_fill 37 = .ok (.lconst 1, 1) := by decide +kernel
theorem dX7_fill_38 : decode cX7_fill 38 = .ok (.goto 4, 3) := by decide +kernel
theorem dX7_fill_41 : decode cX7_fill 41 = .ok (.lconst 0, 1) := by decide +kernel
theorem dX7_fill_42 : decode cX7_fill 42 = .ok (.lastore, 1) := by decide +kernel
theorem dX7_fill_43 : decode cX7_fill 43 = .ok (.iinc 4 1, 3) := by decide +kernel
theorem dX7_fill_46 : decode cX7_fill 46 = .ok (.goto (-33), 3) := by decide +kernel
theorem dX7_fill_49 : decode cX7_fill 49 = .ok (.lconst 1, 1) := by decide +kernel
theorem dX7_fill_50 : decode cX7_fill 50 = .ok (.lstore 4, 2) := by decide +kernel
theorem dX7_fill_52 : decode cX7_fill 52 = .ok (.iconst 0, 1) := by decide +kernel
theorem dX7_fill_53 : decode cX7_fill 53 = .ok (.istore 6, 2) := by decide +kernel
theorem dX7_fill_55 : decode cX7_fill 55 = .ok (.iload 6, 2) := by decide +kernel
theorem dX7_fill_57 : decode cX7_fill 57 = .ok (.iload_n 2, 1) := by decide +kernel
theorem dX7_fill_58 : decode cX7_fill 58 = .ok (.if_icmp .gt 37, 3) := by decide +kernel
theorem dX7_fill_61 : decode cX7_fill 61 = .ok (.aload_n 0, 1) := by decide +kernel
theorem dX7_fill_62 : decode cX7_fill 62 = .ok (.aload_n 0, 1) := by decide +kernel
theorem dX7_fill_63 : decode cX7_fill 63 = .ok (.getfield 27, 3) := by decide +kernel
theorem dX7_fill_66 : decode cX7_fill 66 = .ok (.iconst 0, 1) := by decide +kernel
theorem dX7_fill_67 : decode cX7_fill 67 = .ok (.laload, 1) := by decide +kernel
theorem dX7_fill_68 : decode cX7_fill 68 = .ok (.l2d, 1) := by decide +kernel
theorem dX7_fill_69 : decode cX7_fill 69 = .ok (.lload 4, 2) := by decide +kernel
theorem dX7_fill_71 : decode cX7_fill 71 = .ok (.l2d, 1) := by decide +kernel
theorem dX7_fill_72 : decode cX7_fill 72 = .ok (.ddiv, 1) := by decide +kernel
theorem dX7_fill_73 : decode cX7_fill 73 = .ok (.invokevirtual 43, 3) := by decide +kernel
theorem dX7_fill_76 : decode cX7_fill 76 = .ok (.aload_n 0, 1) := by decide +kernel
theorem dX7_fill_77 : decode cX7_fill 77 = .ok (.aload_n 1, 1) := by decide +kernel
theorem dX7_fill_78 : decode cX7_fill 78 = .ok (.invokevirtual 47, 3) := by decide +kernel
theorem dX7_fill_81 : decode cX7_fill 81 = .ok (.lload 4, 2) := by decide +kernel
theorem dX7_fill_83 : decode cX7_fill 83 = .ok (.ldc2_w 51, 3) := by decide +kernel
theorem dX7_fill_86 : decode cX7_fill 86 = .ok (.lmul, 1) := by decide +kernel
theorem dX7_fill_87 : decode cX7_fill 87 = .ok (.lstore 4, 2) := by decide +kernel
theorem dX7_fill_89 : decode cX7_fill 89 = .ok (.iinc 6 1, 3) := by decide +kernel
theorem dX7_fill_92 : decode cX7_fill 92 = .ok (.goto (-37), 3) := by decide +kernel
theorem dX7_fill_95 : decode cX7_fill 95 = .ok (.return_, 1) := by decide +kernel
theorem dX7_add_0 : decode cX7_add 0 = .ok (.aload_n 0, 1) := by decide +kernel
theorem dX7_add_1 : decode cX7_add 1 = .ok (.getfield 15, 3) := by decide +kernel
theorem dX7_add_4 : decode cX7_add 4 = .ok (.bipush 20, 2) := by decide +kernel
theorem dX7_add_6 : decode cX7_add 6 = .ok (.if_icmp .le 4, 3) := by decide +kernel
theorem dX7_add_9 : decode cX7_add 9 = .ok (.return_, 1) := by decide +kernel
theorem dX7_add_10 : decode cX7_add 10 = .ok (.aload_n 0, 1) := by decide +kernel
theorem dX7_add_11 : decode cX7_add 11 = .ok (.getfield 9, 3) := by decide +kernel
theorem dX7_add_14 : decode cX7_add 14 = .ok (.ifCond .eq 17, 3) := by decide +kernel
theorem dX7_add_17 : decode cX7_add 17 = .ok (.aload_n 0, 1) := by decide +kernel
theorem dX7_add_18 : decode cX7_add 18 = .ok (.getfield 19, 3) := by decide +kernel
theorem dX7_add_21 : decode cX7_add 21 = .ok (.aload_n 0, 1) := by decide +kernel
theorem dX7_add_22 : decode cX7_add 22 = .ok (.getfield 15, 3) := by decide +kernel
theorem dX7_add_25 : decode cX7_add 25 = .ok (.dload_n 1, 1) := by decide +kernel
theorem dX7_add_26 : decode cX7_add 26 = .ok (.d2f, 1) := by decide +kernel
theorem dX7_add_27 : decode cX7_add 27 = .ok (.fastore, 1) := by decide +kernel
theorem dX7_add_28 : decode cX7_add 28 = .ok (.goto 13, 3) := by decide +kernel
theorem dX7_add_31 : decode cX7_add 31 = .ok (.aload_n 0, 1) := by decide +kernel
theorem dX7_add_32 : decode cX7_add 32 = .ok (.getfield 23, 3) := by decide +kernel
theorem dX7_add_35 : decode cX7_add 35 = .ok (.aload_n 0, 1) := by decide +kernel
theorem dX7_add_36 : decode cX7_add 36 = .ok (.getfield 15, 3) := by decide +kernel
theorem dX7_add_39 : decode cX7_add 39 = .ok (.dload_n 1, 1) := by decide +kernel
theorem dX7_add_40 : decode cX7_add 40 = .ok (.dastore, 1) := by decide +kernel
theorem dX7_add_41 : decode cX7_add 41 = .ok (.aload_n 0, 1) := by decide +kernel
theorem dX7_add_42 : decode cX7_add 42 = .ok (.dup, 1) := by decide +kernel
theorem dX7_add_43 : decode cX7_add 43 = .ok (.getfield 15, 3) := by decide +kernel
theorem dX7_add_46 : decode cX7_add 46 = .ok (.iconst 1, 1) := by decide +kernel
theorem dX7_add_47 : decode cX7_add 47 = .ok (.iadd, 1) := by decide +kernel
theorem dX7_add_48 : decode cX7_add 48 = .ok (.putfield 15, 3) := by decide +kernel
theorem dX7_add_51 : decode cX7_add 51 = .ok (.return_, 1) := by decide +kernel
theorem dX7_lengthen_0 : decode cX7_lengthen 0 = .ok (.iconst 0, 1) := by decide +kernel
theorem dX7_lengthen_1 : decode cX7_lengthen 1 = .ok (.istore_n 2, 1) := by decide +kernel
theorem dX7_lengthen_2 : decode cX7_lengthen 2 = .ok (.iload_n 2, 1) := by decide +kernel
theorem dX7_lengthen_3 : decode cX7_lengthen 3 = .ok (.aload_n 1, 1) := by decide +kernel
theorem dX7_lengthen_4 : decode cX7_lengthen 4 = .ok (.getfield 34, 3) := by decide +kernel
theorem dX7_lengthen_7 : decode cX7_lengthen 7 = .ok (.if_icmp .ge 48, 3) := by decide +kernel
theorem dX7_lengthen_10 : decode cX7_lengthen 10 = .ok (.lconst 0, 1) := by decide +kernel
theorem dX7_lengthen_11 : decode cX7_lengthen 11 = .ok (.lstore_n 3, 1) := by decide +kernel
theorem dX7_lengthen_12 : decode cX7_lengthen 12 = .ok (.iconst 0, 1) := by decide +kernel
theorem dX7_lengthen_13 : decode cX7_lengthen 13 = .ok (.istore 5, 2) := by decide +kernel
theorem dX7_lengthen_15 : decode cX7_lengthen 15 = .ok (.iload 5, 2) := by decide +kernel
theorem dX7_lengthen_17 : decode cX7_lengthen 17 = .ok (.iconst 3, 1) := by decide +kernel
theorem dX7_lengthen_18 : decode cX7_lengthen 18 = .ok (.if_icmp .ge 24, 3) := by decide +kernel
theorem dX7_lengthen_21 : decode cX7_lengthen 21 = .ok (.lload_n 3, 1) := by decide +kernel
theorem dX7_lengthen_22 : decode cX7_lengthen 22 = .ok (.aload_n 0, 1) := by decide +kernel
theorem dX7_lengthen_23 : decode cX7_lengthen 23 = .ok (.getfield 27, 3) := by decide +kernel
theorem dX7_lengthen_26 : decode cX7_lengthen 26 = .ok (.aload_n 1, 1) := by decide +kernel
theorem dX7_lengthen_27 : decode cX7_lengthen 27 = .ok (.iload_n 2, 1) := by decide +kernel
theorem dX7_lengthen_28 : decode cX7_lengthen 28 = .ok (.iload 5, 2) := by decide +kernel
theorem dX7_lengthen_30 : decode cX7_lengthen 30 = .ok (.invokevirtual 53, 3) := by decide +kernel
theorem dX7_lengthen_33 : decode cX7_lengthen 33 = .ok (.laload, 1) := by decide +kernel
theorem dX7_lengthen_34 : decode cX7_lengthen 34 = .ok (.ladd, 1) := by decide +kernel
theorem dX7_lengthen_35 : decode cX7_lengthen 35 = .ok (.lstore_n 3, 1) := by decide +kernel
theorem dX7_lengthen_36 : decode cX7_lengthen 36 = .ok (.iinc 5 1, 3) := by decide +kernel
theorem dX7_lengthen_39 : decode cX7_lengthen 39 = .ok (.goto (-24), 3) := by decide +kernel
theorem dX7_lengthen_42 : decode cX7_lengthen 42 = .ok (.aload_n 0, 1) := by decide +kernel
theorem dX7_lengthen_43 : decode cX7_lengthen 43 = .ok (.getfield 31, 3) := by decide +kernel
theorem dX7_lengthen_46 : decode cX7_lengthen 46 = .ok (.iload_n 2, 1) := by decide +kernel
theorem dX7_lengthen_47 : decode cX7_lengthen 47 = .ok (.lload_n 3, 1) := by decide +kernel
theorem dX7_lengthen_48 : decode cX7_lengthen 48 = .ok (.lastore, 1) := by decide +kernel
theorem dX7_lengthen_49 : decode cX7_lengthen 49 = .ok (.iinc 2 1, 3) := by decide +kernel
theorem dX7_lengthen_52 : decode cX7_lengthen 52 = .ok (.goto (-50), 3) := by decide +kernel
theorem dX7_lengthen_55 : decode cX7_lengthen 55 = .ok (.aload_n 0, 1) := by decide +kernel
theorem dX7_lengthen_56 : decode cX7_lengthen 56 = .ok (.getfield 27, 3) := by decide +kernel
theorem dX7_lengthen_59 : decode cX7_lengthen 59 = .ok (.astore_n 2, 1) := by decide +kernel
theorem dX7_lengthen_60 : decode cX7_lengthen 60 = .ok (.aload_n 0, 1) := by decide +kernel
theorem dX7_lengthen_61 : decode cX7_lengthen 61 = .ok (.aload_n 0, 1) := by decide +kernel
theorem dX7_lengthen_62 : decode cX7_lengthen 62 = .ok (.getfield 31, 3) := by decide +kernel
theorem dX7_lengthen_65 : decode cX7_lengthen 65 = .ok (.putfield 27, 3) := by decide +kernel
theorem dX7_lengthen_68 : decode cX7_lengthen 68 = .ok (.aload_n 0, 1) := by decide +kernel
theorem dX7_lengthen_69 : decode cX7_lengthen 69 = .ok (.aload_n 2, 1) := by decide +kernel
theorem dX7_lengthen_70 : decode cX7_lengthen 70 = .ok (.putfield 31, 3) := by decide +kernel
theorem dX7_lengthen_73 : decode cX7_lengthen 73 = .ok (.return_, 1) := by decide +kernel
theorem dX7_isZero_0 : decode cX7_isZero 0 = .ok (.aload_n 0, 1) := by decide +kernel
theorem dX7_isZero_1 : decode cX7_isZero 1 = .ok (.getfield 9, 3) := by decide +kernel
theorem dX7_isZero_4 : decode cX7_isZero 4 = .ok (.ifCond .eq 22, 3) := by decide +kernel
theorem dX7_isZero_7 : decode cX7_isZero 7 = .ok (.aload_n 0, 1) := by decide +kernel
theorem dX7_isZero_8 : decode cX7_isZero 8 = .ok (.getfield 19, 3) := by decide +kernel
theorem dX7_isZero_11 : decode cX7_isZero 11 = .ok (.iload_n 1, 1) := by decide +kernel
theorem dX7_isZero_12 : decode cX7_isZero 12 = .ok (.faload, 1) := by decide +kernel
theorem dX7_isZero_13 : decode cX7_isZero 13 = .ok (.fconst 0, 1) := by decide +kernel
theorem dX7_isZero_14 : decode cX7_isZero 14 = .ok (.fcmp .l, 1) := by decide +kernel
theorem dX7_isZero_15 : decode cX7_isZero 15 = .ok (.ifCond .ne 7, 3) := by decide +kernel
theorem dX7_isZero_18 : decode cX7_isZero 18 = .ok (.iconst 1, 1) := by decide +kernel
theorem dX7_isZero_19 : decode cX7_isZero 19 = .ok (.goto 23, 3) := by decide +kernel
theorem dX7_isZero_22 : decode cX7_isZero 22 = .ok (.iconst 0, 1) := by decide +kernel
theorem dX7_isZero_23 : decode cX7_isZero 23 = .ok (.goto 19, 3) := by decide +kernel
theorem dX7_isZero_26 : decode cX7_isZero 26 = .ok (.aload_n 0, 1) := by decide +kernel
theorem dX7_isZero_27 : decode cX7_isZero 27 = .ok (.getfield 23, 3) := by decide +kernel
theorem dX7_isZero_30 : decode cX7_isZero 30 = .ok (.iload_n 1, 1) := by decide +kernel
theorem dX7_isZero_31 : decode cX7_isZero 31 = .ok (.daload, 1) := by decide +kernel
theorem dX7_isZero_32 : decode cX7_isZero 32 = .ok (.dconst 0, 1) := by decide +kernel
theorem dX7_isZero_33 : decode cX7_isZero 33 = .ok (.dcmp .l, 1) := by decide +kernel
theorem dX7_isZero_34 : decode cX7_isZero 34 = .ok (.ifCond .ne 7, 3) := by decide +kernel
theorem dX7_isZero_37 : decode cX7_isZero 37 = .ok (.iconst 1, 1) := by decide +kernel
theorem dX7_isZero_38 : decode cX7_isZero 38 = .ok (.goto 4, 3) := by decide +kernel
theorem dX7_isZero_41 : decode cX7_isZero 41 = .ok (.iconst 0, 1) := by decide +kernel
theorem dX7_isZero_42 : decode cX7_isZero 42 = .ok (.ireturn, 1) := by decide +kernel
theorem dX7_rest_0 : decode cX7_rest 0 = .ok (.aload_n 0, 1) := by decide +kernel
theorem dX7_rest_1 : decode cX7_rest 1 = .ok (.getfield 9, 3) := by decide +kernel
theorem dX7_rest_4 : decode cX7_rest 4 = .ok (.ifCond .eq 20, 3) := by decide +kernel
theorem dX7_rest_7 : decode cX7_rest 7 = .ok (.aload_n 0, 1) := by decide +kernel
theorem dX7_rest_8 : decode cX7_rest 8 = .ok (.getfield 19, 3) := by decide +kernel
theorem dX7_rest_11 : decode cX7_rest 11 = .ok (.iload_n 1, 1) := by decide +kernel
theorem dX7_rest_12 : decode cX7_rest 12 = .ok (.faload, 1) := by decide +kernel
theorem dX7_rest_13 : decode cX7_rest 13 = .ok (.aload_n 0, 1) := by decide +kernel
theorem dX7_rest_14 : decode cX7_rest 14 = .ok (.getfield 19, 3) := by decide +kernel
theorem dX7_rest_17 : decode cX7_rest 17 = .ok (.iload_n 2, 1) := by decide +kernel
theorem dX7_rest_18 : decode cX7_rest 18 = .ok (.faload, 1) := by decide +kernel
theorem dX7_rest_19 : decode cX7_rest 19 = .ok (.invokestatic 57, 3) := by decide +kernel
theorem dX7_rest_22 : decode cX7_rest 22 = .ok (.f2d, 1) := by decide +kernel
theorem dX7_rest_23 : decode cX7_rest 23 = .ok (.dreturn, 1) := by decide +kernel
theorem dX7_rest_24 : decode cX7_rest 24 = .ok (.aload_n 0, 1) := by decide +kernel
theorem dX7_rest_25 : decode cX7_rest 25 = .ok (.getfield 23, 3) := by decide +kernel
theorem dX7_rest_28 : decode cX7_rest 28 = .ok (.iload_n 1, 1) := by decide +kernel
theorem dX7_rest_29 : decode cX7_rest 29 = .ok (.daload, 1) := by decide +kernel
theorem dX7_rest_30 : decode cX7_rest 30 = .ok (.aload_n 0, 1) := by decide +kernel
theorem dX7_rest_31 : decode cX7_rest 31 = .ok (.getfield 23, 3) := by decide +kernel
theorem dX7_rest_34 : decode cX7_rest 34 = .ok (.iload_n 2, 1) := by decide +kernel
theorem dX7_rest_35 : decode cX7_rest 35 = .ok (.daload, 1) := by decide +kernel
theorem dX7_rest_36 : decode cX7_rest 36 = .ok (.invokestatic 61, 3) := by decide +kernel
theorem dX7_rest_39 : decode cX7_rest 39 = .ok (.dreturn, 1) := by decide +kernel
theorem dX7_doubleRest_0 : decode cX7_doubleRest 0 = .ok (.dload_n 0, 1) := by decide +kernel
theorem dX7_doubleRest_1 : decode cX7_doubleRest 1 = .ok (.dstore 4, 2) := by decide +kernel
theorem dX7_doubleRest_3 : decode cX7_doubleRest 3 = .ok (.iconst 0, 1) := by decide +kernel
theorem dX7_doubleRest_4 : decode cX7_doubleRest 4 = .ok (.istore 6, 2) := by decide +kernel
theorem dX7_doubleRest_6 : decode cX7_doubleRest 6 = .ok (.iload 6, 2) := by decide +kernel
theorem dX7_doubleRest_8 : decode cX7_doubleRest 8 = .ok (.bipush 64, 2) := by decide +kernel
theorem dX7_doubleRest_10 : decode cX7_doubleRest 10 = .ok (.if_icmp .ge 60, 3) := by decide +kernel
theorem dX7_doubleRest_13 : decode cX7_doubleRest 13 = .ok (.dload 4, 2) := by decide +kernel
theorem dX7_doubleRest_15 : decode cX7_doubleRest 15 = .ok (.dload_n 2, 1) := by decide +kernel
theorem dX7_doubleRest_16 : decode cX7_doubleRest 16 = .ok (.dcmp .l, 1) := by decide +kernel
theorem dX7_doubleRest_17 : decode cX7_doubleRest 17 = .ok (.ifCond .lt 53, 3) := by decide +kernel
theorem dX7_doubleRest_20 : decode cX7_doubleRest 20 = .ok (.dload_n 2, 1) := by decide +kernel
theorem dX7_doubleRest_21 : decode cX7_doubleRest 21 = .ok (.dstore 7, 2) := by decide +kernel
theorem dX7_doubleRest_23 : decode cX7_doubleRest 23 = .ok (.iconst 0, 1) := by decide +kernel
theorem dX7_doubleRest_24 : decode cX7_doubleRest 24 = .ok (.istore 9, 2) := by decide +kernel
theorem dX7_doubleRest_26 : decode cX7_doubleRest 26 = .ok (.iload 9, 2) := by decide +kernel
theorem dX7_doubleRest_28 : decode cX7_doubleRest 28 = .ok (.bipush 64, 2) := by decide +kernel
theorem dX7_doubleRest_30 : decode cX7_doubleRest 30 = .ok (.if_icmp .ge 27, 3) := by decide +kernel
theorem dX7_doubleRest_33 : decode cX7_doubleRest 33 = .ok (.dload 7, 2) := by decide +kernel
theorem dX7_doubleRest_35 : decode cX7_doubleRest 35 = .ok (.dload 7, 2) := by decide +kernel
theorem dX7_doubleRest_37 : decode cX7_doubleRest 37 = .ok (.dadd, 1) := by decide +kernel
theorem dX7_doubleRest_38 : decode cX7_doubleRest 38 = .ok (.dload 4, 2) := by decide +kernel
theorem dX7_doubleRest_40 : decode cX7_doubleRest 40 = .ok (.dcmp .g, 1) := by decide +kernel
theorem dX7_doubleRest_41 : decode cX7_doubleRest 41 = .ok (.ifCond .gt 16, 3) := by decide +kernel
theorem dX7_doubleRest_44 : decode cX7_doubleRest 44 = .ok (.dload 7, 2) := by decide +kernel
theorem dX7_doubleRest_46 : decode cX7_doubleRest 46 = .ok (.dload 7, 2) := by decide +kernel
theorem dX7_doubleRest_48 : decode cX7_doubleRest 48 = .ok (.dadd, 1) := by decide +kernel
theorem dX7_doubleRest_49 : decode cX7_doubleRest 49 = .ok (.dstore 7, 2) := by decide +kernel
theorem dX7_doubleRest_51 : decode cX7_doubleRest 51 = .ok (.iinc 9 1, 3) := by decide +kernel
theorem dX7_doubleRest_54 : decode cX7_doubleRest 54 = .ok (.goto (-28), 3) := by decide +kernel
theorem dX7_doubleRest_57 : decode cX7_doubleRest 57 = .ok (.dload 4, 2) := by decide +kernel
theorem dX7_doubleRest_59 : decode cX7_doubleRest 59 = .ok (.dload 7, 2) := by decide +kernel
theorem dX7_doubleRest_61 : decode cX7_doubleRest 61 = .ok (.dsub, 1) := by decide +kernel
theorem dX7_doubleRest_62 : decode cX7_doubleRest 62 = .ok (.dstore 4, 2) := by decide +kernel
theorem dX7_doubleRest_64 : decode cX7_doubleRest 64 = .ok (.iinc 6 1, 3) := by decide +kernel
theorem dX7_doubleRest_67 : decode cX7_doubleRest 67 = .ok (.goto (-61), 3) := by decide +kernel
theorem dX7_doubleRest_70 : decode cX7_doubleRest 70 = .ok (.dload 4, 2) := by decide +kernel
theorem dX7_doubleRest_72 : decode cX7_doubleRest 72 = .ok (.dreturn, 1) := by decide +kernel
theorem dX7_floatRest_0 : decode cX7_floatRest 0 = .ok (.fload_n 0, 1) := by decide +kernel
theorem dX7_floatRest_1 : decode cX7_floatRest 1 = .ok (.fstore_n 2, 1) := by decide +kernel
theorem dX7_floatRest_2 : decode cX7_floatRest 2 = .ok (.iconst 0, 1) := by decide +kernel
theorem dX7_floatRest_3 : decode cX7_floatRest 3 = .ok (.istore_n 3, 1) := by decide +kernel
theorem dX7_floatRest_4 : decode cX7_floatRest 4 = .ok (.iload_n 3, 1) := by decide +kernel
theorem dX7_floatRest_5 : decode cX7_floatRest 5 = .ok (.bipush 64, 2) := by decide +kernel
theorem dX7_floatRest_7 : decode cX7_floatRest 7 = .ok (.if_icmp .ge 56, 3) := by decide +kernel
theorem dX7_floatRest_10 : decode cX7_floatRest 10 = .ok (.fload_n 2, 1) := by decide +kernel
theorem dX7_floatRest_11 : decode cX7_floatRest 11 = .ok (.fload_n 1, 1) := by decide +kernel
theorem dX7_floatRest_12 : decode cX7_floatRest 12 = .ok (.fcmp .l, 1) := by decide +kernel
theorem dX7_floatRest_13 : decode cX7_floatRest 13 = .ok (.ifCond .lt 50, 3) := by decide +kernel
theorem dX7_floatRest_16 : decode cX7_floatRest 16 = .ok (.fload_n 1, 1) := by decide +kernel
theorem dX7_floatRest_17 : decode cX7_floatRest 17 = .ok (.fstore 4, 2) := by decide +kernel
theorem dX7_floatRest_19 : decode cX7_floatRest 19 = .ok (.iconst 0, 1) := by decide +kernel
theorem dX7_floatRest_20 : decode cX7_floatRest 20 = .ok (.istore 5, 2) := by decide +kernel
theorem dX7_floatRest_22 : decode cX7_floatRest 22 = .ok (.iload 5, 2) := by decide +kernel
theorem dX7_floatRest_24 : decode cX7_floatRest 24 = .ok (.bipush 64, 2) := by decide +kernel
theorem dX7_floatRest_26 : decode cX7_floatRest 26 = .ok (.if_icmp .ge 26, 3) := by decide +kernel
theorem dX7_floatRest_29 : decode cX7_floatRest 29 = .ok (.fload 4, 2) := by decide +kernel
theorem dX7_floatRest_31 : decode cX7_floatRest 31 = .ok (.fload 4, 2) := by decide +kernel
theorem dX7_floatRest_33 : decode cX7_floatRest 33 = .ok (.fadd, 1) := by decide +kernel
theorem dX7_floatRest_34 : decode cX7_floatRest 34 = .ok (.fload_n 2, 1) := by decide +kernel
theorem dX7_floatRest_35 : decode cX7_floatRest 35 = .ok (.fcmp .g, 1) := by decide +kernel
theorem dX7_floatRest_36 : decode cX7_floatRest 36 = .ok (.ifCond .gt 16, 3) := by decide +kernel
theorem dX7_floatRest_39 : decode cX7_floatRest 39 = .ok (.fload 4, 2) := by decide +kernel
theorem dX7_floatRest_41 : decode cX7_floatRest 41 = .ok (.fload 4, 2) := by decide +kernel
theorem dX7_floatRest_43 : decode cX7_floatRest 43 = .ok (.fadd, 1) := by decide +kernel
theorem dX7_floatRest_44 : decode cX7_floatRest 44 = .ok (.fstore 4, 2) := by decide +kernel
theorem dX7_floatRest_46 : decode cX7_floatRest 46 = .ok (.iinc 5 1, 3) := by decide +kernel
theorem dX7_floatRest_49 : decode cX7_floatRest 49 = .ok (.goto (-27), 3) := by decide +kernel
theorem dX7_floatRest_52 : decode cX7_floatRest 52 = .ok (.fload_n 2, 1) := by decide +kernel
theorem dX7_floatRest_53 : decode cX7_floatRest 53 = .ok (.fload 4, 2) := by decide +kernel
theorem dX7_floatRest_55 : decode cX7_floatRest 55 = .ok (.fsub, 1) := by decide +kernel
theorem dX7_floatRest_56 : decode cX7_floatRest 56 = .ok (.fstore_n 2, 1) := by decide +kernel
theorem dX7_floatRest_57 : decode cX7_floatRest 57 = .ok (.iinc 3 1, 3) := by decide +kernel
theorem dX7_floatRest_60 : decode cX7_floatRest 60 = .ok (.goto (-56), 3) := by decide +kernel
theorem dX7_floatRest_63 : decode cX7_floatRest 63 = .ok (.fload_n 2, 1) := by decide +kernel
theorem dX7_floatRest_64 : decode cX7_floatRest 64 = .ok (.freturn, 1) := by decide +kernel
theorem dX8_init_0 : decode cX8_init 0 = .ok (.aload_n 0, 1) := by decide +kernel
theorem dX8_init_1 : decode cX8_init 1 = .ok (.invokespecial 3, 3) := by decide +kernel
theorem dX8_init_4 : decode cX8_init 4 = .ok (.aload_n 0, 1) := by decide +kernel
theorem dX8_init_5 : decode cX8_init 5 = .ok (.sipush 192, 3) := by decide +kernel
theorem dX8_init_8 : decode cX8_init 8 = .ok (.newarray .int, 2) := by decide +kernel
theorem dX8_init_10 : decode cX8_init 10 = .ok (.putfield 9, 3) := by decide +kernel
theorem dX8_init_13 : decode cX8_init 13 = .ok (.return_, 1) := by decide +kernel
theorem dX8_of_0 : decode cX8_of 0 = .ok (.aload_n 0, 1) := by decide +kernel
theorem dX8_of_1 : decode cX8_of 1 = .ok (.getfield 9, 3) := by decide +kernel
theorem dX8_of_4 : decode cX8_of 4 = .ok (.iload_n 1, 1) := by decide +kernel
theorem dX8_of_5 : decode cX8_of 5 = .ok (.bipush 64, 2) := by decide +kernel
theorem dX8_of_7 : decode cX8_of 7 = .ok (.imul, 1) := by decide +kernel
theorem dX8_of_8 : decode cX8_of 8 = .ok (.iload_n 2, 1) := by decide +kernel
theorem dX8_of_9 : decode cX8_of 9 = .ok (.iadd, 1) := by decide +kernel
theorem dX8_of_10 : decode cX8_of 10 = .ok (.iaload, 1) := by decide +kernel
theorem dX8_of_11 : decode cX8_of 11 = .ok (.ireturn, 1) := by decide +kernel
theorem dX8_fillForward_0 : decode cX8_fillForward 0 = .ok (.iconst 0, 1) := by decide +kernel
theorem dX8_fillForward_1 : decode cX8_fillForward 1 = .ok (.istore_n 2, 1) := by decide +kernel
theorem dX8_fillForward_2 : decode cX8_fillForward 2 = .ok (.iload_n 2, 1) := by decide +kernel
theorem dX8_fillForward_3 : decode cX8_fillForward 3 = .ok (.iconst 3, 1) := by decide +kernel
theorem dX8_fillForward_4 : decode cX8_fillForward 4 = .ok (.if_icmp .ge 55, 3) := by decide +kernel
theorem dX8_fillForward_7 : decode cX8_fillForward 7 = .ok (.iconst 0, 1) := by decide +kernel
theorem dX8_fillForward_8 : decode cX8_fillForward 8 = .ok (.istore_n 3, 1) := by decide +kernel
theorem dX8_fillForward_9 : decode cX8_fillForward 9 = .ok (.iload_n 3, 1) := by decide +kernel
theorem dX8_fillForward_10 : decode cX8_fillForward 10 = .ok (.aload_n 1, 1) := by decide +kernel
theorem dX8_fillForward_11 : decode cX8_fillForward 11 = .ok (.getfield 15, 3) := by decide +kernel
theorem dX8_fillForward_14 : decode cX8_fillForward 14 = .ok (.if_icmp .ge 30, 3) := by decide +kernel
theorem dX8_fillForward_17 : decode cX8_fillForward 17 = .ok (.aload_n 0, 1) := by decide +kernel
theorem dX8_fillForward_18 : decode cX8_fillForward 18 = .ok (.getfield 9, 3) := by decide +kernel
theorem dX8_fillForward_21 : decode cX8_fillForward 21 = .ok (.iload_n 2, 1) := by decide +kernel
theorem dX8_fillForward_22 : decode cX8_fillForward 22 = .ok (.bipush 64, 2) := by decide +kernel
theorem dX8_fillForward_24 : decode cX8_fillForward 24 = .ok (.imul, 1) := by decide +kernel
theorem dX8_fillForward_25 : decode cX8_fillForward 25 = .ok (.iconst 1, 1) := by decide +kernel
theorem dX8_fillForward_26 : decode cX8_fillForward 26 = .ok (.iload_n 3, 1) := by decide +kernel
theorem dX8_fillForward_27 : decode cX8_fillForward 27 = .ok (.ishl, 1) := by decide +kernel
theorem dX8_fillForward_28 : decode cX8_fillForward 28 = .ok (.iadd, 1) := by decide +kernel
theorem dX8_fillForward_29 : decode cX8_fillForward 29 = .ok (.iconst 1, 1) := by decide +kernel
theorem dX8_fillForward_30 : decode cX8_fillForward 30 = .ok (.aload_n 1, 1) := by decide +kernel
theorem dX8_fillForward_31 : decode cX8_fillForward 31 = .ok (.iload_n 3, 1) := by decide +kernel
theorem dX8_fillForward_32 : decode cX8_fillForward 32 = .ok (.iload_n 2, 1) := by decide +kernel
theorem dX8_fillForward_33 : decode cX8_fillForward 33 = .ok (.invokevirtual 21, 3) := by decide +kernel
theorem dX8_fillForward_36 : decode cX8_fillForward 36 = .ok (.ishl, 1) := by decide +kernel
theorem dX8_fillForward_37 : decode cX8_fillForward 37 = .ok (.iastore, 1) := by decide +kernel
theorem dX8_fillForward_38 : decode cX8_fillForward 38 = .ok (.iinc 3 1, 3) := by decide +kernel
theorem dX8_fillForward_41 : decode cX8_fillForward 41 = .ok (.goto (-32), 3) := by decide +kernel
theorem dX8_fillForward_44 : decode cX8_fillForward 44 = .ok (.aload_n 0, 1) := by decide +kernel
theorem dX8_fillForward_45 : decode cX8_fillForward 45 = .ok (.iload_n 2, 1) := by decide +kernel
theorem dX8_fillForward_46 : decode cX8_fillForward 46 = .ok (.aload_n 1, 1) := by decide +kernel
theorem dX8_fillForward_47 : decode cX8_fillForward 47 = .ok (.getfield 15, 3) := by decide +kernel
theorem dX8_fillForward_50 : decode cX8_fillForward 50 = .ok (.invokevirtual 25, 3) := by decide +kernel
theorem dX8_fillForward_53 : decode cX8_fillForward 53 = .ok (.iinc 2 1, 3) := by decide +kernel
theorem dX8_fillForward_56 : decode cX8_fillForward 56 = .ok (.goto (-54), 3) := by decide +kernel
theorem dX8_fillForward_59 : decode cX8_fillForward 59 = .ok (.return_, 1) := by decide +kernel
theorem dX8_fillBackward_0 : decode cX8_fillBackward 0 = .ok (.iconst 0, 1) := by decide +kernel
theorem dX8_fillBackward_1 : decode cX8_fillBackward 1 = .ok (.istore_n 2, 1) := by decide +kernel
theorem dX8_fillBackward_2 : decode cX8_fillBackward 2 = .ok (.iload_n 2, 1) := by decide +kernel
theorem dX8_fillBackward_3 : decode cX8_fillBackward 3 = .ok (.iconst 3, 1) := by decide +kernel
theorem dX8_fillBackward_4 : decode cX8_fillBackward 4 = .ok (.if_icmp .ge 88, 3) := by decide +kernel
theorem dX8_fillBackward_7 : decode cX8_fillBackward 7 = .ok (.iconst 0, 1) := by decide +kernel
theorem dX8_fillBackward_8 : decode cX8_fillBackward 8 = .ok (.istore_n 3, 1) := by decide +kernel
theorem dX8_fillBackward_9 : decode cX8_fillBackward 9 = .ok (.iload_n 3, 1) := by decide +kernel
theorem dX8_fillBackward_10 : decode cX8_fillBackward 10 = .ok (.aload_n 1, 1) := by decide +kernel
theorem dX8_fillBackward_11 : decode cX8_fillBackward 11 = .ok (.getfield 15, 3) := by decide +kernel
theorem dX8_fillBackward_14 : decode cX8_fillBackward 14 = .ok (.if_icmp .ge 23, 3) := by decide +kernel
theorem dX8_fillBackward_17 : decode cX8_fillBackward 17 = .ok (.aload_n 0, 1) := by decide +kernel
theorem dX8_fillBackward_18 : decode cX8_fillBackward 18 = .ok (.getfield 9, 3) := by decide +kernel
theorem dX8_fillBackward_21 : decode cX8_fillBackward 21 = .ok (.iload_n 2, 1) := by decide +kernel
theorem dX8_fillBackward_22 : decode cX8_fillBackward 22 = .ok (.bipush 64, 2) := by decide +kernel
theorem dX8_fillBackward_24 : decode cX8_fillBackward 24 = .ok (.imul, 1) := by decide +kernel
theorem dX8_fillBackward_25 : decode cX8_fillBackward 25 = .ok (.iconst 1, 1) := by decide +kernel
theorem dX8_fillBackward_26 : decode cX8_fillBackward 26 = .ok (.iload_n 3, 1) := by decide +kernel
theorem dX8_fillBackward_27 : decode cX8_fillBackward 27 = .ok (.ishl, 1) := by decide +kernel
theorem dX8_fillBackward_28 : decode cX8_fillBackward 28 = .ok (.iadd, 1) := by decide +kernel
theorem dX8_fillBackward_29 : decode cX8_fillBackward 29 = .ok (.iconst 0, 1) := by decide +kernel
theorem dX8_fillBackward_30 : decode cX8_fillBackward 30 = .ok (.iastore, 1) := by decide +kernel
theorem dX8_fillBackward_31 : decode cX8_fillBackward 31 = .ok (.iinc 3 1, 3) := by decide +kernel
theorem dX8_fillBackward_34 : decode cX8_fillBackward 34 = .ok (.goto (-25), 3) := by decide +kernel
theorem dX8_fillBackward_37 : decode cX8_fillBackward 37 = .ok (.iconst 0, 1) := by decide +kernel
theorem dX8_fillBackward_38 : decode cX8_fillBackward 38 = .ok (.istore_n 3, 1) := by decide +kernel
theorem dX8_fillBackward_39 : decode cX8_fillBackward 39 = .ok (.iload_n 3, 1) := by decide +kernel
theorem dX8_fillBackward_40 : decode cX8_fillBackward 40 = .ok (.aload_n 1, 1) := by decide +kernel
theorem dX8_fillBackward_41 : decode cX8_fillBackward 41 = .ok (.getfield 15, 3) := by decide +kernel
theorem dX8_fillBackward_44 : decode cX8_fillBackward 44 = .ok (.if_icmp .ge 33, 3) := by decide +kernel
theorem dX8_fillBackward_47 : decode cX8_fillBackward 47 = .ok (.aload_n 0, 1) := by decide +kernel
theorem dX8_fillBackward_48 : decode cX8_fillBackward 48 = .ok (.getfield 9, 3) := by decide +kernel
theorem dX8_fillBackward_51 : decode cX8_fillBackward 51 = .ok (.iload_n 2, 1) := by decide +kernel
theorem dX8_fillBackward_52 : decode cX8_fillBackward 52 = .ok (.bipush 64, 2) := by decide +kernel
theorem dX8_fillBackward_54 : decode cX8_fillBackward 54 = .ok (.imul, 1) := by decide +kernel
theorem dX8_fillBackward_55 : decode cX8_fillBackward 55 = .ok (.iconst 1, 1) := by decide +kernel
theorem dX8_fillBackward_56 : decode cX8_fillBackward 56 = .ok (.aload_n 1, 1) := by decide +kernel
theorem dX8_fillBackward_57 : decode cX8_fillBackward 57 = .ok (.iload_n 3, 1) := by decide +kernel
theorem dX8_fillBackward_58 : decode cX8_fillBackward 58 = .ok (.iload_n 2, 1) := by decide +kernel
theorem dX8_fillBackward_59 : decode cX8_fillBackward 59 = .ok (.invokevirtual 21, 3) := by decide +kernel
theorem dX8_fillBackward_62 : decode cX8_fillBackward 62 = .ok (.ishl, 1) := by decide +kernel
theorem dX8_fillBackward_63 : decode cX8_fillBackward 63 = .ok (.iadd, 1) := by decide +kernel
theorem dX8_fillBackward_64 : decode cX8_fillBackward 64 = .ok (.dup2, 1) := by decide +kernel
theorem dX8_fillBackward_65 : decode cX8_fillBackward 65 = .ok (.iaload, 1) := by decide +kernel
theorem dX8_fillBackward_66 : decode cX8_fillBackward 66 = .ok (.iconst 1, 1) := by decide +kernel
theorem dX8_fillBackward_67 : decode cX8_fillBackward 67 = .ok (.iload_n 3, 1) := by decide +kernel
theorem dX8_fillBackward_68 : decode cX8_fillBackward 68 = .ok (.ishl, 1) := by decide +kernel
theorem dX8_fillBackward_69 : decode cX8_fillBackward 69 = .ok (.ior, 1) := by decide +kernel
theorem dX8_fillBackward_70 : decode cX8_fillBackward 70 = .ok (.iastore, 1) := by decide +kernel
theorem dX8_fillBackward_71 : decode cX8_fillBackward 71 = .ok (.iinc 3 1, 3) := by decide +kernel
theorem dX8_fillBackward_74 : decode cX8_fillBackward 74 = .ok (.goto (-35), 3) := by decide +kernel
theorem dX8_fillBackward_77 : decode cX8_fillBackward 77 = .ok (.aload_n 0, 1) := by decide +kernel
theorem dX8_fillBackward_78 : decode cX8_fillBackward 78 = .ok (.iload_n 2, 1) := by decide +kernel
theorem dX8_fillBackward_79 : decode cX8_fillBackward 79 = .ok (.aload_n 1, 1) := by decide +kernel
theorem dX8_fillBackward_80 : decode cX8_fillBackward 80 = .ok (.getfield 15, 3) := by decide +kernel
theorem dX8_fillBackward_83 : decode cX8_fillBackward 83 = .ok (.invokevirtual 25, 3) := by decide +kernel
theorem dX8_fillBackward_86 : decode cX8_fillBackward 86 = .ok (.iinc 2 1, 3) := by decide +kernel
theorem dX8_fillBackward_89 : decode cX8_fillBackward 89 = .ok (.goto (-87), 3) := by decide +kernel
theorem dX8_fillBackward_92 : decode cX8_fillBackward 92 = .ok (.return_, 1) := by decide +kernel
theorem dX8_joinSingles_0 : decode cX8_joinSingles 0 = .ok (.aload_n 0, 1) := by decide +kernel
theorem dX8_joinSingles_1 : decode cX8_joinSingles 1 = .ok (.getfield 9, 3) := by decide +kernel
theorem dX8_joinSingles_4 : decode cX8_joinSingles 4 = .ok (.iload_n 1, 1) := by decide +kernel
theorem dX8_joinSingles_5 : decode cX8_joinSingles 5 = .ok (.bipush 64, 2) := by decide +kernel
theorem dX8_joinSingles_7 : decode cX8_joinSingles 7 = .ok (.imul, 1) := by decide +kernel
theorem dX8_joinSingles_8 : decode cX8_joinSingles 8 = .ok (.iconst 0, 1) := by decide +kernel
theorem dX8_joinSingles_9 : decode cX8_joinSingles 9 = .ok (.iastore, 1) := by decide +kernel
theorem dX8_joinSingles_10 : decode cX8_joinSingles 10 = .ok (.iconst 1, 1) := by decide +kernel
theorem dX8_joinSingles_11 : decode cX8_joinSingles 11 = .ok (.istore_n 3, 1) := by decide +kernel
theorem dX8_joinSingles_12 : decode cX8_joinSingles 12 = .ok (.iload_n 3, 1) := by decide +kernel
theorem dX8_joinSingles_13 : decode cX8_joinSingles 13 = .ok (.iconst 1, 1) := by decide +kernel
theorem dX8_joinSingles_14 : decode cX8_joinSingles 14 = .ok (.iload_n 2, 1) := by decide +kernel
theorem dX8_joinSingles_15 : decode cX8_joinSingles 15 = .ok (.ishl, 1) := by decide +kernel
theorem dX8_joinSingles_16 : decode cX8_joinSingles 16 = .ok (.if_icmp .ge 49, 3) := by decide +kernel
theorem dX8_joinSingles_19 : decode cX8_joinSingles 19 = .ok (.iload_n 3, 1) := by decide +kernel
theorem dX8_joinSingles_20 : decode cX8_joinSingles 20 = .ok (.iload_n 3, 1) := by decide +kernel
theorem dX8_joinSingles_21 : decode cX8_joinSingles 21 = .ok (.iconst 1, 1) := by decide +kernel
theorem dX8_joinSingles_22 : decode cX8_joinSingles 22 = .ok (.isub, 1) := by decide +kernel
theorem dX8_joinSingles_23 : decode cX8_joinSingles 23 = .ok (.iand, 1) := by decide +kernel
theorem dX8_joinSingles_24 : decode cX8_joinSingles 24 = .ok (.istore 4, 2) := by decide +kernel
theorem dX8_joinSingles_26 : decode cX8_joinSingles 26 = .ok (.iload 4, 2) := by decide +kernel
theorem dX8_joinSingles_28 : decode cX8_joinSingles 28 = .ok (.ifCond .eq 31, 3) := by decide +kernel
theorem dX8_joinSingles_31 : decode cX8_joinSingles 31 = .ok (.aload_n 0, 1) := by decide +kernel
theorem dX8_joinSingles_32 : decode cX8_joinSingles 32 = .ok (.getfield 9, 3) := by decide +kernel
theorem dX8_joinSingles_35 : decode cX8_joinSingles 35 = .ok (.iload_n 1, 1) := by decide +kernel
theorem dX8_joinSingles_36 : decode cX8_joinSingles 36 = .ok (.bipush 64, 2) := by decide +kernel
theorem dX8_joinSingles_38 : decode cX8_joinSingles 38 = .ok (.imul, 1) := by decide +kernel
theorem dX8_joinSingles_39 : decode cX8_joinSingles 39 = .ok (.iload_n 3, 1) := by decide +kernel
theorem dX8_joinSingles_40 : decode cX8_joinSingles 40 = .ok (.iadd, 1) := by decide +kernel
theorem dX8_joinSingles_41 : decode cX8_joinSingles 41 = .ok (.aload_n 0, 1) := by decide +kernel
theorem dX8_joinSingles_42 : decode cX8_joinSingles 42 = .ok (.iload_n 1, 1) := by decide +kernel
theorem dX8_joinSingles_43 : decode cX8_joinSingles 43 = .ok (.iload 4, 2) := by decide +kernel
theorem dX8_joinSingles_45 : decode cX8_joinSingles 45 = .ok (.invokevirtual 29, 3) := by decide +kernel
theorem dX8_joinSingles_48 : decode cX8_joinSingles 48 = .ok (.aload_n 0, 1) := by decide +kernel
theorem dX8_joinSingles_49 : decode cX8_joinSingles 49 = .ok (.iload_n 1, 1) := by decide +kernel
theorem dX8_joinSingles_50 : decode cX8_joinSingles 50 = .ok (.iload_n 3, 1) := by decide +kernel
theorem dX8_joinSingles_51 : decode cX8_joinSingles 51 = .ok (.iload_n 3, 1) := by decide +kernel
theorem dX8_joinSingles_52 : decode cX8_joinSingles 52 = .ok (.ineg, 1) := by decide +kernel
theorem dX8_joinSingles_53 : decode cX8_joinSingles 53 = .ok (.iand, 1) := by decide +kernel
theorem dX8_joinSingles_54 : decode cX8_joinSingles 54 = .ok (.invokevirtual 29, 3) := by decide +kernel
theorem dX8_joinSingles_57 : decode cX8_joinSingles 57 = .ok (.ior, 1) := by decide +kernel
theorem dX8_joinSingles_58 : decode cX8_joinSingles 58 = .ok (.iastore, 1) := by decide +kernel
theorem dX8_joinSingles_59 : decode cX8_joinSingles 59 = .ok (.iinc 3 1, 3) := by decide +kernel
theorem dX8_joinSingles_62 : decode cX8_joinSingles 62 = .ok (.goto (-50), 3) := by decide +kernel
theorem dX8_joinSingles_65 : decode cX8_joinSingles 65 = .ok (.return_, 1) := by decide +kernel
theorem dX9_init_0 : decode cX9_init 0 = .ok (.aload_n 0, 1) := by decide +kernel
theorem dX9_init_1 : decode cX9_init 1 = .ok (.invokespecial 3, 3) := by decide +kernel
theorem dX9_init_4 : decode cX9_init 4 = .ok (.aload_n 0, 1) := by decide +kernel
theorem dX9_init_5 : decode cX9_init 5 = .ok (.iconst 0, 1) := by decide +kernel
theorem dX9_init_6 : decode cX9_init 6 = .ok (.putfield 9, 3) := by decide +kernel
theorem dX9_init_9 : decode cX9_init 9 = .ok (.aload_n 0, 1) := by decide +kernel
theorem dX9_init_10 : decode cX9_init 10 = .ok (.new 15, 3) := by decide +kernel
theorem dX9_init_13 : decode cX9_init 13 = .ok (.dup, 1) := by decide +kernel
theorem dX9_init_14 : decode cX9_init 14 = .ok (.invokespecial 17, 3) := by decide +kernel
theorem dX9_init_17 : decode cX9_init 17 = .ok (.putfield 18, 3) := by decide +kernel
theorem dX9_init_20 : decode cX9_init 20 = .ok (.return_, 1) := by decide +kernel
theorem dX9_prepare_0 : decode cX9_prepare 0 = .ok (.aload_n 0, 1) := by decide +kernel
theorem dX9_prepare_1 : decode cX9_prepare 1 = .ok (.aload_n 1, 1) := by decide +kernel
theorem dX9_prepare_2 : decode cX9_prepare 2 = .ok (.getfield 22, 3) := by decide +kernel
theorem dX9_prepare_5 : decode cX9_prepare 5 = .ok (.putfield 9, 3) := by decide +kernel
theorem dX9_prepare_8 : decode cX9_prepare 8 = .ok (.aload_n 0, 1) := by decide +kernel
theorem dX9_prepare_9 : decode cX9_prepare 9 = .ok (.getfield 18, 3) := by decide +kernel
theorem dX9_prepare_12 : decode cX9_prepare 12 = .ok (.aload_n 1, 1) := by decide +kernel
theorem dX9_prepare_13 : decode cX9_prepare 13 = .ok (.invokevirtual 25, 3) := by decide +kernel
theorem dX9_prepare_16 : decode cX9_prepare 16 = .ok (.return_, 1) := by decide +kernel
theorem dX9_codeBound_0 : decode cX9_codeBound 0 = .ok (.bipush 65, 2) := by decide +kernel
theorem dX9_codeBound_2 : decode cX9_codeBound 2 = .ok (.ireturn, 1) := by decide +kernel
theorem dX9_startCode_0 : decode cX9_startCode 0 = .ok (.bipush 64, 2) := by decide +kernel
theorem dX9_startCode_2 : decode cX9_startCode 2 = .ok (.ireturn, 1) := by decide +kernel
theorem dX9_follow_0 : decode cX9_follow 0 = .ok (.aload_n 0, 1) := by decide +kernel
theorem dX9_follow_1 : decode cX9_follow 1 = .ok (.getfield 18, 3) := by decide +kernel
theorem dX9_follow_4 : decode cX9_follow 4 = .ok (.iload_n 2, 1) := by decide +kernel
theorem dX9_follow_5 : decode cX9_follow 5 = .ok (.iload_n 1, 1) := by decide +kernel
theorem dX9_follow_6 : decode cX9_follow 6 = .ok (.bipush 64, 2) := by decide +kernel
theorem dX9_follow_8 : decode cX9_follow 8 = .ok (.if_icmp .ne 7, 3) := by decide +kernel
theorem dX9_follow_11 : decode cX9_follow 11 = .ok (.iconst 1, 1) := by decide +kernel
theorem dX9_follow_12 : decode cX9_follow 12 = .ok (.goto 4, 3) := by decide +kernel
theorem dX9_follow_15 : decode cX9_follow 15 = .ok (.iload_n 1, 1) := by decide +kernel
theorem dX9_follow_16 : decode cX9_follow 16 = .ok (.invokevirtual 29, 3) := by decide +kernel
theorem dX9_follow_19 : decode cX9_follow 19 = .ok (.istore_n 3, 1) := by decide +kernel
theorem dX9_follow_20 : decode cX9_follow 20 = .ok (.iload_n 3, 1) := by decide +kernel
theorem dX9_follow_21 : decode cX9_follow 21 = .ok (.aload_n 0, 1) := by decide +kernel
theorem dX9_follow_22 : decode cX9_follow 22 = .ok (.getfield 9, 3) := by decide +kernel
theorem dX9_follow_25 : decode cX9_follow 25 = .ok (.iand, 1) := by decide +kernel
theorem dX9_follow_26 : decode cX9_follow 26 = .ok (.ifCond .eq 9, 3) := by decide +kernel
theorem dX9_follow_29 : decode cX9_follow 29 = .ok (.iload_n 3, 1) := by decide +kernel
theorem dX9_follow_30 : decode cX9_follow 30 = .ok (.iconst 1, 1) := by decide +kernel
theorem dX9_follow_31 : decode cX9_follow 31 = .ok (.ior, 1) := by decide +kernel
theorem dX9_follow_32 : decode cX9_follow 32 = .ok (.goto 4, 3) := by decide +kernel
theorem dX9_follow_35 : decode cX9_follow 35 = .ok (.iload_n 3, 1) := by decide +kernel
theorem dX9_follow_36 : decode cX9_follow 36 = .ok (.ireturn, 1) := by decide +kernel
theorem dX9_isAccepting_0 : decode cX9_isAccepting 0 = .ok (.iload_n 1, 1) := by decide +kernel
theorem dX9_isAccepting_1 : decode cX9_isAccepting 1 = .ok (.bipush 64, 2) := by decide +kernel
theorem dX9_isAccepting_3 : decode cX9_isAccepting 3 = .ok (.if_icmp .eq 12, 3) := by decide +kernel
theorem dX9_isAccepting_6 : decode cX9_isAccepting 6 = .ok (.iload_n 1, 1) := by decide +kernel
theorem dX9_isAccepting_7 : decode cX9_isAccepting 7 = .ok (.aload_n 0, 1) := by decide +kernel
theorem dX9_isAccepting_8 : decode cX9_isAccepting 8 = .ok (.getfield 9, 3) := by decide +kernel
theorem dX9_isAccepting_11 : decode cX9_isAccepting 11 = .ok (.iand, 1) := by decide +kernel
theorem dX9_isAccepting_12 : decode cX9_isAccepting 12 = .ok (.ifCond .eq 7, 3) := by decide +kernel
theorem dX9_isAccepting_15 : decode cX9_isAccepting 15 = .ok (.iconst 1, 1) := by decide +kernel
theorem dX9_isAccepting_16 : decode cX9_isAccepting 16 = .ok (.goto 4, 3) := by decide +kernel
theorem dX9_isAccepting_19 : decode cX9_isAccepting 19 = .ok (.iconst 0, 1) := by decide +kernel
theorem dX9_isAccepting_20 : decode cX9_isAccepting 20 = .ok (.ireturn, 1) := by decide +kernel

theorem dX0_init_0 : decode cX0_init 0 = .ok (.aload_n 0, 1) := by decide +kernel
theorem dX0_init_1 : decode cX0_init 1 = .ok (.invokespecial 5, 3) := by decide +kernel
theorem dX0_init_4 : decode cX0_init 4 = .ok (.aload_n 0, 1) := by decide +kernel
theorem dX0_init_5 : decode cX0_init 5 = .ok (.bipush 10, 2) := by decide +kernel
theorem dX0_init_7 : decode cX0_init 7 = .ok (.newarray .int, 2) := by decide +kernel
theorem dX0_init_9 : decode cX0_init 9 = .ok (.putfield 11, 3) := by decide +kernel
theorem dX0_init_12 : decode cX0_init 12 = .ok (.aload_n 0, 1) := by decide +kernel
theorem dX0_init_13 : decode cX0_init 13 = .ok (.bipush 7, 2) := by decide +kernel
theorem dX0_init_15 : decode cX0_init 15 = .ok (.anewarray 15, 3) := by decide +kernel
theorem dX0_init_18 : decode cX0_init 18 = .ok (.putfield 17, 3) := by decide +kernel
theorem dX0_init_21 : decode cX0_init 21 = .ok (.aload_n 0, 1) := by decide +kernel
theorem dX0_init_22 : decode cX0_init 22 = .ok (.bipush 7, 2) := by decide +kernel
theorem dX0_init_24 : decode cX0_init 24 = .ok (.newarray .int, 2) := by decide +kernel
theorem dX0_init_26 : decode cX0_init 26 = .ok (.putfield 21, 3) := by decide +kernel
theorem dX0_init_29 : decode cX0_init 29 = .ok (.aload_n 0, 1) := by decide +kernel
theorem dX0_init_30 : decode cX0_init 30 = .ok (.sipush 128, 3) := by decide +kernel
theorem dX0_init_33 : decode cX0_init 33 = .ok (.newarray .long, 2) := by decide +kernel
theorem dX0_init_35 : decode cX0_init 35 = .ok (.putfield 24, 3) := by decide +kernel
theorem dX0_init_38 : decode cX0_init 38 = .ok (.aload_n 0, 1) := by decide +kernel
theorem dX0_init_39 : decode cX0_init 39 = .ok (.sipush 128, 3) := by decide +kernel
theorem dX0_init_42 : decode cX0_init 42 = .ok (.newarray .long, 2) := by decide +kernel
theorem dX0_init_44 : decode cX0_init 44 = .ok (.putfield 28, 3) := by decide +kernel
theorem dX0_init_47 : decode cX0_init 47 = .ok (.aload_n 0, 1) := by decide +kernel
theorem dX0_init_48 : decode cX0_init 48 = .ok (.sipush 128, 3) := by decide +kernel
theorem dX0_init_51 : decode cX0_init 51 = .ok (.newarray .boolean, 2) := by decide +kernel
theorem dX0_init_53 : decode cX0_init 53 = .ok (.putfield 31, 3) := by decide +kernel
theorem dX0_init_56 : decode cX0_init 56 = .ok (.aload_n 0, 1) := by decide +kernel
theorem dX0_init_57 : decode cX0_init 57 = .ok (.getfield 11, 3) := by decide +kernel
theorem dX0_init_60 : decode cX0_init 60 = .ok (.iconst 1, 1) := by decide +kernel
theorem dX0_init_61 : decode cX0_init 61 = .ok (.invokestatic 35, 3) := by decide +kernel
theorem dX0_init_64 : decode cX0_init 64 = .ok (.return_, 1) := by decide +kernel
theorem dX0_has_0 : decode cX0_has 0 = .ok (.iconst 0, 1) := by decide +kernel
theorem dX0_has_1 : decode cX0_has 1 = .ok (.istore_n 2, 1) := by decide +kernel
theorem dX0_has_2 : decode cX0_has 2 = .ok (.iload_n 2, 1) := by decide +kernel
theorem dX0_has_3 : decode cX0_has 3 = .ok (.aload_n 0, 1) := by decide +kernel
theorem dX0_has_4 : decode cX0_has 4 = .ok (.getfield 41, 3) := by decide +kernel
theorem dX0_has_7 : decode cX0_has 7 = .ok (.if_icmp .ge 21, 3) := by decide +kernel
theorem dX0_has_10 : decode cX0_has 10 = .ok (.aload_n 0, 1) := by decide +kernel
theorem dX0_has_11 : decode cX0_has 11 = .ok (.getfield 17, 3) := by decide +kernel
theorem dX0_has_14 : decode cX0_has 14 = .ok (.iload_n 2, 1) := by decide +kernel
theorem dX0_has_15 : decode cX0_has 15 = .ok (.aaload, 1) := by decide +kernel
theorem dX0_has_16 : decode cX0_has 16 = .ok (.aload_n 1, 1) := by decide +kernel
theorem dX0_has_17 : decode cX0_has 17 = .ok (.if_acmp .ne 5, 3) := by decide +kernel
theorem dX0_has_20 : decode cX0_has 20 = .ok (.iconst 1, 1) := by decide +kernel
theorem dX0_has_21 : decode cX0_has 21 = .ok (.ireturn, 1) := by decide +kernel
theorem dX0_has_22 : decode cX0_has 22 = .ok (.iinc 2 1, 3) := by decide +kernel
theorem dX0_has_25 : decode cX0_has 25 = .ok (.goto (-23), 3) := by decide +kernel
theorem dX0_has_28 : decode cX0_has 28 = .ok (.iconst 0, 1) := by decide +kernel
theorem dX0_has_29 : decode cX0_has 29 = .ok (.ireturn, 1) := by decide +kernel
theorem dX0_add_0 : decode cX0_add 0 = .ok (.aload_n 0, 1) := by decide +kernel
theorem dX0_add_1 : decode cX0_add 1 = .ok (.getfield 41, 3) := by decide +kernel
theorem dX0_add_4 : decode cX0_add 4 = .ok (.bipush 7, 2) := by decide +kernel
theorem dX0_add_6 : decode cX0_add 6 = .ok (.if_icmp .lt 5, 3) := by decide +kernel
theorem dX0_add_9 : decode cX0_add 9 = .ok (.iconst 0, 1) := by decide +kernel
theorem dX0_add_10 : decode cX0_add 10 = .ok (.ireturn, 1) := by decide +kernel
theorem dX0_add_11 : decode cX0_add 11 = .ok (.aload_n 0, 1) := by decide +kernel
theorem dX0_add_12 : decode cX0_add 12 = .ok (.getfield 17, 3) := by decide +kernel
theorem dX0_add_15 : decode cX0_add 15 = .ok (.aload_n 0, 1) := by decide +kernel
theorem dX0_add_16 : decode cX0_add 16 = .ok (.getfield 41, 3) := by decide +kernel
theorem dX0_add_19 : decode cX0_add 19 = .ok (.aload_n 1, 1) := by decide +kernel
theorem dX0_add_20 : decode cX0_add 20 = .ok (.aastore, 1) := by decide +kernel
theorem dX0_add_21 : decode cX0_add 21 = .ok (.aload_n 0, 1) := by decide +kernel
theorem dX0_add_22 : decode cX0_add 22 = .ok (.dup, 1) := by decide +kernel
theorem dX0_add_23 : decode cX0_add 23 = .ok (.getfield 41, 3) := by decide +kernel
theorem dX0_add_26 : decode cX0_add 26 = .ok (.iconst 1, 1) := by decide +kernel
theorem dX0_add_27 : decode cX0_add 27 = .ok (.iadd, 1) := by decide +kernel
theorem dX0_add_28 : decode cX0_add 28 = .ok (.putfield 41, 3) := by decide +kernel
theorem dX0_add_31 : decode cX0_add 31 = .ok (.iconst 1, 1) := by decide +kernel
theorem dX0_add_32 : decode cX0_add 32 = .ok (.ireturn, 1) := by decide +kernel
theorem dX0_settle_0 : decode cX0_settle 0 = .ok (.iconst 1, 1) := by decide +kernel
theorem dX0_settle_1 : decode cX0_settle 1 = .ok (.aload_n 0, 1) := by decide +kernel
theorem dX0_settle_2 : decode cX0_settle 2 = .ok (.getfield 41, 3) := by decide +kernel
theorem dX0_settle_5 : decode cX0_settle 5 = .ok (.ishl, 1) := by decide +kernel
theorem dX0_settle_6 : decode cX0_settle 6 = .ok (.istore_n 3, 1) := by decide +kernel
theorem dX0_settle_7 : decode cX0_settle 7 = .ok (.iconst 0, 1) := by decide +kernel
theorem dX0_settle_8 : decode cX0_settle 8 = .ok (.istore 4, 2) := by decide +kernel
theorem dX0_settle_10 : decode cX0_settle 10 = .ok (.iload 4, 2) := by decide +kernel
theorem dX0_settle_12 : decode cX0_settle 12 = .ok (.iload_n 3, 1) := by decide +kernel
theorem dX0_settle_13 : decode cX0_settle 13 = .ok (.if_icmp .ge 41, 3) := by decide +kernel
theorem dX0_settle_16 : decode cX0_settle 16 = .ok (.aload_n 0, 1) := by decide +kernel
theorem dX0_settle_17 : decode cX0_settle 17 = .ok (.getfield 31, 3) := by decide +kernel
theorem dX0_settle_20 : decode cX0_settle 20 = .ok (.iload 4, 2) := by decide +kernel
theorem dX0_settle_22 : decode cX0_settle 22 = .ok (.aload_n 0, 1) := by decide +kernel
theorem dX0_settle_23 : decode cX0_settle 23 = .ok (.iload 4, 2) := by decide +kernel
theorem dX0_settle_25 : decode cX0_settle 25 = .ok (.invokevirtual 45, 3) := by decide +kernel
theorem dX0_settle_28 : decode cX0_settle 28 = .ok (.bastore, 1) := by decide +kernel
theorem dX0_settle_29 : decode cX0_settle 29 = .ok (.aload_n 0, 1) := by decide +kernel
theorem dX0_settle_30 : decode cX0_settle 30 = .ok (.getfield 24, 3) := by decide +kernel
theorem dX0_settle_33 : decode cX0_settle 33 = .ok (.iload 4, 2) := by decide +kernel
theorem dX0_settle_35 : decode cX0_settle 35 = .ok (.iload 4, 2) := by decide +kernel
theorem dX0_settle_37 : decode cX0_settle 37 = .ok (.ifCond .ne 7, 3) := by decide +kernel
theorem dX0_settle_40 : decode cX0_settle 40 = .ok (.lconst 0, 1) := by decide +kernel
theorem dX0_settle_41 : decode cX0_settle 41 = .ok (.goto 6, 3) := by decide +kernel
theorem dX0_settle_44 : decode cX0_settle 44 = .ok (.ldc2_w 49, 3) := by decide +kernel
theorem dX0_settle_47 : decode cX0_settle 47 = .ok (.lastore, 1) := by decide +kernel
theorem dX0_settle_48 : decode cX0_settle 48 = .ok (.iinc 4 1, 3) := by decide +kernel
theorem dX0_settle_51 : decode cX0_settle 51 = .ok (.goto (-41), 3) := by decide +kernel
theorem dX0_settle_54 : decode cX0_settle 54 = .ok (.iconst 0, 1) := by decide +kernel
theorem dX0_settle_55 : decode cX0_settle 55 = .ok (.istore 4, 2) := by decide +kernel
theorem dX0_settle_57 : decode cX0_settle 57 = .ok (.iload 4, 2) := by decide +kernel
theorem dX0_settle_59 : decode cX0_settle 59 = .ok (.iload_n 2, 1) := by decide +kernel
theorem dX0_settle_60 : decode cX0_settle 60 = .ok (.if_icmp .ge 22, 3) := by decide +kernel
theorem dX0_settle_63 : decode cX0_settle 63 = .ok (.aload_n 0, 1) := by decide +kernel
theorem dX0_settle_64 : decode cX0_settle 64 = .ok (.iload_n 3, 1) := by decide +kernel
theorem dX0_settle_65 : decode cX0_settle 65 = .ok (.iload_n 1, 1) := by decide +kernel
theorem dX0_settle_66 : decode cX0_settle 66 = .ok (.iload 4, 2) := by decide +kernel
theorem dX0_settle_68 : decode cX0_settle 68 = .ok (.invokevirtual 51, 3) := by decide +kernel
theorem dX0_settle_71 : decode cX0_settle 71 = .ok (.aload_n 0, 1) := by decide +kernel
theorem dX0_settle_72 : decode cX0_settle 72 = .ok (.iload_n 3, 1) := by decide +kernel
theorem dX0_settle_73 : decode cX0_settle 73 = .ok (.invokevirtual 55, 3) := by decide +kernel
theorem dX0_settle_76 : decode cX0_settle 76 = .ok (.iinc 4 1, 3) := by decide +kernel
theorem dX0_settle_79 : decode cX0_settle 79 = .ok (.goto (-22), 3) := by decide +kernel
theorem dX0_settle_82 : decode cX0_settle 82 = .ok (.ldc2_w 49, 3) := by decide +kernel
theorem dX0_settle_85 : decode cX0_settle 85 = .ok (.lstore 4, 2) := by decide +kernel
theorem dX0_settle_87 : decode cX0_settle 87 = .ok (.iconst 0, 1) := by decide +kernel
theorem dX0_settle_88 : decode cX0_settle 88 = .ok (.istore 6, 2) := by decide +kernel
theorem dX0_settle_90 : decode cX0_settle 90 = .ok (.iload 6, 2) := by decide +kernel
theorem dX0_settle_92 : decode cX0_settle 92 = .ok (.iload_n 3, 1) := by decide +kernel
theorem dX0_settle_93 : decode cX0_settle 93 = .ok (.if_icmp .ge 34, 3) := by decide +kernel
theorem dX0_settle_96 : decode cX0_settle 96 = .ok (.lload 4, 2) := by decide +kernel
theorem dX0_settle_98 : decode cX0_settle 98 = .ok (.aload_n 0, 1) := by decide +kernel
theorem dX0_settle_99 : decode cX0_settle 99 = .ok (.getfield 24, 3) := by decide +kernel
theorem dX0_settle_102 : decode cX0_settle 102 = .ok (.iload 6, 2) := by decide +kernel
theorem dX0_settle_104 : decode cX0_settle 104 = .ok (.laload, 1) := by decide +kernel
theorem dX0_settle_105 : decode cX0_settle 105 = .ok (.aload_n 0, 1) := by decide +kernel
theorem dX0_settle_106 : decode cX0_settle 106 = .ok (.iload_n 3, 1) := by decide +kernel
theorem dX0_settle_107 : decode cX0_settle 107 = .ok (.iconst 1, 1) := by decide +kernel
theorem dX0_settle_108 : decode cX0_settle 108 = .ok (.isub, 1) := by decide +kernel
theorem dX0_settle_109 : decode cX0_settle 109 = .ok (.iload 6, 2) := by decide +kernel
theorem dX0_settle_111 : decode cX0_settle 111 = .ok (.isub, 1) := by decide +kernel
theorem dX0_settle_112 : decode cX0_settle 112 = .ok (.invokevirtual 59, 3) := by decide +kernel
theorem dX0_settle_115 : decode cX0_settle 115 = .ok (.ladd, 1) := by decide +kernel
theorem dX0_settle_116 : decode cX0_settle 116 = .ok (.invokestatic 63, 3) := by decide +kernel
theorem dX0_settle_119 : decode cX0_settle 119 = .ok (.lstore 4, 2) := by decide +kernel
theorem dX0_settle_121 : decode cX0_settle 121 = .ok (.iinc 6 1, 3) := by decide +kernel
theorem dX0_settle_124 : decode cX0_settle 124 = .ok (.goto (-34), 3) := by decide +kernel
theorem dX0_settle_127 : decode cX0_settle 127 = .ok (.aload_n 0, 1) := by decide +kernel
theorem dX0_settle_128 : decode cX0_settle 128 = .ok (.lload 4, 2) := by decide +kernel
theorem dX0_settle_130 : decode cX0_settle 130 = .ok (.iload_n 1, 1) := by decide +kernel
theorem dX0_settle_131 : decode cX0_settle 131 = .ok (.invokevirtual 69, 3) := by decide +kernel
theorem dX0_settle_134 : decode cX0_settle 134 = .ok (.lload 4, 2) := by decide +kernel
theorem dX0_settle_136 : decode cX0_settle 136 = .ok (.ldc2_w 73, 3) := by decide +kernel
theorem dX0_settle_139 : decode cX0_settle 139 = .ok (.ldiv, 1) := by decide +kernel
theorem dX0_settle_140 : decode cX0_settle 140 = .ok (.l2i, 1) := by decide +kernel
theorem dX0_settle_141 : decode cX0_settle 141 = .ok (.ireturn, 1) := by decide +kernel
theorem dX0_areEnough_0 : decode cX0_areEnough 0 = .ok (.iconst 0, 1) := by decide +kernel
theorem dX0_areEnough_1 : decode cX0_areEnough 1 = .ok (.istore_n 2, 1) := by decide +kernel
theorem dX0_areEnough_2 : decode cX0_areEnough 2 = .ok (.iload_n 2, 1) := by decide +kernel
theorem dX0_areEnough_3 : decode cX0_areEnough 3 = .ok (.aload_n 0, 1) := by decide +kernel
theorem dX0_areEnough_4 : decode cX0_areEnough 4 = .ok (.getfield 41, 3) := by decide +kernel
theorem dX0_areEnough_7 : decode cX0_areEnough 7 = .ok (.if_icmp .ge 102, 3) := by decide +kernel
theorem dX0_areEnough_10 : decode cX0_areEnough 10 = .ok (.aload_n 0, 1) := by decide +kernel
theorem dX0_areEnough_11 : decode cX0_areEnough 11 = .ok (.getfield 17, 3) := by decide +kernel
theorem dX0_areEnough_14 : decode cX0_areEnough 14 = .ok (.iload_n 2, 1) := by decide +kernel
theorem dX0_areEnough_15 : decode cX0_areEnough 15 = .ok (.aaload, 1) := by decide +kernel
theorem dX0_areEnough_16 : decode cX0_areEnough 16 = .ok (.getfield 75, 3) := by decide +kernel
theorem dX0_areEnough_19 : decode cX0_areEnough 19 = .ok (.getfield 79, 3) := by decide +kernel
theorem dX0_areEnough_22 : decode cX0_areEnough 22 = .ok (.istore_n 3, 1) := by decide +kernel
theorem dX0_areEnough_23 : decode cX0_areEnough 23 = .ok (.iconst 0, 1) := by decide +kernel
theorem dX0_areEnough_24 : decode cX0_areEnough 24 = .ok (.istore 4, 2) := by decide +kernel
theorem dX0_areEnough_26 : decode cX0_areEnough 26 = .ok (.iconst 0, 1) := by decide +kernel
theorem dX0_areEnough_27 : decode cX0_areEnough 27 = .ok (.istore 5, 2) := by decide +kernel
theorem dX0_areEnough_29 : decode cX0_areEnough 29 = .ok (.iload 5, 2) := by decide +kernel
theorem dX0_areEnough_31 : decode cX0_areEnough 31 = .ok (.aload_n 0, 1) := by decide +kernel
theorem dX0_areEnough_32 : decode cX0_areEnough 32 = .ok (.getfield 41, 3) := by decide +kernel
theorem dX0_areEnough_35 : decode cX0_areEnough 35 = .ok (.if_icmp .ge 46, 3) := by decide +kernel
theorem dX0_areEnough_38 : decode cX0_areEnough 38 = .ok (.iload 4, 2) := by decide +kernel
theorem dX0_areEnough_40 : decode cX0_areEnough 40 = .ok (.iload_n 1, 1) := by decide +kernel
theorem dX0_areEnough_41 : decode cX0_areEnough 41 = .ok (.iload 5, 2) := by decide +kernel
theorem dX0_areEnough_43 : decode cX0_areEnough 43 = .ok (.ishr, 1) := by decide +kernel
theorem dX0_areEnough_44 : decode cX0_areEnough 44 = .ok (.iconst 1, 1) := by decide +kernel
theorem dX0_areEnough_45 : decode cX0_areEnough 45 = .ok (.iand, 1) := by decide +kernel
theorem dX0_areEnough_46 : decode cX0_areEnough 46 = .ok (.iconst 1, 1) := by decide +kernel
theorem dX0_areEnough_47 : decode cX0_areEnough 47 = .ok (.if_icmp .ne 24, 3) := by decide +kernel
theorem dX0_areEnough_50 : decode cX0_areEnough 50 = .ok (.aload_n 0, 1) := by decide +kernel
theorem dX0_areEnough_51 : decode cX0_areEnough 51 = .ok (.getfield 17, 3) := by decide +kernel
theorem dX0_areEnough_54 : decode cX0_areEnough 54 = .ok (.iload 5, 2) := by decide +kernel
theorem dX0_areEnough_56 : decode cX0_areEnough 56 = .ok (.aaload, 1) := by decide +kernel
theorem dX0_areEnough_57 : decode cX0_areEnough 57 = .ok (.getfield 75, 3) := by decide +kernel
theorem dX0_areEnough_60 : decode cX0_areEnough 60 = .ok (.getfield 79, 3) := by decide +kernel
theorem dX0_areEnough_63 : decode cX0_areEnough 63 = .ok (.iload_n 3, 1) := by decide +kernel
theorem dX0_areEnough_64 : decode cX0_areEnough 64 = .ok (.if_icmp .ne 7, 3) := by decide +kernel
theorem dX0_areEnough_67 : decode cX0_areEnough 67 = .ok (.iconst 1, 1) := by decide +kernel
theorem dX0_areEnough_68 : decode cX0_areEnough 68 = .ok (.goto 4, 3) := by decide +kernel
theorem dX0_areEnough_71 : decode cX0_areEnough 71 = .ok (.iconst 0, 1) := by decide +kernel
theorem dX0_areEnough_72 : decode cX0_areEnough 72 = .ok (.iadd, 1) := by decide +kernel
theorem dX0_areEnough_73 : decode cX0_areEnough 73 = .ok (.istore 4, 2) := by decide +kernel
theorem dX0_areEnough_75 : decode cX0_areEnough 75 = .ok (.iinc 5 1, 3) := by decide +kernel
theorem dX0_areEnough_78 : decode cX0_areEnough 78 = .ok (.goto (-49), 3) := by decide +kernel
theorem dX0_areEnough_81 : decode cX0_areEnough 81 = .ok (.iload_n 3, 1) := by decide +kernel
theorem dX0_areEnough_82 : decode cX0_areEnough 82 = .ok (.bipush 10, 2) := by decide +kernel
theorem dX0_areEnough_84 : decode cX0_areEnough 84 = .ok (.invokestatic 84, 3) := by decide +kernel
theorem dX0_areEnough_87 : decode cX0_areEnough 87 = .ok (.ifCond .eq 16, 3) := by decide +kernel
theorem dX0_areEnough_90 : decode cX0_areEnough 90 = .ok (.iload 4, 2) := by decide +kernel
theorem dX0_areEnough_92 : decode cX0_areEnough 92 = .ok (.aload_n 0, 1) := by decide +kernel
theorem dX0_areEnough_93 : decode cX0_areEnough 93 = .ok (.getfield 11, 3) := by decide +kernel
theorem dX0_areEnough_96 : decode cX0_areEnough 96 = .ok (.iload_n 3, 1) := by decide +kernel
theorem dX0_areEnough_97 : decode cX0_areEnough 97 = .ok (.iaload, 1) := by decide +kernel
theorem dX0_areEnough_98 : decode cX0_areEnough 98 = .ok (.if_icmp .le 5, 3) := by decide +kernel
theorem dX0_areEnough_101 : decode cX0_areEnough 101 = .ok (.iconst 0, 1) := by decide +kernel
theorem dX0_areEnough_102 : decode cX0_areEnough 102 = .ok (.ireturn, 1) := by decide +kernel
theorem dX0_areEnough_103 : decode cX0_areEnough 103 = .ok (.iinc 2 1, 3) := by decide +kernel
theorem dX0_areEnough_106 : decode cX0_areEnough 106 = .ok (.goto (-104), 3) := by decide +kernel
theorem dX0_areEnough_109 : decode cX0_areEnough 109 = .ok (.iconst 1, 1) := by decide +kernel
theorem dX0_areEnough_110 : decode cX0_areEnough 110 = .ok (.ireturn, 1) := by decide +kernel
theorem dX0_priceDay_0 : decode cX0_priceDay 0 = .ok (.aload_n 0, 1) := by decide +kernel
theorem dX0_priceDay_1 : decode cX0_priceDay 1 = .ok (.getfield 28, 3) := by decide +kernel
theorem dX0_priceDay_4 : decode cX0_priceDay 4 = .ok (.iconst 0, 1) := by decide +kernel
theorem dX0_priceDay_5 : decode cX0_priceDay 5 = .ok (.lconst 0, 1) := by decide +kernel
theorem dX0_priceDay_6 : decode cX0_priceDay 6 = .ok (.lastore, 1) := by decide +kernel
theorem dX0_priceDay_7 : decode cX0_priceDay 7 = .ok (.iconst 1, 1) := by decide +kernel
theorem dX0_priceDay_8 : decode cX0_priceDay 8 = .ok (.istore 4, 2) := by decide +kernel
theorem dX0_priceDay_10 : decode cX0_priceDay 10 = .ok (.iload 4, 2) := by decide +kernel
theorem dX0_priceDay_12 : decode cX0_priceDay 12 = .ok (.iload_n 1, 1) := by decide +kernel
theorem dX0_priceDay_13 : decode cX0_priceDay 13 = .ok (.if_icmp .ge 143, 3) := by decide +kernel
theorem dX0_priceDay_16 : decode cX0_priceDay 16 = .ok (.aload_n 0, 1) := by decide +kernel
theorem dX0_priceDay_17 : decode cX0_priceDay 17 = .ok (.iload 4, 2) := by decide +kernel
theorem dX0_priceDay_19 : decode cX0_priceDay 19 = .ok (.invokevirtual 88, 3) := by decide +kernel
theorem dX0_priceDay_22 : decode cX0_priceDay 22 = .ok (.istore 5, 2) := by decide +kernel
theorem dX0_priceDay_24 : decode cX0_priceDay 24 = .ok (.aload_n 0, 1) := by decide +kernel
theorem dX0_priceDay_25 : decode cX0_priceDay 25 = .ok (.getfield 17, 3) := by decide +kernel
theorem dX0_priceDay_28 : decode cX0_priceDay 28 = .ok (.iload 5, 2) := by decide +kernel
theorem dX0_priceDay_30 : decode cX0_priceDay 30 = .ok (.aaload, 1) := by decide +kernel
theorem dX0_priceDay_31 : decode cX0_priceDay 31 = .ok (.astore 6, 2) := by decide +kernel
theorem dX0_priceDay_33 : decode cX0_priceDay 33 = .ok (.aload 6, 2) := by decide +kernel
theorem dX0_priceDay_35 : decode cX0_priceDay 35 = .ok (.getfield 92, 3) := by decide +kernel
theorem dX0_priceDay_38 : decode cX0_priceDay 38 = .ok (.iload_n 2, 1) := by decide +kernel
theorem dX0_priceDay_39 : decode cX0_priceDay 39 = .ok (.iload_n 3, 1) := by decide +kernel
theorem dX0_priceDay_40 : decode cX0_priceDay 40 = .ok (.iadd, 1) := by decide +kernel
theorem dX0_priceDay_41 : decode cX0_priceDay 41 = .ok (.if_icmp .ge 16, 3) := by decide +kernel
theorem dX0_priceDay_44 : decode cX0_priceDay 44 = .ok (.aload 6, 2) := by decide +kernel
theorem dX0_priceDay_46 : decode cX0_priceDay 46 = .ok (.getfield 95, 3) := by decide +kernel
theorem dX0_priceDay_49 : decode cX0_priceDay 49 = .ok (.i2l, 1) := by decide +kernel
theorem dX0_priceDay_50 : decode cX0_priceDay 50 = .ok (.ldc2_w 73, 3) := by decide +kernel
theorem dX0_priceDay_53 : decode cX0_priceDay 53 = .ok (.lmul, 1) := by decide +kernel
theorem dX0_priceDay_54 : decode cX0_priceDay 54 = .ok (.goto 4, 3) := by decide +kernel
theorem dX0_priceDay_57 : decode cX0_priceDay 57 = .ok (.lconst 0, 1) := by decide +kernel
theorem dX0_priceDay_58 : decode cX0_priceDay 58 = .ok (.lstore 7, 2) := by decide +kernel
theorem dX0_priceDay_60 : decode cX0_priceDay 60 = .ok (.lload 7, 2) := by decide +kernel
theorem dX0_priceDay_62 : decode cX0_priceDay 62 = .ok (.iload_n 3, 1) := by decide +kernel
theorem dX0_priceDay_63 : decode cX0_priceDay 63 = .ok (.i2l, 1) := by decide +kernel
theorem dX0_priceDay_64 : decode cX0_priceDay 64 = .ok (.ldc2_w 98, 3) := by decide +kernel
theorem dX0_priceDay_67 : decode cX0_priceDay 67 = .ok (.lmul, 1) := by decide +kernel
theorem dX0_priceDay_68 : decode cX0_priceDay 68 = .ok (.iload_n 3, 1) := by decide +kernel
theorem dX0_priceDay_69 : decode cX0_priceDay 69 = .ok (.i2l, 1) := by decide +kernel
theorem dX0_priceDay_70 : decode cX0_priceDay 70 = .ok (.iload 5, 2) := by decide +kernel
theorem dX0_priceDay_72 : decode cX0_priceDay 72 = .ok (.invokestatic 100, 3) := by decide +kernel
theorem dX0_priceDay_75 : decode cX0_priceDay 75 = .ok (.lmul, 1) := by decide +kernel
theorem dX0_priceDay_76 : decode cX0_priceDay 76 = .ok (.ladd, 1) := by decide +kernel
theorem dX0_priceDay_77 : decode cX0_priceDay 77 = .ok (.ladd, 1) := by decide +kernel
theorem dX0_priceDay_78 : decode cX0_priceDay 78 = .ok (.lstore 7, 2) := by decide +kernel
theorem dX0_priceDay_80 : decode cX0_priceDay 80 = .ok (.aload_n 0, 1) := by decide +kernel
theorem dX0_priceDay_81 : decode cX0_priceDay 81 = .ok (.getfield 31, 3) := by decide +kernel
theorem dX0_priceDay_84 : decode cX0_priceDay 84 = .ok (.iload 4, 2) := by decide +kernel
theorem dX0_priceDay_86 : decode cX0_priceDay 86 = .ok (.baload, 1) := by decide +kernel
theorem dX0_priceDay_87 : decode cX0_priceDay 87 = .ok (.ifCond .eq 21, 3) := by decide +kernel
theorem dX0_priceDay_90 : decode cX0_priceDay 90 = .ok (.aload 6, 2) := by decide +kernel
theorem dX0_priceDay_92 : decode cX0_priceDay 92 = .ok (.getfield 103, 3) := by decide +kernel
theorem dX0_priceDay_95 : decode cX0_priceDay 95 = .ok (.iload_n 2, 1) := by decide +kernel
theorem dX0_priceDay_96 : decode cX0_priceDay 96 = .ok (.iload_n 3, 1) := by decide +kernel
theorem dX0_priceDay_97 : decode cX0_priceDay 97 = .ok (.iadd, 1) := by decide +kernel
theorem dX0_priceDay_98 : decode cX0_priceDay 98 = .ok (.invokevirtual 107, 3) := by decide +kernel
theorem dX0_priceDay_101 : decode cX0_priceDay 101 = .ok (.ifCond .eq 7, 3) := by decide +kernel
theorem dX0_priceDay_104 : decode cX0_priceDay 104 = .ok (.iconst 1, 1) := by decide +kernel
theorem dX0_priceDay_105 : decode cX0_priceDay 105 = .ok (.goto 4, 3) := by decide +kernel
theorem dX0_priceDay_108 : decode cX0_priceDay 108 = .ok (.iconst 0, 1) := by decide +kernel
theorem dX0_priceDay_109 : decode cX0_priceDay 109 = .ok (.istore 9, 2) := by decide +kernel
theorem dX0_priceDay_111 : decode cX0_priceDay 111 = .ok (.aload_n 0, 1) := by decide +kernel
theorem dX0_priceDay_112 : decode cX0_priceDay 112 = .ok (.getfield 28, 3) := by decide +kernel
theorem dX0_priceDay_115 : decode cX0_priceDay 115 = .ok (.iload 4, 2) := by decide +kernel
theorem dX0_priceDay_117 : decode cX0_priceDay 117 = .ok (.iload 9, 2) := by decide +kernel
theorem dX0_priceDay_119 : decode cX0_priceDay 119 = .ok (.ifCond .eq 27, 3) := by decide +kernel
theorem dX0_priceDay_122 : decode cX0_priceDay 122 = .ok (.ldc2_w 49, 3) := by decide +kernel
theorem dX0_priceDay_125 : decode cX0_priceDay 125 = .ok (.aload_n 0, 1) := by decide +kernel
theorem dX0_priceDay_126 : decode cX0_priceDay 126 = .ok (.getfield 28, 3) := by decide +kernel
theorem dX0_priceDay_129 : decode cX0_priceDay 129 = .ok (.iload 4, 2) := by decide +kernel
theorem dX0_priceDay_131 : decode cX0_priceDay 131 = .ok (.iload 4, 2) := by decide +kernel
theorem dX0_priceDay_133 : decode cX0_priceDay 133 = .ok (.iconst 1, 1) := by decide +kernel
theorem dX0_priceDay_134 : decode cX0_priceDay 134 = .ok (.isub, 1) := by decide +kernel
theorem dX0_priceDay_135 : decode cX0_priceDay 135 = .ok (.iand, 1) := by decide +kernel
theorem dX0_priceDay_136 : decode cX0_priceDay 136 = .ok (.laload, 1) := by decide +kernel
theorem dX0_priceDay_137 : decode cX0_priceDay 137 = .ok (.lload 7, 2) := by decide +kernel
theorem dX0_priceDay_139 : decode cX0_priceDay 139 = .ok (.ladd, 1) := by decide +kernel
theorem dX0_priceDay_140 : decode cX0_priceDay 140 = .ok (.invokestatic 63, 3) := by decide +kernel
theorem dX0_priceDay_143 : decode cX0_priceDay 143 = .ok (.goto 6, 3) := by decide +kernel
theorem dX0_priceDay_146 : decode cX0_priceDay 146 = .ok (.ldc2_w 49, 3) := by decide +kernel
theorem dX0_priceDay_149 : decode cX0_priceDay 149 = .ok (.lastore, 1) := by decide +kernel
theorem dX0_priceDay_150 : decode cX0_priceDay 150 = .ok (.iinc 4 1, 3) := by decide +kernel
theorem dX0_priceDay_153 : decode cX0_priceDay 153 = .ok (.goto (-143), 3) := by decide +kernel
theorem dX0_priceDay_156 : decode cX0_priceDay 156 = .ok (.return_, 1) := by decide +kernel
theorem dX0_firstOf_0 : decode cX0_firstOf 0 = .ok (.iconst 0, 1) := by decide +kernel
theorem dX0_firstOf_1 : decode cX0_firstOf 1 = .ok (.istore_n 2, 1) := by decide +kernel
theorem dX0_firstOf_2 : decode cX0_firstOf 2 = .ok (.iload_n 2, 1) := by decide +kernel
theorem dX0_firstOf_3 : decode cX0_firstOf 3 = .ok (.aload_n 0, 1) := by decide +kernel
theorem dX0_firstOf_4 : decode cX0_firstOf 4 = .ok (.getfield 41, 3) := by decide +kernel
theorem dX0_firstOf_7 : decode cX0_firstOf 7 = .ok (.iconst 1, 1) := by decide +kernel
theorem dX0_firstOf_8 : decode cX0_firstOf 8 = .ok (.isub, 1) := by decide +kernel
theorem dX0_firstOf_9 : decode cX0_firstOf 9 = .ok (.if_icmp .ge 17, 3) := by decide +kernel
theorem dX0_firstOf_12 : decode cX0_firstOf 12 = .ok (.iload_n 1, 1) := by decide +kernel
theorem dX0_firstOf_13 : decode cX0_firstOf 13 = .ok (.iload_n 2, 1) := by decide +kernel
theorem dX0_firstOf_14 : decode cX0_firstOf 14 = .ok (.ishr, 1) := by decide +kernel
theorem dX0_firstOf_15 : decode cX0_firstOf 15 = .ok (.iconst 1, 1) := by decide +kernel
theorem dX0_firstOf_16 : decode cX0_firstOf 16 = .ok (.iand, 1) := by decide +kernel
theorem dX0_firstOf_17 : decode cX0_firstOf 17 = .ok (.ifCond .ne 9, 3) := by decide +kernel
theorem dX0_firstOf_20 : decode cX0_firstOf 20 = .ok (.iinc 2 1, 3) := by decide +kernel
theorem dX0_firstOf_23 : decode cX0_firstOf 23 = .ok (.goto (-21), 3) := by decide +kernel
theorem dX0_firstOf_26 : decode cX0_firstOf 26 = .ok (.iload_n 2, 1) := by decide +kernel
theorem dX0_firstOf_27 : decode cX0_firstOf 27 = .ok (.ireturn, 1) := by decide +kernel
theorem dX0_digit_0 : decode cX0_digit 0 = .ok (.lconst 1, 1) := by decide +kernel
theorem dX0_digit_1 : decode cX0_digit 1 = .ok (.lstore_n 1, 1) := by decide +kernel
theorem dX0_digit_2 : decode cX0_digit 2 = .ok (.iload_n 0, 1) := by decide +kernel
theorem dX0_digit_3 : decode cX0_digit 3 = .ok (.istore_n 3, 1) := by decide +kernel
theorem dX0_digit_4 : decode cX0_digit 4 = .ok (.iload_n 3, 1) := by decide +kernel
theorem dX0_digit_5 : decode cX0_digit 5 = .ok (.bipush 6, 2) := by decide +kernel
theorem dX0_digit_7 : decode cX0_digit 7 = .ok (.if_icmp .ge 15, 3) := by decide +kernel
theorem dX0_digit_10 : decode cX0_digit 10 = .ok (.lload_n 1, 1) := by decide +kernel
theorem dX0_digit_11 : decode cX0_digit 11 = .ok (.ldc2_w 112, 3) := by decide +kernel
theorem dX0_digit_14 : decode cX0_digit 14 = .ok (.lmul, 1) := by decide +kernel
theorem dX0_digit_15 : decode cX0_digit 15 = .ok (.lstore_n 1, 1) := by decide +kernel
theorem dX0_digit_16 : decode cX0_digit 16 = .ok (.iinc 3 1, 3) := by decide +kernel
theorem dX0_digit_19 : decode cX0_digit 19 = .ok (.goto (-15), 3) := by decide +kernel
theorem dX0_digit_22 : decode cX0_digit 22 = .ok (.lload_n 1, 1) := by decide +kernel
theorem dX0_digit_23 : decode cX0_digit 23 = .ok (.lreturn, 1) := by decide +kernel
theorem dX0_addDay_0 : decode cX0_addDay 0 = .ok (.iload_n 1, 1) := by decide +kernel
theorem dX0_addDay_1 : decode cX0_addDay 1 = .ok (.iconst 1, 1) := by decide +kernel
theorem dX0_addDay_2 : decode cX0_addDay 2 = .ok (.isub, 1) := by decide +kernel
theorem dX0_addDay_3 : decode cX0_addDay 3 = .ok (.istore_n 2, 1) := by decide +kernel
theorem dX0_addDay_4 : decode cX0_addDay 4 = .ok (.iload_n 2, 1) := by decide +kernel
theorem dX0_addDay_5 : decode cX0_addDay 5 = .ok (.ifCond .le 54, 3) := by decide +kernel
theorem dX0_addDay_8 : decode cX0_addDay 8 = .ok (.iload_n 2, 1) := by decide +kernel
theorem dX0_addDay_9 : decode cX0_addDay 9 = .ok (.istore_n 3, 1) := by decide +kernel
theorem dX0_addDay_10 : decode cX0_addDay 10 = .ok (.iload_n 3, 1) := by decide +kernel
theorem dX0_addDay_11 : decode cX0_addDay 11 = .ok (.ifCond .le 42, 3) := by decide +kernel
theorem dX0_addDay_14 : decode cX0_addDay 14 = .ok (.aload_n 0, 1) := by decide +kernel
theorem dX0_addDay_15 : decode cX0_addDay 15 = .ok (.getfield 24, 3) := by decide +kernel
theorem dX0_addDay_18 : decode cX0_addDay 18 = .ok (.iload_n 2, 1) := by decide +kernel
theorem dX0_addDay_19 : decode cX0_addDay 19 = .ok (.aload_n 0, 1) := by decide +kernel
theorem dX0_addDay_20 : decode cX0_addDay 20 = .ok (.getfield 24, 3) := by decide +kernel
theorem dX0_addDay_23 : decode cX0_addDay 23 = .ok (.iload_n 2, 1) := by decide +kernel
theorem dX0_addDay_24 : decode cX0_addDay 24 = .ok (.laload, 1) := by decide +kernel
theorem dX0_addDay_25 : decode cX0_addDay 25 = .ok (.aload_n 0, 1) := by decide +kernel
theorem dX0_addDay_26 : decode cX0_addDay 26 = .ok (.getfield 24, 3) := by decide +kernel
theorem dX0_addDay_29 : decode cX0_addDay 29 = .ok (.iload_n 2, 1) := by decide +kernel
theorem dX0_addDay_30 : decode cX0_addDay 30 = .ok (.iload_n 3, 1) := by decide +kernel
theorem dX0_addDay_31 : decode cX0_addDay 31 = .ok (.isub, 1) := by decide +kernel
theorem dX0_addDay_32 : decode cX0_addDay 32 = .ok (.laload, 1) := by decide +kernel
theorem dX0_addDay_33 : decode cX0_addDay 33 = .ok (.aload_n 0, 1) := by decide +kernel
theorem dX0_addDay_34 : decode cX0_addDay 34 = .ok (.getfield 28, 3) := by decide +kernel
theorem dX0_addDay_37 : decode cX0_addDay 37 = .ok (.iload_n 3, 1) := by decide +kernel
theorem dX0_addDay_38 : decode cX0_addDay 38 = .ok (.laload, 1) := by decide +kernel
theorem dX0_addDay_39 : decode cX0_addDay 39 = .ok (.ladd, 1) := by decide +kernel
theorem dX0_addDay_40 : decode cX0_addDay 40 = .ok (.invokestatic 63, 3) := by decide +kernel
theorem dX0_addDay_43 : decode cX0_addDay 43 = .ok (.lastore, 1) := by decide +kernel
theorem dX0_addDay_44 : decode cX0_addDay 44 = .ok (.iload_n 3, 1) := by decide +kernel
theorem dX0_addDay_45 : decode cX0_addDay 45 = .ok (.iconst 1, 1) := by decide +kernel
theorem dX0_addDay_46 : decode cX0_addDay 46 = .ok (.isub, 1) := by decide +kernel
theorem dX0_addDay_47 : decode cX0_addDay 47 = .ok (.iload_n 2, 1) := by decide +kernel
theorem dX0_addDay_48 : decode cX0_addDay 48 = .ok (.iand, 1) := by decide +kernel
theorem dX0_addDay_49 : decode cX0_addDay 49 = .ok (.istore_n 3, 1) := by decide +kernel
theorem dX0_addDay_50 : decode cX0_addDay 50 = .ok (.goto (-40), 3) := by decide +kernel
theorem dX0_addDay_53 : decode cX0_addDay 53 = .ok (.iinc 2 (-1), 3) := by decide +kernel
theorem dX0_addDay_56 : decode cX0_addDay 56 = .ok (.goto (-52), 3) := by decide +kernel
theorem dX0_addDay_59 : decode cX0_addDay 59 = .ok (.return_, 1) := by decide +kernel
theorem dX0_priceWithout_0 : decode cX0_priceWithout 0 = .ok (.lconst 0, 1) := by decide +kernel
theorem dX0_priceWithout_1 : decode cX0_priceWithout 1 = .ok (.lstore_n 2, 1) := by decide +kernel
theorem dX0_priceWithout_2 : decode cX0_priceWithout 2 = .ok (.iconst 0, 1) := by decide +kernel
theorem dX0_priceWithout_3 : decode cX0_priceWithout 3 = .ok (.istore 4, 2) := by decide +kernel
theorem dX0_priceWithout_5 : decode cX0_priceWithout 5 = .ok (.iload 4, 2) := by decide +kernel
theorem dX0_priceWithout_7 : decode cX0_priceWithout 7 = .ok (.aload_n 0, 1) := by decide +kernel
theorem dX0_priceWithout_8 : decode cX0_priceWithout 8 = .ok (.getfield 41, 3) := by decide +kernel
theorem dX0_priceWithout_11 : decode cX0_priceWithout 11 = .ok (.if_icmp .ge 51, 3) := by decide +kernel
theorem dX0_priceWithout_14 : decode cX0_priceWithout 14 = .ok (.iload_n 1, 1) := by decide +kernel
theorem dX0_priceWithout_15 : decode cX0_priceWithout 15 = .ok (.iload 4, 2) := by decide +kernel
theorem dX0_priceWithout_17 : decode cX0_priceWithout 17 = .ok (.ishr, 1) := by decide +kernel
theorem dX0_priceWithout_18 : decode cX0_priceWithout 18 = .ok (.iconst 1, 1) := by decide +kernel
theorem dX0_priceWithout_19 : decode cX0_priceWithout 19 = .ok (.iand, 1) := by decide +kernel
theorem dX0_priceWithout_20 : decode cX0_priceWithout 20 = .ok (.iconst 1, 1) := by decide +kernel
theorem dX0_priceWithout_21 : decode cX0_priceWithout 21 = .ok (.if_icmp .ne 35, 3) := by decide +kernel
theorem dX0_priceWithout_24 : decode cX0_priceWithout 24 = .ok (.lload_n 2, 1) := by decide +kernel
theorem dX0_priceWithout_25 : decode cX0_priceWithout 25 = .ok (.aload_n 0, 1) := by decide +kernel
theorem dX0_priceWithout_26 : decode cX0_priceWithout 26 = .ok (.getfield 17, 3) := by decide +kernel
theorem dX0_priceWithout_29 : decode cX0_priceWithout 29 = .ok (.iload 4, 2) := by decide +kernel
theorem dX0_priceWithout_31 : decode cX0_priceWithout 31 = .ok (.aaload, 1) := by decide +kernel
theorem dX0_priceWithout_32 : decode cX0_priceWithout 32 = .ok (.getfield 95, 3) := by decide +kernel
theorem dX0_priceWithout_35 : decode cX0_priceWithout 35 = .ok (.i2l, 1) := by decide +kernel
theorem dX0_priceWithout_36 : decode cX0_priceWithout 36 = .ok (.ldc2_w 73, 3) := by decide +kernel
theorem dX0_priceWithout_39 : decode cX0_priceWithout 39 = .ok (.lmul, 1) := by decide +kernel
theorem dX0_priceWithout_40 : decode cX0_priceWithout 40 = .ok (.ldc2_w 114, 3) := by decide +kernel
theorem dX0_priceWithout_43 : decode cX0_priceWithout 43 = .ok (.ladd, 1) := by decide +kernel
theorem dX0_priceWithout_44 : decode cX0_priceWithout 44 = .ok (.ldc2_w 116, 3) := by decide +kernel
theorem dX0_priceWithout_47 : decode cX0_priceWithout 47 = .ok (.iload 4, 2) := by decide +kernel
theorem dX0_priceWithout_49 : decode cX0_priceWithout 49 = .ok (.invokestatic 100, 3) := by decide +kernel
theorem dX0_priceWithout_52 : decode cX0_priceWithout 52 = .ok (.lmul, 1) := by decide +kernel
theorem dX0_priceWithout_53 : decode cX0_priceWithout 53 = .ok (.ladd, 1) := by decide +kernel
theorem dX0_priceWithout_54 : decode cX0_priceWithout 54 = .ok (.ladd, 1) := by decide +kernel
theorem dX0_priceWithout_55 : decode cX0_priceWithout 55 = .ok (.lstore_n 2, 1) := by decide +kernel
theorem dX0_priceWithout_56 : decode cX0_priceWithout 56 = .ok (.iinc 4 1, 3) := by decide +kernel
theorem dX0_priceWithout_59 : decode cX0_priceWithout 59 = .ok (.goto (-54), 3) := by decide +kernel
theorem dX0_priceWithout_62 : decode cX0_priceWithout 62 = .ok (.lload_n 2, 1) := by decide +kernel
theorem dX0_priceWithout_63 : decode cX0_priceWithout 63 = .ok (.lreturn, 1) := by decide +kernel
theorem dX0_readDays_0 : decode cX0_readDays 0 = .ok (.iconst 0, 1) := by decide +kernel
theorem dX0_readDays_1 : decode cX0_readDays 1 = .ok (.istore 4, 2) := by decide +kernel
theorem dX0_readDays_3 : decode cX0_readDays 3 = .ok (.iload 4, 2) := by decide +kernel
theorem dX0_readDays_5 : decode cX0_readDays 5 = .ok (.aload_n 0, 1) := by decide +kernel
theorem dX0_readDays_6 : decode cX0_readDays 6 = .ok (.getfield 41, 3) := by decide +kernel
theorem dX0_readDays_9 : decode cX0_readDays 9 = .ok (.if_icmp .ge 54, 3) := by decide +kernel
theorem dX0_readDays_12 : decode cX0_readDays 12 = .ok (.lload_n 1, 1) := by decide +kernel
theorem dX0_readDays_13 : decode cX0_readDays 13 = .ok (.iload 4, 2) := by decide +kernel
theorem dX0_readDays_15 : decode cX0_readDays 15 = .ok (.invokestatic 100, 3) := by decide +kernel
theorem dX0_readDays_18 : decode cX0_readDays 18 = .ok (.ldiv, 1) := by decide +kernel
theorem dX0_readDays_19 : decode cX0_readDays 19 = .ok (.ldc2_w 112, 3) := by decide +kernel
theorem dX0_readDays_22 : decode cX0_readDays 22 = .ok (.lrem, 1) := by decide +kernel
theorem dX0_readDays_23 : decode cX0_readDays 23 = .ok (.l2i, 1) := by decide +kernel
theorem dX0_readDays_24 : decode cX0_readDays 24 = .ok (.istore 5, 2) := by decide +kernel
theorem dX0_readDays_26 : decode cX0_readDays 26 = .ok (.aload_n 0, 1) := by decide +kernel
theorem dX0_readDays_27 : decode cX0_readDays 27 = .ok (.getfield 21, 3) := by decide +kernel
theorem dX0_readDays_30 : decode cX0_readDays 30 = .ok (.iload 4, 2) := by decide +kernel
theorem dX0_readDays_32 : decode cX0_readDays 32 = .ok (.iload 5, 2) := by decide +kernel
theorem dX0_readDays_34 : decode cX0_readDays 34 = .ok (.bipush 14, 2) := by decide +kernel
theorem dX0_readDays_36 : decode cX0_readDays 36 = .ok (.if_icmp .ne 8, 3) := by decide +kernel
theorem dX0_readDays_39 : decode cX0_readDays 39 = .ok (.bipush (-4), 2) := by decide +kernel
theorem dX0_readDays_41 : decode cX0_readDays 41 = .ok (.goto 7, 3) := by decide +kernel
theorem dX0_readDays_44 : decode cX0_readDays 44 = .ok (.iload_n 3, 1) := by decide +kernel
theorem dX0_readDays_45 : decode cX0_readDays 45 = .ok (.iload 5, 2) := by decide +kernel
theorem dX0_readDays_47 : decode cX0_readDays 47 = .ok (.iadd, 1) := by decide +kernel
theorem dX0_readDays_48 : decode cX0_readDays 48 = .ok (.iastore, 1) := by decide +kernel
theorem dX0_readDays_49 : decode cX0_readDays 49 = .ok (.aload_n 0, 1) := by decide +kernel
theorem dX0_readDays_50 : decode cX0_readDays 50 = .ok (.getfield 17, 3) := by decide +kernel
theorem dX0_readDays_53 : decode cX0_readDays 53 = .ok (.iload 4, 2) := by decide +kernel
theorem dX0_readDays_55 : decode cX0_readDays 55 = .ok (.aconst_null, 1) := by decide +kernel
theorem dX0_readDays_56 : decode cX0_readDays 56 = .ok (.aastore, 1) := by decide +kernel
theorem dX0_readDays_57 : decode cX0_readDays 57 = .ok (.iinc 4 1, 3) := by decide +kernel
theorem dX0_readDays_60 : decode cX0_readDays 60 = .ok (.goto (-57), 3) := by decide +kernel
theorem dX0_readDays_63 : decode cX0_readDays 63 = .ok (.aload_n 0, 1) := by decide +kernel
theorem dX0_readDays_64 : decode cX0_readDays 64 = .ok (.aload_n 0, 1) := by decide +kernel
theorem dX0_readDays_65 : decode cX0_readDays 65 = .ok (.getfield 41, 3) := by decide +kernel
theorem dX0_readDays_68 : decode cX0_readDays 68 = .ok (.putfield 118, 3) := by decide +kernel
theorem dX0_readDays_71 : decode cX0_readDays 71 = .ok (.aload_n 0, 1) := by decide +kernel
theorem dX0_readDays_72 : decode cX0_readDays 72 = .ok (.iconst 0, 1) := by decide +kernel
theorem dX0_readDays_73 : decode cX0_readDays 73 = .ok (.putfield 41, 3) := by decide +kernel
theorem dX0_readDays_76 : decode cX0_readDays 76 = .ok (.return_, 1) := by decide +kernel
theorem dX1_init_0 : decode cX1_init 0 = .ok (.aload_n 0, 1) := by decide +kernel
theorem dX1_init_1 : decode cX1_init 1 = .ok (.invokespecial 3, 3) := by decide +kernel
theorem dX1_init_4 : decode cX1_init 4 = .ok (.aload_n 0, 1) := by decide +kernel
theorem dX1_init_5 : decode cX1_init 5 = .ok (.new 9, 3) := by decide +kernel
theorem dX1_init_8 : decode cX1_init 8 = .ok (.dup, 1) := by decide +kernel
theorem dX1_init_9 : decode cX1_init 9 = .ok (.invokespecial 11, 3) := by decide +kernel
theorem dX1_init_12 : decode cX1_init 12 = .ok (.putfield 12, 3) := by decide +kernel
theorem dX1_init_15 : decode cX1_init 15 = .ok (.aload_n 0, 1) := by decide +kernel
theorem dX1_init_16 : decode cX1_init 16 = .ok (.iconst (-1), 1) := by decide +kernel
theorem dX1_init_17 : decode cX1_init 17 = .ok (.putfield 18, 3) := by decide +kernel
theorem dX1_init_20 : decode cX1_init 20 = .ok (.aload_n 0, 1) := by decide +kernel
theorem dX1_init_21 : decode cX1_init 21 = .ok (.iconst 0, 1) := by decide +kernel
theorem dX1_init_22 : decode cX1_init 22 = .ok (.putfield 22, 3) := by decide +kernel
theorem dX1_init_25 : decode cX1_init 25 = .ok (.aload_n 0, 1) := by decide +kernel
theorem dX1_init_26 : decode cX1_init 26 = .ok (.iload_n 1, 1) := by decide +kernel
theorem dX1_init_27 : decode cX1_init 27 = .ok (.putfield 25, 3) := by decide +kernel
theorem dX1_init_30 : decode cX1_init 30 = .ok (.aload_n 0, 1) := by decide +kernel
theorem dX1_init_31 : decode cX1_init 31 = .ok (.aload_n 2, 1) := by decide +kernel
theorem dX1_init_32 : decode cX1_init 32 = .ok (.putfield 28, 3) := by decide +kernel
theorem dX1_init_35 : decode cX1_init 35 = .ok (.aload_n 0, 1) := by decide +kernel
theorem dX1_init_36 : decode cX1_init 36 = .ok (.iload_n 3, 1) := by decide +kernel
theorem dX1_init_37 : decode cX1_init 37 = .ok (.putfield 32, 3) := by decide +kernel
theorem dX1_init_40 : decode cX1_init 40 = .ok (.aload_n 0, 1) := by decide +kernel
theorem dX1_init_41 : decode cX1_init 41 = .ok (.iload 4, 2) := by decide +kernel
theorem dX1_init_43 : decode cX1_init 43 = .ok (.putfield 35, 3) := by decide +kernel
theorem dX1_init_46 : decode cX1_init 46 = .ok (.aload_n 0, 1) := by decide +kernel
theorem dX1_init_47 : decode cX1_init 47 = .ok (.aload 5, 2) := by decide +kernel
theorem dX1_init_49 : decode cX1_init 49 = .ok (.putfield 38, 3) := by decide +kernel
theorem dX1_init_52 : decode cX1_init 52 = .ok (.aload_n 0, 1) := by decide +kernel
theorem dX1_init_53 : decode cX1_init 53 = .ok (.iload 6, 2) := by decide +kernel
theorem dX1_init_55 : decode cX1_init 55 = .ok (.putfield 42, 3) := by decide +kernel
theorem dX1_init_58 : decode cX1_init 58 = .ok (.aload_n 0, 1) := by decide +kernel
theorem dX1_init_59 : decode cX1_init 59 = .ok (.iload 7, 2) := by decide +kernel
theorem dX1_init_61 : decode cX1_init 61 = .ok (.putfield 45, 3) := by decide +kernel
theorem dX1_init_64 : decode cX1_init 64 = .ok (.aload_n 0, 1) := by decide +kernel
theorem dX1_init_65 : decode cX1_init 65 = .ok (.aload 5, 2) := by decide +kernel
theorem dX1_init_67 : decode cX1_init 67 = .ok (.iconst 2, 1) := by decide +kernel
theorem dX1_init_68 : decode cX1_init 68 = .ok (.invokevirtual 48, 3) := by decide +kernel
theorem dX1_init_71 : decode cX1_init 71 = .ok (.ifCond .eq 13, 3) := by decide +kernel
theorem dX1_init_74 : decode cX1_init 74 = .ok (.new 54, 3) := by decide +kernel
theorem dX1_init_77 : decode cX1_init 77 = .ok (.dup, 1) := by decide +kernel
theorem dX1_init_78 : decode cX1_init 78 = .ok (.invokespecial 56, 3) := by decide +kernel
theorem dX1_init_81 : decode cX1_init 81 = .ok (.goto 4, 3) := by decide +kernel
theorem dX1_init_84 : decode cX1_init 84 = .ok (.aconst_null, 1) := by decide +kernel
theorem dX1_init_85 : decode cX1_init 85 = .ok (.putfield 57, 3) := by decide +kernel
theorem dX1_init_88 : decode cX1_init 88 = .ok (.return_, 1) := by decide +kernel
theorem dX1_tell_0 : decode cX1_tell 0 = .ok (.aload_n 0, 1) := by decide +kernel
theorem dX1_tell_1 : decode cX1_tell 1 = .ok (.iload_n 1, 1) := by decide +kernel
theorem dX1_tell_2 : decode cX1_tell 2 = .ok (.putfield 61, 3) := by decide +kernel
theorem dX1_tell_5 : decode cX1_tell 5 = .ok (.aload_n 0, 1) := by decide +kernel
theorem dX1_tell_6 : decode cX1_tell 6 = .ok (.aload_n 0, 1) := by decide +kernel
theorem dX1_tell_7 : decode cX1_tell 7 = .ok (.getfield 28, 3) := by decide +kernel
theorem dX1_tell_10 : decode cX1_tell 10 = .ok (.invokevirtual 64, 3) := by decide +kernel
theorem dX1_tell_13 : decode cX1_tell 13 = .ok (.ifCond .eq 14, 3) := by decide +kernel
theorem dX1_tell_16 : decode cX1_tell 16 = .ok (.iload_n 1, 1) := by decide +kernel
theorem dX1_tell_17 : decode cX1_tell 17 = .ok (.aload_n 0, 1) := by decide +kernel
theorem dX1_tell_18 : decode cX1_tell 18 = .ok (.getfield 28, 3) := by decide +kernel
theorem dX1_tell_21 : decode cX1_tell 21 = .ok (.getfield 70, 3) := by decide +kernel
theorem dX1_tell_24 : decode cX1_tell 24 = .ok (.if_icmp .gt 7, 3) := by decide +kernel
theorem dX1_tell_27 : decode cX1_tell 27 = .ok (.iconst 1, 1) := by decide +kernel
theorem dX1_tell_28 : decode cX1_tell 28 = .ok (.goto 4, 3) := by decide +kernel
theorem dX1_tell_31 : decode cX1_tell 31 = .ok (.iconst 0, 1) := by decide +kernel
theorem dX1_tell_32 : decode cX1_tell 32 = .ok (.putfield 73, 3) := by decide +kernel
theorem dX1_tell_35 : decode cX1_tell 35 = .ok (.aload_n 0, 1) := by decide +kernel
theorem dX1_tell_36 : decode cX1_tell 36 = .ok (.aload_n 0, 1) := by decide +kernel
theorem dX1_tell_37 : decode cX1_tell 37 = .ok (.getfield 73, 3) := by decide +kernel
theorem dX1_tell_40 : decode cX1_tell 40 = .ok (.ifCond .ne 11, 3) := by decide +kernel
theorem dX1_tell_43 : decode cX1_tell 43 = .ok (.iload_n 2, 1) := by decide +kernel
theorem dX1_tell_44 : decode cX1_tell 44 = .ok (.ifCond .ne 7, 3) := by decide +kernel
theorem dX1_tell_47 : decode cX1_tell 47 = .ok (.iconst 1, 1) := by decide +kernel
theorem dX1_tell_48 : decode cX1_tell 48 = .ok (.goto 4, 3) := by decide +kernel
theorem dX1_tell_51 : decode cX1_tell 51 = .ok (.iconst 0, 1) := by decide +kernel
theorem dX1_tell_52 : decode cX1_tell 52 = .ok (.putfield 77, 3) := by decide +kernel
theorem dX1_tell_55 : decode cX1_tell 55 = .ok (.aload_n 0, 1) := by decide +kernel
theorem dX1_tell_56 : decode cX1_tell 56 = .ok (.getfield 12, 3) := by decide +kernel
theorem dX1_tell_59 : decode cX1_tell 59 = .ok (.iconst 0, 1) := by decide +kernel
theorem dX1_tell_60 : decode cX1_tell 60 = .ok (.iload_n 1, 1) := by decide +kernel
theorem dX1_tell_61 : decode cX1_tell 61 = .ok (.iconst (-1), 1) := by decide +kernel
theorem dX1_tell_62 : decode cX1_tell 62 = .ok (.invokevirtual 80, 3) := by decide +kernel
theorem dX1_tell_65 : decode cX1_tell 65 = .ok (.return_, 1) := by decide +kernel
theorem dX1_isAheadOfKey_0 : decode cX1_isAheadOfKey 0 = .ok (.aload_n 0, 1) := by decide +kernel
theorem dX1_isAheadOfKey_1 : decode cX1_isAheadOfKey 1 = .ok (.getfield 28, 3) := by decide +kernel
theorem dX1_isAheadOfKey_4 : decode cX1_isAheadOfKey 4 = .ok (.invokevirtual 64, 3) := by decide +kernel
theorem dX1_isAheadOfKey_7 : decode cX1_isAheadOfKey 7 = .ok (.ifCond .eq 17, 3) := by decide +kernel
theorem dX1_isAheadOfKey_10 : decode cX1_isAheadOfKey 10 = .ok (.aload_n 0, 1) := by decide +kernel
theorem dX1_isAheadOfKey_11 : decode cX1_isAheadOfKey 11 = .ok (.getfield 61, 3) := by decide +kernel
theorem dX1_isAheadOfKey_14 : decode cX1_isAheadOfKey 14 = .ok (.aload_n 0, 1) := by decide +kernel
theorem dX1_isAheadOfKey_15 : decode cX1_isAheadOfKey 15 = .ok (.getfield 28, 3) := by decide +kernel
theorem dX1_isAheadOfKey_18 : decode cX1_isAheadOfKey 18 = .ok (.getfield 70, 3) := by decide +kernel
theorem dX1_isAheadOfKey_21 : decode cX1_isAheadOfKey 21 = .ok (.if_icmp .ge 7, 3) := by decide +kernel
theorem dX1_isAheadOfKey_24 : decode cX1_isAheadOfKey 24 = .ok (.iconst 1, 1) := by decide +kernel
theorem dX1_isAheadOfKey_25 : decode cX1_isAheadOfKey 25 = .ok (.goto 4, 3) := by decide +kernel
theorem dX1_isAheadOfKey_28 : decode cX1_isAheadOfKey 28 = .ok (.iconst 0, 1) := by decide +kernel
theorem dX1_isAheadOfKey_29 : decode cX1_isAheadOfKey 29 = .ok (.ireturn, 1) := by decide +kernel
theorem dX1_isWaiting_0 : decode cX1_isWaiting 0 = .ok (.aload_n 0, 1) := by decide +kernel
theorem dX1_isWaiting_1 : decode cX1_isWaiting 1 = .ok (.getfield 12, 3) := by decide +kernel
theorem dX1_isWaiting_4 : decode cX1_isWaiting 4 = .ok (.invokevirtual 84, 3) := by decide +kernel
theorem dX1_isWaiting_7 : decode cX1_isWaiting 7 = .ok (.ifCond .eq 14, 3) := by decide +kernel
theorem dX1_isWaiting_10 : decode cX1_isWaiting 10 = .ok (.aload_n 0, 1) := by decide +kernel
theorem dX1_isWaiting_11 : decode cX1_isWaiting 11 = .ok (.getfield 12, 3) := by decide +kernel
theorem dX1_isWaiting_14 : decode cX1_isWaiting 14 = .ok (.invokevirtual 84, 3) := by decide +kernel
theorem dX1_isWaiting_17 : decode cX1_isWaiting 17 = .ok (.iconst 1, 1) := by decide +kernel
theorem dX1_isWaiting_18 : decode cX1_isWaiting 18 = .ok (.if_icmp .ne 7, 3) := by decide +kernel
theorem dX1_isWaiting_21 : decode cX1_isWaiting 21 = .ok (.iconst 1, 1) := by decide +kernel
theorem dX1_isWaiting_22 : decode cX1_isWaiting 22 = .ok (.goto 4, 3) := by decide +kernel
theorem dX1_isWaiting_25 : decode cX1_isWaiting 25 = .ok (.iconst 0, 1) := by decide +kernel
theorem dX1_isWaiting_26 : decode cX1_isWaiting 26 = .ok (.ireturn, 1) := by decide +kernel
theorem dX1_isLeftOn_0 : decode cX1_isLeftOn 0 = .ok (.aload_n 0, 1) := by decide +kernel
theorem dX1_isLeftOn_1 : decode cX1_isLeftOn 1 = .ok (.getfield 12, 3) := by decide +kernel
theorem dX1_isLeftOn_4 : decode cX1_isLeftOn 4 = .ok (.iload_n 1, 1) := by decide +kernel
theorem dX1_isLeftOn_5 : decode cX1_isLeftOn 5 = .ok (.invokevirtual 88, 3) := by decide +kernel
theorem dX1_isLeftOn_8 : decode cX1_isLeftOn 8 = .ok (.istore_n 2, 1) := by decide +kernel
theorem dX1_isLeftOn_9 : decode cX1_isLeftOn 9 = .ok (.iload_n 2, 1) := by decide +kernel
theorem dX1_isLeftOn_10 : decode cX1_isLeftOn 10 = .ok (.bipush (-4), 2) := by decide +kernel
theorem dX1_isLeftOn_12 : decode cX1_isLeftOn 12 = .ok (.if_icmp .eq 17, 3) := by decide +kernel
theorem dX1_isLeftOn_15 : decode cX1_isLeftOn 15 = .ok (.iload_n 2, 1) := by decide +kernel
theorem dX1_isLeftOn_16 : decode cX1_isLeftOn 16 = .ok (.iconst 3, 1) := by decide +kernel
theorem dX1_isLeftOn_17 : decode cX1_isLeftOn 17 = .ok (.if_icmp .eq 12, 3) := by decide +kernel
theorem dX1_isLeftOn_20 : decode cX1_isLeftOn 20 = .ok (.iload_n 2, 1) := by decide +kernel
theorem dX1_isLeftOn_21 : decode cX1_isLeftOn 21 = .ok (.iconst 4, 1) := by decide +kernel
theorem dX1_isLeftOn_22 : decode cX1_isLeftOn 22 = .ok (.if_icmp .eq 7, 3) := by decide +kernel
theorem dX1_isLeftOn_25 : decode cX1_isLeftOn 25 = .ok (.iconst 1, 1) := by decide +kernel
theorem dX1_isLeftOn_26 : decode cX1_isLeftOn 26 = .ok (.goto 4, 3) := by decide +kernel
theorem dX1_isLeftOn_29 : decode cX1_isLeftOn 29 = .ok (.iconst 0, 1) := by decide +kernel
theorem dX1_isLeftOn_30 : decode cX1_isLeftOn 30 = .ok (.ireturn, 1) := by decide +kernel
theorem dX1_isSameThing_0 : decode cX1_isSameThing 0 = .ok (.aload_n 0, 1) := by decide +kernel
theorem dX1_isSameThing_1 : decode cX1_isSameThing 1 = .ok (.getfield 28, 3) := by decide +kernel
theorem dX1_isSameThing_4 : decode cX1_isSameThing 4 = .ok (.aload_n 1, 1) := by decide +kernel
theorem dX1_isSameThing_5 : decode cX1_isSameThing 5 = .ok (.getfield 28, 3) := by decide +kernel
theorem dX1_isSameThing_8 : decode cX1_isSameThing 8 = .ok (.if_acmp .ne 29, 3) := by decide +kernel
theorem dX1_isSameThing_11 : decode cX1_isSameThing 11 = .ok (.aload_n 0, 1) := by decide +kernel
theorem dX1_isSameThing_12 : decode cX1_isSameThing 12 = .ok (.getfield 32, 3) := by decide +kernel
theorem dX1_isSameThing_15 : decode cX1_isSameThing 15 = .ok (.aload_n 1, 1) := by decide +kernel
theorem dX1_isSameThing_16 : decode cX1_isSameThing 16 = .ok (.getfield 32, 3) := by decide +kernel
theorem dX1_isSameThing_19 : decode cX1_isSameThing 19 = .ok (.if_icmp .ne 18, 3) := by decide +kernel
theorem dX1_isSameThing_22 : decode cX1_isSameThing 22 = .ok (.aload_n 0, 1) := by decide +kernel
theorem dX1_isSameThing_23 : decode cX1_isSameThing 23 = .ok (.getfield 35, 3) := by decide +kernel
theorem dX1_isSameThing_26 : decode cX1_isSameThing 26 = .ok (.aload_n 1, 1) := by decide +kernel
theorem dX1_isSameThing_27 : decode cX1_isSameThing 27 = .ok (.getfield 35, 3) := by decide +kernel
theorem dX1_isSameThing_30 : decode cX1_isSameThing 30 = .ok (.if_icmp .ne 7, 3) := by decide +kernel
theorem dX1_isSameThing_33 : decode cX1_isSameThing 33 = .ok (.iconst 1, 1) := by decide +kernel
theorem dX1_isSameThing_34 : decode cX1_isSameThing 34 = .ok (.goto 4, 3) := by decide +kernel
theorem dX1_isSameThing_37 : decode cX1_isSameThing 37 = .ok (.iconst 0, 1) := by decide +kernel
theorem dX1_isSameThing_38 : decode cX1_isSameThing 38 = .ok (.ireturn, 1) := by decide +kernel
theorem dX1_isListedBy_0 : decode cX1_isListedBy 0 = .ok (.aload_n 0, 1) := by decide +kernel
theorem dX1_isListedBy_1 : decode cX1_isListedBy 1 = .ok (.getfield 73, 3) := by decide +kernel
theorem dX1_isListedBy_4 : decode cX1_isListedBy 4 = .ok (.ifCond .eq 15, 3) := by decide +kernel
theorem dX1_isListedBy_7 : decode cX1_isListedBy 7 = .ok (.aload_n 0, 1) := by decide +kernel
theorem dX1_isListedBy_8 : decode cX1_isListedBy 8 = .ok (.getfield 45, 3) := by decide +kernel
theorem dX1_isListedBy_11 : decode cX1_isListedBy 11 = .ok (.iload_n 1, 1) := by decide +kernel
theorem dX1_isListedBy_12 : decode cX1_isListedBy 12 = .ok (.if_icmp .ne 7, 3) := by decide +kernel
theorem dX1_isListedBy_15 : decode cX1_isListedBy 15 = .ok (.iconst 1, 1) := by decide +kernel
theorem dX1_isListedBy_16 : decode cX1_isListedBy 16 = .ok (.goto 4, 3) := by decide +kernel
theorem dX1_isListedBy_19 : decode cX1_isListedBy 19 = .ok (.iconst 0, 1) := by decide +kernel
theorem dX1_isListedBy_20 : decode cX1_isListedBy 20 = .ok (.ireturn, 1) := by decide +kernel
theorem dX1_isSaidNowBy_0 : decode cX1_isSaidNowBy 0 = .ok (.aload_n 0, 1) := by decide +kernel
theorem dX1_isSaidNowBy_1 : decode cX1_isSaidNowBy 1 = .ok (.getfield 12, 3) := by decide +kernel
theorem dX1_isSaidNowBy_4 : decode cX1_isSaidNowBy 4 = .ok (.invokevirtual 84, 3) := by decide +kernel
theorem dX1_isSaidNowBy_7 : decode cX1_isSaidNowBy 7 = .ok (.iconst 2, 1) := by decide +kernel
theorem dX1_isSaidNowBy_8 : decode cX1_isSaidNowBy 8 = .ok (.if_icmp .ne 15, 3) := by decide +kernel
theorem dX1_isSaidNowBy_11 : decode cX1_isSaidNowBy 11 = .ok (.aload_n 0, 1) := by decide +kernel
theorem dX1_isSaidNowBy_12 : decode cX1_isSaidNowBy 12 = .ok (.invokevirtual 92, 3) := by decide +kernel
theorem dX1_isSaidNowBy_15 : decode cX1_isSaidNowBy 15 = .ok (.iload_n 1, 1) := by decide +kernel
theorem dX1_isSaidNowBy_16 : decode cX1_isSaidNowBy 16 = .ok (.if_icmp .ne 7, 3) := by decide +kernel
theorem dX1_isSaidNowBy_19 : decode cX1_isSaidNowBy 19 = .ok (.iconst 1, 1) := by decide +kernel
theorem dX1_isSaidNowBy_20 : decode cX1_isSaidNowBy 20 = .ok (.goto 4, 3) := by decide +kernel
theorem dX1_isSaidNowBy_23 : decode cX1_isSaidNowBy 23 = .ok (.iconst 0, 1) := by decide +kernel
theorem dX1_isSaidNowBy_24 : decode cX1_isSaidNowBy 24 = .ok (.ireturn, 1) := by decide +kernel
theorem dX1_lastCrew_0 : decode cX1_lastCrew 0 = .ok (.aload_n 0, 1) := by decide +kernel
theorem dX1_lastCrew_1 : decode cX1_lastCrew 1 = .ok (.getfield 12, 3) := by decide +kernel
theorem dX1_lastCrew_4 : decode cX1_lastCrew 4 = .ok (.aload_n 0, 1) := by decide +kernel
theorem dX1_lastCrew_5 : decode cX1_lastCrew 5 = .ok (.getfield 12, 3) := by decide +kernel
theorem dX1_lastCrew_8 : decode cX1_lastCrew 8 = .ok (.iconst 0, 1) := by decide +kernel
theorem dX1_lastCrew_9 : decode cX1_lastCrew 9 = .ok (.sipush 9999, 3) := by decide +kernel
theorem dX1_lastCrew_12 : decode cX1_lastCrew 12 = .ok (.invokevirtual 95, 3) := by decide +kernel
theorem dX1_lastCrew_15 : decode cX1_lastCrew 15 = .ok (.invokevirtual 99, 3) := by decide +kernel
theorem dX1_lastCrew_18 : decode cX1_lastCrew 18 = .ok (.ireturn, 1) := by decide +kernel
theorem dX1_price_0 : decode cX1_price 0 = .ok (.aload_n 0, 1) := by decide +kernel
theorem dX1_price_1 : decode cX1_price 1 = .ok (.getfield 38, 3) := by decide +kernel
theorem dX1_price_4 : decode cX1_price 4 = .ok (.getfield 102, 3) := by decide +kernel
theorem dX1_price_7 : decode cX1_price 7 = .ok (.aload_n 0, 1) := by decide +kernel
theorem dX1_price_8 : decode cX1_price 8 = .ok (.getfield 42, 3) := by decide +kernel
theorem dX1_price_11 : decode cX1_price 11 = .ok (.imul, 1) := by decide +kernel
theorem dX1_price_12 : decode cX1_price 12 = .ok (.istore_n 1, 1) := by decide +kernel
theorem dX1_price_13 : decode cX1_price 13 = .ok (.aload_n 0, 1) := by decide +kernel
theorem dX1_price_14 : decode cX1_price 14 = .ok (.getfield 32, 3) := by decide +kernel
theorem dX1_price_17 : decode cX1_price 17 = .ok (.iconst 4, 1) := by decide +kernel
theorem dX1_price_18 : decode cX1_price 18 = .ok (.idiv, 1) := by decide +kernel
theorem dX1_price_19 : decode cX1_price 19 = .ok (.iconst 2, 1) := by decide +kernel
theorem dX1_price_20 : decode cX1_price 20 = .ok (.if_icmp .ne 13, 3) := by decide +kernel
theorem dX1_price_23 : decode cX1_price 23 = .ok (.iload_n 1, 1) := by decide +kernel
theorem dX1_price_24 : decode cX1_price 24 = .ok (.iload_n 1, 1) := by decide +kernel
theorem dX1_price_25 : decode cX1_price 25 = .ok (.iconst 1, 1) := by decide +kernel
theorem dX1_price_26 : decode cX1_price 26 = .ok (.iadd, 1) := by decide +kernel
theorem dX1_price_27 : decode cX1_price 27 = .ok (.iconst 2, 1) := by decide +kernel
theorem dX1_price_28 : decode cX1_price 28 = .ok (.idiv, 1) := by decide +kernel
theorem dX1_price_29 : decode cX1_price 29 = .ok (.iadd, 1) := by decide +kernel
theorem dX1_price_30 : decode cX1_price 30 = .ok (.goto 4, 3) := by decide +kernel
theorem dX1_price_33 : decode cX1_price 33 = .ok (.iload_n 1, 1) := by decide +kernel
theorem dX1_price_34 : decode cX1_price 34 = .ok (.ireturn, 1) := by decide +kernel
theorem dX1_gaugeSays_0 : decode cX1_gaugeSays 0 = .ok (.aload_n 0, 1) := by decide +kernel
theorem dX1_gaugeSays_1 : decode cX1_gaugeSays 1 = .ok (.getfield 57, 3) := by decide +kernel
theorem dX1_gaugeSays_4 : decode cX1_gaugeSays 4 = .ok (.ifnonnull 7, 3) := by decide +kernel
theorem dX1_gaugeSays_7 : decode cX1_gaugeSays 7 = .ok (.iconst 0, 1) := by decide +kernel
theorem dX1_gaugeSays_8 : decode cX1_gaugeSays 8 = .ok (.goto 11, 3) := by decide +kernel
theorem dX1_gaugeSays_11 : decode cX1_gaugeSays 11 = .ok (.aload_n 0, 1) := by decide +kernel
theorem dX1_gaugeSays_12 : decode cX1_gaugeSays 12 = .ok (.getfield 57, 3) := by decide +kernel
theorem dX1_gaugeSays_15 : decode cX1_gaugeSays 15 = .ok (.iload_n 1, 1) := by decide +kernel
theorem dX1_gaugeSays_16 : decode cX1_gaugeSays 16 = .ok (.invokevirtual 105, 3) := by decide +kernel
theorem dX1_gaugeSays_19 : decode cX1_gaugeSays 19 = .ok (.ireturn, 1) := by decide +kernel
theorem dX1_promiseOn_0 : decode cX1_promiseOn 0 = .ok (.aload_n 0, 1) := by decide +kernel
theorem dX1_promiseOn_1 : decode cX1_promiseOn 1 = .ok (.getfield 22, 3) := by decide +kernel
theorem dX1_promiseOn_4 : decode cX1_promiseOn 4 = .ok (.iconst 1, 1) := by decide +kernel
theorem dX1_promiseOn_5 : decode cX1_promiseOn 5 = .ok (.if_icmp .ne 15, 3) := by decide +kernel
theorem dX1_promiseOn_8 : decode cX1_promiseOn 8 = .ok (.iload_n 1, 1) := by decide +kernel
theorem dX1_promiseOn_9 : decode cX1_promiseOn 9 = .ok (.aload_n 0, 1) := by decide +kernel
theorem dX1_promiseOn_10 : decode cX1_promiseOn 10 = .ok (.getfield 18, 3) := by decide +kernel
theorem dX1_promiseOn_13 : decode cX1_promiseOn 13 = .ok (.if_icmp .le 7, 3) := by decide +kernel
theorem dX1_promiseOn_16 : decode cX1_promiseOn 16 = .ok (.iconst 3, 1) := by decide +kernel
theorem dX1_promiseOn_17 : decode cX1_promiseOn 17 = .ok (.goto 7, 3) := by decide +kernel
theorem dX1_promiseOn_20 : decode cX1_promiseOn 20 = .ok (.aload_n 0, 1) := by decide +kernel
theorem dX1_promiseOn_21 : decode cX1_promiseOn 21 = .ok (.getfield 22, 3) := by decide +kernel
theorem dX1_promiseOn_24 : decode cX1_promiseOn 24 = .ok (.ireturn, 1) := by decide +kernel
theorem dX1_brokenBy_0 : decode cX1_brokenBy 0 = .ok (.aload_n 0, 1) := by decide +kernel
theorem dX1_brokenBy_1 : decode cX1_brokenBy 1 = .ok (.getfield 108, 3) := by decide +kernel
theorem dX1_brokenBy_4 : decode cX1_brokenBy 4 = .ok (.aload_n 0, 1) := by decide +kernel
theorem dX1_brokenBy_5 : decode cX1_brokenBy 5 = .ok (.iload_n 1, 1) := by decide +kernel
theorem dX1_brokenBy_6 : decode cX1_brokenBy 6 = .ok (.invokevirtual 111, 3) := by decide +kernel
theorem dX1_brokenBy_9 : decode cX1_brokenBy 9 = .ok (.iconst 3, 1) := by decide +kernel
theorem dX1_brokenBy_10 : decode cX1_brokenBy 10 = .ok (.if_icmp .ne 7, 3) := by decide +kernel
theorem dX1_brokenBy_13 : decode cX1_brokenBy 13 = .ok (.iconst 1, 1) := by decide +kernel
theorem dX1_brokenBy_14 : decode cX1_brokenBy 14 = .ok (.goto 4, 3) := by decide +kernel
theorem dX1_brokenBy_17 : decode cX1_brokenBy 17 = .ok (.iconst 0, 1) := by decide +kernel
theorem dX1_brokenBy_18 : decode cX1_brokenBy 18 = .ok (.iadd, 1) := by decide +kernel
theorem dX1_brokenBy_19 : decode cX1_brokenBy 19 = .ok (.ireturn, 1) := by decide +kernel
theorem dX1_promiseAnew_0 : decode cX1_promiseAnew 0 = .ok (.aload_n 0, 1) := by decide +kernel
theorem dX1_promiseAnew_1 : decode cX1_promiseAnew 1 = .ok (.aload_n 0, 1) := by decide +kernel
theorem dX1_promiseAnew_2 : decode cX1_promiseAnew 2 = .ok (.iload_n 2, 1) := by decide +kernel
theorem dX1_promiseAnew_3 : decode cX1_promiseAnew 3 = .ok (.invokevirtual 114, 3) := by decide +kernel
theorem dX1_promiseAnew_6 : decode cX1_promiseAnew 6 = .ok (.putfield 108, 3) := by decide +kernel
theorem dX1_promiseAnew_9 : decode cX1_promiseAnew 9 = .ok (.aload_n 0, 1) := by decide +kernel
theorem dX1_promiseAnew_10 : decode cX1_promiseAnew 10 = .ok (.dup, 1) := by decide +kernel
theorem dX1_promiseAnew_11 : decode cX1_promiseAnew 11 = .ok (.getfield 117, 3) := by decide +kernel
theorem dX1_promiseAnew_14 : decode cX1_promiseAnew 14 = .ok (.aload_n 0, 1) := by decide +kernel
theorem dX1_promiseAnew_15 : decode cX1_promiseAnew 15 = .ok (.iload_n 2, 1) := by decide +kernel
theorem dX1_promiseAnew_16 : decode cX1_promiseAnew 16 = .ok (.invokevirtual 111, 3) := by decide +kernel
theorem dX1_promiseAnew_19 : decode cX1_promiseAnew 19 = .ok (.iconst 1, 1) := by decide +kernel
theorem dX1_promiseAnew_20 : decode cX1_promiseAnew 20 = .ok (.if_icmp .ne 7, 3) := by decide +kernel
theorem dX1_promiseAnew_23 : decode cX1_promiseAnew 23 = .ok (.iconst 1, 1) := by decide +kernel
theorem dX1_promiseAnew_24 : decode cX1_promiseAnew 24 = .ok (.goto 4, 3) := by decide +kernel
theorem dX1_promiseAnew_27 : decode cX1_promiseAnew 27 = .ok (.iconst 0, 1) := by decide +kernel
theorem dX1_promiseAnew_28 : decode cX1_promiseAnew 28 = .ok (.iadd, 1) := by decide +kernel
theorem dX1_promiseAnew_29 : decode cX1_promiseAnew 29 = .ok (.putfield 117, 3) := by decide +kernel
theorem dX1_promiseAnew_32 : decode cX1_promiseAnew 32 = .ok (.aload_n 0, 1) := by decide +kernel
theorem dX1_promiseAnew_33 : decode cX1_promiseAnew 33 = .ok (.iconst 1, 1) := by decide +kernel
theorem dX1_promiseAnew_34 : decode cX1_promiseAnew 34 = .ok (.putfield 22, 3) := by decide +kernel
theorem dX1_promiseAnew_37 : decode cX1_promiseAnew 37 = .ok (.aload_n 0, 1) := by decide +kernel
theorem dX1_promiseAnew_38 : decode cX1_promiseAnew 38 = .ok (.iload_n 1, 1) := by decide +kernel
theorem dX1_promiseAnew_39 : decode cX1_promiseAnew 39 = .ok (.putfield 18, 3) := by decide +kernel
theorem dX1_promiseAnew_42 : decode cX1_promiseAnew 42 = .ok (.aload_n 0, 1) := by decide +kernel
theorem dX1_promiseAnew_43 : decode cX1_promiseAnew 43 = .ok (.getfield 12, 3) := by decide +kernel
theorem dX1_promiseAnew_46 : decode cX1_promiseAnew 46 = .ok (.iconst 1, 1) := by decide +kernel
theorem dX1_promiseAnew_47 : decode cX1_promiseAnew 47 = .ok (.iload_n 2, 1) := by decide +kernel
theorem dX1_promiseAnew_48 : decode cX1_promiseAnew 48 = .ok (.iconst (-1), 1) := by decide +kernel
theorem dX1_promiseAnew_49 : decode cX1_promiseAnew 49 = .ok (.invokevirtual 80, 3) := by decide +kernel
theorem dX1_promiseAnew_52 : decode cX1_promiseAnew 52 = .ok (.return_, 1) := by decide +kernel
theorem dX1_saidBy_0 : decode cX1_saidBy 0 = .ok (.aload_n 0, 1) := by decide +kernel
theorem dX1_saidBy_1 : decode cX1_saidBy 1 = .ok (.aload_n 0, 1) := by decide +kernel
theorem dX1_saidBy_2 : decode cX1_saidBy 2 = .ok (.iload_n 2, 1) := by decide +kernel
theorem dX1_saidBy_3 : decode cX1_saidBy 3 = .ok (.invokevirtual 111, 3) := by decide +kernel
theorem dX1_saidBy_6 : decode cX1_saidBy 6 = .ok (.iconst 1, 1) := by decide +kernel
theorem dX1_saidBy_7 : decode cX1_saidBy 7 = .ok (.if_icmp .ne 7, 3) := by decide +kernel
theorem dX1_saidBy_10 : decode cX1_saidBy 10 = .ok (.iconst 2, 1) := by decide +kernel
theorem dX1_saidBy_11 : decode cX1_saidBy 11 = .ok (.goto 8, 3) := by decide +kernel
theorem dX1_saidBy_14 : decode cX1_saidBy 14 = .ok (.aload_n 0, 1) := by decide +kernel
theorem dX1_saidBy_15 : decode cX1_saidBy 15 = .ok (.iload_n 2, 1) := by decide +kernel
theorem dX1_saidBy_16 : decode cX1_saidBy 16 = .ok (.invokevirtual 111, 3) := by decide +kernel
theorem dX1_saidBy_19 : decode cX1_saidBy 19 = .ok (.putfield 22, 3) := by decide +kernel
theorem dX1_saidBy_22 : decode cX1_saidBy 22 = .ok (.aload_n 0, 1) := by decide +kernel
theorem dX1_saidBy_23 : decode cX1_saidBy 23 = .ok (.getfield 12, 3) := by decide +kernel
theorem dX1_saidBy_26 : decode cX1_saidBy 26 = .ok (.iconst 2, 1) := by decide +kernel
theorem dX1_saidBy_27 : decode cX1_saidBy 27 = .ok (.iload_n 2, 1) := by decide +kernel
theorem dX1_saidBy_28 : decode cX1_saidBy 28 = .ok (.iload_n 1, 1) := by decide +kernel
theorem dX1_saidBy_29 : decode cX1_saidBy 29 = .ok (.invokevirtual 80, 3) := by decide +kernel
theorem dX1_saidBy_32 : decode cX1_saidBy 32 = .ok (.return_, 1) := by decide +kernel
theorem dX1_endWith_0 : decode cX1_endWith 0 = .ok (.aload_n 0, 1) := by decide +kernel
theorem dX1_endWith_1 : decode cX1_endWith 1 = .ok (.aload_n 0, 1) := by decide +kernel
theorem dX1_endWith_2 : decode cX1_endWith 2 = .ok (.iload_n 2, 1) := by decide +kernel
theorem dX1_endWith_3 : decode cX1_endWith 3 = .ok (.invokevirtual 111, 3) := by decide +kernel
theorem dX1_endWith_6 : decode cX1_endWith 6 = .ok (.iconst 1, 1) := by decide +kernel
theorem dX1_endWith_7 : decode cX1_endWith 7 = .ok (.if_icmp .ne 7, 3) := by decide +kernel
theorem dX1_endWith_10 : decode cX1_endWith 10 = .ok (.iconst 0, 1) := by decide +kernel
theorem dX1_endWith_11 : decode cX1_endWith 11 = .ok (.goto 8, 3) := by decide +kernel
theorem dX1_endWith_14 : decode cX1_endWith 14 = .ok (.aload_n 0, 1) := by decide +kernel
theorem dX1_endWith_15 : decode cX1_endWith 15 = .ok (.iload_n 2, 1) := by decide +kernel
theorem dX1_endWith_16 : decode cX1_endWith 16 = .ok (.invokevirtual 111, 3) := by decide +kernel
theorem dX1_endWith_19 : decode cX1_endWith 19 = .ok (.putfield 22, 3) := by decide +kernel
theorem dX1_endWith_22 : decode cX1_endWith 22 = .ok (.aload_n 0, 1) := by decide +kernel
theorem dX1_endWith_23 : decode cX1_endWith 23 = .ok (.getfield 12, 3) := by decide +kernel
theorem dX1_endWith_26 : decode cX1_endWith 26 = .ok (.iload_n 1, 1) := by decide +kernel
theorem dX1_endWith_27 : decode cX1_endWith 27 = .ok (.iload_n 2, 1) := by decide +kernel
theorem dX1_endWith_28 : decode cX1_endWith 28 = .ok (.iconst (-1), 1) := by decide +kernel
theorem dX1_endWith_29 : decode cX1_endWith 29 = .ok (.invokevirtual 80, 3) := by decide +kernel
theorem dX1_endWith_32 : decode cX1_endWith 32 = .ok (.return_, 1) := by decide +kernel
theorem dX2_init_0 : decode cX2_init 0 = .ok (.aload_n 0, 1) := by decide +kernel
theorem dX2_init_1 : decode cX2_init 1 = .ok (.invokespecial 3, 3) := by decide +kernel
theorem dX2_init_4 : decode cX2_init 4 = .ok (.aload_n 0, 1) := by decide +kernel
theorem dX2_init_5 : decode cX2_init 5 = .ok (.iconst 5, 1) := by decide +kernel
theorem dX2_init_6 : decode cX2_init 6 = .ok (.newarray .int, 2) := by decide +kernel
theorem dX2_init_8 : decode cX2_init 8 = .ok (.putfield 9, 3) := by decide +kernel
theorem dX2_init_11 : decode cX2_init 11 = .ok (.aload_n 0, 1) := by decide +kernel
theorem dX2_init_12 : decode cX2_init 12 = .ok (.bipush 7, 2) := by decide +kernel
theorem dX2_init_14 : decode cX2_init 14 = .ok (.newarray .int, 2) := by decide +kernel
theorem dX2_init_16 : decode cX2_init 16 = .ok (.putfield 15, 3) := by decide +kernel
theorem dX2_init_19 : decode cX2_init 19 = .ok (.aload_n 0, 1) := by decide +kernel
theorem dX2_init_20 : decode cX2_init 20 = .ok (.bipush 7, 2) := by decide +kernel
theorem dX2_init_22 : decode cX2_init 22 = .ok (.newarray .int, 2) := by decide +kernel
theorem dX2_init_24 : decode cX2_init 24 = .ok (.putfield 18, 3) := by decide +kernel
theorem dX2_init_27 : decode cX2_init 27 = .ok (.return_, 1) := by decide +kernel
theorem dX2_faultIn_0 : decode cX2_faultIn 0 = .ok (.iconst 0, 1) := by decide +kernel
theorem dX2_faultIn_1 : decode cX2_faultIn 1 = .ok (.istore_n 2, 1) := by decide +kernel
theorem dX2_faultIn_2 : decode cX2_faultIn 2 = .ok (.iconst 0, 1) := by decide +kernel
theorem dX2_faultIn_3 : decode cX2_faultIn 3 = .ok (.istore_n 3, 1) := by decide +kernel
theorem dX2_faultIn_4 : decode cX2_faultIn 4 = .ok (.iconst 1, 1) := by decide +kernel
theorem dX2_faultIn_5 : decode cX2_faultIn 5 = .ok (.istore 4, 2) := by decide +kernel
theorem dX2_faultIn_7 : decode cX2_faultIn 7 = .ok (.iconst 0, 1) := by decide +kernel
theorem dX2_faultIn_8 : decode cX2_faultIn 8 = .ok (.istore 5, 2) := by decide +kernel
theorem dX2_faultIn_10 : decode cX2_faultIn 10 = .ok (.iconst 0, 1) := by decide +kernel
theorem dX2_faultIn_11 : decode cX2_faultIn 11 = .ok (.istore 6, 2) := by decide +kernel
theorem dX2_faultIn_13 : decode cX2_faultIn 13 = .ok (.iload 6, 2) := by decide +kernel
theorem dX2_faultIn_15 : decode cX2_faultIn 15 = .ok (.iload_n 1, 1) := by decide +kernel
theorem dX2_faultIn_16 : decode cX2_faultIn 16 = .ok (.if_icmp .ge 193, 3) := by decide +kernel
theorem dX2_faultIn_19 : decode cX2_faultIn 19 = .ok (.iload 6, 2) := by decide +kernel
theorem dX2_faultIn_21 : decode cX2_faultIn 21 = .ok (.aload_n 0, 1) := by decide +kernel
theorem dX2_faultIn_22 : decode cX2_faultIn 22 = .ok (.arraylength, 1) := by decide +kernel
theorem dX2_faultIn_23 : decode cX2_faultIn 23 = .ok (.if_icmp .ge 186, 3) := by decide +kernel
theorem dX2_faultIn_26 : decode cX2_faultIn 26 = .ok (.aload_n 0, 1) := by decide +kernel
theorem dX2_faultIn_27 : decode cX2_faultIn 27 = .ok (.iload 6, 2) := by decide +kernel
theorem dX2_faultIn_29 : decode cX2_faultIn 29 = .ok (.iaload, 1) := by decide +kernel
theorem dX2_faultIn_30 : decode cX2_faultIn 30 = .ok (.istore 7, 2) := by decide +kernel
theorem dX2_faultIn_32 : decode cX2_faultIn 32 = .ok (.iload 4, 2) := by decide +kernel
theorem dX2_faultIn_34 : decode cX2_faultIn 34 = .ok (.ifCond .eq 61, 3) := by decide +kernel
theorem dX2_faultIn_37 : decode cX2_faultIn 37 = .ok (.iload 7, 2) := by decide +kernel
theorem dX2_faultIn_39 : decode cX2_faultIn 39 = .ok (.bipush 40, 2) := by decide +kernel
theorem dX2_faultIn_41 : decode cX2_faultIn 41 = .ok (.if_icmp .ne 15, 3) := by decide +kernel
theorem dX2_faultIn_44 : decode cX2_faultIn 44 = .ok (.iload_n 2, 1) := by decide +kernel
theorem dX2_faultIn_45 : decode cX2_faultIn 45 = .ok (.bipush 6, 2) := by decide +kernel
theorem dX2_faultIn_47 : decode cX2_faultIn 47 = .ok (.if_icmp .ge 9, 3) := by decide +kernel
theorem dX2_faultIn_50 : decode cX2_faultIn 50 = .ok (.iinc 2 1, 3) := by decide +kernel
theorem dX2_faultIn_53 : decode cX2_faultIn 53 = .ok (.goto 150, 3) := by decide +kernel
theorem dX2_faultIn_56 : decode cX2_faultIn 56 = .ok (.iload 7, 2) := by decide +kernel
theorem dX2_faultIn_58 : decode cX2_faultIn 58 = .ok (.invokestatic 21, 3) := by decide +kernel
theorem dX2_faultIn_61 : decode cX2_faultIn 61 = .ok (.ifCond .ne 11, 3) := by decide +kernel
theorem dX2_faultIn_64 : decode cX2_faultIn 64 = .ok (.iload 7, 2) := by decide +kernel
theorem dX2_faultIn_66 : decode cX2_faultIn 66 = .ok (.invokestatic 25, 3) := by decide +kernel
theorem dX2_faultIn_69 : decode cX2_faultIn 69 = .ok (.ifCond .eq 23, 3) := by decide +kernel
theorem dX2_faultIn_72 : decode cX2_faultIn 72 = .ok (.iload 7, 2) := by decide +kernel
theorem dX2_faultIn_74 : decode cX2_faultIn 74 = .ok (.invokestatic 21, 3) := by decide +kernel
theorem dX2_faultIn_77 : decode cX2_faultIn 77 = .ok (.ifCond .eq 7, 3) := by decide +kernel
theorem dX2_faultIn_80 : decode cX2_faultIn 80 = .ok (.iconst 1, 1) := by decide +kernel
theorem dX2_faultIn_81 : decode cX2_faultIn 81 = .ok (.goto 4, 3) := by decide +kernel
theorem dX2_faultIn_84 : decode cX2_faultIn 84 = .ok (.iconst 0, 1) := by decide +kernel
theorem dX2_faultIn_85 : decode cX2_faultIn 85 = .ok (.istore_n 3, 1) := by decide +kernel
theorem dX2_faultIn_86 : decode cX2_faultIn 86 = .ok (.iconst 0, 1) := by decide +kernel
theorem dX2_faultIn_87 : decode cX2_faultIn 87 = .ok (.istore 4, 2) := by decide +kernel
theorem dX2_faultIn_89 : decode cX2_faultIn 89 = .ok (.goto 114, 3) := by decide +kernel
theorem dX2_faultIn_92 : decode cX2_faultIn 92 = .ok (.iload 6, 2) := by decide +kernel
theorem dX2_faultIn_94 : decode cX2_faultIn 94 = .ok (.ireturn, 1) := by decide +kernel
theorem dX2_faultIn_95 : decode cX2_faultIn 95 = .ok (.iload 7, 2) := by decide +kernel
theorem dX2_faultIn_97 : decode cX2_faultIn 97 = .ok (.invokestatic 21, 3) := by decide +kernel
theorem dX2_faultIn_100 : decode cX2_faultIn 100 = .ok (.ifCond .eq 18, 3) := by decide +kernel
theorem dX2_faultIn_103 : decode cX2_faultIn 103 = .ok (.iload_n 3, 1) := by decide +kernel
theorem dX2_faultIn_104 : decode cX2_faultIn 104 = .ok (.ifCond .le 14, 3) := by decide +kernel
theorem dX2_faultIn_107 : decode cX2_faultIn 107 = .ok (.iload_n 3, 1) := by decide +kernel
theorem dX2_faultIn_108 : decode cX2_faultIn 108 = .ok (.iconst 5, 1) := by decide +kernel
theorem dX2_faultIn_109 : decode cX2_faultIn 109 = .ok (.if_icmp .ge 9, 3) := by decide +kernel
theorem dX2_faultIn_112 : decode cX2_faultIn 112 = .ok (.iinc 3 1, 3) := by decide +kernel
theorem dX2_faultIn_115 : decode cX2_faultIn 115 = .ok (.goto 88, 3) := by decide +kernel
theorem dX2_faultIn_118 : decode cX2_faultIn 118 = .ok (.iload 7, 2) := by decide +kernel
theorem dX2_faultIn_120 : decode cX2_faultIn 120 = .ok (.bipush 41, 2) := by decide +kernel
theorem dX2_faultIn_122 : decode cX2_faultIn 122 = .ok (.if_icmp .ne 15, 3) := by decide +kernel
theorem dX2_faultIn_125 : decode cX2_faultIn 125 = .ok (.iload_n 2, 1) := by decide +kernel
theorem dX2_faultIn_126 : decode cX2_faultIn 126 = .ok (.ifCond .le 11, 3) := by decide +kernel
theorem dX2_faultIn_129 : decode cX2_faultIn 129 = .ok (.iinc 2 (-1), 3) := by decide +kernel
theorem dX2_faultIn_132 : decode cX2_faultIn 132 = .ok (.iconst 0, 1) := by decide +kernel
theorem dX2_faultIn_133 : decode cX2_faultIn 133 = .ok (.istore_n 3, 1) := by decide +kernel
theorem dX2_faultIn_134 : decode cX2_faultIn 134 = .ok (.goto 69, 3) := by decide +kernel
theorem dX2_faultIn_137 : decode cX2_faultIn 137 = .ok (.iload 7, 2) := by decide +kernel
theorem dX2_faultIn_139 : decode cX2_faultIn 139 = .ok (.invokestatic 28, 3) := by decide +kernel
theorem dX2_faultIn_142 : decode cX2_faultIn 142 = .ok (.ifCond .ne 26, 3) := by decide +kernel
theorem dX2_faultIn_145 : decode cX2_faultIn 145 = .ok (.iload_n 2, 1) := by decide +kernel
theorem dX2_faultIn_146 : decode cX2_faultIn 146 = .ok (.ifCond .ne 54, 3) := by decide +kernel
theorem dX2_faultIn_149 : decode cX2_faultIn 149 = .ok (.iload 7, 2) := by decide +kernel
theorem dX2_faultIn_151 : decode cX2_faultIn 151 = .ok (.bipush 59, 2) := by decide +kernel
theorem dX2_faultIn_153 : decode cX2_faultIn 153 = .ok (.if_icmp .eq 15, 3) := by decide +kernel
theorem dX2_faultIn_156 : decode cX2_faultIn 156 = .ok (.iload 7, 2) := by decide +kernel
theorem dX2_faultIn_158 : decode cX2_faultIn 158 = .ok (.bipush 58, 2) := by decide +kernel
theorem dX2_faultIn_160 : decode cX2_faultIn 160 = .ok (.if_icmp .ne 40, 3) := by decide +kernel
theorem dX2_faultIn_163 : decode cX2_faultIn 163 = .ok (.iload 5, 2) := by decide +kernel
theorem dX2_faultIn_165 : decode cX2_faultIn 165 = .ok (.ifCond .ne 35, 3) := by decide +kernel
theorem dX2_faultIn_168 : decode cX2_faultIn 168 = .ok (.iconst 1, 1) := by decide +kernel
theorem dX2_faultIn_169 : decode cX2_faultIn 169 = .ok (.istore 4, 2) := by decide +kernel
theorem dX2_faultIn_171 : decode cX2_faultIn 171 = .ok (.iload 7, 2) := by decide +kernel
theorem dX2_faultIn_173 : decode cX2_faultIn 173 = .ok (.bipush 58, 2) := by decide +kernel
theorem dX2_faultIn_175 : decode cX2_faultIn 175 = .ok (.if_icmp .eq 15, 3) := by decide +kernel
theorem dX2_faultIn_178 : decode cX2_faultIn 178 = .ok (.iload 5, 2) := by decide +kernel
theorem dX2_faultIn_180 : decode cX2_faultIn 180 = .ok (.ifCond .eq 14, 3) := by decide +kernel
theorem dX2_faultIn_183 : decode cX2_faultIn 183 = .ok (.iload 7, 2) := by decide +kernel
theorem dX2_faultIn_185 : decode cX2_faultIn 185 = .ok (.bipush 59, 2) := by decide +kernel
theorem dX2_faultIn_187 : decode cX2_faultIn 187 = .ok (.if_icmp .eq 7, 3) := by decide +kernel
theorem dX2_faultIn_190 : decode cX2_faultIn 190 = .ok (.iconst 1, 1) := by decide +kernel
theorem dX2_faultIn_191 : decode cX2_faultIn 191 = .ok (.goto 4, 3) := by decide +kernel
theorem dX2_faultIn_194 : decode cX2_faultIn 194 = .ok (.iconst 0, 1) := by decide +kernel
theorem dX2_faultIn_195 : decode cX2_faultIn 195 = .ok (.istore 5, 2) := by decide +kernel
theorem dX2_faultIn_197 : decode cX2_faultIn 197 = .ok (.goto 6, 3) := by decide +kernel
theorem dX2_faultIn_200 : decode cX2_faultIn 200 = .ok (.iload 6, 2) := by decide +kernel
theorem dX2_faultIn_202 : decode cX2_faultIn 202 = .ok (.ireturn, 1) := by decide +kernel
theorem dX2_faultIn_203 : decode cX2_faultIn 203 = .ok (.iinc 6 1, 3) := by decide +kernel
theorem dX2_faultIn_206 : decode cX2_faultIn 206 = .ok (.goto (-193), 3) := by decide +kernel
theorem dX2_faultIn_209 : decode cX2_faultIn 209 = .ok (.iload 4, 2) := by decide +kernel
theorem dX2_faultIn_211 : decode cX2_faultIn 211 = .ok (.ifCond .ne 7, 3) := by decide +kernel
theorem dX2_faultIn_214 : decode cX2_faultIn 214 = .ok (.iload_n 2, 1) := by decide +kernel
theorem dX2_faultIn_215 : decode cX2_faultIn 215 = .ok (.ifCond .le 7, 3) := by decide +kernel
theorem dX2_faultIn_218 : decode cX2_faultIn 218 = .ok (.iload_n 1, 1) := by decide +kernel
theorem dX2_faultIn_219 : decode cX2_faultIn 219 = .ok (.goto 4, 3) := by decide +kernel
theorem dX2_faultIn_222 : decode cX2_faultIn 222 = .ok (.iconst (-1), 1) := by decide +kernel
theorem dX2_faultIn_223 : decode cX2_faultIn 223 = .ok (.ireturn, 1) := by decide +kernel
theorem dX2_isName_0 : decode cX2_isName 0 = .ok (.ldc 31, 2) := by decide +kernel
theorem dX2_isName_2 : decode cX2_isName 2 = .ok (.iload_n 0, 1) := by decide +kernel
theorem dX2_isName_3 : decode cX2_isName 3 = .ok (.i2c, 1) := by decide +kernel
theorem dX2_isName_4 : decode cX2_isName 4 = .ok (.invokevirtual 33, 3) := by decide +kernel
theorem dX2_isName_7 : decode cX2_isName 7 = .ok (.ifCond .lt 7, 3) := by decide +kernel
theorem dX2_isName_10 : decode cX2_isName 10 = .ok (.iconst 1, 1) := by decide +kernel
theorem dX2_isName_11 : decode cX2_isName 11 = .ok (.goto 4, 3) := by decide +kernel
theorem dX2_isName_14 : decode cX2_isName 14 = .ok (.iconst 0, 1) := by decide +kernel
theorem dX2_isName_15 : decode cX2_isName 15 = .ok (.ireturn, 1) := by decide +kernel
theorem dX2_isSign_0 : decode cX2_isSign 0 = .ok (.ldc 39, 2) := by decide +kernel
theorem dX2_isSign_2 : decode cX2_isSign 2 = .ok (.iload_n 0, 1) := by decide +kernel
theorem dX2_isSign_3 : decode cX2_isSign 3 = .ok (.i2c, 1) := by decide +kernel
theorem dX2_isSign_4 : decode cX2_isSign 4 = .ok (.invokevirtual 33, 3) := by decide +kernel
theorem dX2_isSign_7 : decode cX2_isSign 7 = .ok (.ifCond .lt 7, 3) := by decide +kernel
theorem dX2_isSign_10 : decode cX2_isSign 10 = .ok (.iconst 1, 1) := by decide +kernel
theorem dX2_isSign_11 : decode cX2_isSign 11 = .ok (.goto 4, 3) := by decide +kernel
theorem dX2_isSign_14 : decode cX2_isSign 14 = .ok (.iconst 0, 1) := by decide +kernel
theorem dX2_isSign_15 : decode cX2_isSign 15 = .ok (.ireturn, 1) := by decide +kernel
theorem dX2_setFacts_0 : decode cX2_setFacts 0 = .ok (.aload_n 0, 1) := by decide +kernel
theorem dX2_setFacts_1 : decode cX2_setFacts 1 = .ok (.getfield 9, 3) := by decide +kernel
theorem dX2_setFacts_4 : decode cX2_setFacts 4 = .ok (.iconst 0, 1) := by decide +kernel
theorem dX2_setFacts_5 : decode cX2_setFacts 5 = .ok (.iload_n 1, 1) := by decide +kernel
theorem dX2_setFacts_6 : decode cX2_setFacts 6 = .ok (.iastore, 1) := by decide +kernel
theorem dX2_setFacts_7 : decode cX2_setFacts 7 = .ok (.aload_n 0, 1) := by decide +kernel
theorem dX2_setFacts_8 : decode cX2_setFacts 8 = .ok (.getfield 9, 3) := by decide +kernel
theorem dX2_setFacts_11 : decode cX2_setFacts 11 = .ok (.iconst 1, 1) := by decide +kernel
theorem dX2_setFacts_12 : decode cX2_setFacts 12 = .ok (.iload_n 2, 1) := by decide +kernel
theorem dX2_setFacts_13 : decode cX2_setFacts 13 = .ok (.iastore, 1) := by decide +kernel
theorem dX2_setFacts_14 : decode cX2_setFacts 14 = .ok (.aload_n 0, 1) := by decide +kernel
theorem dX2_setFacts_15 : decode cX2_setFacts 15 = .ok (.getfield 9, 3) := by decide +kernel
theorem dX2_setFacts_18 : decode cX2_setFacts 18 = .ok (.iconst 2, 1) := by decide +kernel
theorem dX2_setFacts_19 : decode cX2_setFacts 19 = .ok (.iload_n 3, 1) := by decide +kernel
theorem dX2_setFacts_20 : decode cX2_setFacts 20 = .ok (.iastore, 1) := by decide +kernel
theorem dX2_setFacts_21 : decode cX2_setFacts 21 = .ok (.aload_n 0, 1) := by decide +kernel
theorem dX2_setFacts_22 : decode cX2_setFacts 22 = .ok (.getfield 9, 3) := by decide +kernel
theorem dX2_setFacts_25 : decode cX2_setFacts 25 = .ok (.iconst 3, 1) := by decide +kernel
theorem dX2_setFacts_26 : decode cX2_setFacts 26 = .ok (.iload 4, 2) := by decide +kernel
theorem dX2_setFacts_28 : decode cX2_setFacts 28 = .ok (.iastore, 1) := by decide +kernel
theorem dX2_setFacts_29 : decode cX2_setFacts 29 = .ok (.aload_n 0, 1) := by decide +kernel
theorem dX2_setFacts_30 : decode cX2_setFacts 30 = .ok (.getfield 9, 3) := by decide +kernel
theorem dX2_setFacts_33 : decode cX2_setFacts 33 = .ok (.iconst 4, 1) := by decide +kernel
theorem dX2_setFacts_34 : decode cX2_setFacts 34 = .ok (.iload 5, 2) := by decide +kernel
theorem dX2_setFacts_36 : decode cX2_setFacts 36 = .ok (.iastore, 1) := by decide +kernel
theorem dX2_setFacts_37 : decode cX2_setFacts 37 = .ok (.return_, 1) := by decide +kernel
theorem dX2_gives_0 : decode cX2_gives 0 = .ok (.iconst 1, 1) := by decide +kernel
theorem dX2_gives_1 : decode cX2_gives 1 = .ok (.istore_n 2, 1) := by decide +kernel
theorem dX2_gives_2 : decode cX2_gives 2 = .ok (.iconst 0, 1) := by decide +kernel
theorem dX2_gives_3 : decode cX2_gives 3 = .ok (.istore_n 3, 1) := by decide +kernel
theorem dX2_gives_4 : decode cX2_gives 4 = .ok (.aload_n 0, 1) := by decide +kernel
theorem dX2_gives_5 : decode cX2_gives 5 = .ok (.invokevirtual 41, 3) := by decide +kernel
theorem dX2_gives_8 : decode cX2_gives 8 = .ok (.iconst 0, 1) := by decide +kernel
theorem dX2_gives_9 : decode cX2_gives 9 = .ok (.istore 4, 2) := by decide +kernel
theorem dX2_gives_11 : decode cX2_gives 11 = .ok (.iload 4, 2) := by decide +kernel
theorem dX2_gives_13 : decode cX2_gives 13 = .ok (.aload_n 1, 1) := by decide +kernel
theorem dX2_gives_14 : decode cX2_gives 14 = .ok (.invokevirtual 44, 3) := by decide +kernel
theorem dX2_gives_17 : decode cX2_gives 17 = .ok (.if_icmp .ge 122, 3) := by decide +kernel
theorem dX2_gives_20 : decode cX2_gives 20 = .ok (.aload_n 1, 1) := by decide +kernel
theorem dX2_gives_21 : decode cX2_gives 21 = .ok (.iload 4, 2) := by decide +kernel
theorem dX2_gives_23 : decode cX2_gives 23 = .ok (.invokevirtual 50, 3) := by decide +kernel
theorem dX2_gives_26 : decode cX2_gives 26 = .ok (.istore 5, 2) := by decide +kernel
theorem dX2_gives_28 : decode cX2_gives 28 = .ok (.iload 5, 2) := by decide +kernel
theorem dX2_gives_30 : decode cX2_gives 30 = .ok (.invokestatic 21, 3) := by decide +kernel
theorem dX2_gives_33 : decode cX2_gives 33 = .ok (.ifCond .eq 38, 3) := by decide +kernel
theorem dX2_gives_36 : decode cX2_gives 36 = .ok (.iload_n 3, 1) := by decide +kernel
theorem dX2_gives_37 : decode cX2_gives 37 = .ok (.bipush 10, 2) := by decide +kernel
theorem dX2_gives_39 : decode cX2_gives 39 = .ok (.imul, 1) := by decide +kernel
theorem dX2_gives_40 : decode cX2_gives 40 = .ok (.iload 5, 2) := by decide +kernel
theorem dX2_gives_42 : decode cX2_gives 42 = .ok (.bipush 48, 2) := by decide +kernel
theorem dX2_gives_44 : decode cX2_gives 44 = .ok (.isub, 1) := by decide +kernel
theorem dX2_gives_45 : decode cX2_gives 45 = .ok (.iadd, 1) := by decide +kernel
theorem dX2_gives_46 : decode cX2_gives 46 = .ok (.istore_n 3, 1) := by decide +kernel
theorem dX2_gives_47 : decode cX2_gives 47 = .ok (.aload_n 1, 1) := by decide +kernel
theorem dX2_gives_48 : decode cX2_gives 48 = .ok (.iload 4, 2) := by decide +kernel
theorem dX2_gives_50 : decode cX2_gives 50 = .ok (.iconst 1, 1) := by decide +kernel
theorem dX2_gives_51 : decode cX2_gives 51 = .ok (.iadd, 1) := by decide +kernel
theorem dX2_gives_52 : decode cX2_gives 52 = .ok (.invokevirtual 50, 3) := by decide +kernel
theorem dX2_gives_55 : decode cX2_gives 55 = .ok (.invokestatic 21, 3) := by decide +kernel
theorem dX2_gives_58 : decode cX2_gives 58 = .ok (.ifCond .ne 75, 3) := by decide +kernel
theorem dX2_gives_61 : decode cX2_gives 61 = .ok (.aload_n 0, 1) := by decide +kernel
theorem dX2_gives_62 : decode cX2_gives 62 = .ok (.iload_n 3, 1) := by decide +kernel
theorem dX2_gives_63 : decode cX2_gives 63 = .ok (.invokevirtual 53, 3) := by decide +kernel
theorem dX2_gives_66 : decode cX2_gives 66 = .ok (.iconst 0, 1) := by decide +kernel
theorem dX2_gives_67 : decode cX2_gives 67 = .ok (.istore_n 3, 1) := by decide +kernel
theorem dX2_gives_68 : decode cX2_gives 68 = .ok (.goto 65, 3) := by decide +kernel
theorem dX2_gives_71 : decode cX2_gives 71 = .ok (.iload 5, 2) := by decide +kernel
theorem dX2_gives_73 : decode cX2_gives 73 = .ok (.bipush 58, 2) := by decide +kernel
theorem dX2_gives_75 : decode cX2_gives 75 = .ok (.if_icmp .ne 25, 3) := by decide +kernel
theorem dX2_gives_78 : decode cX2_gives 78 = .ok (.aload_n 0, 1) := by decide +kernel
theorem dX2_gives_79 : decode cX2_gives 79 = .ok (.getfield 15, 3) := by decide +kernel
theorem dX2_gives_82 : decode cX2_gives 82 = .ok (.iconst 0, 1) := by decide +kernel
theorem dX2_gives_83 : decode cX2_gives 83 = .ok (.iaload, 1) := by decide +kernel
theorem dX2_gives_84 : decode cX2_gives 84 = .ok (.ifCond .eq 7, 3) := by decide +kernel
theorem dX2_gives_87 : decode cX2_gives 87 = .ok (.iconst 1, 1) := by decide +kernel
theorem dX2_gives_88 : decode cX2_gives 88 = .ok (.goto 4, 3) := by decide +kernel
theorem dX2_gives_91 : decode cX2_gives 91 = .ok (.iconst 0, 1) := by decide +kernel
theorem dX2_gives_92 : decode cX2_gives 92 = .ok (.istore_n 2, 1) := by decide +kernel
theorem dX2_gives_93 : decode cX2_gives 93 = .ok (.aload_n 0, 1) := by decide +kernel
theorem dX2_gives_94 : decode cX2_gives 94 = .ok (.invokevirtual 41, 3) := by decide +kernel
theorem dX2_gives_97 : decode cX2_gives 97 = .ok (.goto 36, 3) := by decide +kernel
theorem dX2_gives_100 : decode cX2_gives 100 = .ok (.iload 5, 2) := by decide +kernel
theorem dX2_gives_102 : decode cX2_gives 102 = .ok (.bipush 59, 2) := by decide +kernel
theorem dX2_gives_104 : decode cX2_gives 104 = .ok (.if_icmp .ne 23, 3) := by decide +kernel
theorem dX2_gives_107 : decode cX2_gives 107 = .ok (.iload_n 2, 1) := by decide +kernel
theorem dX2_gives_108 : decode cX2_gives 108 = .ok (.ifCond .eq 10, 3) := by decide +kernel
theorem dX2_gives_111 : decode cX2_gives 111 = .ok (.aload_n 0, 1) := by decide +kernel
theorem dX2_gives_112 : decode cX2_gives 112 = .ok (.getfield 15, 3) := by decide +kernel
theorem dX2_gives_115 : decode cX2_gives 115 = .ok (.iconst 0, 1) := by decide +kernel
theorem dX2_gives_116 : decode cX2_gives 116 = .ok (.iaload, 1) := by decide +kernel
theorem dX2_gives_117 : decode cX2_gives 117 = .ok (.ireturn, 1) := by decide +kernel
theorem dX2_gives_118 : decode cX2_gives 118 = .ok (.iconst 1, 1) := by decide +kernel
theorem dX2_gives_119 : decode cX2_gives 119 = .ok (.istore_n 2, 1) := by decide +kernel
theorem dX2_gives_120 : decode cX2_gives 120 = .ok (.aload_n 0, 1) := by decide +kernel
theorem dX2_gives_121 : decode cX2_gives 121 = .ok (.invokevirtual 41, 3) := by decide +kernel
theorem dX2_gives_124 : decode cX2_gives 124 = .ok (.goto 9, 3) := by decide +kernel
theorem dX2_gives_127 : decode cX2_gives 127 = .ok (.aload_n 0, 1) := by decide +kernel
theorem dX2_gives_128 : decode cX2_gives 128 = .ok (.iload 5, 2) := by decide +kernel
theorem dX2_gives_130 : decode cX2_gives 130 = .ok (.invokevirtual 57, 3) := by decide +kernel
theorem dX2_gives_133 : decode cX2_gives 133 = .ok (.iinc 4 1, 3) := by decide +kernel
theorem dX2_gives_136 : decode cX2_gives 136 = .ok (.goto (-125), 3) := by decide +kernel
theorem dX2_gives_139 : decode cX2_gives 139 = .ok (.iload_n 2, 1) := by decide +kernel
theorem dX2_gives_140 : decode cX2_gives 140 = .ok (.ifCond .eq 12, 3) := by decide +kernel
theorem dX2_gives_143 : decode cX2_gives 143 = .ok (.aload_n 0, 1) := by decide +kernel
theorem dX2_gives_144 : decode cX2_gives 144 = .ok (.getfield 15, 3) := by decide +kernel
theorem dX2_gives_147 : decode cX2_gives 147 = .ok (.iconst 0, 1) := by decide +kernel
theorem dX2_gives_148 : decode cX2_gives 148 = .ok (.iaload, 1) := by decide +kernel
theorem dX2_gives_149 : decode cX2_gives 149 = .ok (.goto 4, 3) := by decide +kernel
theorem dX2_gives_152 : decode cX2_gives 152 = .ok (.iconst 0, 1) := by decide +kernel
theorem dX2_gives_153 : decode cX2_gives 153 = .ok (.ireturn, 1) := by decide +kernel
theorem dX2_startPart_0 : decode cX2_startPart 0 = .ok (.aload_n 0, 1) := by decide +kernel
theorem dX2_startPart_1 : decode cX2_startPart 1 = .ok (.iconst 0, 1) := by decide +kernel
theorem dX2_startPart_2 : decode cX2_startPart 2 = .ok (.putfield 60, 3) := by decide +kernel
theorem dX2_startPart_5 : decode cX2_startPart 5 = .ok (.aload_n 0, 1) := by decide +kernel
theorem dX2_startPart_6 : decode cX2_startPart 6 = .ok (.invokevirtual 64, 3) := by decide +kernel
theorem dX2_startPart_9 : decode cX2_startPart 9 = .ok (.return_, 1) := by decide +kernel
theorem dX2_startLevel_0 : decode cX2_startLevel 0 = .ok (.aload_n 0, 1) := by decide +kernel
theorem dX2_startLevel_1 : decode cX2_startLevel 1 = .ok (.getfield 60, 3) := by decide +kernel
theorem dX2_startLevel_4 : decode cX2_startLevel 4 = .ok (.aload_n 0, 1) := by decide +kernel
theorem dX2_startLevel_5 : decode cX2_startLevel 5 = .ok (.getfield 15, 3) := by decide +kernel
theorem dX2_startLevel_8 : decode cX2_startLevel 8 = .ok (.arraylength, 1) := by decide +kernel
theorem dX2_startLevel_9 : decode cX2_startLevel 9 = .ok (.invokestatic 67, 3) := by decide +kernel
theorem dX2_startLevel_12 : decode cX2_startLevel 12 = .ok (.ifCond .eq 24, 3) := by decide +kernel
theorem dX2_startLevel_15 : decode cX2_startLevel 15 = .ok (.aload_n 0, 1) := by decide +kernel
theorem dX2_startLevel_16 : decode cX2_startLevel 16 = .ok (.getfield 15, 3) := by decide +kernel
theorem dX2_startLevel_19 : decode cX2_startLevel 19 = .ok (.aload_n 0, 1) := by decide +kernel
theorem dX2_startLevel_20 : decode cX2_startLevel 20 = .ok (.getfield 60, 3) := by decide +kernel
theorem dX2_startLevel_23 : decode cX2_startLevel 23 = .ok (.iconst 0, 1) := by decide +kernel
theorem dX2_startLevel_24 : decode cX2_startLevel 24 = .ok (.iastore, 1) := by decide +kernel
theorem dX2_startLevel_25 : decode cX2_startLevel 25 = .ok (.aload_n 0, 1) := by decide +kernel
theorem dX2_startLevel_26 : decode cX2_startLevel 26 = .ok (.getfield 18, 3) := by decide +kernel
theorem dX2_startLevel_29 : decode cX2_startLevel 29 = .ok (.aload_n 0, 1) := by decide +kernel
theorem dX2_startLevel_30 : decode cX2_startLevel 30 = .ok (.getfield 60, 3) := by decide +kernel
theorem dX2_startLevel_33 : decode cX2_startLevel 33 = .ok (.bipush 43, 2) := by decide +kernel
theorem dX2_startLevel_35 : decode cX2_startLevel 35 = .ok (.iastore, 1) := by decide +kernel
theorem dX2_startLevel_36 : decode cX2_startLevel 36 = .ok (.return_, 1) := by decide +kernel
theorem dX2_step_0 : decode cX2_step 0 = .ok (.ldc 31, 2) := by decide +kernel
theorem dX2_step_2 : decode cX2_step 2 = .ok (.iload_n 1, 1) := by decide +kernel
theorem dX2_step_3 : decode cX2_step 3 = .ok (.i2c, 1) := by decide +kernel
theorem dX2_step_4 : decode cX2_step 4 = .ok (.invokevirtual 33, 3) := by decide +kernel
theorem dX2_step_7 : decode cX2_step 7 = .ok (.istore_n 2, 1) := by decide +kernel
theorem dX2_step_8 : decode cX2_step 8 = .ok (.iload_n 2, 1) := by decide +kernel
theorem dX2_step_9 : decode cX2_step 9 = .ok (.aload_n 0, 1) := by decide +kernel
theorem dX2_step_10 : decode cX2_step 10 = .ok (.getfield 9, 3) := by decide +kernel
theorem dX2_step_13 : decode cX2_step 13 = .ok (.arraylength, 1) := by decide +kernel
theorem dX2_step_14 : decode cX2_step 14 = .ok (.invokestatic 67, 3) := by decide +kernel
theorem dX2_step_17 : decode cX2_step 17 = .ok (.ifCond .eq 16, 3) := by decide +kernel
theorem dX2_step_20 : decode cX2_step 20 = .ok (.aload_n 0, 1) := by decide +kernel
theorem dX2_step_21 : decode cX2_step 21 = .ok (.aload_n 0, 1) := by decide +kernel
theorem dX2_step_22 : decode cX2_step 22 = .ok (.getfield 9, 3) := by decide +kernel
theorem dX2_step_25 : decode cX2_step 25 = .ok (.iload_n 2, 1) := by decide +kernel
theorem dX2_step_26 : decode cX2_step 26 = .ok (.iaload, 1) := by decide +kernel
theorem dX2_step_27 : decode cX2_step 27 = .ok (.invokevirtual 53, 3) := by decide +kernel
theorem dX2_step_30 : decode cX2_step 30 = .ok (.goto 110, 3) := by decide +kernel
theorem dX2_step_33 : decode cX2_step 33 = .ok (.iload_n 1, 1) := by decide +kernel
theorem dX2_step_34 : decode cX2_step 34 = .ok (.bipush 40, 2) := by decide +kernel
theorem dX2_step_36 : decode cX2_step 36 = .ok (.if_icmp .ne 29, 3) := by decide +kernel
theorem dX2_step_39 : decode cX2_step 39 = .ok (.aload_n 0, 1) := by decide +kernel
theorem dX2_step_40 : decode cX2_step 40 = .ok (.getfield 60, 3) := by decide +kernel
theorem dX2_step_43 : decode cX2_step 43 = .ok (.bipush 6, 2) := by decide +kernel
theorem dX2_step_45 : decode cX2_step 45 = .ok (.if_icmp .ge 20, 3) := by decide +kernel
theorem dX2_step_48 : decode cX2_step 48 = .ok (.aload_n 0, 1) := by decide +kernel
theorem dX2_step_49 : decode cX2_step 49 = .ok (.dup, 1) := by decide +kernel
theorem dX2_step_50 : decode cX2_step 50 = .ok (.getfield 60, 3) := by decide +kernel
theorem dX2_step_53 : decode cX2_step 53 = .ok (.iconst 1, 1) := by decide +kernel
theorem dX2_step_54 : decode cX2_step 54 = .ok (.iadd, 1) := by decide +kernel
theorem dX2_step_55 : decode cX2_step 55 = .ok (.putfield 60, 3) := by decide +kernel
theorem dX2_step_58 : decode cX2_step 58 = .ok (.aload_n 0, 1) := by decide +kernel
theorem dX2_step_59 : decode cX2_step 59 = .ok (.invokevirtual 64, 3) := by decide +kernel
theorem dX2_step_62 : decode cX2_step 62 = .ok (.goto 78, 3) := by decide +kernel
theorem dX2_step_65 : decode cX2_step 65 = .ok (.iload_n 1, 1) := by decide +kernel
theorem dX2_step_66 : decode cX2_step 66 = .ok (.bipush 41, 2) := by decide +kernel
theorem dX2_step_68 : decode cX2_step 68 = .ok (.if_icmp .ne 47, 3) := by decide +kernel
theorem dX2_step_71 : decode cX2_step 71 = .ok (.aload_n 0, 1) := by decide +kernel
theorem dX2_step_72 : decode cX2_step 72 = .ok (.getfield 60, 3) := by decide +kernel
theorem dX2_step_75 : decode cX2_step 75 = .ok (.ifCond .le 40, 3) := by decide +kernel
theorem dX2_step_78 : decode cX2_step 78 = .ok (.aload_n 0, 1) := by decide +kernel
theorem dX2_step_79 : decode cX2_step 79 = .ok (.getfield 60, 3) := by decide +kernel
theorem dX2_step_82 : decode cX2_step 82 = .ok (.bipush 6, 2) := by decide +kernel
theorem dX2_step_84 : decode cX2_step 84 = .ok (.if_icmp .gt 31, 3) := by decide +kernel
theorem dX2_step_87 : decode cX2_step 87 = .ok (.aload_n 0, 1) := by decide +kernel
theorem dX2_step_88 : decode cX2_step 88 = .ok (.dup, 1) := by decide +kernel
theorem dX2_step_89 : decode cX2_step 89 = .ok (.getfield 60, 3) := by decide +kernel
theorem dX2_step_92 : decode cX2_step 92 = .ok (.iconst 1, 1) := by decide +kernel
theorem dX2_step_93 : decode cX2_step 93 = .ok (.isub, 1) := by decide +kernel
theorem dX2_step_94 : decode cX2_step 94 = .ok (.putfield 60, 3) := by decide +kernel
theorem dX2_step_97 : decode cX2_step 97 = .ok (.aload_n 0, 1) := by decide +kernel
theorem dX2_step_98 : decode cX2_step 98 = .ok (.aload_n 0, 1) := by decide +kernel
theorem dX2_step_99 : decode cX2_step 99 = .ok (.getfield 15, 3) := by decide +kernel
theorem dX2_step_102 : decode cX2_step 102 = .ok (.aload_n 0, 1) := by decide +kernel
theorem dX2_step_103 : decode cX2_step 103 = .ok (.getfield 60, 3) := by decide +kernel
theorem dX2_step_106 : decode cX2_step 106 = .ok (.iconst 1, 1) := by decide +kernel
theorem dX2_step_107 : decode cX2_step 107 = .ok (.iadd, 1) := by decide +kernel
theorem dX2_step_108 : decode cX2_step 108 = .ok (.iaload, 1) := by decide +kernel
theorem dX2_step_109 : decode cX2_step 109 = .ok (.invokevirtual 53, 3) := by decide +kernel
theorem dX2_step_112 : decode cX2_step 112 = .ok (.goto 28, 3) := by decide +kernel
theorem dX2_step_115 : decode cX2_step 115 = .ok (.aload_n 0, 1) := by decide +kernel
theorem dX2_step_116 : decode cX2_step 116 = .ok (.getfield 60, 3) := by decide +kernel
theorem dX2_step_119 : decode cX2_step 119 = .ok (.aload_n 0, 1) := by decide +kernel
theorem dX2_step_120 : decode cX2_step 120 = .ok (.getfield 18, 3) := by decide +kernel
theorem dX2_step_123 : decode cX2_step 123 = .ok (.arraylength, 1) := by decide +kernel
theorem dX2_step_124 : decode cX2_step 124 = .ok (.invokestatic 67, 3) := by decide +kernel
theorem dX2_step_127 : decode cX2_step 127 = .ok (.ifCond .eq 13, 3) := by decide +kernel
theorem dX2_step_130 : decode cX2_step 130 = .ok (.aload_n 0, 1) := by decide +kernel
theorem dX2_step_131 : decode cX2_step 131 = .ok (.getfield 18, 3) := by decide +kernel
theorem dX2_step_134 : decode cX2_step 134 = .ok (.aload_n 0, 1) := by decide +kernel
theorem dX2_step_135 : decode cX2_step 135 = .ok (.getfield 60, 3) := by decide +kernel
theorem dX2_step_138 : decode cX2_step 138 = .ok (.iload_n 1, 1) := by decide +kernel
theorem dX2_step_139 : decode cX2_step 139 = .ok (.iastore, 1) := by decide +kernel
theorem dX2_step_140 : decode cX2_step 140 = .ok (.return_, 1) := by decide +kernel
theorem dX2_join_0 : decode cX2_join 0 = .ok (.aload_n 0, 1) := by decide +kernel
theorem dX2_join_1 : decode cX2_join 1 = .ok (.getfield 60, 3) := by decide +kernel
theorem dX2_join_4 : decode cX2_join 4 = .ok (.aload_n 0, 1) := by decide +kernel
theorem dX2_join_5 : decode cX2_join 5 = .ok (.getfield 15, 3) := by decide +kernel
theorem dX2_join_8 : decode cX2_join 8 = .ok (.arraylength, 1) := by decide +kernel
theorem dX2_join_9 : decode cX2_join 9 = .ok (.invokestatic 67, 3) := by decide +kernel
theorem dX2_join_12 : decode cX2_join 12 = .ok (.ifCond .eq 34, 3) := by decide +kernel
theorem dX2_join_15 : decode cX2_join 15 = .ok (.aload_n 0, 1) := by decide +kernel
theorem dX2_join_16 : decode cX2_join 16 = .ok (.getfield 15, 3) := by decide +kernel
theorem dX2_join_19 : decode cX2_join 19 = .ok (.aload_n 0, 1) := by decide +kernel
theorem dX2_join_20 : decode cX2_join 20 = .ok (.getfield 60, 3) := by decide +kernel
theorem dX2_join_23 : decode cX2_join 23 = .ok (.aload_n 0, 1) := by decide +kernel
theorem dX2_join_24 : decode cX2_join 24 = .ok (.getfield 15, 3) := by decide +kernel
theorem dX2_join_27 : decode cX2_join 27 = .ok (.aload_n 0, 1) := by decide +kernel
theorem dX2_join_28 : decode cX2_join 28 = .ok (.getfield 60, 3) := by decide +kernel
theorem dX2_join_31 : decode cX2_join 31 = .ok (.iaload, 1) := by decide +kernel
theorem dX2_join_32 : decode cX2_join 32 = .ok (.aload_n 0, 1) := by decide +kernel
theorem dX2_join_33 : decode cX2_join 33 = .ok (.getfield 18, 3) := by decide +kernel
theorem dX2_join_36 : decode cX2_join 36 = .ok (.aload_n 0, 1) := by decide +kernel
theorem dX2_join_37 : decode cX2_join 37 = .ok (.getfield 60, 3) := by decide +kernel
theorem dX2_join_40 : decode cX2_join 40 = .ok (.iaload, 1) := by decide +kernel
theorem dX2_join_41 : decode cX2_join 41 = .ok (.iload_n 1, 1) := by decide +kernel
theorem dX2_join_42 : decode cX2_join 42 = .ok (.invokestatic 71, 3) := by decide +kernel
theorem dX2_join_45 : decode cX2_join 45 = .ok (.iastore, 1) := by decide +kernel
theorem dX2_join_46 : decode cX2_join 46 = .ok (.return_, 1) := by decide +kernel
theorem dX2_workOut_0 : decode cX2_workOut 0 = .ok (.iload_n 1, 1) := by decide +kernel
theorem dX2_workOut_1 : decode cX2_workOut 1 = .ok (.tableswitch 43 42 45 #[39, 31, 43, 35], 31) := by decide +kernel
theorem dX2_workOut_32 : decode cX2_workOut 32 = .ok (.iload_n 0, 1) := by decide +kernel
theorem dX2_workOut_33 : decode cX2_workOut 33 = .ok (.iload_n 2, 1) := by decide +kernel
theorem dX2_workOut_34 : decode cX2_workOut 34 = .ok (.iadd, 1) := by decide +kernel
theorem dX2_workOut_35 : decode cX2_workOut 35 = .ok (.ireturn, 1) := by decide +kernel
theorem dX2_workOut_36 : decode cX2_workOut 36 = .ok (.iload_n 0, 1) := by decide +kernel
theorem dX2_workOut_37 : decode cX2_workOut 37 = .ok (.iload_n 2, 1) := by decide +kernel
theorem dX2_workOut_38 : decode cX2_workOut 38 = .ok (.isub, 1) := by decide +kernel
theorem dX2_workOut_39 : decode cX2_workOut 39 = .ok (.ireturn, 1) := by decide +kernel
theorem dX2_workOut_40 : decode cX2_workOut 40 = .ok (.iload_n 0, 1) := by decide +kernel
theorem dX2_workOut_41 : decode cX2_workOut 41 = .ok (.iload_n 2, 1) := by decide +kernel
theorem dX2_workOut_42 : decode cX2_workOut 42 = .ok (.imul, 1) := by decide +kernel
theorem dX2_workOut_43 : decode cX2_workOut 43 = .ok (.ireturn, 1) := by decide +kernel
theorem dX2_workOut_44 : decode cX2_workOut 44 = .ok (.iload_n 2, 1) := by decide +kernel
theorem dX2_workOut_45 : decode cX2_workOut 45 = .ok (.ifCond .ne 7, 3) := by decide +kernel
theorem dX2_workOut_48 : decode cX2_workOut 48 = .ok (.iconst 0, 1) := by decide +kernel
theorem dX2_workOut_49 : decode cX2_workOut 49 = .ok (.goto 6, 3) := by decide +kernel
theorem dX2_workOut_52 : decode cX2_workOut 52 = .ok (.iload_n 0, 1) := by decide +kernel
theorem dX2_workOut_53 : decode cX2_workOut 53 = .ok (.iload_n 2, 1) := by decide +kernel
theorem dX2_workOut_54 : decode cX2_workOut 54 = .ok (.idiv, 1) := by decide +kernel
theorem dX2_workOut_55 : decode cX2_workOut 55 = .ok (.ireturn, 1) := by decide +kernel
theorem dX3_init_0 : decode cX3_init 0 = .ok (.aload_n 0, 1) := by decide +kernel
theorem dX3_init_1 : decode cX3_init 1 = .ok (.invokespecial 3, 3) := by decide +kernel
theorem dX3_init_4 : decode cX3_init 4 = .ok (.aload_n 0, 1) := by decide +kernel
theorem dX3_init_5 : decode cX3_init 5 = .ok (.bipush 12, 2) := by decide +kernel
theorem dX3_init_7 : decode cX3_init 7 = .ok (.newarray .int, 2) := by decide +kernel
theorem dX3_init_9 : decode cX3_init 9 = .ok (.putfield 11, 3) := by decide +kernel
theorem dX3_init_12 : decode cX3_init 12 = .ok (.aload_n 0, 1) := by decide +kernel
theorem dX3_init_13 : decode cX3_init 13 = .ok (.bipush 12, 2) := by decide +kernel
theorem dX3_init_15 : decode cX3_init 15 = .ok (.newarray .int, 2) := by decide +kernel
theorem dX3_init_17 : decode cX3_init 17 = .ok (.putfield 15, 3) := by decide +kernel
theorem dX3_init_20 : decode cX3_init 20 = .ok (.return_, 1) := by decide +kernel
theorem dX3_lastDay_0 : decode cX3_lastDay 0 = .ok (.aload_n 0, 1) := by decide +kernel
theorem dX3_lastDay_1 : decode cX3_lastDay 1 = .ok (.getfield 18, 3) := by decide +kernel
theorem dX3_lastDay_4 : decode cX3_lastDay 4 = .ok (.ifCond .ne 7, 3) := by decide +kernel
theorem dX3_lastDay_7 : decode cX3_lastDay 7 = .ok (.iconst (-1), 1) := by decide +kernel
theorem dX3_lastDay_8 : decode cX3_lastDay 8 = .ok (.goto 14, 3) := by decide +kernel
theorem dX3_lastDay_11 : decode cX3_lastDay 11 = .ok (.aload_n 0, 1) := by decide +kernel
theorem dX3_lastDay_12 : decode cX3_lastDay 12 = .ok (.getfield 11, 3) := by decide +kernel
theorem dX3_lastDay_15 : decode cX3_lastDay 15 = .ok (.aload_n 0, 1) := by decide +kernel
theorem dX3_lastDay_16 : decode cX3_lastDay 16 = .ok (.getfield 18, 3) := by decide +kernel
theorem dX3_lastDay_19 : decode cX3_lastDay 19 = .ok (.iconst 1, 1) := by decide +kernel
theorem dX3_lastDay_20 : decode cX3_lastDay 20 = .ok (.isub, 1) := by decide +kernel
theorem dX3_lastDay_21 : decode cX3_lastDay 21 = .ok (.iaload, 1) := by decide +kernel
theorem dX3_lastDay_22 : decode cX3_lastDay 22 = .ok (.ireturn, 1) := by decide +kernel
theorem dX3_add_0 : decode cX3_add 0 = .ok (.aload_n 0, 1) := by decide +kernel
theorem dX3_add_1 : decode cX3_add 1 = .ok (.getfield 18, 3) := by decide +kernel
theorem dX3_add_4 : decode cX3_add 4 = .ok (.bipush 12, 2) := by decide +kernel
theorem dX3_add_6 : decode cX3_add 6 = .ok (.if_icmp .lt 5, 3) := by decide +kernel
theorem dX3_add_9 : decode cX3_add 9 = .ok (.iconst 0, 1) := by decide +kernel
theorem dX3_add_10 : decode cX3_add 10 = .ok (.ireturn, 1) := by decide +kernel
theorem dX3_add_11 : decode cX3_add 11 = .ok (.aload_n 0, 1) := by decide +kernel
theorem dX3_add_12 : decode cX3_add 12 = .ok (.getfield 11, 3) := by decide +kernel
theorem dX3_add_15 : decode cX3_add 15 = .ok (.aload_n 0, 1) := by decide +kernel
theorem dX3_add_16 : decode cX3_add 16 = .ok (.getfield 18, 3) := by decide +kernel
theorem dX3_add_19 : decode cX3_add 19 = .ok (.iload_n 1, 1) := by decide +kernel
theorem dX3_add_20 : decode cX3_add 20 = .ok (.iastore, 1) := by decide +kernel
theorem dX3_add_21 : decode cX3_add 21 = .ok (.aload_n 0, 1) := by decide +kernel
theorem dX3_add_22 : decode cX3_add 22 = .ok (.getfield 15, 3) := by decide +kernel
theorem dX3_add_25 : decode cX3_add 25 = .ok (.aload_n 0, 1) := by decide +kernel
theorem dX3_add_26 : decode cX3_add 26 = .ok (.getfield 18, 3) := by decide +kernel
theorem dX3_add_29 : decode cX3_add 29 = .ok (.iload_n 2, 1) := by decide +kernel
theorem dX3_add_30 : decode cX3_add 30 = .ok (.iastore, 1) := by decide +kernel
theorem dX3_add_31 : decode cX3_add 31 = .ok (.aload_n 0, 1) := by decide +kernel
theorem dX3_add_32 : decode cX3_add 32 = .ok (.dup, 1) := by decide +kernel
theorem dX3_add_33 : decode cX3_add 33 = .ok (.getfield 18, 3) := by decide +kernel
theorem dX3_add_36 : decode cX3_add 36 = .ok (.iconst 1, 1) := by decide +kernel
theorem dX3_add_37 : decode cX3_add 37 = .ok (.iadd, 1) := by decide +kernel
theorem dX3_add_38 : decode cX3_add 38 = .ok (.putfield 18, 3) := by decide +kernel
theorem dX3_add_41 : decode cX3_add 41 = .ok (.iconst 1, 1) := by decide +kernel
theorem dX3_add_42 : decode cX3_add 42 = .ok (.ireturn, 1) := by decide +kernel
theorem dX3_paceAt_0 : decode cX3_paceAt 0 = .ok (.iload_n 1, 1) := by decide +kernel
theorem dX3_paceAt_1 : decode cX3_paceAt 1 = .ok (.aload_n 0, 1) := by decide +kernel
theorem dX3_paceAt_2 : decode cX3_paceAt 2 = .ok (.getfield 18, 3) := by decide +kernel
theorem dX3_paceAt_5 : decode cX3_paceAt 5 = .ok (.iconst 1, 1) := by decide +kernel
theorem dX3_paceAt_6 : decode cX3_paceAt 6 = .ok (.isub, 1) := by decide +kernel
theorem dX3_paceAt_7 : decode cX3_paceAt 7 = .ok (.invokestatic 22, 3) := by decide +kernel
theorem dX3_paceAt_10 : decode cX3_paceAt 10 = .ok (.ifCond .ne 6, 3) := by decide +kernel
theorem dX3_paceAt_13 : decode cX3_paceAt 13 = .ok (.ldc 26, 2) := by decide +kernel
theorem dX3_paceAt_15 : decode cX3_paceAt 15 = .ok (.ireturn, 1) := by decide +kernel
theorem dX3_paceAt_16 : decode cX3_paceAt 16 = .ok (.aload_n 0, 1) := by decide +kernel
theorem dX3_paceAt_17 : decode cX3_paceAt 17 = .ok (.getfield 11, 3) := by decide +kernel
theorem dX3_paceAt_20 : decode cX3_paceAt 20 = .ok (.iload_n 1, 1) := by decide +kernel
theorem dX3_paceAt_21 : decode cX3_paceAt 21 = .ok (.iconst 1, 1) := by decide +kernel
theorem dX3_paceAt_22 : decode cX3_paceAt 22 = .ok (.iadd, 1) := by decide +kernel
theorem dX3_paceAt_23 : decode cX3_paceAt 23 = .ok (.iaload, 1) := by decide +kernel
theorem dX3_paceAt_24 : decode cX3_paceAt 24 = .ok (.aload_n 0, 1) := by decide +kernel
theorem dX3_paceAt_25 : decode cX3_paceAt 25 = .ok (.getfield 11, 3) := by decide +kernel
theorem dX3_paceAt_28 : decode cX3_paceAt 28 = .ok (.iload_n 1, 1) := by decide +kernel
theorem dX3_paceAt_29 : decode cX3_paceAt 29 = .ok (.iaload, 1) := by decide +kernel
theorem dX3_paceAt_30 : decode cX3_paceAt 30 = .ok (.isub, 1) := by decide +kernel
theorem dX3_paceAt_31 : decode cX3_paceAt 31 = .ok (.istore_n 2, 1) := by decide +kernel
theorem dX3_paceAt_32 : decode cX3_paceAt 32 = .ok (.iload_n 2, 1) := by decide +kernel
theorem dX3_paceAt_33 : decode cX3_paceAt 33 = .ok (.ifCond .ne 7, 3) := by decide +kernel
theorem dX3_paceAt_36 : decode cX3_paceAt 36 = .ok (.iconst 0, 1) := by decide +kernel
theorem dX3_paceAt_37 : decode cX3_paceAt 37 = .ok (.goto 24, 3) := by decide +kernel
theorem dX3_paceAt_40 : decode cX3_paceAt 40 = .ok (.aload_n 0, 1) := by decide +kernel
theorem dX3_paceAt_41 : decode cX3_paceAt 41 = .ok (.getfield 15, 3) := by decide +kernel
theorem dX3_paceAt_44 : decode cX3_paceAt 44 = .ok (.iload_n 1, 1) := by decide +kernel
theorem dX3_paceAt_45 : decode cX3_paceAt 45 = .ok (.iconst 1, 1) := by decide +kernel
theorem dX3_paceAt_46 : decode cX3_paceAt 46 = .ok (.iadd, 1) := by decide +kernel
theorem dX3_paceAt_47 : decode cX3_paceAt 47 = .ok (.iaload, 1) := by decide +kernel
theorem dX3_paceAt_48 : decode cX3_paceAt 48 = .ok (.aload_n 0, 1) := by decide +kernel
theorem dX3_paceAt_49 : decode cX3_paceAt 49 = .ok (.getfield 15, 3) := by decide +kernel
theorem dX3_paceAt_52 : decode cX3_paceAt 52 = .ok (.iload_n 1, 1) := by decide +kernel
theorem dX3_paceAt_53 : decode cX3_paceAt 53 = .ok (.iaload, 1) := by decide +kernel
theorem dX3_paceAt_54 : decode cX3_paceAt 54 = .ok (.isub, 1) := by decide +kernel
theorem dX3_paceAt_55 : decode cX3_paceAt 55 = .ok (.sipush 1000, 3) := by decide +kernel
theorem dX3_paceAt_58 : decode cX3_paceAt 58 = .ok (.imul, 1) := by decide +kernel
theorem dX3_paceAt_59 : decode cX3_paceAt 59 = .ok (.iload_n 2, 1) := by decide +kernel
theorem dX3_paceAt_60 : decode cX3_paceAt 60 = .ok (.idiv, 1) := by decide +kernel
theorem dX3_paceAt_61 : decode cX3_paceAt 61 = .ok (.ireturn, 1) := by decide +kernel
theorem dX3_says_0 : decode cX3_says 0 = .ok (.iconst 0, 1) := by decide +kernel
theorem dX3_says_1 : decode cX3_says 1 = .ok (.istore_n 2, 1) := by decide +kernel
theorem dX3_says_2 : decode cX3_says 2 = .ok (.iload_n 2, 1) := by decide +kernel
theorem dX3_says_3 : decode cX3_says 3 = .ok (.aload_n 0, 1) := by decide +kernel
theorem dX3_says_4 : decode cX3_says 4 = .ok (.getfield 18, 3) := by decide +kernel
theorem dX3_says_7 : decode cX3_says 7 = .ok (.if_icmp .ge 19, 3) := by decide +kernel
theorem dX3_says_10 : decode cX3_says 10 = .ok (.aload_n 0, 1) := by decide +kernel
theorem dX3_says_11 : decode cX3_says 11 = .ok (.getfield 11, 3) := by decide +kernel
theorem dX3_says_14 : decode cX3_says 14 = .ok (.iload_n 2, 1) := by decide +kernel
theorem dX3_says_15 : decode cX3_says 15 = .ok (.iaload, 1) := by decide +kernel
theorem dX3_says_16 : decode cX3_says 16 = .ok (.iload_n 1, 1) := by decide +kernel
theorem dX3_says_17 : decode cX3_says 17 = .ok (.if_icmp .gt 9, 3) := by decide +kernel
theorem dX3_says_20 : decode cX3_says 20 = .ok (.iinc 2 1, 3) := by decide +kernel
theorem dX3_says_23 : decode cX3_says 23 = .ok (.goto (-21), 3) := by decide +kernel
theorem dX3_says_26 : decode cX3_says 26 = .ok (.iload_n 2, 1) := by decide +kernel
theorem dX3_says_27 : decode cX3_says 27 = .ok (.iconst 3, 1) := by decide +kernel
theorem dX3_says_28 : decode cX3_says 28 = .ok (.if_icmp .ge 5, 3) := by decide +kernel
theorem dX3_says_31 : decode cX3_says 31 = .ok (.iconst 0, 1) := by decide +kernel
theorem dX3_says_32 : decode cX3_says 32 = .ok (.ireturn, 1) := by decide +kernel
theorem dX3_says_33 : decode cX3_says 33 = .ok (.aload_n 0, 1) := by decide +kernel
theorem dX3_says_34 : decode cX3_says 34 = .ok (.iload_n 2, 1) := by decide +kernel
theorem dX3_says_35 : decode cX3_says 35 = .ok (.iconst 1, 1) := by decide +kernel
theorem dX3_says_36 : decode cX3_says 36 = .ok (.isub, 1) := by decide +kernel
theorem dX3_says_37 : decode cX3_says 37 = .ok (.invokevirtual 27, 3) := by decide +kernel
theorem dX3_says_40 : decode cX3_says 40 = .ok (.ifCond .eq 5, 3) := by decide +kernel
theorem dX3_says_43 : decode cX3_says 43 = .ok (.iconst 1, 1) := by decide +kernel
theorem dX3_says_44 : decode cX3_says 44 = .ok (.ireturn, 1) := by decide +kernel
theorem dX3_says_45 : decode cX3_says 45 = .ok (.aload_n 0, 1) := by decide +kernel
theorem dX3_says_46 : decode cX3_says 46 = .ok (.iload_n 2, 1) := by decide +kernel
theorem dX3_says_47 : decode cX3_says 47 = .ok (.iconst 1, 1) := by decide +kernel
theorem dX3_says_48 : decode cX3_says 48 = .ok (.isub, 1) := by decide +kernel
theorem dX3_says_49 : decode cX3_says 49 = .ok (.invokevirtual 31, 3) := by decide +kernel
theorem dX3_says_52 : decode cX3_says 52 = .ok (.ifCond .ne 13, 3) := by decide +kernel
theorem dX3_says_55 : decode cX3_says 55 = .ok (.aload_n 0, 1) := by decide +kernel
theorem dX3_says_56 : decode cX3_says 56 = .ok (.iload_n 2, 1) := by decide +kernel
theorem dX3_says_57 : decode cX3_says 57 = .ok (.iconst 1, 1) := by decide +kernel
theorem dX3_says_58 : decode cX3_says 58 = .ok (.isub, 1) := by decide +kernel
theorem dX3_says_59 : decode cX3_says 59 = .ok (.invokevirtual 34, 3) := by decide +kernel
theorem dX3_says_62 : decode cX3_says 62 = .ok (.ifCond .eq 7, 3) := by decide +kernel
theorem dX3_says_65 : decode cX3_says 65 = .ok (.iconst 2, 1) := by decide +kernel
theorem dX3_says_66 : decode cX3_says 66 = .ok (.goto 4, 3) := by decide +kernel
theorem dX3_says_69 : decode cX3_says 69 = .ok (.iconst 0, 1) := by decide +kernel
theorem dX3_says_70 : decode cX3_says 70 = .ok (.ireturn, 1) := by decide +kernel
theorem dX3_isDrying_0 : decode cX3_isDrying 0 = .ok (.iconst 0, 1) := by decide +kernel
theorem dX3_isDrying_1 : decode cX3_isDrying 1 = .ok (.istore_n 2, 1) := by decide +kernel
theorem dX3_isDrying_2 : decode cX3_isDrying 2 = .ok (.iload_n 2, 1) := by decide +kernel
theorem dX3_isDrying_3 : decode cX3_isDrying 3 = .ok (.iload_n 1, 1) := by decide +kernel
theorem dX3_isDrying_4 : decode cX3_isDrying 4 = .ok (.if_icmp .ge 38, 3) := by decide +kernel
theorem dX3_isDrying_7 : decode cX3_isDrying 7 = .ok (.aload_n 0, 1) := by decide +kernel
theorem dX3_isDrying_8 : decode cX3_isDrying 8 = .ok (.iload_n 2, 1) := by decide +kernel
theorem dX3_isDrying_9 : decode cX3_isDrying 9 = .ok (.invokevirtual 37, 3) := by decide +kernel
theorem dX3_isDrying_12 : decode cX3_isDrying 12 = .ok (.ifCond .lt 22, 3) := by decide +kernel
theorem dX3_isDrying_15 : decode cX3_isDrying 15 = .ok (.iload_n 2, 1) := by decide +kernel
theorem dX3_isDrying_16 : decode cX3_isDrying 16 = .ok (.ifCond .le 20, 3) := by decide +kernel
theorem dX3_isDrying_19 : decode cX3_isDrying 19 = .ok (.aload_n 0, 1) := by decide +kernel
theorem dX3_isDrying_20 : decode cX3_isDrying 20 = .ok (.iload_n 2, 1) := by decide +kernel
theorem dX3_isDrying_21 : decode cX3_isDrying 21 = .ok (.invokevirtual 37, 3) := by decide +kernel
theorem dX3_isDrying_24 : decode cX3_isDrying 24 = .ok (.aload_n 0, 1) := by decide +kernel
theorem dX3_isDrying_25 : decode cX3_isDrying 25 = .ok (.iload_n 2, 1) := by decide +kernel
theorem dX3_isDrying_26 : decode cX3_isDrying 26 = .ok (.iconst 1, 1) := by decide +kernel
theorem dX3_isDrying_27 : decode cX3_isDrying 27 = .ok (.isub, 1) := by decide +kernel
theorem dX3_isDrying_28 : decode cX3_isDrying 28 = .ok (.invokevirtual 37, 3) := by decide +kernel
theorem dX3_isDrying_31 : decode cX3_isDrying 31 = .ok (.if_icmp .le 5, 3) := by decide +kernel
theorem dX3_isDrying_34 : decode cX3_isDrying 34 = .ok (.iconst 0, 1) := by decide +kernel
theorem dX3_isDrying_35 : decode cX3_isDrying 35 = .ok (.ireturn, 1) := by decide +kernel
theorem dX3_isDrying_36 : decode cX3_isDrying 36 = .ok (.iinc 2 1, 3) := by decide +kernel
theorem dX3_isDrying_39 : decode cX3_isDrying 39 = .ok (.goto (-37), 3) := by decide +kernel
theorem dX3_isDrying_42 : decode cX3_isDrying 42 = .ok (.aload_n 0, 1) := by decide +kernel
theorem dX3_isDrying_43 : decode cX3_isDrying 43 = .ok (.iload_n 1, 1) := by decide +kernel
theorem dX3_isDrying_44 : decode cX3_isDrying 44 = .ok (.iconst 1, 1) := by decide +kernel
theorem dX3_isDrying_45 : decode cX3_isDrying 45 = .ok (.isub, 1) := by decide +kernel
theorem dX3_isDrying_46 : decode cX3_isDrying 46 = .ok (.invokevirtual 37, 3) := by decide +kernel
theorem dX3_isDrying_49 : decode cX3_isDrying 49 = .ok (.i2l, 1) := by decide +kernel
theorem dX3_isDrying_50 : decode cX3_isDrying 50 = .ok (.ldc2_w 41, 3) := by decide +kernel
theorem dX3_isDrying_53 : decode cX3_isDrying 53 = .ok (.lmul, 1) := by decide +kernel
theorem dX3_isDrying_54 : decode cX3_isDrying 54 = .ok (.aload_n 0, 1) := by decide +kernel
theorem dX3_isDrying_55 : decode cX3_isDrying 55 = .ok (.iconst 0, 1) := by decide +kernel
theorem dX3_isDrying_56 : decode cX3_isDrying 56 = .ok (.invokevirtual 37, 3) := by decide +kernel
theorem dX3_isDrying_59 : decode cX3_isDrying 59 = .ok (.i2l, 1) := by decide +kernel
theorem dX3_isDrying_60 : decode cX3_isDrying 60 = .ok (.lcmp, 1) := by decide +kernel
theorem dX3_isDrying_61 : decode cX3_isDrying 61 = .ok (.ifCond .gt 7, 3) := by decide +kernel
theorem dX3_isDrying_64 : decode cX3_isDrying 64 = .ok (.iconst 1, 1) := by decide +kernel
theorem dX3_isDrying_65 : decode cX3_isDrying 65 = .ok (.goto 4, 3) := by decide +kernel
theorem dX3_isDrying_68 : decode cX3_isDrying 68 = .ok (.iconst 0, 1) := by decide +kernel
theorem dX3_isDrying_69 : decode cX3_isDrying 69 = .ok (.ireturn, 1) := by decide +kernel
theorem dX3_swings_0 : decode cX3_swings 0 = .ok (.iconst 0, 1) := by decide +kernel
theorem dX3_swings_1 : decode cX3_swings 1 = .ok (.istore_n 2, 1) := by decide +kernel
theorem dX3_swings_2 : decode cX3_swings 2 = .ok (.iconst 0, 1) := by decide +kernel
theorem dX3_swings_3 : decode cX3_swings 3 = .ok (.istore_n 3, 1) := by decide +kernel
theorem dX3_swings_4 : decode cX3_swings 4 = .ok (.iconst 0, 1) := by decide +kernel
theorem dX3_swings_5 : decode cX3_swings 5 = .ok (.istore 4, 2) := by decide +kernel
theorem dX3_swings_7 : decode cX3_swings 7 = .ok (.iconst 0, 1) := by decide +kernel
theorem dX3_swings_8 : decode cX3_swings 8 = .ok (.istore 5, 2) := by decide +kernel
theorem dX3_swings_10 : decode cX3_swings 10 = .ok (.iconst 0, 1) := by decide +kernel
theorem dX3_swings_11 : decode cX3_swings 11 = .ok (.istore 6, 2) := by decide +kernel
theorem dX3_swings_13 : decode cX3_swings 13 = .ok (.iload 6, 2) := by decide +kernel
theorem dX3_swings_15 : decode cX3_swings 15 = .ok (.iload_n 1, 1) := by decide +kernel
theorem dX3_swings_16 : decode cX3_swings 16 = .ok (.if_icmp .ge 120, 3) := by decide +kernel
theorem dX3_swings_19 : decode cX3_swings 19 = .ok (.aload_n 0, 1) := by decide +kernel
theorem dX3_swings_20 : decode cX3_swings 20 = .ok (.iload 6, 2) := by decide +kernel
theorem dX3_swings_22 : decode cX3_swings 22 = .ok (.invokevirtual 37, 3) := by decide +kernel
theorem dX3_swings_25 : decode cX3_swings 25 = .ok (.istore 7, 2) := by decide +kernel
theorem dX3_swings_27 : decode cX3_swings 27 = .ok (.aload_n 0, 1) := by decide +kernel
theorem dX3_swings_28 : decode cX3_swings 28 = .ok (.getfield 11, 3) := by decide +kernel
theorem dX3_swings_31 : decode cX3_swings 31 = .ok (.iload 6, 2) := by decide +kernel
theorem dX3_swings_33 : decode cX3_swings 33 = .ok (.iconst 1, 1) := by decide +kernel
theorem dX3_swings_34 : decode cX3_swings 34 = .ok (.iadd, 1) := by decide +kernel
theorem dX3_swings_35 : decode cX3_swings 35 = .ok (.iaload, 1) := by decide +kernel
theorem dX3_swings_36 : decode cX3_swings 36 = .ok (.bipush 30, 2) := by decide +kernel
theorem dX3_swings_38 : decode cX3_swings 38 = .ok (.idiv, 1) := by decide +kernel
theorem dX3_swings_39 : decode cX3_swings 39 = .ok (.bipush 12, 2) := by decide +kernel
theorem dX3_swings_41 : decode cX3_swings 41 = .ok (.irem, 1) := by decide +kernel
theorem dX3_swings_42 : decode cX3_swings 42 = .ok (.bipush 6, 2) := by decide +kernel
theorem dX3_swings_44 : decode cX3_swings 44 = .ok (.if_icmp .ge 7, 3) := by decide +kernel
theorem dX3_swings_47 : decode cX3_swings 47 = .ok (.iconst 1, 1) := by decide +kernel
theorem dX3_swings_48 : decode cX3_swings 48 = .ok (.goto 4, 3) := by decide +kernel
theorem dX3_swings_51 : decode cX3_swings 51 = .ok (.iconst 0, 1) := by decide +kernel
theorem dX3_swings_52 : decode cX3_swings 52 = .ok (.istore 8, 2) := by decide +kernel
theorem dX3_swings_54 : decode cX3_swings 54 = .ok (.iload_n 2, 1) := by decide +kernel
theorem dX3_swings_55 : decode cX3_swings 55 = .ok (.iload 8, 2) := by decide +kernel
theorem dX3_swings_57 : decode cX3_swings 57 = .ok (.ifCond .eq 12, 3) := by decide +kernel
theorem dX3_swings_60 : decode cX3_swings 60 = .ok (.iload 7, 2) := by decide +kernel
theorem dX3_swings_62 : decode cX3_swings 62 = .ok (.ifCond .le 7, 3) := by decide +kernel
theorem dX3_swings_65 : decode cX3_swings 65 = .ok (.iconst 1, 1) := by decide +kernel
theorem dX3_swings_66 : decode cX3_swings 66 = .ok (.goto 4, 3) := by decide +kernel
theorem dX3_swings_69 : decode cX3_swings 69 = .ok (.iconst 0, 1) := by decide +kernel
theorem dX3_swings_70 : decode cX3_swings 70 = .ok (.ior, 1) := by decide +kernel
theorem dX3_swings_71 : decode cX3_swings 71 = .ok (.istore_n 2, 1) := by decide +kernel
theorem dX3_swings_72 : decode cX3_swings 72 = .ok (.iload_n 3, 1) := by decide +kernel
theorem dX3_swings_73 : decode cX3_swings 73 = .ok (.iload 8, 2) := by decide +kernel
theorem dX3_swings_75 : decode cX3_swings 75 = .ok (.ifCond .eq 12, 3) := by decide +kernel
theorem dX3_swings_78 : decode cX3_swings 78 = .ok (.iload 7, 2) := by decide +kernel
theorem dX3_swings_80 : decode cX3_swings 80 = .ok (.ifCond .ge 7, 3) := by decide +kernel
theorem dX3_swings_83 : decode cX3_swings 83 = .ok (.iconst 1, 1) := by decide +kernel
theorem dX3_swings_84 : decode cX3_swings 84 = .ok (.goto 4, 3) := by decide +kernel
theorem dX3_swings_87 : decode cX3_swings 87 = .ok (.iconst 0, 1) := by decide +kernel
theorem dX3_swings_88 : decode cX3_swings 88 = .ok (.ior, 1) := by decide +kernel
theorem dX3_swings_89 : decode cX3_swings 89 = .ok (.istore_n 3, 1) := by decide +kernel
theorem dX3_swings_90 : decode cX3_swings 90 = .ok (.iload 4, 2) := by decide +kernel
theorem dX3_swings_92 : decode cX3_swings 92 = .ok (.iload 8, 2) := by decide +kernel
theorem dX3_swings_94 : decode cX3_swings 94 = .ok (.ifCond .ne 12, 3) := by decide +kernel
theorem dX3_swings_97 : decode cX3_swings 97 = .ok (.iload 7, 2) := by decide +kernel
theorem dX3_swings_99 : decode cX3_swings 99 = .ok (.ifCond .le 7, 3) := by decide +kernel
theorem dX3_swings_102 : decode cX3_swings 102 = .ok (.iconst 1, 1) := by decide +kernel
theorem dX3_swings_103 : decode cX3_swings 103 = .ok (.goto 4, 3) := by decide +kernel
theorem dX3_swings_106 : decode cX3_swings 106 = .ok (.iconst 0, 1) := by decide +kernel
theorem dX3_swings_107 : decode cX3_swings 107 = .ok (.ior, 1) := by decide +kernel
theorem dX3_swings_108 : decode cX3_swings 108 = .ok (.istore 4, 2) := by decide +kernel
theorem dX3_swings_110 : decode cX3_swings 110 = .ok (.iload 5, 2) := by decide +kernel
theorem dX3_swings_112 : decode cX3_swings 112 = .ok (.iload 8, 2) := by decide +kernel
theorem dX3_swings_114 : decode cX3_swings 114 = .ok (.ifCond .ne 12, 3) := by decide +kernel
theorem dX3_swings_117 : decode cX3_swings 117 = .ok (.iload 7, 2) := by decide +kernel
theorem dX3_swings_119 : decode cX3_swings 119 = .ok (.ifCond .ge 7, 3) := by decide +kernel
theorem dX3_swings_122 : decode cX3_swings 122 = .ok (.iconst 1, 1) := by decide +kernel
theorem dX3_swings_123 : decode cX3_swings 123 = .ok (.goto 4, 3) := by decide +kernel
theorem dX3_swings_126 : decode cX3_swings 126 = .ok (.iconst 0, 1) := by decide +kernel
theorem dX3_swings_127 : decode cX3_swings 127 = .ok (.ior, 1) := by decide +kernel
theorem dX3_swings_128 : decode cX3_swings 128 = .ok (.istore 5, 2) := by decide +kernel
theorem dX3_swings_130 : decode cX3_swings 130 = .ok (.iinc 6 1, 3) := by decide +kernel
theorem dX3_swings_133 : decode cX3_swings 133 = .ok (.goto (-120), 3) := by decide +kernel
theorem dX3_swings_136 : decode cX3_swings 136 = .ok (.iload_n 2, 1) := by decide +kernel
theorem dX3_swings_137 : decode cX3_swings 137 = .ok (.ifCond .eq 8, 3) := by decide +kernel
theorem dX3_swings_140 : decode cX3_swings 140 = .ok (.iload 5, 2) := by decide +kernel
theorem dX3_swings_142 : decode cX3_swings 142 = .ok (.ifCond .ne 12, 3) := by decide +kernel
theorem dX3_swings_145 : decode cX3_swings 145 = .ok (.iload_n 3, 1) := by decide +kernel
theorem dX3_swings_146 : decode cX3_swings 146 = .ok (.ifCond .eq 12, 3) := by decide +kernel
theorem dX3_swings_149 : decode cX3_swings 149 = .ok (.iload 4, 2) := by decide +kernel
theorem dX3_swings_151 : decode cX3_swings 151 = .ok (.ifCond .eq 7, 3) := by decide +kernel
theorem dX3_swings_154 : decode cX3_swings 154 = .ok (.iconst 1, 1) := by decide +kernel
theorem dX3_swings_155 : decode cX3_swings 155 = .ok (.goto 4, 3) := by decide +kernel
theorem dX3_swings_158 : decode cX3_swings 158 = .ok (.iconst 0, 1) := by decide +kernel
theorem dX3_swings_159 : decode cX3_swings 159 = .ok (.ireturn, 1) := by decide +kernel
theorem dX3_quickens_0 : decode cX3_quickens 0 = .ok (.aload_n 0, 1) := by decide +kernel
theorem dX3_quickens_1 : decode cX3_quickens 1 = .ok (.iload_n 1, 1) := by decide +kernel
theorem dX3_quickens_2 : decode cX3_quickens 2 = .ok (.iconst 1, 1) := by decide +kernel
theorem dX3_quickens_3 : decode cX3_quickens 3 = .ok (.isub, 1) := by decide +kernel
theorem dX3_quickens_4 : decode cX3_quickens 4 = .ok (.invokevirtual 37, 3) := by decide +kernel
theorem dX3_quickens_7 : decode cX3_quickens 7 = .ok (.istore_n 2, 1) := by decide +kernel
theorem dX3_quickens_8 : decode cX3_quickens 8 = .ok (.iload_n 2, 1) := by decide +kernel
theorem dX3_quickens_9 : decode cX3_quickens 9 = .ok (.aload_n 0, 1) := by decide +kernel
theorem dX3_quickens_10 : decode cX3_quickens 10 = .ok (.iconst 0, 1) := by decide +kernel
theorem dX3_quickens_11 : decode cX3_quickens 11 = .ok (.invokevirtual 37, 3) := by decide +kernel
theorem dX3_quickens_14 : decode cX3_quickens 14 = .ok (.if_icmp .le 11, 3) := by decide +kernel
theorem dX3_quickens_17 : decode cX3_quickens 17 = .ok (.iload_n 2, 1) := by decide +kernel
theorem dX3_quickens_18 : decode cX3_quickens 18 = .ok (.ifCond .le 7, 3) := by decide +kernel
theorem dX3_quickens_21 : decode cX3_quickens 21 = .ok (.iconst 1, 1) := by decide +kernel
theorem dX3_quickens_22 : decode cX3_quickens 22 = .ok (.goto 4, 3) := by decide +kernel
theorem dX3_quickens_25 : decode cX3_quickens 25 = .ok (.iconst 0, 1) := by decide +kernel
theorem dX3_quickens_26 : decode cX3_quickens 26 = .ok (.ireturn, 1) := by decide +kernel
theorem dX4_init_0 : decode cX4_init 0 = .ok (.aload_n 0, 1) := by decide +kernel
theorem dX4_init_1 : decode cX4_init 1 = .ok (.invokespecial 3, 3) := by decide +kernel
theorem dX4_init_4 : decode cX4_init 4 = .ok (.aload_n 0, 1) := by decide +kernel
theorem dX4_init_5 : decode cX4_init 5 = .ok (.bipush 30, 2) := by decide +kernel
theorem dX4_init_7 : decode cX4_init 7 = .ok (.newarray .int, 2) := by decide +kernel
theorem dX4_init_9 : decode cX4_init 9 = .ok (.putfield 11, 3) := by decide +kernel
theorem dX4_init_12 : decode cX4_init 12 = .ok (.aload_n 0, 1) := by decide +kernel
theorem dX4_init_13 : decode cX4_init 13 = .ok (.bipush 30, 2) := by decide +kernel
theorem dX4_init_15 : decode cX4_init 15 = .ok (.newarray .int, 2) := by decide +kernel
theorem dX4_init_17 : decode cX4_init 17 = .ok (.putfield 15, 3) := by decide +kernel
theorem dX4_init_20 : decode cX4_init 20 = .ok (.aload_n 0, 1) := by decide +kernel
theorem dX4_init_21 : decode cX4_init 21 = .ok (.bipush 30, 2) := by decide +kernel
theorem dX4_init_23 : decode cX4_init 23 = .ok (.newarray .int, 2) := by decide +kernel
theorem dX4_init_25 : decode cX4_init 25 = .ok (.putfield 18, 3) := by decide +kernel
theorem dX4_init_28 : decode cX4_init 28 = .ok (.return_, 1) := by decide +kernel
theorem dX4_isFull_0 : decode cX4_isFull 0 = .ok (.aload_n 0, 1) := by decide +kernel
theorem dX4_isFull_1 : decode cX4_isFull 1 = .ok (.getfield 21, 3) := by decide +kernel
theorem dX4_isFull_4 : decode cX4_isFull 4 = .ok (.bipush 30, 2) := by decide +kernel
theorem dX4_isFull_6 : decode cX4_isFull 6 = .ok (.if_icmp .lt 7, 3) := by decide +kernel
theorem dX4_isFull_9 : decode cX4_isFull 9 = .ok (.iconst 1, 1) := by decide +kernel
theorem dX4_isFull_10 : decode cX4_isFull 10 = .ok (.goto 4, 3) := by decide +kernel
theorem dX4_isFull_13 : decode cX4_isFull 13 = .ok (.iconst 0, 1) := by decide +kernel
theorem dX4_isFull_14 : decode cX4_isFull 14 = .ok (.ireturn, 1) := by decide +kernel
theorem dX4_add_0 : decode cX4_add 0 = .ok (.aload_n 0, 1) := by decide +kernel
theorem dX4_add_1 : decode cX4_add 1 = .ok (.getfield 21, 3) := by decide +kernel
theorem dX4_add_4 : decode cX4_add 4 = .ok (.bipush 30, 2) := by decide +kernel
theorem dX4_add_6 : decode cX4_add 6 = .ok (.if_icmp .ge 43, 3) := by decide +kernel
theorem dX4_add_9 : decode cX4_add 9 = .ok (.aload_n 0, 1) := by decide +kernel
theorem dX4_add_10 : decode cX4_add 10 = .ok (.getfield 15, 3) := by decide +kernel
theorem dX4_add_13 : decode cX4_add 13 = .ok (.aload_n 0, 1) := by decide +kernel
theorem dX4_add_14 : decode cX4_add 14 = .ok (.getfield 21, 3) := by decide +kernel
theorem dX4_add_17 : decode cX4_add 17 = .ok (.iload_n 1, 1) := by decide +kernel
theorem dX4_add_18 : decode cX4_add 18 = .ok (.iastore, 1) := by decide +kernel
theorem dX4_add_19 : decode cX4_add 19 = .ok (.aload_n 0, 1) := by decide +kernel
theorem dX4_add_20 : decode cX4_add 20 = .ok (.getfield 11, 3) := by decide +kernel
theorem dX4_add_23 : decode cX4_add 23 = .ok (.aload_n 0, 1) := by decide +kernel
theorem dX4_add_24 : decode cX4_add 24 = .ok (.getfield 21, 3) := by decide +kernel
theorem dX4_add_27 : decode cX4_add 27 = .ok (.iload_n 2, 1) := by decide +kernel
theorem dX4_add_28 : decode cX4_add 28 = .ok (.iastore, 1) := by decide +kernel
theorem dX4_add_29 : decode cX4_add 29 = .ok (.aload_n 0, 1) := by decide +kernel
theorem dX4_add_30 : decode cX4_add 30 = .ok (.getfield 18, 3) := by decide +kernel
theorem dX4_add_33 : decode cX4_add 33 = .ok (.aload_n 0, 1) := by decide +kernel
theorem dX4_add_34 : decode cX4_add 34 = .ok (.getfield 21, 3) := by decide +kernel
theorem dX4_add_37 : decode cX4_add 37 = .ok (.iload_n 3, 1) := by decide +kernel
theorem dX4_add_38 : decode cX4_add 38 = .ok (.iastore, 1) := by decide +kernel
theorem dX4_add_39 : decode cX4_add 39 = .ok (.aload_n 0, 1) := by decide +kernel
theorem dX4_add_40 : decode cX4_add 40 = .ok (.dup, 1) := by decide +kernel
theorem dX4_add_41 : decode cX4_add 41 = .ok (.getfield 21, 3) := by decide +kernel
theorem dX4_add_44 : decode cX4_add 44 = .ok (.iconst 1, 1) := by decide +kernel
theorem dX4_add_45 : decode cX4_add 45 = .ok (.iadd, 1) := by decide +kernel
theorem dX4_add_46 : decode cX4_add 46 = .ok (.putfield 21, 3) := by decide +kernel
theorem dX4_add_49 : decode cX4_add 49 = .ok (.return_, 1) := by decide +kernel
theorem dX4_now_0 : decode cX4_now 0 = .ok (.aload_n 0, 1) := by decide +kernel
theorem dX4_now_1 : decode cX4_now 1 = .ok (.getfield 21, 3) := by decide +kernel
theorem dX4_now_4 : decode cX4_now 4 = .ok (.ifCond .ne 8, 3) := by decide +kernel
theorem dX4_now_7 : decode cX4_now 7 = .ok (.bipush (-4), 2) := by decide +kernel
theorem dX4_now_9 : decode cX4_now 9 = .ok (.goto 14, 3) := by decide +kernel
theorem dX4_now_12 : decode cX4_now 12 = .ok (.aload_n 0, 1) := by decide +kernel
theorem dX4_now_13 : decode cX4_now 13 = .ok (.getfield 15, 3) := by decide +kernel
theorem dX4_now_16 : decode cX4_now 16 = .ok (.aload_n 0, 1) := by decide +kernel
theorem dX4_now_17 : decode cX4_now 17 = .ok (.getfield 21, 3) := by decide +kernel
theorem dX4_now_20 : decode cX4_now 20 = .ok (.iconst 1, 1) := by decide +kernel
theorem dX4_now_21 : decode cX4_now 21 = .ok (.isub, 1) := by decide +kernel
theorem dX4_now_22 : decode cX4_now 22 = .ok (.iaload, 1) := by decide +kernel
theorem dX4_now_23 : decode cX4_now 23 = .ok (.ireturn, 1) := by decide +kernel
theorem dX4_onDay_0 : decode cX4_onDay 0 = .ok (.bipush (-4), 2) := by decide +kernel
theorem dX4_onDay_2 : decode cX4_onDay 2 = .ok (.istore_n 2, 1) := by decide +kernel
theorem dX4_onDay_3 : decode cX4_onDay 3 = .ok (.iconst 0, 1) := by decide +kernel
theorem dX4_onDay_4 : decode cX4_onDay 4 = .ok (.istore_n 3, 1) := by decide +kernel
theorem dX4_onDay_5 : decode cX4_onDay 5 = .ok (.iload_n 3, 1) := by decide +kernel
theorem dX4_onDay_6 : decode cX4_onDay 6 = .ok (.aload_n 0, 1) := by decide +kernel
theorem dX4_onDay_7 : decode cX4_onDay 7 = .ok (.getfield 21, 3) := by decide +kernel
theorem dX4_onDay_10 : decode cX4_onDay 10 = .ok (.if_icmp .ge 26, 3) := by decide +kernel
theorem dX4_onDay_13 : decode cX4_onDay 13 = .ok (.aload_n 0, 1) := by decide +kernel
theorem dX4_onDay_14 : decode cX4_onDay 14 = .ok (.getfield 11, 3) := by decide +kernel
theorem dX4_onDay_17 : decode cX4_onDay 17 = .ok (.iload_n 3, 1) := by decide +kernel
theorem dX4_onDay_18 : decode cX4_onDay 18 = .ok (.iaload, 1) := by decide +kernel
theorem dX4_onDay_19 : decode cX4_onDay 19 = .ok (.iload_n 1, 1) := by decide +kernel
theorem dX4_onDay_20 : decode cX4_onDay 20 = .ok (.if_icmp .gt 16, 3) := by decide +kernel
theorem dX4_onDay_23 : decode cX4_onDay 23 = .ok (.aload_n 0, 1) := by decide +kernel
theorem dX4_onDay_24 : decode cX4_onDay 24 = .ok (.getfield 15, 3) := by decide +kernel
theorem dX4_onDay_27 : decode cX4_onDay 27 = .ok (.iload_n 3, 1) := by decide +kernel
theorem dX4_onDay_28 : decode cX4_onDay 28 = .ok (.iaload, 1) := by decide +kernel
theorem dX4_onDay_29 : decode cX4_onDay 29 = .ok (.istore_n 2, 1) := by decide +kernel
theorem dX4_onDay_30 : decode cX4_onDay 30 = .ok (.iinc 3 1, 3) := by decide +kernel
theorem dX4_onDay_33 : decode cX4_onDay 33 = .ok (.goto (-28), 3) := by decide +kernel
theorem dX4_onDay_36 : decode cX4_onDay 36 = .ok (.iload_n 2, 1) := by decide +kernel
theorem dX4_onDay_37 : decode cX4_onDay 37 = .ok (.ireturn, 1) := by decide +kernel
theorem dX4_lastSaid_0 : decode cX4_lastSaid 0 = .ok (.aload_n 0, 1) := by decide +kernel
theorem dX4_lastSaid_1 : decode cX4_lastSaid 1 = .ok (.getfield 21, 3) := by decide +kernel
theorem dX4_lastSaid_4 : decode cX4_lastSaid 4 = .ok (.iconst 1, 1) := by decide +kernel
theorem dX4_lastSaid_5 : decode cX4_lastSaid 5 = .ok (.isub, 1) := by decide +kernel
theorem dX4_lastSaid_6 : decode cX4_lastSaid 6 = .ok (.istore_n 3, 1) := by decide +kernel
theorem dX4_lastSaid_7 : decode cX4_lastSaid 7 = .ok (.iload_n 3, 1) := by decide +kernel
theorem dX4_lastSaid_8 : decode cX4_lastSaid 8 = .ok (.ifCond .lt 41, 3) := by decide +kernel
theorem dX4_lastSaid_11 : decode cX4_lastSaid 11 = .ok (.aload_n 0, 1) := by decide +kernel
theorem dX4_lastSaid_12 : decode cX4_lastSaid 12 = .ok (.getfield 15, 3) := by decide +kernel
theorem dX4_lastSaid_15 : decode cX4_lastSaid 15 = .ok (.iload_n 3, 1) := by decide +kernel
theorem dX4_lastSaid_16 : decode cX4_lastSaid 16 = .ok (.iaload, 1) := by decide +kernel
theorem dX4_lastSaid_17 : decode cX4_lastSaid 17 = .ok (.iconst 2, 1) := by decide +kernel
theorem dX4_lastSaid_18 : decode cX4_lastSaid 18 = .ok (.if_icmp .ne 25, 3) := by decide +kernel
theorem dX4_lastSaid_21 : decode cX4_lastSaid 21 = .ok (.aload_n 0, 1) := by decide +kernel
theorem dX4_lastSaid_22 : decode cX4_lastSaid 22 = .ok (.getfield 11, 3) := by decide +kernel
theorem dX4_lastSaid_25 : decode cX4_lastSaid 25 = .ok (.iload_n 3, 1) := by decide +kernel
theorem dX4_lastSaid_26 : decode cX4_lastSaid 26 = .ok (.iaload, 1) := by decide +kernel
theorem dX4_lastSaid_27 : decode cX4_lastSaid 27 = .ok (.iload_n 1, 1) := by decide +kernel
theorem dX4_lastSaid_28 : decode cX4_lastSaid 28 = .ok (.if_icmp .lt 15, 3) := by decide +kernel
theorem dX4_lastSaid_31 : decode cX4_lastSaid 31 = .ok (.aload_n 0, 1) := by decide +kernel
theorem dX4_lastSaid_32 : decode cX4_lastSaid 32 = .ok (.getfield 11, 3) := by decide +kernel
theorem dX4_lastSaid_35 : decode cX4_lastSaid 35 = .ok (.iload_n 3, 1) := by decide +kernel
theorem dX4_lastSaid_36 : decode cX4_lastSaid 36 = .ok (.iaload, 1) := by decide +kernel
theorem dX4_lastSaid_37 : decode cX4_lastSaid 37 = .ok (.iload_n 2, 1) := by decide +kernel
theorem dX4_lastSaid_38 : decode cX4_lastSaid 38 = .ok (.if_icmp .gt 5, 3) := by decide +kernel
theorem dX4_lastSaid_41 : decode cX4_lastSaid 41 = .ok (.iload_n 3, 1) := by decide +kernel
theorem dX4_lastSaid_42 : decode cX4_lastSaid 42 = .ok (.ireturn, 1) := by decide +kernel
theorem dX4_lastSaid_43 : decode cX4_lastSaid 43 = .ok (.iinc 3 (-1), 3) := by decide +kernel
theorem dX4_lastSaid_46 : decode cX4_lastSaid 46 = .ok (.goto (-39), 3) := by decide +kernel
theorem dX4_lastSaid_49 : decode cX4_lastSaid 49 = .ok (.iconst (-1), 1) := by decide +kernel
theorem dX4_lastSaid_50 : decode cX4_lastSaid 50 = .ok (.ireturn, 1) := by decide +kernel
theorem dX4_dayAt_0 : decode cX4_dayAt 0 = .ok (.iload_n 1, 1) := by decide +kernel
theorem dX4_dayAt_1 : decode cX4_dayAt 1 = .ok (.aload_n 0, 1) := by decide +kernel
theorem dX4_dayAt_2 : decode cX4_dayAt 2 = .ok (.getfield 21, 3) := by decide +kernel
theorem dX4_dayAt_5 : decode cX4_dayAt 5 = .ok (.invokestatic 25, 3) := by decide +kernel
theorem dX4_dayAt_8 : decode cX4_dayAt 8 = .ok (.ifCond .eq 12, 3) := by decide +kernel
theorem dX4_dayAt_11 : decode cX4_dayAt 11 = .ok (.aload_n 0, 1) := by decide +kernel
theorem dX4_dayAt_12 : decode cX4_dayAt 12 = .ok (.getfield 11, 3) := by decide +kernel
theorem dX4_dayAt_15 : decode cX4_dayAt 15 = .ok (.iload_n 1, 1) := by decide +kernel
theorem dX4_dayAt_16 : decode cX4_dayAt 16 = .ok (.iaload, 1) := by decide +kernel
theorem dX4_dayAt_17 : decode cX4_dayAt 17 = .ok (.goto 4, 3) := by decide +kernel
theorem dX4_dayAt_20 : decode cX4_dayAt 20 = .ok (.iconst (-1), 1) := by decide +kernel
theorem dX4_dayAt_21 : decode cX4_dayAt 21 = .ok (.ireturn, 1) := by decide +kernel
theorem dX4_crewAt_0 : decode cX4_crewAt 0 = .ok (.iload_n 1, 1) := by decide +kernel
theorem dX4_crewAt_1 : decode cX4_crewAt 1 = .ok (.aload_n 0, 1) := by decide +kernel
theorem dX4_crewAt_2 : decode cX4_crewAt 2 = .ok (.getfield 21, 3) := by decide +kernel
theorem dX4_crewAt_5 : decode cX4_crewAt 5 = .ok (.invokestatic 25, 3) := by decide +kernel
theorem dX4_crewAt_8 : decode cX4_crewAt 8 = .ok (.ifCond .eq 12, 3) := by decide +kernel
theorem dX4_crewAt_11 : decode cX4_crewAt 11 = .ok (.aload_n 0, 1) := by decide +kernel
theorem dX4_crewAt_12 : decode cX4_crewAt 12 = .ok (.getfield 18, 3) := by decide +kernel
theorem dX4_crewAt_15 : decode cX4_crewAt 15 = .ok (.iload_n 1, 1) := by decide +kernel
theorem dX4_crewAt_16 : decode cX4_crewAt 16 = .ok (.iaload, 1) := by decide +kernel
theorem dX4_crewAt_17 : decode cX4_crewAt 17 = .ok (.goto 4, 3) := by decide +kernel
theorem dX4_crewAt_20 : decode cX4_crewAt 20 = .ok (.iconst (-1), 1) := by decide +kernel
theorem dX4_crewAt_21 : decode cX4_crewAt 21 = .ok (.ireturn, 1) := by decide +kernel
theorem dX4_timesSaid_0 : decode cX4_timesSaid 0 = .ok (.iconst 0, 1) := by decide +kernel
theorem dX4_timesSaid_1 : decode cX4_timesSaid 1 = .ok (.istore_n 2, 1) := by decide +kernel
theorem dX4_timesSaid_2 : decode cX4_timesSaid 2 = .ok (.iconst 0, 1) := by decide +kernel
theorem dX4_timesSaid_3 : decode cX4_timesSaid 3 = .ok (.istore_n 3, 1) := by decide +kernel
theorem dX4_timesSaid_4 : decode cX4_timesSaid 4 = .ok (.iload_n 3, 1) := by decide +kernel
theorem dX4_timesSaid_5 : decode cX4_timesSaid 5 = .ok (.aload_n 0, 1) := by decide +kernel
theorem dX4_timesSaid_6 : decode cX4_timesSaid 6 = .ok (.getfield 21, 3) := by decide +kernel
theorem dX4_timesSaid_9 : decode cX4_timesSaid 9 = .ok (.if_icmp .ge 26, 3) := by decide +kernel
theorem dX4_timesSaid_12 : decode cX4_timesSaid 12 = .ok (.iload_n 2, 1) := by decide +kernel
theorem dX4_timesSaid_13 : decode cX4_timesSaid 13 = .ok (.aload_n 0, 1) := by decide +kernel
theorem dX4_timesSaid_14 : decode cX4_timesSaid 14 = .ok (.iload_n 3, 1) := by decide +kernel
theorem dX4_timesSaid_15 : decode cX4_timesSaid 15 = .ok (.iload_n 1, 1) := by decide +kernel
theorem dX4_timesSaid_16 : decode cX4_timesSaid 16 = .ok (.invokevirtual 29, 3) := by decide +kernel
theorem dX4_timesSaid_19 : decode cX4_timesSaid 19 = .ok (.ifCond .eq 7, 3) := by decide +kernel
theorem dX4_timesSaid_22 : decode cX4_timesSaid 22 = .ok (.iconst 1, 1) := by decide +kernel
theorem dX4_timesSaid_23 : decode cX4_timesSaid 23 = .ok (.goto 4, 3) := by decide +kernel
theorem dX4_timesSaid_26 : decode cX4_timesSaid 26 = .ok (.iconst 0, 1) := by decide +kernel
theorem dX4_timesSaid_27 : decode cX4_timesSaid 27 = .ok (.iadd, 1) := by decide +kernel
theorem dX4_timesSaid_28 : decode cX4_timesSaid 28 = .ok (.istore_n 2, 1) := by decide +kernel
theorem dX4_timesSaid_29 : decode cX4_timesSaid 29 = .ok (.iinc 3 1, 3) := by decide +kernel
theorem dX4_timesSaid_32 : decode cX4_timesSaid 32 = .ok (.goto (-28), 3) := by decide +kernel
theorem dX4_timesSaid_35 : decode cX4_timesSaid 35 = .ok (.iload_n 2, 1) := by decide +kernel
theorem dX4_timesSaid_36 : decode cX4_timesSaid 36 = .ok (.ireturn, 1) := by decide +kernel
theorem dX4_timesFalse_0 : decode cX4_timesFalse 0 = .ok (.iconst 0, 1) := by decide +kernel
theorem dX4_timesFalse_1 : decode cX4_timesFalse 1 = .ok (.istore_n 2, 1) := by decide +kernel
theorem dX4_timesFalse_2 : decode cX4_timesFalse 2 = .ok (.iconst 0, 1) := by decide +kernel
theorem dX4_timesFalse_3 : decode cX4_timesFalse 3 = .ok (.istore_n 3, 1) := by decide +kernel
theorem dX4_timesFalse_4 : decode cX4_timesFalse 4 = .ok (.iload_n 3, 1) := by decide +kernel
theorem dX4_timesFalse_5 : decode cX4_timesFalse 5 = .ok (.iconst 1, 1) := by decide +kernel
theorem dX4_timesFalse_6 : decode cX4_timesFalse 6 = .ok (.iadd, 1) := by decide +kernel
theorem dX4_timesFalse_7 : decode cX4_timesFalse 7 = .ok (.aload_n 0, 1) := by decide +kernel
theorem dX4_timesFalse_8 : decode cX4_timesFalse 8 = .ok (.getfield 21, 3) := by decide +kernel
theorem dX4_timesFalse_11 : decode cX4_timesFalse 11 = .ok (.if_icmp .ge 37, 3) := by decide +kernel
theorem dX4_timesFalse_14 : decode cX4_timesFalse 14 = .ok (.iload_n 2, 1) := by decide +kernel
theorem dX4_timesFalse_15 : decode cX4_timesFalse 15 = .ok (.aload_n 0, 1) := by decide +kernel
theorem dX4_timesFalse_16 : decode cX4_timesFalse 16 = .ok (.iload_n 3, 1) := by decide +kernel
theorem dX4_timesFalse_17 : decode cX4_timesFalse 17 = .ok (.iload_n 1, 1) := by decide +kernel
theorem dX4_timesFalse_18 : decode cX4_timesFalse 18 = .ok (.invokevirtual 29, 3) := by decide +kernel
theorem dX4_timesFalse_21 : decode cX4_timesFalse 21 = .ok (.ifCond .eq 18, 3) := by decide +kernel
theorem dX4_timesFalse_24 : decode cX4_timesFalse 24 = .ok (.aload_n 0, 1) := by decide +kernel
theorem dX4_timesFalse_25 : decode cX4_timesFalse 25 = .ok (.getfield 15, 3) := by decide +kernel
theorem dX4_timesFalse_28 : decode cX4_timesFalse 28 = .ok (.iload_n 3, 1) := by decide +kernel
theorem dX4_timesFalse_29 : decode cX4_timesFalse 29 = .ok (.iconst 1, 1) := by decide +kernel
theorem dX4_timesFalse_30 : decode cX4_timesFalse 30 = .ok (.iadd, 1) := by decide +kernel
theorem dX4_timesFalse_31 : decode cX4_timesFalse 31 = .ok (.iaload, 1) := by decide +kernel
theorem dX4_timesFalse_32 : decode cX4_timesFalse 32 = .ok (.ifCond .ne 7, 3) := by decide +kernel
theorem dX4_timesFalse_35 : decode cX4_timesFalse 35 = .ok (.iconst 1, 1) := by decide +kernel
theorem dX4_timesFalse_36 : decode cX4_timesFalse 36 = .ok (.goto 4, 3) := by decide +kernel
theorem dX4_timesFalse_39 : decode cX4_timesFalse 39 = .ok (.iconst 0, 1) := by decide +kernel
theorem dX4_timesFalse_40 : decode cX4_timesFalse 40 = .ok (.iadd, 1) := by decide +kernel
theorem dX4_timesFalse_41 : decode cX4_timesFalse 41 = .ok (.istore_n 2, 1) := by decide +kernel
theorem dX4_timesFalse_42 : decode cX4_timesFalse 42 = .ok (.iinc 3 1, 3) := by decide +kernel
theorem dX4_timesFalse_45 : decode cX4_timesFalse 45 = .ok (.goto (-41), 3) := by decide +kernel
theorem dX4_timesFalse_48 : decode cX4_timesFalse 48 = .ok (.iload_n 2, 1) := by decide +kernel
theorem dX4_timesFalse_49 : decode cX4_timesFalse 49 = .ok (.ireturn, 1) := by decide +kernel
theorem dX4_isSaidAt_0 : decode cX4_isSaidAt 0 = .ok (.aload_n 0, 1) := by decide +kernel
theorem dX4_isSaidAt_1 : decode cX4_isSaidAt 1 = .ok (.getfield 15, 3) := by decide +kernel
theorem dX4_isSaidAt_4 : decode cX4_isSaidAt 4 = .ok (.iload_n 1, 1) := by decide +kernel
theorem dX4_isSaidAt_5 : decode cX4_isSaidAt 5 = .ok (.iaload, 1) := by decide +kernel
theorem dX4_isSaidAt_6 : decode cX4_isSaidAt 6 = .ok (.iconst 2, 1) := by decide +kernel
theorem dX4_isSaidAt_7 : decode cX4_isSaidAt 7 = .ok (.if_icmp .ne 22, 3) := by decide +kernel
theorem dX4_isSaidAt_10 : decode cX4_isSaidAt 10 = .ok (.iload_n 2, 1) := by decide +kernel
theorem dX4_isSaidAt_11 : decode cX4_isSaidAt 11 = .ok (.iconst (-1), 1) := by decide +kernel
theorem dX4_isSaidAt_12 : decode cX4_isSaidAt 12 = .ok (.if_icmp .eq 13, 3) := by decide +kernel
theorem dX4_isSaidAt_15 : decode cX4_isSaidAt 15 = .ok (.aload_n 0, 1) := by decide +kernel
theorem dX4_isSaidAt_16 : decode cX4_isSaidAt 16 = .ok (.getfield 18, 3) := by decide +kernel
theorem dX4_isSaidAt_19 : decode cX4_isSaidAt 19 = .ok (.iload_n 1, 1) := by decide +kernel
theorem dX4_isSaidAt_20 : decode cX4_isSaidAt 20 = .ok (.iaload, 1) := by decide +kernel
theorem dX4_isSaidAt_21 : decode cX4_isSaidAt 21 = .ok (.iload_n 2, 1) := by decide +kernel
theorem dX4_isSaidAt_22 : decode cX4_isSaidAt 22 = .ok (.if_icmp .ne 7, 3) := by decide +kernel
theorem dX4_isSaidAt_25 : decode cX4_isSaidAt 25 = .ok (.iconst 1, 1) := by decide +kernel
theorem dX4_isSaidAt_26 : decode cX4_isSaidAt 26 = .ok (.goto 4, 3) := by decide +kernel
theorem dX4_isSaidAt_29 : decode cX4_isSaidAt 29 = .ok (.iconst 0, 1) := by decide +kernel
theorem dX4_isSaidAt_30 : decode cX4_isSaidAt 30 = .ok (.ireturn, 1) := by decide +kernel
theorem dX5_init_0 : decode cX5_init 0 = .ok (.aload_n 0, 1) := by decide +kernel
theorem dX5_init_1 : decode cX5_init 1 = .ok (.invokespecial 3, 3) := by decide +kernel
theorem dX5_init_4 : decode cX5_init 4 = .ok (.aload_n 0, 1) := by decide +kernel
theorem dX5_init_5 : decode cX5_init 5 = .ok (.iconst (-1), 1) := by decide +kernel
theorem dX5_init_6 : decode cX5_init 6 = .ok (.putfield 9, 3) := by decide +kernel
theorem dX5_init_9 : decode cX5_init 9 = .ok (.aload_n 0, 1) := by decide +kernel
theorem dX5_init_10 : decode cX5_init 10 = .ok (.bipush 127, 2) := by decide +kernel
theorem dX5_init_12 : decode cX5_init 12 = .ok (.putfield 15, 3) := by decide +kernel
theorem dX5_init_15 : decode cX5_init 15 = .ok (.aload_n 0, 1) := by decide +kernel
theorem dX5_init_16 : decode cX5_init 16 = .ok (.bipush 20, 2) := by decide +kernel
theorem dX5_init_18 : decode cX5_init 18 = .ok (.newarray .int, 2) := by decide +kernel
theorem dX5_init_20 : decode cX5_init 20 = .ok (.putfield 18, 3) := by decide +kernel
theorem dX5_init_23 : decode cX5_init 23 = .ok (.aload_n 0, 1) := by decide +kernel
theorem dX5_init_24 : decode cX5_init 24 = .ok (.bipush 10, 2) := by decide +kernel
theorem dX5_init_26 : decode cX5_init 26 = .ok (.newarray .int, 2) := by decide +kernel
theorem dX5_init_28 : decode cX5_init 28 = .ok (.putfield 22, 3) := by decide +kernel
theorem dX5_init_31 : decode cX5_init 31 = .ok (.aload_n 0, 1) := by decide +kernel
theorem dX5_init_32 : decode cX5_init 32 = .ok (.iload_n 1, 1) := by decide +kernel
theorem dX5_init_33 : decode cX5_init 33 = .ok (.putfield 25, 3) := by decide +kernel
theorem dX5_init_36 : decode cX5_init 36 = .ok (.aload_n 0, 1) := by decide +kernel
theorem dX5_init_37 : decode cX5_init 37 = .ok (.iload_n 2, 1) := by decide +kernel
theorem dX5_init_38 : decode cX5_init 38 = .ok (.putfield 28, 3) := by decide +kernel
theorem dX5_init_41 : decode cX5_init 41 = .ok (.aload_n 0, 1) := by decide +kernel
theorem dX5_init_42 : decode cX5_init 42 = .ok (.iload_n 3, 1) := by decide +kernel
theorem dX5_init_43 : decode cX5_init 43 = .ok (.putfield 31, 3) := by decide +kernel
theorem dX5_init_46 : decode cX5_init 46 = .ok (.aload_n 0, 1) := by decide +kernel
theorem dX5_init_47 : decode cX5_init 47 = .ok (.iload 4, 2) := by decide +kernel
theorem dX5_init_49 : decode cX5_init 49 = .ok (.putfield 34, 3) := by decide +kernel
theorem dX5_init_52 : decode cX5_init 52 = .ok (.aload_n 0, 1) := by decide +kernel
theorem dX5_init_53 : decode cX5_init 53 = .ok (.getfield 22, 3) := by decide +kernel
theorem dX5_init_56 : decode cX5_init 56 = .ok (.iconst (-1), 1) := by decide +kernel
theorem dX5_init_57 : decode cX5_init 57 = .ok (.invokestatic 37, 3) := by decide +kernel
theorem dX5_init_60 : decode cX5_init 60 = .ok (.return_, 1) := by decide +kernel
theorem dX5_hasKey_0 : decode cX5_hasKey 0 = .ok (.aload_n 0, 1) := by decide +kernel
theorem dX5_hasKey_1 : decode cX5_hasKey 1 = .ok (.getfield 9, 3) := by decide +kernel
theorem dX5_hasKey_4 : decode cX5_hasKey 4 = .ok (.iconst (-1), 1) := by decide +kernel
theorem dX5_hasKey_5 : decode cX5_hasKey 5 = .ok (.if_icmp .eq 7, 3) := by decide +kernel
theorem dX5_hasKey_8 : decode cX5_hasKey 8 = .ok (.iconst 1, 1) := by decide +kernel
theorem dX5_hasKey_9 : decode cX5_hasKey 9 = .ok (.goto 4, 3) := by decide +kernel
theorem dX5_hasKey_12 : decode cX5_hasKey 12 = .ok (.iconst 0, 1) := by decide +kernel
theorem dX5_hasKey_13 : decode cX5_hasKey 13 = .ok (.ireturn, 1) := by decide +kernel
theorem dX5_isInOn_0 : decode cX5_isInOn 0 = .ok (.aload_n 0, 1) := by decide +kernel
theorem dX5_isInOn_1 : decode cX5_isInOn 1 = .ok (.getfield 15, 3) := by decide +kernel
theorem dX5_isInOn_4 : decode cX5_isInOn 4 = .ok (.iload_n 1, 1) := by decide +kernel
theorem dX5_isInOn_5 : decode cX5_isInOn 5 = .ok (.bipush 7, 2) := by decide +kernel
theorem dX5_isInOn_7 : decode cX5_isInOn 7 = .ok (.irem, 1) := by decide +kernel
theorem dX5_isInOn_8 : decode cX5_isInOn 8 = .ok (.ishr, 1) := by decide +kernel
theorem dX5_isInOn_9 : decode cX5_isInOn 9 = .ok (.iconst 1, 1) := by decide +kernel
theorem dX5_isInOn_10 : decode cX5_isInOn 10 = .ok (.iand, 1) := by decide +kernel
theorem dX5_isInOn_11 : decode cX5_isInOn 11 = .ok (.iconst 1, 1) := by decide +kernel
theorem dX5_isInOn_12 : decode cX5_isInOn 12 = .ok (.if_icmp .ne 7, 3) := by decide +kernel
theorem dX5_isInOn_15 : decode cX5_isInOn 15 = .ok (.iconst 1, 1) := by decide +kernel
theorem dX5_isInOn_16 : decode cX5_isInOn 16 = .ok (.goto 4, 3) := by decide +kernel
theorem dX5_isInOn_19 : decode cX5_isInOn 19 = .ok (.iconst 0, 1) := by decide +kernel
theorem dX5_isInOn_20 : decode cX5_isInOn 20 = .ok (.ireturn, 1) := by decide +kernel
theorem dX5_crewOf_0 : decode cX5_crewOf 0 = .ok (.iload_n 1, 1) := by decide +kernel
theorem dX5_crewOf_1 : decode cX5_crewOf 1 = .ok (.bipush 10, 2) := by decide +kernel
theorem dX5_crewOf_3 : decode cX5_crewOf 3 = .ok (.invokestatic 43, 3) := by decide +kernel
theorem dX5_crewOf_6 : decode cX5_crewOf 6 = .ok (.ifCond .eq 12, 3) := by decide +kernel
theorem dX5_crewOf_9 : decode cX5_crewOf 9 = .ok (.aload_n 0, 1) := by decide +kernel
theorem dX5_crewOf_10 : decode cX5_crewOf 10 = .ok (.getfield 22, 3) := by decide +kernel
theorem dX5_crewOf_13 : decode cX5_crewOf 13 = .ok (.iload_n 1, 1) := by decide +kernel
theorem dX5_crewOf_14 : decode cX5_crewOf 14 = .ok (.iaload, 1) := by decide +kernel
theorem dX5_crewOf_15 : decode cX5_crewOf 15 = .ok (.goto 4, 3) := by decide +kernel
theorem dX5_crewOf_18 : decode cX5_crewOf 18 = .ok (.iconst (-1), 1) := by decide +kernel
theorem dX5_crewOf_19 : decode cX5_crewOf 19 = .ok (.ireturn, 1) := by decide +kernel
theorem dX5_addSale_0 : decode cX5_addSale 0 = .ok (.aload_n 0, 1) := by decide +kernel
theorem dX5_addSale_1 : decode cX5_addSale 1 = .ok (.getfield 47, 3) := by decide +kernel
theorem dX5_addSale_4 : decode cX5_addSale 4 = .ok (.bipush 20, 2) := by decide +kernel
theorem dX5_addSale_6 : decode cX5_addSale 6 = .ok (.if_icmp .lt 5, 3) := by decide +kernel
theorem dX5_addSale_9 : decode cX5_addSale 9 = .ok (.iconst 0, 1) := by decide +kernel
theorem dX5_addSale_10 : decode cX5_addSale 10 = .ok (.ireturn, 1) := by decide +kernel
theorem dX5_addSale_11 : decode cX5_addSale 11 = .ok (.aload_n 0, 1) := by decide +kernel
theorem dX5_addSale_12 : decode cX5_addSale 12 = .ok (.getfield 18, 3) := by decide +kernel
theorem dX5_addSale_15 : decode cX5_addSale 15 = .ok (.aload_n 0, 1) := by decide +kernel
theorem dX5_addSale_16 : decode cX5_addSale 16 = .ok (.getfield 47, 3) := by decide +kernel
theorem dX5_addSale_19 : decode cX5_addSale 19 = .ok (.iload_n 1, 1) := by decide +kernel
theorem dX5_addSale_20 : decode cX5_addSale 20 = .ok (.iastore, 1) := by decide +kernel
theorem dX5_addSale_21 : decode cX5_addSale 21 = .ok (.aload_n 0, 1) := by decide +kernel
theorem dX5_addSale_22 : decode cX5_addSale 22 = .ok (.dup, 1) := by decide +kernel
theorem dX5_addSale_23 : decode cX5_addSale 23 = .ok (.getfield 47, 3) := by decide +kernel
theorem dX5_addSale_26 : decode cX5_addSale 26 = .ok (.iconst 1, 1) := by decide +kernel
theorem dX5_addSale_27 : decode cX5_addSale 27 = .ok (.iadd, 1) := by decide +kernel
theorem dX5_addSale_28 : decode cX5_addSale 28 = .ok (.putfield 47, 3) := by decide +kernel
theorem dX5_addSale_31 : decode cX5_addSale 31 = .ok (.iconst 1, 1) := by decide +kernel
theorem dX5_addSale_32 : decode cX5_addSale 32 = .ok (.ireturn, 1) := by decide +kernel
theorem dX5_salesBy_0 : decode cX5_salesBy 0 = .ok (.iconst 0, 1) := by decide +kernel
theorem dX5_salesBy_1 : decode cX5_salesBy 1 = .ok (.istore_n 2, 1) := by decide +kernel
theorem dX5_salesBy_2 : decode cX5_salesBy 2 = .ok (.iconst 0, 1) := by decide +kernel
theorem dX5_salesBy_3 : decode cX5_salesBy 3 = .ok (.istore_n 3, 1) := by decide +kernel
theorem dX5_salesBy_4 : decode cX5_salesBy 4 = .ok (.iload_n 3, 1) := by decide +kernel
theorem dX5_salesBy_5 : decode cX5_salesBy 5 = .ok (.aload_n 0, 1) := by decide +kernel
theorem dX5_salesBy_6 : decode cX5_salesBy 6 = .ok (.getfield 47, 3) := by decide +kernel
theorem dX5_salesBy_9 : decode cX5_salesBy 9 = .ok (.if_icmp .ge 27, 3) := by decide +kernel
theorem dX5_salesBy_12 : decode cX5_salesBy 12 = .ok (.iload_n 2, 1) := by decide +kernel
theorem dX5_salesBy_13 : decode cX5_salesBy 13 = .ok (.aload_n 0, 1) := by decide +kernel
theorem dX5_salesBy_14 : decode cX5_salesBy 14 = .ok (.getfield 18, 3) := by decide +kernel
theorem dX5_salesBy_17 : decode cX5_salesBy 17 = .ok (.iload_n 3, 1) := by decide +kernel
theorem dX5_salesBy_18 : decode cX5_salesBy 18 = .ok (.iaload, 1) := by decide +kernel
theorem dX5_salesBy_19 : decode cX5_salesBy 19 = .ok (.iload_n 1, 1) := by decide +kernel
theorem dX5_salesBy_20 : decode cX5_salesBy 20 = .ok (.if_icmp .gt 7, 3) := by decide +kernel
theorem dX5_salesBy_23 : decode cX5_salesBy 23 = .ok (.iconst 1, 1) := by decide +kernel
theorem dX5_salesBy_24 : decode cX5_salesBy 24 = .ok (.goto 4, 3) := by decide +kernel
theorem dX5_salesBy_27 : decode cX5_salesBy 27 = .ok (.iconst 0, 1) := by decide +kernel
theorem dX5_salesBy_28 : decode cX5_salesBy 28 = .ok (.iadd, 1) := by decide +kernel
theorem dX5_salesBy_29 : decode cX5_salesBy 29 = .ok (.istore_n 2, 1) := by decide +kernel
theorem dX5_salesBy_30 : decode cX5_salesBy 30 = .ok (.iinc 3 1, 3) := by decide +kernel
theorem dX5_salesBy_33 : decode cX5_salesBy 33 = .ok (.goto (-29), 3) := by decide +kernel
theorem dX5_salesBy_36 : decode cX5_salesBy 36 = .ok (.iload_n 2, 1) := by decide +kernel
theorem dX5_salesBy_37 : decode cX5_salesBy 37 = .ok (.ireturn, 1) := by decide +kernel
theorem dX6_init_0 : decode cX6_init 0 = .ok (.aload_n 0, 1) := by decide +kernel
theorem dX6_init_1 : decode cX6_init 1 = .ok (.invokespecial 3, 3) := by decide +kernel
theorem dX6_init_4 : decode cX6_init 4 = .ok (.aload_n 0, 1) := by decide +kernel
theorem dX6_init_5 : decode cX6_init 5 = .ok (.bipush 9, 2) := by decide +kernel
theorem dX6_init_7 : decode cX6_init 7 = .ok (.newarray .int, 2) := by decide +kernel
theorem dX6_init_9 : decode cX6_init 9 = .ok (.putfield 9, 3) := by decide +kernel
theorem dX6_init_12 : decode cX6_init 12 = .ok (.return_, 1) := by decide +kernel
theorem dX6_faultIn_0 : decode cX6_faultIn 0 = .ok (.iconst 0, 1) := by decide +kernel
theorem dX6_faultIn_1 : decode cX6_faultIn 1 = .ok (.istore_n 2, 1) := by decide +kernel
theorem dX6_faultIn_2 : decode cX6_faultIn 2 = .ok (.iconst 0, 1) := by decide +kernel
theorem dX6_faultIn_3 : decode cX6_faultIn 3 = .ok (.istore_n 3, 1) := by decide +kernel
theorem dX6_faultIn_4 : decode cX6_faultIn 4 = .ok (.iconst 0, 1) := by decide +kernel
theorem dX6_faultIn_5 : decode cX6_faultIn 5 = .ok (.istore 4, 2) := by decide +kernel
theorem dX6_faultIn_7 : decode cX6_faultIn 7 = .ok (.iload 4, 2) := by decide +kernel
theorem dX6_faultIn_9 : decode cX6_faultIn 9 = .ok (.iload_n 1, 1) := by decide +kernel
theorem dX6_faultIn_10 : decode cX6_faultIn 10 = .ok (.if_icmp .ge 69, 3) := by decide +kernel
theorem dX6_faultIn_13 : decode cX6_faultIn 13 = .ok (.iload 4, 2) := by decide +kernel
theorem dX6_faultIn_15 : decode cX6_faultIn 15 = .ok (.aload_n 0, 1) := by decide +kernel
theorem dX6_faultIn_16 : decode cX6_faultIn 16 = .ok (.arraylength, 1) := by decide +kernel
theorem dX6_faultIn_17 : decode cX6_faultIn 17 = .ok (.if_icmp .ge 62, 3) := by decide +kernel
theorem dX6_faultIn_20 : decode cX6_faultIn 20 = .ok (.aload_n 0, 1) := by decide +kernel
theorem dX6_faultIn_21 : decode cX6_faultIn 21 = .ok (.iload 4, 2) := by decide +kernel
theorem dX6_faultIn_23 : decode cX6_faultIn 23 = .ok (.iaload, 1) := by decide +kernel
theorem dX6_faultIn_24 : decode cX6_faultIn 24 = .ok (.invokestatic 15, 3) := by decide +kernel
theorem dX6_faultIn_27 : decode cX6_faultIn 27 = .ok (.istore 5, 2) := by decide +kernel
theorem dX6_faultIn_29 : decode cX6_faultIn 29 = .ok (.iload 5, 2) := by decide +kernel
theorem dX6_faultIn_31 : decode cX6_faultIn 31 = .ok (.ifCond .eq 11, 3) := by decide +kernel
theorem dX6_faultIn_34 : decode cX6_faultIn 34 = .ok (.iload_n 3, 1) := by decide +kernel
theorem dX6_faultIn_35 : decode cX6_faultIn 35 = .ok (.iconst 4, 1) := by decide +kernel
theorem dX6_faultIn_36 : decode cX6_faultIn 36 = .ok (.if_icmp .lt 6, 3) := by decide +kernel
theorem dX6_faultIn_39 : decode cX6_faultIn 39 = .ok (.iload 4, 2) := by decide +kernel
theorem dX6_faultIn_41 : decode cX6_faultIn 41 = .ok (.ireturn, 1) := by decide +kernel
theorem dX6_faultIn_42 : decode cX6_faultIn 42 = .ok (.iload_n 2, 1) := by decide +kernel
theorem dX6_faultIn_43 : decode cX6_faultIn 43 = .ok (.aload_n 0, 1) := by decide +kernel
theorem dX6_faultIn_44 : decode cX6_faultIn 44 = .ok (.iload 4, 2) := by decide +kernel
theorem dX6_faultIn_46 : decode cX6_faultIn 46 = .ok (.iaload, 1) := by decide +kernel
theorem dX6_faultIn_47 : decode cX6_faultIn 47 = .ok (.invokestatic 19, 3) := by decide +kernel
theorem dX6_faultIn_50 : decode cX6_faultIn 50 = .ok (.istore_n 2, 1) := by decide +kernel
theorem dX6_faultIn_51 : decode cX6_faultIn 51 = .ok (.iload_n 2, 1) := by decide +kernel
theorem dX6_faultIn_52 : decode cX6_faultIn 52 = .ok (.bipush 7, 2) := by decide +kernel
theorem dX6_faultIn_54 : decode cX6_faultIn 54 = .ok (.if_icmp .ne 6, 3) := by decide +kernel
theorem dX6_faultIn_57 : decode cX6_faultIn 57 = .ok (.iload 4, 2) := by decide +kernel
theorem dX6_faultIn_59 : decode cX6_faultIn 59 = .ok (.ireturn, 1) := by decide +kernel
theorem dX6_faultIn_60 : decode cX6_faultIn 60 = .ok (.iload 5, 2) := by decide +kernel
theorem dX6_faultIn_62 : decode cX6_faultIn 62 = .ok (.ifCond .eq 9, 3) := by decide +kernel
theorem dX6_faultIn_65 : decode cX6_faultIn 65 = .ok (.iload_n 3, 1) := by decide +kernel
theorem dX6_faultIn_66 : decode cX6_faultIn 66 = .ok (.iconst 1, 1) := by decide +kernel
theorem dX6_faultIn_67 : decode cX6_faultIn 67 = .ok (.iadd, 1) := by decide +kernel
theorem dX6_faultIn_68 : decode cX6_faultIn 68 = .ok (.goto 4, 3) := by decide +kernel
theorem dX6_faultIn_71 : decode cX6_faultIn 71 = .ok (.iconst 0, 1) := by decide +kernel
theorem dX6_faultIn_72 : decode cX6_faultIn 72 = .ok (.istore_n 3, 1) := by decide +kernel
theorem dX6_faultIn_73 : decode cX6_faultIn 73 = .ok (.iinc 4 1, 3) := by decide +kernel
theorem dX6_faultIn_76 : decode cX6_faultIn 76 = .ok (.goto (-69), 3) := by decide +kernel
theorem dX6_faultIn_79 : decode cX6_faultIn 79 = .ok (.iload_n 1, 1) := by decide +kernel
theorem dX6_faultIn_80 : decode cX6_faultIn 80 = .ok (.ifCond .le 11, 3) := by decide +kernel
theorem dX6_faultIn_83 : decode cX6_faultIn 83 = .ok (.iload_n 2, 1) := by decide +kernel
theorem dX6_faultIn_84 : decode cX6_faultIn 84 = .ok (.ifCond .ne 7, 3) := by decide +kernel
theorem dX6_faultIn_87 : decode cX6_faultIn 87 = .ok (.iconst (-1), 1) := by decide +kernel
theorem dX6_faultIn_88 : decode cX6_faultIn 88 = .ok (.goto 4, 3) := by decide +kernel
theorem dX6_faultIn_91 : decode cX6_faultIn 91 = .ok (.iload_n 1, 1) := by decide +kernel
theorem dX6_faultIn_92 : decode cX6_faultIn 92 = .ok (.ireturn, 1) := by decide +kernel
theorem dX6_nextPhase_0 : decode cX6_nextPhase 0 = .ok (.iload_n 0, 1) := by decide +kernel
theorem dX6_nextPhase_1 : decode cX6_nextPhase 1 = .ok (.tableswitch 153 0 6 #[43, 61, 69, 77, 91, 121, 130], 43) := by decide +kernel
theorem dX6_nextPhase_44 : decode cX6_nextPhase 44 = .ok (.iload_n 1, 1) := by decide +kernel
theorem dX6_nextPhase_45 : decode cX6_nextPhase 45 = .ok (.bipush 62, 2) := by decide +kernel
theorem dX6_nextPhase_47 : decode cX6_nextPhase 47 = .ok (.if_icmp .ne 7, 3) := by decide +kernel
theorem dX6_nextPhase_50 : decode cX6_nextPhase 50 = .ok (.iconst 5, 1) := by decide +kernel
theorem dX6_nextPhase_51 : decode cX6_nextPhase 51 = .ok (.goto 10, 3) := by decide +kernel
theorem dX6_nextPhase_54 : decode cX6_nextPhase 54 = .ok (.ldc 23, 2) := by decide +kernel
theorem dX6_nextPhase_56 : decode cX6_nextPhase 56 = .ok (.iload_n 1, 1) := by decide +kernel
theorem dX6_nextPhase_57 : decode cX6_nextPhase 57 = .ok (.iconst 2, 1) := by decide +kernel
theorem dX6_nextPhase_58 : decode cX6_nextPhase 58 = .ok (.invokestatic 25, 3) := by decide +kernel
theorem dX6_nextPhase_61 : decode cX6_nextPhase 61 = .ok (.ireturn, 1) := by decide +kernel
theorem dX6_nextPhase_62 : decode cX6_nextPhase 62 = .ok (.ldc 23, 2) := by decide +kernel
theorem dX6_nextPhase_64 : decode cX6_nextPhase 64 = .ok (.iload_n 1, 1) := by decide +kernel
theorem dX6_nextPhase_65 : decode cX6_nextPhase 65 = .ok (.iconst 2, 1) := by decide +kernel
theorem dX6_nextPhase_66 : decode cX6_nextPhase 66 = .ok (.invokestatic 25, 3) := by decide +kernel
theorem dX6_nextPhase_69 : decode cX6_nextPhase 69 = .ok (.ireturn, 1) := by decide +kernel
theorem dX6_nextPhase_70 : decode cX6_nextPhase 70 = .ok (.ldc 29, 2) := by decide +kernel
theorem dX6_nextPhase_72 : decode cX6_nextPhase 72 = .ok (.iload_n 1, 1) := by decide +kernel
theorem dX6_nextPhase_73 : decode cX6_nextPhase 73 = .ok (.iconst 3, 1) := by decide +kernel
theorem dX6_nextPhase_74 : decode cX6_nextPhase 74 = .ok (.invokestatic 25, 3) := by decide +kernel
theorem dX6_nextPhase_77 : decode cX6_nextPhase 77 = .ok (.ireturn, 1) := by decide +kernel
theorem dX6_nextPhase_78 : decode cX6_nextPhase 78 = .ok (.iload_n 1, 1) := by decide +kernel
theorem dX6_nextPhase_79 : decode cX6_nextPhase 79 = .ok (.invokestatic 15, 3) := by decide +kernel
theorem dX6_nextPhase_82 : decode cX6_nextPhase 82 = .ok (.ifCond .eq 7, 3) := by decide +kernel
theorem dX6_nextPhase_85 : decode cX6_nextPhase 85 = .ok (.iconst 4, 1) := by decide +kernel
theorem dX6_nextPhase_86 : decode cX6_nextPhase 86 = .ok (.goto 5, 3) := by decide +kernel
theorem dX6_nextPhase_89 : decode cX6_nextPhase 89 = .ok (.bipush 7, 2) := by decide +kernel
theorem dX6_nextPhase_91 : decode cX6_nextPhase 91 = .ok (.ireturn, 1) := by decide +kernel
theorem dX6_nextPhase_92 : decode cX6_nextPhase 92 = .ok (.iload_n 1, 1) := by decide +kernel
theorem dX6_nextPhase_93 : decode cX6_nextPhase 93 = .ok (.bipush 38, 2) := by decide +kernel
theorem dX6_nextPhase_95 : decode cX6_nextPhase 95 = .ok (.if_icmp .ne 5, 3) := by decide +kernel
theorem dX6_nextPhase_98 : decode cX6_nextPhase 98 = .ok (.iconst 1, 1) := by decide +kernel
theorem dX6_nextPhase_99 : decode cX6_nextPhase 99 = .ok (.ireturn, 1) := by decide +kernel
theorem dX6_nextPhase_100 : decode cX6_nextPhase 100 = .ok (.iload_n 1, 1) := by decide +kernel
theorem dX6_nextPhase_101 : decode cX6_nextPhase 101 = .ok (.bipush 62, 2) := by decide +kernel
theorem dX6_nextPhase_103 : decode cX6_nextPhase 103 = .ok (.if_icmp .ne 5, 3) := by decide +kernel
theorem dX6_nextPhase_106 : decode cX6_nextPhase 106 = .ok (.iconst 5, 1) := by decide +kernel
theorem dX6_nextPhase_107 : decode cX6_nextPhase 107 = .ok (.ireturn, 1) := by decide +kernel
theorem dX6_nextPhase_108 : decode cX6_nextPhase 108 = .ok (.iload_n 1, 1) := by decide +kernel
theorem dX6_nextPhase_109 : decode cX6_nextPhase 109 = .ok (.invokestatic 15, 3) := by decide +kernel
theorem dX6_nextPhase_112 : decode cX6_nextPhase 112 = .ok (.ifCond .eq 7, 3) := by decide +kernel
theorem dX6_nextPhase_115 : decode cX6_nextPhase 115 = .ok (.iconst 4, 1) := by decide +kernel
theorem dX6_nextPhase_116 : decode cX6_nextPhase 116 = .ok (.goto 5, 3) := by decide +kernel
theorem dX6_nextPhase_119 : decode cX6_nextPhase 119 = .ok (.bipush 7, 2) := by decide +kernel
theorem dX6_nextPhase_121 : decode cX6_nextPhase 121 = .ok (.ireturn, 1) := by decide +kernel
theorem dX6_nextPhase_122 : decode cX6_nextPhase 122 = .ok (.ldc 31, 2) := by decide +kernel
theorem dX6_nextPhase_124 : decode cX6_nextPhase 124 = .ok (.iload_n 1, 1) := by decide +kernel
theorem dX6_nextPhase_125 : decode cX6_nextPhase 125 = .ok (.bipush 6, 2) := by decide +kernel
theorem dX6_nextPhase_127 : decode cX6_nextPhase 127 = .ok (.invokestatic 25, 3) := by decide +kernel
theorem dX6_nextPhase_130 : decode cX6_nextPhase 130 = .ok (.ireturn, 1) := by decide +kernel
theorem dX6_nextPhase_131 : decode cX6_nextPhase 131 = .ok (.iload_n 1, 1) := by decide +kernel
theorem dX6_nextPhase_132 : decode cX6_nextPhase 132 = .ok (.bipush 59, 2) := by decide +kernel
theorem dX6_nextPhase_134 : decode cX6_nextPhase 134 = .ok (.if_icmp .ne 5, 3) := by decide +kernel
theorem dX6_nextPhase_137 : decode cX6_nextPhase 137 = .ok (.iconst 0, 1) := by decide +kernel
theorem dX6_nextPhase_138 : decode cX6_nextPhase 138 = .ok (.ireturn, 1) := by decide +kernel
theorem dX6_nextPhase_139 : decode cX6_nextPhase 139 = .ok (.iload_n 1, 1) := by decide +kernel
theorem dX6_nextPhase_140 : decode cX6_nextPhase 140 = .ok (.invokestatic 15, 3) := by decide +kernel
theorem dX6_nextPhase_143 : decode cX6_nextPhase 143 = .ok (.ifCond .eq 8, 3) := by decide +kernel
theorem dX6_nextPhase_146 : decode cX6_nextPhase 146 = .ok (.bipush 6, 2) := by decide +kernel
theorem dX6_nextPhase_148 : decode cX6_nextPhase 148 = .ok (.goto 5, 3) := by decide +kernel
theorem dX6_nextPhase_151 : decode cX6_nextPhase 151 = .ok (.bipush 7, 2) := by decide +kernel
theorem dX6_nextPhase_153 : decode cX6_nextPhase 153 = .ok (.ireturn, 1) := by decide +kernel
theorem dX6_nextPhase_154 : decode cX6_nextPhase 154 = .ok (.bipush 7, 2) := by decide +kernel
theorem dX6_nextPhase_156 : decode cX6_nextPhase 156 = .ok (.ireturn, 1) := by decide +kernel
theorem dX6_nextPhaseIf_0 : decode cX6_nextPhaseIf 0 = .ok (.aload_n 0, 1) := by decide +kernel
theorem dX6_nextPhaseIf_1 : decode cX6_nextPhaseIf 1 = .ok (.iload_n 1, 1) := by decide +kernel
theorem dX6_nextPhaseIf_2 : decode cX6_nextPhaseIf 2 = .ok (.i2c, 1) := by decide +kernel
theorem dX6_nextPhaseIf_3 : decode cX6_nextPhaseIf 3 = .ok (.invokevirtual 33, 3) := by decide +kernel
theorem dX6_nextPhaseIf_6 : decode cX6_nextPhaseIf 6 = .ok (.ifCond .lt 7, 3) := by decide +kernel
theorem dX6_nextPhaseIf_9 : decode cX6_nextPhaseIf 9 = .ok (.iload_n 2, 1) := by decide +kernel
theorem dX6_nextPhaseIf_10 : decode cX6_nextPhaseIf 10 = .ok (.goto 5, 3) := by decide +kernel
theorem dX6_nextPhaseIf_13 : decode cX6_nextPhaseIf 13 = .ok (.bipush 7, 2) := by decide +kernel
theorem dX6_nextPhaseIf_15 : decode cX6_nextPhaseIf 15 = .ok (.ireturn, 1) := by decide +kernel
theorem dX6_builderPaysAll_0 : decode cX6_builderPaysAll 0 = .ok (.aload_n 0, 1) := by decide +kernel
theorem dX6_builderPaysAll_1 : decode cX6_builderPaysAll 1 = .ok (.iconst 0, 1) := by decide +kernel
theorem dX6_builderPaysAll_2 : decode cX6_builderPaysAll 2 = .ok (.iconst 0, 1) := by decide +kernel
theorem dX6_builderPaysAll_3 : decode cX6_builderPaysAll 3 = .ok (.iload_n 1, 1) := by decide +kernel
theorem dX6_builderPaysAll_4 : decode cX6_builderPaysAll 4 = .ok (.iconst (-1), 1) := by decide +kernel
theorem dX6_builderPaysAll_5 : decode cX6_builderPaysAll 5 = .ok (.invokevirtual 39, 3) := by decide +kernel
theorem dX6_builderPaysAll_8 : decode cX6_builderPaysAll 8 = .ok (.return_, 1) := by decide +kernel
theorem dX6_ownerPaysAll_0 : decode cX6_ownerPaysAll 0 = .ok (.aload_n 0, 1) := by decide +kernel
theorem dX6_ownerPaysAll_1 : decode cX6_ownerPaysAll 1 = .ok (.iconst 2, 1) := by decide +kernel
theorem dX6_ownerPaysAll_2 : decode cX6_ownerPaysAll 2 = .ok (.iload_n 1, 1) := by decide +kernel
theorem dX6_ownerPaysAll_3 : decode cX6_ownerPaysAll 3 = .ok (.iconst 0, 1) := by decide +kernel
theorem dX6_ownerPaysAll_4 : decode cX6_ownerPaysAll 4 = .ok (.iconst (-1), 1) := by decide +kernel
theorem dX6_ownerPaysAll_5 : decode cX6_ownerPaysAll 5 = .ok (.invokevirtual 39, 3) := by decide +kernel
theorem dX6_ownerPaysAll_8 : decode cX6_ownerPaysAll 8 = .ok (.return_, 1) := by decide +kernel
theorem dX6_decideBy_0 : decode cX6_decideBy 0 = .ok (.aload_n 0, 1) := by decide +kernel
theorem dX6_decideBy_1 : decode cX6_decideBy 1 = .ok (.aload_n 1, 1) := by decide +kernel
theorem dX6_decideBy_2 : decode cX6_decideBy 2 = .ok (.putfield 43, 3) := by decide +kernel
theorem dX6_decideBy_5 : decode cX6_decideBy 5 = .ok (.aload_n 0, 1) := by decide +kernel
theorem dX6_decideBy_6 : decode cX6_decideBy 6 = .ok (.invokevirtual 47, 3) := by decide +kernel
theorem dX6_decideBy_9 : decode cX6_decideBy 9 = .ok (.ifCond .ne 9, 3) := by decide +kernel
theorem dX6_decideBy_12 : decode cX6_decideBy 12 = .ok (.aload_n 0, 1) := by decide +kernel
theorem dX6_decideBy_13 : decode cX6_decideBy 13 = .ok (.iload_n 2, 1) := by decide +kernel
theorem dX6_decideBy_14 : decode cX6_decideBy 14 = .ok (.invokevirtual 51, 3) := by decide +kernel
theorem dX6_decideBy_17 : decode cX6_decideBy 17 = .ok (.return_, 1) := by decide +kernel
theorem dX6_decideBy_18 : decode cX6_decideBy 18 = .ok (.aload_n 0, 1) := by decide +kernel
theorem dX6_decideBy_19 : decode cX6_decideBy 19 = .ok (.getfield 55, 3) := by decide +kernel
theorem dX6_decideBy_22 : decode cX6_decideBy 22 = .ok (.iload_n 2, 1) := by decide +kernel
theorem dX6_decideBy_23 : decode cX6_decideBy 23 = .ok (.invokestatic 59, 3) := by decide +kernel
theorem dX6_decideBy_26 : decode cX6_decideBy 26 = .ok (.istore 4, 2) := by decide +kernel
theorem dX6_decideBy_28 : decode cX6_decideBy 28 = .ok (.aload_n 0, 1) := by decide +kernel
theorem dX6_decideBy_29 : decode cX6_decideBy 29 = .ok (.getfield 64, 3) := by decide +kernel
theorem dX6_decideBy_32 : decode cX6_decideBy 32 = .ok (.lookupswitch 124 #[(98, 44), (99, 80), (118, 110), (119, 62)], 44) := by decide +kernel
theorem dX6_decideBy_76 : decode cX6_decideBy 76 = .ok (.aload_n 0, 1) := by decide +kernel
theorem dX6_decideBy_77 : decode cX6_decideBy 77 = .ok (.iconst 0, 1) := by decide +kernel
theorem dX6_decideBy_78 : decode cX6_decideBy 78 = .ok (.iload 4, 2) := by decide +kernel
theorem dX6_decideBy_80 : decode cX6_decideBy 80 = .ok (.iload_n 2, 1) := by decide +kernel
theorem dX6_decideBy_81 : decode cX6_decideBy 81 = .ok (.iload 4, 2) := by decide +kernel
theorem dX6_decideBy_83 : decode cX6_decideBy 83 = .ok (.isub, 1) := by decide +kernel
theorem dX6_decideBy_84 : decode cX6_decideBy 84 = .ok (.aload_n 0, 1) := by decide +kernel
theorem dX6_decideBy_85 : decode cX6_decideBy 85 = .ok (.getfield 67, 3) := by decide +kernel
theorem dX6_decideBy_88 : decode cX6_decideBy 88 = .ok (.invokevirtual 39, 3) := by decide +kernel
theorem dX6_decideBy_91 : decode cX6_decideBy 91 = .ok (.goto 76, 3) := by decide +kernel
theorem dX6_decideBy_94 : decode cX6_decideBy 94 = .ok (.aload_n 0, 1) := by decide +kernel
theorem dX6_decideBy_95 : decode cX6_decideBy 95 = .ok (.iconst 1, 1) := by decide +kernel
theorem dX6_decideBy_96 : decode cX6_decideBy 96 = .ok (.iload 4, 2) := by decide +kernel
theorem dX6_decideBy_98 : decode cX6_decideBy 98 = .ok (.iload_n 2, 1) := by decide +kernel
theorem dX6_decideBy_99 : decode cX6_decideBy 99 = .ok (.iload 4, 2) := by decide +kernel
theorem dX6_decideBy_101 : decode cX6_decideBy 101 = .ok (.isub, 1) := by decide +kernel
theorem dX6_decideBy_102 : decode cX6_decideBy 102 = .ok (.aload_n 0, 1) := by decide +kernel
theorem dX6_decideBy_103 : decode cX6_decideBy 103 = .ok (.getfield 67, 3) := by decide +kernel
theorem dX6_decideBy_106 : decode cX6_decideBy 106 = .ok (.invokevirtual 39, 3) := by decide +kernel
theorem dX6_decideBy_109 : decode cX6_decideBy 109 = .ok (.goto 58, 3) := by decide +kernel
theorem dX6_decideBy_112 : decode cX6_decideBy 112 = .ok (.aload_n 0, 1) := by decide +kernel
theorem dX6_decideBy_113 : decode cX6_decideBy 113 = .ok (.iload_n 3, 1) := by decide +kernel
theorem dX6_decideBy_114 : decode cX6_decideBy 114 = .ok (.iconst (-1), 1) := by decide +kernel
theorem dX6_decideBy_115 : decode cX6_decideBy 115 = .ok (.if_icmp .ne 7, 3) := by decide +kernel
theorem dX6_decideBy_118 : decode cX6_decideBy 118 = .ok (.iconst 0, 1) := by decide +kernel
theorem dX6_decideBy_119 : decode cX6_decideBy 119 = .ok (.goto 7, 3) := by decide +kernel
theorem dX6_decideBy_122 : decode cX6_decideBy 122 = .ok (.bipush 10, 2) := by decide +kernel
theorem dX6_decideBy_124 : decode cX6_decideBy 124 = .ok (.iload_n 3, 1) := by decide +kernel
theorem dX6_decideBy_125 : decode cX6_decideBy 125 = .ok (.iadd, 1) := by decide +kernel
theorem dX6_decideBy_126 : decode cX6_decideBy 126 = .ok (.iload 4, 2) := by decide +kernel
theorem dX6_decideBy_128 : decode cX6_decideBy 128 = .ok (.iload_n 2, 1) := by decide +kernel
theorem dX6_decideBy_129 : decode cX6_decideBy 129 = .ok (.iload 4, 2) := by decide +kernel
theorem dX6_decideBy_131 : decode cX6_decideBy 131 = .ok (.isub, 1) := by decide +kernel
theorem dX6_decideBy_132 : decode cX6_decideBy 132 = .ok (.aload_n 0, 1) := by decide +kernel
theorem dX6_decideBy_133 : decode cX6_decideBy 133 = .ok (.getfield 67, 3) := by decide +kernel
theorem dX6_decideBy_136 : decode cX6_decideBy 136 = .ok (.invokevirtual 39, 3) := by decide +kernel
theorem dX6_decideBy_139 : decode cX6_decideBy 139 = .ok (.goto 28, 3) := by decide +kernel
theorem dX6_decideBy_142 : decode cX6_decideBy 142 = .ok (.aload_n 0, 1) := by decide +kernel
theorem dX6_decideBy_143 : decode cX6_decideBy 143 = .ok (.iconst 3, 1) := by decide +kernel
theorem dX6_decideBy_144 : decode cX6_decideBy 144 = .ok (.iconst 0, 1) := by decide +kernel
theorem dX6_decideBy_145 : decode cX6_decideBy 145 = .ok (.iconst 0, 1) := by decide +kernel
theorem dX6_decideBy_146 : decode cX6_decideBy 146 = .ok (.aload_n 0, 1) := by decide +kernel
theorem dX6_decideBy_147 : decode cX6_decideBy 147 = .ok (.getfield 67, 3) := by decide +kernel
theorem dX6_decideBy_150 : decode cX6_decideBy 150 = .ok (.invokevirtual 39, 3) := by decide +kernel
theorem dX6_decideBy_153 : decode cX6_decideBy 153 = .ok (.goto 14, 3) := by decide +kernel
theorem dX6_decideBy_156 : decode cX6_decideBy 156 = .ok (.aload_n 0, 1) := by decide +kernel
theorem dX6_decideBy_157 : decode cX6_decideBy 157 = .ok (.iconst 2, 1) := by decide +kernel
theorem dX6_decideBy_158 : decode cX6_decideBy 158 = .ok (.iload_n 2, 1) := by decide +kernel
theorem dX6_decideBy_159 : decode cX6_decideBy 159 = .ok (.iconst 0, 1) := by decide +kernel
theorem dX6_decideBy_160 : decode cX6_decideBy 160 = .ok (.aload_n 0, 1) := by decide +kernel
theorem dX6_decideBy_161 : decode cX6_decideBy 161 = .ok (.getfield 67, 3) := by decide +kernel
theorem dX6_decideBy_164 : decode cX6_decideBy 164 = .ok (.invokevirtual 39, 3) := by decide +kernel
theorem dX6_decideBy_167 : decode cX6_decideBy 167 = .ok (.return_, 1) := by decide +kernel
theorem dX6_set_0 : decode cX6_set 0 = .ok (.aload_n 0, 1) := by decide +kernel
theorem dX6_set_1 : decode cX6_set 1 = .ok (.iload_n 1, 1) := by decide +kernel
theorem dX6_set_2 : decode cX6_set 2 = .ok (.putfield 70, 3) := by decide +kernel
theorem dX6_set_5 : decode cX6_set 5 = .ok (.aload_n 0, 1) := by decide +kernel
theorem dX6_set_6 : decode cX6_set 6 = .ok (.iload_n 2, 1) := by decide +kernel
theorem dX6_set_7 : decode cX6_set 7 = .ok (.putfield 73, 3) := by decide +kernel
theorem dX6_set_10 : decode cX6_set 10 = .ok (.aload_n 0, 1) := by decide +kernel
theorem dX6_set_11 : decode cX6_set 11 = .ok (.iload_n 3, 1) := by decide +kernel
theorem dX6_set_12 : decode cX6_set 12 = .ok (.putfield 76, 3) := by decide +kernel
theorem dX6_set_15 : decode cX6_set 15 = .ok (.aload_n 0, 1) := by decide +kernel
theorem dX6_set_16 : decode cX6_set 16 = .ok (.iload 4, 2) := by decide +kernel
theorem dX6_set_18 : decode cX6_set 18 = .ok (.putfield 67, 3) := by decide +kernel
theorem dX6_set_21 : decode cX6_set 21 = .ok (.return_, 1) := by decide +kernel
theorem dX6_findLine_0 : decode cX6_findLine 0 = .ok (.aload_n 0, 1) := by decide +kernel
theorem dX6_findLine_1 : decode cX6_findLine 1 = .ok (.iconst 0, 1) := by decide +kernel
theorem dX6_findLine_2 : decode cX6_findLine 2 = .ok (.putfield 79, 3) := by decide +kernel
theorem dX6_findLine_5 : decode cX6_findLine 5 = .ok (.aload_n 0, 1) := by decide +kernel
theorem dX6_findLine_6 : decode cX6_findLine 6 = .ok (.iconst 0, 1) := by decide +kernel
theorem dX6_findLine_7 : decode cX6_findLine 7 = .ok (.putfield 67, 3) := by decide +kernel
theorem dX6_findLine_10 : decode cX6_findLine 10 = .ok (.aload_n 0, 1) := by decide +kernel
theorem dX6_findLine_11 : decode cX6_findLine 11 = .ok (.getfield 79, 3) := by decide +kernel
theorem dX6_findLine_14 : decode cX6_findLine 14 = .ok (.aload_n 0, 1) := by decide +kernel
theorem dX6_findLine_15 : decode cX6_findLine 15 = .ok (.getfield 43, 3) := by decide +kernel
theorem dX6_findLine_18 : decode cX6_findLine 18 = .ok (.invokevirtual 82, 3) := by decide +kernel
theorem dX6_findLine_21 : decode cX6_findLine 21 = .ok (.if_icmp .ge 70, 3) := by decide +kernel
theorem dX6_findLine_24 : decode cX6_findLine 24 = .ok (.aload_n 0, 1) := by decide +kernel
theorem dX6_findLine_25 : decode cX6_findLine 25 = .ok (.invokevirtual 88, 3) := by decide +kernel
theorem dX6_findLine_28 : decode cX6_findLine 28 = .ok (.istore_n 1, 1) := by decide +kernel
theorem dX6_findLine_29 : decode cX6_findLine 29 = .ok (.aload_n 0, 1) := by decide +kernel
theorem dX6_findLine_30 : decode cX6_findLine 30 = .ok (.aload_n 0, 1) := by decide +kernel
theorem dX6_findLine_31 : decode cX6_findLine 31 = .ok (.getfield 43, 3) := by decide +kernel
theorem dX6_findLine_34 : decode cX6_findLine 34 = .ok (.aload_n 0, 1) := by decide +kernel
theorem dX6_findLine_35 : decode cX6_findLine 35 = .ok (.getfield 79, 3) := by decide +kernel
theorem dX6_findLine_38 : decode cX6_findLine 38 = .ok (.invokevirtual 91, 3) := by decide +kernel
theorem dX6_findLine_41 : decode cX6_findLine 41 = .ok (.putfield 64, 3) := by decide +kernel
theorem dX6_findLine_44 : decode cX6_findLine 44 = .ok (.aload_n 0, 1) := by decide +kernel
theorem dX6_findLine_45 : decode cX6_findLine 45 = .ok (.dup, 1) := by decide +kernel
theorem dX6_findLine_46 : decode cX6_findLine 46 = .ok (.getfield 79, 3) := by decide +kernel
theorem dX6_findLine_49 : decode cX6_findLine 49 = .ok (.iconst 1, 1) := by decide +kernel
theorem dX6_findLine_50 : decode cX6_findLine 50 = .ok (.iadd, 1) := by decide +kernel
theorem dX6_findLine_51 : decode cX6_findLine 51 = .ok (.putfield 79, 3) := by decide +kernel
theorem dX6_findLine_54 : decode cX6_findLine 54 = .ok (.aload_n 0, 1) := by decide +kernel
theorem dX6_findLine_55 : decode cX6_findLine 55 = .ok (.aload_n 0, 1) := by decide +kernel
theorem dX6_findLine_56 : decode cX6_findLine 56 = .ok (.invokevirtual 94, 3) := by decide +kernel
theorem dX6_findLine_59 : decode cX6_findLine 59 = .ok (.putfield 55, 3) := by decide +kernel
theorem dX6_findLine_62 : decode cX6_findLine 62 = .ok (.aload_n 0, 1) := by decide +kernel
theorem dX6_findLine_63 : decode cX6_findLine 63 = .ok (.dup, 1) := by decide +kernel
theorem dX6_findLine_64 : decode cX6_findLine 64 = .ok (.getfield 79, 3) := by decide +kernel
theorem dX6_findLine_67 : decode cX6_findLine 67 = .ok (.iconst 1, 1) := by decide +kernel
theorem dX6_findLine_68 : decode cX6_findLine 68 = .ok (.iadd, 1) := by decide +kernel
theorem dX6_findLine_69 : decode cX6_findLine 69 = .ok (.putfield 79, 3) := by decide +kernel
theorem dX6_findLine_72 : decode cX6_findLine 72 = .ok (.iload_n 1, 1) := by decide +kernel
theorem dX6_findLine_73 : decode cX6_findLine 73 = .ok (.ifCond .eq 5, 3) := by decide +kernel
theorem dX6_findLine_76 : decode cX6_findLine 76 = .ok (.iconst 1, 1) := by decide +kernel
theorem dX6_findLine_77 : decode cX6_findLine 77 = .ok (.ireturn, 1) := by decide +kernel
theorem dX6_findLine_78 : decode cX6_findLine 78 = .ok (.aload_n 0, 1) := by decide +kernel
theorem dX6_findLine_79 : decode cX6_findLine 79 = .ok (.dup, 1) := by decide +kernel
theorem dX6_findLine_80 : decode cX6_findLine 80 = .ok (.getfield 67, 3) := by decide +kernel
theorem dX6_findLine_83 : decode cX6_findLine 83 = .ok (.iconst 1, 1) := by decide +kernel
theorem dX6_findLine_84 : decode cX6_findLine 84 = .ok (.iadd, 1) := by decide +kernel
theorem dX6_findLine_85 : decode cX6_findLine 85 = .ok (.putfield 67, 3) := by decide +kernel
theorem dX6_findLine_88 : decode cX6_findLine 88 = .ok (.goto (-78), 3) := by decide +kernel
theorem dX6_findLine_91 : decode cX6_findLine 91 = .ok (.iconst 0, 1) := by decide +kernel
theorem dX6_findLine_92 : decode cX6_findLine 92 = .ok (.ireturn, 1) := by decide +kernel
theorem dX6_readTests_0 : decode cX6_readTests 0 = .ok (.iconst 1, 1) := by decide +kernel
theorem dX6_readTests_1 : decode cX6_readTests 1 = .ok (.istore_n 1, 1) := by decide +kernel
theorem dX6_readTests_2 : decode cX6_readTests 2 = .ok (.aload_n 0, 1) := by decide +kernel
theorem dX6_readTests_3 : decode cX6_readTests 3 = .ok (.getfield 79, 3) := by decide +kernel
theorem dX6_readTests_6 : decode cX6_readTests 6 = .ok (.aload_n 0, 1) := by decide +kernel
theorem dX6_readTests_7 : decode cX6_readTests 7 = .ok (.getfield 43, 3) := by decide +kernel
theorem dX6_readTests_10 : decode cX6_readTests 10 = .ok (.invokevirtual 82, 3) := by decide +kernel
theorem dX6_readTests_13 : decode cX6_readTests 13 = .ok (.if_icmp .ge 133, 3) := by decide +kernel
theorem dX6_readTests_16 : decode cX6_readTests 16 = .ok (.aload_n 0, 1) := by decide +kernel
theorem dX6_readTests_17 : decode cX6_readTests 17 = .ok (.getfield 43, 3) := by decide +kernel
theorem dX6_readTests_20 : decode cX6_readTests 20 = .ok (.aload_n 0, 1) := by decide +kernel
theorem dX6_readTests_21 : decode cX6_readTests 21 = .ok (.getfield 79, 3) := by decide +kernel
theorem dX6_readTests_24 : decode cX6_readTests 24 = .ok (.invokevirtual 91, 3) := by decide +kernel
theorem dX6_readTests_27 : decode cX6_readTests 27 = .ok (.bipush 62, 2) := by decide +kernel
theorem dX6_readTests_29 : decode cX6_readTests 29 = .ok (.if_icmp .eq 117, 3) := by decide +kernel
theorem dX6_readTests_32 : decode cX6_readTests 32 = .ok (.ldc 23, 2) := by decide +kernel
theorem dX6_readTests_34 : decode cX6_readTests 34 = .ok (.aload_n 0, 1) := by decide +kernel
theorem dX6_readTests_35 : decode cX6_readTests 35 = .ok (.getfield 43, 3) := by decide +kernel
theorem dX6_readTests_38 : decode cX6_readTests 38 = .ok (.aload_n 0, 1) := by decide +kernel
theorem dX6_readTests_39 : decode cX6_readTests 39 = .ok (.getfield 79, 3) := by decide +kernel
theorem dX6_readTests_42 : decode cX6_readTests 42 = .ok (.invokevirtual 91, 3) := by decide +kernel
theorem dX6_readTests_45 : decode cX6_readTests 45 = .ok (.i2c, 1) := by decide +kernel
theorem dX6_readTests_46 : decode cX6_readTests 46 = .ok (.invokevirtual 33, 3) := by decide +kernel
theorem dX6_readTests_49 : decode cX6_readTests 49 = .ok (.istore_n 2, 1) := by decide +kernel
theorem dX6_readTests_50 : decode cX6_readTests 50 = .ok (.aload_n 0, 1) := by decide +kernel
theorem dX6_readTests_51 : decode cX6_readTests 51 = .ok (.getfield 43, 3) := by decide +kernel
theorem dX6_readTests_54 : decode cX6_readTests 54 = .ok (.aload_n 0, 1) := by decide +kernel
theorem dX6_readTests_55 : decode cX6_readTests 55 = .ok (.getfield 79, 3) := by decide +kernel
theorem dX6_readTests_58 : decode cX6_readTests 58 = .ok (.iconst 1, 1) := by decide +kernel
theorem dX6_readTests_59 : decode cX6_readTests 59 = .ok (.iadd, 1) := by decide +kernel
theorem dX6_readTests_60 : decode cX6_readTests 60 = .ok (.invokevirtual 91, 3) := by decide +kernel
theorem dX6_readTests_63 : decode cX6_readTests 63 = .ok (.istore_n 3, 1) := by decide +kernel
theorem dX6_readTests_64 : decode cX6_readTests 64 = .ok (.aload_n 0, 1) := by decide +kernel
theorem dX6_readTests_65 : decode cX6_readTests 65 = .ok (.dup, 1) := by decide +kernel
theorem dX6_readTests_66 : decode cX6_readTests 66 = .ok (.getfield 79, 3) := by decide +kernel
theorem dX6_readTests_69 : decode cX6_readTests 69 = .ok (.iconst 2, 1) := by decide +kernel
theorem dX6_readTests_70 : decode cX6_readTests 70 = .ok (.iadd, 1) := by decide +kernel
theorem dX6_readTests_71 : decode cX6_readTests 71 = .ok (.putfield 79, 3) := by decide +kernel
theorem dX6_readTests_74 : decode cX6_readTests 74 = .ok (.aload_n 0, 1) := by decide +kernel
theorem dX6_readTests_75 : decode cX6_readTests 75 = .ok (.invokevirtual 94, 3) := by decide +kernel
theorem dX6_readTests_78 : decode cX6_readTests 78 = .ok (.istore 4, 2) := by decide +kernel
theorem dX6_readTests_80 : decode cX6_readTests 80 = .ok (.iload_n 1, 1) := by decide +kernel
theorem dX6_readTests_81 : decode cX6_readTests 81 = .ok (.ifCond .eq 34, 3) := by decide +kernel
theorem dX6_readTests_84 : decode cX6_readTests 84 = .ok (.iload_n 2, 1) := by decide +kernel
theorem dX6_readTests_85 : decode cX6_readTests 85 = .ok (.aload_n 0, 1) := by decide +kernel
theorem dX6_readTests_86 : decode cX6_readTests 86 = .ok (.getfield 9, 3) := by decide +kernel
theorem dX6_readTests_89 : decode cX6_readTests 89 = .ok (.arraylength, 1) := by decide +kernel
theorem dX6_readTests_90 : decode cX6_readTests 90 = .ok (.invokestatic 97, 3) := by decide +kernel
theorem dX6_readTests_93 : decode cX6_readTests 93 = .ok (.ifCond .eq 22, 3) := by decide +kernel
theorem dX6_readTests_96 : decode cX6_readTests 96 = .ok (.aload_n 0, 1) := by decide +kernel
theorem dX6_readTests_97 : decode cX6_readTests 97 = .ok (.getfield 9, 3) := by decide +kernel
theorem dX6_readTests_100 : decode cX6_readTests 100 = .ok (.iload_n 2, 1) := by decide +kernel
theorem dX6_readTests_101 : decode cX6_readTests 101 = .ok (.iaload, 1) := by decide +kernel
theorem dX6_readTests_102 : decode cX6_readTests 102 = .ok (.iload_n 3, 1) := by decide +kernel
theorem dX6_readTests_103 : decode cX6_readTests 103 = .ok (.iload 4, 2) := by decide +kernel
theorem dX6_readTests_105 : decode cX6_readTests 105 = .ok (.invokestatic 101, 3) := by decide +kernel
theorem dX6_readTests_108 : decode cX6_readTests 108 = .ok (.ifCond .eq 7, 3) := by decide +kernel
theorem dX6_readTests_111 : decode cX6_readTests 111 = .ok (.iconst 1, 1) := by decide +kernel
theorem dX6_readTests_112 : decode cX6_readTests 112 = .ok (.goto 4, 3) := by decide +kernel
theorem dX6_readTests_115 : decode cX6_readTests 115 = .ok (.iconst 0, 1) := by decide +kernel
theorem dX6_readTests_116 : decode cX6_readTests 116 = .ok (.istore_n 1, 1) := by decide +kernel
theorem dX6_readTests_117 : decode cX6_readTests 117 = .ok (.aload_n 0, 1) := by decide +kernel
theorem dX6_readTests_118 : decode cX6_readTests 118 = .ok (.getfield 43, 3) := by decide +kernel
theorem dX6_readTests_121 : decode cX6_readTests 121 = .ok (.aload_n 0, 1) := by decide +kernel
theorem dX6_readTests_122 : decode cX6_readTests 122 = .ok (.getfield 79, 3) := by decide +kernel
theorem dX6_readTests_125 : decode cX6_readTests 125 = .ok (.invokevirtual 91, 3) := by decide +kernel
theorem dX6_readTests_128 : decode cX6_readTests 128 = .ok (.bipush 38, 2) := by decide +kernel
theorem dX6_readTests_130 : decode cX6_readTests 130 = .ok (.if_icmp .ne 13, 3) := by decide +kernel
theorem dX6_readTests_133 : decode cX6_readTests 133 = .ok (.aload_n 0, 1) := by decide +kernel
theorem dX6_readTests_134 : decode cX6_readTests 134 = .ok (.dup, 1) := by decide +kernel
theorem dX6_readTests_135 : decode cX6_readTests 135 = .ok (.getfield 79, 3) := by decide +kernel
theorem dX6_readTests_138 : decode cX6_readTests 138 = .ok (.iconst 1, 1) := by decide +kernel
theorem dX6_readTests_139 : decode cX6_readTests 139 = .ok (.iadd, 1) := by decide +kernel
theorem dX6_readTests_140 : decode cX6_readTests 140 = .ok (.putfield 79, 3) := by decide +kernel
theorem dX6_readTests_143 : decode cX6_readTests 143 = .ok (.goto (-141), 3) := by decide +kernel
theorem dX6_readTests_146 : decode cX6_readTests 146 = .ok (.aload_n 0, 1) := by decide +kernel
theorem dX6_readTests_147 : decode cX6_readTests 147 = .ok (.dup, 1) := by decide +kernel
theorem dX6_readTests_148 : decode cX6_readTests 148 = .ok (.getfield 79, 3) := by decide +kernel
theorem dX6_readTests_151 : decode cX6_readTests 151 = .ok (.iconst 1, 1) := by decide +kernel
theorem dX6_readTests_152 : decode cX6_readTests 152 = .ok (.iadd, 1) := by decide +kernel
theorem dX6_readTests_153 : decode cX6_readTests 153 = .ok (.putfield 79, 3) := by decide +kernel
theorem dX6_readTests_156 : decode cX6_readTests 156 = .ok (.iload_n 1, 1) := by decide +kernel
theorem dX6_readTests_157 : decode cX6_readTests 157 = .ok (.ireturn, 1) := by decide +kernel
theorem dX6_compares_0 : decode cX6_compares 0 = .ok (.iload_n 1, 1) := by decide +kernel
theorem dX6_compares_1 : decode cX6_compares 1 = .ok (.lookupswitch 68 #[(33, 57), (60, 35), (61, 46)], 35) := by decide +kernel
theorem dX6_compares_36 : decode cX6_compares 36 = .ok (.iload_n 0, 1) := by decide +kernel
theorem dX6_compares_37 : decode cX6_compares 37 = .ok (.iload_n 2, 1) := by decide +kernel
theorem dX6_compares_38 : decode cX6_compares 38 = .ok (.if_icmp .ge 7, 3) := by decide +kernel
theorem dX6_compares_41 : decode cX6_compares 41 = .ok (.iconst 1, 1) := by decide +kernel
theorem dX6_compares_42 : decode cX6_compares 42 = .ok (.goto 4, 3) := by decide +kernel
theorem dX6_compares_45 : decode cX6_compares 45 = .ok (.iconst 0, 1) := by decide +kernel
theorem dX6_compares_46 : decode cX6_compares 46 = .ok (.ireturn, 1) := by decide +kernel
theorem dX6_compares_47 : decode cX6_compares 47 = .ok (.iload_n 0, 1) := by decide +kernel
theorem dX6_compares_48 : decode cX6_compares 48 = .ok (.iload_n 2, 1) := by decide +kernel
theorem dX6_compares_49 : decode cX6_compares 49 = .ok (.if_icmp .ne 7, 3) := by decide +kernel
theorem dX6_compares_52 : decode cX6_compares 52 = .ok (.iconst 1, 1) := by decide +kernel
theorem dX6_compares_53 : decode cX6_compares 53 = .ok (.goto 4, 3) := by decide +kernel
theorem dX6_compares_56 : decode cX6_compares 56 = .ok (.iconst 0, 1) := by decide +kernel
theorem dX6_compares_57 : decode cX6_compares 57 = .ok (.ireturn, 1) := by decide +kernel
theorem dX6_compares_58 : decode cX6_compares 58 = .ok (.iload_n 0, 1) := by decide +kernel
theorem dX6_compares_59 : decode cX6_compares 59 = .ok (.iload_n 2, 1) := by decide +kernel
theorem dX6_compares_60 : decode cX6_compares 60 = .ok (.if_icmp .eq 7, 3) := by decide +kernel
theorem dX6_compares_63 : decode cX6_compares 63 = .ok (.iconst 1, 1) := by decide +kernel
theorem dX6_compares_64 : decode cX6_compares 64 = .ok (.goto 4, 3) := by decide +kernel
theorem dX6_compares_67 : decode cX6_compares 67 = .ok (.iconst 0, 1) := by decide +kernel
theorem dX6_compares_68 : decode cX6_compares 68 = .ok (.ireturn, 1) := by decide +kernel
theorem dX6_compares_69 : decode cX6_compares 69 = .ok (.iload_n 0, 1) := by decide +kernel
theorem dX6_compares_70 : decode cX6_compares 70 = .ok (.iload_n 2, 1) := by decide +kernel
theorem dX6_compares_71 : decode cX6_compares 71 = .ok (.if_icmp .lt 7, 3) := by decide +kernel
theorem dX6_compares_74 : decode cX6_compares 74 = .ok (.iconst 1, 1) := by decide +kernel
theorem dX6_compares_75 : decode cX6_compares 75 = .ok (.goto 4, 3) := by decide +kernel
theorem dX6_compares_78 : decode cX6_compares 78 = .ok (.iconst 0, 1) := by decide +kernel
theorem dX6_compares_79 : decode cX6_compares 79 = .ok (.ireturn, 1) := by decide +kernel
theorem dX6_readNumber_0 : decode cX6_readNumber 0 = .ok (.iconst 0, 1) := by decide +kernel
theorem dX6_readNumber_1 : decode cX6_readNumber 1 = .ok (.istore_n 1, 1) := by decide +kernel
theorem dX6_readNumber_2 : decode cX6_readNumber 2 = .ok (.aload_n 0, 1) := by decide +kernel
theorem dX6_readNumber_3 : decode cX6_readNumber 3 = .ok (.getfield 79, 3) := by decide +kernel
theorem dX6_readNumber_6 : decode cX6_readNumber 6 = .ok (.aload_n 0, 1) := by decide +kernel
theorem dX6_readNumber_7 : decode cX6_readNumber 7 = .ok (.getfield 43, 3) := by decide +kernel
theorem dX6_readNumber_10 : decode cX6_readNumber 10 = .ok (.invokevirtual 82, 3) := by decide +kernel
theorem dX6_readNumber_13 : decode cX6_readNumber 13 = .ok (.if_icmp .ge 53, 3) := by decide +kernel
theorem dX6_readNumber_16 : decode cX6_readNumber 16 = .ok (.aload_n 0, 1) := by decide +kernel
theorem dX6_readNumber_17 : decode cX6_readNumber 17 = .ok (.getfield 43, 3) := by decide +kernel
theorem dX6_readNumber_20 : decode cX6_readNumber 20 = .ok (.aload_n 0, 1) := by decide +kernel
theorem dX6_readNumber_21 : decode cX6_readNumber 21 = .ok (.getfield 79, 3) := by decide +kernel
theorem dX6_readNumber_24 : decode cX6_readNumber 24 = .ok (.invokevirtual 91, 3) := by decide +kernel
theorem dX6_readNumber_27 : decode cX6_readNumber 27 = .ok (.invokestatic 15, 3) := by decide +kernel
theorem dX6_readNumber_30 : decode cX6_readNumber 30 = .ok (.ifCond .eq 36, 3) := by decide +kernel
theorem dX6_readNumber_33 : decode cX6_readNumber 33 = .ok (.iload_n 1, 1) := by decide +kernel
theorem dX6_readNumber_34 : decode cX6_readNumber 34 = .ok (.bipush 10, 2) := by decide +kernel
theorem dX6_readNumber_36 : decode cX6_readNumber 36 = .ok (.imul, 1) := by decide +kernel
theorem dX6_readNumber_37 : decode cX6_readNumber 37 = .ok (.aload_n 0, 1) := by decide +kernel
theorem dX6_readNumber_38 : decode cX6_readNumber 38 = .ok (.getfield 43, 3) := by decide +kernel
theorem dX6_readNumber_41 : decode cX6_readNumber 41 = .ok (.aload_n 0, 1) := by decide +kernel
theorem dX6_readNumber_42 : decode cX6_readNumber 42 = .ok (.getfield 79, 3) := by decide +kernel
theorem dX6_readNumber_45 : decode cX6_readNumber 45 = .ok (.invokevirtual 91, 3) := by decide +kernel
theorem dX6_readNumber_48 : decode cX6_readNumber 48 = .ok (.bipush 48, 2) := by decide +kernel
theorem dX6_readNumber_50 : decode cX6_readNumber 50 = .ok (.isub, 1) := by decide +kernel
theorem dX6_readNumber_51 : decode cX6_readNumber 51 = .ok (.iadd, 1) := by decide +kernel
theorem dX6_readNumber_52 : decode cX6_readNumber 52 = .ok (.istore_n 1, 1) := by decide +kernel
theorem dX6_readNumber_53 : decode cX6_readNumber 53 = .ok (.aload_n 0, 1) := by decide +kernel
theorem dX6_readNumber_54 : decode cX6_readNumber 54 = .ok (.dup, 1) := by decide +kernel
theorem dX6_readNumber_55 : decode cX6_readNumber 55 = .ok (.getfield 79, 3) := by decide +kernel
theorem dX6_readNumber_58 : decode cX6_readNumber 58 = .ok (.iconst 1, 1) := by decide +kernel
theorem dX6_readNumber_59 : decode cX6_readNumber 59 = .ok (.iadd, 1) := by decide +kernel
theorem dX6_readNumber_60 : decode cX6_readNumber 60 = .ok (.putfield 79, 3) := by decide +kernel
theorem dX6_readNumber_63 : decode cX6_readNumber 63 = .ok (.goto (-61), 3) := by decide +kernel
theorem dX6_readNumber_66 : decode cX6_readNumber 66 = .ok (.iload_n 1, 1) := by decide +kernel
theorem dX6_readNumber_67 : decode cX6_readNumber 67 = .ok (.ireturn, 1) := by decide +kernel
theorem dX7_init_0 : decode cX7_init 0 = .ok (.aload_n 0, 1) := by decide +kernel
theorem dX7_init_1 : decode cX7_init 1 = .ok (.invokespecial 1, 3) := by decide +kernel
theorem dX7_init_4 : decode cX7_init 4 = .ok (.aload_n 0, 1) := by decide +kernel
theorem dX7_init_5 : decode cX7_init 5 = .ok (.iload_n 1, 1) := by decide +kernel
theorem dX7_init_6 : decode cX7_init 6 = .ok (.putfield 7, 3) := by decide +kernel
theorem dX7_init_9 : decode cX7_init 9 = .ok (.aload_n 0, 1) := by decide +kernel
theorem dX7_init_10 : decode cX7_init 10 = .ok (.iload_n 2, 1) := by decide +kernel
theorem dX7_init_11 : decode cX7_init 11 = .ok (.putfield 13, 3) := by decide +kernel
theorem dX7_init_14 : decode cX7_init 14 = .ok (.aload_n 0, 1) := by decide +kernel
theorem dX7_init_15 : decode cX7_init 15 = .ok (.iload_n 3, 1) := by decide +kernel
theorem dX7_init_16 : decode cX7_init 16 = .ok (.putfield 16, 3) := by decide +kernel
theorem dX7_init_19 : decode cX7_init 19 = .ok (.return_, 1) := by decide +kernel
theorem dX7_has_0 : decode cX7_has 0 = .ok (.aload_n 0, 1) := by decide +kernel
theorem dX7_has_1 : decode cX7_has 1 = .ok (.getfield 16, 3) := by decide +kernel
theorem dX7_has_4 : decode cX7_has 4 = .ok (.iload_n 1, 1) := by decide +kernel
theorem dX7_has_5 : decode cX7_has 5 = .ok (.iand, 1) := by decide +kernel
theorem dX7_has_6 : decode cX7_has 6 = .ok (.ifCond .eq 7, 3) := by decide +kernel
theorem dX7_has_9 : decode cX7_has 9 = .ok (.iconst 1, 1) := by decide +kernel
theorem dX7_has_10 : decode cX7_has 10 = .ok (.goto 4, 3) := by decide +kernel
theorem dX7_has_13 : decode cX7_has 13 = .ok (.iconst 0, 1) := by decide +kernel
theorem dX7_has_14 : decode cX7_has 14 = .ok (.ireturn, 1) := by decide +kernel
theorem dX8_choose_0 : decode cX8_choose 0 = .ok (.iload_n 1, 1) := by decide +kernel
theorem dX8_choose_1 : decode cX8_choose 1 = .ok (.ifCond .lt 8, 3) := by decide +kernel
theorem dX8_choose_4 : decode cX8_choose 4 = .ok (.iload_n 1, 1) := by decide +kernel
theorem dX8_choose_5 : decode cX8_choose 5 = .ok (.iload_n 0, 1) := by decide +kernel
theorem dX8_choose_6 : decode cX8_choose 6 = .ok (.if_icmp .le 5, 3) := by decide +kernel
theorem dX8_choose_9 : decode cX8_choose 9 = .ok (.lconst 0, 1) := by decide +kernel
theorem dX8_choose_10 : decode cX8_choose 10 = .ok (.lreturn, 1) := by decide +kernel
theorem dX8_choose_11 : decode cX8_choose 11 = .ok (.lconst 1, 1) := by decide +kernel
theorem dX8_choose_12 : decode cX8_choose 12 = .ok (.lstore_n 2, 1) := by decide +kernel
theorem dX8_choose_13 : decode cX8_choose 13 = .ok (.iconst 1, 1) := by decide +kernel
theorem dX8_choose_14 : decode cX8_choose 14 = .ok (.istore 4, 2) := by decide +kernel
theorem dX8_choose_16 : decode cX8_choose 16 = .ok (.iload 4, 2) := by decide +kernel
theorem dX8_choose_18 : decode cX8_choose 18 = .ok (.iload_n 1, 1) := by decide +kernel
theorem dX8_choose_19 : decode cX8_choose 19 = .ok (.if_icmp .gt 23, 3) := by decide +kernel
theorem dX8_choose_22 : decode cX8_choose 22 = .ok (.lload_n 2, 1) := by decide +kernel
theorem dX8_choose_23 : decode cX8_choose 23 = .ok (.iload_n 0, 1) := by decide +kernel
theorem dX8_choose_24 : decode cX8_choose 24 = .ok (.iload_n 1, 1) := by decide +kernel
theorem dX8_choose_25 : decode cX8_choose 25 = .ok (.isub, 1) := by decide +kernel
theorem dX8_choose_26 : decode cX8_choose 26 = .ok (.iload 4, 2) := by decide +kernel
theorem dX8_choose_28 : decode cX8_choose 28 = .ok (.iadd, 1) := by decide +kernel
theorem dX8_choose_29 : decode cX8_choose 29 = .ok (.i2l, 1) := by decide +kernel
theorem dX8_choose_30 : decode cX8_choose 30 = .ok (.lmul, 1) := by decide +kernel
theorem dX8_choose_31 : decode cX8_choose 31 = .ok (.iload 4, 2) := by decide +kernel
theorem dX8_choose_33 : decode cX8_choose 33 = .ok (.i2l, 1) := by decide +kernel
theorem dX8_choose_34 : decode cX8_choose 34 = .ok (.ldiv, 1) := by decide +kernel
theorem dX8_choose_35 : decode cX8_choose 35 = .ok (.lstore_n 2, 1) := by decide +kernel
theorem dX8_choose_36 : decode cX8_choose 36 = .ok (.iinc 4 1, 3) := by decide +kernel
theorem dX8_choose_39 : decode cX8_choose 39 = .ok (.goto (-23), 3) := by decide +kernel
theorem dX8_choose_42 : decode cX8_choose 42 = .ok (.lload_n 2, 1) := by decide +kernel
theorem dX8_choose_43 : decode cX8_choose 43 = .ok (.lreturn, 1) := by decide +kernel
theorem dX8_ways_0 : decode cX8_ways 0 = .ok (.lconst 0, 1) := by decide +kernel
theorem dX8_ways_1 : decode cX8_ways 1 = .ok (.lstore 5, 2) := by decide +kernel
theorem dX8_ways_3 : decode cX8_ways 3 = .ok (.iload_n 3, 1) := by decide +kernel
theorem dX8_ways_4 : decode cX8_ways 4 = .ok (.istore 7, 2) := by decide +kernel
theorem dX8_ways_6 : decode cX8_ways 6 = .ok (.iload 7, 2) := by decide +kernel
theorem dX8_ways_8 : decode cX8_ways 8 = .ok (.iload 4, 2) := by decide +kernel
theorem dX8_ways_10 : decode cX8_ways 10 = .ok (.if_icmp .gt 31, 3) := by decide +kernel
theorem dX8_ways_13 : decode cX8_ways 13 = .ok (.lload 5, 2) := by decide +kernel
theorem dX8_ways_15 : decode cX8_ways 15 = .ok (.iload_n 1, 1) := by decide +kernel
theorem dX8_ways_16 : decode cX8_ways 16 = .ok (.iload 7, 2) := by decide +kernel
theorem dX8_ways_18 : decode cX8_ways 18 = .ok (.invokestatic 7, 3) := by decide +kernel
theorem dX8_ways_21 : decode cX8_ways 21 = .ok (.iload_n 0, 1) := by decide +kernel
theorem dX8_ways_22 : decode cX8_ways 22 = .ok (.iload_n 1, 1) := by decide +kernel
theorem dX8_ways_23 : decode cX8_ways 23 = .ok (.isub, 1) := by decide +kernel
theorem dX8_ways_24 : decode cX8_ways 24 = .ok (.iload_n 2, 1) := by decide +kernel
theorem dX8_ways_25 : decode cX8_ways 25 = .ok (.iload 7, 2) := by decide +kernel
theorem dX8_ways_27 : decode cX8_ways 27 = .ok (.isub, 1) := by decide +kernel
theorem dX8_ways_28 : decode cX8_ways 28 = .ok (.invokestatic 7, 3) := by decide +kernel
theorem dX8_ways_31 : decode cX8_ways 31 = .ok (.lmul, 1) := by decide +kernel
theorem dX8_ways_32 : decode cX8_ways 32 = .ok (.ladd, 1) := by decide +kernel
theorem dX8_ways_33 : decode cX8_ways 33 = .ok (.lstore 5, 2) := by decide +kernel
theorem dX8_ways_35 : decode cX8_ways 35 = .ok (.iinc 7 1, 3) := by decide +kernel
theorem dX8_ways_38 : decode cX8_ways 38 = .ok (.goto (-32), 3) := by decide +kernel
theorem dX8_ways_41 : decode cX8_ways 41 = .ok (.lload 5, 2) := by decide +kernel
theorem dX8_ways_43 : decode cX8_ways 43 = .ok (.lreturn, 1) := by decide +kernel
theorem dX8_chanceOfMany_0 : decode cX8_chanceOfMany 0 = .ok (.iload_n 0, 1) := by decide +kernel
theorem dX8_chanceOfMany_1 : decode cX8_chanceOfMany 1 = .ok (.iload_n 2, 1) := by decide +kernel
theorem dX8_chanceOfMany_2 : decode cX8_chanceOfMany 2 = .ok (.invokestatic 7, 3) := by decide +kernel
theorem dX8_chanceOfMany_5 : decode cX8_chanceOfMany 5 = .ok (.lstore 4, 2) := by decide +kernel
theorem dX8_chanceOfMany_7 : decode cX8_chanceOfMany 7 = .ok (.iload_n 2, 1) := by decide +kernel
theorem dX8_chanceOfMany_8 : decode cX8_chanceOfMany 8 = .ok (.ifCond .eq 10, 3) := by decide +kernel
theorem dX8_chanceOfMany_11 : decode cX8_chanceOfMany 11 = .ok (.lload 4, 2) := by decide +kernel
theorem dX8_chanceOfMany_13 : decode cX8_chanceOfMany 13 = .ok (.lconst 0, 1) := by decide +kernel
theorem dX8_chanceOfMany_14 : decode cX8_chanceOfMany 14 = .ok (.lcmp, 1) := by decide +kernel
theorem dX8_chanceOfMany_15 : decode cX8_chanceOfMany 15 = .ok (.ifCond .ne 7, 3) := by decide +kernel
theorem dX8_chanceOfMany_18 : decode cX8_chanceOfMany 18 = .ok (.sipush 10000, 3) := by decide +kernel
theorem dX8_chanceOfMany_21 : decode cX8_chanceOfMany 21 = .ok (.ireturn, 1) := by decide +kernel
theorem dX8_chanceOfMany_22 : decode cX8_chanceOfMany 22 = .ok (.iload_n 0, 1) := by decide +kernel
theorem dX8_chanceOfMany_23 : decode cX8_chanceOfMany 23 = .ok (.iload_n 1, 1) := by decide +kernel
theorem dX8_chanceOfMany_24 : decode cX8_chanceOfMany 24 = .ok (.iload_n 2, 1) := by decide +kernel
theorem dX8_chanceOfMany_25 : decode cX8_chanceOfMany 25 = .ok (.iload_n 3, 1) := by decide +kernel
theorem dX8_chanceOfMany_26 : decode cX8_chanceOfMany 26 = .ok (.iload_n 2, 1) := by decide +kernel
theorem dX8_chanceOfMany_27 : decode cX8_chanceOfMany 27 = .ok (.invokestatic 13, 3) := by decide +kernel
theorem dX8_chanceOfMany_30 : decode cX8_chanceOfMany 30 = .ok (.lstore 6, 2) := by decide +kernel
theorem dX8_chanceOfMany_32 : decode cX8_chanceOfMany 32 = .ok (.lload 6, 2) := by decide +kernel
theorem dX8_chanceOfMany_34 : decode cX8_chanceOfMany 34 = .ok (.ldc2_w 17, 3) := by decide +kernel
theorem dX8_chanceOfMany_37 : decode cX8_chanceOfMany 37 = .ok (.lmul, 1) := by decide +kernel
theorem dX8_chanceOfMany_38 : decode cX8_chanceOfMany 38 = .ok (.lload 4, 2) := by decide +kernel
theorem dX8_chanceOfMany_40 : decode cX8_chanceOfMany 40 = .ok (.ladd, 1) := by decide +kernel
theorem dX8_chanceOfMany_41 : decode cX8_chanceOfMany 41 = .ok (.lconst 1, 1) := by decide +kernel
theorem dX8_chanceOfMany_42 : decode cX8_chanceOfMany 42 = .ok (.lsub, 1) := by decide +kernel
theorem dX8_chanceOfMany_43 : decode cX8_chanceOfMany 43 = .ok (.lload 4, 2) := by decide +kernel
theorem dX8_chanceOfMany_45 : decode cX8_chanceOfMany 45 = .ok (.ldiv, 1) := by decide +kernel
theorem dX8_chanceOfMany_46 : decode cX8_chanceOfMany 46 = .ok (.l2i, 1) := by decide +kernel
theorem dX8_chanceOfMany_47 : decode cX8_chanceOfMany 47 = .ok (.ireturn, 1) := by decide +kernel
theorem dX8_leastFalse_0 : decode cX8_leastFalse 0 = .ok (.iload_n 0, 1) := by decide +kernel
theorem dX8_leastFalse_1 : decode cX8_leastFalse 1 = .ok (.iload_n 1, 1) := by decide +kernel
theorem dX8_leastFalse_2 : decode cX8_leastFalse 2 = .ok (.invokestatic 7, 3) := by decide +kernel
theorem dX8_leastFalse_5 : decode cX8_leastFalse 5 = .ok (.lstore 4, 2) := by decide +kernel
theorem dX8_leastFalse_7 : decode cX8_leastFalse 7 = .ok (.iload_n 2, 1) := by decide +kernel
theorem dX8_leastFalse_8 : decode cX8_leastFalse 8 = .ok (.istore 6, 2) := by decide +kernel
theorem dX8_leastFalse_10 : decode cX8_leastFalse 10 = .ok (.iload 6, 2) := by decide +kernel
theorem dX8_leastFalse_12 : decode cX8_leastFalse 12 = .ok (.iload_n 0, 1) := by decide +kernel
theorem dX8_leastFalse_13 : decode cX8_leastFalse 13 = .ok (.iload_n 1, 1) := by decide +kernel
theorem dX8_leastFalse_14 : decode cX8_leastFalse 14 = .ok (.isub, 1) := by decide +kernel
theorem dX8_leastFalse_15 : decode cX8_leastFalse 15 = .ok (.iload_n 2, 1) := by decide +kernel
theorem dX8_leastFalse_16 : decode cX8_leastFalse 16 = .ok (.iadd, 1) := by decide +kernel
theorem dX8_leastFalse_17 : decode cX8_leastFalse 17 = .ok (.if_icmp .ge 31, 3) := by decide +kernel
theorem dX8_leastFalse_20 : decode cX8_leastFalse 20 = .ok (.iload_n 0, 1) := by decide +kernel
theorem dX8_leastFalse_21 : decode cX8_leastFalse 21 = .ok (.iload 6, 2) := by decide +kernel
theorem dX8_leastFalse_23 : decode cX8_leastFalse 23 = .ok (.iload_n 1, 1) := by decide +kernel
theorem dX8_leastFalse_24 : decode cX8_leastFalse 24 = .ok (.iload_n 2, 1) := by decide +kernel
theorem dX8_leastFalse_25 : decode cX8_leastFalse 25 = .ok (.iload_n 1, 1) := by decide +kernel
theorem dX8_leastFalse_26 : decode cX8_leastFalse 26 = .ok (.invokestatic 13, 3) := by decide +kernel
theorem dX8_leastFalse_29 : decode cX8_leastFalse 29 = .ok (.ldc2_w 19, 3) := by decide +kernel
theorem dX8_leastFalse_32 : decode cX8_leastFalse 32 = .ok (.lmul, 1) := by decide +kernel
theorem dX8_leastFalse_33 : decode cX8_leastFalse 33 = .ok (.iload_n 3, 1) := by decide +kernel
theorem dX8_leastFalse_34 : decode cX8_leastFalse 34 = .ok (.i2l, 1) := by decide +kernel
theorem dX8_leastFalse_35 : decode cX8_leastFalse 35 = .ok (.lload 4, 2) := by decide +kernel
theorem dX8_leastFalse_37 : decode cX8_leastFalse 37 = .ok (.lmul, 1) := by decide +kernel
theorem dX8_leastFalse_38 : decode cX8_leastFalse 38 = .ok (.lcmp, 1) := by decide +kernel
theorem dX8_leastFalse_39 : decode cX8_leastFalse 39 = .ok (.ifCond .ge 9, 3) := by decide +kernel
theorem dX8_leastFalse_42 : decode cX8_leastFalse 42 = .ok (.iinc 6 1, 3) := by decide +kernel
theorem dX8_leastFalse_45 : decode cX8_leastFalse 45 = .ok (.goto (-35), 3) := by decide +kernel
theorem dX8_leastFalse_48 : decode cX8_leastFalse 48 = .ok (.iload 6, 2) := by decide +kernel
theorem dX8_leastFalse_50 : decode cX8_leastFalse 50 = .ok (.ireturn, 1) := by decide +kernel
theorem dX8_greatestFalse_0 : decode cX8_greatestFalse 0 = .ok (.iload_n 0, 1) := by decide +kernel
theorem dX8_greatestFalse_1 : decode cX8_greatestFalse 1 = .ok (.iload_n 1, 1) := by decide +kernel
theorem dX8_greatestFalse_2 : decode cX8_greatestFalse 2 = .ok (.invokestatic 7, 3) := by decide +kernel
theorem dX8_greatestFalse_5 : decode cX8_greatestFalse 5 = .ok (.lstore 4, 2) := by decide +kernel
theorem dX8_greatestFalse_7 : decode cX8_greatestFalse 7 = .ok (.iload_n 0, 1) := by decide +kernel
theorem dX8_greatestFalse_8 : decode cX8_greatestFalse 8 = .ok (.iload_n 1, 1) := by decide +kernel
theorem dX8_greatestFalse_9 : decode cX8_greatestFalse 9 = .ok (.isub, 1) := by decide +kernel
theorem dX8_greatestFalse_10 : decode cX8_greatestFalse 10 = .ok (.iload_n 2, 1) := by decide +kernel
theorem dX8_greatestFalse_11 : decode cX8_greatestFalse 11 = .ok (.iadd, 1) := by decide +kernel
theorem dX8_greatestFalse_12 : decode cX8_greatestFalse 12 = .ok (.istore 6, 2) := by decide +kernel
theorem dX8_greatestFalse_14 : decode cX8_greatestFalse 14 = .ok (.iload 6, 2) := by decide +kernel
theorem dX8_greatestFalse_16 : decode cX8_greatestFalse 16 = .ok (.iload_n 2, 1) := by decide +kernel
theorem dX8_greatestFalse_17 : decode cX8_greatestFalse 17 = .ok (.if_icmp .le 31, 3) := by decide +kernel
theorem dX8_greatestFalse_20 : decode cX8_greatestFalse 20 = .ok (.iload_n 0, 1) := by decide +kernel
theorem dX8_greatestFalse_21 : decode cX8_greatestFalse 21 = .ok (.iload 6, 2) := by decide +kernel
theorem dX8_greatestFalse_23 : decode cX8_greatestFalse 23 = .ok (.iload_n 1, 1) := by decide +kernel
theorem dX8_greatestFalse_24 : decode cX8_greatestFalse 24 = .ok (.iconst 0, 1) := by decide +kernel
theorem dX8_greatestFalse_25 : decode cX8_greatestFalse 25 = .ok (.iload_n 2, 1) := by decide +kernel
theorem dX8_greatestFalse_26 : decode cX8_greatestFalse 26 = .ok (.invokestatic 13, 3) := by decide +kernel
theorem dX8_greatestFalse_29 : decode cX8_greatestFalse 29 = .ok (.ldc2_w 19, 3) := by decide +kernel
theorem dX8_greatestFalse_32 : decode cX8_greatestFalse 32 = .ok (.lmul, 1) := by decide +kernel
theorem dX8_greatestFalse_33 : decode cX8_greatestFalse 33 = .ok (.iload_n 3, 1) := by decide +kernel
theorem dX8_greatestFalse_34 : decode cX8_greatestFalse 34 = .ok (.i2l, 1) := by decide +kernel
theorem dX8_greatestFalse_35 : decode cX8_greatestFalse 35 = .ok (.lload 4, 2) := by decide +kernel
theorem dX8_greatestFalse_37 : decode cX8_greatestFalse 37 = .ok (.lmul, 1) := by decide +kernel
theorem dX8_greatestFalse_38 : decode cX8_greatestFalse 38 = .ok (.lcmp, 1) := by decide +kernel
theorem dX8_greatestFalse_39 : decode cX8_greatestFalse 39 = .ok (.ifCond .ge 9, 3) := by decide +kernel
theorem dX8_greatestFalse_42 : decode cX8_greatestFalse 42 = .ok (.iinc 6 (-1), 3) := by decide +kernel
theorem dX8_greatestFalse_45 : decode cX8_greatestFalse 45 = .ok (.goto (-31), 3) := by decide +kernel
theorem dX8_greatestFalse_48 : decode cX8_greatestFalse 48 = .ok (.iload 6, 2) := by decide +kernel
theorem dX8_greatestFalse_50 : decode cX8_greatestFalse 50 = .ok (.ireturn, 1) := by decide +kernel
theorem dX9_init_0 : decode cX9_init 0 = .ok (.aload_n 0, 1) := by decide +kernel
theorem dX9_init_1 : decode cX9_init 1 = .ok (.invokespecial 3, 3) := by decide +kernel
theorem dX9_init_4 : decode cX9_init 4 = .ok (.aload_n 0, 1) := by decide +kernel
theorem dX9_init_5 : decode cX9_init 5 = .ok (.bipush 10, 2) := by decide +kernel
theorem dX9_init_7 : decode cX9_init 7 = .ok (.anewarray 9, 3) := by decide +kernel
theorem dX9_init_10 : decode cX9_init 10 = .ok (.putfield 11, 3) := by decide +kernel
theorem dX9_init_13 : decode cX9_init 13 = .ok (.return_, 1) := by decide +kernel
theorem dX9_isFull_0 : decode cX9_isFull 0 = .ok (.aload_n 0, 1) := by decide +kernel
theorem dX9_isFull_1 : decode cX9_isFull 1 = .ok (.getfield 17, 3) := by decide +kernel
theorem dX9_isFull_4 : decode cX9_isFull 4 = .ok (.bipush 10, 2) := by decide +kernel
theorem dX9_isFull_6 : decode cX9_isFull 6 = .ok (.if_icmp .lt 7, 3) := by decide +kernel
theorem dX9_isFull_9 : decode cX9_isFull 9 = .ok (.iconst 1, 1) := by decide +kernel
theorem dX9_isFull_10 : decode cX9_isFull 10 = .ok (.goto 4, 3) := by decide +kernel
theorem dX9_isFull_13 : decode cX9_isFull 13 = .ok (.iconst 0, 1) := by decide +kernel
theorem dX9_isFull_14 : decode cX9_isFull 14 = .ok (.ireturn, 1) := by decide +kernel
theorem dX9_add_0 : decode cX9_add 0 = .ok (.aload_n 0, 1) := by decide +kernel
theorem dX9_add_1 : decode cX9_add 1 = .ok (.getfield 17, 3) := by decide +kernel
theorem dX9_add_4 : decode cX9_add 4 = .ok (.bipush 10, 2) := by decide +kernel
theorem dX9_add_6 : decode cX9_add 6 = .ok (.if_icmp .lt 6, 3) := by decide +kernel
theorem dX9_add_9 : decode cX9_add 9 = .ok (.bipush (-2), 2) := by decide +kernel
theorem dX9_add_11 : decode cX9_add 11 = .ok (.ireturn, 1) := by decide +kernel
theorem dX9_add_12 : decode cX9_add 12 = .ok (.aload_n 0, 1) := by decide +kernel
theorem dX9_add_13 : decode cX9_add 13 = .ok (.getfield 11, 3) := by decide +kernel
theorem dX9_add_16 : decode cX9_add 16 = .ok (.aload_n 0, 1) := by decide +kernel
theorem dX9_add_17 : decode cX9_add 17 = .ok (.getfield 17, 3) := by decide +kernel
theorem dX9_add_20 : decode cX9_add 20 = .ok (.aload_n 1, 1) := by decide +kernel
theorem dX9_add_21 : decode cX9_add 21 = .ok (.aastore, 1) := by decide +kernel
theorem dX9_add_22 : decode cX9_add 22 = .ok (.aload_n 0, 1) := by decide +kernel
theorem dX9_add_23 : decode cX9_add 23 = .ok (.dup, 1) := by decide +kernel
theorem dX9_add_24 : decode cX9_add 24 = .ok (.getfield 17, 3) := by decide +kernel
theorem dX9_add_27 : decode cX9_add 27 = .ok (.iconst 1, 1) := by decide +kernel
theorem dX9_add_28 : decode cX9_add 28 = .ok (.iadd, 1) := by decide +kernel
theorem dX9_add_29 : decode cX9_add 29 = .ok (.putfield 17, 3) := by decide +kernel
theorem dX9_add_32 : decode cX9_add 32 = .ok (.aload_n 0, 1) := by decide +kernel
theorem dX9_add_33 : decode cX9_add 33 = .ok (.getfield 17, 3) := by decide +kernel
theorem dX9_add_36 : decode cX9_add 36 = .ok (.iconst 1, 1) := by decide +kernel
theorem dX9_add_37 : decode cX9_add 37 = .ok (.isub, 1) := by decide +kernel
theorem dX9_add_38 : decode cX9_add 38 = .ok (.ireturn, 1) := by decide +kernel
theorem dX9_at_0 : decode cX9_at 0 = .ok (.iload_n 1, 1) := by decide +kernel
theorem dX9_at_1 : decode cX9_at 1 = .ok (.aload_n 0, 1) := by decide +kernel
theorem dX9_at_2 : decode cX9_at 2 = .ok (.getfield 17, 3) := by decide +kernel
theorem dX9_at_5 : decode cX9_at 5 = .ok (.invokestatic 21, 3) := by decide +kernel
theorem dX9_at_8 : decode cX9_at 8 = .ok (.ifCond .eq 12, 3) := by decide +kernel
theorem dX9_at_11 : decode cX9_at 11 = .ok (.aload_n 0, 1) := by decide +kernel
theorem dX9_at_12 : decode cX9_at 12 = .ok (.getfield 11, 3) := by decide +kernel
theorem dX9_at_15 : decode cX9_at 15 = .ok (.iload_n 1, 1) := by decide +kernel
theorem dX9_at_16 : decode cX9_at 16 = .ok (.aaload, 1) := by decide +kernel
theorem dX9_at_17 : decode cX9_at 17 = .ok (.goto 4, 3) := by decide +kernel
theorem dX9_at_20 : decode cX9_at 20 = .ok (.aconst_null, 1) := by decide +kernel
theorem dX9_at_21 : decode cX9_at 21 = .ok (.areturn, 1) := by decide +kernel
theorem dX9_holding_0 : decode cX9_holding 0 = .ok (.aload_n 0, 1) := by decide +kernel
theorem dX9_holding_1 : decode cX9_holding 1 = .ok (.getfield 17, 3) := by decide +kernel
theorem dX9_holding_4 : decode cX9_holding 4 = .ok (.iconst 1, 1) := by decide +kernel
theorem dX9_holding_5 : decode cX9_holding 5 = .ok (.isub, 1) := by decide +kernel
theorem dX9_holding_6 : decode cX9_holding 6 = .ok (.istore_n 3, 1) := by decide +kernel
theorem dX9_holding_7 : decode cX9_holding 7 = .ok (.iload_n 3, 1) := by decide +kernel
theorem dX9_holding_8 : decode cX9_holding 8 = .ok (.ifCond .lt 40, 3) := by decide +kernel
theorem dX9_holding_11 : decode cX9_holding 11 = .ok (.aload_n 0, 1) := by decide +kernel
theorem dX9_holding_12 : decode cX9_holding 12 = .ok (.getfield 11, 3) := by decide +kernel
theorem dX9_holding_15 : decode cX9_holding 15 = .ok (.iload_n 3, 1) := by decide +kernel
theorem dX9_holding_16 : decode cX9_holding 16 = .ok (.aaload, 1) := by decide +kernel
theorem dX9_holding_17 : decode cX9_holding 17 = .ok (.getfield 25, 3) := by decide +kernel
theorem dX9_holding_20 : decode cX9_holding 20 = .ok (.iload_n 2, 1) := by decide +kernel
theorem dX9_holding_21 : decode cX9_holding 21 = .ok (.if_icmp .gt 21, 3) := by decide +kernel
theorem dX9_holding_24 : decode cX9_holding 24 = .ok (.aload_n 0, 1) := by decide +kernel
theorem dX9_holding_25 : decode cX9_holding 25 = .ok (.getfield 11, 3) := by decide +kernel
theorem dX9_holding_28 : decode cX9_holding 28 = .ok (.iload_n 3, 1) := by decide +kernel
theorem dX9_holding_29 : decode cX9_holding 29 = .ok (.aaload, 1) := by decide +kernel
theorem dX9_holding_30 : decode cX9_holding 30 = .ok (.getfield 28, 3) := by decide +kernel
theorem dX9_holding_33 : decode cX9_holding 33 = .ok (.aload_n 1, 1) := by decide +kernel
theorem dX9_holding_34 : decode cX9_holding 34 = .ok (.getfield 31, 3) := by decide +kernel
theorem dX9_holding_37 : decode cX9_holding 37 = .ok (.if_icmp .gt 5, 3) := by decide +kernel
theorem dX9_holding_40 : decode cX9_holding 40 = .ok (.iload_n 3, 1) := by decide +kernel
theorem dX9_holding_41 : decode cX9_holding 41 = .ok (.ireturn, 1) := by decide +kernel
theorem dX9_holding_42 : decode cX9_holding 42 = .ok (.iinc 3 (-1), 3) := by decide +kernel
theorem dX9_holding_45 : decode cX9_holding 45 = .ok (.goto (-38), 3) := by decide +kernel
theorem dX9_holding_48 : decode cX9_holding 48 = .ok (.bipush (-4), 2) := by decide +kernel
theorem dX9_holding_50 : decode cX9_holding 50 = .ok (.ireturn, 1) := by decide +kernel
theorem dX10_init_0 : decode cX10_init 0 = .ok (.aload_n 0, 1) := by decide +kernel
theorem dX10_init_1 : decode cX10_init 1 = .ok (.invokespecial 3, 3) := by decide +kernel
theorem dX10_init_4 : decode cX10_init 4 = .ok (.aload_n 0, 1) := by decide +kernel
theorem dX10_init_5 : decode cX10_init 5 = .ok (.aload_n 1, 1) := by decide +kernel
theorem dX10_init_6 : decode cX10_init 6 = .ok (.putfield 9, 3) := by decide +kernel
theorem dX10_init_9 : decode cX10_init 9 = .ok (.aload_n 0, 1) := by decide +kernel
theorem dX10_init_10 : decode cX10_init 10 = .ok (.iload_n 2, 1) := by decide +kernel
theorem dX10_init_11 : decode cX10_init 11 = .ok (.putfield 15, 3) := by decide +kernel
theorem dX10_init_14 : decode cX10_init 14 = .ok (.aload_n 0, 1) := by decide +kernel
theorem dX10_init_15 : decode cX10_init 15 = .ok (.iload_n 3, 1) := by decide +kernel
theorem dX10_init_16 : decode cX10_init 16 = .ok (.putfield 19, 3) := by decide +kernel
theorem dX10_init_19 : decode cX10_init 19 = .ok (.return_, 1) := by decide +kernel
theorem dX10_length_0 : decode cX10_length 0 = .ok (.aload_n 0, 1) := by decide +kernel
theorem dX10_length_1 : decode cX10_length 1 = .ok (.getfield 9, 3) := by decide +kernel
theorem dX10_length_4 : decode cX10_length 4 = .ok (.arraylength, 1) := by decide +kernel
theorem dX10_length_5 : decode cX10_length 5 = .ok (.ireturn, 1) := by decide +kernel
theorem dX10_at_0 : decode cX10_at 0 = .ok (.iload_n 1, 1) := by decide +kernel
theorem dX10_at_1 : decode cX10_at 1 = .ok (.ifCond .lt 21, 3) := by decide +kernel
theorem dX10_at_4 : decode cX10_at 4 = .ok (.iload_n 1, 1) := by decide +kernel
theorem dX10_at_5 : decode cX10_at 5 = .ok (.aload_n 0, 1) := by decide +kernel
theorem dX10_at_6 : decode cX10_at 6 = .ok (.getfield 9, 3) := by decide +kernel
theorem dX10_at_9 : decode cX10_at 9 = .ok (.arraylength, 1) := by decide +kernel
theorem dX10_at_10 : decode cX10_at 10 = .ok (.if_icmp .ge 12, 3) := by decide +kernel
theorem dX10_at_13 : decode cX10_at 13 = .ok (.aload_n 0, 1) := by decide +kernel
theorem dX10_at_14 : decode cX10_at 14 = .ok (.getfield 9, 3) := by decide +kernel
theorem dX10_at_17 : decode cX10_at 17 = .ok (.iload_n 1, 1) := by decide +kernel
theorem dX10_at_18 : decode cX10_at 18 = .ok (.iaload, 1) := by decide +kernel
theorem dX10_at_19 : decode cX10_at 19 = .ok (.goto 4, 3) := by decide +kernel
theorem dX10_at_22 : decode cX10_at 22 = .ok (.iconst (-1), 1) := by decide +kernel
theorem dX10_at_23 : decode cX10_at 23 = .ok (.ireturn, 1) := by decide +kernel
theorem dX11_init_0 : decode cX11_init 0 = .ok (.aload_n 0, 1) := by decide +kernel
theorem dX11_init_1 : decode cX11_init 1 = .ok (.invokespecial 1, 3) := by decide +kernel
theorem dX11_init_4 : decode cX11_init 4 = .ok (.aload_n 0, 1) := by decide +kernel
theorem dX11_init_5 : decode cX11_init 5 = .ok (.bipush 40, 2) := by decide +kernel
theorem dX11_init_7 : decode cX11_init 7 = .ok (.anewarray 9, 3) := by decide +kernel
theorem dX11_init_10 : decode cX11_init 10 = .ok (.putfield 11, 3) := by decide +kernel
theorem dX11_init_13 : decode cX11_init 13 = .ok (.aload_n 0, 1) := by decide +kernel
theorem dX11_init_14 : decode cX11_init 14 = .ok (.bipush 20, 2) := by decide +kernel
theorem dX11_init_16 : decode cX11_init 16 = .ok (.anewarray 15, 3) := by decide +kernel
theorem dX11_init_19 : decode cX11_init 19 = .ok (.putfield 17, 3) := by decide +kernel
theorem dX11_init_22 : decode cX11_init 22 = .ok (.aload_n 0, 1) := by decide +kernel
theorem dX11_init_23 : decode cX11_init 23 = .ok (.sipush 200, 3) := by decide +kernel
theorem dX11_init_26 : decode cX11_init 26 = .ok (.anewarray 21, 3) := by decide +kernel
theorem dX11_init_29 : decode cX11_init 29 = .ok (.putfield 23, 3) := by decide +kernel
theorem dX11_init_32 : decode cX11_init 32 = .ok (.aload_n 0, 1) := by decide +kernel
theorem dX11_init_33 : decode cX11_init 33 = .ok (.bipush 14, 2) := by decide +kernel
theorem dX11_init_35 : decode cX11_init 35 = .ok (.putfield 27, 3) := by decide +kernel
theorem dX11_init_38 : decode cX11_init 38 = .ok (.aload_n 0, 1) := by decide +kernel
theorem dX11_init_39 : decode cX11_init 39 = .ok (.bipush 100, 2) := by decide +kernel
theorem dX11_init_41 : decode cX11_init 41 = .ok (.putfield 31, 3) := by decide +kernel
theorem dX11_init_44 : decode cX11_init 44 = .ok (.aload_n 0, 1) := by decide +kernel
theorem dX11_init_45 : decode cX11_init 45 = .ok (.iconst 1, 1) := by decide +kernel
theorem dX11_init_46 : decode cX11_init 46 = .ok (.putfield 34, 3) := by decide +kernel
theorem dX11_init_49 : decode cX11_init 49 = .ok (.aload_n 0, 1) := by decide +kernel
theorem dX11_init_50 : decode cX11_init 50 = .ok (.sipush 160, 3) := by decide +kernel
theorem dX11_init_53 : decode cX11_init 53 = .ok (.newarray .int, 2) := by decide +kernel
theorem dX11_init_55 : decode cX11_init 55 = .ok (.putfield 37, 3) := by decide +kernel
theorem dX11_init_58 : decode cX11_init 58 = .ok (.aload_n 0, 1) := by decide +kernel
theorem dX11_init_59 : decode cX11_init 59 = .ok (.new 41, 3) := by decide +kernel
theorem dX11_init_62 : decode cX11_init 62 = .ok (.dup, 1) := by decide +kernel
theorem dX11_init_63 : decode cX11_init 63 = .ok (.invokespecial 43, 3) := by decide +kernel
theorem dX11_init_66 : decode cX11_init 66 = .ok (.putfield 44, 3) := by decide +kernel
theorem dX11_init_69 : decode cX11_init 69 = .ok (.aload_n 0, 1) := by decide +kernel
theorem dX11_init_70 : decode cX11_init 70 = .ok (.new 41, 3) := by decide +kernel
theorem dX11_init_73 : decode cX11_init 73 = .ok (.dup, 1) := by decide +kernel
theorem dX11_init_74 : decode cX11_init 74 = .ok (.invokespecial 43, 3) := by decide +kernel
theorem dX11_init_77 : decode cX11_init 77 = .ok (.putfield 48, 3) := by decide +kernel
theorem dX11_init_80 : decode cX11_init 80 = .ok (.aload_n 0, 1) := by decide +kernel
theorem dX11_init_81 : decode cX11_init 81 = .ok (.new 51, 3) := by decide +kernel
theorem dX11_init_84 : decode cX11_init 84 = .ok (.dup, 1) := by decide +kernel
theorem dX11_init_85 : decode cX11_init 85 = .ok (.invokespecial 53, 3) := by decide +kernel
theorem dX11_init_88 : decode cX11_init 88 = .ok (.putfield 54, 3) := by decide +kernel
theorem dX11_init_91 : decode cX11_init 91 = .ok (.aload_n 0, 1) := by decide +kernel
theorem dX11_init_92 : decode cX11_init 92 = .ok (.new 58, 3) := by decide +kernel
theorem dX11_init_95 : decode cX11_init 95 = .ok (.dup, 1) := by decide +kernel
theorem dX11_init_96 : decode cX11_init 96 = .ok (.invokespecial 60, 3) := by decide +kernel
theorem dX11_init_99 : decode cX11_init 99 = .ok (.putfield 61, 3) := by decide +kernel
theorem dX11_init_102 : decode cX11_init 102 = .ok (.aload_n 0, 1) := by decide +kernel
theorem dX11_init_103 : decode cX11_init 103 = .ok (.new 65, 3) := by decide +kernel
theorem dX11_init_106 : decode cX11_init 106 = .ok (.dup, 1) := by decide +kernel
theorem dX11_init_107 : decode cX11_init 107 = .ok (.invokespecial 67, 3) := by decide +kernel
theorem dX11_init_110 : decode cX11_init 110 = .ok (.putfield 68, 3) := by decide +kernel
theorem dX11_init_113 : decode cX11_init 113 = .ok (.aload_n 0, 1) := by decide +kernel
theorem dX11_init_114 : decode cX11_init 114 = .ok (.bipush 10, 2) := by decide +kernel
theorem dX11_init_116 : decode cX11_init 116 = .ok (.newarray .int, 2) := by decide +kernel
theorem dX11_init_118 : decode cX11_init 118 = .ok (.putfield 72, 3) := by decide +kernel
theorem dX11_init_121 : decode cX11_init 121 = .ok (.aload_n 0, 1) := by decide +kernel
theorem dX11_init_122 : decode cX11_init 122 = .ok (.bipush 40, 2) := by decide +kernel
theorem dX11_init_124 : decode cX11_init 124 = .ok (.newarray .boolean, 2) := by decide +kernel
theorem dX11_init_126 : decode cX11_init 126 = .ok (.putfield 75, 3) := by decide +kernel
theorem dX11_init_129 : decode cX11_init 129 = .ok (.return_, 1) := by decide +kernel
theorem dX11_days_0 : decode cX11_days 0 = .ok (.iload_n 1, 1) := by decide +kernel
theorem dX11_days_1 : decode cX11_days 1 = .ok (.iconst 1, 1) := by decide +kernel
theorem dX11_days_2 : decode cX11_days 2 = .ok (.if_icmp .lt 22, 3) := by decide +kernel
theorem dX11_days_5 : decode cX11_days 5 = .ok (.iload_n 1, 1) := by decide +kernel
theorem dX11_days_6 : decode cX11_days 6 = .ok (.sipush 360, 3) := by decide +kernel
theorem dX11_days_9 : decode cX11_days 9 = .ok (.if_icmp .gt 15, 3) := by decide +kernel
theorem dX11_days_12 : decode cX11_days 12 = .ok (.aload_n 0, 1) := by decide +kernel
theorem dX11_days_13 : decode cX11_days 13 = .ok (.getfield 79, 3) := by decide +kernel
theorem dX11_days_16 : decode cX11_days 16 = .ok (.iload_n 1, 1) := by decide +kernel
theorem dX11_days_17 : decode cX11_days 17 = .ok (.iadd, 1) := by decide +kernel
theorem dX11_days_18 : decode cX11_days 18 = .ok (.sipush 9999, 3) := by decide +kernel
theorem dX11_days_21 : decode cX11_days 21 = .ok (.if_icmp .le 5, 3) := by decide +kernel
theorem dX11_days_24 : decode cX11_days 24 = .ok (.iconst (-1), 1) := by decide +kernel
theorem dX11_days_25 : decode cX11_days 25 = .ok (.ireturn, 1) := by decide +kernel
theorem dX11_days_26 : decode cX11_days 26 = .ok (.aload_n 0, 1) := by decide +kernel
theorem dX11_days_27 : decode cX11_days 27 = .ok (.dup, 1) := by decide +kernel
theorem dX11_days_28 : decode cX11_days 28 = .ok (.getfield 79, 3) := by decide +kernel
theorem dX11_days_31 : decode cX11_days 31 = .ok (.iload_n 1, 1) := by decide +kernel
theorem dX11_days_32 : decode cX11_days 32 = .ok (.iadd, 1) := by decide +kernel
theorem dX11_days_33 : decode cX11_days 33 = .ok (.putfield 79, 3) := by decide +kernel
theorem dX11_days_36 : decode cX11_days 36 = .ok (.aload_n 0, 1) := by decide +kernel
theorem dX11_days_37 : decode cX11_days 37 = .ok (.getfield 79, 3) := by decide +kernel
theorem dX11_days_40 : decode cX11_days 40 = .ok (.ireturn, 1) := by decide +kernel
theorem dX11_home_0 : decode cX11_home 0 = .ok (.iload_n 1, 1) := by decide +kernel
theorem dX11_home_1 : decode cX11_home 1 = .ok (.sipush 800, 3) := by decide +kernel
theorem dX11_home_4 : decode cX11_home 4 = .ok (.invokestatic 82, 3) := by decide +kernel
theorem dX11_home_7 : decode cX11_home 7 = .ok (.ifCond .eq 26, 3) := by decide +kernel
theorem dX11_home_10 : decode cX11_home 10 = .ok (.iload_n 2, 1) := by decide +kernel
theorem dX11_home_11 : decode cX11_home 11 = .ok (.sipush 1000, 3) := by decide +kernel
theorem dX11_home_14 : decode cX11_home 14 = .ok (.invokestatic 82, 3) := by decide +kernel
theorem dX11_home_17 : decode cX11_home 17 = .ok (.ifCond .eq 16, 3) := by decide +kernel
theorem dX11_home_20 : decode cX11_home 20 = .ok (.iload_n 3, 1) := by decide +kernel
theorem dX11_home_21 : decode cX11_home 21 = .ok (.bipush 10, 2) := by decide +kernel
theorem dX11_home_23 : decode cX11_home 23 = .ok (.invokestatic 82, 3) := by decide +kernel
theorem dX11_home_26 : decode cX11_home 26 = .ok (.ifCond .eq 7, 3) := by decide +kernel
theorem dX11_home_29 : decode cX11_home 29 = .ok (.iconst 1, 1) := by decide +kernel
theorem dX11_home_30 : decode cX11_home 30 = .ok (.goto 4, 3) := by decide +kernel
theorem dX11_home_33 : decode cX11_home 33 = .ok (.iconst 0, 1) := by decide +kernel
theorem dX11_home_34 : decode cX11_home 34 = .ok (.istore 4, 2) := by decide +kernel
theorem dX11_home_36 : decode cX11_home 36 = .ok (.iload 4, 2) := by decide +kernel
theorem dX11_home_38 : decode cX11_home 38 = .ok (.ifCond .ne 5, 3) := by decide +kernel
theorem dX11_home_41 : decode cX11_home 41 = .ok (.iconst (-1), 1) := by decide +kernel
theorem dX11_home_42 : decode cX11_home 42 = .ok (.ireturn, 1) := by decide +kernel
theorem dX11_home_43 : decode cX11_home 43 = .ok (.aload_n 0, 1) := by decide +kernel
theorem dX11_home_44 : decode cX11_home 44 = .ok (.getfield 86, 3) := by decide +kernel
theorem dX11_home_47 : decode cX11_home 47 = .ok (.bipush 40, 2) := by decide +kernel
theorem dX11_home_49 : decode cX11_home 49 = .ok (.if_icmp .lt 6, 3) := by decide +kernel
theorem dX11_home_52 : decode cX11_home 52 = .ok (.bipush (-2), 2) := by decide +kernel
theorem dX11_home_54 : decode cX11_home 54 = .ok (.ireturn, 1) := by decide +kernel
theorem dX11_home_55 : decode cX11_home 55 = .ok (.aload_n 0, 1) := by decide +kernel
theorem dX11_home_56 : decode cX11_home 56 = .ok (.getfield 11, 3) := by decide +kernel
theorem dX11_home_59 : decode cX11_home 59 = .ok (.aload_n 0, 1) := by decide +kernel
theorem dX11_home_60 : decode cX11_home 60 = .ok (.getfield 86, 3) := by decide +kernel
theorem dX11_home_63 : decode cX11_home 63 = .ok (.new 9, 3) := by decide +kernel
theorem dX11_home_66 : decode cX11_home 66 = .ok (.dup, 1) := by decide +kernel
theorem dX11_home_67 : decode cX11_home 67 = .ok (.iload_n 1, 1) := by decide +kernel
theorem dX11_home_68 : decode cX11_home 68 = .ok (.bipush 100, 2) := by decide +kernel
theorem dX11_home_70 : decode cX11_home 70 = .ok (.idiv, 1) := by decide +kernel
theorem dX11_home_71 : decode cX11_home 71 = .ok (.iload_n 1, 1) := by decide +kernel
theorem dX11_home_72 : decode cX11_home 72 = .ok (.bipush 100, 2) := by decide +kernel
theorem dX11_home_74 : decode cX11_home 74 = .ok (.irem, 1) := by decide +kernel
theorem dX11_home_75 : decode cX11_home 75 = .ok (.iload_n 2, 1) := by decide +kernel
theorem dX11_home_76 : decode cX11_home 76 = .ok (.iload_n 3, 1) := by decide +kernel
theorem dX11_home_77 : decode cX11_home 77 = .ok (.invokespecial 89, 3) := by decide +kernel
theorem dX11_home_80 : decode cX11_home 80 = .ok (.aastore, 1) := by decide +kernel
theorem dX11_home_81 : decode cX11_home 81 = .ok (.aload_n 0, 1) := by decide +kernel
theorem dX11_home_82 : decode cX11_home 82 = .ok (.dup, 1) := by decide +kernel
theorem dX11_home_83 : decode cX11_home 83 = .ok (.getfield 86, 3) := by decide +kernel
theorem dX11_home_86 : decode cX11_home 86 = .ok (.iconst 1, 1) := by decide +kernel
theorem dX11_home_87 : decode cX11_home 87 = .ok (.iadd, 1) := by decide +kernel
theorem dX11_home_88 : decode cX11_home 88 = .ok (.putfield 86, 3) := by decide +kernel
theorem dX11_home_91 : decode cX11_home 91 = .ok (.aload_n 0, 1) := by decide +kernel
theorem dX11_home_92 : decode cX11_home 92 = .ok (.getfield 86, 3) := by decide +kernel
theorem dX11_home_95 : decode cX11_home 95 = .ok (.iconst 1, 1) := by decide +kernel
theorem dX11_home_96 : decode cX11_home 96 = .ok (.isub, 1) := by decide +kernel
theorem dX11_home_97 : decode cX11_home 97 = .ok (.ireturn, 1) := by decide +kernel
theorem dX11_key_0 : decode cX11_key 0 = .ok (.aload_n 0, 1) := by decide +kernel
theorem dX11_key_1 : decode cX11_key 1 = .ok (.iload_n 1, 1) := by decide +kernel
theorem dX11_key_2 : decode cX11_key 2 = .ok (.invokevirtual 92, 3) := by decide +kernel
theorem dX11_key_5 : decode cX11_key 5 = .ok (.astore_n 3, 1) := by decide +kernel
theorem dX11_key_6 : decode cX11_key 6 = .ok (.aload_n 3, 1) := by decide +kernel
theorem dX11_key_7 : decode cX11_key 7 = .ok (.ifnull 12, 3) := by decide +kernel
theorem dX11_key_10 : decode cX11_key 10 = .ok (.iload_n 2, 1) := by decide +kernel
theorem dX11_key_11 : decode cX11_key 11 = .ok (.ldc 96, 2) := by decide +kernel
theorem dX11_key_13 : decode cX11_key 13 = .ok (.invokestatic 82, 3) := by decide +kernel
theorem dX11_key_16 : decode cX11_key 16 = .ok (.ifCond .ne 5, 3) := by decide +kernel
theorem dX11_key_19 : decode cX11_key 19 = .ok (.iconst (-1), 1) := by decide +kernel
theorem dX11_key_20 : decode cX11_key 20 = .ok (.ireturn, 1) := by decide +kernel
theorem dX11_key_21 : decode cX11_key 21 = .ok (.aload_n 3, 1) := by decide +kernel
theorem dX11_key_22 : decode cX11_key 22 = .ok (.invokevirtual 97, 3) := by decide +kernel
theorem dX11_key_25 : decode cX11_key 25 = .ok (.ifCond .eq 6, 3) := by decide +kernel
theorem dX11_key_28 : decode cX11_key 28 = .ok (.bipush (-3), 2) := by decide +kernel
theorem dX11_key_30 : decode cX11_key 30 = .ok (.ireturn, 1) := by decide +kernel
theorem dX11_key_31 : decode cX11_key 31 = .ok (.aload_n 3, 1) := by decide +kernel
theorem dX11_key_32 : decode cX11_key 32 = .ok (.aload_n 0, 1) := by decide +kernel
theorem dX11_key_33 : decode cX11_key 33 = .ok (.getfield 79, 3) := by decide +kernel
theorem dX11_key_36 : decode cX11_key 36 = .ok (.putfield 101, 3) := by decide +kernel
theorem dX11_key_39 : decode cX11_key 39 = .ok (.aload_n 3, 1) := by decide +kernel
theorem dX11_key_40 : decode cX11_key 40 = .ok (.iload_n 2, 1) := by decide +kernel
theorem dX11_key_41 : decode cX11_key 41 = .ok (.putfield 104, 3) := by decide +kernel
theorem dX11_key_44 : decode cX11_key 44 = .ok (.iconst 1, 1) := by decide +kernel
theorem dX11_key_45 : decode cX11_key 45 = .ok (.ireturn, 1) := by decide +kernel
theorem dX11_sell_0 : decode cX11_sell 0 = .ok (.aload_n 0, 1) := by decide +kernel
theorem dX11_sell_1 : decode cX11_sell 1 = .ok (.iload_n 1, 1) := by decide +kernel
theorem dX11_sell_2 : decode cX11_sell 2 = .ok (.invokevirtual 92, 3) := by decide +kernel
theorem dX11_sell_5 : decode cX11_sell 5 = .ok (.astore_n 2, 1) := by decide +kernel
theorem dX11_sell_6 : decode cX11_sell 6 = .ok (.aload_n 2, 1) := by decide +kernel
theorem dX11_sell_7 : decode cX11_sell 7 = .ok (.ifnonnull 5, 3) := by decide +kernel
theorem dX11_sell_10 : decode cX11_sell 10 = .ok (.iconst (-1), 1) := by decide +kernel
theorem dX11_sell_11 : decode cX11_sell 11 = .ok (.ireturn, 1) := by decide +kernel
theorem dX11_sell_12 : decode cX11_sell 12 = .ok (.aload_n 2, 1) := by decide +kernel
theorem dX11_sell_13 : decode cX11_sell 13 = .ok (.invokevirtual 97, 3) := by decide +kernel
theorem dX11_sell_16 : decode cX11_sell 16 = .ok (.ifCond .ne 6, 3) := by decide +kernel
theorem dX11_sell_19 : decode cX11_sell 19 = .ok (.bipush (-3), 2) := by decide +kernel
theorem dX11_sell_21 : decode cX11_sell 21 = .ok (.ireturn, 1) := by decide +kernel
theorem dX11_sell_22 : decode cX11_sell 22 = .ok (.aload_n 2, 1) := by decide +kernel
theorem dX11_sell_23 : decode cX11_sell 23 = .ok (.aload_n 0, 1) := by decide +kernel
theorem dX11_sell_24 : decode cX11_sell 24 = .ok (.getfield 79, 3) := by decide +kernel
theorem dX11_sell_27 : decode cX11_sell 27 = .ok (.invokevirtual 107, 3) := by decide +kernel
theorem dX11_sell_30 : decode cX11_sell 30 = .ok (.ifCond .eq 10, 3) := by decide +kernel
theorem dX11_sell_33 : decode cX11_sell 33 = .ok (.aload_n 2, 1) := by decide +kernel
theorem dX11_sell_34 : decode cX11_sell 34 = .ok (.getfield 111, 3) := by decide +kernel
theorem dX11_sell_37 : decode cX11_sell 37 = .ok (.goto 5, 3) := by decide +kernel
theorem dX11_sell_40 : decode cX11_sell 40 = .ok (.bipush (-2), 2) := by decide +kernel
theorem dX11_sell_42 : decode cX11_sell 42 = .ok (.ireturn, 1) := by decide +kernel
theorem dX11_in_0 : decode cX11_in 0 = .ok (.aload_n 0, 1) := by decide +kernel
theorem dX11_in_1 : decode cX11_in 1 = .ok (.iload_n 1, 1) := by decide +kernel
theorem dX11_in_2 : decode cX11_in 2 = .ok (.invokevirtual 92, 3) := by decide +kernel
theorem dX11_in_5 : decode cX11_in 5 = .ok (.astore_n 3, 1) := by decide +kernel
theorem dX11_in_6 : decode cX11_in 6 = .ok (.aload_n 3, 1) := by decide +kernel
theorem dX11_in_7 : decode cX11_in 7 = .ok (.ifnull 13, 3) := by decide +kernel
theorem dX11_in_10 : decode cX11_in 10 = .ok (.iload_n 2, 1) := by decide +kernel
theorem dX11_in_11 : decode cX11_in 11 = .ok (.sipush 128, 3) := by decide +kernel
theorem dX11_in_14 : decode cX11_in 14 = .ok (.invokestatic 82, 3) := by decide +kernel
theorem dX11_in_17 : decode cX11_in 17 = .ok (.ifCond .ne 5, 3) := by decide +kernel
theorem dX11_in_20 : decode cX11_in 20 = .ok (.iconst (-1), 1) := by decide +kernel
theorem dX11_in_21 : decode cX11_in 21 = .ok (.ireturn, 1) := by decide +kernel
theorem dX11_in_22 : decode cX11_in 22 = .ok (.aload_n 3, 1) := by decide +kernel
theorem dX11_in_23 : decode cX11_in 23 = .ok (.getfield 114, 3) := by decide +kernel
theorem dX11_in_26 : decode cX11_in 26 = .ok (.istore 4, 2) := by decide +kernel
theorem dX11_in_28 : decode cX11_in 28 = .ok (.aload_n 3, 1) := by decide +kernel
theorem dX11_in_29 : decode cX11_in 29 = .ok (.iload_n 2, 1) := by decide +kernel
theorem dX11_in_30 : decode cX11_in 30 = .ok (.putfield 114, 3) := by decide +kernel
theorem dX11_in_33 : decode cX11_in 33 = .ok (.iload 4, 2) := by decide +kernel
theorem dX11_in_35 : decode cX11_in 35 = .ok (.ireturn, 1) := by decide +kernel
theorem dX11_crew_0 : decode cX11_crew 0 = .ok (.aload_n 0, 1) := by decide +kernel
theorem dX11_crew_1 : decode cX11_crew 1 = .ok (.iload_n 1, 1) := by decide +kernel
theorem dX11_crew_2 : decode cX11_crew 2 = .ok (.invokevirtual 92, 3) := by decide +kernel
theorem dX11_crew_5 : decode cX11_crew 5 = .ok (.astore 4, 2) := by decide +kernel
theorem dX11_crew_7 : decode cX11_crew 7 = .ok (.aload 4, 2) := by decide +kernel
theorem dX11_crew_9 : decode cX11_crew 9 = .ok (.ifnull 26, 3) := by decide +kernel
theorem dX11_crew_12 : decode cX11_crew 12 = .ok (.iload_n 2, 1) := by decide +kernel
theorem dX11_crew_13 : decode cX11_crew 13 = .ok (.bipush 10, 2) := by decide +kernel
theorem dX11_crew_15 : decode cX11_crew 15 = .ok (.invokestatic 82, 3) := by decide +kernel
theorem dX11_crew_18 : decode cX11_crew 18 = .ok (.ifCond .eq 17, 3) := by decide +kernel
theorem dX11_crew_21 : decode cX11_crew 21 = .ok (.iload_n 3, 1) := by decide +kernel
theorem dX11_crew_22 : decode cX11_crew 22 = .ok (.iconst (-1), 1) := by decide +kernel
theorem dX11_crew_23 : decode cX11_crew 23 = .ok (.if_icmp .eq 15, 3) := by decide +kernel
theorem dX11_crew_26 : decode cX11_crew 26 = .ok (.iload_n 3, 1) := by decide +kernel
theorem dX11_crew_27 : decode cX11_crew 27 = .ok (.bipush 10, 2) := by decide +kernel
theorem dX11_crew_29 : decode cX11_crew 29 = .ok (.invokestatic 82, 3) := by decide +kernel
theorem dX11_crew_32 : decode cX11_crew 32 = .ok (.ifCond .ne 6, 3) := by decide +kernel
theorem dX11_crew_35 : decode cX11_crew 35 = .ok (.ldc 117, 2) := by decide +kernel
theorem dX11_crew_37 : decode cX11_crew 37 = .ok (.ireturn, 1) := by decide +kernel
theorem dX11_crew_38 : decode cX11_crew 38 = .ok (.aload 4, 2) := by decide +kernel
theorem dX11_crew_40 : decode cX11_crew 40 = .ok (.iload_n 2, 1) := by decide +kernel
theorem dX11_crew_41 : decode cX11_crew 41 = .ok (.invokevirtual 118, 3) := by decide +kernel
theorem dX11_crew_44 : decode cX11_crew 44 = .ok (.istore 5, 2) := by decide +kernel
theorem dX11_crew_46 : decode cX11_crew 46 = .ok (.aload 4, 2) := by decide +kernel
theorem dX11_crew_48 : decode cX11_crew 48 = .ok (.getfield 122, 3) := by decide +kernel
theorem dX11_crew_51 : decode cX11_crew 51 = .ok (.iload_n 2, 1) := by decide +kernel
theorem dX11_crew_52 : decode cX11_crew 52 = .ok (.iload_n 3, 1) := by decide +kernel
theorem dX11_crew_53 : decode cX11_crew 53 = .ok (.iastore, 1) := by decide +kernel
theorem dX11_crew_54 : decode cX11_crew 54 = .ok (.iload 5, 2) := by decide +kernel
theorem dX11_crew_56 : decode cX11_crew 56 = .ok (.ireturn, 1) := by decide +kernel
theorem dX11_ofHome_0 : decode cX11_ofHome 0 = .ok (.aload_n 0, 1) := by decide +kernel
theorem dX11_ofHome_1 : decode cX11_ofHome 1 = .ok (.iload_n 1, 1) := by decide +kernel
theorem dX11_ofHome_2 : decode cX11_ofHome 2 = .ok (.invokevirtual 92, 3) := by decide +kernel
theorem dX11_ofHome_5 : decode cX11_ofHome 5 = .ok (.astore_n 3, 1) := by decide +kernel
theorem dX11_ofHome_6 : decode cX11_ofHome 6 = .ok (.aload_n 3, 1) := by decide +kernel
